theorem d_Bench_init_0 : decode c_Bench_init 0 = .ok (.aload_n 0, 1) := by decide +kernel
theorem d_Bench_init_1 : decode c_Bench_init 1 = .ok (.invokespecial 1, 3) := by decide +kernel
theorem d_Bench_init_4 : decode c_Bench_init 4 = .ok (.aload_n 0, 1) := by decide +kernel
theorem d_Bench_init_5 : decode c_Bench_init 5 = .ok (.new 7, 3) := by decide +kernel
theorem d_Bench_init_8 : decode c_Bench_init 8 = .ok (.dup, 1) := by decide +kernel
theorem d_Bench_init_9 : decode c_Bench_init 9 = .ok (.invokespecial 9, 3) := by decide +kernel
theorem d_Bench_init_12 : decode c_Bench_init 12 = .ok (.putfield 10, 3) := by decide +kernel
theorem d_Bench_init_15 : decode c_Bench_init 15 = .ok (.aload_n 0, 1) := by decide +kernel
theorem d_Bench_init_16 : decode c_Bench_init 16 = .ok (.iconst 0, 1) := by decide +kernel
theorem d_Bench_init_17 : decode c_Bench_init 17 = .ok (.putfield 16, 3) := by decide +kernel
theorem d_Bench_init_20 : decode c_Bench_init 20 = .ok (.aload_n 0, 1) := by decide +kernel
theorem d_Bench_init_21 : decode c_Bench_init 21 = .ok (.iconst 0, 1) := by decide +kernel
theorem d_Bench_init_22 : decode c_Bench_init 22 = .ok (.putfield 20, 3) := by decide +kernel
theorem d_Bench_init_25 : decode c_Bench_init 25 = .ok (.aload_n 0, 1) := by decide +kernel
theorem d_Bench_init_26 : decode c_Bench_init 26 = .ok (.iconst 0, 1) := by decide +kernel
theorem d_Bench_init_27 : decode c_Bench_init 27 = .ok (.putfield 23, 3) := by decide +kernel
theorem d_Bench_init_30 : decode c_Bench_init 30 = .ok (.aload_n 0, 1) := by decide +kernel
theorem d_Bench_init_31 : decode c_Bench_init 31 = .ok (.iconst 0, 1) := by decide +kernel
theorem d_Bench_init_32 : decode c_Bench_init 32 = .ok (.putfield 27, 3) := by decide +kernel
theorem d_Bench_init_35 : decode c_Bench_init 35 = .ok (.aload_n 0, 1) := by decide +kernel
theorem d_Bench_init_36 : decode c_Bench_init 36 = .ok (.lconst 0, 1) := by decide +kernel
theorem d_Bench_init_37 : decode c_Bench_init 37 = .ok (.putfield 30, 3) := by decide +kernel
theorem d_Bench_init_40 : decode c_Bench_init 40 = .ok (.aload_n 0, 1) := by decide +kernel
theorem d_Bench_init_41 : decode c_Bench_init 41 = .ok (.iconst 0, 1) := by decide +kernel
theorem d_Bench_init_42 : decode c_Bench_init 42 = .ok (.putfield 34, 3) := by decide +kernel
theorem d_Bench_init_45 : decode c_Bench_init 45 = .ok (.aload_n 0, 1) := by decide +kernel
theorem d_Bench_init_46 : decode c_Bench_init 46 = .ok (.new 37, 3) := by decide +kernel
theorem d_Bench_init_49 : decode c_Bench_init 49 = .ok (.dup, 1) := by decide +kernel
theorem d_Bench_init_50 : decode c_Bench_init 50 = .ok (.bipush 20, 2) := by decide +kernel
theorem d_Bench_init_52 : decode c_Bench_init 52 = .ok (.sipush 300, 3) := by decide +kernel
theorem d_Bench_init_55 : decode c_Bench_init 55 = .ok (.iload_n 1, 1) := by decide +kernel
theorem d_Bench_init_56 : decode c_Bench_init 56 = .ok (.invokestatic 39, 3) := by decide +kernel
theorem d_Bench_init_59 : decode c_Bench_init 59 = .ok (.invokestatic 45, 3) := by decide +kernel
theorem d_Bench_init_62 : decode c_Bench_init 62 = .ok (.invokespecial 48, 3) := by decide +kernel
theorem d_Bench_init_65 : decode c_Bench_init 65 = .ok (.putfield 51, 3) := by decide +kernel
theorem d_Bench_init_68 : decode c_Bench_init 68 = .ok (.return_, 1) := by decide +kernel
theorem d_Bench_write_0 : decode c_Bench_write 0 = .ok (.iload_n 1, 1) := by decide +kernel
theorem d_Bench_write_1 : decode c_Bench_write 1 = .ok (.invokestatic 55, 3) := by decide +kernel
theorem d_Bench_write_4 : decode c_Bench_write 4 = .ok (.ifCond .ne 5, 3) := by decide +kernel
theorem d_Bench_write_7 : decode c_Bench_write 7 = .ok (.iconst (-1), 1) := by decide +kernel
theorem d_Bench_write_8 : decode c_Bench_write 8 = .ok (.ireturn, 1) := by decide +kernel
theorem d_Bench_write_9 : decode c_Bench_write 9 = .ok (.aload_n 0, 1) := by decide +kernel
theorem d_Bench_write_10 : decode c_Bench_write 10 = .ok (.getfield 10, 3) := by decide +kernel
theorem d_Bench_write_13 : decode c_Bench_write 13 = .ok (.getfield 59, 3) := by decide +kernel
theorem d_Bench_write_16 : decode c_Bench_write 16 = .ok (.invokevirtual 63, 3) := by decide +kernel
theorem d_Bench_write_19 : decode c_Bench_write 19 = .ok (.ifCond .eq 8, 3) := by decide +kernel
theorem d_Bench_write_22 : decode c_Bench_write 22 = .ok (.bipush (-2), 2) := by decide +kernel
theorem d_Bench_write_24 : decode c_Bench_write 24 = .ok (.goto 14, 3) := by decide +kernel
theorem d_Bench_write_27 : decode c_Bench_write 27 = .ok (.aload_n 0, 1) := by decide +kernel
theorem d_Bench_write_28 : decode c_Bench_write 28 = .ok (.getfield 10, 3) := by decide +kernel
theorem d_Bench_write_31 : decode c_Bench_write 31 = .ok (.getfield 59, 3) := by decide +kernel
theorem d_Bench_write_34 : decode c_Bench_write 34 = .ok (.iload_n 1, 1) := by decide +kernel
theorem d_Bench_write_35 : decode c_Bench_write 35 = .ok (.invokevirtual 69, 3) := by decide +kernel
theorem d_Bench_write_38 : decode c_Bench_write 38 = .ok (.ireturn, 1) := by decide +kernel
theorem d_Bench_compile_0 : decode c_Bench_compile 0 = .ok (.aload_n 0, 1) := by decide +kernel
theorem d_Bench_compile_1 : decode c_Bench_compile 1 = .ok (.getfield 10, 3) := by decide +kernel
theorem d_Bench_compile_4 : decode c_Bench_compile 4 = .ok (.invokevirtual 73, 3) := by decide +kernel
theorem d_Bench_compile_7 : decode c_Bench_compile 7 = .ok (.istore_n 1, 1) := by decide +kernel
theorem d_Bench_compile_8 : decode c_Bench_compile 8 = .ok (.aload_n 0, 1) := by decide +kernel
theorem d_Bench_compile_9 : decode c_Bench_compile 9 = .ok (.getfield 10, 3) := by decide +kernel
theorem d_Bench_compile_12 : decode c_Bench_compile 12 = .ok (.getfield 59, 3) := by decide +kernel
theorem d_Bench_compile_15 : decode c_Bench_compile 15 = .ok (.iconst 0, 1) := by decide +kernel
theorem d_Bench_compile_16 : decode c_Bench_compile 16 = .ok (.putfield 76, 3) := by decide +kernel
theorem d_Bench_compile_19 : decode c_Bench_compile 19 = .ok (.iload_n 1, 1) := by decide +kernel
theorem d_Bench_compile_20 : decode c_Bench_compile 20 = .ok (.ifCond .ne 6, 3) := by decide +kernel
theorem d_Bench_compile_23 : decode c_Bench_compile 23 = .ok (.bipush (-3), 2) := by decide +kernel
theorem d_Bench_compile_25 : decode c_Bench_compile 25 = .ok (.ireturn, 1) := by decide +kernel
theorem d_Bench_compile_26 : decode c_Bench_compile 26 = .ok (.aload_n 0, 1) := by decide +kernel
theorem d_Bench_compile_27 : decode c_Bench_compile 27 = .ok (.getfield 10, 3) := by decide +kernel
theorem d_Bench_compile_30 : decode c_Bench_compile 30 = .ok (.getfield 79, 3) := by decide +kernel
theorem d_Bench_compile_33 : decode c_Bench_compile 33 = .ok (.getfield 83, 3) := by decide +kernel
theorem d_Bench_compile_36 : decode c_Bench_compile 36 = .ok (.bipush 60, 2) := by decide +kernel
theorem d_Bench_compile_38 : decode c_Bench_compile 38 = .ok (.if_icmp .le 6, 3) := by decide +kernel
theorem d_Bench_compile_41 : decode c_Bench_compile 41 = .ok (.bipush (-2), 2) := by decide +kernel
theorem d_Bench_compile_43 : decode c_Bench_compile 43 = .ok (.ireturn, 1) := by decide +kernel
theorem d_Bench_compile_44 : decode c_Bench_compile 44 = .ok (.aload_n 0, 1) := by decide +kernel
theorem d_Bench_compile_45 : decode c_Bench_compile 45 = .ok (.getfield 10, 3) := by decide +kernel
theorem d_Bench_compile_48 : decode c_Bench_compile 48 = .ok (.getfield 79, 3) := by decide +kernel
theorem d_Bench_compile_51 : decode c_Bench_compile 51 = .ok (.astore_n 2, 1) := by decide +kernel
theorem d_Bench_compile_52 : decode c_Bench_compile 52 = .ok (.aload_n 0, 1) := by decide +kernel
theorem d_Bench_compile_53 : decode c_Bench_compile 53 = .ok (.getfield 10, 3) := by decide +kernel
theorem d_Bench_compile_56 : decode c_Bench_compile 56 = .ok (.aload_n 0, 1) := by decide +kernel
theorem d_Bench_compile_57 : decode c_Bench_compile 57 = .ok (.getfield 51, 3) := by decide +kernel
theorem d_Bench_compile_60 : decode c_Bench_compile 60 = .ok (.getfield 88, 3) := by decide +kernel
theorem d_Bench_compile_63 : decode c_Bench_compile 63 = .ok (.putfield 79, 3) := by decide +kernel
theorem d_Bench_compile_66 : decode c_Bench_compile 66 = .ok (.aload_n 0, 1) := by decide +kernel
theorem d_Bench_compile_67 : decode c_Bench_compile 67 = .ok (.getfield 51, 3) := by decide +kernel
theorem d_Bench_compile_70 : decode c_Bench_compile 70 = .ok (.aload_n 2, 1) := by decide +kernel
theorem d_Bench_compile_71 : decode c_Bench_compile 71 = .ok (.putfield 88, 3) := by decide +kernel
theorem d_Bench_compile_74 : decode c_Bench_compile 74 = .ok (.aload_n 0, 1) := by decide +kernel
theorem d_Bench_compile_75 : decode c_Bench_compile 75 = .ok (.iconst 1, 1) := by decide +kernel
theorem d_Bench_compile_76 : decode c_Bench_compile 76 = .ok (.putfield 16, 3) := by decide +kernel
theorem d_Bench_compile_79 : decode c_Bench_compile 79 = .ok (.aload_n 0, 1) := by decide +kernel
theorem d_Bench_compile_80 : decode c_Bench_compile 80 = .ok (.iconst 0, 1) := by decide +kernel
theorem d_Bench_compile_81 : decode c_Bench_compile 81 = .ok (.putfield 20, 3) := by decide +kernel
theorem d_Bench_compile_84 : decode c_Bench_compile 84 = .ok (.aload_n 2, 1) := by decide +kernel
theorem d_Bench_compile_85 : decode c_Bench_compile 85 = .ok (.getfield 89, 3) := by decide +kernel
theorem d_Bench_compile_88 : decode c_Bench_compile 88 = .ok (.ireturn, 1) := by decide +kernel
theorem d_Bench_feed_0 : decode c_Bench_feed 0 = .ok (.iload_n 1, 1) := by decide +kernel
theorem d_Bench_feed_1 : decode c_Bench_feed 1 = .ok (.invokestatic 92, 3) := by decide +kernel
theorem d_Bench_feed_4 : decode c_Bench_feed 4 = .ok (.ifCond .ne 5, 3) := by decide +kernel
theorem d_Bench_feed_7 : decode c_Bench_feed 7 = .ok (.iconst (-1), 1) := by decide +kernel
theorem d_Bench_feed_8 : decode c_Bench_feed 8 = .ok (.ireturn, 1) := by decide +kernel
theorem d_Bench_feed_9 : decode c_Bench_feed 9 = .ok (.aload_n 0, 1) := by decide +kernel
theorem d_Bench_feed_10 : decode c_Bench_feed 10 = .ok (.getfield 51, 3) := by decide +kernel
theorem d_Bench_feed_13 : decode c_Bench_feed 13 = .ok (.getfield 95, 3) := by decide +kernel
theorem d_Bench_feed_16 : decode c_Bench_feed 16 = .ok (.invokevirtual 63, 3) := by decide +kernel
theorem d_Bench_feed_19 : decode c_Bench_feed 19 = .ok (.ifCond .eq 6, 3) := by decide +kernel
theorem d_Bench_feed_22 : decode c_Bench_feed 22 = .ok (.bipush (-2), 2) := by decide +kernel
theorem d_Bench_feed_24 : decode c_Bench_feed 24 = .ok (.ireturn, 1) := by decide +kernel
theorem d_Bench_feed_25 : decode c_Bench_feed 25 = .ok (.aload_n 0, 1) := by decide +kernel
theorem d_Bench_feed_26 : decode c_Bench_feed 26 = .ok (.iconst 0, 1) := by decide +kernel
theorem d_Bench_feed_27 : decode c_Bench_feed 27 = .ok (.putfield 20, 3) := by decide +kernel
theorem d_Bench_feed_30 : decode c_Bench_feed 30 = .ok (.aload_n 0, 1) := by decide +kernel
theorem d_Bench_feed_31 : decode c_Bench_feed 31 = .ok (.getfield 51, 3) := by decide +kernel
theorem d_Bench_feed_34 : decode c_Bench_feed 34 = .ok (.getfield 95, 3) := by decide +kernel
theorem d_Bench_feed_37 : decode c_Bench_feed 37 = .ok (.iload_n 1, 1) := by decide +kernel
theorem d_Bench_feed_38 : decode c_Bench_feed 38 = .ok (.invokevirtual 69, 3) := by decide +kernel
theorem d_Bench_feed_41 : decode c_Bench_feed 41 = .ok (.ireturn, 1) := by decide +kernel
theorem d_Bench_clear_0 : decode c_Bench_clear 0 = .ok (.aload_n 0, 1) := by decide +kernel
theorem d_Bench_clear_1 : decode c_Bench_clear 1 = .ok (.getfield 51, 3) := by decide +kernel
theorem d_Bench_clear_4 : decode c_Bench_clear 4 = .ok (.getfield 95, 3) := by decide +kernel
theorem d_Bench_clear_7 : decode c_Bench_clear 7 = .ok (.getfield 76, 3) := by decide +kernel
theorem d_Bench_clear_10 : decode c_Bench_clear 10 = .ok (.istore_n 1, 1) := by decide +kernel
theorem d_Bench_clear_11 : decode c_Bench_clear 11 = .ok (.aload_n 0, 1) := by decide +kernel
theorem d_Bench_clear_12 : decode c_Bench_clear 12 = .ok (.getfield 51, 3) := by decide +kernel
theorem d_Bench_clear_15 : decode c_Bench_clear 15 = .ok (.getfield 95, 3) := by decide +kernel
theorem d_Bench_clear_18 : decode c_Bench_clear 18 = .ok (.iconst 0, 1) := by decide +kernel
theorem d_Bench_clear_19 : decode c_Bench_clear 19 = .ok (.putfield 76, 3) := by decide +kernel
theorem d_Bench_clear_22 : decode c_Bench_clear 22 = .ok (.aload_n 0, 1) := by decide +kernel
theorem d_Bench_clear_23 : decode c_Bench_clear 23 = .ok (.iconst 0, 1) := by decide +kernel
theorem d_Bench_clear_24 : decode c_Bench_clear 24 = .ok (.putfield 20, 3) := by decide +kernel
theorem d_Bench_clear_27 : decode c_Bench_clear 27 = .ok (.iload_n 1, 1) := by decide +kernel
theorem d_Bench_clear_28 : decode c_Bench_clear 28 = .ok (.ireturn, 1) := by decide +kernel
theorem d_Bench_search_0 : decode c_Bench_search 0 = .ok (.iload_n 1, 1) := by decide +kernel
theorem d_Bench_search_1 : decode c_Bench_search 1 = .ok (.ifCond .lt 24, 3) := by decide +kernel
theorem d_Bench_search_4 : decode c_Bench_search 4 = .ok (.iload_n 1, 1) := by decide +kernel
theorem d_Bench_search_5 : decode c_Bench_search 5 = .ok (.aload_n 0, 1) := by decide +kernel
theorem d_Bench_search_6 : decode c_Bench_search 6 = .ok (.getfield 51, 3) := by decide +kernel
theorem d_Bench_search_9 : decode c_Bench_search 9 = .ok (.getfield 95, 3) := by decide +kernel
theorem d_Bench_search_12 : decode c_Bench_search 12 = .ok (.getfield 76, 3) := by decide +kernel
theorem d_Bench_search_15 : decode c_Bench_search 15 = .ok (.if_icmp .gt 10, 3) := by decide +kernel
theorem d_Bench_search_18 : decode c_Bench_search 18 = .ok (.aload_n 0, 1) := by decide +kernel
theorem d_Bench_search_19 : decode c_Bench_search 19 = .ok (.getfield 16, 3) := by decide +kernel
theorem d_Bench_search_22 : decode c_Bench_search 22 = .ok (.ifCond .ne 5, 3) := by decide +kernel
theorem d_Bench_search_25 : decode c_Bench_search 25 = .ok (.iconst (-1), 1) := by decide +kernel
theorem d_Bench_search_26 : decode c_Bench_search 26 = .ok (.ireturn, 1) := by decide +kernel
theorem d_Bench_search_27 : decode c_Bench_search 27 = .ok (.aload_n 0, 1) := by decide +kernel
theorem d_Bench_search_28 : decode c_Bench_search 28 = .ok (.iload_n 1, 1) := by decide +kernel
theorem d_Bench_search_29 : decode c_Bench_search 29 = .ok (.invokevirtual 98, 3) := by decide +kernel
theorem d_Bench_search_32 : decode c_Bench_search 32 = .ok (.ireturn, 1) := by decide +kernel
theorem d_Bench_again_0 : decode c_Bench_again 0 = .ok (.aload_n 0, 1) := by decide +kernel
theorem d_Bench_again_1 : decode c_Bench_again 1 = .ok (.invokevirtual 101, 3) := by decide +kernel
theorem d_Bench_again_4 : decode c_Bench_again 4 = .ok (.istore_n 1, 1) := by decide +kernel
theorem d_Bench_again_5 : decode c_Bench_again 5 = .ok (.aload_n 0, 1) := by decide +kernel
theorem d_Bench_again_6 : decode c_Bench_again 6 = .ok (.getfield 20, 3) := by decide +kernel
theorem d_Bench_again_9 : decode c_Bench_again 9 = .ok (.ifCond .eq 17, 3) := by decide +kernel
theorem d_Bench_again_12 : decode c_Bench_again 12 = .ok (.iload_n 1, 1) := by decide +kernel
theorem d_Bench_again_13 : decode c_Bench_again 13 = .ok (.aload_n 0, 1) := by decide +kernel
theorem d_Bench_again_14 : decode c_Bench_again 14 = .ok (.getfield 51, 3) := by decide +kernel
theorem d_Bench_again_17 : decode c_Bench_again 17 = .ok (.getfield 95, 3) := by decide +kernel
theorem d_Bench_again_20 : decode c_Bench_again 20 = .ok (.getfield 76, 3) := by decide +kernel
theorem d_Bench_again_23 : decode c_Bench_again 23 = .ok (.if_icmp .le 16, 3) := by decide +kernel
theorem d_Bench_again_26 : decode c_Bench_again 26 = .ok (.aload_n 0, 1) := by decide +kernel
theorem d_Bench_again_27 : decode c_Bench_again 27 = .ok (.iconst 0, 1) := by decide +kernel
theorem d_Bench_again_28 : decode c_Bench_again 28 = .ok (.putfield 20, 3) := by decide +kernel
theorem d_Bench_again_31 : decode c_Bench_again 31 = .ok (.aload_n 0, 1) := by decide +kernel
theorem d_Bench_again_32 : decode c_Bench_again 32 = .ok (.iconst 0, 1) := by decide +kernel
theorem d_Bench_again_33 : decode c_Bench_again 33 = .ok (.putfield 34, 3) := by decide +kernel
theorem d_Bench_again_36 : decode c_Bench_again 36 = .ok (.bipush (-4), 2) := by decide +kernel
theorem d_Bench_again_38 : decode c_Bench_again 38 = .ok (.ireturn, 1) := by decide +kernel
theorem d_Bench_again_39 : decode c_Bench_again 39 = .ok (.aload_n 0, 1) := by decide +kernel
theorem d_Bench_again_40 : decode c_Bench_again 40 = .ok (.iload_n 1, 1) := by decide +kernel
theorem d_Bench_again_41 : decode c_Bench_again 41 = .ok (.invokevirtual 98, 3) := by decide +kernel
theorem d_Bench_again_44 : decode c_Bench_again 44 = .ok (.ireturn, 1) := by decide +kernel
theorem d_Bench_start_0 : decode c_Bench_start 0 = .ok (.iload_n 1, 1) := by decide +kernel
theorem d_Bench_start_1 : decode c_Bench_start 1 = .ok (.ifCond .lt 8, 3) := by decide +kernel
theorem d_Bench_start_4 : decode c_Bench_start 4 = .ok (.iload_n 1, 1) := by decide +kernel
theorem d_Bench_start_5 : decode c_Bench_start 5 = .ok (.iconst 4, 1) := by decide +kernel
theorem d_Bench_start_6 : decode c_Bench_start 6 = .ok (.if_icmp .le 5, 3) := by decide +kernel
theorem d_Bench_start_9 : decode c_Bench_start 9 = .ok (.iconst (-1), 1) := by decide +kernel
theorem d_Bench_start_10 : decode c_Bench_start 10 = .ok (.ireturn, 1) := by decide +kernel
theorem d_Bench_start_11 : decode c_Bench_start 11 = .ok (.aload_n 0, 1) := by decide +kernel
theorem d_Bench_start_12 : decode c_Bench_start 12 = .ok (.getfield 20, 3) := by decide +kernel
theorem d_Bench_start_15 : decode c_Bench_start 15 = .ok (.ifCond .ne 6, 3) := by decide +kernel
theorem d_Bench_start_18 : decode c_Bench_start 18 = .ok (.bipush (-6), 2) := by decide +kernel
theorem d_Bench_start_20 : decode c_Bench_start 20 = .ok (.ireturn, 1) := by decide +kernel
theorem d_Bench_start_21 : decode c_Bench_start 21 = .ok (.iload_n 1, 1) := by decide +kernel
theorem d_Bench_start_22 : decode c_Bench_start 22 = .ok (.ifCond .ne 10, 3) := by decide +kernel
theorem d_Bench_start_25 : decode c_Bench_start 25 = .ok (.aload_n 0, 1) := by decide +kernel
theorem d_Bench_start_26 : decode c_Bench_start 26 = .ok (.getfield 23, 3) := by decide +kernel
theorem d_Bench_start_29 : decode c_Bench_start 29 = .ok (.goto 11, 3) := by decide +kernel
theorem d_Bench_start_32 : decode c_Bench_start 32 = .ok (.aload_n 0, 1) := by decide +kernel
theorem d_Bench_start_33 : decode c_Bench_start 33 = .ok (.getfield 30, 3) := by decide +kernel
theorem d_Bench_start_36 : decode c_Bench_start 36 = .ok (.iload_n 1, 1) := by decide +kernel
theorem d_Bench_start_37 : decode c_Bench_start 37 = .ok (.invokestatic 105, 3) := by decide +kernel
theorem d_Bench_start_40 : decode c_Bench_start 40 = .ok (.ireturn, 1) := by decide +kernel
theorem d_Bench_end_0 : decode c_Bench_end 0 = .ok (.iload_n 1, 1) := by decide +kernel
theorem d_Bench_end_1 : decode c_Bench_end 1 = .ok (.ifCond .lt 8, 3) := by decide +kernel
theorem d_Bench_end_4 : decode c_Bench_end 4 = .ok (.iload_n 1, 1) := by decide +kernel
theorem d_Bench_end_5 : decode c_Bench_end 5 = .ok (.iconst 4, 1) := by decide +kernel
theorem d_Bench_end_6 : decode c_Bench_end 6 = .ok (.if_icmp .le 5, 3) := by decide +kernel
theorem d_Bench_end_9 : decode c_Bench_end 9 = .ok (.iconst (-1), 1) := by decide +kernel
theorem d_Bench_end_10 : decode c_Bench_end 10 = .ok (.ireturn, 1) := by decide +kernel
theorem d_Bench_end_11 : decode c_Bench_end 11 = .ok (.aload_n 0, 1) := by decide +kernel
theorem d_Bench_end_12 : decode c_Bench_end 12 = .ok (.getfield 20, 3) := by decide +kernel
theorem d_Bench_end_15 : decode c_Bench_end 15 = .ok (.ifCond .ne 6, 3) := by decide +kernel
theorem d_Bench_end_18 : decode c_Bench_end 18 = .ok (.bipush (-6), 2) := by decide +kernel
theorem d_Bench_end_20 : decode c_Bench_end 20 = .ok (.ireturn, 1) := by decide +kernel
theorem d_Bench_end_21 : decode c_Bench_end 21 = .ok (.iload_n 1, 1) := by decide +kernel
theorem d_Bench_end_22 : decode c_Bench_end 22 = .ok (.ifCond .ne 10, 3) := by decide +kernel
theorem d_Bench_end_25 : decode c_Bench_end 25 = .ok (.aload_n 0, 1) := by decide +kernel
theorem d_Bench_end_26 : decode c_Bench_end 26 = .ok (.getfield 27, 3) := by decide +kernel
theorem d_Bench_end_29 : decode c_Bench_end 29 = .ok (.goto 11, 3) := by decide +kernel
theorem d_Bench_end_32 : decode c_Bench_end 32 = .ok (.aload_n 0, 1) := by decide +kernel
theorem d_Bench_end_33 : decode c_Bench_end 33 = .ok (.getfield 30, 3) := by decide +kernel
theorem d_Bench_end_36 : decode c_Bench_end 36 = .ok (.iload_n 1, 1) := by decide +kernel
theorem d_Bench_end_37 : decode c_Bench_end 37 = .ok (.invokestatic 111, 3) := by decide +kernel
theorem d_Bench_end_40 : decode c_Bench_end 40 = .ok (.ireturn, 1) := by decide +kernel
theorem d_Bench_steps_0 : decode c_Bench_steps 0 = .ok (.aload_n 0, 1) := by decide +kernel
theorem d_Bench_steps_1 : decode c_Bench_steps 1 = .ok (.getfield 34, 3) := by decide +kernel
theorem d_Bench_steps_4 : decode c_Bench_steps 4 = .ok (.ireturn, 1) := by decide +kernel
theorem d_Bench_matches_0 : decode c_Bench_matches 0 = .ok (.aload_n 0, 1) := by decide +kernel
theorem d_Bench_matches_1 : decode c_Bench_matches 1 = .ok (.getfield 16, 3) := by decide +kernel
theorem d_Bench_matches_4 : decode c_Bench_matches 4 = .ok (.ifCond .ne 5, 3) := by decide +kernel
theorem d_Bench_matches_7 : decode c_Bench_matches 7 = .ok (.iconst (-1), 1) := by decide +kernel
theorem d_Bench_matches_8 : decode c_Bench_matches 8 = .ok (.ireturn, 1) := by decide +kernel
theorem d_Bench_matches_9 : decode c_Bench_matches 9 = .ok (.iconst 0, 1) := by decide +kernel
theorem d_Bench_matches_10 : decode c_Bench_matches 10 = .ok (.istore_n 1, 1) := by decide +kernel
theorem d_Bench_matches_11 : decode c_Bench_matches 11 = .ok (.iconst 0, 1) := by decide +kernel
theorem d_Bench_matches_12 : decode c_Bench_matches 12 = .ok (.istore_n 2, 1) := by decide +kernel
theorem d_Bench_matches_13 : decode c_Bench_matches 13 = .ok (.bipush (-4), 2) := by decide +kernel
theorem d_Bench_matches_15 : decode c_Bench_matches 15 = .ok (.istore_n 3, 1) := by decide +kernel
theorem d_Bench_matches_16 : decode c_Bench_matches 16 = .ok (.iconst 0, 1) := by decide +kernel
theorem d_Bench_matches_17 : decode c_Bench_matches 17 = .ok (.istore 4, 2) := by decide +kernel
theorem d_Bench_matches_19 : decode c_Bench_matches 19 = .ok (.iload 4, 2) := by decide +kernel
theorem d_Bench_matches_21 : decode c_Bench_matches 21 = .ok (.bipush 40, 2) := by decide +kernel
theorem d_Bench_matches_23 : decode c_Bench_matches 23 = .ok (.if_icmp .gt 44, 3) := by decide +kernel
theorem d_Bench_matches_26 : decode c_Bench_matches 26 = .ok (.iload_n 2, 1) := by decide +kernel
theorem d_Bench_matches_27 : decode c_Bench_matches 27 = .ok (.aload_n 0, 1) := by decide +kernel
theorem d_Bench_matches_28 : decode c_Bench_matches 28 = .ok (.getfield 51, 3) := by decide +kernel
theorem d_Bench_matches_31 : decode c_Bench_matches 31 = .ok (.getfield 95, 3) := by decide +kernel
theorem d_Bench_matches_34 : decode c_Bench_matches 34 = .ok (.getfield 76, 3) := by decide +kernel
theorem d_Bench_matches_37 : decode c_Bench_matches 37 = .ok (.if_icmp .gt 30, 3) := by decide +kernel
theorem d_Bench_matches_40 : decode c_Bench_matches 40 = .ok (.aload_n 0, 1) := by decide +kernel
theorem d_Bench_matches_41 : decode c_Bench_matches 41 = .ok (.iload_n 2, 1) := by decide +kernel
theorem d_Bench_matches_42 : decode c_Bench_matches 42 = .ok (.invokevirtual 98, 3) := by decide +kernel
theorem d_Bench_matches_45 : decode c_Bench_matches 45 = .ok (.istore_n 3, 1) := by decide +kernel
theorem d_Bench_matches_46 : decode c_Bench_matches 46 = .ok (.iload_n 3, 1) := by decide +kernel
theorem d_Bench_matches_47 : decode c_Bench_matches 47 = .ok (.ifCond .ge 6, 3) := by decide +kernel
theorem d_Bench_matches_50 : decode c_Bench_matches 50 = .ok (.goto 17, 3) := by decide +kernel
theorem d_Bench_matches_53 : decode c_Bench_matches 53 = .ok (.iinc 1 1, 3) := by decide +kernel
theorem d_Bench_matches_56 : decode c_Bench_matches 56 = .ok (.aload_n 0, 1) := by decide +kernel
theorem d_Bench_matches_57 : decode c_Bench_matches 57 = .ok (.invokevirtual 101, 3) := by decide +kernel
theorem d_Bench_matches_60 : decode c_Bench_matches 60 = .ok (.istore_n 2, 1) := by decide +kernel
theorem d_Bench_matches_61 : decode c_Bench_matches 61 = .ok (.iinc 4 1, 3) := by decide +kernel
theorem d_Bench_matches_64 : decode c_Bench_matches 64 = .ok (.goto (-45), 3) := by decide +kernel
theorem d_Bench_matches_67 : decode c_Bench_matches 67 = .ok (.aload_n 0, 1) := by decide +kernel
theorem d_Bench_matches_68 : decode c_Bench_matches 68 = .ok (.iconst 0, 1) := by decide +kernel
theorem d_Bench_matches_69 : decode c_Bench_matches 69 = .ok (.putfield 20, 3) := by decide +kernel
theorem d_Bench_matches_72 : decode c_Bench_matches 72 = .ok (.iload_n 3, 1) := by decide +kernel
theorem d_Bench_matches_73 : decode c_Bench_matches 73 = .ok (.bipush (-5), 2) := by decide +kernel
theorem d_Bench_matches_75 : decode c_Bench_matches 75 = .ok (.if_icmp .ne 8, 3) := by decide +kernel
theorem d_Bench_matches_78 : decode c_Bench_matches 78 = .ok (.bipush (-5), 2) := by decide +kernel
theorem d_Bench_matches_80 : decode c_Bench_matches 80 = .ok (.goto 4, 3) := by decide +kernel
theorem d_Bench_matches_83 : decode c_Bench_matches 83 = .ok (.iload_n 1, 1) := by decide +kernel
theorem d_Bench_matches_84 : decode c_Bench_matches 84 = .ok (.ireturn, 1) := by decide +kernel
theorem d_Bench_count_0 : decode c_Bench_count 0 = .ok (.iload_n 1, 1) := by decide +kernel
theorem d_Bench_count_1 : decode c_Bench_count 1 = .ok (.tableswitch 99 0 3 #[31, 42, 53, 76], 31) := by decide +kernel
theorem d_Bench_count_32 : decode c_Bench_count 32 = .ok (.aload_n 0, 1) := by decide +kernel
theorem d_Bench_count_33 : decode c_Bench_count 33 = .ok (.getfield 10, 3) := by decide +kernel
theorem d_Bench_count_36 : decode c_Bench_count 36 = .ok (.getfield 59, 3) := by decide +kernel
theorem d_Bench_count_39 : decode c_Bench_count 39 = .ok (.getfield 76, 3) := by decide +kernel
theorem d_Bench_count_42 : decode c_Bench_count 42 = .ok (.ireturn, 1) := by decide +kernel
theorem d_Bench_count_43 : decode c_Bench_count 43 = .ok (.aload_n 0, 1) := by decide +kernel
theorem d_Bench_count_44 : decode c_Bench_count 44 = .ok (.getfield 51, 3) := by decide +kernel
theorem d_Bench_count_47 : decode c_Bench_count 47 = .ok (.getfield 95, 3) := by decide +kernel
theorem d_Bench_count_50 : decode c_Bench_count 50 = .ok (.getfield 76, 3) := by decide +kernel
theorem d_Bench_count_53 : decode c_Bench_count 53 = .ok (.ireturn, 1) := by decide +kernel
theorem d_Bench_count_54 : decode c_Bench_count 54 = .ok (.aload_n 0, 1) := by decide +kernel
theorem d_Bench_count_55 : decode c_Bench_count 55 = .ok (.getfield 16, 3) := by decide +kernel
theorem d_Bench_count_58 : decode c_Bench_count 58 = .ok (.ifCond .eq 16, 3) := by decide +kernel
theorem d_Bench_count_61 : decode c_Bench_count 61 = .ok (.aload_n 0, 1) := by decide +kernel
theorem d_Bench_count_62 : decode c_Bench_count 62 = .ok (.getfield 51, 3) := by decide +kernel
theorem d_Bench_count_65 : decode c_Bench_count 65 = .ok (.getfield 88, 3) := by decide +kernel
theorem d_Bench_count_68 : decode c_Bench_count 68 = .ok (.getfield 89, 3) := by decide +kernel
theorem d_Bench_count_71 : decode c_Bench_count 71 = .ok (.goto 5, 3) := by decide +kernel
theorem d_Bench_count_74 : decode c_Bench_count 74 = .ok (.bipush (-4), 2) := by decide +kernel
theorem d_Bench_count_76 : decode c_Bench_count 76 = .ok (.ireturn, 1) := by decide +kernel
theorem d_Bench_count_77 : decode c_Bench_count 77 = .ok (.aload_n 0, 1) := by decide +kernel
theorem d_Bench_count_78 : decode c_Bench_count 78 = .ok (.getfield 16, 3) := by decide +kernel
theorem d_Bench_count_81 : decode c_Bench_count 81 = .ok (.ifCond .eq 16, 3) := by decide +kernel
theorem d_Bench_count_84 : decode c_Bench_count 84 = .ok (.aload_n 0, 1) := by decide +kernel
theorem d_Bench_count_85 : decode c_Bench_count 85 = .ok (.getfield 51, 3) := by decide +kernel
theorem d_Bench_count_88 : decode c_Bench_count 88 = .ok (.getfield 88, 3) := by decide +kernel
theorem d_Bench_count_91 : decode c_Bench_count 91 = .ok (.getfield 83, 3) := by decide +kernel
theorem d_Bench_count_94 : decode c_Bench_count 94 = .ok (.goto 5, 3) := by decide +kernel
theorem d_Bench_count_97 : decode c_Bench_count 97 = .ok (.bipush (-4), 2) := by decide +kernel
theorem d_Bench_count_99 : decode c_Bench_count 99 = .ok (.ireturn, 1) := by decide +kernel
theorem d_Bench_count_100 : decode c_Bench_count 100 = .ok (.iconst (-1), 1) := by decide +kernel
theorem d_Bench_count_101 : decode c_Bench_count 101 = .ok (.ireturn, 1) := by decide +kernel
theorem d_Bench_searchFrom_0 : decode c_Bench_searchFrom 0 = .ok (.aload_n 0, 1) := by decide +kernel
theorem d_Bench_searchFrom_1 : decode c_Bench_searchFrom 1 = .ok (.getfield 51, 3) := by decide +kernel
theorem d_Bench_searchFrom_4 : decode c_Bench_searchFrom 4 = .ok (.iload_n 1, 1) := by decide +kernel
theorem d_Bench_searchFrom_5 : decode c_Bench_searchFrom 5 = .ok (.invokevirtual 114, 3) := by decide +kernel
theorem d_Bench_searchFrom_8 : decode c_Bench_searchFrom 8 = .ok (.istore_n 2, 1) := by decide +kernel
theorem d_Bench_searchFrom_9 : decode c_Bench_searchFrom 9 = .ok (.aload_n 0, 1) := by decide +kernel
theorem d_Bench_searchFrom_10 : decode c_Bench_searchFrom 10 = .ok (.iload_n 2, 1) := by decide +kernel
theorem d_Bench_searchFrom_11 : decode c_Bench_searchFrom 11 = .ok (.ifCond .lt 7, 3) := by decide +kernel
theorem d_Bench_searchFrom_14 : decode c_Bench_searchFrom 14 = .ok (.iconst 1, 1) := by decide +kernel
theorem d_Bench_searchFrom_15 : decode c_Bench_searchFrom 15 = .ok (.goto 4, 3) := by decide +kernel
theorem d_Bench_searchFrom_18 : decode c_Bench_searchFrom 18 = .ok (.iconst 0, 1) := by decide +kernel
theorem d_Bench_searchFrom_19 : decode c_Bench_searchFrom 19 = .ok (.putfield 20, 3) := by decide +kernel
theorem d_Bench_searchFrom_22 : decode c_Bench_searchFrom 22 = .ok (.aload_n 0, 1) := by decide +kernel
theorem d_Bench_searchFrom_23 : decode c_Bench_searchFrom 23 = .ok (.iload_n 2, 1) := by decide +kernel
theorem d_Bench_searchFrom_24 : decode c_Bench_searchFrom 24 = .ok (.putfield 23, 3) := by decide +kernel
theorem d_Bench_searchFrom_27 : decode c_Bench_searchFrom 27 = .ok (.aload_n 0, 1) := by decide +kernel
theorem d_Bench_searchFrom_28 : decode c_Bench_searchFrom 28 = .ok (.aload_n 0, 1) := by decide +kernel
theorem d_Bench_searchFrom_29 : decode c_Bench_searchFrom 29 = .ok (.getfield 51, 3) := by decide +kernel
theorem d_Bench_searchFrom_32 : decode c_Bench_searchFrom 32 = .ok (.getfield 117, 3) := by decide +kernel
theorem d_Bench_searchFrom_35 : decode c_Bench_searchFrom 35 = .ok (.putfield 27, 3) := by decide +kernel
theorem d_Bench_searchFrom_38 : decode c_Bench_searchFrom 38 = .ok (.aload_n 0, 1) := by decide +kernel
theorem d_Bench_searchFrom_39 : decode c_Bench_searchFrom 39 = .ok (.aload_n 0, 1) := by decide +kernel
theorem d_Bench_searchFrom_40 : decode c_Bench_searchFrom 40 = .ok (.getfield 51, 3) := by decide +kernel
theorem d_Bench_searchFrom_43 : decode c_Bench_searchFrom 43 = .ok (.getfield 120, 3) := by decide +kernel
theorem d_Bench_searchFrom_46 : decode c_Bench_searchFrom 46 = .ok (.putfield 30, 3) := by decide +kernel
theorem d_Bench_searchFrom_49 : decode c_Bench_searchFrom 49 = .ok (.aload_n 0, 1) := by decide +kernel
theorem d_Bench_searchFrom_50 : decode c_Bench_searchFrom 50 = .ok (.aload_n 0, 1) := by decide +kernel
theorem d_Bench_searchFrom_51 : decode c_Bench_searchFrom 51 = .ok (.getfield 51, 3) := by decide +kernel
theorem d_Bench_searchFrom_54 : decode c_Bench_searchFrom 54 = .ok (.getfield 123, 3) := by decide +kernel
theorem d_Bench_searchFrom_57 : decode c_Bench_searchFrom 57 = .ok (.putfield 34, 3) := by decide +kernel
theorem d_Bench_searchFrom_60 : decode c_Bench_searchFrom 60 = .ok (.iload_n 2, 1) := by decide +kernel
theorem d_Bench_searchFrom_61 : decode c_Bench_searchFrom 61 = .ok (.ireturn, 1) := by decide +kernel
theorem d_Bench_placeBehindMatch_0 : decode c_Bench_placeBehindMatch 0 = .ok (.aload_n 0, 1) := by decide +kernel
theorem d_Bench_placeBehindMatch_1 : decode c_Bench_placeBehindMatch 1 = .ok (.getfield 27, 3) := by decide +kernel
theorem d_Bench_placeBehindMatch_4 : decode c_Bench_placeBehindMatch 4 = .ok (.aload_n 0, 1) := by decide +kernel
theorem d_Bench_placeBehindMatch_5 : decode c_Bench_placeBehindMatch 5 = .ok (.getfield 23, 3) := by decide +kernel
theorem d_Bench_placeBehindMatch_8 : decode c_Bench_placeBehindMatch 8 = .ok (.if_icmp .ne 12, 3) := by decide +kernel
theorem d_Bench_placeBehindMatch_11 : decode c_Bench_placeBehindMatch 11 = .ok (.aload_n 0, 1) := by decide +kernel
theorem d_Bench_placeBehindMatch_12 : decode c_Bench_placeBehindMatch 12 = .ok (.getfield 27, 3) := by decide +kernel
theorem d_Bench_placeBehindMatch_15 : decode c_Bench_placeBehindMatch 15 = .ok (.iconst 1, 1) := by decide +kernel
theorem d_Bench_placeBehindMatch_16 : decode c_Bench_placeBehindMatch 16 = .ok (.iadd, 1) := by decide +kernel
theorem d_Bench_placeBehindMatch_17 : decode c_Bench_placeBehindMatch 17 = .ok (.goto 7, 3) := by decide +kernel
theorem d_Bench_placeBehindMatch_20 : decode c_Bench_placeBehindMatch 20 = .ok (.aload_n 0, 1) := by decide +kernel
theorem d_Bench_placeBehindMatch_21 : decode c_Bench_placeBehindMatch 21 = .ok (.getfield 27, 3) := by decide +kernel
theorem d_Bench_placeBehindMatch_24 : decode c_Bench_placeBehindMatch 24 = .ok (.ireturn, 1) := by decide +kernel
theorem d_Bench_isLetter_0 : decode c_Bench_isLetter 0 = .ok (.iload_n 0, 1) := by decide +kernel
theorem d_Bench_isLetter_1 : decode c_Bench_isLetter 1 = .ok (.bipush 97, 2) := by decide +kernel
theorem d_Bench_isLetter_3 : decode c_Bench_isLetter 3 = .ok (.if_icmp .lt 13, 3) := by decide +kernel
theorem d_Bench_isLetter_6 : decode c_Bench_isLetter 6 = .ok (.iload_n 0, 1) := by decide +kernel
theorem d_Bench_isLetter_7 : decode c_Bench_isLetter 7 = .ok (.bipush 122, 2) := by decide +kernel
theorem d_Bench_isLetter_9 : decode c_Bench_isLetter 9 = .ok (.if_icmp .gt 7, 3) := by decide +kernel
theorem d_Bench_isLetter_12 : decode c_Bench_isLetter 12 = .ok (.iconst 1, 1) := by decide +kernel
theorem d_Bench_isLetter_13 : decode c_Bench_isLetter 13 = .ok (.goto 4, 3) := by decide +kernel
theorem d_Bench_isLetter_16 : decode c_Bench_isLetter 16 = .ok (.iconst 0, 1) := by decide +kernel
theorem d_Bench_isLetter_17 : decode c_Bench_isLetter 17 = .ok (.ireturn, 1) := by decide +kernel
theorem d_Bench_isDigit_0 : decode c_Bench_isDigit 0 = .ok (.iload_n 0, 1) := by decide +kernel
theorem d_Bench_isDigit_1 : decode c_Bench_isDigit 1 = .ok (.bipush 48, 2) := by decide +kernel
theorem d_Bench_isDigit_3 : decode c_Bench_isDigit 3 = .ok (.if_icmp .lt 13, 3) := by decide +kernel
theorem d_Bench_isDigit_6 : decode c_Bench_isDigit 6 = .ok (.iload_n 0, 1) := by decide +kernel
theorem d_Bench_isDigit_7 : decode c_Bench_isDigit 7 = .ok (.bipush 57, 2) := by decide +kernel
theorem d_Bench_isDigit_9 : decode c_Bench_isDigit 9 = .ok (.if_icmp .gt 7, 3) := by decide +kernel
theorem d_Bench_isDigit_12 : decode c_Bench_isDigit 12 = .ok (.iconst 1, 1) := by decide +kernel
theorem d_Bench_isDigit_13 : decode c_Bench_isDigit 13 = .ok (.goto 4, 3) := by decide +kernel
theorem d_Bench_isDigit_16 : decode c_Bench_isDigit 16 = .ok (.iconst 0, 1) := by decide +kernel
theorem d_Bench_isDigit_17 : decode c_Bench_isDigit 17 = .ok (.ireturn, 1) := by decide +kernel
theorem d_Bench_mayStandInPattern_0 : decode c_Bench_mayStandInPattern 0 = .ok (.iload_n 0, 1) := by decide +kernel
theorem d_Bench_mayStandInPattern_1 : decode c_Bench_mayStandInPattern 1 = .ok (.invokestatic 92, 3) := by decide +kernel
theorem d_Bench_mayStandInPattern_4 : decode c_Bench_mayStandInPattern 4 = .ok (.ifCond .ne 10, 3) := by decide +kernel
theorem d_Bench_mayStandInPattern_7 : decode c_Bench_mayStandInPattern 7 = .ok (.iload_n 0, 1) := by decide +kernel
theorem d_Bench_mayStandInPattern_8 : decode c_Bench_mayStandInPattern 8 = .ok (.invokestatic 126, 3) := by decide +kernel
theorem d_Bench_mayStandInPattern_11 : decode c_Bench_mayStandInPattern 11 = .ok (.ifCond .eq 5, 3) := by decide +kernel
theorem d_Bench_mayStandInPattern_14 : decode c_Bench_mayStandInPattern 14 = .ok (.iconst 1, 1) := by decide +kernel
theorem d_Bench_mayStandInPattern_15 : decode c_Bench_mayStandInPattern 15 = .ok (.ireturn, 1) := by decide +kernel
theorem d_Bench_mayStandInPattern_16 : decode c_Bench_mayStandInPattern 16 = .ok (.iload_n 0, 1) := by decide +kernel
theorem d_Bench_mayStandInPattern_17 : decode c_Bench_mayStandInPattern 17 = .ok (.ifCond .le 24, 3) := by decide +kernel
theorem d_Bench_mayStandInPattern_20 : decode c_Bench_mayStandInPattern 20 = .ok (.iload_n 0, 1) := by decide +kernel
theorem d_Bench_mayStandInPattern_21 : decode c_Bench_mayStandInPattern 21 = .ok (.sipush 128, 3) := by decide +kernel
theorem d_Bench_mayStandInPattern_24 : decode c_Bench_mayStandInPattern 24 = .ok (.if_icmp .ge 17, 3) := by decide +kernel
theorem d_Bench_mayStandInPattern_27 : decode c_Bench_mayStandInPattern 27 = .ok (.ldc 129, 2) := by decide +kernel
theorem d_Bench_mayStandInPattern_29 : decode c_Bench_mayStandInPattern 29 = .ok (.iload_n 0, 1) := by decide +kernel
theorem d_Bench_mayStandInPattern_30 : decode c_Bench_mayStandInPattern 30 = .ok (.i2c, 1) := by decide +kernel
theorem d_Bench_mayStandInPattern_31 : decode c_Bench_mayStandInPattern 31 = .ok (.invokevirtual 131, 3) := by decide +kernel
theorem d_Bench_mayStandInPattern_34 : decode c_Bench_mayStandInPattern 34 = .ok (.ifCond .lt 7, 3) := by decide +kernel
theorem d_Bench_mayStandInPattern_37 : decode c_Bench_mayStandInPattern 37 = .ok (.iconst 1, 1) := by decide +kernel
theorem d_Bench_mayStandInPattern_38 : decode c_Bench_mayStandInPattern 38 = .ok (.goto 4, 3) := by decide +kernel
theorem d_Bench_mayStandInPattern_41 : decode c_Bench_mayStandInPattern 41 = .ok (.iconst 0, 1) := by decide +kernel
theorem d_Bench_mayStandInPattern_42 : decode c_Bench_mayStandInPattern 42 = .ok (.ireturn, 1) := by decide +kernel
theorem d_Captures_with_0 : decode c_Captures_with 0 = .ok (.iload_n 2, 1) := by decide +kernel
theorem d_Captures_with_1 : decode c_Captures_with 1 = .ok (.iconst 1, 1) := by decide +kernel
theorem d_Captures_with_2 : decode c_Captures_with 2 = .ok (.isub, 1) := by decide +kernel
theorem d_Captures_with_3 : decode c_Captures_with 3 = .ok (.bipush 12, 2) := by decide +kernel
theorem d_Captures_with_5 : decode c_Captures_with 5 = .ok (.imul, 1) := by decide +kernel
theorem d_Captures_with_6 : decode c_Captures_with 6 = .ok (.istore 5, 2) := by decide +kernel
theorem d_Captures_with_8 : decode c_Captures_with 8 = .ok (.iload_n 3, 1) := by decide +kernel
theorem d_Captures_with_9 : decode c_Captures_with 9 = .ok (.iconst 1, 1) := by decide +kernel
theorem d_Captures_with_10 : decode c_Captures_with 10 = .ok (.iadd, 1) := by decide +kernel
theorem d_Captures_with_11 : decode c_Captures_with 11 = .ok (.iload 4, 2) := by decide +kernel
theorem d_Captures_with_13 : decode c_Captures_with 13 = .ok (.iconst 1, 1) := by decide +kernel
theorem d_Captures_with_14 : decode c_Captures_with 14 = .ok (.iadd, 1) := by decide +kernel
theorem d_Captures_with_15 : decode c_Captures_with 15 = .ok (.bipush 6, 2) := by decide +kernel
theorem d_Captures_with_17 : decode c_Captures_with 17 = .ok (.ishl, 1) := by decide +kernel
theorem d_Captures_with_18 : decode c_Captures_with 18 = .ok (.ior, 1) := by decide +kernel
theorem d_Captures_with_19 : decode c_Captures_with 19 = .ok (.i2l, 1) := by decide +kernel
theorem d_Captures_with_20 : decode c_Captures_with 20 = .ok (.lstore 6, 2) := by decide +kernel
theorem d_Captures_with_22 : decode c_Captures_with 22 = .ok (.lload_n 0, 1) := by decide +kernel
theorem d_Captures_with_23 : decode c_Captures_with 23 = .ok (.ldc2_w 11, 3) := by decide +kernel
theorem d_Captures_with_26 : decode c_Captures_with 26 = .ok (.iload 5, 2) := by decide +kernel
theorem d_Captures_with_28 : decode c_Captures_with 28 = .ok (.lshl, 1) := by decide +kernel
theorem d_Captures_with_29 : decode c_Captures_with 29 = .ok (.ldc2_w 13, 3) := by decide +kernel
theorem d_Captures_with_32 : decode c_Captures_with 32 = .ok (.lxor, 1) := by decide +kernel
theorem d_Captures_with_33 : decode c_Captures_with 33 = .ok (.land, 1) := by decide +kernel
theorem d_Captures_with_34 : decode c_Captures_with 34 = .ok (.lload 6, 2) := by decide +kernel
theorem d_Captures_with_36 : decode c_Captures_with 36 = .ok (.iload 5, 2) := by decide +kernel
theorem d_Captures_with_38 : decode c_Captures_with 38 = .ok (.lshl, 1) := by decide +kernel
theorem d_Captures_with_39 : decode c_Captures_with 39 = .ok (.lor, 1) := by decide +kernel
theorem d_Captures_with_40 : decode c_Captures_with 40 = .ok (.lreturn, 1) := by decide +kernel
theorem d_Captures_from_0 : decode c_Captures_from 0 = .ok (.lload_n 0, 1) := by decide +kernel
theorem d_Captures_from_1 : decode c_Captures_from 1 = .ok (.iload_n 2, 1) := by decide +kernel
theorem d_Captures_from_2 : decode c_Captures_from 2 = .ok (.iconst 1, 1) := by decide +kernel
theorem d_Captures_from_3 : decode c_Captures_from 3 = .ok (.isub, 1) := by decide +kernel
theorem d_Captures_from_4 : decode c_Captures_from 4 = .ok (.bipush 12, 2) := by decide +kernel
theorem d_Captures_from_6 : decode c_Captures_from 6 = .ok (.imul, 1) := by decide +kernel
theorem d_Captures_from_7 : decode c_Captures_from 7 = .ok (.lushr, 1) := by decide +kernel
theorem d_Captures_from_8 : decode c_Captures_from 8 = .ok (.l2i, 1) := by decide +kernel
theorem d_Captures_from_9 : decode c_Captures_from 9 = .ok (.bipush 63, 2) := by decide +kernel
theorem d_Captures_from_11 : decode c_Captures_from 11 = .ok (.iand, 1) := by decide +kernel
theorem d_Captures_from_12 : decode c_Captures_from 12 = .ok (.istore_n 3, 1) := by decide +kernel
theorem d_Captures_from_13 : decode c_Captures_from 13 = .ok (.iload_n 3, 1) := by decide +kernel
theorem d_Captures_from_14 : decode c_Captures_from 14 = .ok (.ifCond .ne 8, 3) := by decide +kernel
theorem d_Captures_from_17 : decode c_Captures_from 17 = .ok (.bipush (-6), 2) := by decide +kernel
theorem d_Captures_from_19 : decode c_Captures_from 19 = .ok (.goto 6, 3) := by decide +kernel
theorem d_Captures_from_22 : decode c_Captures_from 22 = .ok (.iload_n 3, 1) := by decide +kernel
theorem d_Captures_from_23 : decode c_Captures_from 23 = .ok (.iconst 1, 1) := by decide +kernel
theorem d_Captures_from_24 : decode c_Captures_from 24 = .ok (.isub, 1) := by decide +kernel
theorem d_Captures_from_25 : decode c_Captures_from 25 = .ok (.ireturn, 1) := by decide +kernel
theorem d_Captures_to_0 : decode c_Captures_to 0 = .ok (.lload_n 0, 1) := by decide +kernel
theorem d_Captures_to_1 : decode c_Captures_to 1 = .ok (.iload_n 2, 1) := by decide +kernel
theorem d_Captures_to_2 : decode c_Captures_to 2 = .ok (.iconst 1, 1) := by decide +kernel
theorem d_Captures_to_3 : decode c_Captures_to 3 = .ok (.isub, 1) := by decide +kernel
theorem d_Captures_to_4 : decode c_Captures_to 4 = .ok (.bipush 12, 2) := by decide +kernel
theorem d_Captures_to_6 : decode c_Captures_to 6 = .ok (.imul, 1) := by decide +kernel
theorem d_Captures_to_7 : decode c_Captures_to 7 = .ok (.bipush 6, 2) := by decide +kernel
theorem d_Captures_to_9 : decode c_Captures_to 9 = .ok (.iadd, 1) := by decide +kernel
theorem d_Captures_to_10 : decode c_Captures_to 10 = .ok (.lushr, 1) := by decide +kernel
theorem d_Captures_to_11 : decode c_Captures_to 11 = .ok (.l2i, 1) := by decide +kernel
theorem d_Captures_to_12 : decode c_Captures_to 12 = .ok (.bipush 63, 2) := by decide +kernel
theorem d_Captures_to_14 : decode c_Captures_to 14 = .ok (.iand, 1) := by decide +kernel
theorem d_Captures_to_15 : decode c_Captures_to 15 = .ok (.istore_n 3, 1) := by decide +kernel
theorem d_Captures_to_16 : decode c_Captures_to 16 = .ok (.iload_n 3, 1) := by decide +kernel
theorem d_Captures_to_17 : decode c_Captures_to 17 = .ok (.ifCond .ne 8, 3) := by decide +kernel
theorem d_Captures_to_20 : decode c_Captures_to 20 = .ok (.bipush (-6), 2) := by decide +kernel
theorem d_Captures_to_22 : decode c_Captures_to 22 = .ok (.goto 6, 3) := by decide +kernel
theorem d_Captures_to_25 : decode c_Captures_to 25 = .ok (.iload_n 3, 1) := by decide +kernel
theorem d_Captures_to_26 : decode c_Captures_to 26 = .ok (.iconst 1, 1) := by decide +kernel
theorem d_Captures_to_27 : decode c_Captures_to 27 = .ok (.isub, 1) := by decide +kernel
theorem d_Captures_to_28 : decode c_Captures_to 28 = .ok (.ireturn, 1) := by decide +kernel
theorem d_Choices_init_0 : decode c_Choices_init 0 = .ok (.aload_n 0, 1) := by decide +kernel
theorem d_Choices_init_1 : decode c_Choices_init 1 = .ok (.invokespecial 1, 3) := by decide +kernel
theorem d_Choices_init_4 : decode c_Choices_init 4 = .ok (.aload_n 0, 1) := by decide +kernel
theorem d_Choices_init_5 : decode c_Choices_init 5 = .ok (.iconst 0, 1) := by decide +kernel
theorem d_Choices_init_6 : decode c_Choices_init 6 = .ok (.putfield 7, 3) := by decide +kernel
theorem d_Choices_init_9 : decode c_Choices_init 9 = .ok (.aload_n 0, 1) := by decide +kernel
theorem d_Choices_init_10 : decode c_Choices_init 10 = .ok (.iload_n 1, 1) := by decide +kernel
theorem d_Choices_init_11 : decode c_Choices_init 11 = .ok (.newarray .int, 2) := by decide +kernel
theorem d_Choices_init_13 : decode c_Choices_init 13 = .ok (.putfield 13, 3) := by decide +kernel
theorem d_Choices_init_16 : decode c_Choices_init 16 = .ok (.aload_n 0, 1) := by decide +kernel
theorem d_Choices_init_17 : decode c_Choices_init 17 = .ok (.iload_n 1, 1) := by decide +kernel
theorem d_Choices_init_18 : decode c_Choices_init 18 = .ok (.newarray .int, 2) := by decide +kernel
theorem d_Choices_init_20 : decode c_Choices_init 20 = .ok (.putfield 17, 3) := by decide +kernel
theorem d_Choices_init_23 : decode c_Choices_init 23 = .ok (.aload_n 0, 1) := by decide +kernel
theorem d_Choices_init_24 : decode c_Choices_init 24 = .ok (.iload_n 1, 1) := by decide +kernel
theorem d_Choices_init_25 : decode c_Choices_init 25 = .ok (.newarray .int, 2) := by decide +kernel
theorem d_Choices_init_27 : decode c_Choices_init 27 = .ok (.putfield 20, 3) := by decide +kernel
theorem d_Choices_init_30 : decode c_Choices_init 30 = .ok (.aload_n 0, 1) := by decide +kernel
theorem d_Choices_init_31 : decode c_Choices_init 31 = .ok (.iload_n 1, 1) := by decide +kernel
theorem d_Choices_init_32 : decode c_Choices_init 32 = .ok (.newarray .long, 2) := by decide +kernel
theorem d_Choices_init_34 : decode c_Choices_init 34 = .ok (.putfield 23, 3) := by decide +kernel
theorem d_Choices_init_37 : decode c_Choices_init 37 = .ok (.aload_n 0, 1) := by decide +kernel
theorem d_Choices_init_38 : decode c_Choices_init 38 = .ok (.iload_n 1, 1) := by decide +kernel
theorem d_Choices_init_39 : decode c_Choices_init 39 = .ok (.newarray .int, 2) := by decide +kernel
theorem d_Choices_init_41 : decode c_Choices_init 41 = .ok (.putfield 27, 3) := by decide +kernel
theorem d_Choices_init_44 : decode c_Choices_init 44 = .ok (.return_, 1) := by decide +kernel
theorem d_Choices_hasRoom_0 : decode c_Choices_hasRoom 0 = .ok (.aload_n 0, 1) := by decide +kernel
theorem d_Choices_hasRoom_1 : decode c_Choices_hasRoom 1 = .ok (.getfield 7, 3) := by decide +kernel
theorem d_Choices_hasRoom_4 : decode c_Choices_hasRoom 4 = .ok (.iload_n 1, 1) := by decide +kernel
theorem d_Choices_hasRoom_5 : decode c_Choices_hasRoom 5 = .ok (.iadd, 1) := by decide +kernel
theorem d_Choices_hasRoom_6 : decode c_Choices_hasRoom 6 = .ok (.aload_n 0, 1) := by decide +kernel
theorem d_Choices_hasRoom_7 : decode c_Choices_hasRoom 7 = .ok (.getfield 13, 3) := by decide +kernel
theorem d_Choices_hasRoom_10 : decode c_Choices_hasRoom 10 = .ok (.arraylength, 1) := by decide +kernel
theorem d_Choices_hasRoom_11 : decode c_Choices_hasRoom 11 = .ok (.if_icmp .gt 7, 3) := by decide +kernel
theorem d_Choices_hasRoom_14 : decode c_Choices_hasRoom 14 = .ok (.iconst 1, 1) := by decide +kernel
theorem d_Choices_hasRoom_15 : decode c_Choices_hasRoom 15 = .ok (.goto 4, 3) := by decide +kernel
theorem d_Choices_hasRoom_18 : decode c_Choices_hasRoom 18 = .ok (.iconst 0, 1) := by decide +kernel
theorem d_Choices_hasRoom_19 : decode c_Choices_hasRoom 19 = .ok (.ireturn, 1) := by decide +kernel
theorem d_Choices_add_0 : decode c_Choices_add 0 = .ok (.aload_n 0, 1) := by decide +kernel
theorem d_Choices_add_1 : decode c_Choices_add 1 = .ok (.getfield 13, 3) := by decide +kernel
theorem d_Choices_add_4 : decode c_Choices_add 4 = .ok (.aload_n 0, 1) := by decide +kernel
theorem d_Choices_add_5 : decode c_Choices_add 5 = .ok (.getfield 7, 3) := by decide +kernel
theorem d_Choices_add_8 : decode c_Choices_add 8 = .ok (.iload_n 1, 1) := by decide +kernel
theorem d_Choices_add_9 : decode c_Choices_add 9 = .ok (.iastore, 1) := by decide +kernel
theorem d_Choices_add_10 : decode c_Choices_add 10 = .ok (.aload_n 0, 1) := by decide +kernel
theorem d_Choices_add_11 : decode c_Choices_add 11 = .ok (.getfield 17, 3) := by decide +kernel
theorem d_Choices_add_14 : decode c_Choices_add 14 = .ok (.aload_n 0, 1) := by decide +kernel
theorem d_Choices_add_15 : decode c_Choices_add 15 = .ok (.getfield 7, 3) := by decide +kernel
theorem d_Choices_add_18 : decode c_Choices_add 18 = .ok (.iload_n 2, 1) := by decide +kernel
theorem d_Choices_add_19 : decode c_Choices_add 19 = .ok (.iastore, 1) := by decide +kernel
theorem d_Choices_add_20 : decode c_Choices_add 20 = .ok (.aload_n 0, 1) := by decide +kernel
theorem d_Choices_add_21 : decode c_Choices_add 21 = .ok (.getfield 20, 3) := by decide +kernel
theorem d_Choices_add_24 : decode c_Choices_add 24 = .ok (.aload_n 0, 1) := by decide +kernel
theorem d_Choices_add_25 : decode c_Choices_add 25 = .ok (.getfield 7, 3) := by decide +kernel
theorem d_Choices_add_28 : decode c_Choices_add 28 = .ok (.iload_n 3, 1) := by decide +kernel
theorem d_Choices_add_29 : decode c_Choices_add 29 = .ok (.iastore, 1) := by decide +kernel
theorem d_Choices_add_30 : decode c_Choices_add 30 = .ok (.aload_n 0, 1) := by decide +kernel
theorem d_Choices_add_31 : decode c_Choices_add 31 = .ok (.getfield 23, 3) := by decide +kernel
theorem d_Choices_add_34 : decode c_Choices_add 34 = .ok (.aload_n 0, 1) := by decide +kernel
theorem d_Choices_add_35 : decode c_Choices_add 35 = .ok (.getfield 7, 3) := by decide +kernel
theorem d_Choices_add_38 : decode c_Choices_add 38 = .ok (.lload 4, 2) := by decide +kernel
theorem d_Choices_add_40 : decode c_Choices_add 40 = .ok (.lastore, 1) := by decide +kernel
theorem d_Choices_add_41 : decode c_Choices_add 41 = .ok (.aload_n 0, 1) := by decide +kernel
theorem d_Choices_add_42 : decode c_Choices_add 42 = .ok (.getfield 27, 3) := by decide +kernel
theorem d_Choices_add_45 : decode c_Choices_add 45 = .ok (.aload_n 0, 1) := by decide +kernel
theorem d_Choices_add_46 : decode c_Choices_add 46 = .ok (.getfield 7, 3) := by decide +kernel
theorem d_Choices_add_49 : decode c_Choices_add 49 = .ok (.iload 6, 2) := by decide +kernel
theorem d_Choices_add_51 : decode c_Choices_add 51 = .ok (.iastore, 1) := by decide +kernel
theorem d_Choices_add_52 : decode c_Choices_add 52 = .ok (.aload_n 0, 1) := by decide +kernel
theorem d_Choices_add_53 : decode c_Choices_add 53 = .ok (.dup, 1) := by decide +kernel
theorem d_Choices_add_54 : decode c_Choices_add 54 = .ok (.getfield 7, 3) := by decide +kernel
theorem d_Choices_add_57 : decode c_Choices_add 57 = .ok (.iconst 1, 1) := by decide +kernel
theorem d_Choices_add_58 : decode c_Choices_add 58 = .ok (.iadd, 1) := by decide +kernel
theorem d_Choices_add_59 : decode c_Choices_add 59 = .ok (.putfield 7, 3) := by decide +kernel
theorem d_Choices_add_62 : decode c_Choices_add 62 = .ok (.return_, 1) := by decide +kernel
theorem d_Choices_cutTo_0 : decode c_Choices_cutTo 0 = .ok (.iload_n 1, 1) := by decide +kernel
theorem d_Choices_cutTo_1 : decode c_Choices_cutTo 1 = .ok (.aload_n 0, 1) := by decide +kernel
theorem d_Choices_cutTo_2 : decode c_Choices_cutTo 2 = .ok (.getfield 7, 3) := by decide +kernel
theorem d_Choices_cutTo_5 : decode c_Choices_cutTo 5 = .ok (.if_icmp .ge 8, 3) := by decide +kernel
theorem d_Choices_cutTo_8 : decode c_Choices_cutTo 8 = .ok (.aload_n 0, 1) := by decide +kernel
theorem d_Choices_cutTo_9 : decode c_Choices_cutTo 9 = .ok (.iload_n 1, 1) := by decide +kernel
theorem d_Choices_cutTo_10 : decode c_Choices_cutTo 10 = .ok (.putfield 7, 3) := by decide +kernel
theorem d_Choices_cutTo_13 : decode c_Choices_cutTo 13 = .ok (.return_, 1) := by decide +kernel
theorem d_Frames_init_0 : decode c_Frames_init 0 = .ok (.aload_n 0, 1) := by decide +kernel
theorem d_Frames_init_1 : decode c_Frames_init 1 = .ok (.invokespecial 1, 3) := by decide +kernel
theorem d_Frames_init_4 : decode c_Frames_init 4 = .ok (.aload_n 0, 1) := by decide +kernel
theorem d_Frames_init_5 : decode c_Frames_init 5 = .ok (.iconst 1, 1) := by decide +kernel
theorem d_Frames_init_6 : decode c_Frames_init 6 = .ok (.putfield 7, 3) := by decide +kernel
theorem d_Frames_init_9 : decode c_Frames_init 9 = .ok (.aload_n 0, 1) := by decide +kernel
theorem d_Frames_init_10 : decode c_Frames_init 10 = .ok (.iload_n 1, 1) := by decide +kernel
theorem d_Frames_init_11 : decode c_Frames_init 11 = .ok (.newarray .int, 2) := by decide +kernel
theorem d_Frames_init_13 : decode c_Frames_init 13 = .ok (.putfield 13, 3) := by decide +kernel
theorem d_Frames_init_16 : decode c_Frames_init 16 = .ok (.aload_n 0, 1) := by decide +kernel
theorem d_Frames_init_17 : decode c_Frames_init 17 = .ok (.iload_n 1, 1) := by decide +kernel
theorem d_Frames_init_18 : decode c_Frames_init 18 = .ok (.newarray .int, 2) := by decide +kernel
theorem d_Frames_init_20 : decode c_Frames_init 20 = .ok (.putfield 17, 3) := by decide +kernel
theorem d_Frames_init_23 : decode c_Frames_init 23 = .ok (.aload_n 0, 1) := by decide +kernel
theorem d_Frames_init_24 : decode c_Frames_init 24 = .ok (.iload_n 1, 1) := by decide +kernel
theorem d_Frames_init_25 : decode c_Frames_init 25 = .ok (.newarray .int, 2) := by decide +kernel
theorem d_Frames_init_27 : decode c_Frames_init 27 = .ok (.putfield 20, 3) := by decide +kernel
theorem d_Frames_init_30 : decode c_Frames_init 30 = .ok (.aload_n 0, 1) := by decide +kernel
theorem d_Frames_init_31 : decode c_Frames_init 31 = .ok (.iload_n 1, 1) := by decide +kernel
theorem d_Frames_init_32 : decode c_Frames_init 32 = .ok (.newarray .int, 2) := by decide +kernel
theorem d_Frames_init_34 : decode c_Frames_init 34 = .ok (.putfield 23, 3) := by decide +kernel
theorem d_Frames_init_37 : decode c_Frames_init 37 = .ok (.aload_n 0, 1) := by decide +kernel
theorem d_Frames_init_38 : decode c_Frames_init 38 = .ok (.iload_n 1, 1) := by decide +kernel
theorem d_Frames_init_39 : decode c_Frames_init 39 = .ok (.newarray .long, 2) := by decide +kernel
theorem d_Frames_init_41 : decode c_Frames_init 41 = .ok (.putfield 26, 3) := by decide +kernel
theorem d_Frames_init_44 : decode c_Frames_init 44 = .ok (.aload_n 0, 1) := by decide +kernel
theorem d_Frames_init_45 : decode c_Frames_init 45 = .ok (.iload_n 1, 1) := by decide +kernel
theorem d_Frames_init_46 : decode c_Frames_init 46 = .ok (.newarray .int, 2) := by decide +kernel
theorem d_Frames_init_48 : decode c_Frames_init 48 = .ok (.putfield 30, 3) := by decide +kernel
theorem d_Frames_init_51 : decode c_Frames_init 51 = .ok (.aload_n 0, 1) := by decide +kernel
theorem d_Frames_init_52 : decode c_Frames_init 52 = .ok (.iload_n 1, 1) := by decide +kernel
theorem d_Frames_init_53 : decode c_Frames_init 53 = .ok (.newarray .int, 2) := by decide +kernel
theorem d_Frames_init_55 : decode c_Frames_init 55 = .ok (.putfield 33, 3) := by decide +kernel
theorem d_Frames_init_58 : decode c_Frames_init 58 = .ok (.return_, 1) := by decide +kernel
theorem d_Frames_empty_0 : decode c_Frames_empty 0 = .ok (.aload_n 0, 1) := by decide +kernel
theorem d_Frames_empty_1 : decode c_Frames_empty 1 = .ok (.iconst 1, 1) := by decide +kernel
theorem d_Frames_empty_2 : decode c_Frames_empty 2 = .ok (.putfield 7, 3) := by decide +kernel
theorem d_Frames_empty_5 : decode c_Frames_empty 5 = .ok (.return_, 1) := by decide +kernel
theorem d_Frames_hasRoom_0 : decode c_Frames_hasRoom 0 = .ok (.aload_n 0, 1) := by decide +kernel
theorem d_Frames_hasRoom_1 : decode c_Frames_hasRoom 1 = .ok (.getfield 7, 3) := by decide +kernel
theorem d_Frames_hasRoom_4 : decode c_Frames_hasRoom 4 = .ok (.iload_n 1, 1) := by decide +kernel
theorem d_Frames_hasRoom_5 : decode c_Frames_hasRoom 5 = .ok (.iadd, 1) := by decide +kernel
theorem d_Frames_hasRoom_6 : decode c_Frames_hasRoom 6 = .ok (.aload_n 0, 1) := by decide +kernel
theorem d_Frames_hasRoom_7 : decode c_Frames_hasRoom 7 = .ok (.getfield 13, 3) := by decide +kernel
theorem d_Frames_hasRoom_10 : decode c_Frames_hasRoom 10 = .ok (.arraylength, 1) := by decide +kernel
theorem d_Frames_hasRoom_11 : decode c_Frames_hasRoom 11 = .ok (.if_icmp .gt 7, 3) := by decide +kernel
theorem d_Frames_hasRoom_14 : decode c_Frames_hasRoom 14 = .ok (.iconst 1, 1) := by decide +kernel
theorem d_Frames_hasRoom_15 : decode c_Frames_hasRoom 15 = .ok (.goto 4, 3) := by decide +kernel
theorem d_Frames_hasRoom_18 : decode c_Frames_hasRoom 18 = .ok (.iconst 0, 1) := by decide +kernel
theorem d_Frames_hasRoom_19 : decode c_Frames_hasRoom 19 = .ok (.ireturn, 1) := by decide +kernel
theorem d_Frames_add_0 : decode c_Frames_add 0 = .ok (.aload_n 0, 1) := by decide +kernel
theorem d_Frames_add_1 : decode c_Frames_add 1 = .ok (.getfield 7, 3) := by decide +kernel
theorem d_Frames_add_4 : decode c_Frames_add 4 = .ok (.istore 8, 2) := by decide +kernel
theorem d_Frames_add_6 : decode c_Frames_add 6 = .ok (.aload_n 0, 1) := by decide +kernel
theorem d_Frames_add_7 : decode c_Frames_add 7 = .ok (.getfield 13, 3) := by decide +kernel
theorem d_Frames_add_10 : decode c_Frames_add 10 = .ok (.iload 8, 2) := by decide +kernel
theorem d_Frames_add_12 : decode c_Frames_add 12 = .ok (.iload_n 1, 1) := by decide +kernel
theorem d_Frames_add_13 : decode c_Frames_add 13 = .ok (.iastore, 1) := by decide +kernel
theorem d_Frames_add_14 : decode c_Frames_add 14 = .ok (.aload_n 0, 1) := by decide +kernel
theorem d_Frames_add_15 : decode c_Frames_add 15 = .ok (.getfield 17, 3) := by decide +kernel
theorem d_Frames_add_18 : decode c_Frames_add 18 = .ok (.iload 8, 2) := by decide +kernel
theorem d_Frames_add_20 : decode c_Frames_add 20 = .ok (.iload_n 2, 1) := by decide +kernel
theorem d_Frames_add_21 : decode c_Frames_add 21 = .ok (.iastore, 1) := by decide +kernel
theorem d_Frames_add_22 : decode c_Frames_add 22 = .ok (.aload_n 0, 1) := by decide +kernel
theorem d_Frames_add_23 : decode c_Frames_add 23 = .ok (.getfield 20, 3) := by decide +kernel
theorem d_Frames_add_26 : decode c_Frames_add 26 = .ok (.iload 8, 2) := by decide +kernel
theorem d_Frames_add_28 : decode c_Frames_add 28 = .ok (.iload_n 3, 1) := by decide +kernel
theorem d_Frames_add_29 : decode c_Frames_add 29 = .ok (.iastore, 1) := by decide +kernel
theorem d_Frames_add_30 : decode c_Frames_add 30 = .ok (.aload_n 0, 1) := by decide +kernel
theorem d_Frames_add_31 : decode c_Frames_add 31 = .ok (.getfield 23, 3) := by decide +kernel
theorem d_Frames_add_34 : decode c_Frames_add 34 = .ok (.iload 8, 2) := by decide +kernel
theorem d_Frames_add_36 : decode c_Frames_add 36 = .ok (.iload 4, 2) := by decide +kernel
theorem d_Frames_add_38 : decode c_Frames_add 38 = .ok (.iastore, 1) := by decide +kernel
theorem d_Frames_add_39 : decode c_Frames_add 39 = .ok (.aload_n 0, 1) := by decide +kernel
theorem d_Frames_add_40 : decode c_Frames_add 40 = .ok (.getfield 26, 3) := by decide +kernel
theorem d_Frames_add_43 : decode c_Frames_add 43 = .ok (.iload 8, 2) := by decide +kernel
theorem d_Frames_add_45 : decode c_Frames_add 45 = .ok (.lload 5, 2) := by decide +kernel
theorem d_Frames_add_47 : decode c_Frames_add 47 = .ok (.lastore, 1) := by decide +kernel
theorem d_Frames_add_48 : decode c_Frames_add 48 = .ok (.aload_n 0, 1) := by decide +kernel
theorem d_Frames_add_49 : decode c_Frames_add 49 = .ok (.getfield 30, 3) := by decide +kernel
theorem d_Frames_add_52 : decode c_Frames_add 52 = .ok (.iload 8, 2) := by decide +kernel
theorem d_Frames_add_54 : decode c_Frames_add 54 = .ok (.iload 7, 2) := by decide +kernel
theorem d_Frames_add_56 : decode c_Frames_add 56 = .ok (.iastore, 1) := by decide +kernel
theorem d_Frames_add_57 : decode c_Frames_add 57 = .ok (.aload_n 0, 1) := by decide +kernel
theorem d_Frames_add_58 : decode c_Frames_add 58 = .ok (.getfield 33, 3) := by decide +kernel
theorem d_Frames_add_61 : decode c_Frames_add 61 = .ok (.iload 8, 2) := by decide +kernel
theorem d_Frames_add_63 : decode c_Frames_add 63 = .ok (.iload_n 1, 1) := by decide +kernel
theorem d_Frames_add_64 : decode c_Frames_add 64 = .ok (.iconst 2, 1) := by decide +kernel
theorem d_Frames_add_65 : decode c_Frames_add 65 = .ok (.if_icmp .ne 15, 3) := by decide +kernel
theorem d_Frames_add_68 : decode c_Frames_add 68 = .ok (.aload_n 0, 1) := by decide +kernel
theorem d_Frames_add_69 : decode c_Frames_add 69 = .ok (.getfield 33, 3) := by decide +kernel
theorem d_Frames_add_72 : decode c_Frames_add 72 = .ok (.iload 7, 2) := by decide +kernel
theorem d_Frames_add_74 : decode c_Frames_add 74 = .ok (.iaload, 1) := by decide +kernel
theorem d_Frames_add_75 : decode c_Frames_add 75 = .ok (.iconst 1, 1) := by decide +kernel
theorem d_Frames_add_76 : decode c_Frames_add 76 = .ok (.iadd, 1) := by decide +kernel
theorem d_Frames_add_77 : decode c_Frames_add 77 = .ok (.goto 10, 3) := by decide +kernel
theorem d_Frames_add_80 : decode c_Frames_add 80 = .ok (.aload_n 0, 1) := by decide +kernel
theorem d_Frames_add_81 : decode c_Frames_add 81 = .ok (.getfield 33, 3) := by decide +kernel
theorem d_Frames_add_84 : decode c_Frames_add 84 = .ok (.iload 7, 2) := by decide +kernel
theorem d_Frames_add_86 : decode c_Frames_add 86 = .ok (.iaload, 1) := by decide +kernel
theorem d_Frames_add_87 : decode c_Frames_add 87 = .ok (.iastore, 1) := by decide +kernel
theorem d_Frames_add_88 : decode c_Frames_add 88 = .ok (.aload_n 0, 1) := by decide +kernel
theorem d_Frames_add_89 : decode c_Frames_add 89 = .ok (.dup, 1) := by decide +kernel
theorem d_Frames_add_90 : decode c_Frames_add 90 = .ok (.getfield 7, 3) := by decide +kernel
theorem d_Frames_add_93 : decode c_Frames_add 93 = .ok (.iconst 1, 1) := by decide +kernel
theorem d_Frames_add_94 : decode c_Frames_add 94 = .ok (.iadd, 1) := by decide +kernel
theorem d_Frames_add_95 : decode c_Frames_add 95 = .ok (.putfield 7, 3) := by decide +kernel
theorem d_Frames_add_98 : decode c_Frames_add 98 = .ok (.iload 8, 2) := by decide +kernel
theorem d_Frames_add_100 : decode c_Frames_add 100 = .ok (.ireturn, 1) := by decide +kernel
theorem d_Matcher_init_0 : decode c_Matcher_init 0 = .ok (.aload_n 0, 1) := by decide +kernel
theorem d_Matcher_init_1 : decode c_Matcher_init 1 = .ok (.invokespecial 3, 3) := by decide +kernel
theorem d_Matcher_init_4 : decode c_Matcher_init 4 = .ok (.aload_n 0, 1) := by decide +kernel
theorem d_Matcher_init_5 : decode c_Matcher_init 5 = .ok (.new 9, 3) := by decide +kernel
theorem d_Matcher_init_8 : decode c_Matcher_init 8 = .ok (.dup, 1) := by decide +kernel
theorem d_Matcher_init_9 : decode c_Matcher_init 9 = .ok (.bipush 40, 2) := by decide +kernel
theorem d_Matcher_init_11 : decode c_Matcher_init 11 = .ok (.invokespecial 11, 3) := by decide +kernel
theorem d_Matcher_init_14 : decode c_Matcher_init 14 = .ok (.putfield 14, 3) := by decide +kernel
theorem d_Matcher_init_17 : decode c_Matcher_init 17 = .ok (.aload_n 0, 1) := by decide +kernel
theorem d_Matcher_init_18 : decode c_Matcher_init 18 = .ok (.new 20, 3) := by decide +kernel
theorem d_Matcher_init_21 : decode c_Matcher_init 21 = .ok (.dup, 1) := by decide +kernel
theorem d_Matcher_init_22 : decode c_Matcher_init 22 = .ok (.invokespecial 22, 3) := by decide +kernel
theorem d_Matcher_init_25 : decode c_Matcher_init 25 = .ok (.putfield 23, 3) := by decide +kernel
theorem d_Matcher_init_28 : decode c_Matcher_init 28 = .ok (.aload_n 0, 1) := by decide +kernel
theorem d_Matcher_init_29 : decode c_Matcher_init 29 = .ok (.bipush 9, 2) := by decide +kernel
theorem d_Matcher_init_31 : decode c_Matcher_init 31 = .ok (.putfield 27, 3) := by decide +kernel
theorem d_Matcher_init_34 : decode c_Matcher_init 34 = .ok (.aload_n 0, 1) := by decide +kernel
theorem d_Matcher_init_35 : decode c_Matcher_init 35 = .ok (.iconst (-1), 1) := by decide +kernel
theorem d_Matcher_init_36 : decode c_Matcher_init 36 = .ok (.putfield 31, 3) := by decide +kernel
theorem d_Matcher_init_39 : decode c_Matcher_init 39 = .ok (.aload_n 0, 1) := by decide +kernel
theorem d_Matcher_init_40 : decode c_Matcher_init 40 = .ok (.iconst 0, 1) := by decide +kernel
theorem d_Matcher_init_41 : decode c_Matcher_init 41 = .ok (.putfield 34, 3) := by decide +kernel
theorem d_Matcher_init_44 : decode c_Matcher_init 44 = .ok (.aload_n 0, 1) := by decide +kernel
theorem d_Matcher_init_45 : decode c_Matcher_init 45 = .ok (.iconst 0, 1) := by decide +kernel
theorem d_Matcher_init_46 : decode c_Matcher_init 46 = .ok (.putfield 37, 3) := by decide +kernel
theorem d_Matcher_init_49 : decode c_Matcher_init 49 = .ok (.aload_n 0, 1) := by decide +kernel
theorem d_Matcher_init_50 : decode c_Matcher_init 50 = .ok (.lconst 0, 1) := by decide +kernel
theorem d_Matcher_init_51 : decode c_Matcher_init 51 = .ok (.putfield 40, 3) := by decide +kernel
theorem d_Matcher_init_54 : decode c_Matcher_init 54 = .ok (.aload_n 0, 1) := by decide +kernel
theorem d_Matcher_init_55 : decode c_Matcher_init 55 = .ok (.iconst 0, 1) := by decide +kernel
theorem d_Matcher_init_56 : decode c_Matcher_init 56 = .ok (.putfield 44, 3) := by decide +kernel
theorem d_Matcher_init_59 : decode c_Matcher_init 59 = .ok (.aload_n 0, 1) := by decide +kernel
theorem d_Matcher_init_60 : decode c_Matcher_init 60 = .ok (.iload_n 1, 1) := by decide +kernel
theorem d_Matcher_init_61 : decode c_Matcher_init 61 = .ok (.putfield 47, 3) := by decide +kernel
theorem d_Matcher_init_64 : decode c_Matcher_init 64 = .ok (.aload_n 0, 1) := by decide +kernel
theorem d_Matcher_init_65 : decode c_Matcher_init 65 = .ok (.new 50, 3) := by decide +kernel
theorem d_Matcher_init_68 : decode c_Matcher_init 68 = .ok (.dup, 1) := by decide +kernel
theorem d_Matcher_init_69 : decode c_Matcher_init 69 = .ok (.iconst 3, 1) := by decide +kernel
theorem d_Matcher_init_70 : decode c_Matcher_init 70 = .ok (.iload_n 1, 1) := by decide +kernel
theorem d_Matcher_init_71 : decode c_Matcher_init 71 = .ok (.iconst 1, 1) := by decide +kernel
theorem d_Matcher_init_72 : decode c_Matcher_init 72 = .ok (.iadd, 1) := by decide +kernel
theorem d_Matcher_init_73 : decode c_Matcher_init 73 = .ok (.imul, 1) := by decide +kernel
theorem d_Matcher_init_74 : decode c_Matcher_init 74 = .ok (.iconst 4, 1) := by decide +kernel
theorem d_Matcher_init_75 : decode c_Matcher_init 75 = .ok (.iadd, 1) := by decide +kernel
theorem d_Matcher_init_76 : decode c_Matcher_init 76 = .ok (.invokespecial 52, 3) := by decide +kernel
theorem d_Matcher_init_79 : decode c_Matcher_init 79 = .ok (.putfield 53, 3) := by decide +kernel
theorem d_Matcher_init_82 : decode c_Matcher_init 82 = .ok (.aload_n 0, 1) := by decide +kernel
theorem d_Matcher_init_83 : decode c_Matcher_init 83 = .ok (.new 57, 3) := by decide +kernel
theorem d_Matcher_init_86 : decode c_Matcher_init 86 = .ok (.dup, 1) := by decide +kernel
theorem d_Matcher_init_87 : decode c_Matcher_init 87 = .ok (.bipush 13, 2) := by decide +kernel
theorem d_Matcher_init_89 : decode c_Matcher_init 89 = .ok (.iload_n 1, 1) := by decide +kernel
theorem d_Matcher_init_90 : decode c_Matcher_init 90 = .ok (.iconst 1, 1) := by decide +kernel
theorem d_Matcher_init_91 : decode c_Matcher_init 91 = .ok (.iadd, 1) := by decide +kernel
theorem d_Matcher_init_92 : decode c_Matcher_init 92 = .ok (.imul, 1) := by decide +kernel
theorem d_Matcher_init_93 : decode c_Matcher_init 93 = .ok (.iconst 4, 1) := by decide +kernel
theorem d_Matcher_init_94 : decode c_Matcher_init 94 = .ok (.iadd, 1) := by decide +kernel
theorem d_Matcher_init_95 : decode c_Matcher_init 95 = .ok (.invokespecial 59, 3) := by decide +kernel
theorem d_Matcher_init_98 : decode c_Matcher_init 98 = .ok (.putfield 60, 3) := by decide +kernel
theorem d_Matcher_init_101 : decode c_Matcher_init 101 = .ok (.return_, 1) := by decide +kernel
theorem d_Matcher_find_0 : decode c_Matcher_find 0 = .ok (.aload_n 0, 1) := by decide +kernel
theorem d_Matcher_find_1 : decode c_Matcher_find 1 = .ok (.iconst 0, 1) := by decide +kernel
theorem d_Matcher_find_2 : decode c_Matcher_find 2 = .ok (.putfield 44, 3) := by decide +kernel
theorem d_Matcher_find_5 : decode c_Matcher_find 5 = .ok (.iload_n 1, 1) := by decide +kernel
theorem d_Matcher_find_6 : decode c_Matcher_find 6 = .ok (.istore_n 2, 1) := by decide +kernel
theorem d_Matcher_find_7 : decode c_Matcher_find 7 = .ok (.iload_n 2, 1) := by decide +kernel
theorem d_Matcher_find_8 : decode c_Matcher_find 8 = .ok (.aload_n 0, 1) := by decide +kernel
theorem d_Matcher_find_9 : decode c_Matcher_find 9 = .ok (.getfield 14, 3) := by decide +kernel
theorem d_Matcher_find_12 : decode c_Matcher_find 12 = .ok (.getfield 64, 3) := by decide +kernel
theorem d_Matcher_find_15 : decode c_Matcher_find 15 = .ok (.if_icmp .gt 64, 3) := by decide +kernel
theorem d_Matcher_find_18 : decode c_Matcher_find 18 = .ok (.aload_n 0, 1) := by decide +kernel
theorem d_Matcher_find_19 : decode c_Matcher_find 19 = .ok (.iload_n 2, 1) := by decide +kernel
theorem d_Matcher_find_20 : decode c_Matcher_find 20 = .ok (.invokevirtual 67, 3) := by decide +kernel
theorem d_Matcher_find_23 : decode c_Matcher_find 23 = .ok (.iconst 0, 1) := by decide +kernel
theorem d_Matcher_find_24 : decode c_Matcher_find 24 = .ok (.istore_n 3, 1) := by decide +kernel
theorem d_Matcher_find_25 : decode c_Matcher_find 25 = .ok (.iload_n 3, 1) := by decide +kernel
theorem d_Matcher_find_26 : decode c_Matcher_find 26 = .ok (.ldc 70, 2) := by decide +kernel
theorem d_Matcher_find_28 : decode c_Matcher_find 28 = .ok (.if_icmp .ge 20, 3) := by decide +kernel
theorem d_Matcher_find_31 : decode c_Matcher_find 31 = .ok (.aload_n 0, 1) := by decide +kernel
theorem d_Matcher_find_32 : decode c_Matcher_find 32 = .ok (.invokevirtual 71, 3) := by decide +kernel
theorem d_Matcher_find_35 : decode c_Matcher_find 35 = .ok (.ifCond .eq 13, 3) := by decide +kernel
theorem d_Matcher_find_38 : decode c_Matcher_find 38 = .ok (.aload_n 0, 1) := by decide +kernel
theorem d_Matcher_find_39 : decode c_Matcher_find 39 = .ok (.invokevirtual 75, 3) := by decide +kernel
theorem d_Matcher_find_42 : decode c_Matcher_find 42 = .ok (.iinc 3 1, 3) := by decide +kernel
theorem d_Matcher_find_45 : decode c_Matcher_find 45 = .ok (.goto (-20), 3) := by decide +kernel
theorem d_Matcher_find_48 : decode c_Matcher_find 48 = .ok (.aload_n 0, 1) := by decide +kernel
theorem d_Matcher_find_49 : decode c_Matcher_find 49 = .ok (.getfield 27, 3) := by decide +kernel
theorem d_Matcher_find_52 : decode c_Matcher_find 52 = .ok (.bipush 9, 2) := by decide +kernel
theorem d_Matcher_find_54 : decode c_Matcher_find 54 = .ok (.if_icmp .eq 19, 3) := by decide +kernel
theorem d_Matcher_find_57 : decode c_Matcher_find 57 = .ok (.aload_n 0, 1) := by decide +kernel
theorem d_Matcher_find_58 : decode c_Matcher_find 58 = .ok (.getfield 27, 3) := by decide +kernel
theorem d_Matcher_find_61 : decode c_Matcher_find 61 = .ok (.bipush 8, 2) := by decide +kernel
theorem d_Matcher_find_63 : decode c_Matcher_find 63 = .ok (.if_icmp .ne 7, 3) := by decide +kernel
theorem d_Matcher_find_66 : decode c_Matcher_find 66 = .ok (.iload_n 2, 1) := by decide +kernel
theorem d_Matcher_find_67 : decode c_Matcher_find 67 = .ok (.goto 5, 3) := by decide +kernel
theorem d_Matcher_find_70 : decode c_Matcher_find 70 = .ok (.bipush (-5), 2) := by decide +kernel
theorem d_Matcher_find_72 : decode c_Matcher_find 72 = .ok (.ireturn, 1) := by decide +kernel
theorem d_Matcher_find_73 : decode c_Matcher_find 73 = .ok (.iinc 2 1, 3) := by decide +kernel
theorem d_Matcher_find_76 : decode c_Matcher_find 76 = .ok (.goto (-69), 3) := by decide +kernel
theorem d_Matcher_find_79 : decode c_Matcher_find 79 = .ok (.bipush (-4), 2) := by decide +kernel
theorem d_Matcher_find_81 : decode c_Matcher_find 81 = .ok (.ireturn, 1) := by decide +kernel
theorem d_Matcher_beginAt_0 : decode c_Matcher_beginAt 0 = .ok (.aload_n 0, 1) := by decide +kernel
theorem d_Matcher_beginAt_1 : decode c_Matcher_beginAt 1 = .ok (.getfield 53, 3) := by decide +kernel
theorem d_Matcher_beginAt_4 : decode c_Matcher_beginAt 4 = .ok (.invokevirtual 78, 3) := by decide +kernel
theorem d_Matcher_beginAt_7 : decode c_Matcher_beginAt 7 = .ok (.aload_n 0, 1) := by decide +kernel
theorem d_Matcher_beginAt_8 : decode c_Matcher_beginAt 8 = .ok (.getfield 60, 3) := by decide +kernel
theorem d_Matcher_beginAt_11 : decode c_Matcher_beginAt 11 = .ok (.iconst 0, 1) := by decide +kernel
theorem d_Matcher_beginAt_12 : decode c_Matcher_beginAt 12 = .ok (.invokevirtual 81, 3) := by decide +kernel
theorem d_Matcher_beginAt_15 : decode c_Matcher_beginAt 15 = .ok (.aload_n 0, 1) := by decide +kernel
theorem d_Matcher_beginAt_16 : decode c_Matcher_beginAt 16 = .ok (.iconst 0, 1) := by decide +kernel
theorem d_Matcher_beginAt_17 : decode c_Matcher_beginAt 17 = .ok (.putfield 34, 3) := by decide +kernel
theorem d_Matcher_beginAt_20 : decode c_Matcher_beginAt 20 = .ok (.aload_n 0, 1) := by decide +kernel
theorem d_Matcher_beginAt_21 : decode c_Matcher_beginAt 21 = .ok (.iload_n 1, 1) := by decide +kernel
theorem d_Matcher_beginAt_22 : decode c_Matcher_beginAt 22 = .ok (.putfield 37, 3) := by decide +kernel
theorem d_Matcher_beginAt_25 : decode c_Matcher_beginAt 25 = .ok (.aload_n 0, 1) := by decide +kernel
theorem d_Matcher_beginAt_26 : decode c_Matcher_beginAt 26 = .ok (.lconst 0, 1) := by decide +kernel
theorem d_Matcher_beginAt_27 : decode c_Matcher_beginAt 27 = .ok (.putfield 40, 3) := by decide +kernel
theorem d_Matcher_beginAt_30 : decode c_Matcher_beginAt 30 = .ok (.aload_n 0, 1) := by decide +kernel
theorem d_Matcher_beginAt_31 : decode c_Matcher_beginAt 31 = .ok (.iconst 0, 1) := by decide +kernel
theorem d_Matcher_beginAt_32 : decode c_Matcher_beginAt 32 = .ok (.aload_n 0, 1) := by decide +kernel
theorem d_Matcher_beginAt_33 : decode c_Matcher_beginAt 33 = .ok (.getfield 23, 3) := by decide +kernel
theorem d_Matcher_beginAt_36 : decode c_Matcher_beginAt 36 = .ok (.getfield 84, 3) := by decide +kernel
theorem d_Matcher_beginAt_39 : decode c_Matcher_beginAt 39 = .ok (.iconst 0, 1) := by decide +kernel
theorem d_Matcher_beginAt_40 : decode c_Matcher_beginAt 40 = .ok (.iaload, 1) := by decide +kernel
theorem d_Matcher_beginAt_41 : decode c_Matcher_beginAt 41 = .ok (.invokevirtual 88, 3) := by decide +kernel
theorem d_Matcher_beginAt_44 : decode c_Matcher_beginAt 44 = .ok (.return_, 1) := by decide +kernel
theorem d_Matcher_goesOn_0 : decode c_Matcher_goesOn 0 = .ok (.aload_n 0, 1) := by decide +kernel
theorem d_Matcher_goesOn_1 : decode c_Matcher_goesOn 1 = .ok (.getfield 27, 3) := by decide +kernel
theorem d_Matcher_goesOn_4 : decode c_Matcher_goesOn 4 = .ok (.bipush 8, 2) := by decide +kernel
theorem d_Matcher_goesOn_6 : decode c_Matcher_goesOn 6 = .ok (.if_icmp .ge 29, 3) := by decide +kernel
theorem d_Matcher_goesOn_9 : decode c_Matcher_goesOn 9 = .ok (.aload_n 0, 1) := by decide +kernel
theorem d_Matcher_goesOn_10 : decode c_Matcher_goesOn 10 = .ok (.getfield 53, 3) := by decide +kernel
theorem d_Matcher_goesOn_13 : decode c_Matcher_goesOn 13 = .ok (.iconst 2, 1) := by decide +kernel
theorem d_Matcher_goesOn_14 : decode c_Matcher_goesOn 14 = .ok (.invokevirtual 92, 3) := by decide +kernel
theorem d_Matcher_goesOn_17 : decode c_Matcher_goesOn 17 = .ok (.ifCond .eq 18, 3) := by decide +kernel
theorem d_Matcher_goesOn_20 : decode c_Matcher_goesOn 20 = .ok (.aload_n 0, 1) := by decide +kernel
theorem d_Matcher_goesOn_21 : decode c_Matcher_goesOn 21 = .ok (.getfield 60, 3) := by decide +kernel
theorem d_Matcher_goesOn_24 : decode c_Matcher_goesOn 24 = .ok (.iconst 1, 1) := by decide +kernel
theorem d_Matcher_goesOn_25 : decode c_Matcher_goesOn 25 = .ok (.invokevirtual 96, 3) := by decide +kernel
theorem d_Matcher_goesOn_28 : decode c_Matcher_goesOn 28 = .ok (.ifCond .eq 7, 3) := by decide +kernel
theorem d_Matcher_goesOn_31 : decode c_Matcher_goesOn 31 = .ok (.iconst 1, 1) := by decide +kernel
theorem d_Matcher_goesOn_32 : decode c_Matcher_goesOn 32 = .ok (.goto 4, 3) := by decide +kernel
theorem d_Matcher_goesOn_35 : decode c_Matcher_goesOn 35 = .ok (.iconst 0, 1) := by decide +kernel
theorem d_Matcher_goesOn_36 : decode c_Matcher_goesOn 36 = .ok (.ireturn, 1) := by decide +kernel
theorem d_Matcher_go_0 : decode c_Matcher_go 0 = .ok (.aload_n 0, 1) := by decide +kernel
theorem d_Matcher_go_1 : decode c_Matcher_go 1 = .ok (.iload_n 1, 1) := by decide +kernel
theorem d_Matcher_go_2 : decode c_Matcher_go 2 = .ok (.putfield 27, 3) := by decide +kernel
theorem d_Matcher_go_5 : decode c_Matcher_go 5 = .ok (.aload_n 0, 1) := by decide +kernel
theorem d_Matcher_go_6 : decode c_Matcher_go 6 = .ok (.iload_n 2, 1) := by decide +kernel
theorem d_Matcher_go_7 : decode c_Matcher_go 7 = .ok (.putfield 31, 3) := by decide +kernel
theorem d_Matcher_go_10 : decode c_Matcher_go 10 = .ok (.return_, 1) := by decide +kernel
theorem d_Matcher_takeTurn_0 : decode c_Matcher_takeTurn 0 = .ok (.aload_n 0, 1) := by decide +kernel
theorem d_Matcher_takeTurn_1 : decode c_Matcher_takeTurn 1 = .ok (.getfield 27, 3) := by decide +kernel
theorem d_Matcher_takeTurn_4 : decode c_Matcher_takeTurn 4 = .ok (.tableswitch 121 0 6 #[44, 55, 66, 77, 88, 99, 110], 44) := by decide +kernel
theorem d_Matcher_takeTurn_48 : decode c_Matcher_takeTurn 48 = .ok (.aload_n 0, 1) := by decide +kernel
theorem d_Matcher_takeTurn_49 : decode c_Matcher_takeTurn 49 = .ok (.aload_n 0, 1) := by decide +kernel
theorem d_Matcher_takeTurn_50 : decode c_Matcher_takeTurn 50 = .ok (.getfield 31, 3) := by decide +kernel
theorem d_Matcher_takeTurn_53 : decode c_Matcher_takeTurn 53 = .ok (.invokevirtual 97, 3) := by decide +kernel
theorem d_Matcher_takeTurn_56 : decode c_Matcher_takeTurn 56 = .ok (.goto 73, 3) := by decide +kernel
theorem d_Matcher_takeTurn_59 : decode c_Matcher_takeTurn 59 = .ok (.aload_n 0, 1) := by decide +kernel
theorem d_Matcher_takeTurn_60 : decode c_Matcher_takeTurn 60 = .ok (.aload_n 0, 1) := by decide +kernel
theorem d_Matcher_takeTurn_61 : decode c_Matcher_takeTurn 61 = .ok (.getfield 31, 3) := by decide +kernel
theorem d_Matcher_takeTurn_64 : decode c_Matcher_takeTurn 64 = .ok (.invokevirtual 100, 3) := by decide +kernel
theorem d_Matcher_takeTurn_67 : decode c_Matcher_takeTurn 67 = .ok (.goto 62, 3) := by decide +kernel
theorem d_Matcher_takeTurn_70 : decode c_Matcher_takeTurn 70 = .ok (.aload_n 0, 1) := by decide +kernel
theorem d_Matcher_takeTurn_71 : decode c_Matcher_takeTurn 71 = .ok (.aload_n 0, 1) := by decide +kernel
theorem d_Matcher_takeTurn_72 : decode c_Matcher_takeTurn 72 = .ok (.getfield 31, 3) := by decide +kernel
theorem d_Matcher_takeTurn_75 : decode c_Matcher_takeTurn 75 = .ok (.invokevirtual 103, 3) := by decide +kernel
theorem d_Matcher_takeTurn_78 : decode c_Matcher_takeTurn 78 = .ok (.goto 51, 3) := by decide +kernel
theorem d_Matcher_takeTurn_81 : decode c_Matcher_takeTurn 81 = .ok (.aload_n 0, 1) := by decide +kernel
theorem d_Matcher_takeTurn_82 : decode c_Matcher_takeTurn 82 = .ok (.aload_n 0, 1) := by decide +kernel
theorem d_Matcher_takeTurn_83 : decode c_Matcher_takeTurn 83 = .ok (.getfield 31, 3) := by decide +kernel
theorem d_Matcher_takeTurn_86 : decode c_Matcher_takeTurn 86 = .ok (.invokevirtual 106, 3) := by decide +kernel
theorem d_Matcher_takeTurn_89 : decode c_Matcher_takeTurn 89 = .ok (.goto 40, 3) := by decide +kernel
theorem d_Matcher_takeTurn_92 : decode c_Matcher_takeTurn 92 = .ok (.aload_n 0, 1) := by decide +kernel
theorem d_Matcher_takeTurn_93 : decode c_Matcher_takeTurn 93 = .ok (.aload_n 0, 1) := by decide +kernel
theorem d_Matcher_takeTurn_94 : decode c_Matcher_takeTurn 94 = .ok (.getfield 31, 3) := by decide +kernel
theorem d_Matcher_takeTurn_97 : decode c_Matcher_takeTurn 97 = .ok (.invokevirtual 109, 3) := by decide +kernel
theorem d_Matcher_takeTurn_100 : decode c_Matcher_takeTurn 100 = .ok (.goto 29, 3) := by decide +kernel
theorem d_Matcher_takeTurn_103 : decode c_Matcher_takeTurn 103 = .ok (.aload_n 0, 1) := by decide +kernel
theorem d_Matcher_takeTurn_104 : decode c_Matcher_takeTurn 104 = .ok (.aload_n 0, 1) := by decide +kernel
theorem d_Matcher_takeTurn_105 : decode c_Matcher_takeTurn 105 = .ok (.getfield 31, 3) := by decide +kernel
theorem d_Matcher_takeTurn_108 : decode c_Matcher_takeTurn 108 = .ok (.invokevirtual 112, 3) := by decide +kernel
theorem d_Matcher_takeTurn_111 : decode c_Matcher_takeTurn 111 = .ok (.goto 18, 3) := by decide +kernel
theorem d_Matcher_takeTurn_114 : decode c_Matcher_takeTurn 114 = .ok (.aload_n 0, 1) := by decide +kernel
theorem d_Matcher_takeTurn_115 : decode c_Matcher_takeTurn 115 = .ok (.aload_n 0, 1) := by decide +kernel
theorem d_Matcher_takeTurn_116 : decode c_Matcher_takeTurn 116 = .ok (.getfield 34, 3) := by decide +kernel
theorem d_Matcher_takeTurn_119 : decode c_Matcher_takeTurn 119 = .ok (.invokevirtual 115, 3) := by decide +kernel
theorem d_Matcher_takeTurn_122 : decode c_Matcher_takeTurn 122 = .ok (.goto 7, 3) := by decide +kernel
theorem d_Matcher_takeTurn_125 : decode c_Matcher_takeTurn 125 = .ok (.aload_n 0, 1) := by decide +kernel
theorem d_Matcher_takeTurn_126 : decode c_Matcher_takeTurn 126 = .ok (.invokevirtual 118, 3) := by decide +kernel
theorem d_Matcher_takeTurn_129 : decode c_Matcher_takeTurn 129 = .ok (.return_, 1) := by decide +kernel
theorem d_Matcher_enterRow_0 : decode c_Matcher_enterRow 0 = .ok (.aload_n 0, 1) := by decide +kernel
theorem d_Matcher_enterRow_1 : decode c_Matcher_enterRow 1 = .ok (.getfield 23, 3) := by decide +kernel
theorem d_Matcher_enterRow_4 : decode c_Matcher_enterRow 4 = .ok (.getfield 121, 3) := by decide +kernel
theorem d_Matcher_enterRow_7 : decode c_Matcher_enterRow 7 = .ok (.iload_n 1, 1) := by decide +kernel
theorem d_Matcher_enterRow_8 : decode c_Matcher_enterRow 8 = .ok (.iaload, 1) := by decide +kernel
theorem d_Matcher_enterRow_9 : decode c_Matcher_enterRow 9 = .ok (.istore_n 2, 1) := by decide +kernel
theorem d_Matcher_enterRow_10 : decode c_Matcher_enterRow 10 = .ok (.iload_n 2, 1) := by decide +kernel
theorem d_Matcher_enterRow_11 : decode c_Matcher_enterRow 11 = .ok (.iconst (-1), 1) := by decide +kernel
theorem d_Matcher_enterRow_12 : decode c_Matcher_enterRow 12 = .ok (.if_icmp .eq 24, 3) := by decide +kernel
theorem d_Matcher_enterRow_15 : decode c_Matcher_enterRow 15 = .ok (.aload_n 0, 1) := by decide +kernel
theorem d_Matcher_enterRow_16 : decode c_Matcher_enterRow 16 = .ok (.getfield 60, 3) := by decide +kernel
theorem d_Matcher_enterRow_19 : decode c_Matcher_enterRow 19 = .ok (.iconst 0, 1) := by decide +kernel
theorem d_Matcher_enterRow_20 : decode c_Matcher_enterRow 20 = .ok (.iload_n 2, 1) := by decide +kernel
theorem d_Matcher_enterRow_21 : decode c_Matcher_enterRow 21 = .ok (.aload_n 0, 1) := by decide +kernel
theorem d_Matcher_enterRow_22 : decode c_Matcher_enterRow 22 = .ok (.getfield 37, 3) := by decide +kernel
theorem d_Matcher_enterRow_25 : decode c_Matcher_enterRow 25 = .ok (.aload_n 0, 1) := by decide +kernel
theorem d_Matcher_enterRow_26 : decode c_Matcher_enterRow 26 = .ok (.getfield 40, 3) := by decide +kernel
theorem d_Matcher_enterRow_29 : decode c_Matcher_enterRow 29 = .ok (.aload_n 0, 1) := by decide +kernel
theorem d_Matcher_enterRow_30 : decode c_Matcher_enterRow 30 = .ok (.getfield 34, 3) := by decide +kernel
theorem d_Matcher_enterRow_33 : decode c_Matcher_enterRow 33 = .ok (.invokevirtual 124, 3) := by decide +kernel
theorem d_Matcher_enterRow_36 : decode c_Matcher_enterRow 36 = .ok (.aload_n 0, 1) := by decide +kernel
theorem d_Matcher_enterRow_37 : decode c_Matcher_enterRow 37 = .ok (.iconst 1, 1) := by decide +kernel
theorem d_Matcher_enterRow_38 : decode c_Matcher_enterRow 38 = .ok (.aload_n 0, 1) := by decide +kernel
theorem d_Matcher_enterRow_39 : decode c_Matcher_enterRow 39 = .ok (.getfield 23, 3) := by decide +kernel
theorem d_Matcher_enterRow_42 : decode c_Matcher_enterRow 42 = .ok (.getfield 128, 3) := by decide +kernel
theorem d_Matcher_enterRow_45 : decode c_Matcher_enterRow 45 = .ok (.iload_n 1, 1) := by decide +kernel
theorem d_Matcher_enterRow_46 : decode c_Matcher_enterRow 46 = .ok (.iaload, 1) := by decide +kernel
theorem d_Matcher_enterRow_47 : decode c_Matcher_enterRow 47 = .ok (.invokevirtual 88, 3) := by decide +kernel
theorem d_Matcher_enterRow_50 : decode c_Matcher_enterRow 50 = .ok (.return_, 1) := by decide +kernel
theorem d_Matcher_enterItem_0 : decode c_Matcher_enterItem 0 = .ok (.iload_n 1, 1) := by decide +kernel
theorem d_Matcher_enterItem_1 : decode c_Matcher_enterItem 1 = .ok (.iconst (-1), 1) := by decide +kernel
theorem d_Matcher_enterItem_2 : decode c_Matcher_enterItem 2 = .ok (.if_icmp .ne 10, 3) := by decide +kernel
theorem d_Matcher_enterItem_5 : decode c_Matcher_enterItem 5 = .ok (.aload_n 0, 1) := by decide +kernel
theorem d_Matcher_enterItem_6 : decode c_Matcher_enterItem 6 = .ok (.bipush 6, 2) := by decide +kernel
theorem d_Matcher_enterItem_8 : decode c_Matcher_enterItem 8 = .ok (.putfield 27, 3) := by decide +kernel
theorem d_Matcher_enterItem_11 : decode c_Matcher_enterItem 11 = .ok (.return_, 1) := by decide +kernel
theorem d_Matcher_enterItem_12 : decode c_Matcher_enterItem 12 = .ok (.aload_n 0, 1) := by decide +kernel
theorem d_Matcher_enterItem_13 : decode c_Matcher_enterItem 13 = .ok (.getfield 23, 3) := by decide +kernel
theorem d_Matcher_enterItem_16 : decode c_Matcher_enterItem 16 = .ok (.getfield 131, 3) := by decide +kernel
theorem d_Matcher_enterItem_19 : decode c_Matcher_enterItem 19 = .ok (.iload_n 1, 1) := by decide +kernel
theorem d_Matcher_enterItem_20 : decode c_Matcher_enterItem 20 = .ok (.iaload, 1) := by decide +kernel
theorem d_Matcher_enterItem_21 : decode c_Matcher_enterItem 21 = .ok (.istore_n 2, 1) := by decide +kernel
theorem d_Matcher_enterItem_22 : decode c_Matcher_enterItem 22 = .ok (.iload_n 2, 1) := by decide +kernel
theorem d_Matcher_enterItem_23 : decode c_Matcher_enterItem 23 = .ok (.iconst 1, 1) := by decide +kernel
theorem d_Matcher_enterItem_24 : decode c_Matcher_enterItem 24 = .ok (.if_icmp .ne 18, 3) := by decide +kernel
theorem d_Matcher_enterItem_27 : decode c_Matcher_enterItem 27 = .ok (.aload_n 0, 1) := by decide +kernel
theorem d_Matcher_enterItem_28 : decode c_Matcher_enterItem 28 = .ok (.iconst 1, 1) := by decide +kernel
theorem d_Matcher_enterItem_29 : decode c_Matcher_enterItem 29 = .ok (.aload_n 0, 1) := by decide +kernel
theorem d_Matcher_enterItem_30 : decode c_Matcher_enterItem 30 = .ok (.getfield 23, 3) := by decide +kernel
theorem d_Matcher_enterItem_33 : decode c_Matcher_enterItem 33 = .ok (.getfield 134, 3) := by decide +kernel
theorem d_Matcher_enterItem_36 : decode c_Matcher_enterItem 36 = .ok (.iload_n 1, 1) := by decide +kernel
theorem d_Matcher_enterItem_37 : decode c_Matcher_enterItem 37 = .ok (.iaload, 1) := by decide +kernel
theorem d_Matcher_enterItem_38 : decode c_Matcher_enterItem 38 = .ok (.invokevirtual 88, 3) := by decide +kernel
theorem d_Matcher_enterItem_41 : decode c_Matcher_enterItem 41 = .ok (.return_, 1) := by decide +kernel
theorem d_Matcher_enterItem_42 : decode c_Matcher_enterItem 42 = .ok (.aload_n 0, 1) := by decide +kernel
theorem d_Matcher_enterItem_43 : decode c_Matcher_enterItem 43 = .ok (.getfield 23, 3) := by decide +kernel
theorem d_Matcher_enterItem_46 : decode c_Matcher_enterItem 46 = .ok (.getfield 137, 3) := by decide +kernel
theorem d_Matcher_enterItem_49 : decode c_Matcher_enterItem 49 = .ok (.iload_n 1, 1) := by decide +kernel
theorem d_Matcher_enterItem_50 : decode c_Matcher_enterItem 50 = .ok (.iaload, 1) := by decide +kernel
theorem d_Matcher_enterItem_51 : decode c_Matcher_enterItem 51 = .ok (.iconst 2, 1) := by decide +kernel
theorem d_Matcher_enterItem_52 : decode c_Matcher_enterItem 52 = .ok (.if_icmp .ne 36, 3) := by decide +kernel
theorem d_Matcher_enterItem_55 : decode c_Matcher_enterItem 55 = .ok (.aload_n 0, 1) := by decide +kernel
theorem d_Matcher_enterItem_56 : decode c_Matcher_enterItem 56 = .ok (.aload_n 0, 1) := by decide +kernel
theorem d_Matcher_enterItem_57 : decode c_Matcher_enterItem 57 = .ok (.getfield 53, 3) := by decide +kernel
theorem d_Matcher_enterItem_60 : decode c_Matcher_enterItem 60 = .ok (.bipush 6, 2) := by decide +kernel
theorem d_Matcher_enterItem_62 : decode c_Matcher_enterItem 62 = .ok (.iload_n 1, 1) := by decide +kernel
theorem d_Matcher_enterItem_63 : decode c_Matcher_enterItem 63 = .ok (.aload_n 0, 1) := by decide +kernel
theorem d_Matcher_enterItem_64 : decode c_Matcher_enterItem 64 = .ok (.getfield 60, 3) := by decide +kernel
theorem d_Matcher_enterItem_67 : decode c_Matcher_enterItem 67 = .ok (.getfield 140, 3) := by decide +kernel
theorem d_Matcher_enterItem_70 : decode c_Matcher_enterItem 70 = .ok (.aload_n 0, 1) := by decide +kernel
theorem d_Matcher_enterItem_71 : decode c_Matcher_enterItem 71 = .ok (.getfield 37, 3) := by decide +kernel
theorem d_Matcher_enterItem_74 : decode c_Matcher_enterItem 74 = .ok (.aload_n 0, 1) := by decide +kernel
theorem d_Matcher_enterItem_75 : decode c_Matcher_enterItem 75 = .ok (.getfield 40, 3) := by decide +kernel
theorem d_Matcher_enterItem_78 : decode c_Matcher_enterItem 78 = .ok (.aload_n 0, 1) := by decide +kernel
theorem d_Matcher_enterItem_79 : decode c_Matcher_enterItem 79 = .ok (.getfield 34, 3) := by decide +kernel
theorem d_Matcher_enterItem_82 : decode c_Matcher_enterItem 82 = .ok (.invokevirtual 143, 3) := by decide +kernel
theorem d_Matcher_enterItem_85 : decode c_Matcher_enterItem 85 = .ok (.putfield 34, 3) := by decide +kernel
theorem d_Matcher_enterItem_88 : decode c_Matcher_enterItem 88 = .ok (.iload_n 2, 1) := by decide +kernel
theorem d_Matcher_enterItem_89 : decode c_Matcher_enterItem 89 = .ok (.iconst 2, 1) := by decide +kernel
theorem d_Matcher_enterItem_90 : decode c_Matcher_enterItem 90 = .ok (.if_icmp .eq 8, 3) := by decide +kernel
theorem d_Matcher_enterItem_93 : decode c_Matcher_enterItem 93 = .ok (.iload_n 2, 1) := by decide +kernel
theorem d_Matcher_enterItem_94 : decode c_Matcher_enterItem 94 = .ok (.iconst 3, 1) := by decide +kernel
theorem d_Matcher_enterItem_95 : decode c_Matcher_enterItem 95 = .ok (.if_icmp .ne 9, 3) := by decide +kernel
theorem d_Matcher_enterItem_98 : decode c_Matcher_enterItem 98 = .ok (.aload_n 0, 1) := by decide +kernel
theorem d_Matcher_enterItem_99 : decode c_Matcher_enterItem 99 = .ok (.iload_n 1, 1) := by decide +kernel
theorem d_Matcher_enterItem_100 : decode c_Matcher_enterItem 100 = .ok (.invokevirtual 146, 3) := by decide +kernel
theorem d_Matcher_enterItem_103 : decode c_Matcher_enterItem 103 = .ok (.return_, 1) := by decide +kernel
theorem d_Matcher_enterItem_104 : decode c_Matcher_enterItem 104 = .ok (.iload_n 2, 1) := by decide +kernel
theorem d_Matcher_enterItem_105 : decode c_Matcher_enterItem 105 = .ok (.iconst 4, 1) := by decide +kernel
theorem d_Matcher_enterItem_106 : decode c_Matcher_enterItem 106 = .ok (.if_icmp .ne 32, 3) := by decide +kernel
theorem d_Matcher_enterItem_109 : decode c_Matcher_enterItem 109 = .ok (.aload_n 0, 1) := by decide +kernel
theorem d_Matcher_enterItem_110 : decode c_Matcher_enterItem 110 = .ok (.aload_n 0, 1) := by decide +kernel
theorem d_Matcher_enterItem_111 : decode c_Matcher_enterItem 111 = .ok (.getfield 53, 3) := by decide +kernel
theorem d_Matcher_enterItem_114 : decode c_Matcher_enterItem 114 = .ok (.iconst 4, 1) := by decide +kernel
theorem d_Matcher_enterItem_115 : decode c_Matcher_enterItem 115 = .ok (.iload_n 1, 1) := by decide +kernel
theorem d_Matcher_enterItem_116 : decode c_Matcher_enterItem 116 = .ok (.iconst 0, 1) := by decide +kernel
theorem d_Matcher_enterItem_117 : decode c_Matcher_enterItem 117 = .ok (.aload_n 0, 1) := by decide +kernel
theorem d_Matcher_enterItem_118 : decode c_Matcher_enterItem 118 = .ok (.getfield 37, 3) := by decide +kernel
theorem d_Matcher_enterItem_121 : decode c_Matcher_enterItem 121 = .ok (.aload_n 0, 1) := by decide +kernel
theorem d_Matcher_enterItem_122 : decode c_Matcher_enterItem 122 = .ok (.getfield 40, 3) := by decide +kernel
theorem d_Matcher_enterItem_125 : decode c_Matcher_enterItem 125 = .ok (.aload_n 0, 1) := by decide +kernel
theorem d_Matcher_enterItem_126 : decode c_Matcher_enterItem 126 = .ok (.getfield 34, 3) := by decide +kernel
theorem d_Matcher_enterItem_129 : decode c_Matcher_enterItem 129 = .ok (.invokevirtual 143, 3) := by decide +kernel
theorem d_Matcher_enterItem_132 : decode c_Matcher_enterItem 132 = .ok (.putfield 34, 3) := by decide +kernel
theorem d_Matcher_enterItem_135 : decode c_Matcher_enterItem 135 = .ok (.goto 42, 3) := by decide +kernel
theorem d_Matcher_enterItem_138 : decode c_Matcher_enterItem 138 = .ok (.iload_n 2, 1) := by decide +kernel
theorem d_Matcher_enterItem_139 : decode c_Matcher_enterItem 139 = .ok (.iconst 5, 1) := by decide +kernel
theorem d_Matcher_enterItem_140 : decode c_Matcher_enterItem 140 = .ok (.if_icmp .ne 37, 3) := by decide +kernel
theorem d_Matcher_enterItem_143 : decode c_Matcher_enterItem 143 = .ok (.aload_n 0, 1) := by decide +kernel
theorem d_Matcher_enterItem_144 : decode c_Matcher_enterItem 144 = .ok (.aload_n 0, 1) := by decide +kernel
theorem d_Matcher_enterItem_145 : decode c_Matcher_enterItem 145 = .ok (.getfield 53, 3) := by decide +kernel
theorem d_Matcher_enterItem_148 : decode c_Matcher_enterItem 148 = .ok (.iconst 5, 1) := by decide +kernel
theorem d_Matcher_enterItem_149 : decode c_Matcher_enterItem 149 = .ok (.iload_n 1, 1) := by decide +kernel
theorem d_Matcher_enterItem_150 : decode c_Matcher_enterItem 150 = .ok (.aload_n 0, 1) := by decide +kernel
theorem d_Matcher_enterItem_151 : decode c_Matcher_enterItem 151 = .ok (.getfield 23, 3) := by decide +kernel
theorem d_Matcher_enterItem_154 : decode c_Matcher_enterItem 154 = .ok (.getfield 149, 3) := by decide +kernel
theorem d_Matcher_enterItem_157 : decode c_Matcher_enterItem 157 = .ok (.iload_n 1, 1) := by decide +kernel
theorem d_Matcher_enterItem_158 : decode c_Matcher_enterItem 158 = .ok (.iaload, 1) := by decide +kernel
theorem d_Matcher_enterItem_159 : decode c_Matcher_enterItem 159 = .ok (.aload_n 0, 1) := by decide +kernel
theorem d_Matcher_enterItem_160 : decode c_Matcher_enterItem 160 = .ok (.getfield 37, 3) := by decide +kernel
theorem d_Matcher_enterItem_163 : decode c_Matcher_enterItem 163 = .ok (.aload_n 0, 1) := by decide +kernel
theorem d_Matcher_enterItem_164 : decode c_Matcher_enterItem 164 = .ok (.getfield 40, 3) := by decide +kernel
theorem d_Matcher_enterItem_167 : decode c_Matcher_enterItem 167 = .ok (.aload_n 0, 1) := by decide +kernel
theorem d_Matcher_enterItem_168 : decode c_Matcher_enterItem 168 = .ok (.getfield 34, 3) := by decide +kernel
theorem d_Matcher_enterItem_171 : decode c_Matcher_enterItem 171 = .ok (.invokevirtual 143, 3) := by decide +kernel
theorem d_Matcher_enterItem_174 : decode c_Matcher_enterItem 174 = .ok (.putfield 34, 3) := by decide +kernel
theorem d_Matcher_enterItem_177 : decode c_Matcher_enterItem 177 = .ok (.aload_n 0, 1) := by decide +kernel
theorem d_Matcher_enterItem_178 : decode c_Matcher_enterItem 178 = .ok (.iconst 3, 1) := by decide +kernel
theorem d_Matcher_enterItem_179 : decode c_Matcher_enterItem 179 = .ok (.iload_n 1, 1) := by decide +kernel
theorem d_Matcher_enterItem_180 : decode c_Matcher_enterItem 180 = .ok (.invokevirtual 88, 3) := by decide +kernel
theorem d_Matcher_enterItem_183 : decode c_Matcher_enterItem 183 = .ok (.return_, 1) := by decide +kernel
theorem d_Matcher_fork_0 : decode c_Matcher_fork 0 = .ok (.aload_n 0, 1) := by decide +kernel
theorem d_Matcher_fork_1 : decode c_Matcher_fork 1 = .ok (.getfield 23, 3) := by decide +kernel
theorem d_Matcher_fork_4 : decode c_Matcher_fork 4 = .ok (.getfield 137, 3) := by decide +kernel
theorem d_Matcher_fork_7 : decode c_Matcher_fork 7 = .ok (.iload_n 1, 1) := by decide +kernel
theorem d_Matcher_fork_8 : decode c_Matcher_fork 8 = .ok (.iaload, 1) := by decide +kernel
theorem d_Matcher_fork_9 : decode c_Matcher_fork 9 = .ok (.iconst 1, 1) := by decide +kernel
theorem d_Matcher_fork_10 : decode c_Matcher_fork 10 = .ok (.if_icmp .ne 7, 3) := by decide +kernel
theorem d_Matcher_fork_13 : decode c_Matcher_fork 13 = .ok (.iconst 1, 1) := by decide +kernel
theorem d_Matcher_fork_14 : decode c_Matcher_fork 14 = .ok (.goto 4, 3) := by decide +kernel
theorem d_Matcher_fork_17 : decode c_Matcher_fork 17 = .ok (.iconst 0, 1) := by decide +kernel
theorem d_Matcher_fork_18 : decode c_Matcher_fork 18 = .ok (.istore_n 2, 1) := by decide +kernel
theorem d_Matcher_fork_19 : decode c_Matcher_fork 19 = .ok (.aload_n 0, 1) := by decide +kernel
theorem d_Matcher_fork_20 : decode c_Matcher_fork 20 = .ok (.getfield 60, 3) := by decide +kernel
theorem d_Matcher_fork_23 : decode c_Matcher_fork 23 = .ok (.iload_n 2, 1) := by decide +kernel
theorem d_Matcher_fork_24 : decode c_Matcher_fork 24 = .ok (.ifCond .eq 7, 3) := by decide +kernel
theorem d_Matcher_fork_27 : decode c_Matcher_fork 27 = .ok (.iconst 2, 1) := by decide +kernel
theorem d_Matcher_fork_28 : decode c_Matcher_fork 28 = .ok (.goto 4, 3) := by decide +kernel
theorem d_Matcher_fork_31 : decode c_Matcher_fork 31 = .ok (.iconst 5, 1) := by decide +kernel
theorem d_Matcher_fork_32 : decode c_Matcher_fork 32 = .ok (.iload_n 1, 1) := by decide +kernel
theorem d_Matcher_fork_33 : decode c_Matcher_fork 33 = .ok (.aload_n 0, 1) := by decide +kernel
theorem d_Matcher_fork_34 : decode c_Matcher_fork 34 = .ok (.getfield 37, 3) := by decide +kernel
theorem d_Matcher_fork_37 : decode c_Matcher_fork 37 = .ok (.aload_n 0, 1) := by decide +kernel
theorem d_Matcher_fork_38 : decode c_Matcher_fork 38 = .ok (.getfield 40, 3) := by decide +kernel
theorem d_Matcher_fork_41 : decode c_Matcher_fork 41 = .ok (.aload_n 0, 1) := by decide +kernel
theorem d_Matcher_fork_42 : decode c_Matcher_fork 42 = .ok (.getfield 34, 3) := by decide +kernel
theorem d_Matcher_fork_45 : decode c_Matcher_fork 45 = .ok (.invokevirtual 124, 3) := by decide +kernel
theorem d_Matcher_fork_48 : decode c_Matcher_fork 48 = .ok (.aload_n 0, 1) := by decide +kernel
theorem d_Matcher_fork_49 : decode c_Matcher_fork 49 = .ok (.iload_n 2, 1) := by decide +kernel
theorem d_Matcher_fork_50 : decode c_Matcher_fork 50 = .ok (.ifCond .eq 7, 3) := by decide +kernel
theorem d_Matcher_fork_53 : decode c_Matcher_fork 53 = .ok (.iconst 5, 1) := by decide +kernel
theorem d_Matcher_fork_54 : decode c_Matcher_fork 54 = .ok (.goto 4, 3) := by decide +kernel
theorem d_Matcher_fork_57 : decode c_Matcher_fork 57 = .ok (.iconst 2, 1) := by decide +kernel
theorem d_Matcher_fork_58 : decode c_Matcher_fork 58 = .ok (.iload_n 1, 1) := by decide +kernel
theorem d_Matcher_fork_59 : decode c_Matcher_fork 59 = .ok (.invokevirtual 88, 3) := by decide +kernel
theorem d_Matcher_fork_62 : decode c_Matcher_fork 62 = .ok (.return_, 1) := by decide +kernel
theorem d_Matcher_tryAtom_0 : decode c_Matcher_tryAtom 0 = .ok (.aload_n 0, 1) := by decide +kernel
theorem d_Matcher_tryAtom_1 : decode c_Matcher_tryAtom 1 = .ok (.getfield 23, 3) := by decide +kernel
theorem d_Matcher_tryAtom_4 : decode c_Matcher_tryAtom 4 = .ok (.getfield 131, 3) := by decide +kernel
theorem d_Matcher_tryAtom_7 : decode c_Matcher_tryAtom 7 = .ok (.iload_n 1, 1) := by decide +kernel
theorem d_Matcher_tryAtom_8 : decode c_Matcher_tryAtom 8 = .ok (.iaload, 1) := by decide +kernel
theorem d_Matcher_tryAtom_9 : decode c_Matcher_tryAtom 9 = .ok (.iconst 2, 1) := by decide +kernel
theorem d_Matcher_tryAtom_10 : decode c_Matcher_tryAtom 10 = .ok (.if_icmp .eq 29, 3) := by decide +kernel
theorem d_Matcher_tryAtom_13 : decode c_Matcher_tryAtom 13 = .ok (.aload_n 0, 1) := by decide +kernel
theorem d_Matcher_tryAtom_14 : decode c_Matcher_tryAtom 14 = .ok (.aload_n 0, 1) := by decide +kernel
theorem d_Matcher_tryAtom_15 : decode c_Matcher_tryAtom 15 = .ok (.getfield 53, 3) := by decide +kernel
theorem d_Matcher_tryAtom_18 : decode c_Matcher_tryAtom 18 = .ok (.iconst 3, 1) := by decide +kernel
theorem d_Matcher_tryAtom_19 : decode c_Matcher_tryAtom 19 = .ok (.iload_n 1, 1) := by decide +kernel
theorem d_Matcher_tryAtom_20 : decode c_Matcher_tryAtom 20 = .ok (.iconst 0, 1) := by decide +kernel
theorem d_Matcher_tryAtom_21 : decode c_Matcher_tryAtom 21 = .ok (.aload_n 0, 1) := by decide +kernel
theorem d_Matcher_tryAtom_22 : decode c_Matcher_tryAtom 22 = .ok (.getfield 37, 3) := by decide +kernel
theorem d_Matcher_tryAtom_25 : decode c_Matcher_tryAtom 25 = .ok (.aload_n 0, 1) := by decide +kernel
theorem d_Matcher_tryAtom_26 : decode c_Matcher_tryAtom 26 = .ok (.getfield 40, 3) := by decide +kernel
theorem d_Matcher_tryAtom_29 : decode c_Matcher_tryAtom 29 = .ok (.aload_n 0, 1) := by decide +kernel
theorem d_Matcher_tryAtom_30 : decode c_Matcher_tryAtom 30 = .ok (.getfield 34, 3) := by decide +kernel
theorem d_Matcher_tryAtom_33 : decode c_Matcher_tryAtom 33 = .ok (.invokevirtual 143, 3) := by decide +kernel
theorem d_Matcher_tryAtom_36 : decode c_Matcher_tryAtom 36 = .ok (.putfield 34, 3) := by decide +kernel
theorem d_Matcher_tryAtom_39 : decode c_Matcher_tryAtom 39 = .ok (.aload_n 0, 1) := by decide +kernel
theorem d_Matcher_tryAtom_40 : decode c_Matcher_tryAtom 40 = .ok (.iconst 3, 1) := by decide +kernel
theorem d_Matcher_tryAtom_41 : decode c_Matcher_tryAtom 41 = .ok (.iload_n 1, 1) := by decide +kernel
theorem d_Matcher_tryAtom_42 : decode c_Matcher_tryAtom 42 = .ok (.invokevirtual 88, 3) := by decide +kernel
theorem d_Matcher_tryAtom_45 : decode c_Matcher_tryAtom 45 = .ok (.return_, 1) := by decide +kernel
theorem d_Matcher_goAfterAtom_0 : decode c_Matcher_goAfterAtom 0 = .ok (.aload_n 0, 1) := by decide +kernel
theorem d_Matcher_goAfterAtom_1 : decode c_Matcher_goAfterAtom 1 = .ok (.getfield 23, 3) := by decide +kernel
theorem d_Matcher_goAfterAtom_4 : decode c_Matcher_goAfterAtom 4 = .ok (.getfield 131, 3) := by decide +kernel
theorem d_Matcher_goAfterAtom_7 : decode c_Matcher_goAfterAtom 7 = .ok (.iload_n 1, 1) := by decide +kernel
theorem d_Matcher_goAfterAtom_8 : decode c_Matcher_goAfterAtom 8 = .ok (.iaload, 1) := by decide +kernel
theorem d_Matcher_goAfterAtom_9 : decode c_Matcher_goAfterAtom 9 = .ok (.istore_n 2, 1) := by decide +kernel
theorem d_Matcher_goAfterAtom_10 : decode c_Matcher_goAfterAtom 10 = .ok (.iload_n 2, 1) := by decide +kernel
theorem d_Matcher_goAfterAtom_11 : decode c_Matcher_goAfterAtom 11 = .ok (.ifCond .eq 8, 3) := by decide +kernel
theorem d_Matcher_goAfterAtom_14 : decode c_Matcher_goAfterAtom 14 = .ok (.iload_n 2, 1) := by decide +kernel
theorem d_Matcher_goAfterAtom_15 : decode c_Matcher_goAfterAtom 15 = .ok (.iconst 2, 1) := by decide +kernel
theorem d_Matcher_goAfterAtom_16 : decode c_Matcher_goAfterAtom 16 = .ok (.if_icmp .ne 11, 3) := by decide +kernel
theorem d_Matcher_goAfterAtom_19 : decode c_Matcher_goAfterAtom 19 = .ok (.aload_n 0, 1) := by decide +kernel
theorem d_Matcher_goAfterAtom_20 : decode c_Matcher_goAfterAtom 20 = .ok (.iload_n 1, 1) := by decide +kernel
theorem d_Matcher_goAfterAtom_21 : decode c_Matcher_goAfterAtom 21 = .ok (.invokevirtual 112, 3) := by decide +kernel
theorem d_Matcher_goAfterAtom_24 : decode c_Matcher_goAfterAtom 24 = .ok (.goto 9, 3) := by decide +kernel
theorem d_Matcher_goAfterAtom_27 : decode c_Matcher_goAfterAtom 27 = .ok (.aload_n 0, 1) := by decide +kernel
theorem d_Matcher_goAfterAtom_28 : decode c_Matcher_goAfterAtom 28 = .ok (.bipush 6, 2) := by decide +kernel
theorem d_Matcher_goAfterAtom_30 : decode c_Matcher_goAfterAtom 30 = .ok (.putfield 27, 3) := by decide +kernel
theorem d_Matcher_goAfterAtom_33 : decode c_Matcher_goAfterAtom 33 = .ok (.return_, 1) := by decide +kernel
theorem d_Matcher_goAfterItem_0 : decode c_Matcher_goAfterItem 0 = .ok (.aload_n 0, 1) := by decide +kernel
theorem d_Matcher_goAfterItem_1 : decode c_Matcher_goAfterItem 1 = .ok (.getfield 23, 3) := by decide +kernel
theorem d_Matcher_goAfterItem_4 : decode c_Matcher_goAfterItem 4 = .ok (.getfield 137, 3) := by decide +kernel
theorem d_Matcher_goAfterItem_7 : decode c_Matcher_goAfterItem 7 = .ok (.iload_n 1, 1) := by decide +kernel
theorem d_Matcher_goAfterItem_8 : decode c_Matcher_goAfterItem 8 = .ok (.iaload, 1) := by decide +kernel
theorem d_Matcher_goAfterItem_9 : decode c_Matcher_goAfterItem 9 = .ok (.iconst 2, 1) := by decide +kernel
theorem d_Matcher_goAfterItem_10 : decode c_Matcher_goAfterItem 10 = .ok (.if_icmp .ne 12, 3) := by decide +kernel
theorem d_Matcher_goAfterItem_13 : decode c_Matcher_goAfterItem 13 = .ok (.aload_n 0, 1) := by decide +kernel
theorem d_Matcher_goAfterItem_14 : decode c_Matcher_goAfterItem 14 = .ok (.bipush 6, 2) := by decide +kernel
theorem d_Matcher_goAfterItem_16 : decode c_Matcher_goAfterItem 16 = .ok (.putfield 27, 3) := by decide +kernel
theorem d_Matcher_goAfterItem_19 : decode c_Matcher_goAfterItem 19 = .ok (.goto 17, 3) := by decide +kernel
theorem d_Matcher_goAfterItem_22 : decode c_Matcher_goAfterItem 22 = .ok (.aload_n 0, 1) := by decide +kernel
theorem d_Matcher_goAfterItem_23 : decode c_Matcher_goAfterItem 23 = .ok (.iconst 1, 1) := by decide +kernel
theorem d_Matcher_goAfterItem_24 : decode c_Matcher_goAfterItem 24 = .ok (.aload_n 0, 1) := by decide +kernel
theorem d_Matcher_goAfterItem_25 : decode c_Matcher_goAfterItem 25 = .ok (.getfield 23, 3) := by decide +kernel
theorem d_Matcher_goAfterItem_28 : decode c_Matcher_goAfterItem 28 = .ok (.getfield 134, 3) := by decide +kernel
theorem d_Matcher_goAfterItem_31 : decode c_Matcher_goAfterItem 31 = .ok (.iload_n 1, 1) := by decide +kernel
theorem d_Matcher_goAfterItem_32 : decode c_Matcher_goAfterItem 32 = .ok (.iaload, 1) := by decide +kernel
theorem d_Matcher_goAfterItem_33 : decode c_Matcher_goAfterItem 33 = .ok (.invokevirtual 88, 3) := by decide +kernel
theorem d_Matcher_goAfterItem_36 : decode c_Matcher_goAfterItem 36 = .ok (.return_, 1) := by decide +kernel
theorem d_Matcher_takeChoice_0 : decode c_Matcher_takeChoice 0 = .ok (.aload_n 0, 1) := by decide +kernel
theorem d_Matcher_takeChoice_1 : decode c_Matcher_takeChoice 1 = .ok (.getfield 60, 3) := by decide +kernel
theorem d_Matcher_takeChoice_4 : decode c_Matcher_takeChoice 4 = .ok (.getfield 140, 3) := by decide +kernel
theorem d_Matcher_takeChoice_7 : decode c_Matcher_takeChoice 7 = .ok (.ifCond .ne 10, 3) := by decide +kernel
theorem d_Matcher_takeChoice_10 : decode c_Matcher_takeChoice 10 = .ok (.aload_n 0, 1) := by decide +kernel
theorem d_Matcher_takeChoice_11 : decode c_Matcher_takeChoice 11 = .ok (.bipush 9, 2) := by decide +kernel
theorem d_Matcher_takeChoice_13 : decode c_Matcher_takeChoice 13 = .ok (.putfield 27, 3) := by decide +kernel
theorem d_Matcher_takeChoice_16 : decode c_Matcher_takeChoice 16 = .ok (.return_, 1) := by decide +kernel
theorem d_Matcher_takeChoice_17 : decode c_Matcher_takeChoice 17 = .ok (.aload_n 0, 1) := by decide +kernel
theorem d_Matcher_takeChoice_18 : decode c_Matcher_takeChoice 18 = .ok (.getfield 60, 3) := by decide +kernel
theorem d_Matcher_takeChoice_21 : decode c_Matcher_takeChoice 21 = .ok (.getfield 140, 3) := by decide +kernel
theorem d_Matcher_takeChoice_24 : decode c_Matcher_takeChoice 24 = .ok (.iconst 1, 1) := by decide +kernel
theorem d_Matcher_takeChoice_25 : decode c_Matcher_takeChoice 25 = .ok (.isub, 1) := by decide +kernel
theorem d_Matcher_takeChoice_26 : decode c_Matcher_takeChoice 26 = .ok (.istore_n 1, 1) := by decide +kernel
theorem d_Matcher_takeChoice_27 : decode c_Matcher_takeChoice 27 = .ok (.aload_n 0, 1) := by decide +kernel
theorem d_Matcher_takeChoice_28 : decode c_Matcher_takeChoice 28 = .ok (.getfield 60, 3) := by decide +kernel
theorem d_Matcher_takeChoice_31 : decode c_Matcher_takeChoice 31 = .ok (.iload_n 1, 1) := by decide +kernel
theorem d_Matcher_takeChoice_32 : decode c_Matcher_takeChoice 32 = .ok (.invokevirtual 81, 3) := by decide +kernel
theorem d_Matcher_takeChoice_35 : decode c_Matcher_takeChoice 35 = .ok (.aload_n 0, 1) := by decide +kernel
theorem d_Matcher_takeChoice_36 : decode c_Matcher_takeChoice 36 = .ok (.aload_n 0, 1) := by decide +kernel
theorem d_Matcher_takeChoice_37 : decode c_Matcher_takeChoice 37 = .ok (.getfield 60, 3) := by decide +kernel
theorem d_Matcher_takeChoice_40 : decode c_Matcher_takeChoice 40 = .ok (.getfield 152, 3) := by decide +kernel
theorem d_Matcher_takeChoice_43 : decode c_Matcher_takeChoice 43 = .ok (.iload_n 1, 1) := by decide +kernel
theorem d_Matcher_takeChoice_44 : decode c_Matcher_takeChoice 44 = .ok (.iaload, 1) := by decide +kernel
theorem d_Matcher_takeChoice_45 : decode c_Matcher_takeChoice 45 = .ok (.putfield 37, 3) := by decide +kernel
theorem d_Matcher_takeChoice_48 : decode c_Matcher_takeChoice 48 = .ok (.aload_n 0, 1) := by decide +kernel
theorem d_Matcher_takeChoice_49 : decode c_Matcher_takeChoice 49 = .ok (.aload_n 0, 1) := by decide +kernel
theorem d_Matcher_takeChoice_50 : decode c_Matcher_takeChoice 50 = .ok (.getfield 60, 3) := by decide +kernel
theorem d_Matcher_takeChoice_53 : decode c_Matcher_takeChoice 53 = .ok (.getfield 154, 3) := by decide +kernel
theorem d_Matcher_takeChoice_56 : decode c_Matcher_takeChoice 56 = .ok (.iload_n 1, 1) := by decide +kernel
theorem d_Matcher_takeChoice_57 : decode c_Matcher_takeChoice 57 = .ok (.laload, 1) := by decide +kernel
theorem d_Matcher_takeChoice_58 : decode c_Matcher_takeChoice 58 = .ok (.putfield 40, 3) := by decide +kernel
theorem d_Matcher_takeChoice_61 : decode c_Matcher_takeChoice 61 = .ok (.aload_n 0, 1) := by decide +kernel
theorem d_Matcher_takeChoice_62 : decode c_Matcher_takeChoice 62 = .ok (.aload_n 0, 1) := by decide +kernel
theorem d_Matcher_takeChoice_63 : decode c_Matcher_takeChoice 63 = .ok (.getfield 60, 3) := by decide +kernel
theorem d_Matcher_takeChoice_66 : decode c_Matcher_takeChoice 66 = .ok (.getfield 157, 3) := by decide +kernel
theorem d_Matcher_takeChoice_69 : decode c_Matcher_takeChoice 69 = .ok (.iload_n 1, 1) := by decide +kernel
theorem d_Matcher_takeChoice_70 : decode c_Matcher_takeChoice 70 = .ok (.iaload, 1) := by decide +kernel
theorem d_Matcher_takeChoice_71 : decode c_Matcher_takeChoice 71 = .ok (.putfield 34, 3) := by decide +kernel
theorem d_Matcher_takeChoice_74 : decode c_Matcher_takeChoice 74 = .ok (.aload_n 0, 1) := by decide +kernel
theorem d_Matcher_takeChoice_75 : decode c_Matcher_takeChoice 75 = .ok (.aload_n 0, 1) := by decide +kernel
theorem d_Matcher_takeChoice_76 : decode c_Matcher_takeChoice 76 = .ok (.getfield 60, 3) := by decide +kernel
theorem d_Matcher_takeChoice_79 : decode c_Matcher_takeChoice 79 = .ok (.getfield 159, 3) := by decide +kernel
theorem d_Matcher_takeChoice_82 : decode c_Matcher_takeChoice 82 = .ok (.iload_n 1, 1) := by decide +kernel
theorem d_Matcher_takeChoice_83 : decode c_Matcher_takeChoice 83 = .ok (.iaload, 1) := by decide +kernel
theorem d_Matcher_takeChoice_84 : decode c_Matcher_takeChoice 84 = .ok (.aload_n 0, 1) := by decide +kernel
theorem d_Matcher_takeChoice_85 : decode c_Matcher_takeChoice 85 = .ok (.getfield 60, 3) := by decide +kernel
theorem d_Matcher_takeChoice_88 : decode c_Matcher_takeChoice 88 = .ok (.getfield 161, 3) := by decide +kernel
theorem d_Matcher_takeChoice_91 : decode c_Matcher_takeChoice 91 = .ok (.iload_n 1, 1) := by decide +kernel
theorem d_Matcher_takeChoice_92 : decode c_Matcher_takeChoice 92 = .ok (.iaload, 1) := by decide +kernel
theorem d_Matcher_takeChoice_93 : decode c_Matcher_takeChoice 93 = .ok (.invokevirtual 88, 3) := by decide +kernel
theorem d_Matcher_takeChoice_96 : decode c_Matcher_takeChoice 96 = .ok (.return_, 1) := by decide +kernel
theorem d_Matcher_ask_0 : decode c_Matcher_ask 0 = .ok (.aload_n 0, 1) := by decide +kernel
theorem d_Matcher_ask_1 : decode c_Matcher_ask 1 = .ok (.getfield 44, 3) := by decide +kernel
theorem d_Matcher_ask_4 : decode c_Matcher_ask 4 = .ok (.aload_n 0, 1) := by decide +kernel
theorem d_Matcher_ask_5 : decode c_Matcher_ask 5 = .ok (.getfield 47, 3) := by decide +kernel
theorem d_Matcher_ask_8 : decode c_Matcher_ask 8 = .ok (.if_icmp .lt 10, 3) := by decide +kernel
theorem d_Matcher_ask_11 : decode c_Matcher_ask 11 = .ok (.aload_n 0, 1) := by decide +kernel
theorem d_Matcher_ask_12 : decode c_Matcher_ask 12 = .ok (.bipush 10, 2) := by decide +kernel
theorem d_Matcher_ask_14 : decode c_Matcher_ask 14 = .ok (.putfield 27, 3) := by decide +kernel
theorem d_Matcher_ask_17 : decode c_Matcher_ask 17 = .ok (.return_, 1) := by decide +kernel
theorem d_Matcher_ask_18 : decode c_Matcher_ask 18 = .ok (.aload_n 0, 1) := by decide +kernel
theorem d_Matcher_ask_19 : decode c_Matcher_ask 19 = .ok (.dup, 1) := by decide +kernel
theorem d_Matcher_ask_20 : decode c_Matcher_ask 20 = .ok (.getfield 44, 3) := by decide +kernel
theorem d_Matcher_ask_23 : decode c_Matcher_ask 23 = .ok (.iconst 1, 1) := by decide +kernel
theorem d_Matcher_ask_24 : decode c_Matcher_ask 24 = .ok (.iadd, 1) := by decide +kernel
theorem d_Matcher_ask_25 : decode c_Matcher_ask 25 = .ok (.putfield 44, 3) := by decide +kernel
theorem d_Matcher_ask_28 : decode c_Matcher_ask 28 = .ok (.aload_n 0, 1) := by decide +kernel
theorem d_Matcher_ask_29 : decode c_Matcher_ask 29 = .ok (.getfield 23, 3) := by decide +kernel
theorem d_Matcher_ask_32 : decode c_Matcher_ask 32 = .ok (.getfield 163, 3) := by decide +kernel
theorem d_Matcher_ask_35 : decode c_Matcher_ask 35 = .ok (.iload_n 1, 1) := by decide +kernel
theorem d_Matcher_ask_36 : decode c_Matcher_ask 36 = .ok (.iaload, 1) := by decide +kernel
theorem d_Matcher_ask_37 : decode c_Matcher_ask 37 = .ok (.tableswitch 114 0 4 #[35, 43, 63, 90, 106], 35) := by decide +kernel
theorem d_Matcher_ask_72 : decode c_Matcher_ask 72 = .ok (.aload_n 0, 1) := by decide +kernel
theorem d_Matcher_ask_73 : decode c_Matcher_ask 73 = .ok (.iload_n 1, 1) := by decide +kernel
theorem d_Matcher_ask_74 : decode c_Matcher_ask 74 = .ok (.invokevirtual 166, 3) := by decide +kernel
theorem d_Matcher_ask_77 : decode c_Matcher_ask 77 = .ok (.goto 79, 3) := by decide +kernel
theorem d_Matcher_ask_80 : decode c_Matcher_ask 80 = .ok (.aload_n 0, 1) := by decide +kernel
theorem d_Matcher_ask_81 : decode c_Matcher_ask 81 = .ok (.aload_n 0, 1) := by decide +kernel
theorem d_Matcher_ask_82 : decode c_Matcher_ask 82 = .ok (.getfield 37, 3) := by decide +kernel
theorem d_Matcher_ask_85 : decode c_Matcher_ask 85 = .ok (.ifCond .ne 7, 3) := by decide +kernel
theorem d_Matcher_ask_88 : decode c_Matcher_ask 88 = .ok (.iconst 4, 1) := by decide +kernel
theorem d_Matcher_ask_89 : decode c_Matcher_ask 89 = .ok (.goto 5, 3) := by decide +kernel
theorem d_Matcher_ask_92 : decode c_Matcher_ask 92 = .ok (.bipush 7, 2) := by decide +kernel
theorem d_Matcher_ask_94 : decode c_Matcher_ask 94 = .ok (.putfield 27, 3) := by decide +kernel
theorem d_Matcher_ask_97 : decode c_Matcher_ask 97 = .ok (.goto 59, 3) := by decide +kernel
theorem d_Matcher_ask_100 : decode c_Matcher_ask 100 = .ok (.aload_n 0, 1) := by decide +kernel
theorem d_Matcher_ask_101 : decode c_Matcher_ask 101 = .ok (.aload_n 0, 1) := by decide +kernel
theorem d_Matcher_ask_102 : decode c_Matcher_ask 102 = .ok (.getfield 37, 3) := by decide +kernel
theorem d_Matcher_ask_105 : decode c_Matcher_ask 105 = .ok (.aload_n 0, 1) := by decide +kernel
theorem d_Matcher_ask_106 : decode c_Matcher_ask 106 = .ok (.getfield 14, 3) := by decide +kernel
theorem d_Matcher_ask_109 : decode c_Matcher_ask 109 = .ok (.getfield 64, 3) := by decide +kernel
theorem d_Matcher_ask_112 : decode c_Matcher_ask 112 = .ok (.if_icmp .ne 7, 3) := by decide +kernel
theorem d_Matcher_ask_115 : decode c_Matcher_ask 115 = .ok (.iconst 4, 1) := by decide +kernel
theorem d_Matcher_ask_116 : decode c_Matcher_ask 116 = .ok (.goto 5, 3) := by decide +kernel
theorem d_Matcher_ask_119 : decode c_Matcher_ask 119 = .ok (.bipush 7, 2) := by decide +kernel
theorem d_Matcher_ask_121 : decode c_Matcher_ask 121 = .ok (.putfield 27, 3) := by decide +kernel
theorem d_Matcher_ask_124 : decode c_Matcher_ask 124 = .ok (.goto 32, 3) := by decide +kernel
theorem d_Matcher_ask_127 : decode c_Matcher_ask 127 = .ok (.aload_n 0, 1) := by decide +kernel
theorem d_Matcher_ask_128 : decode c_Matcher_ask 128 = .ok (.aload_n 0, 1) := by decide +kernel
theorem d_Matcher_ask_129 : decode c_Matcher_ask 129 = .ok (.getfield 23, 3) := by decide +kernel
theorem d_Matcher_ask_132 : decode c_Matcher_ask 132 = .ok (.getfield 169, 3) := by decide +kernel
theorem d_Matcher_ask_135 : decode c_Matcher_ask 135 = .ok (.iload_n 1, 1) := by decide +kernel
theorem d_Matcher_ask_136 : decode c_Matcher_ask 136 = .ok (.iaload, 1) := by decide +kernel
theorem d_Matcher_ask_137 : decode c_Matcher_ask 137 = .ok (.invokevirtual 172, 3) := by decide +kernel
theorem d_Matcher_ask_140 : decode c_Matcher_ask 140 = .ok (.goto 16, 3) := by decide +kernel
theorem d_Matcher_ask_143 : decode c_Matcher_ask 143 = .ok (.aload_n 0, 1) := by decide +kernel
theorem d_Matcher_ask_144 : decode c_Matcher_ask 144 = .ok (.iload_n 1, 1) := by decide +kernel
theorem d_Matcher_ask_145 : decode c_Matcher_ask 145 = .ok (.invokevirtual 175, 3) := by decide +kernel
theorem d_Matcher_ask_148 : decode c_Matcher_ask 148 = .ok (.goto 8, 3) := by decide +kernel
theorem d_Matcher_ask_151 : decode c_Matcher_ask 151 = .ok (.aload_n 0, 1) := by decide +kernel
theorem d_Matcher_ask_152 : decode c_Matcher_ask 152 = .ok (.iload_n 1, 1) := by decide +kernel
theorem d_Matcher_ask_153 : decode c_Matcher_ask 153 = .ok (.invokevirtual 178, 3) := by decide +kernel
theorem d_Matcher_ask_156 : decode c_Matcher_ask 156 = .ok (.return_, 1) := by decide +kernel
theorem d_Matcher_askLetter_0 : decode c_Matcher_askLetter 0 = .ok (.aload_n 0, 1) := by decide +kernel
theorem d_Matcher_askLetter_1 : decode c_Matcher_askLetter 1 = .ok (.getfield 37, 3) := by decide +kernel
theorem d_Matcher_askLetter_4 : decode c_Matcher_askLetter 4 = .ok (.aload_n 0, 1) := by decide +kernel
theorem d_Matcher_askLetter_5 : decode c_Matcher_askLetter 5 = .ok (.getfield 14, 3) := by decide +kernel
theorem d_Matcher_askLetter_8 : decode c_Matcher_askLetter 8 = .ok (.getfield 64, 3) := by decide +kernel
theorem d_Matcher_askLetter_11 : decode c_Matcher_askLetter 11 = .ok (.if_icmp .ge 51, 3) := by decide +kernel
theorem d_Matcher_askLetter_14 : decode c_Matcher_askLetter 14 = .ok (.aload_n 0, 1) := by decide +kernel
theorem d_Matcher_askLetter_15 : decode c_Matcher_askLetter 15 = .ok (.getfield 23, 3) := by decide +kernel
theorem d_Matcher_askLetter_18 : decode c_Matcher_askLetter 18 = .ok (.getfield 169, 3) := by decide +kernel
theorem d_Matcher_askLetter_21 : decode c_Matcher_askLetter 21 = .ok (.iload_n 1, 1) := by decide +kernel
theorem d_Matcher_askLetter_22 : decode c_Matcher_askLetter 22 = .ok (.iaload, 1) := by decide +kernel
theorem d_Matcher_askLetter_23 : decode c_Matcher_askLetter 23 = .ok (.aload_n 0, 1) := by decide +kernel
theorem d_Matcher_askLetter_24 : decode c_Matcher_askLetter 24 = .ok (.getfield 14, 3) := by decide +kernel
theorem d_Matcher_askLetter_27 : decode c_Matcher_askLetter 27 = .ok (.getfield 181, 3) := by decide +kernel
theorem d_Matcher_askLetter_30 : decode c_Matcher_askLetter 30 = .ok (.aload_n 0, 1) := by decide +kernel
theorem d_Matcher_askLetter_31 : decode c_Matcher_askLetter 31 = .ok (.getfield 37, 3) := by decide +kernel
theorem d_Matcher_askLetter_34 : decode c_Matcher_askLetter 34 = .ok (.iaload, 1) := by decide +kernel
theorem d_Matcher_askLetter_35 : decode c_Matcher_askLetter 35 = .ok (.bipush 97, 2) := by decide +kernel
theorem d_Matcher_askLetter_37 : decode c_Matcher_askLetter 37 = .ok (.isub, 1) := by decide +kernel
theorem d_Matcher_askLetter_38 : decode c_Matcher_askLetter 38 = .ok (.ishr, 1) := by decide +kernel
theorem d_Matcher_askLetter_39 : decode c_Matcher_askLetter 39 = .ok (.iconst 1, 1) := by decide +kernel
theorem d_Matcher_askLetter_40 : decode c_Matcher_askLetter 40 = .ok (.iand, 1) := by decide +kernel
theorem d_Matcher_askLetter_41 : decode c_Matcher_askLetter 41 = .ok (.ifCond .eq 21, 3) := by decide +kernel
theorem d_Matcher_askLetter_44 : decode c_Matcher_askLetter 44 = .ok (.aload_n 0, 1) := by decide +kernel
theorem d_Matcher_askLetter_45 : decode c_Matcher_askLetter 45 = .ok (.dup, 1) := by decide +kernel
theorem d_Matcher_askLetter_46 : decode c_Matcher_askLetter 46 = .ok (.getfield 37, 3) := by decide +kernel
theorem d_Matcher_askLetter_49 : decode c_Matcher_askLetter 49 = .ok (.iconst 1, 1) := by decide +kernel
theorem d_Matcher_askLetter_50 : decode c_Matcher_askLetter 50 = .ok (.iadd, 1) := by decide +kernel
theorem d_Matcher_askLetter_51 : decode c_Matcher_askLetter 51 = .ok (.putfield 37, 3) := by decide +kernel
theorem d_Matcher_askLetter_54 : decode c_Matcher_askLetter 54 = .ok (.aload_n 0, 1) := by decide +kernel
theorem d_Matcher_askLetter_55 : decode c_Matcher_askLetter 55 = .ok (.iconst 4, 1) := by decide +kernel
theorem d_Matcher_askLetter_56 : decode c_Matcher_askLetter 56 = .ok (.putfield 27, 3) := by decide +kernel
theorem d_Matcher_askLetter_59 : decode c_Matcher_askLetter 59 = .ok (.goto 9, 3) := by decide +kernel
theorem d_Matcher_askLetter_62 : decode c_Matcher_askLetter 62 = .ok (.aload_n 0, 1) := by decide +kernel
theorem d_Matcher_askLetter_63 : decode c_Matcher_askLetter 63 = .ok (.bipush 7, 2) := by decide +kernel
theorem d_Matcher_askLetter_65 : decode c_Matcher_askLetter 65 = .ok (.putfield 27, 3) := by decide +kernel
theorem d_Matcher_askLetter_68 : decode c_Matcher_askLetter 68 = .ok (.return_, 1) := by decide +kernel
theorem d_Matcher_askSame_0 : decode c_Matcher_askSame 0 = .ok (.aload_n 0, 1) := by decide +kernel
theorem d_Matcher_askSame_1 : decode c_Matcher_askSame 1 = .ok (.getfield 40, 3) := by decide +kernel
theorem d_Matcher_askSame_4 : decode c_Matcher_askSame 4 = .ok (.iload_n 1, 1) := by decide +kernel
theorem d_Matcher_askSame_5 : decode c_Matcher_askSame 5 = .ok (.invokestatic 184, 3) := by decide +kernel
theorem d_Matcher_askSame_8 : decode c_Matcher_askSame 8 = .ok (.istore_n 2, 1) := by decide +kernel
theorem d_Matcher_askSame_9 : decode c_Matcher_askSame 9 = .ok (.aload_n 0, 1) := by decide +kernel
theorem d_Matcher_askSame_10 : decode c_Matcher_askSame 10 = .ok (.getfield 40, 3) := by decide +kernel
theorem d_Matcher_askSame_13 : decode c_Matcher_askSame 13 = .ok (.iload_n 1, 1) := by decide +kernel
theorem d_Matcher_askSame_14 : decode c_Matcher_askSame 14 = .ok (.invokestatic 190, 3) := by decide +kernel
theorem d_Matcher_askSame_17 : decode c_Matcher_askSame 17 = .ok (.iload_n 2, 1) := by decide +kernel
theorem d_Matcher_askSame_18 : decode c_Matcher_askSame 18 = .ok (.isub, 1) := by decide +kernel
theorem d_Matcher_askSame_19 : decode c_Matcher_askSame 19 = .ok (.istore_n 3, 1) := by decide +kernel
theorem d_Matcher_askSame_20 : decode c_Matcher_askSame 20 = .ok (.iload_n 2, 1) := by decide +kernel
theorem d_Matcher_askSame_21 : decode c_Matcher_askSame 21 = .ok (.bipush (-6), 2) := by decide +kernel
theorem d_Matcher_askSame_23 : decode c_Matcher_askSame 23 = .ok (.if_icmp .eq 30, 3) := by decide +kernel
theorem d_Matcher_askSame_26 : decode c_Matcher_askSame 26 = .ok (.aload_n 0, 1) := by decide +kernel
theorem d_Matcher_askSame_27 : decode c_Matcher_askSame 27 = .ok (.iload_n 2, 1) := by decide +kernel
theorem d_Matcher_askSame_28 : decode c_Matcher_askSame 28 = .ok (.iload_n 3, 1) := by decide +kernel
theorem d_Matcher_askSame_29 : decode c_Matcher_askSame 29 = .ok (.invokevirtual 193, 3) := by decide +kernel
theorem d_Matcher_askSame_32 : decode c_Matcher_askSame 32 = .ok (.ifCond .eq 21, 3) := by decide +kernel
theorem d_Matcher_askSame_35 : decode c_Matcher_askSame 35 = .ok (.aload_n 0, 1) := by decide +kernel
theorem d_Matcher_askSame_36 : decode c_Matcher_askSame 36 = .ok (.dup, 1) := by decide +kernel
theorem d_Matcher_askSame_37 : decode c_Matcher_askSame 37 = .ok (.getfield 37, 3) := by decide +kernel
theorem d_Matcher_askSame_40 : decode c_Matcher_askSame 40 = .ok (.iload_n 3, 1) := by decide +kernel
theorem d_Matcher_askSame_41 : decode c_Matcher_askSame 41 = .ok (.iadd, 1) := by decide +kernel
theorem d_Matcher_askSame_42 : decode c_Matcher_askSame 42 = .ok (.putfield 37, 3) := by decide +kernel
theorem d_Matcher_askSame_45 : decode c_Matcher_askSame 45 = .ok (.aload_n 0, 1) := by decide +kernel
theorem d_Matcher_askSame_46 : decode c_Matcher_askSame 46 = .ok (.iconst 4, 1) := by decide +kernel
theorem d_Matcher_askSame_47 : decode c_Matcher_askSame 47 = .ok (.putfield 27, 3) := by decide +kernel
theorem d_Matcher_askSame_50 : decode c_Matcher_askSame 50 = .ok (.goto 9, 3) := by decide +kernel
theorem d_Matcher_askSame_53 : decode c_Matcher_askSame 53 = .ok (.aload_n 0, 1) := by decide +kernel
theorem d_Matcher_askSame_54 : decode c_Matcher_askSame 54 = .ok (.bipush 7, 2) := by decide +kernel
theorem d_Matcher_askSame_56 : decode c_Matcher_askSame 56 = .ok (.putfield 27, 3) := by decide +kernel
theorem d_Matcher_askSame_59 : decode c_Matcher_askSame 59 = .ok (.return_, 1) := by decide +kernel
theorem d_Matcher_standsHere_0 : decode c_Matcher_standsHere 0 = .ok (.aload_n 0, 1) := by decide +kernel
theorem d_Matcher_standsHere_1 : decode c_Matcher_standsHere 1 = .ok (.getfield 37, 3) := by decide +kernel
theorem d_Matcher_standsHere_4 : decode c_Matcher_standsHere 4 = .ok (.iload_n 2, 1) := by decide +kernel
theorem d_Matcher_standsHere_5 : decode c_Matcher_standsHere 5 = .ok (.iadd, 1) := by decide +kernel
theorem d_Matcher_standsHere_6 : decode c_Matcher_standsHere 6 = .ok (.aload_n 0, 1) := by decide +kernel
theorem d_Matcher_standsHere_7 : decode c_Matcher_standsHere 7 = .ok (.getfield 14, 3) := by decide +kernel
theorem d_Matcher_standsHere_10 : decode c_Matcher_standsHere 10 = .ok (.getfield 64, 3) := by decide +kernel
theorem d_Matcher_standsHere_13 : decode c_Matcher_standsHere 13 = .ok (.if_icmp .le 5, 3) := by decide +kernel
theorem d_Matcher_standsHere_16 : decode c_Matcher_standsHere 16 = .ok (.iconst 0, 1) := by decide +kernel
theorem d_Matcher_standsHere_17 : decode c_Matcher_standsHere 17 = .ok (.ireturn, 1) := by decide +kernel
theorem d_Matcher_standsHere_18 : decode c_Matcher_standsHere 18 = .ok (.iconst 0, 1) := by decide +kernel
theorem d_Matcher_standsHere_19 : decode c_Matcher_standsHere 19 = .ok (.istore_n 3, 1) := by decide +kernel
theorem d_Matcher_standsHere_20 : decode c_Matcher_standsHere 20 = .ok (.iload_n 3, 1) := by decide +kernel
theorem d_Matcher_standsHere_21 : decode c_Matcher_standsHere 21 = .ok (.iload_n 2, 1) := by decide +kernel
theorem d_Matcher_standsHere_22 : decode c_Matcher_standsHere 22 = .ok (.if_icmp .ge 39, 3) := by decide +kernel
theorem d_Matcher_standsHere_25 : decode c_Matcher_standsHere 25 = .ok (.aload_n 0, 1) := by decide +kernel
theorem d_Matcher_standsHere_26 : decode c_Matcher_standsHere 26 = .ok (.getfield 14, 3) := by decide +kernel
theorem d_Matcher_standsHere_29 : decode c_Matcher_standsHere 29 = .ok (.getfield 181, 3) := by decide +kernel
theorem d_Matcher_standsHere_32 : decode c_Matcher_standsHere 32 = .ok (.iload_n 1, 1) := by decide +kernel
theorem d_Matcher_standsHere_33 : decode c_Matcher_standsHere 33 = .ok (.iload_n 3, 1) := by decide +kernel
theorem d_Matcher_standsHere_34 : decode c_Matcher_standsHere 34 = .ok (.iadd, 1) := by decide +kernel
theorem d_Matcher_standsHere_35 : decode c_Matcher_standsHere 35 = .ok (.iaload, 1) := by decide +kernel
theorem d_Matcher_standsHere_36 : decode c_Matcher_standsHere 36 = .ok (.aload_n 0, 1) := by decide +kernel
theorem d_Matcher_standsHere_37 : decode c_Matcher_standsHere 37 = .ok (.getfield 14, 3) := by decide +kernel
theorem d_Matcher_standsHere_40 : decode c_Matcher_standsHere 40 = .ok (.getfield 181, 3) := by decide +kernel
theorem d_Matcher_standsHere_43 : decode c_Matcher_standsHere 43 = .ok (.aload_n 0, 1) := by decide +kernel
theorem d_Matcher_standsHere_44 : decode c_Matcher_standsHere 44 = .ok (.getfield 37, 3) := by decide +kernel
theorem d_Matcher_standsHere_47 : decode c_Matcher_standsHere 47 = .ok (.iload_n 3, 1) := by decide +kernel
theorem d_Matcher_standsHere_48 : decode c_Matcher_standsHere 48 = .ok (.iadd, 1) := by decide +kernel
theorem d_Matcher_standsHere_49 : decode c_Matcher_standsHere 49 = .ok (.iaload, 1) := by decide +kernel
theorem d_Matcher_standsHere_50 : decode c_Matcher_standsHere 50 = .ok (.if_icmp .eq 5, 3) := by decide +kernel
theorem d_Matcher_standsHere_53 : decode c_Matcher_standsHere 53 = .ok (.iconst 0, 1) := by decide +kernel
theorem d_Matcher_standsHere_54 : decode c_Matcher_standsHere 54 = .ok (.ireturn, 1) := by decide +kernel
theorem d_Matcher_standsHere_55 : decode c_Matcher_standsHere 55 = .ok (.iinc 3 1, 3) := by decide +kernel
theorem d_Matcher_standsHere_58 : decode c_Matcher_standsHere 58 = .ok (.goto (-38), 3) := by decide +kernel
theorem d_Matcher_standsHere_61 : decode c_Matcher_standsHere 61 = .ok (.iconst 1, 1) := by decide +kernel
theorem d_Matcher_standsHere_62 : decode c_Matcher_standsHere 62 = .ok (.ireturn, 1) := by decide +kernel
theorem d_Matcher_askCall_0 : decode c_Matcher_askCall 0 = .ok (.aload_n 0, 1) := by decide +kernel
theorem d_Matcher_askCall_1 : decode c_Matcher_askCall 1 = .ok (.getfield 53, 3) := by decide +kernel
theorem d_Matcher_askCall_4 : decode c_Matcher_askCall 4 = .ok (.getfield 197, 3) := by decide +kernel
theorem d_Matcher_askCall_7 : decode c_Matcher_askCall 7 = .ok (.aload_n 0, 1) := by decide +kernel
theorem d_Matcher_askCall_8 : decode c_Matcher_askCall 8 = .ok (.getfield 34, 3) := by decide +kernel
theorem d_Matcher_askCall_11 : decode c_Matcher_askCall 11 = .ok (.iaload, 1) := by decide +kernel
theorem d_Matcher_askCall_12 : decode c_Matcher_askCall 12 = .ok (.bipush 12, 2) := by decide +kernel
theorem d_Matcher_askCall_14 : decode c_Matcher_askCall 14 = .ok (.if_icmp .lt 10, 3) := by decide +kernel
theorem d_Matcher_askCall_17 : decode c_Matcher_askCall 17 = .ok (.aload_n 0, 1) := by decide +kernel
theorem d_Matcher_askCall_18 : decode c_Matcher_askCall 18 = .ok (.bipush 7, 2) := by decide +kernel
theorem d_Matcher_askCall_20 : decode c_Matcher_askCall 20 = .ok (.putfield 27, 3) := by decide +kernel
theorem d_Matcher_askCall_23 : decode c_Matcher_askCall 23 = .ok (.return_, 1) := by decide +kernel
theorem d_Matcher_askCall_24 : decode c_Matcher_askCall 24 = .ok (.aload_n 0, 1) := by decide +kernel
theorem d_Matcher_askCall_25 : decode c_Matcher_askCall 25 = .ok (.aload_n 0, 1) := by decide +kernel
theorem d_Matcher_askCall_26 : decode c_Matcher_askCall 26 = .ok (.getfield 53, 3) := by decide +kernel
theorem d_Matcher_askCall_29 : decode c_Matcher_askCall 29 = .ok (.iconst 2, 1) := by decide +kernel
theorem d_Matcher_askCall_30 : decode c_Matcher_askCall 30 = .ok (.iload_n 1, 1) := by decide +kernel
theorem d_Matcher_askCall_31 : decode c_Matcher_askCall 31 = .ok (.iconst 0, 1) := by decide +kernel
theorem d_Matcher_askCall_32 : decode c_Matcher_askCall 32 = .ok (.aload_n 0, 1) := by decide +kernel
theorem d_Matcher_askCall_33 : decode c_Matcher_askCall 33 = .ok (.getfield 37, 3) := by decide +kernel
theorem d_Matcher_askCall_36 : decode c_Matcher_askCall 36 = .ok (.aload_n 0, 1) := by decide +kernel
theorem d_Matcher_askCall_37 : decode c_Matcher_askCall 37 = .ok (.getfield 40, 3) := by decide +kernel
theorem d_Matcher_askCall_40 : decode c_Matcher_askCall 40 = .ok (.aload_n 0, 1) := by decide +kernel
theorem d_Matcher_askCall_41 : decode c_Matcher_askCall 41 = .ok (.getfield 34, 3) := by decide +kernel
theorem d_Matcher_askCall_44 : decode c_Matcher_askCall 44 = .ok (.invokevirtual 143, 3) := by decide +kernel
theorem d_Matcher_askCall_47 : decode c_Matcher_askCall 47 = .ok (.putfield 34, 3) := by decide +kernel
theorem d_Matcher_askCall_50 : decode c_Matcher_askCall 50 = .ok (.aload_n 0, 1) := by decide +kernel
theorem d_Matcher_askCall_51 : decode c_Matcher_askCall 51 = .ok (.iconst 0, 1) := by decide +kernel
theorem d_Matcher_askCall_52 : decode c_Matcher_askCall 52 = .ok (.aload_n 0, 1) := by decide +kernel
theorem d_Matcher_askCall_53 : decode c_Matcher_askCall 53 = .ok (.getfield 23, 3) := by decide +kernel
theorem d_Matcher_askCall_56 : decode c_Matcher_askCall 56 = .ok (.getfield 84, 3) := by decide +kernel
theorem d_Matcher_askCall_59 : decode c_Matcher_askCall 59 = .ok (.aload_n 0, 1) := by decide +kernel
theorem d_Matcher_askCall_60 : decode c_Matcher_askCall 60 = .ok (.getfield 23, 3) := by decide +kernel
theorem d_Matcher_askCall_63 : decode c_Matcher_askCall 63 = .ok (.getfield 169, 3) := by decide +kernel
theorem d_Matcher_askCall_66 : decode c_Matcher_askCall 66 = .ok (.iload_n 1, 1) := by decide +kernel
theorem d_Matcher_askCall_67 : decode c_Matcher_askCall 67 = .ok (.iaload, 1) := by decide +kernel
theorem d_Matcher_askCall_68 : decode c_Matcher_askCall 68 = .ok (.iaload, 1) := by decide +kernel
theorem d_Matcher_askCall_69 : decode c_Matcher_askCall 69 = .ok (.invokevirtual 88, 3) := by decide +kernel
theorem d_Matcher_askCall_72 : decode c_Matcher_askCall 72 = .ok (.return_, 1) := by decide +kernel
theorem d_Matcher_askBody_0 : decode c_Matcher_askBody 0 = .ok (.aload_n 0, 1) := by decide +kernel
theorem d_Matcher_askBody_1 : decode c_Matcher_askBody 1 = .ok (.getfield 60, 3) := by decide +kernel
theorem d_Matcher_askBody_4 : decode c_Matcher_askBody 4 = .ok (.getfield 140, 3) := by decide +kernel
theorem d_Matcher_askBody_7 : decode c_Matcher_askBody 7 = .ok (.istore_n 2, 1) := by decide +kernel
theorem d_Matcher_askBody_8 : decode c_Matcher_askBody 8 = .ok (.aload_n 0, 1) := by decide +kernel
theorem d_Matcher_askBody_9 : decode c_Matcher_askBody 9 = .ok (.getfield 23, 3) := by decide +kernel
theorem d_Matcher_askBody_12 : decode c_Matcher_askBody 12 = .ok (.getfield 163, 3) := by decide +kernel
theorem d_Matcher_askBody_15 : decode c_Matcher_askBody 15 = .ok (.iload_n 1, 1) := by decide +kernel
theorem d_Matcher_askBody_16 : decode c_Matcher_askBody 16 = .ok (.iaload, 1) := by decide +kernel
theorem d_Matcher_askBody_17 : decode c_Matcher_askBody 17 = .ok (.bipush 8, 2) := by decide +kernel
theorem d_Matcher_askBody_19 : decode c_Matcher_askBody 19 = .ok (.if_icmp .ne 24, 3) := by decide +kernel
theorem d_Matcher_askBody_22 : decode c_Matcher_askBody 22 = .ok (.aload_n 0, 1) := by decide +kernel
theorem d_Matcher_askBody_23 : decode c_Matcher_askBody 23 = .ok (.getfield 60, 3) := by decide +kernel
theorem d_Matcher_askBody_26 : decode c_Matcher_askBody 26 = .ok (.iconst 4, 1) := by decide +kernel
theorem d_Matcher_askBody_27 : decode c_Matcher_askBody 27 = .ok (.iload_n 1, 1) := by decide +kernel
theorem d_Matcher_askBody_28 : decode c_Matcher_askBody 28 = .ok (.aload_n 0, 1) := by decide +kernel
theorem d_Matcher_askBody_29 : decode c_Matcher_askBody 29 = .ok (.getfield 37, 3) := by decide +kernel
theorem d_Matcher_askBody_32 : decode c_Matcher_askBody 32 = .ok (.aload_n 0, 1) := by decide +kernel
theorem d_Matcher_askBody_33 : decode c_Matcher_askBody 33 = .ok (.getfield 40, 3) := by decide +kernel
theorem d_Matcher_askBody_36 : decode c_Matcher_askBody 36 = .ok (.aload_n 0, 1) := by decide +kernel
theorem d_Matcher_askBody_37 : decode c_Matcher_askBody 37 = .ok (.getfield 34, 3) := by decide +kernel
theorem d_Matcher_askBody_40 : decode c_Matcher_askBody 40 = .ok (.invokevirtual 124, 3) := by decide +kernel
theorem d_Matcher_askBody_43 : decode c_Matcher_askBody 43 = .ok (.aload_n 0, 1) := by decide +kernel
theorem d_Matcher_askBody_44 : decode c_Matcher_askBody 44 = .ok (.aload_n 0, 1) := by decide +kernel
theorem d_Matcher_askBody_45 : decode c_Matcher_askBody 45 = .ok (.getfield 53, 3) := by decide +kernel
theorem d_Matcher_askBody_48 : decode c_Matcher_askBody 48 = .ok (.iconst 1, 1) := by decide +kernel
theorem d_Matcher_askBody_49 : decode c_Matcher_askBody 49 = .ok (.iload_n 1, 1) := by decide +kernel
theorem d_Matcher_askBody_50 : decode c_Matcher_askBody 50 = .ok (.iload_n 2, 1) := by decide +kernel
theorem d_Matcher_askBody_51 : decode c_Matcher_askBody 51 = .ok (.aload_n 0, 1) := by decide +kernel
theorem d_Matcher_askBody_52 : decode c_Matcher_askBody 52 = .ok (.getfield 37, 3) := by decide +kernel
theorem d_Matcher_askBody_55 : decode c_Matcher_askBody 55 = .ok (.aload_n 0, 1) := by decide +kernel
theorem d_Matcher_askBody_56 : decode c_Matcher_askBody 56 = .ok (.getfield 40, 3) := by decide +kernel
theorem d_Matcher_askBody_59 : decode c_Matcher_askBody 59 = .ok (.aload_n 0, 1) := by decide +kernel
theorem d_Matcher_askBody_60 : decode c_Matcher_askBody 60 = .ok (.getfield 34, 3) := by decide +kernel
theorem d_Matcher_askBody_63 : decode c_Matcher_askBody 63 = .ok (.invokevirtual 143, 3) := by decide +kernel
theorem d_Matcher_askBody_66 : decode c_Matcher_askBody 66 = .ok (.putfield 34, 3) := by decide +kernel
theorem d_Matcher_askBody_69 : decode c_Matcher_askBody 69 = .ok (.aload_n 0, 1) := by decide +kernel
theorem d_Matcher_askBody_70 : decode c_Matcher_askBody 70 = .ok (.iconst 0, 1) := by decide +kernel
theorem d_Matcher_askBody_71 : decode c_Matcher_askBody 71 = .ok (.aload_n 0, 1) := by decide +kernel
theorem d_Matcher_askBody_72 : decode c_Matcher_askBody 72 = .ok (.getfield 23, 3) := by decide +kernel
theorem d_Matcher_askBody_75 : decode c_Matcher_askBody 75 = .ok (.getfield 200, 3) := by decide +kernel
theorem d_Matcher_askBody_78 : decode c_Matcher_askBody 78 = .ok (.iload_n 1, 1) := by decide +kernel
theorem d_Matcher_askBody_79 : decode c_Matcher_askBody 79 = .ok (.iaload, 1) := by decide +kernel
theorem d_Matcher_askBody_80 : decode c_Matcher_askBody 80 = .ok (.invokevirtual 88, 3) := by decide +kernel
theorem d_Matcher_askBody_83 : decode c_Matcher_askBody 83 = .ok (.return_, 1) := by decide +kernel
theorem d_Matcher_resume_0 : decode c_Matcher_resume 0 = .ok (.aload_n 0, 1) := by decide +kernel
theorem d_Matcher_resume_1 : decode c_Matcher_resume 1 = .ok (.getfield 53, 3) := by decide +kernel
theorem d_Matcher_resume_4 : decode c_Matcher_resume 4 = .ok (.getfield 203, 3) := by decide +kernel
theorem d_Matcher_resume_7 : decode c_Matcher_resume 7 = .ok (.iload_n 1, 1) := by decide +kernel
theorem d_Matcher_resume_8 : decode c_Matcher_resume 8 = .ok (.iaload, 1) := by decide +kernel
theorem d_Matcher_resume_9 : decode c_Matcher_resume 9 = .ok (.istore_n 2, 1) := by decide +kernel
theorem d_Matcher_resume_10 : decode c_Matcher_resume 10 = .ok (.aload_n 0, 1) := by decide +kernel
theorem d_Matcher_resume_11 : decode c_Matcher_resume 11 = .ok (.aload_n 0, 1) := by decide +kernel
theorem d_Matcher_resume_12 : decode c_Matcher_resume 12 = .ok (.getfield 53, 3) := by decide +kernel
theorem d_Matcher_resume_15 : decode c_Matcher_resume 15 = .ok (.getfield 206, 3) := by decide +kernel
theorem d_Matcher_resume_18 : decode c_Matcher_resume 18 = .ok (.iload_n 1, 1) := by decide +kernel
theorem d_Matcher_resume_19 : decode c_Matcher_resume 19 = .ok (.iaload, 1) := by decide +kernel
theorem d_Matcher_resume_20 : decode c_Matcher_resume 20 = .ok (.putfield 34, 3) := by decide +kernel
theorem d_Matcher_resume_23 : decode c_Matcher_resume 23 = .ok (.aload_n 0, 1) := by decide +kernel
theorem d_Matcher_resume_24 : decode c_Matcher_resume 24 = .ok (.getfield 53, 3) := by decide +kernel
theorem d_Matcher_resume_27 : decode c_Matcher_resume 27 = .ok (.getfield 209, 3) := by decide +kernel
theorem d_Matcher_resume_30 : decode c_Matcher_resume 30 = .ok (.iload_n 1, 1) := by decide +kernel
theorem d_Matcher_resume_31 : decode c_Matcher_resume 31 = .ok (.iaload, 1) := by decide +kernel
theorem d_Matcher_resume_32 : decode c_Matcher_resume 32 = .ok (.tableswitch 154 1 6 #[40, 49, 71, 104, 112, 121], 40) := by decide +kernel
theorem d_Matcher_resume_72 : decode c_Matcher_resume 72 = .ok (.aload_n 0, 1) := by decide +kernel
theorem d_Matcher_resume_73 : decode c_Matcher_resume 73 = .ok (.iload_n 1, 1) := by decide +kernel
theorem d_Matcher_resume_74 : decode c_Matcher_resume 74 = .ok (.iload_n 2, 1) := by decide +kernel
theorem d_Matcher_resume_75 : decode c_Matcher_resume 75 = .ok (.invokevirtual 210, 3) := by decide +kernel
theorem d_Matcher_resume_78 : decode c_Matcher_resume 78 = .ok (.goto 114, 3) := by decide +kernel
theorem d_Matcher_resume_81 : decode c_Matcher_resume 81 = .ok (.aload_n 0, 1) := by decide +kernel
theorem d_Matcher_resume_82 : decode c_Matcher_resume 82 = .ok (.aload_n 0, 1) := by decide +kernel
theorem d_Matcher_resume_83 : decode c_Matcher_resume 83 = .ok (.getfield 53, 3) := by decide +kernel
theorem d_Matcher_resume_86 : decode c_Matcher_resume 86 = .ok (.getfield 213, 3) := by decide +kernel
theorem d_Matcher_resume_89 : decode c_Matcher_resume 89 = .ok (.iload_n 1, 1) := by decide +kernel
theorem d_Matcher_resume_90 : decode c_Matcher_resume 90 = .ok (.laload, 1) := by decide +kernel
theorem d_Matcher_resume_91 : decode c_Matcher_resume 91 = .ok (.putfield 40, 3) := by decide +kernel
theorem d_Matcher_resume_94 : decode c_Matcher_resume 94 = .ok (.aload_n 0, 1) := by decide +kernel
theorem d_Matcher_resume_95 : decode c_Matcher_resume 95 = .ok (.iconst 4, 1) := by decide +kernel
theorem d_Matcher_resume_96 : decode c_Matcher_resume 96 = .ok (.iload_n 2, 1) := by decide +kernel
theorem d_Matcher_resume_97 : decode c_Matcher_resume 97 = .ok (.invokevirtual 88, 3) := by decide +kernel
theorem d_Matcher_resume_100 : decode c_Matcher_resume 100 = .ok (.goto 92, 3) := by decide +kernel
theorem d_Matcher_resume_103 : decode c_Matcher_resume 103 = .ok (.aload_n 0, 1) := by decide +kernel
theorem d_Matcher_resume_104 : decode c_Matcher_resume 104 = .ok (.getfield 37, 3) := by decide +kernel
theorem d_Matcher_resume_107 : decode c_Matcher_resume 107 = .ok (.aload_n 0, 1) := by decide +kernel
theorem d_Matcher_resume_108 : decode c_Matcher_resume 108 = .ok (.getfield 53, 3) := by decide +kernel
theorem d_Matcher_resume_111 : decode c_Matcher_resume 111 = .ok (.getfield 214, 3) := by decide +kernel
theorem d_Matcher_resume_114 : decode c_Matcher_resume 114 = .ok (.iload_n 1, 1) := by decide +kernel
theorem d_Matcher_resume_115 : decode c_Matcher_resume 115 = .ok (.iaload, 1) := by decide +kernel
theorem d_Matcher_resume_116 : decode c_Matcher_resume 116 = .ok (.if_icmp .ne 12, 3) := by decide +kernel
theorem d_Matcher_resume_119 : decode c_Matcher_resume 119 = .ok (.aload_n 0, 1) := by decide +kernel
theorem d_Matcher_resume_120 : decode c_Matcher_resume 120 = .ok (.iconst 5, 1) := by decide +kernel
theorem d_Matcher_resume_121 : decode c_Matcher_resume 121 = .ok (.iload_n 2, 1) := by decide +kernel
theorem d_Matcher_resume_122 : decode c_Matcher_resume 122 = .ok (.invokevirtual 88, 3) := by decide +kernel
theorem d_Matcher_resume_125 : decode c_Matcher_resume 125 = .ok (.goto 67, 3) := by decide +kernel
theorem d_Matcher_resume_128 : decode c_Matcher_resume 128 = .ok (.aload_n 0, 1) := by decide +kernel
theorem d_Matcher_resume_129 : decode c_Matcher_resume 129 = .ok (.iload_n 2, 1) := by decide +kernel
theorem d_Matcher_resume_130 : decode c_Matcher_resume 130 = .ok (.invokevirtual 146, 3) := by decide +kernel
theorem d_Matcher_resume_133 : decode c_Matcher_resume 133 = .ok (.goto 59, 3) := by decide +kernel
theorem d_Matcher_resume_136 : decode c_Matcher_resume 136 = .ok (.aload_n 0, 1) := by decide +kernel
theorem d_Matcher_resume_137 : decode c_Matcher_resume 137 = .ok (.iload_n 2, 1) := by decide +kernel
theorem d_Matcher_resume_138 : decode c_Matcher_resume 138 = .ok (.invokevirtual 146, 3) := by decide +kernel
theorem d_Matcher_resume_141 : decode c_Matcher_resume 141 = .ok (.goto 51, 3) := by decide +kernel
theorem d_Matcher_resume_144 : decode c_Matcher_resume 144 = .ok (.aload_n 0, 1) := by decide +kernel
theorem d_Matcher_resume_145 : decode c_Matcher_resume 145 = .ok (.iload_n 1, 1) := by decide +kernel
theorem d_Matcher_resume_146 : decode c_Matcher_resume 146 = .ok (.iload_n 2, 1) := by decide +kernel
theorem d_Matcher_resume_147 : decode c_Matcher_resume 147 = .ok (.invokevirtual 215, 3) := by decide +kernel
theorem d_Matcher_resume_150 : decode c_Matcher_resume 150 = .ok (.goto 42, 3) := by decide +kernel
theorem d_Matcher_resume_153 : decode c_Matcher_resume 153 = .ok (.aload_n 0, 1) := by decide +kernel
theorem d_Matcher_resume_154 : decode c_Matcher_resume 154 = .ok (.getfield 60, 3) := by decide +kernel
theorem d_Matcher_resume_157 : decode c_Matcher_resume 157 = .ok (.aload_n 0, 1) := by decide +kernel
theorem d_Matcher_resume_158 : decode c_Matcher_resume 158 = .ok (.getfield 53, 3) := by decide +kernel
theorem d_Matcher_resume_161 : decode c_Matcher_resume 161 = .ok (.getfield 218, 3) := by decide +kernel
theorem d_Matcher_resume_164 : decode c_Matcher_resume 164 = .ok (.iload_n 1, 1) := by decide +kernel
theorem d_Matcher_resume_165 : decode c_Matcher_resume 165 = .ok (.iaload, 1) := by decide +kernel
theorem d_Matcher_resume_166 : decode c_Matcher_resume 166 = .ok (.invokevirtual 81, 3) := by decide +kernel
theorem d_Matcher_resume_169 : decode c_Matcher_resume 169 = .ok (.aload_n 0, 1) := by decide +kernel
theorem d_Matcher_resume_170 : decode c_Matcher_resume 170 = .ok (.iconst 1, 1) := by decide +kernel
theorem d_Matcher_resume_171 : decode c_Matcher_resume 171 = .ok (.aload_n 0, 1) := by decide +kernel
theorem d_Matcher_resume_172 : decode c_Matcher_resume 172 = .ok (.getfield 23, 3) := by decide +kernel
theorem d_Matcher_resume_175 : decode c_Matcher_resume 175 = .ok (.getfield 134, 3) := by decide +kernel
theorem d_Matcher_resume_178 : decode c_Matcher_resume 178 = .ok (.iload_n 2, 1) := by decide +kernel
theorem d_Matcher_resume_179 : decode c_Matcher_resume 179 = .ok (.iaload, 1) := by decide +kernel
theorem d_Matcher_resume_180 : decode c_Matcher_resume 180 = .ok (.invokevirtual 88, 3) := by decide +kernel
theorem d_Matcher_resume_183 : decode c_Matcher_resume 183 = .ok (.goto 9, 3) := by decide +kernel
theorem d_Matcher_resume_186 : decode c_Matcher_resume 186 = .ok (.aload_n 0, 1) := by decide +kernel
theorem d_Matcher_resume_187 : decode c_Matcher_resume 187 = .ok (.bipush 8, 2) := by decide +kernel
theorem d_Matcher_resume_189 : decode c_Matcher_resume 189 = .ok (.putfield 27, 3) := by decide +kernel
theorem d_Matcher_resume_192 : decode c_Matcher_resume 192 = .ok (.return_, 1) := by decide +kernel
theorem d_Matcher_leaveTimesTurn_0 : decode c_Matcher_leaveTimesTurn 0 = .ok (.aload_n 0, 1) := by decide +kernel
theorem d_Matcher_leaveTimesTurn_1 : decode c_Matcher_leaveTimesTurn 1 = .ok (.getfield 53, 3) := by decide +kernel
theorem d_Matcher_leaveTimesTurn_4 : decode c_Matcher_leaveTimesTurn 4 = .ok (.getfield 218, 3) := by decide +kernel
theorem d_Matcher_leaveTimesTurn_7 : decode c_Matcher_leaveTimesTurn 7 = .ok (.iload_n 1, 1) := by decide +kernel
theorem d_Matcher_leaveTimesTurn_8 : decode c_Matcher_leaveTimesTurn 8 = .ok (.iaload, 1) := by decide +kernel
theorem d_Matcher_leaveTimesTurn_9 : decode c_Matcher_leaveTimesTurn 9 = .ok (.iconst 1, 1) := by decide +kernel
theorem d_Matcher_leaveTimesTurn_10 : decode c_Matcher_leaveTimesTurn 10 = .ok (.isub, 1) := by decide +kernel
theorem d_Matcher_leaveTimesTurn_11 : decode c_Matcher_leaveTimesTurn 11 = .ok (.istore_n 3, 1) := by decide +kernel
theorem d_Matcher_leaveTimesTurn_12 : decode c_Matcher_leaveTimesTurn 12 = .ok (.iload_n 3, 1) := by decide +kernel
theorem d_Matcher_leaveTimesTurn_13 : decode c_Matcher_leaveTimesTurn 13 = .ok (.ifCond .gt 12, 3) := by decide +kernel
theorem d_Matcher_leaveTimesTurn_16 : decode c_Matcher_leaveTimesTurn 16 = .ok (.aload_n 0, 1) := by decide +kernel
theorem d_Matcher_leaveTimesTurn_17 : decode c_Matcher_leaveTimesTurn 17 = .ok (.iconst 5, 1) := by decide +kernel
theorem d_Matcher_leaveTimesTurn_18 : decode c_Matcher_leaveTimesTurn 18 = .ok (.iload_n 2, 1) := by decide +kernel
theorem d_Matcher_leaveTimesTurn_19 : decode c_Matcher_leaveTimesTurn 19 = .ok (.invokevirtual 88, 3) := by decide +kernel
theorem d_Matcher_leaveTimesTurn_22 : decode c_Matcher_leaveTimesTurn 22 = .ok (.goto 35, 3) := by decide +kernel
theorem d_Matcher_leaveTimesTurn_25 : decode c_Matcher_leaveTimesTurn 25 = .ok (.aload_n 0, 1) := by decide +kernel
theorem d_Matcher_leaveTimesTurn_26 : decode c_Matcher_leaveTimesTurn 26 = .ok (.aload_n 0, 1) := by decide +kernel
theorem d_Matcher_leaveTimesTurn_27 : decode c_Matcher_leaveTimesTurn 27 = .ok (.getfield 53, 3) := by decide +kernel
theorem d_Matcher_leaveTimesTurn_30 : decode c_Matcher_leaveTimesTurn 30 = .ok (.iconst 5, 1) := by decide +kernel
theorem d_Matcher_leaveTimesTurn_31 : decode c_Matcher_leaveTimesTurn 31 = .ok (.iload_n 2, 1) := by decide +kernel
theorem d_Matcher_leaveTimesTurn_32 : decode c_Matcher_leaveTimesTurn 32 = .ok (.iload_n 3, 1) := by decide +kernel
theorem d_Matcher_leaveTimesTurn_33 : decode c_Matcher_leaveTimesTurn 33 = .ok (.aload_n 0, 1) := by decide +kernel
theorem d_Matcher_leaveTimesTurn_34 : decode c_Matcher_leaveTimesTurn 34 = .ok (.getfield 37, 3) := by decide +kernel
theorem d_Matcher_leaveTimesTurn_37 : decode c_Matcher_leaveTimesTurn 37 = .ok (.aload_n 0, 1) := by decide +kernel
theorem d_Matcher_leaveTimesTurn_38 : decode c_Matcher_leaveTimesTurn 38 = .ok (.getfield 40, 3) := by decide +kernel
theorem d_Matcher_leaveTimesTurn_41 : decode c_Matcher_leaveTimesTurn 41 = .ok (.aload_n 0, 1) := by decide +kernel
theorem d_Matcher_leaveTimesTurn_42 : decode c_Matcher_leaveTimesTurn 42 = .ok (.getfield 34, 3) := by decide +kernel
theorem d_Matcher_leaveTimesTurn_45 : decode c_Matcher_leaveTimesTurn 45 = .ok (.invokevirtual 143, 3) := by decide +kernel
theorem d_Matcher_leaveTimesTurn_48 : decode c_Matcher_leaveTimesTurn 48 = .ok (.putfield 34, 3) := by decide +kernel
theorem d_Matcher_leaveTimesTurn_51 : decode c_Matcher_leaveTimesTurn 51 = .ok (.aload_n 0, 1) := by decide +kernel
theorem d_Matcher_leaveTimesTurn_52 : decode c_Matcher_leaveTimesTurn 52 = .ok (.iconst 3, 1) := by decide +kernel
theorem d_Matcher_leaveTimesTurn_53 : decode c_Matcher_leaveTimesTurn 53 = .ok (.iload_n 2, 1) := by decide +kernel
theorem d_Matcher_leaveTimesTurn_54 : decode c_Matcher_leaveTimesTurn 54 = .ok (.invokevirtual 88, 3) := by decide +kernel
theorem d_Matcher_leaveTimesTurn_57 : decode c_Matcher_leaveTimesTurn 57 = .ok (.return_, 1) := by decide +kernel
theorem d_Matcher_leaveBody_0 : decode c_Matcher_leaveBody 0 = .ok (.aload_n 0, 1) := by decide +kernel
theorem d_Matcher_leaveBody_1 : decode c_Matcher_leaveBody 1 = .ok (.getfield 23, 3) := by decide +kernel
theorem d_Matcher_leaveBody_4 : decode c_Matcher_leaveBody 4 = .ok (.getfield 163, 3) := by decide +kernel
theorem d_Matcher_leaveBody_7 : decode c_Matcher_leaveBody 7 = .ok (.iload_n 2, 1) := by decide +kernel
theorem d_Matcher_leaveBody_8 : decode c_Matcher_leaveBody 8 = .ok (.iaload, 1) := by decide +kernel
theorem d_Matcher_leaveBody_9 : decode c_Matcher_leaveBody 9 = .ok (.istore_n 3, 1) := by decide +kernel
theorem d_Matcher_leaveBody_10 : decode c_Matcher_leaveBody 10 = .ok (.iload_n 3, 1) := by decide +kernel
theorem d_Matcher_leaveBody_11 : decode c_Matcher_leaveBody 11 = .ok (.bipush 7, 2) := by decide +kernel
theorem d_Matcher_leaveBody_13 : decode c_Matcher_leaveBody 13 = .ok (.if_icmp .eq 15, 3) := by decide +kernel
theorem d_Matcher_leaveBody_16 : decode c_Matcher_leaveBody 16 = .ok (.iload_n 3, 1) := by decide +kernel
theorem d_Matcher_leaveBody_17 : decode c_Matcher_leaveBody 17 = .ok (.bipush 8, 2) := by decide +kernel
theorem d_Matcher_leaveBody_19 : decode c_Matcher_leaveBody 19 = .ok (.if_icmp .eq 9, 3) := by decide +kernel
theorem d_Matcher_leaveBody_22 : decode c_Matcher_leaveBody 22 = .ok (.iload_n 3, 1) := by decide +kernel
theorem d_Matcher_leaveBody_23 : decode c_Matcher_leaveBody 23 = .ok (.bipush 9, 2) := by decide +kernel
theorem d_Matcher_leaveBody_25 : decode c_Matcher_leaveBody 25 = .ok (.if_icmp .ne 19, 3) := by decide +kernel
theorem d_Matcher_leaveBody_28 : decode c_Matcher_leaveBody 28 = .ok (.aload_n 0, 1) := by decide +kernel
theorem d_Matcher_leaveBody_29 : decode c_Matcher_leaveBody 29 = .ok (.getfield 60, 3) := by decide +kernel
theorem d_Matcher_leaveBody_32 : decode c_Matcher_leaveBody 32 = .ok (.aload_n 0, 1) := by decide +kernel
theorem d_Matcher_leaveBody_33 : decode c_Matcher_leaveBody 33 = .ok (.getfield 53, 3) := by decide +kernel
theorem d_Matcher_leaveBody_36 : decode c_Matcher_leaveBody 36 = .ok (.getfield 218, 3) := by decide +kernel
theorem d_Matcher_leaveBody_39 : decode c_Matcher_leaveBody 39 = .ok (.iload_n 1, 1) := by decide +kernel
theorem d_Matcher_leaveBody_40 : decode c_Matcher_leaveBody 40 = .ok (.iaload, 1) := by decide +kernel
theorem d_Matcher_leaveBody_41 : decode c_Matcher_leaveBody 41 = .ok (.invokevirtual 81, 3) := by decide +kernel
theorem d_Matcher_leaveBody_44 : decode c_Matcher_leaveBody 44 = .ok (.iload_n 3, 1) := by decide +kernel
theorem d_Matcher_leaveBody_45 : decode c_Matcher_leaveBody 45 = .ok (.iconst 5, 1) := by decide +kernel
theorem d_Matcher_leaveBody_46 : decode c_Matcher_leaveBody 46 = .ok (.if_icmp .ne 39, 3) := by decide +kernel
theorem d_Matcher_leaveBody_49 : decode c_Matcher_leaveBody 49 = .ok (.aload_n 0, 1) := by decide +kernel
theorem d_Matcher_leaveBody_50 : decode c_Matcher_leaveBody 50 = .ok (.aload_n 0, 1) := by decide +kernel
theorem d_Matcher_leaveBody_51 : decode c_Matcher_leaveBody 51 = .ok (.getfield 40, 3) := by decide +kernel
theorem d_Matcher_leaveBody_54 : decode c_Matcher_leaveBody 54 = .ok (.aload_n 0, 1) := by decide +kernel
theorem d_Matcher_leaveBody_55 : decode c_Matcher_leaveBody 55 = .ok (.getfield 23, 3) := by decide +kernel
theorem d_Matcher_leaveBody_58 : decode c_Matcher_leaveBody 58 = .ok (.getfield 169, 3) := by decide +kernel
theorem d_Matcher_leaveBody_61 : decode c_Matcher_leaveBody 61 = .ok (.iload_n 2, 1) := by decide +kernel
theorem d_Matcher_leaveBody_62 : decode c_Matcher_leaveBody 62 = .ok (.iaload, 1) := by decide +kernel
theorem d_Matcher_leaveBody_63 : decode c_Matcher_leaveBody 63 = .ok (.aload_n 0, 1) := by decide +kernel
theorem d_Matcher_leaveBody_64 : decode c_Matcher_leaveBody 64 = .ok (.getfield 53, 3) := by decide +kernel
theorem d_Matcher_leaveBody_67 : decode c_Matcher_leaveBody 67 = .ok (.getfield 214, 3) := by decide +kernel
theorem d_Matcher_leaveBody_70 : decode c_Matcher_leaveBody 70 = .ok (.iload_n 1, 1) := by decide +kernel
theorem d_Matcher_leaveBody_71 : decode c_Matcher_leaveBody 71 = .ok (.iaload, 1) := by decide +kernel
theorem d_Matcher_leaveBody_72 : decode c_Matcher_leaveBody 72 = .ok (.aload_n 0, 1) := by decide +kernel
theorem d_Matcher_leaveBody_73 : decode c_Matcher_leaveBody 73 = .ok (.getfield 37, 3) := by decide +kernel
theorem d_Matcher_leaveBody_76 : decode c_Matcher_leaveBody 76 = .ok (.invokestatic 221, 3) := by decide +kernel
theorem d_Matcher_leaveBody_79 : decode c_Matcher_leaveBody 79 = .ok (.putfield 40, 3) := by decide +kernel
theorem d_Matcher_leaveBody_82 : decode c_Matcher_leaveBody 82 = .ok (.goto 22, 3) := by decide +kernel
theorem d_Matcher_leaveBody_85 : decode c_Matcher_leaveBody 85 = .ok (.iload_n 3, 1) := by decide +kernel
theorem d_Matcher_leaveBody_86 : decode c_Matcher_leaveBody 86 = .ok (.bipush 7, 2) := by decide +kernel
theorem d_Matcher_leaveBody_88 : decode c_Matcher_leaveBody 88 = .ok (.if_icmp .ne 16, 3) := by decide +kernel
theorem d_Matcher_leaveBody_91 : decode c_Matcher_leaveBody 91 = .ok (.aload_n 0, 1) := by decide +kernel
theorem d_Matcher_leaveBody_92 : decode c_Matcher_leaveBody 92 = .ok (.aload_n 0, 1) := by decide +kernel
theorem d_Matcher_leaveBody_93 : decode c_Matcher_leaveBody 93 = .ok (.getfield 53, 3) := by decide +kernel
theorem d_Matcher_leaveBody_96 : decode c_Matcher_leaveBody 96 = .ok (.getfield 214, 3) := by decide +kernel
theorem d_Matcher_leaveBody_99 : decode c_Matcher_leaveBody 99 = .ok (.iload_n 1, 1) := by decide +kernel
theorem d_Matcher_leaveBody_100 : decode c_Matcher_leaveBody 100 = .ok (.iaload, 1) := by decide +kernel
theorem d_Matcher_leaveBody_101 : decode c_Matcher_leaveBody 101 = .ok (.putfield 37, 3) := by decide +kernel
theorem d_Matcher_leaveBody_104 : decode c_Matcher_leaveBody 104 = .ok (.aload_n 0, 1) := by decide +kernel
theorem d_Matcher_leaveBody_105 : decode c_Matcher_leaveBody 105 = .ok (.iload_n 3, 1) := by decide +kernel
theorem d_Matcher_leaveBody_106 : decode c_Matcher_leaveBody 106 = .ok (.bipush 8, 2) := by decide +kernel
theorem d_Matcher_leaveBody_108 : decode c_Matcher_leaveBody 108 = .ok (.if_icmp .ne 8, 3) := by decide +kernel
theorem d_Matcher_leaveBody_111 : decode c_Matcher_leaveBody 111 = .ok (.bipush 7, 2) := by decide +kernel
theorem d_Matcher_leaveBody_113 : decode c_Matcher_leaveBody 113 = .ok (.goto 4, 3) := by decide +kernel
theorem d_Matcher_leaveBody_116 : decode c_Matcher_leaveBody 116 = .ok (.iconst 4, 1) := by decide +kernel
theorem d_Matcher_leaveBody_117 : decode c_Matcher_leaveBody 117 = .ok (.iload_n 2, 1) := by decide +kernel
theorem d_Matcher_leaveBody_118 : decode c_Matcher_leaveBody 118 = .ok (.invokevirtual 88, 3) := by decide +kernel
theorem d_Matcher_leaveBody_121 : decode c_Matcher_leaveBody 121 = .ok (.return_, 1) := by decide +kernel
theorem d_Program_init_0 : decode c_Program_init 0 = .ok (.aload_n 0, 1) := by decide +kernel
theorem d_Program_init_1 : decode c_Program_init 1 = .ok (.invokespecial 3, 3) := by decide +kernel
theorem d_Program_init_4 : decode c_Program_init 4 = .ok (.aload_n 0, 1) := by decide +kernel
theorem d_Program_init_5 : decode c_Program_init 5 = .ok (.bipush 32, 2) := by decide +kernel
theorem d_Program_init_7 : decode c_Program_init 7 = .ok (.newarray .int, 2) := by decide +kernel
theorem d_Program_init_9 : decode c_Program_init 9 = .ok (.putfield 9, 3) := by decide +kernel
theorem d_Program_init_12 : decode c_Program_init 12 = .ok (.aload_n 0, 1) := by decide +kernel
theorem d_Program_init_13 : decode c_Program_init 13 = .ok (.bipush 32, 2) := by decide +kernel
theorem d_Program_init_15 : decode c_Program_init 15 = .ok (.newarray .int, 2) := by decide +kernel
theorem d_Program_init_17 : decode c_Program_init 17 = .ok (.putfield 15, 3) := by decide +kernel
theorem d_Program_init_20 : decode c_Program_init 20 = .ok (.aload_n 0, 1) := by decide +kernel
theorem d_Program_init_21 : decode c_Program_init 21 = .ok (.bipush 32, 2) := by decide +kernel
theorem d_Program_init_23 : decode c_Program_init 23 = .ok (.newarray .int, 2) := by decide +kernel
theorem d_Program_init_25 : decode c_Program_init 25 = .ok (.putfield 18, 3) := by decide +kernel
theorem d_Program_init_28 : decode c_Program_init 28 = .ok (.aload_n 0, 1) := by decide +kernel
theorem d_Program_init_29 : decode c_Program_init 29 = .ok (.bipush 32, 2) := by decide +kernel
theorem d_Program_init_31 : decode c_Program_init 31 = .ok (.newarray .int, 2) := by decide +kernel
theorem d_Program_init_33 : decode c_Program_init 33 = .ok (.putfield 21, 3) := by decide +kernel
theorem d_Program_init_36 : decode c_Program_init 36 = .ok (.aload_n 0, 1) := by decide +kernel
theorem d_Program_init_37 : decode c_Program_init 37 = .ok (.bipush 32, 2) := by decide +kernel
theorem d_Program_init_39 : decode c_Program_init 39 = .ok (.newarray .int, 2) := by decide +kernel
theorem d_Program_init_41 : decode c_Program_init 41 = .ok (.putfield 24, 3) := by decide +kernel
theorem d_Program_init_44 : decode c_Program_init 44 = .ok (.aload_n 0, 1) := by decide +kernel
theorem d_Program_init_45 : decode c_Program_init 45 = .ok (.bipush 32, 2) := by decide +kernel
theorem d_Program_init_47 : decode c_Program_init 47 = .ok (.newarray .int, 2) := by decide +kernel
theorem d_Program_init_49 : decode c_Program_init 49 = .ok (.putfield 27, 3) := by decide +kernel
theorem d_Program_init_52 : decode c_Program_init 52 = .ok (.aload_n 0, 1) := by decide +kernel
theorem d_Program_init_53 : decode c_Program_init 53 = .ok (.bipush 32, 2) := by decide +kernel
theorem d_Program_init_55 : decode c_Program_init 55 = .ok (.newarray .int, 2) := by decide +kernel
theorem d_Program_init_57 : decode c_Program_init 57 = .ok (.putfield 30, 3) := by decide +kernel
theorem d_Program_init_60 : decode c_Program_init 60 = .ok (.aload_n 0, 1) := by decide +kernel
theorem d_Program_init_61 : decode c_Program_init 61 = .ok (.bipush 33, 2) := by decide +kernel
theorem d_Program_init_63 : decode c_Program_init 63 = .ok (.newarray .int, 2) := by decide +kernel
theorem d_Program_init_65 : decode c_Program_init 65 = .ok (.putfield 33, 3) := by decide +kernel
theorem d_Program_init_68 : decode c_Program_init 68 = .ok (.aload_n 0, 1) := by decide +kernel
theorem d_Program_init_69 : decode c_Program_init 69 = .ok (.bipush 33, 2) := by decide +kernel
theorem d_Program_init_71 : decode c_Program_init 71 = .ok (.newarray .int, 2) := by decide +kernel
theorem d_Program_init_73 : decode c_Program_init 73 = .ok (.putfield 36, 3) := by decide +kernel
theorem d_Program_init_76 : decode c_Program_init 76 = .ok (.aload_n 0, 1) := by decide +kernel
theorem d_Program_init_77 : decode c_Program_init 77 = .ok (.iconst 5, 1) := by decide +kernel
theorem d_Program_init_78 : decode c_Program_init 78 = .ok (.newarray .int, 2) := by decide +kernel
theorem d_Program_init_80 : decode c_Program_init 80 = .ok (.putfield 39, 3) := by decide +kernel
theorem d_Program_init_83 : decode c_Program_init 83 = .ok (.aload_n 0, 1) := by decide +kernel
theorem d_Program_init_84 : decode c_Program_init 84 = .ok (.iconst 0, 1) := by decide +kernel
theorem d_Program_init_85 : decode c_Program_init 85 = .ok (.putfield 42, 3) := by decide +kernel
theorem d_Program_init_88 : decode c_Program_init 88 = .ok (.aload_n 0, 1) := by decide +kernel
theorem d_Program_init_89 : decode c_Program_init 89 = .ok (.iconst 0, 1) := by decide +kernel
theorem d_Program_init_90 : decode c_Program_init 90 = .ok (.putfield 46, 3) := by decide +kernel
theorem d_Program_init_93 : decode c_Program_init 93 = .ok (.aload_n 0, 1) := by decide +kernel
theorem d_Program_init_94 : decode c_Program_init 94 = .ok (.iconst 0, 1) := by decide +kernel
theorem d_Program_init_95 : decode c_Program_init 95 = .ok (.putfield 49, 3) := by decide +kernel
theorem d_Program_init_98 : decode c_Program_init 98 = .ok (.aload_n 0, 1) := by decide +kernel
theorem d_Program_init_99 : decode c_Program_init 99 = .ok (.iconst 0, 1) := by decide +kernel
theorem d_Program_init_100 : decode c_Program_init 100 = .ok (.putfield 52, 3) := by decide +kernel
theorem d_Program_init_103 : decode c_Program_init 103 = .ok (.return_, 1) := by decide +kernel
theorem d_Program_empty_0 : decode c_Program_empty 0 = .ok (.aload_n 0, 1) := by decide +kernel
theorem d_Program_empty_1 : decode c_Program_empty 1 = .ok (.iconst 0, 1) := by decide +kernel
theorem d_Program_empty_2 : decode c_Program_empty 2 = .ok (.putfield 42, 3) := by decide +kernel
theorem d_Program_empty_5 : decode c_Program_empty 5 = .ok (.aload_n 0, 1) := by decide +kernel
theorem d_Program_empty_6 : decode c_Program_empty 6 = .ok (.iconst 0, 1) := by decide +kernel
theorem d_Program_empty_7 : decode c_Program_empty 7 = .ok (.putfield 46, 3) := by decide +kernel
theorem d_Program_empty_10 : decode c_Program_empty 10 = .ok (.aload_n 0, 1) := by decide +kernel
theorem d_Program_empty_11 : decode c_Program_empty 11 = .ok (.iconst 0, 1) := by decide +kernel
theorem d_Program_empty_12 : decode c_Program_empty 12 = .ok (.putfield 49, 3) := by decide +kernel
theorem d_Program_empty_15 : decode c_Program_empty 15 = .ok (.aload_n 0, 1) := by decide +kernel
theorem d_Program_empty_16 : decode c_Program_empty 16 = .ok (.iconst 0, 1) := by decide +kernel
theorem d_Program_empty_17 : decode c_Program_empty 17 = .ok (.putfield 52, 3) := by decide +kernel
theorem d_Program_empty_20 : decode c_Program_empty 20 = .ok (.return_, 1) := by decide +kernel
theorem d_Program_addRow_0 : decode c_Program_addRow 0 = .ok (.aload_n 0, 1) := by decide +kernel
theorem d_Program_addRow_1 : decode c_Program_addRow 1 = .ok (.getfield 46, 3) := by decide +kernel
theorem d_Program_addRow_4 : decode c_Program_addRow 4 = .ok (.istore_n 1, 1) := by decide +kernel
theorem d_Program_addRow_5 : decode c_Program_addRow 5 = .ok (.aload_n 0, 1) := by decide +kernel
theorem d_Program_addRow_6 : decode c_Program_addRow 6 = .ok (.getfield 33, 3) := by decide +kernel
theorem d_Program_addRow_9 : decode c_Program_addRow 9 = .ok (.iload_n 1, 1) := by decide +kernel
theorem d_Program_addRow_10 : decode c_Program_addRow 10 = .ok (.iconst (-1), 1) := by decide +kernel
theorem d_Program_addRow_11 : decode c_Program_addRow 11 = .ok (.iastore, 1) := by decide +kernel
theorem d_Program_addRow_12 : decode c_Program_addRow 12 = .ok (.aload_n 0, 1) := by decide +kernel
theorem d_Program_addRow_13 : decode c_Program_addRow 13 = .ok (.getfield 36, 3) := by decide +kernel
theorem d_Program_addRow_16 : decode c_Program_addRow 16 = .ok (.iload_n 1, 1) := by decide +kernel
theorem d_Program_addRow_17 : decode c_Program_addRow 17 = .ok (.iconst (-1), 1) := by decide +kernel
theorem d_Program_addRow_18 : decode c_Program_addRow 18 = .ok (.iastore, 1) := by decide +kernel
theorem d_Program_addRow_19 : decode c_Program_addRow 19 = .ok (.aload_n 0, 1) := by decide +kernel
theorem d_Program_addRow_20 : decode c_Program_addRow 20 = .ok (.dup, 1) := by decide +kernel
theorem d_Program_addRow_21 : decode c_Program_addRow 21 = .ok (.getfield 46, 3) := by decide +kernel
theorem d_Program_addRow_24 : decode c_Program_addRow 24 = .ok (.iconst 1, 1) := by decide +kernel
theorem d_Program_addRow_25 : decode c_Program_addRow 25 = .ok (.iadd, 1) := by decide +kernel
theorem d_Program_addRow_26 : decode c_Program_addRow 26 = .ok (.putfield 46, 3) := by decide +kernel
theorem d_Program_addRow_29 : decode c_Program_addRow 29 = .ok (.iload_n 1, 1) := by decide +kernel
theorem d_Program_addRow_30 : decode c_Program_addRow 30 = .ok (.ireturn, 1) := by decide +kernel
theorem d_Program_addItem_0 : decode c_Program_addItem 0 = .ok (.aload_n 0, 1) := by decide +kernel
theorem d_Program_addItem_1 : decode c_Program_addItem 1 = .ok (.getfield 42, 3) := by decide +kernel
theorem d_Program_addItem_4 : decode c_Program_addItem 4 = .ok (.istore_n 3, 1) := by decide +kernel
theorem d_Program_addItem_5 : decode c_Program_addItem 5 = .ok (.aload_n 0, 1) := by decide +kernel
theorem d_Program_addItem_6 : decode c_Program_addItem 6 = .ok (.getfield 9, 3) := by decide +kernel
theorem d_Program_addItem_9 : decode c_Program_addItem 9 = .ok (.iload_n 3, 1) := by decide +kernel
theorem d_Program_addItem_10 : decode c_Program_addItem 10 = .ok (.iload_n 1, 1) := by decide +kernel
theorem d_Program_addItem_11 : decode c_Program_addItem 11 = .ok (.iastore, 1) := by decide +kernel
theorem d_Program_addItem_12 : decode c_Program_addItem 12 = .ok (.aload_n 0, 1) := by decide +kernel
theorem d_Program_addItem_13 : decode c_Program_addItem 13 = .ok (.getfield 15, 3) := by decide +kernel
theorem d_Program_addItem_16 : decode c_Program_addItem 16 = .ok (.iload_n 3, 1) := by decide +kernel
theorem d_Program_addItem_17 : decode c_Program_addItem 17 = .ok (.iload_n 2, 1) := by decide +kernel
theorem d_Program_addItem_18 : decode c_Program_addItem 18 = .ok (.iastore, 1) := by decide +kernel
theorem d_Program_addItem_19 : decode c_Program_addItem 19 = .ok (.aload_n 0, 1) := by decide +kernel
theorem d_Program_addItem_20 : decode c_Program_addItem 20 = .ok (.getfield 18, 3) := by decide +kernel
theorem d_Program_addItem_23 : decode c_Program_addItem 23 = .ok (.iload_n 3, 1) := by decide +kernel
theorem d_Program_addItem_24 : decode c_Program_addItem 24 = .ok (.iconst 0, 1) := by decide +kernel
theorem d_Program_addItem_25 : decode c_Program_addItem 25 = .ok (.iastore, 1) := by decide +kernel
theorem d_Program_addItem_26 : decode c_Program_addItem 26 = .ok (.aload_n 0, 1) := by decide +kernel
theorem d_Program_addItem_27 : decode c_Program_addItem 27 = .ok (.getfield 21, 3) := by decide +kernel
theorem d_Program_addItem_30 : decode c_Program_addItem 30 = .ok (.iload_n 3, 1) := by decide +kernel
theorem d_Program_addItem_31 : decode c_Program_addItem 31 = .ok (.iconst 1, 1) := by decide +kernel
theorem d_Program_addItem_32 : decode c_Program_addItem 32 = .ok (.iastore, 1) := by decide +kernel
theorem d_Program_addItem_33 : decode c_Program_addItem 33 = .ok (.aload_n 0, 1) := by decide +kernel
theorem d_Program_addItem_34 : decode c_Program_addItem 34 = .ok (.getfield 24, 3) := by decide +kernel
theorem d_Program_addItem_37 : decode c_Program_addItem 37 = .ok (.iload_n 3, 1) := by decide +kernel
theorem d_Program_addItem_38 : decode c_Program_addItem 38 = .ok (.iconst 0, 1) := by decide +kernel
theorem d_Program_addItem_39 : decode c_Program_addItem 39 = .ok (.iastore, 1) := by decide +kernel
theorem d_Program_addItem_40 : decode c_Program_addItem 40 = .ok (.aload_n 0, 1) := by decide +kernel
theorem d_Program_addItem_41 : decode c_Program_addItem 41 = .ok (.getfield 27, 3) := by decide +kernel
theorem d_Program_addItem_44 : decode c_Program_addItem 44 = .ok (.iload_n 3, 1) := by decide +kernel
theorem d_Program_addItem_45 : decode c_Program_addItem 45 = .ok (.iconst (-1), 1) := by decide +kernel
theorem d_Program_addItem_46 : decode c_Program_addItem 46 = .ok (.iastore, 1) := by decide +kernel
theorem d_Program_addItem_47 : decode c_Program_addItem 47 = .ok (.aload_n 0, 1) := by decide +kernel
theorem d_Program_addItem_48 : decode c_Program_addItem 48 = .ok (.getfield 30, 3) := by decide +kernel
theorem d_Program_addItem_51 : decode c_Program_addItem 51 = .ok (.iload_n 3, 1) := by decide +kernel
theorem d_Program_addItem_52 : decode c_Program_addItem 52 = .ok (.iconst (-1), 1) := by decide +kernel
theorem d_Program_addItem_53 : decode c_Program_addItem 53 = .ok (.iastore, 1) := by decide +kernel
theorem d_Program_addItem_54 : decode c_Program_addItem 54 = .ok (.aload_n 0, 1) := by decide +kernel
theorem d_Program_addItem_55 : decode c_Program_addItem 55 = .ok (.dup, 1) := by decide +kernel
theorem d_Program_addItem_56 : decode c_Program_addItem 56 = .ok (.getfield 42, 3) := by decide +kernel
theorem d_Program_addItem_59 : decode c_Program_addItem 59 = .ok (.iconst 1, 1) := by decide +kernel
theorem d_Program_addItem_60 : decode c_Program_addItem 60 = .ok (.iadd, 1) := by decide +kernel
theorem d_Program_addItem_61 : decode c_Program_addItem 61 = .ok (.putfield 42, 3) := by decide +kernel
theorem d_Program_addItem_64 : decode c_Program_addItem 64 = .ok (.iload_n 3, 1) := by decide +kernel
theorem d_Program_addItem_65 : decode c_Program_addItem 65 = .ok (.ireturn, 1) := by decide +kernel
theorem d_Reader_init_0 : decode c_Reader_init 0 = .ok (.aload_n 0, 1) := by decide +kernel
theorem d_Reader_init_1 : decode c_Reader_init 1 = .ok (.invokespecial 3, 3) := by decide +kernel
theorem d_Reader_init_4 : decode c_Reader_init 4 = .ok (.aload_n 0, 1) := by decide +kernel
theorem d_Reader_init_5 : decode c_Reader_init 5 = .ok (.new 9, 3) := by decide +kernel
theorem d_Reader_init_8 : decode c_Reader_init 8 = .ok (.dup, 1) := by decide +kernel
theorem d_Reader_init_9 : decode c_Reader_init 9 = .ok (.bipush 32, 2) := by decide +kernel
theorem d_Reader_init_11 : decode c_Reader_init 11 = .ok (.invokespecial 11, 3) := by decide +kernel
theorem d_Reader_init_14 : decode c_Reader_init 14 = .ok (.putfield 14, 3) := by decide +kernel
theorem d_Reader_init_17 : decode c_Reader_init 17 = .ok (.aload_n 0, 1) := by decide +kernel
theorem d_Reader_init_18 : decode c_Reader_init 18 = .ok (.new 20, 3) := by decide +kernel
theorem d_Reader_init_21 : decode c_Reader_init 21 = .ok (.dup, 1) := by decide +kernel
theorem d_Reader_init_22 : decode c_Reader_init 22 = .ok (.invokespecial 22, 3) := by decide +kernel
theorem d_Reader_init_25 : decode c_Reader_init 25 = .ok (.putfield 23, 3) := by decide +kernel
theorem d_Reader_init_28 : decode c_Reader_init 28 = .ok (.aload_n 0, 1) := by decide +kernel
theorem d_Reader_init_29 : decode c_Reader_init 29 = .ok (.bipush 7, 2) := by decide +kernel
theorem d_Reader_init_31 : decode c_Reader_init 31 = .ok (.newarray .int, 2) := by decide +kernel
theorem d_Reader_init_33 : decode c_Reader_init 33 = .ok (.putfield 27, 3) := by decide +kernel
theorem d_Reader_init_36 : decode c_Reader_init 36 = .ok (.aload_n 0, 1) := by decide +kernel
theorem d_Reader_init_37 : decode c_Reader_init 37 = .ok (.bipush 7, 2) := by decide +kernel
theorem d_Reader_init_39 : decode c_Reader_init 39 = .ok (.newarray .int, 2) := by decide +kernel
theorem d_Reader_init_41 : decode c_Reader_init 41 = .ok (.putfield 31, 3) := by decide +kernel
theorem d_Reader_init_44 : decode c_Reader_init 44 = .ok (.aload_n 0, 1) := by decide +kernel
theorem d_Reader_init_45 : decode c_Reader_init 45 = .ok (.bipush 7, 2) := by decide +kernel
theorem d_Reader_init_47 : decode c_Reader_init 47 = .ok (.newarray .int, 2) := by decide +kernel
theorem d_Reader_init_49 : decode c_Reader_init 49 = .ok (.putfield 34, 3) := by decide +kernel
theorem d_Reader_init_52 : decode c_Reader_init 52 = .ok (.aload_n 0, 1) := by decide +kernel
theorem d_Reader_init_53 : decode c_Reader_init 53 = .ok (.bipush 7, 2) := by decide +kernel
theorem d_Reader_init_55 : decode c_Reader_init 55 = .ok (.newarray .int, 2) := by decide +kernel
theorem d_Reader_init_57 : decode c_Reader_init 57 = .ok (.putfield 37, 3) := by decide +kernel
theorem d_Reader_init_60 : decode c_Reader_init 60 = .ok (.aload_n 0, 1) := by decide +kernel
theorem d_Reader_init_61 : decode c_Reader_init 61 = .ok (.iconst 0, 1) := by decide +kernel
theorem d_Reader_init_62 : decode c_Reader_init 62 = .ok (.putfield 40, 3) := by decide +kernel
theorem d_Reader_init_65 : decode c_Reader_init 65 = .ok (.aload_n 0, 1) := by decide +kernel
theorem d_Reader_init_66 : decode c_Reader_init 66 = .ok (.iconst 0, 1) := by decide +kernel
theorem d_Reader_init_67 : decode c_Reader_init 67 = .ok (.putfield 44, 3) := by decide +kernel
theorem d_Reader_init_70 : decode c_Reader_init 70 = .ok (.aload_n 0, 1) := by decide +kernel
theorem d_Reader_init_71 : decode c_Reader_init 71 = .ok (.iconst 0, 1) := by decide +kernel
theorem d_Reader_init_72 : decode c_Reader_init 72 = .ok (.putfield 47, 3) := by decide +kernel
theorem d_Reader_init_75 : decode c_Reader_init 75 = .ok (.aload_n 0, 1) := by decide +kernel
theorem d_Reader_init_76 : decode c_Reader_init 76 = .ok (.iconst 0, 1) := by decide +kernel
theorem d_Reader_init_77 : decode c_Reader_init 77 = .ok (.putfield 50, 3) := by decide +kernel
theorem d_Reader_init_80 : decode c_Reader_init 80 = .ok (.aload_n 0, 1) := by decide +kernel
theorem d_Reader_init_81 : decode c_Reader_init 81 = .ok (.iconst 1, 1) := by decide +kernel
theorem d_Reader_init_82 : decode c_Reader_init 82 = .ok (.putfield 53, 3) := by decide +kernel
theorem d_Reader_init_85 : decode c_Reader_init 85 = .ok (.return_, 1) := by decide +kernel
theorem d_Reader_read_0 : decode c_Reader_read 0 = .ok (.aload_n 0, 1) := by decide +kernel
theorem d_Reader_read_1 : decode c_Reader_read 1 = .ok (.getfield 23, 3) := by decide +kernel
theorem d_Reader_read_4 : decode c_Reader_read 4 = .ok (.invokevirtual 57, 3) := by decide +kernel
theorem d_Reader_read_7 : decode c_Reader_read 7 = .ok (.aload_n 0, 1) := by decide +kernel
theorem d_Reader_read_8 : decode c_Reader_read 8 = .ok (.iconst 0, 1) := by decide +kernel
theorem d_Reader_read_9 : decode c_Reader_read 9 = .ok (.putfield 44, 3) := by decide +kernel
theorem d_Reader_read_12 : decode c_Reader_read 12 = .ok (.aload_n 0, 1) := by decide +kernel
theorem d_Reader_read_13 : decode c_Reader_read 13 = .ok (.iconst 0, 1) := by decide +kernel
theorem d_Reader_read_14 : decode c_Reader_read 14 = .ok (.putfield 50, 3) := by decide +kernel
theorem d_Reader_read_17 : decode c_Reader_read 17 = .ok (.aload_n 0, 1) := by decide +kernel
theorem d_Reader_read_18 : decode c_Reader_read 18 = .ok (.iconst 1, 1) := by decide +kernel
theorem d_Reader_read_19 : decode c_Reader_read 19 = .ok (.putfield 53, 3) := by decide +kernel
theorem d_Reader_read_22 : decode c_Reader_read 22 = .ok (.aload_n 0, 1) := by decide +kernel
theorem d_Reader_read_23 : decode c_Reader_read 23 = .ok (.iconst 0, 1) := by decide +kernel
theorem d_Reader_read_24 : decode c_Reader_read 24 = .ok (.iconst (-1), 1) := by decide +kernel
theorem d_Reader_read_25 : decode c_Reader_read 25 = .ok (.invokevirtual 60, 3) := by decide +kernel
theorem d_Reader_read_28 : decode c_Reader_read 28 = .ok (.aload_n 0, 1) := by decide +kernel
theorem d_Reader_read_29 : decode c_Reader_read 29 = .ok (.getfield 23, 3) := by decide +kernel
theorem d_Reader_read_32 : decode c_Reader_read 32 = .ok (.getfield 64, 3) := by decide +kernel
theorem d_Reader_read_35 : decode c_Reader_read 35 = .ok (.iconst 0, 1) := by decide +kernel
theorem d_Reader_read_36 : decode c_Reader_read 36 = .ok (.aload_n 0, 1) := by decide +kernel
theorem d_Reader_read_37 : decode c_Reader_read 37 = .ok (.getfield 31, 3) := by decide +kernel
theorem d_Reader_read_40 : decode c_Reader_read 40 = .ok (.iconst 0, 1) := by decide +kernel
theorem d_Reader_read_41 : decode c_Reader_read 41 = .ok (.iaload, 1) := by decide +kernel
theorem d_Reader_read_42 : decode c_Reader_read 42 = .ok (.iastore, 1) := by decide +kernel
theorem d_Reader_read_43 : decode c_Reader_read 43 = .ok (.iconst 0, 1) := by decide +kernel
theorem d_Reader_read_44 : decode c_Reader_read 44 = .ok (.istore_n 1, 1) := by decide +kernel
theorem d_Reader_read_45 : decode c_Reader_read 45 = .ok (.iload_n 1, 1) := by decide +kernel
theorem d_Reader_read_46 : decode c_Reader_read 46 = .ok (.bipush 32, 2) := by decide +kernel
theorem d_Reader_read_48 : decode c_Reader_read 48 = .ok (.if_icmp .ge 45, 3) := by decide +kernel
theorem d_Reader_read_51 : decode c_Reader_read 51 = .ok (.aload_n 0, 1) := by decide +kernel
theorem d_Reader_read_52 : decode c_Reader_read 52 = .ok (.getfield 53, 3) := by decide +kernel
theorem d_Reader_read_55 : decode c_Reader_read 55 = .ok (.ifCond .eq 38, 3) := by decide +kernel
theorem d_Reader_read_58 : decode c_Reader_read 58 = .ok (.aload_n 0, 1) := by decide +kernel
theorem d_Reader_read_59 : decode c_Reader_read 59 = .ok (.getfield 44, 3) := by decide +kernel
theorem d_Reader_read_62 : decode c_Reader_read 62 = .ok (.aload_n 0, 1) := by decide +kernel
theorem d_Reader_read_63 : decode c_Reader_read 63 = .ok (.getfield 14, 3) := by decide +kernel
theorem d_Reader_read_66 : decode c_Reader_read 66 = .ok (.getfield 67, 3) := by decide +kernel
theorem d_Reader_read_69 : decode c_Reader_read 69 = .ok (.if_icmp .ge 24, 3) := by decide +kernel
theorem d_Reader_read_72 : decode c_Reader_read 72 = .ok (.aload_n 0, 1) := by decide +kernel
theorem d_Reader_read_73 : decode c_Reader_read 73 = .ok (.invokevirtual 70, 3) := by decide +kernel
theorem d_Reader_read_76 : decode c_Reader_read 76 = .ok (.istore_n 2, 1) := by decide +kernel
theorem d_Reader_read_77 : decode c_Reader_read 77 = .ok (.iload_n 2, 1) := by decide +kernel
theorem d_Reader_read_78 : decode c_Reader_read 78 = .ok (.iconst (-1), 1) := by decide +kernel
theorem d_Reader_read_79 : decode c_Reader_read 79 = .ok (.if_icmp .eq 8, 3) := by decide +kernel
theorem d_Reader_read_82 : decode c_Reader_read 82 = .ok (.aload_n 0, 1) := by decide +kernel
theorem d_Reader_read_83 : decode c_Reader_read 83 = .ok (.iload_n 2, 1) := by decide +kernel
theorem d_Reader_read_84 : decode c_Reader_read 84 = .ok (.invokevirtual 74, 3) := by decide +kernel
theorem d_Reader_read_87 : decode c_Reader_read 87 = .ok (.iinc 1 1, 3) := by decide +kernel
theorem d_Reader_read_90 : decode c_Reader_read 90 = .ok (.goto (-45), 3) := by decide +kernel
theorem d_Reader_read_93 : decode c_Reader_read 93 = .ok (.aload_n 0, 1) := by decide +kernel
theorem d_Reader_read_94 : decode c_Reader_read 94 = .ok (.getfield 23, 3) := by decide +kernel
theorem d_Reader_read_97 : decode c_Reader_read 97 = .ok (.aload_n 0, 1) := by decide +kernel
theorem d_Reader_read_98 : decode c_Reader_read 98 = .ok (.getfield 37, 3) := by decide +kernel
theorem d_Reader_read_101 : decode c_Reader_read 101 = .ok (.iconst 0, 1) := by decide +kernel
theorem d_Reader_read_102 : decode c_Reader_read 102 = .ok (.iaload, 1) := by decide +kernel
theorem d_Reader_read_103 : decode c_Reader_read 103 = .ok (.putfield 77, 3) := by decide +kernel
theorem d_Reader_read_106 : decode c_Reader_read 106 = .ok (.aload_n 0, 1) := by decide +kernel
theorem d_Reader_read_107 : decode c_Reader_read 107 = .ok (.getfield 53, 3) := by decide +kernel
theorem d_Reader_read_110 : decode c_Reader_read 110 = .ok (.ifCond .eq 28, 3) := by decide +kernel
theorem d_Reader_read_113 : decode c_Reader_read 113 = .ok (.aload_n 0, 1) := by decide +kernel
theorem d_Reader_read_114 : decode c_Reader_read 114 = .ok (.getfield 40, 3) := by decide +kernel
theorem d_Reader_read_117 : decode c_Reader_read 117 = .ok (.ifCond .ne 21, 3) := by decide +kernel
theorem d_Reader_read_120 : decode c_Reader_read 120 = .ok (.aload_n 0, 1) := by decide +kernel
theorem d_Reader_read_121 : decode c_Reader_read 121 = .ok (.getfield 50, 3) := by decide +kernel
theorem d_Reader_read_124 : decode c_Reader_read 124 = .ok (.aload_n 0, 1) := by decide +kernel
theorem d_Reader_read_125 : decode c_Reader_read 125 = .ok (.getfield 23, 3) := by decide +kernel
theorem d_Reader_read_128 : decode c_Reader_read 128 = .ok (.getfield 80, 3) := by decide +kernel
theorem d_Reader_read_131 : decode c_Reader_read 131 = .ok (.if_icmp .gt 7, 3) := by decide +kernel
theorem d_Reader_read_134 : decode c_Reader_read 134 = .ok (.iconst 1, 1) := by decide +kernel
theorem d_Reader_read_135 : decode c_Reader_read 135 = .ok (.goto 4, 3) := by decide +kernel
theorem d_Reader_read_138 : decode c_Reader_read 138 = .ok (.iconst 0, 1) := by decide +kernel
theorem d_Reader_read_139 : decode c_Reader_read 139 = .ok (.ireturn, 1) := by decide +kernel
theorem d_Reader_readPart_0 : decode c_Reader_readPart 0 = .ok (.aload_n 0, 1) := by decide +kernel
theorem d_Reader_readPart_1 : decode c_Reader_readPart 1 = .ok (.iconst 0, 1) := by decide +kernel
theorem d_Reader_readPart_2 : decode c_Reader_readPart 2 = .ok (.invokevirtual 83, 3) := by decide +kernel
theorem d_Reader_readPart_5 : decode c_Reader_readPart 5 = .ok (.lookupswitch 104 #[(40, 61), (41, 56), (91, 94), (92, 99), (124, 51)], 51) := by decide +kernel
theorem d_Reader_readPart_56 : decode c_Reader_readPart 56 = .ok (.aload_n 0, 1) := by decide +kernel
theorem d_Reader_readPart_57 : decode c_Reader_readPart 57 = .ok (.invokevirtual 87, 3) := by decide +kernel
theorem d_Reader_readPart_60 : decode c_Reader_readPart 60 = .ok (.ireturn, 1) := by decide +kernel
theorem d_Reader_readPart_61 : decode c_Reader_readPart 61 = .ok (.aload_n 0, 1) := by decide +kernel
theorem d_Reader_readPart_62 : decode c_Reader_readPart 62 = .ok (.invokevirtual 90, 3) := by decide +kernel
theorem d_Reader_readPart_65 : decode c_Reader_readPart 65 = .ok (.ireturn, 1) := by decide +kernel
theorem d_Reader_readPart_66 : decode c_Reader_readPart 66 = .ok (.aload_n 0, 1) := by decide +kernel
theorem d_Reader_readPart_67 : decode c_Reader_readPart 67 = .ok (.iconst 1, 1) := by decide +kernel
theorem d_Reader_readPart_68 : decode c_Reader_readPart 68 = .ok (.invokevirtual 83, 3) := by decide +kernel
theorem d_Reader_readPart_71 : decode c_Reader_readPart 71 = .ok (.bipush 63, 2) := by decide +kernel
theorem d_Reader_readPart_73 : decode c_Reader_readPart 73 = .ok (.if_icmp .ne 21, 3) := by decide +kernel
theorem d_Reader_readPart_76 : decode c_Reader_readPart 76 = .ok (.aload_n 0, 1) := by decide +kernel
theorem d_Reader_readPart_77 : decode c_Reader_readPart 77 = .ok (.iconst 2, 1) := by decide +kernel
theorem d_Reader_readPart_78 : decode c_Reader_readPart 78 = .ok (.invokevirtual 83, 3) := by decide +kernel
theorem d_Reader_readPart_81 : decode c_Reader_readPart 81 = .ok (.invokestatic 93, 3) := by decide +kernel
theorem d_Reader_readPart_84 : decode c_Reader_readPart 84 = .ok (.ifCond .eq 10, 3) := by decide +kernel
theorem d_Reader_readPart_87 : decode c_Reader_readPart 87 = .ok (.aload_n 0, 1) := by decide +kernel
theorem d_Reader_readPart_88 : decode c_Reader_readPart 88 = .ok (.invokevirtual 97, 3) := by decide +kernel
theorem d_Reader_readPart_91 : decode c_Reader_readPart 91 = .ok (.goto 7, 3) := by decide +kernel
theorem d_Reader_readPart_94 : decode c_Reader_readPart 94 = .ok (.aload_n 0, 1) := by decide +kernel
theorem d_Reader_readPart_95 : decode c_Reader_readPart 95 = .ok (.invokevirtual 100, 3) := by decide +kernel
theorem d_Reader_readPart_98 : decode c_Reader_readPart 98 = .ok (.ireturn, 1) := by decide +kernel
theorem d_Reader_readPart_99 : decode c_Reader_readPart 99 = .ok (.aload_n 0, 1) := by decide +kernel
theorem d_Reader_readPart_100 : decode c_Reader_readPart 100 = .ok (.invokevirtual 103, 3) := by decide +kernel
theorem d_Reader_readPart_103 : decode c_Reader_readPart 103 = .ok (.ireturn, 1) := by decide +kernel
theorem d_Reader_readPart_104 : decode c_Reader_readPart 104 = .ok (.aload_n 0, 1) := by decide +kernel
theorem d_Reader_readPart_105 : decode c_Reader_readPart 105 = .ok (.invokevirtual 106, 3) := by decide +kernel
theorem d_Reader_readPart_108 : decode c_Reader_readPart 108 = .ok (.ireturn, 1) := by decide +kernel
theorem d_Reader_readPart_109 : decode c_Reader_readPart 109 = .ok (.aload_n 0, 1) := by decide +kernel
theorem d_Reader_readPart_110 : decode c_Reader_readPart 110 = .ok (.invokevirtual 109, 3) := by decide +kernel
theorem d_Reader_readPart_113 : decode c_Reader_readPart 113 = .ok (.ireturn, 1) := by decide +kernel
theorem d_Reader_ahead_0 : decode c_Reader_ahead 0 = .ok (.aload_n 0, 1) := by decide +kernel
theorem d_Reader_ahead_1 : decode c_Reader_ahead 1 = .ok (.getfield 14, 3) := by decide +kernel
theorem d_Reader_ahead_4 : decode c_Reader_ahead 4 = .ok (.aload_n 0, 1) := by decide +kernel
theorem d_Reader_ahead_5 : decode c_Reader_ahead 5 = .ok (.getfield 44, 3) := by decide +kernel
theorem d_Reader_ahead_8 : decode c_Reader_ahead 8 = .ok (.iload_n 1, 1) := by decide +kernel
theorem d_Reader_ahead_9 : decode c_Reader_ahead 9 = .ok (.iadd, 1) := by decide +kernel
theorem d_Reader_ahead_10 : decode c_Reader_ahead 10 = .ok (.invokevirtual 112, 3) := by decide +kernel
theorem d_Reader_ahead_13 : decode c_Reader_ahead 13 = .ok (.ireturn, 1) := by decide +kernel
theorem d_Reader_refuse_0 : decode c_Reader_refuse 0 = .ok (.aload_n 0, 1) := by decide +kernel
theorem d_Reader_refuse_1 : decode c_Reader_refuse 1 = .ok (.iconst 0, 1) := by decide +kernel
theorem d_Reader_refuse_2 : decode c_Reader_refuse 2 = .ok (.putfield 53, 3) := by decide +kernel
theorem d_Reader_refuse_5 : decode c_Reader_refuse 5 = .ok (.iconst (-1), 1) := by decide +kernel
theorem d_Reader_refuse_6 : decode c_Reader_refuse 6 = .ok (.ireturn, 1) := by decide +kernel
theorem d_Reader_openLevel_0 : decode c_Reader_openLevel 0 = .ok (.aload_n 0, 1) := by decide +kernel
theorem d_Reader_openLevel_1 : decode c_Reader_openLevel 1 = .ok (.iload_n 1, 1) := by decide +kernel
theorem d_Reader_openLevel_2 : decode c_Reader_openLevel 2 = .ok (.putfield 40, 3) := by decide +kernel
theorem d_Reader_openLevel_5 : decode c_Reader_openLevel 5 = .ok (.aload_n 0, 1) := by decide +kernel
theorem d_Reader_openLevel_6 : decode c_Reader_openLevel 6 = .ok (.getfield 27, 3) := by decide +kernel
theorem d_Reader_openLevel_9 : decode c_Reader_openLevel 9 = .ok (.aload_n 0, 1) := by decide +kernel
theorem d_Reader_openLevel_10 : decode c_Reader_openLevel 10 = .ok (.getfield 40, 3) := by decide +kernel
theorem d_Reader_openLevel_13 : decode c_Reader_openLevel 13 = .ok (.iload_n 2, 1) := by decide +kernel
theorem d_Reader_openLevel_14 : decode c_Reader_openLevel 14 = .ok (.iastore, 1) := by decide +kernel
theorem d_Reader_openLevel_15 : decode c_Reader_openLevel 15 = .ok (.aload_n 0, 1) := by decide +kernel
theorem d_Reader_openLevel_16 : decode c_Reader_openLevel 16 = .ok (.getfield 31, 3) := by decide +kernel
theorem d_Reader_openLevel_19 : decode c_Reader_openLevel 19 = .ok (.aload_n 0, 1) := by decide +kernel
theorem d_Reader_openLevel_20 : decode c_Reader_openLevel 20 = .ok (.getfield 40, 3) := by decide +kernel
theorem d_Reader_openLevel_23 : decode c_Reader_openLevel 23 = .ok (.aload_n 0, 1) := by decide +kernel
theorem d_Reader_openLevel_24 : decode c_Reader_openLevel 24 = .ok (.getfield 23, 3) := by decide +kernel
theorem d_Reader_openLevel_27 : decode c_Reader_openLevel 27 = .ok (.invokevirtual 115, 3) := by decide +kernel
theorem d_Reader_openLevel_30 : decode c_Reader_openLevel 30 = .ok (.iastore, 1) := by decide +kernel
theorem d_Reader_openLevel_31 : decode c_Reader_openLevel 31 = .ok (.aload_n 0, 1) := by decide +kernel
theorem d_Reader_openLevel_32 : decode c_Reader_openLevel 32 = .ok (.getfield 34, 3) := by decide +kernel
theorem d_Reader_openLevel_35 : decode c_Reader_openLevel 35 = .ok (.aload_n 0, 1) := by decide +kernel
theorem d_Reader_openLevel_36 : decode c_Reader_openLevel 36 = .ok (.getfield 40, 3) := by decide +kernel
theorem d_Reader_openLevel_39 : decode c_Reader_openLevel 39 = .ok (.iconst (-1), 1) := by decide +kernel
theorem d_Reader_openLevel_40 : decode c_Reader_openLevel 40 = .ok (.iastore, 1) := by decide +kernel
theorem d_Reader_openLevel_41 : decode c_Reader_openLevel 41 = .ok (.aload_n 0, 1) := by decide +kernel
theorem d_Reader_openLevel_42 : decode c_Reader_openLevel 42 = .ok (.getfield 37, 3) := by decide +kernel
theorem d_Reader_openLevel_45 : decode c_Reader_openLevel 45 = .ok (.aload_n 0, 1) := by decide +kernel
theorem d_Reader_openLevel_46 : decode c_Reader_openLevel 46 = .ok (.getfield 40, 3) := by decide +kernel
theorem d_Reader_openLevel_49 : decode c_Reader_openLevel 49 = .ok (.iconst 0, 1) := by decide +kernel
theorem d_Reader_openLevel_50 : decode c_Reader_openLevel 50 = .ok (.iastore, 1) := by decide +kernel
theorem d_Reader_openLevel_51 : decode c_Reader_openLevel 51 = .ok (.return_, 1) := by decide +kernel
theorem d_Reader_openNextRow_0 : decode c_Reader_openNextRow 0 = .ok (.aload_n 0, 1) := by decide +kernel
theorem d_Reader_openNextRow_1 : decode c_Reader_openNextRow 1 = .ok (.getfield 23, 3) := by decide +kernel
theorem d_Reader_openNextRow_4 : decode c_Reader_openNextRow 4 = .ok (.invokevirtual 115, 3) := by decide +kernel
theorem d_Reader_openNextRow_7 : decode c_Reader_openNextRow 7 = .ok (.istore_n 1, 1) := by decide +kernel
theorem d_Reader_openNextRow_8 : decode c_Reader_openNextRow 8 = .ok (.aload_n 0, 1) := by decide +kernel
theorem d_Reader_openNextRow_9 : decode c_Reader_openNextRow 9 = .ok (.getfield 23, 3) := by decide +kernel
theorem d_Reader_openNextRow_12 : decode c_Reader_openNextRow 12 = .ok (.getfield 118, 3) := by decide +kernel
theorem d_Reader_openNextRow_15 : decode c_Reader_openNextRow 15 = .ok (.aload_n 0, 1) := by decide +kernel
theorem d_Reader_openNextRow_16 : decode c_Reader_openNextRow 16 = .ok (.getfield 31, 3) := by decide +kernel
theorem d_Reader_openNextRow_19 : decode c_Reader_openNextRow 19 = .ok (.aload_n 0, 1) := by decide +kernel
theorem d_Reader_openNextRow_20 : decode c_Reader_openNextRow 20 = .ok (.getfield 40, 3) := by decide +kernel
theorem d_Reader_openNextRow_23 : decode c_Reader_openNextRow 23 = .ok (.iaload, 1) := by decide +kernel
theorem d_Reader_openNextRow_24 : decode c_Reader_openNextRow 24 = .ok (.iload_n 1, 1) := by decide +kernel
theorem d_Reader_openNextRow_25 : decode c_Reader_openNextRow 25 = .ok (.iastore, 1) := by decide +kernel
theorem d_Reader_openNextRow_26 : decode c_Reader_openNextRow 26 = .ok (.aload_n 0, 1) := by decide +kernel
theorem d_Reader_openNextRow_27 : decode c_Reader_openNextRow 27 = .ok (.getfield 31, 3) := by decide +kernel
theorem d_Reader_openNextRow_30 : decode c_Reader_openNextRow 30 = .ok (.aload_n 0, 1) := by decide +kernel
theorem d_Reader_openNextRow_31 : decode c_Reader_openNextRow 31 = .ok (.getfield 40, 3) := by decide +kernel
theorem d_Reader_openNextRow_34 : decode c_Reader_openNextRow 34 = .ok (.iload_n 1, 1) := by decide +kernel
theorem d_Reader_openNextRow_35 : decode c_Reader_openNextRow 35 = .ok (.iastore, 1) := by decide +kernel
theorem d_Reader_openNextRow_36 : decode c_Reader_openNextRow 36 = .ok (.aload_n 0, 1) := by decide +kernel
theorem d_Reader_openNextRow_37 : decode c_Reader_openNextRow 37 = .ok (.getfield 34, 3) := by decide +kernel
theorem d_Reader_openNextRow_40 : decode c_Reader_openNextRow 40 = .ok (.aload_n 0, 1) := by decide +kernel
theorem d_Reader_openNextRow_41 : decode c_Reader_openNextRow 41 = .ok (.getfield 40, 3) := by decide +kernel
theorem d_Reader_openNextRow_44 : decode c_Reader_openNextRow 44 = .ok (.iconst (-1), 1) := by decide +kernel
theorem d_Reader_openNextRow_45 : decode c_Reader_openNextRow 45 = .ok (.iastore, 1) := by decide +kernel
theorem d_Reader_openNextRow_46 : decode c_Reader_openNextRow 46 = .ok (.aload_n 0, 1) := by decide +kernel
theorem d_Reader_openNextRow_47 : decode c_Reader_openNextRow 47 = .ok (.getfield 37, 3) := by decide +kernel
theorem d_Reader_openNextRow_50 : decode c_Reader_openNextRow 50 = .ok (.aload_n 0, 1) := by decide +kernel
theorem d_Reader_openNextRow_51 : decode c_Reader_openNextRow 51 = .ok (.getfield 40, 3) := by decide +kernel
theorem d_Reader_openNextRow_54 : decode c_Reader_openNextRow 54 = .ok (.dup2, 1) := by decide +kernel
theorem d_Reader_openNextRow_55 : decode c_Reader_openNextRow 55 = .ok (.iaload, 1) := by decide +kernel
theorem d_Reader_openNextRow_56 : decode c_Reader_openNextRow 56 = .ok (.iconst 1, 1) := by decide +kernel
theorem d_Reader_openNextRow_57 : decode c_Reader_openNextRow 57 = .ok (.iadd, 1) := by decide +kernel
theorem d_Reader_openNextRow_58 : decode c_Reader_openNextRow 58 = .ok (.iastore, 1) := by decide +kernel
theorem d_Reader_openNextRow_59 : decode c_Reader_openNextRow 59 = .ok (.aload_n 0, 1) := by decide +kernel
theorem d_Reader_openNextRow_60 : decode c_Reader_openNextRow 60 = .ok (.dup, 1) := by decide +kernel
theorem d_Reader_openNextRow_61 : decode c_Reader_openNextRow 61 = .ok (.getfield 44, 3) := by decide +kernel
theorem d_Reader_openNextRow_64 : decode c_Reader_openNextRow 64 = .ok (.iconst 1, 1) := by decide +kernel
theorem d_Reader_openNextRow_65 : decode c_Reader_openNextRow 65 = .ok (.iadd, 1) := by decide +kernel
theorem d_Reader_openNextRow_66 : decode c_Reader_openNextRow 66 = .ok (.putfield 44, 3) := by decide +kernel
theorem d_Reader_openNextRow_69 : decode c_Reader_openNextRow 69 = .ok (.iconst (-1), 1) := by decide +kernel
theorem d_Reader_openNextRow_70 : decode c_Reader_openNextRow 70 = .ok (.ireturn, 1) := by decide +kernel
theorem d_Reader_openChoice_0 : decode c_Reader_openChoice 0 = .ok (.aload_n 0, 1) := by decide +kernel
theorem d_Reader_openChoice_1 : decode c_Reader_openChoice 1 = .ok (.invokevirtual 121, 3) := by decide +kernel
theorem d_Reader_openChoice_4 : decode c_Reader_openChoice 4 = .ok (.istore_n 1, 1) := by decide +kernel
theorem d_Reader_openChoice_5 : decode c_Reader_openChoice 5 = .ok (.iload_n 1, 1) := by decide +kernel
theorem d_Reader_openChoice_6 : decode c_Reader_openChoice 6 = .ok (.iconst 5, 1) := by decide +kernel
theorem d_Reader_openChoice_7 : decode c_Reader_openChoice 7 = .ok (.if_icmp .ne 7, 3) := by decide +kernel
theorem d_Reader_openChoice_10 : decode c_Reader_openChoice 10 = .ok (.iconst 1, 1) := by decide +kernel
theorem d_Reader_openChoice_11 : decode c_Reader_openChoice 11 = .ok (.goto 4, 3) := by decide +kernel
theorem d_Reader_openChoice_14 : decode c_Reader_openChoice 14 = .ok (.iconst 0, 1) := by decide +kernel
theorem d_Reader_openChoice_15 : decode c_Reader_openChoice 15 = .ok (.istore_n 2, 1) := by decide +kernel
theorem d_Reader_openChoice_16 : decode c_Reader_openChoice 16 = .ok (.iload_n 1, 1) := by decide +kernel
theorem d_Reader_openChoice_17 : decode c_Reader_openChoice 17 = .ok (.iconst (-1), 1) := by decide +kernel
theorem d_Reader_openChoice_18 : decode c_Reader_openChoice 18 = .ok (.if_icmp .eq 27, 3) := by decide +kernel
theorem d_Reader_openChoice_21 : decode c_Reader_openChoice 21 = .ok (.aload_n 0, 1) := by decide +kernel
theorem d_Reader_openChoice_22 : decode c_Reader_openChoice 22 = .ok (.getfield 40, 3) := by decide +kernel
theorem d_Reader_openChoice_25 : decode c_Reader_openChoice 25 = .ok (.bipush 6, 2) := by decide +kernel
theorem d_Reader_openChoice_27 : decode c_Reader_openChoice 27 = .ok (.if_icmp .ge 18, 3) := by decide +kernel
theorem d_Reader_openChoice_30 : decode c_Reader_openChoice 30 = .ok (.iload_n 2, 1) := by decide +kernel
theorem d_Reader_openChoice_31 : decode c_Reader_openChoice 31 = .ok (.ifCond .eq 19, 3) := by decide +kernel
theorem d_Reader_openChoice_34 : decode c_Reader_openChoice 34 = .ok (.aload_n 0, 1) := by decide +kernel
theorem d_Reader_openChoice_35 : decode c_Reader_openChoice 35 = .ok (.getfield 23, 3) := by decide +kernel
theorem d_Reader_openChoice_38 : decode c_Reader_openChoice 38 = .ok (.getfield 80, 3) := by decide +kernel
theorem d_Reader_openChoice_41 : decode c_Reader_openChoice 41 = .ok (.iconst 4, 1) := by decide +kernel
theorem d_Reader_openChoice_42 : decode c_Reader_openChoice 42 = .ok (.if_icmp .lt 8, 3) := by decide +kernel
theorem d_Reader_openChoice_45 : decode c_Reader_openChoice 45 = .ok (.aload_n 0, 1) := by decide +kernel
theorem d_Reader_openChoice_46 : decode c_Reader_openChoice 46 = .ok (.invokevirtual 124, 3) := by decide +kernel
theorem d_Reader_openChoice_49 : decode c_Reader_openChoice 49 = .ok (.ireturn, 1) := by decide +kernel
theorem d_Reader_openChoice_50 : decode c_Reader_openChoice 50 = .ok (.iload_n 2, 1) := by decide +kernel
theorem d_Reader_openChoice_51 : decode c_Reader_openChoice 51 = .ok (.ifCond .eq 16, 3) := by decide +kernel
theorem d_Reader_openChoice_54 : decode c_Reader_openChoice 54 = .ok (.aload_n 0, 1) := by decide +kernel
theorem d_Reader_openChoice_55 : decode c_Reader_openChoice 55 = .ok (.getfield 23, 3) := by decide +kernel
theorem d_Reader_openChoice_58 : decode c_Reader_openChoice 58 = .ok (.dup, 1) := by decide +kernel
theorem d_Reader_openChoice_59 : decode c_Reader_openChoice 59 = .ok (.getfield 80, 3) := by decide +kernel
theorem d_Reader_openChoice_62 : decode c_Reader_openChoice 62 = .ok (.iconst 1, 1) := by decide +kernel
theorem d_Reader_openChoice_63 : decode c_Reader_openChoice 63 = .ok (.iadd, 1) := by decide +kernel
theorem d_Reader_openChoice_64 : decode c_Reader_openChoice 64 = .ok (.putfield 80, 3) := by decide +kernel
theorem d_Reader_openChoice_67 : decode c_Reader_openChoice 67 = .ok (.aload_n 0, 1) := by decide +kernel
theorem d_Reader_openChoice_68 : decode c_Reader_openChoice 68 = .ok (.iload_n 1, 1) := by decide +kernel
theorem d_Reader_openChoice_69 : decode c_Reader_openChoice 69 = .ok (.iload_n 2, 1) := by decide +kernel
theorem d_Reader_openChoice_70 : decode c_Reader_openChoice 70 = .ok (.ifCond .eq 13, 3) := by decide +kernel
theorem d_Reader_openChoice_73 : decode c_Reader_openChoice 73 = .ok (.aload_n 0, 1) := by decide +kernel
theorem d_Reader_openChoice_74 : decode c_Reader_openChoice 74 = .ok (.getfield 23, 3) := by decide +kernel
theorem d_Reader_openChoice_77 : decode c_Reader_openChoice 77 = .ok (.getfield 80, 3) := by decide +kernel
theorem d_Reader_openChoice_80 : decode c_Reader_openChoice 80 = .ok (.goto 4, 3) := by decide +kernel
theorem d_Reader_openChoice_83 : decode c_Reader_openChoice 83 = .ok (.iconst 0, 1) := by decide +kernel
theorem d_Reader_openChoice_84 : decode c_Reader_openChoice 84 = .ok (.invokevirtual 127, 3) := by decide +kernel
theorem d_Reader_openChoice_87 : decode c_Reader_openChoice 87 = .ok (.istore_n 3, 1) := by decide +kernel
theorem d_Reader_openChoice_88 : decode c_Reader_openChoice 88 = .ok (.aload_n 0, 1) := by decide +kernel
theorem d_Reader_openChoice_89 : decode c_Reader_openChoice 89 = .ok (.dup, 1) := by decide +kernel
theorem d_Reader_openChoice_90 : decode c_Reader_openChoice 90 = .ok (.getfield 44, 3) := by decide +kernel
theorem d_Reader_openChoice_93 : decode c_Reader_openChoice 93 = .ok (.iload_n 2, 1) := by decide +kernel
theorem d_Reader_openChoice_94 : decode c_Reader_openChoice 94 = .ok (.ifCond .eq 7, 3) := by decide +kernel
theorem d_Reader_openChoice_97 : decode c_Reader_openChoice 97 = .ok (.iconst 1, 1) := by decide +kernel
theorem d_Reader_openChoice_98 : decode c_Reader_openChoice 98 = .ok (.goto 4, 3) := by decide +kernel
theorem d_Reader_openChoice_101 : decode c_Reader_openChoice 101 = .ok (.iconst 3, 1) := by decide +kernel
theorem d_Reader_openChoice_102 : decode c_Reader_openChoice 102 = .ok (.iadd, 1) := by decide +kernel
theorem d_Reader_openChoice_103 : decode c_Reader_openChoice 103 = .ok (.putfield 44, 3) := by decide +kernel
theorem d_Reader_openChoice_106 : decode c_Reader_openChoice 106 = .ok (.aload_n 0, 1) := by decide +kernel
theorem d_Reader_openChoice_107 : decode c_Reader_openChoice 107 = .ok (.aload_n 0, 1) := by decide +kernel
theorem d_Reader_openChoice_108 : decode c_Reader_openChoice 108 = .ok (.getfield 40, 3) := by decide +kernel
theorem d_Reader_openChoice_111 : decode c_Reader_openChoice 111 = .ok (.iconst 1, 1) := by decide +kernel
theorem d_Reader_openChoice_112 : decode c_Reader_openChoice 112 = .ok (.iadd, 1) := by decide +kernel
theorem d_Reader_openChoice_113 : decode c_Reader_openChoice 113 = .ok (.iload_n 3, 1) := by decide +kernel
theorem d_Reader_openChoice_114 : decode c_Reader_openChoice 114 = .ok (.invokevirtual 60, 3) := by decide +kernel
theorem d_Reader_openChoice_117 : decode c_Reader_openChoice 117 = .ok (.aload_n 0, 1) := by decide +kernel
theorem d_Reader_openChoice_118 : decode c_Reader_openChoice 118 = .ok (.getfield 23, 3) := by decide +kernel
theorem d_Reader_openChoice_121 : decode c_Reader_openChoice 121 = .ok (.getfield 131, 3) := by decide +kernel
theorem d_Reader_openChoice_124 : decode c_Reader_openChoice 124 = .ok (.iload_n 3, 1) := by decide +kernel
theorem d_Reader_openChoice_125 : decode c_Reader_openChoice 125 = .ok (.aload_n 0, 1) := by decide +kernel
theorem d_Reader_openChoice_126 : decode c_Reader_openChoice 126 = .ok (.getfield 31, 3) := by decide +kernel
theorem d_Reader_openChoice_129 : decode c_Reader_openChoice 129 = .ok (.aload_n 0, 1) := by decide +kernel
theorem d_Reader_openChoice_130 : decode c_Reader_openChoice 130 = .ok (.getfield 40, 3) := by decide +kernel
theorem d_Reader_openChoice_133 : decode c_Reader_openChoice 133 = .ok (.iaload, 1) := by decide +kernel
theorem d_Reader_openChoice_134 : decode c_Reader_openChoice 134 = .ok (.iastore, 1) := by decide +kernel
theorem d_Reader_openChoice_135 : decode c_Reader_openChoice 135 = .ok (.iload_n 2, 1) := by decide +kernel
theorem d_Reader_openChoice_136 : decode c_Reader_openChoice 136 = .ok (.ifCond .eq 27, 3) := by decide +kernel
theorem d_Reader_openChoice_139 : decode c_Reader_openChoice 139 = .ok (.aload_n 0, 1) := by decide +kernel
theorem d_Reader_openChoice_140 : decode c_Reader_openChoice 140 = .ok (.getfield 23, 3) := by decide +kernel
theorem d_Reader_openChoice_143 : decode c_Reader_openChoice 143 = .ok (.getfield 64, 3) := by decide +kernel
theorem d_Reader_openChoice_146 : decode c_Reader_openChoice 146 = .ok (.aload_n 0, 1) := by decide +kernel
theorem d_Reader_openChoice_147 : decode c_Reader_openChoice 147 = .ok (.getfield 23, 3) := by decide +kernel
theorem d_Reader_openChoice_150 : decode c_Reader_openChoice 150 = .ok (.getfield 80, 3) := by decide +kernel
theorem d_Reader_openChoice_153 : decode c_Reader_openChoice 153 = .ok (.aload_n 0, 1) := by decide +kernel
theorem d_Reader_openChoice_154 : decode c_Reader_openChoice 154 = .ok (.getfield 31, 3) := by decide +kernel
theorem d_Reader_openChoice_157 : decode c_Reader_openChoice 157 = .ok (.aload_n 0, 1) := by decide +kernel
theorem d_Reader_openChoice_158 : decode c_Reader_openChoice 158 = .ok (.getfield 40, 3) := by decide +kernel
theorem d_Reader_openChoice_161 : decode c_Reader_openChoice 161 = .ok (.iaload, 1) := by decide +kernel
theorem d_Reader_openChoice_162 : decode c_Reader_openChoice 162 = .ok (.iastore, 1) := by decide +kernel
theorem d_Reader_openChoice_163 : decode c_Reader_openChoice 163 = .ok (.iconst (-1), 1) := by decide +kernel
theorem d_Reader_openChoice_164 : decode c_Reader_openChoice 164 = .ok (.ireturn, 1) := by decide +kernel
theorem d_Reader_kindOfChoice_0 : decode c_Reader_kindOfChoice 0 = .ok (.aload_n 0, 1) := by decide +kernel
theorem d_Reader_kindOfChoice_1 : decode c_Reader_kindOfChoice 1 = .ok (.iconst 1, 1) := by decide +kernel
theorem d_Reader_kindOfChoice_2 : decode c_Reader_kindOfChoice 2 = .ok (.invokevirtual 83, 3) := by decide +kernel
theorem d_Reader_kindOfChoice_5 : decode c_Reader_kindOfChoice 5 = .ok (.bipush 63, 2) := by decide +kernel
theorem d_Reader_kindOfChoice_7 : decode c_Reader_kindOfChoice 7 = .ok (.if_icmp .eq 5, 3) := by decide +kernel
theorem d_Reader_kindOfChoice_10 : decode c_Reader_kindOfChoice 10 = .ok (.iconst 5, 1) := by decide +kernel
theorem d_Reader_kindOfChoice_11 : decode c_Reader_kindOfChoice 11 = .ok (.ireturn, 1) := by decide +kernel
theorem d_Reader_kindOfChoice_12 : decode c_Reader_kindOfChoice 12 = .ok (.aload_n 0, 1) := by decide +kernel
theorem d_Reader_kindOfChoice_13 : decode c_Reader_kindOfChoice 13 = .ok (.iconst 2, 1) := by decide +kernel
theorem d_Reader_kindOfChoice_14 : decode c_Reader_kindOfChoice 14 = .ok (.invokevirtual 83, 3) := by decide +kernel
theorem d_Reader_kindOfChoice_17 : decode c_Reader_kindOfChoice 17 = .ok (.lookupswitch 55 #[(33, 49), (58, 43), (61, 46), (62, 52)], 43) := by decide +kernel
theorem d_Reader_kindOfChoice_60 : decode c_Reader_kindOfChoice 60 = .ok (.bipush 6, 2) := by decide +kernel
theorem d_Reader_kindOfChoice_62 : decode c_Reader_kindOfChoice 62 = .ok (.ireturn, 1) := by decide +kernel
theorem d_Reader_kindOfChoice_63 : decode c_Reader_kindOfChoice 63 = .ok (.bipush 7, 2) := by decide +kernel
theorem d_Reader_kindOfChoice_65 : decode c_Reader_kindOfChoice 65 = .ok (.ireturn, 1) := by decide +kernel
theorem d_Reader_kindOfChoice_66 : decode c_Reader_kindOfChoice 66 = .ok (.bipush 8, 2) := by decide +kernel
theorem d_Reader_kindOfChoice_68 : decode c_Reader_kindOfChoice 68 = .ok (.ireturn, 1) := by decide +kernel
theorem d_Reader_kindOfChoice_69 : decode c_Reader_kindOfChoice 69 = .ok (.bipush 9, 2) := by decide +kernel
theorem d_Reader_kindOfChoice_71 : decode c_Reader_kindOfChoice 71 = .ok (.ireturn, 1) := by decide +kernel
theorem d_Reader_kindOfChoice_72 : decode c_Reader_kindOfChoice 72 = .ok (.iconst (-1), 1) := by decide +kernel
theorem d_Reader_kindOfChoice_73 : decode c_Reader_kindOfChoice 73 = .ok (.ireturn, 1) := by decide +kernel
theorem d_Reader_closeChoice_0 : decode c_Reader_closeChoice 0 = .ok (.aload_n 0, 1) := by decide +kernel
theorem d_Reader_closeChoice_1 : decode c_Reader_closeChoice 1 = .ok (.getfield 40, 3) := by decide +kernel
theorem d_Reader_closeChoice_4 : decode c_Reader_closeChoice 4 = .ok (.ifCond .ne 8, 3) := by decide +kernel
theorem d_Reader_closeChoice_7 : decode c_Reader_closeChoice 7 = .ok (.aload_n 0, 1) := by decide +kernel
theorem d_Reader_closeChoice_8 : decode c_Reader_closeChoice 8 = .ok (.invokevirtual 124, 3) := by decide +kernel
theorem d_Reader_closeChoice_11 : decode c_Reader_closeChoice 11 = .ok (.ireturn, 1) := by decide +kernel
theorem d_Reader_closeChoice_12 : decode c_Reader_closeChoice 12 = .ok (.aload_n 0, 1) := by decide +kernel
theorem d_Reader_closeChoice_13 : decode c_Reader_closeChoice 13 = .ok (.getfield 27, 3) := by decide +kernel
theorem d_Reader_closeChoice_16 : decode c_Reader_closeChoice 16 = .ok (.aload_n 0, 1) := by decide +kernel
theorem d_Reader_closeChoice_17 : decode c_Reader_closeChoice 17 = .ok (.getfield 40, 3) := by decide +kernel
theorem d_Reader_closeChoice_20 : decode c_Reader_closeChoice 20 = .ok (.iaload, 1) := by decide +kernel
theorem d_Reader_closeChoice_21 : decode c_Reader_closeChoice 21 = .ok (.istore_n 1, 1) := by decide +kernel
theorem d_Reader_closeChoice_22 : decode c_Reader_closeChoice 22 = .ok (.aload_n 0, 1) := by decide +kernel
theorem d_Reader_closeChoice_23 : decode c_Reader_closeChoice 23 = .ok (.aload_n 0, 1) := by decide +kernel
theorem d_Reader_closeChoice_24 : decode c_Reader_closeChoice 24 = .ok (.getfield 37, 3) := by decide +kernel
theorem d_Reader_closeChoice_27 : decode c_Reader_closeChoice 27 = .ok (.aload_n 0, 1) := by decide +kernel
theorem d_Reader_closeChoice_28 : decode c_Reader_closeChoice 28 = .ok (.getfield 40, 3) := by decide +kernel
theorem d_Reader_closeChoice_31 : decode c_Reader_closeChoice 31 = .ok (.iaload, 1) := by decide +kernel
theorem d_Reader_closeChoice_32 : decode c_Reader_closeChoice 32 = .ok (.iconst 2, 1) := by decide +kernel
theorem d_Reader_closeChoice_33 : decode c_Reader_closeChoice 33 = .ok (.iadd, 1) := by decide +kernel
theorem d_Reader_closeChoice_34 : decode c_Reader_closeChoice 34 = .ok (.putfield 47, 3) := by decide +kernel
theorem d_Reader_closeChoice_37 : decode c_Reader_closeChoice 37 = .ok (.aload_n 0, 1) := by decide +kernel
theorem d_Reader_closeChoice_38 : decode c_Reader_closeChoice 38 = .ok (.dup, 1) := by decide +kernel
theorem d_Reader_closeChoice_39 : decode c_Reader_closeChoice 39 = .ok (.getfield 40, 3) := by decide +kernel
theorem d_Reader_closeChoice_42 : decode c_Reader_closeChoice 42 = .ok (.iconst 1, 1) := by decide +kernel
theorem d_Reader_closeChoice_43 : decode c_Reader_closeChoice 43 = .ok (.isub, 1) := by decide +kernel
theorem d_Reader_closeChoice_44 : decode c_Reader_closeChoice 44 = .ok (.putfield 40, 3) := by decide +kernel
theorem d_Reader_closeChoice_47 : decode c_Reader_closeChoice 47 = .ok (.aload_n 0, 1) := by decide +kernel
theorem d_Reader_closeChoice_48 : decode c_Reader_closeChoice 48 = .ok (.dup, 1) := by decide +kernel
theorem d_Reader_closeChoice_49 : decode c_Reader_closeChoice 49 = .ok (.getfield 44, 3) := by decide +kernel
theorem d_Reader_closeChoice_52 : decode c_Reader_closeChoice 52 = .ok (.iconst 1, 1) := by decide +kernel
theorem d_Reader_closeChoice_53 : decode c_Reader_closeChoice 53 = .ok (.iadd, 1) := by decide +kernel
theorem d_Reader_closeChoice_54 : decode c_Reader_closeChoice 54 = .ok (.putfield 44, 3) := by decide +kernel
theorem d_Reader_closeChoice_57 : decode c_Reader_closeChoice 57 = .ok (.iload_n 1, 1) := by decide +kernel
theorem d_Reader_closeChoice_58 : decode c_Reader_closeChoice 58 = .ok (.ireturn, 1) := by decide +kernel
theorem d_Reader_readCall_0 : decode c_Reader_readCall 0 = .ok (.aload_n 0, 1) := by decide +kernel
theorem d_Reader_readCall_1 : decode c_Reader_readCall 1 = .ok (.iconst 2, 1) := by decide +kernel
theorem d_Reader_readCall_2 : decode c_Reader_readCall 2 = .ok (.invokevirtual 83, 3) := by decide +kernel
theorem d_Reader_readCall_5 : decode c_Reader_readCall 5 = .ok (.bipush 48, 2) := by decide +kernel
theorem d_Reader_readCall_7 : decode c_Reader_readCall 7 = .ok (.isub, 1) := by decide +kernel
theorem d_Reader_readCall_8 : decode c_Reader_readCall 8 = .ok (.istore_n 1, 1) := by decide +kernel
theorem d_Reader_readCall_9 : decode c_Reader_readCall 9 = .ok (.iload_n 1, 1) := by decide +kernel
theorem d_Reader_readCall_10 : decode c_Reader_readCall 10 = .ok (.iconst 4, 1) := by decide +kernel
theorem d_Reader_readCall_11 : decode c_Reader_readCall 11 = .ok (.if_icmp .gt 13, 3) := by decide +kernel
theorem d_Reader_readCall_14 : decode c_Reader_readCall 14 = .ok (.aload_n 0, 1) := by decide +kernel
theorem d_Reader_readCall_15 : decode c_Reader_readCall 15 = .ok (.iconst 3, 1) := by decide +kernel
theorem d_Reader_readCall_16 : decode c_Reader_readCall 16 = .ok (.invokevirtual 83, 3) := by decide +kernel
theorem d_Reader_readCall_19 : decode c_Reader_readCall 19 = .ok (.bipush 41, 2) := by decide +kernel
theorem d_Reader_readCall_21 : decode c_Reader_readCall 21 = .ok (.if_icmp .eq 8, 3) := by decide +kernel
theorem d_Reader_readCall_24 : decode c_Reader_readCall 24 = .ok (.aload_n 0, 1) := by decide +kernel
theorem d_Reader_readCall_25 : decode c_Reader_readCall 25 = .ok (.invokevirtual 124, 3) := by decide +kernel
theorem d_Reader_readCall_28 : decode c_Reader_readCall 28 = .ok (.ireturn, 1) := by decide +kernel
theorem d_Reader_readCall_29 : decode c_Reader_readCall 29 = .ok (.aload_n 0, 1) := by decide +kernel
theorem d_Reader_readCall_30 : decode c_Reader_readCall 30 = .ok (.aload_n 0, 1) := by decide +kernel
theorem d_Reader_readCall_31 : decode c_Reader_readCall 31 = .ok (.getfield 50, 3) := by decide +kernel
theorem d_Reader_readCall_34 : decode c_Reader_readCall 34 = .ok (.iload_n 1, 1) := by decide +kernel
theorem d_Reader_readCall_35 : decode c_Reader_readCall 35 = .ok (.invokestatic 134, 3) := by decide +kernel
theorem d_Reader_readCall_38 : decode c_Reader_readCall 38 = .ok (.putfield 50, 3) := by decide +kernel
theorem d_Reader_readCall_41 : decode c_Reader_readCall 41 = .ok (.aload_n 0, 1) := by decide +kernel
theorem d_Reader_readCall_42 : decode c_Reader_readCall 42 = .ok (.dup, 1) := by decide +kernel
theorem d_Reader_readCall_43 : decode c_Reader_readCall 43 = .ok (.getfield 44, 3) := by decide +kernel
theorem d_Reader_readCall_46 : decode c_Reader_readCall 46 = .ok (.iconst 4, 1) := by decide +kernel
theorem d_Reader_readCall_47 : decode c_Reader_readCall 47 = .ok (.iadd, 1) := by decide +kernel
theorem d_Reader_readCall_48 : decode c_Reader_readCall 48 = .ok (.putfield 44, 3) := by decide +kernel
theorem d_Reader_readCall_51 : decode c_Reader_readCall 51 = .ok (.aload_n 0, 1) := by decide +kernel
theorem d_Reader_readCall_52 : decode c_Reader_readCall 52 = .ok (.iconst 4, 1) := by decide +kernel
theorem d_Reader_readCall_53 : decode c_Reader_readCall 53 = .ok (.iload_n 1, 1) := by decide +kernel
theorem d_Reader_readCall_54 : decode c_Reader_readCall 54 = .ok (.invokevirtual 127, 3) := by decide +kernel
theorem d_Reader_readCall_57 : decode c_Reader_readCall 57 = .ok (.ireturn, 1) := by decide +kernel
theorem d_Reader_readReference_0 : decode c_Reader_readReference 0 = .ok (.aload_n 0, 1) := by decide +kernel
theorem d_Reader_readReference_1 : decode c_Reader_readReference 1 = .ok (.iconst 1, 1) := by decide +kernel
theorem d_Reader_readReference_2 : decode c_Reader_readReference 2 = .ok (.invokevirtual 83, 3) := by decide +kernel
theorem d_Reader_readReference_5 : decode c_Reader_readReference 5 = .ok (.bipush 48, 2) := by decide +kernel
theorem d_Reader_readReference_7 : decode c_Reader_readReference 7 = .ok (.isub, 1) := by decide +kernel
theorem d_Reader_readReference_8 : decode c_Reader_readReference 8 = .ok (.istore_n 1, 1) := by decide +kernel
theorem d_Reader_readReference_9 : decode c_Reader_readReference 9 = .ok (.iload_n 1, 1) := by decide +kernel
theorem d_Reader_readReference_10 : decode c_Reader_readReference 10 = .ok (.iconst 1, 1) := by decide +kernel
theorem d_Reader_readReference_11 : decode c_Reader_readReference 11 = .ok (.if_icmp .lt 8, 3) := by decide +kernel
theorem d_Reader_readReference_14 : decode c_Reader_readReference 14 = .ok (.iload_n 1, 1) := by decide +kernel
theorem d_Reader_readReference_15 : decode c_Reader_readReference 15 = .ok (.iconst 4, 1) := by decide +kernel
theorem d_Reader_readReference_16 : decode c_Reader_readReference 16 = .ok (.if_icmp .le 8, 3) := by decide +kernel
theorem d_Reader_readReference_19 : decode c_Reader_readReference 19 = .ok (.aload_n 0, 1) := by decide +kernel
theorem d_Reader_readReference_20 : decode c_Reader_readReference 20 = .ok (.invokevirtual 124, 3) := by decide +kernel
theorem d_Reader_readReference_23 : decode c_Reader_readReference 23 = .ok (.ireturn, 1) := by decide +kernel
theorem d_Reader_readReference_24 : decode c_Reader_readReference 24 = .ok (.aload_n 0, 1) := by decide +kernel
theorem d_Reader_readReference_25 : decode c_Reader_readReference 25 = .ok (.aload_n 0, 1) := by decide +kernel
theorem d_Reader_readReference_26 : decode c_Reader_readReference 26 = .ok (.getfield 50, 3) := by decide +kernel
theorem d_Reader_readReference_29 : decode c_Reader_readReference 29 = .ok (.iload_n 1, 1) := by decide +kernel
theorem d_Reader_readReference_30 : decode c_Reader_readReference 30 = .ok (.invokestatic 134, 3) := by decide +kernel
theorem d_Reader_readReference_33 : decode c_Reader_readReference 33 = .ok (.putfield 50, 3) := by decide +kernel
theorem d_Reader_readReference_36 : decode c_Reader_readReference 36 = .ok (.aload_n 0, 1) := by decide +kernel
theorem d_Reader_readReference_37 : decode c_Reader_readReference 37 = .ok (.dup, 1) := by decide +kernel
theorem d_Reader_readReference_38 : decode c_Reader_readReference 38 = .ok (.getfield 44, 3) := by decide +kernel
theorem d_Reader_readReference_41 : decode c_Reader_readReference 41 = .ok (.iconst 2, 1) := by decide +kernel
theorem d_Reader_readReference_42 : decode c_Reader_readReference 42 = .ok (.iadd, 1) := by decide +kernel
theorem d_Reader_readReference_43 : decode c_Reader_readReference 43 = .ok (.putfield 44, 3) := by decide +kernel
theorem d_Reader_readReference_46 : decode c_Reader_readReference 46 = .ok (.aload_n 0, 1) := by decide +kernel
theorem d_Reader_readReference_47 : decode c_Reader_readReference 47 = .ok (.iconst 3, 1) := by decide +kernel
theorem d_Reader_readReference_48 : decode c_Reader_readReference 48 = .ok (.iload_n 1, 1) := by decide +kernel
theorem d_Reader_readReference_49 : decode c_Reader_readReference 49 = .ok (.invokevirtual 127, 3) := by decide +kernel
theorem d_Reader_readReference_52 : decode c_Reader_readReference 52 = .ok (.ireturn, 1) := by decide +kernel
theorem d_Reader_readSign_0 : decode c_Reader_readSign 0 = .ok (.aload_n 0, 1) := by decide +kernel
theorem d_Reader_readSign_1 : decode c_Reader_readSign 1 = .ok (.iconst 0, 1) := by decide +kernel
theorem d_Reader_readSign_2 : decode c_Reader_readSign 2 = .ok (.invokevirtual 83, 3) := by decide +kernel
theorem d_Reader_readSign_5 : decode c_Reader_readSign 5 = .ok (.istore_n 1, 1) := by decide +kernel
theorem d_Reader_readSign_6 : decode c_Reader_readSign 6 = .ok (.aload_n 0, 1) := by decide +kernel
theorem d_Reader_readSign_7 : decode c_Reader_readSign 7 = .ok (.dup, 1) := by decide +kernel
theorem d_Reader_readSign_8 : decode c_Reader_readSign 8 = .ok (.getfield 44, 3) := by decide +kernel
theorem d_Reader_readSign_11 : decode c_Reader_readSign 11 = .ok (.iconst 1, 1) := by decide +kernel
theorem d_Reader_readSign_12 : decode c_Reader_readSign 12 = .ok (.iadd, 1) := by decide +kernel
theorem d_Reader_readSign_13 : decode c_Reader_readSign 13 = .ok (.putfield 44, 3) := by decide +kernel
theorem d_Reader_readSign_16 : decode c_Reader_readSign 16 = .ok (.iload_n 1, 1) := by decide +kernel
theorem d_Reader_readSign_17 : decode c_Reader_readSign 17 = .ok (.invokestatic 139, 3) := by decide +kernel
theorem d_Reader_readSign_20 : decode c_Reader_readSign 20 = .ok (.ifCond .eq 14, 3) := by decide +kernel
theorem d_Reader_readSign_23 : decode c_Reader_readSign 23 = .ok (.aload_n 0, 1) := by decide +kernel
theorem d_Reader_readSign_24 : decode c_Reader_readSign 24 = .ok (.iconst 0, 1) := by decide +kernel
theorem d_Reader_readSign_25 : decode c_Reader_readSign 25 = .ok (.iload_n 1, 1) := by decide +kernel
theorem d_Reader_readSign_26 : decode c_Reader_readSign 26 = .ok (.iload_n 1, 1) := by decide +kernel
theorem d_Reader_readSign_27 : decode c_Reader_readSign 27 = .ok (.invokestatic 142, 3) := by decide +kernel
theorem d_Reader_readSign_30 : decode c_Reader_readSign 30 = .ok (.invokevirtual 127, 3) := by decide +kernel
theorem d_Reader_readSign_33 : decode c_Reader_readSign 33 = .ok (.ireturn, 1) := by decide +kernel
theorem d_Reader_readSign_34 : decode c_Reader_readSign 34 = .ok (.iload_n 1, 1) := by decide +kernel
theorem d_Reader_readSign_35 : decode c_Reader_readSign 35 = .ok (.lookupswitch 55 #[(36, 48), (46, 33), (94, 41)], 33) := by decide +kernel
theorem d_Reader_readSign_68 : decode c_Reader_readSign 68 = .ok (.aload_n 0, 1) := by decide +kernel
theorem d_Reader_readSign_69 : decode c_Reader_readSign 69 = .ok (.iconst 0, 1) := by decide +kernel
theorem d_Reader_readSign_70 : decode c_Reader_readSign 70 = .ok (.ldc 145, 2) := by decide +kernel
theorem d_Reader_readSign_72 : decode c_Reader_readSign 72 = .ok (.invokevirtual 127, 3) := by decide +kernel
theorem d_Reader_readSign_75 : decode c_Reader_readSign 75 = .ok (.ireturn, 1) := by decide +kernel
theorem d_Reader_readSign_76 : decode c_Reader_readSign 76 = .ok (.aload_n 0, 1) := by decide +kernel
theorem d_Reader_readSign_77 : decode c_Reader_readSign 77 = .ok (.iconst 1, 1) := by decide +kernel
theorem d_Reader_readSign_78 : decode c_Reader_readSign 78 = .ok (.iconst 0, 1) := by decide +kernel
theorem d_Reader_readSign_79 : decode c_Reader_readSign 79 = .ok (.invokevirtual 127, 3) := by decide +kernel
theorem d_Reader_readSign_82 : decode c_Reader_readSign 82 = .ok (.ireturn, 1) := by decide +kernel
theorem d_Reader_readSign_83 : decode c_Reader_readSign 83 = .ok (.aload_n 0, 1) := by decide +kernel
theorem d_Reader_readSign_84 : decode c_Reader_readSign 84 = .ok (.iconst 2, 1) := by decide +kernel
theorem d_Reader_readSign_85 : decode c_Reader_readSign 85 = .ok (.iconst 0, 1) := by decide +kernel
theorem d_Reader_readSign_86 : decode c_Reader_readSign 86 = .ok (.invokevirtual 127, 3) := by decide +kernel
theorem d_Reader_readSign_89 : decode c_Reader_readSign 89 = .ok (.ireturn, 1) := by decide +kernel
theorem d_Reader_readSign_90 : decode c_Reader_readSign 90 = .ok (.aload_n 0, 1) := by decide +kernel
theorem d_Reader_readSign_91 : decode c_Reader_readSign 91 = .ok (.invokevirtual 124, 3) := by decide +kernel
theorem d_Reader_readSign_94 : decode c_Reader_readSign 94 = .ok (.ireturn, 1) := by decide +kernel
theorem d_Reader_readClass_0 : decode c_Reader_readClass 0 = .ok (.aload_n 0, 1) := by decide +kernel
theorem d_Reader_readClass_1 : decode c_Reader_readClass 1 = .ok (.iconst 1, 1) := by decide +kernel
theorem d_Reader_readClass_2 : decode c_Reader_readClass 2 = .ok (.invokevirtual 83, 3) := by decide +kernel
theorem d_Reader_readClass_5 : decode c_Reader_readClass 5 = .ok (.bipush 94, 2) := by decide +kernel
theorem d_Reader_readClass_7 : decode c_Reader_readClass 7 = .ok (.if_icmp .ne 7, 3) := by decide +kernel
theorem d_Reader_readClass_10 : decode c_Reader_readClass 10 = .ok (.iconst 1, 1) := by decide +kernel
theorem d_Reader_readClass_11 : decode c_Reader_readClass 11 = .ok (.goto 4, 3) := by decide +kernel
theorem d_Reader_readClass_14 : decode c_Reader_readClass 14 = .ok (.iconst 0, 1) := by decide +kernel
theorem d_Reader_readClass_15 : decode c_Reader_readClass 15 = .ok (.istore_n 1, 1) := by decide +kernel
theorem d_Reader_readClass_16 : decode c_Reader_readClass 16 = .ok (.aload_n 0, 1) := by decide +kernel
theorem d_Reader_readClass_17 : decode c_Reader_readClass 17 = .ok (.dup, 1) := by decide +kernel
theorem d_Reader_readClass_18 : decode c_Reader_readClass 18 = .ok (.getfield 44, 3) := by decide +kernel
theorem d_Reader_readClass_21 : decode c_Reader_readClass 21 = .ok (.iload_n 1, 1) := by decide +kernel
theorem d_Reader_readClass_22 : decode c_Reader_readClass 22 = .ok (.ifCond .eq 7, 3) := by decide +kernel
theorem d_Reader_readClass_25 : decode c_Reader_readClass 25 = .ok (.iconst 2, 1) := by decide +kernel
theorem d_Reader_readClass_26 : decode c_Reader_readClass 26 = .ok (.goto 4, 3) := by decide +kernel
theorem d_Reader_readClass_29 : decode c_Reader_readClass 29 = .ok (.iconst 1, 1) := by decide +kernel
theorem d_Reader_readClass_30 : decode c_Reader_readClass 30 = .ok (.iadd, 1) := by decide +kernel
theorem d_Reader_readClass_31 : decode c_Reader_readClass 31 = .ok (.putfield 44, 3) := by decide +kernel
theorem d_Reader_readClass_34 : decode c_Reader_readClass 34 = .ok (.iconst 0, 1) := by decide +kernel
theorem d_Reader_readClass_35 : decode c_Reader_readClass 35 = .ok (.istore_n 2, 1) := by decide +kernel
theorem d_Reader_readClass_36 : decode c_Reader_readClass 36 = .ok (.iconst 0, 1) := by decide +kernel
theorem d_Reader_readClass_37 : decode c_Reader_readClass 37 = .ok (.istore_n 3, 1) := by decide +kernel
theorem d_Reader_readClass_38 : decode c_Reader_readClass 38 = .ok (.iload_n 3, 1) := by decide +kernel
theorem d_Reader_readClass_39 : decode c_Reader_readClass 39 = .ok (.bipush 32, 2) := by decide +kernel
theorem d_Reader_readClass_41 : decode c_Reader_readClass 41 = .ok (.if_icmp .ge 34, 3) := by decide +kernel
theorem d_Reader_readClass_44 : decode c_Reader_readClass 44 = .ok (.aload_n 0, 1) := by decide +kernel
theorem d_Reader_readClass_45 : decode c_Reader_readClass 45 = .ok (.getfield 53, 3) := by decide +kernel
theorem d_Reader_readClass_48 : decode c_Reader_readClass 48 = .ok (.ifCond .eq 27, 3) := by decide +kernel
theorem d_Reader_readClass_51 : decode c_Reader_readClass 51 = .ok (.aload_n 0, 1) := by decide +kernel
theorem d_Reader_readClass_52 : decode c_Reader_readClass 52 = .ok (.iconst 0, 1) := by decide +kernel
theorem d_Reader_readClass_53 : decode c_Reader_readClass 53 = .ok (.invokevirtual 83, 3) := by decide +kernel
theorem d_Reader_readClass_56 : decode c_Reader_readClass 56 = .ok (.invokestatic 139, 3) := by decide +kernel
theorem d_Reader_readClass_59 : decode c_Reader_readClass 59 = .ok (.ifCond .eq 16, 3) := by decide +kernel
theorem d_Reader_readClass_62 : decode c_Reader_readClass 62 = .ok (.iload_n 2, 1) := by decide +kernel
theorem d_Reader_readClass_63 : decode c_Reader_readClass 63 = .ok (.aload_n 0, 1) := by decide +kernel
theorem d_Reader_readClass_64 : decode c_Reader_readClass 64 = .ok (.invokevirtual 146, 3) := by decide +kernel
theorem d_Reader_readClass_67 : decode c_Reader_readClass 67 = .ok (.ior, 1) := by decide +kernel
theorem d_Reader_readClass_68 : decode c_Reader_readClass 68 = .ok (.istore_n 2, 1) := by decide +kernel
theorem d_Reader_readClass_69 : decode c_Reader_readClass 69 = .ok (.iinc 3 1, 3) := by decide +kernel
theorem d_Reader_readClass_72 : decode c_Reader_readClass 72 = .ok (.goto (-34), 3) := by decide +kernel
theorem d_Reader_readClass_75 : decode c_Reader_readClass 75 = .ok (.iload_n 2, 1) := by decide +kernel
theorem d_Reader_readClass_76 : decode c_Reader_readClass 76 = .ok (.ifCond .eq 13, 3) := by decide +kernel
theorem d_Reader_readClass_79 : decode c_Reader_readClass 79 = .ok (.aload_n 0, 1) := by decide +kernel
theorem d_Reader_readClass_80 : decode c_Reader_readClass 80 = .ok (.iconst 0, 1) := by decide +kernel
theorem d_Reader_readClass_81 : decode c_Reader_readClass 81 = .ok (.invokevirtual 83, 3) := by decide +kernel
theorem d_Reader_readClass_84 : decode c_Reader_readClass 84 = .ok (.bipush 93, 2) := by decide +kernel
theorem d_Reader_readClass_86 : decode c_Reader_readClass 86 = .ok (.if_icmp .eq 8, 3) := by decide +kernel
theorem d_Reader_readClass_89 : decode c_Reader_readClass 89 = .ok (.aload_n 0, 1) := by decide +kernel
theorem d_Reader_readClass_90 : decode c_Reader_readClass 90 = .ok (.invokevirtual 124, 3) := by decide +kernel
theorem d_Reader_readClass_93 : decode c_Reader_readClass 93 = .ok (.ireturn, 1) := by decide +kernel
theorem d_Reader_readClass_94 : decode c_Reader_readClass 94 = .ok (.aload_n 0, 1) := by decide +kernel
theorem d_Reader_readClass_95 : decode c_Reader_readClass 95 = .ok (.dup, 1) := by decide +kernel
theorem d_Reader_readClass_96 : decode c_Reader_readClass 96 = .ok (.getfield 44, 3) := by decide +kernel
theorem d_Reader_readClass_99 : decode c_Reader_readClass 99 = .ok (.iconst 1, 1) := by decide +kernel
theorem d_Reader_readClass_100 : decode c_Reader_readClass 100 = .ok (.iadd, 1) := by decide +kernel
theorem d_Reader_readClass_101 : decode c_Reader_readClass 101 = .ok (.putfield 44, 3) := by decide +kernel
theorem d_Reader_readClass_104 : decode c_Reader_readClass 104 = .ok (.aload_n 0, 1) := by decide +kernel
theorem d_Reader_readClass_105 : decode c_Reader_readClass 105 = .ok (.iconst 0, 1) := by decide +kernel
theorem d_Reader_readClass_106 : decode c_Reader_readClass 106 = .ok (.iload_n 1, 1) := by decide +kernel
theorem d_Reader_readClass_107 : decode c_Reader_readClass 107 = .ok (.ifCond .eq 12, 3) := by decide +kernel
theorem d_Reader_readClass_110 : decode c_Reader_readClass 110 = .ok (.ldc 145, 2) := by decide +kernel
theorem d_Reader_readClass_112 : decode c_Reader_readClass 112 = .ok (.iload_n 2, 1) := by decide +kernel
theorem d_Reader_readClass_113 : decode c_Reader_readClass 113 = .ok (.iconst (-1), 1) := by decide +kernel
theorem d_Reader_readClass_114 : decode c_Reader_readClass 114 = .ok (.ixor, 1) := by decide +kernel
theorem d_Reader_readClass_115 : decode c_Reader_readClass 115 = .ok (.iand, 1) := by decide +kernel
theorem d_Reader_readClass_116 : decode c_Reader_readClass 116 = .ok (.goto 4, 3) := by decide +kernel
theorem d_Reader_readClass_119 : decode c_Reader_readClass 119 = .ok (.iload_n 2, 1) := by decide +kernel
theorem d_Reader_readClass_120 : decode c_Reader_readClass 120 = .ok (.invokevirtual 127, 3) := by decide +kernel
theorem d_Reader_readClass_123 : decode c_Reader_readClass 123 = .ok (.ireturn, 1) := by decide +kernel
theorem d_Reader_readClassPart_0 : decode c_Reader_readClassPart 0 = .ok (.aload_n 0, 1) := by decide +kernel
theorem d_Reader_readClassPart_1 : decode c_Reader_readClassPart 1 = .ok (.iconst 0, 1) := by decide +kernel
theorem d_Reader_readClassPart_2 : decode c_Reader_readClassPart 2 = .ok (.invokevirtual 83, 3) := by decide +kernel
theorem d_Reader_readClassPart_5 : decode c_Reader_readClassPart 5 = .ok (.istore_n 1, 1) := by decide +kernel
theorem d_Reader_readClassPart_6 : decode c_Reader_readClassPart 6 = .ok (.aload_n 0, 1) := by decide +kernel
theorem d_Reader_readClassPart_7 : decode c_Reader_readClassPart 7 = .ok (.iconst 1, 1) := by decide +kernel
theorem d_Reader_readClassPart_8 : decode c_Reader_readClassPart 8 = .ok (.invokevirtual 83, 3) := by decide +kernel
theorem d_Reader_readClassPart_11 : decode c_Reader_readClassPart 11 = .ok (.bipush 45, 2) := by decide +kernel
theorem d_Reader_readClassPart_13 : decode c_Reader_readClassPart 13 = .ok (.if_icmp .eq 19, 3) := by decide +kernel
theorem d_Reader_readClassPart_16 : decode c_Reader_readClassPart 16 = .ok (.aload_n 0, 1) := by decide +kernel
theorem d_Reader_readClassPart_17 : decode c_Reader_readClassPart 17 = .ok (.dup, 1) := by decide +kernel
theorem d_Reader_readClassPart_18 : decode c_Reader_readClassPart 18 = .ok (.getfield 44, 3) := by decide +kernel
theorem d_Reader_readClassPart_21 : decode c_Reader_readClassPart 21 = .ok (.iconst 1, 1) := by decide +kernel
theorem d_Reader_readClassPart_22 : decode c_Reader_readClassPart 22 = .ok (.iadd, 1) := by decide +kernel
theorem d_Reader_readClassPart_23 : decode c_Reader_readClassPart 23 = .ok (.putfield 44, 3) := by decide +kernel
theorem d_Reader_readClassPart_26 : decode c_Reader_readClassPart 26 = .ok (.iload_n 1, 1) := by decide +kernel
theorem d_Reader_readClassPart_27 : decode c_Reader_readClassPart 27 = .ok (.iload_n 1, 1) := by decide +kernel
theorem d_Reader_readClassPart_28 : decode c_Reader_readClassPart 28 = .ok (.invokestatic 142, 3) := by decide +kernel
theorem d_Reader_readClassPart_31 : decode c_Reader_readClassPart 31 = .ok (.ireturn, 1) := by decide +kernel
theorem d_Reader_readClassPart_32 : decode c_Reader_readClassPart 32 = .ok (.aload_n 0, 1) := by decide +kernel
theorem d_Reader_readClassPart_33 : decode c_Reader_readClassPart 33 = .ok (.iconst 2, 1) := by decide +kernel
theorem d_Reader_readClassPart_34 : decode c_Reader_readClassPart 34 = .ok (.invokevirtual 83, 3) := by decide +kernel
theorem d_Reader_readClassPart_37 : decode c_Reader_readClassPart 37 = .ok (.istore_n 2, 1) := by decide +kernel
theorem d_Reader_readClassPart_38 : decode c_Reader_readClassPart 38 = .ok (.aload_n 0, 1) := by decide +kernel
theorem d_Reader_readClassPart_39 : decode c_Reader_readClassPart 39 = .ok (.dup, 1) := by decide +kernel
theorem d_Reader_readClassPart_40 : decode c_Reader_readClassPart 40 = .ok (.getfield 44, 3) := by decide +kernel
theorem d_Reader_readClassPart_43 : decode c_Reader_readClassPart 43 = .ok (.iconst 3, 1) := by decide +kernel
theorem d_Reader_readClassPart_44 : decode c_Reader_readClassPart 44 = .ok (.iadd, 1) := by decide +kernel
theorem d_Reader_readClassPart_45 : decode c_Reader_readClassPart 45 = .ok (.putfield 44, 3) := by decide +kernel
theorem d_Reader_readClassPart_48 : decode c_Reader_readClassPart 48 = .ok (.iload_n 2, 1) := by decide +kernel
theorem d_Reader_readClassPart_49 : decode c_Reader_readClassPart 49 = .ok (.invokestatic 139, 3) := by decide +kernel
theorem d_Reader_readClassPart_52 : decode c_Reader_readClassPart 52 = .ok (.ifCond .eq 8, 3) := by decide +kernel
theorem d_Reader_readClassPart_55 : decode c_Reader_readClassPart 55 = .ok (.iload_n 2, 1) := by decide +kernel
theorem d_Reader_readClassPart_56 : decode c_Reader_readClassPart 56 = .ok (.iload_n 1, 1) := by decide +kernel
theorem d_Reader_readClassPart_57 : decode c_Reader_readClassPart 57 = .ok (.if_icmp .ge 10, 3) := by decide +kernel
theorem d_Reader_readClassPart_60 : decode c_Reader_readClassPart 60 = .ok (.aload_n 0, 1) := by decide +kernel
theorem d_Reader_readClassPart_61 : decode c_Reader_readClassPart 61 = .ok (.iconst 0, 1) := by decide +kernel
theorem d_Reader_readClassPart_62 : decode c_Reader_readClassPart 62 = .ok (.putfield 53, 3) := by decide +kernel
theorem d_Reader_readClassPart_65 : decode c_Reader_readClassPart 65 = .ok (.iconst 0, 1) := by decide +kernel
theorem d_Reader_readClassPart_66 : decode c_Reader_readClassPart 66 = .ok (.ireturn, 1) := by decide +kernel
theorem d_Reader_readClassPart_67 : decode c_Reader_readClassPart 67 = .ok (.iload_n 1, 1) := by decide +kernel
theorem d_Reader_readClassPart_68 : decode c_Reader_readClassPart 68 = .ok (.iload_n 2, 1) := by decide +kernel
theorem d_Reader_readClassPart_69 : decode c_Reader_readClassPart 69 = .ok (.invokestatic 142, 3) := by decide +kernel
theorem d_Reader_readClassPart_72 : decode c_Reader_readClassPart 72 = .ok (.ireturn, 1) := by decide +kernel
theorem d_Reader_lettersBetween_0 : decode c_Reader_lettersBetween 0 = .ok (.iconst 2, 1) := by decide +kernel
theorem d_Reader_lettersBetween_1 : decode c_Reader_lettersBetween 1 = .ok (.iload_n 1, 1) := by decide +kernel
theorem d_Reader_lettersBetween_2 : decode c_Reader_lettersBetween 2 = .ok (.iload_n 0, 1) := by decide +kernel
theorem d_Reader_lettersBetween_3 : decode c_Reader_lettersBetween 3 = .ok (.isub, 1) := by decide +kernel
theorem d_Reader_lettersBetween_4 : decode c_Reader_lettersBetween 4 = .ok (.ishl, 1) := by decide +kernel
theorem d_Reader_lettersBetween_5 : decode c_Reader_lettersBetween 5 = .ok (.iconst 1, 1) := by decide +kernel
theorem d_Reader_lettersBetween_6 : decode c_Reader_lettersBetween 6 = .ok (.isub, 1) := by decide +kernel
theorem d_Reader_lettersBetween_7 : decode c_Reader_lettersBetween 7 = .ok (.iload_n 0, 1) := by decide +kernel
theorem d_Reader_lettersBetween_8 : decode c_Reader_lettersBetween 8 = .ok (.bipush 97, 2) := by decide +kernel
theorem d_Reader_lettersBetween_10 : decode c_Reader_lettersBetween 10 = .ok (.isub, 1) := by decide +kernel
theorem d_Reader_lettersBetween_11 : decode c_Reader_lettersBetween 11 = .ok (.ishl, 1) := by decide +kernel
theorem d_Reader_lettersBetween_12 : decode c_Reader_lettersBetween 12 = .ok (.ireturn, 1) := by decide +kernel
theorem d_Reader_appendItem_0 : decode c_Reader_appendItem 0 = .ok (.aload_n 0, 1) := by decide +kernel
theorem d_Reader_appendItem_1 : decode c_Reader_appendItem 1 = .ok (.getfield 23, 3) := by decide +kernel
theorem d_Reader_appendItem_4 : decode c_Reader_appendItem 4 = .ok (.iload_n 1, 1) := by decide +kernel
theorem d_Reader_appendItem_5 : decode c_Reader_appendItem 5 = .ok (.iload_n 2, 1) := by decide +kernel
theorem d_Reader_appendItem_6 : decode c_Reader_appendItem 6 = .ok (.invokevirtual 149, 3) := by decide +kernel
theorem d_Reader_appendItem_9 : decode c_Reader_appendItem 9 = .ok (.istore_n 3, 1) := by decide +kernel
theorem d_Reader_appendItem_10 : decode c_Reader_appendItem 10 = .ok (.aload_n 0, 1) := by decide +kernel
theorem d_Reader_appendItem_11 : decode c_Reader_appendItem 11 = .ok (.getfield 34, 3) := by decide +kernel
theorem d_Reader_appendItem_14 : decode c_Reader_appendItem 14 = .ok (.aload_n 0, 1) := by decide +kernel
theorem d_Reader_appendItem_15 : decode c_Reader_appendItem 15 = .ok (.getfield 40, 3) := by decide +kernel
theorem d_Reader_appendItem_18 : decode c_Reader_appendItem 18 = .ok (.iaload, 1) := by decide +kernel
theorem d_Reader_appendItem_19 : decode c_Reader_appendItem 19 = .ok (.iconst (-1), 1) := by decide +kernel
theorem d_Reader_appendItem_20 : decode c_Reader_appendItem 20 = .ok (.if_icmp .ne 24, 3) := by decide +kernel
theorem d_Reader_appendItem_23 : decode c_Reader_appendItem 23 = .ok (.aload_n 0, 1) := by decide +kernel
theorem d_Reader_appendItem_24 : decode c_Reader_appendItem 24 = .ok (.getfield 23, 3) := by decide +kernel
theorem d_Reader_appendItem_27 : decode c_Reader_appendItem 27 = .ok (.getfield 152, 3) := by decide +kernel
theorem d_Reader_appendItem_30 : decode c_Reader_appendItem 30 = .ok (.aload_n 0, 1) := by decide +kernel
theorem d_Reader_appendItem_31 : decode c_Reader_appendItem 31 = .ok (.getfield 31, 3) := by decide +kernel
theorem d_Reader_appendItem_34 : decode c_Reader_appendItem 34 = .ok (.aload_n 0, 1) := by decide +kernel
theorem d_Reader_appendItem_35 : decode c_Reader_appendItem 35 = .ok (.getfield 40, 3) := by decide +kernel
theorem d_Reader_appendItem_38 : decode c_Reader_appendItem 38 = .ok (.iaload, 1) := by decide +kernel
theorem d_Reader_appendItem_39 : decode c_Reader_appendItem 39 = .ok (.iload_n 3, 1) := by decide +kernel
theorem d_Reader_appendItem_40 : decode c_Reader_appendItem 40 = .ok (.iastore, 1) := by decide +kernel
theorem d_Reader_appendItem_41 : decode c_Reader_appendItem 41 = .ok (.goto 21, 3) := by decide +kernel
theorem d_Reader_appendItem_44 : decode c_Reader_appendItem 44 = .ok (.aload_n 0, 1) := by decide +kernel
theorem d_Reader_appendItem_45 : decode c_Reader_appendItem 45 = .ok (.getfield 23, 3) := by decide +kernel
theorem d_Reader_appendItem_48 : decode c_Reader_appendItem 48 = .ok (.getfield 155, 3) := by decide +kernel
theorem d_Reader_appendItem_51 : decode c_Reader_appendItem 51 = .ok (.aload_n 0, 1) := by decide +kernel
theorem d_Reader_appendItem_52 : decode c_Reader_appendItem 52 = .ok (.getfield 34, 3) := by decide +kernel
theorem d_Reader_appendItem_55 : decode c_Reader_appendItem 55 = .ok (.aload_n 0, 1) := by decide +kernel
theorem d_Reader_appendItem_56 : decode c_Reader_appendItem 56 = .ok (.getfield 40, 3) := by decide +kernel
theorem d_Reader_appendItem_59 : decode c_Reader_appendItem 59 = .ok (.iaload, 1) := by decide +kernel
theorem d_Reader_appendItem_60 : decode c_Reader_appendItem 60 = .ok (.iload_n 3, 1) := by decide +kernel
theorem d_Reader_appendItem_61 : decode c_Reader_appendItem 61 = .ok (.iastore, 1) := by decide +kernel
theorem d_Reader_appendItem_62 : decode c_Reader_appendItem 62 = .ok (.aload_n 0, 1) := by decide +kernel
theorem d_Reader_appendItem_63 : decode c_Reader_appendItem 63 = .ok (.getfield 34, 3) := by decide +kernel
theorem d_Reader_appendItem_66 : decode c_Reader_appendItem 66 = .ok (.aload_n 0, 1) := by decide +kernel
theorem d_Reader_appendItem_67 : decode c_Reader_appendItem 67 = .ok (.getfield 40, 3) := by decide +kernel
theorem d_Reader_appendItem_70 : decode c_Reader_appendItem 70 = .ok (.iload_n 3, 1) := by decide +kernel
theorem d_Reader_appendItem_71 : decode c_Reader_appendItem 71 = .ok (.iastore, 1) := by decide +kernel
theorem d_Reader_appendItem_72 : decode c_Reader_appendItem 72 = .ok (.aload_n 0, 1) := by decide +kernel
theorem d_Reader_appendItem_73 : decode c_Reader_appendItem 73 = .ok (.iconst 1, 1) := by decide +kernel
theorem d_Reader_appendItem_74 : decode c_Reader_appendItem 74 = .ok (.putfield 47, 3) := by decide +kernel
theorem d_Reader_appendItem_77 : decode c_Reader_appendItem 77 = .ok (.iload_n 3, 1) := by decide +kernel
theorem d_Reader_appendItem_78 : decode c_Reader_appendItem 78 = .ok (.ireturn, 1) := by decide +kernel
theorem d_Reader_readRepeat_0 : decode c_Reader_readRepeat 0 = .ok (.aload_n 0, 1) := by decide +kernel
theorem d_Reader_readRepeat_1 : decode c_Reader_readRepeat 1 = .ok (.iconst 0, 1) := by decide +kernel
theorem d_Reader_readRepeat_2 : decode c_Reader_readRepeat 2 = .ok (.invokevirtual 83, 3) := by decide +kernel
theorem d_Reader_readRepeat_5 : decode c_Reader_readRepeat 5 = .ok (.lookupswitch 101 #[(42, 43), (43, 59), (63, 77), (123, 93)], 43) := by decide +kernel
theorem d_Reader_readRepeat_48 : decode c_Reader_readRepeat 48 = .ok (.aload_n 0, 1) := by decide +kernel
theorem d_Reader_readRepeat_49 : decode c_Reader_readRepeat 49 = .ok (.iload_n 1, 1) := by decide +kernel
theorem d_Reader_readRepeat_50 : decode c_Reader_readRepeat 50 = .ok (.iconst 3, 1) := by decide +kernel
theorem d_Reader_readRepeat_51 : decode c_Reader_readRepeat 51 = .ok (.iconst 1, 1) := by decide +kernel
theorem d_Reader_readRepeat_52 : decode c_Reader_readRepeat 52 = .ok (.aload_n 0, 1) := by decide +kernel
theorem d_Reader_readRepeat_53 : decode c_Reader_readRepeat 53 = .ok (.getfield 47, 3) := by decide +kernel
theorem d_Reader_readRepeat_56 : decode c_Reader_readRepeat 56 = .ok (.iconst 2, 1) := by decide +kernel
theorem d_Reader_readRepeat_57 : decode c_Reader_readRepeat 57 = .ok (.iadd, 1) := by decide +kernel
theorem d_Reader_readRepeat_58 : decode c_Reader_readRepeat 58 = .ok (.invokevirtual 158, 3) := by decide +kernel
theorem d_Reader_readRepeat_61 : decode c_Reader_readRepeat 61 = .ok (.goto 61, 3) := by decide +kernel
theorem d_Reader_readRepeat_64 : decode c_Reader_readRepeat 64 = .ok (.aload_n 0, 1) := by decide +kernel
theorem d_Reader_readRepeat_65 : decode c_Reader_readRepeat 65 = .ok (.iload_n 1, 1) := by decide +kernel
theorem d_Reader_readRepeat_66 : decode c_Reader_readRepeat 66 = .ok (.iconst 4, 1) := by decide +kernel
theorem d_Reader_readRepeat_67 : decode c_Reader_readRepeat 67 = .ok (.iconst 1, 1) := by decide +kernel
theorem d_Reader_readRepeat_68 : decode c_Reader_readRepeat 68 = .ok (.iconst 2, 1) := by decide +kernel
theorem d_Reader_readRepeat_69 : decode c_Reader_readRepeat 69 = .ok (.aload_n 0, 1) := by decide +kernel
theorem d_Reader_readRepeat_70 : decode c_Reader_readRepeat 70 = .ok (.getfield 47, 3) := by decide +kernel
theorem d_Reader_readRepeat_73 : decode c_Reader_readRepeat 73 = .ok (.imul, 1) := by decide +kernel
theorem d_Reader_readRepeat_74 : decode c_Reader_readRepeat 74 = .ok (.iconst 2, 1) := by decide +kernel
theorem d_Reader_readRepeat_75 : decode c_Reader_readRepeat 75 = .ok (.iadd, 1) := by decide +kernel
theorem d_Reader_readRepeat_76 : decode c_Reader_readRepeat 76 = .ok (.invokevirtual 158, 3) := by decide +kernel
theorem d_Reader_readRepeat_79 : decode c_Reader_readRepeat 79 = .ok (.goto 43, 3) := by decide +kernel
theorem d_Reader_readRepeat_82 : decode c_Reader_readRepeat 82 = .ok (.aload_n 0, 1) := by decide +kernel
theorem d_Reader_readRepeat_83 : decode c_Reader_readRepeat 83 = .ok (.iload_n 1, 1) := by decide +kernel
theorem d_Reader_readRepeat_84 : decode c_Reader_readRepeat 84 = .ok (.iconst 2, 1) := by decide +kernel
theorem d_Reader_readRepeat_85 : decode c_Reader_readRepeat 85 = .ok (.iconst 1, 1) := by decide +kernel
theorem d_Reader_readRepeat_86 : decode c_Reader_readRepeat 86 = .ok (.aload_n 0, 1) := by decide +kernel
theorem d_Reader_readRepeat_87 : decode c_Reader_readRepeat 87 = .ok (.getfield 47, 3) := by decide +kernel
theorem d_Reader_readRepeat_90 : decode c_Reader_readRepeat 90 = .ok (.iconst 2, 1) := by decide +kernel
theorem d_Reader_readRepeat_91 : decode c_Reader_readRepeat 91 = .ok (.iadd, 1) := by decide +kernel
theorem d_Reader_readRepeat_92 : decode c_Reader_readRepeat 92 = .ok (.invokevirtual 158, 3) := by decide +kernel
theorem d_Reader_readRepeat_95 : decode c_Reader_readRepeat 95 = .ok (.goto 27, 3) := by decide +kernel
theorem d_Reader_readRepeat_98 : decode c_Reader_readRepeat 98 = .ok (.aload_n 0, 1) := by decide +kernel
theorem d_Reader_readRepeat_99 : decode c_Reader_readRepeat 99 = .ok (.iload_n 1, 1) := by decide +kernel
theorem d_Reader_readRepeat_100 : decode c_Reader_readRepeat 100 = .ok (.invokevirtual 162, 3) := by decide +kernel
theorem d_Reader_readRepeat_103 : decode c_Reader_readRepeat 103 = .ok (.goto 19, 3) := by decide +kernel
theorem d_Reader_readRepeat_106 : decode c_Reader_readRepeat 106 = .ok (.aload_n 0, 1) := by decide +kernel
theorem d_Reader_readRepeat_107 : decode c_Reader_readRepeat 107 = .ok (.getfield 37, 3) := by decide +kernel
theorem d_Reader_readRepeat_110 : decode c_Reader_readRepeat 110 = .ok (.aload_n 0, 1) := by decide +kernel
theorem d_Reader_readRepeat_111 : decode c_Reader_readRepeat 111 = .ok (.getfield 40, 3) := by decide +kernel
theorem d_Reader_readRepeat_114 : decode c_Reader_readRepeat 114 = .ok (.dup2, 1) := by decide +kernel
theorem d_Reader_readRepeat_115 : decode c_Reader_readRepeat 115 = .ok (.iaload, 1) := by decide +kernel
theorem d_Reader_readRepeat_116 : decode c_Reader_readRepeat 116 = .ok (.aload_n 0, 1) := by decide +kernel
theorem d_Reader_readRepeat_117 : decode c_Reader_readRepeat 117 = .ok (.getfield 47, 3) := by decide +kernel
theorem d_Reader_readRepeat_120 : decode c_Reader_readRepeat 120 = .ok (.iadd, 1) := by decide +kernel
theorem d_Reader_readRepeat_121 : decode c_Reader_readRepeat 121 = .ok (.iastore, 1) := by decide +kernel
theorem d_Reader_readRepeat_122 : decode c_Reader_readRepeat 122 = .ok (.return_, 1) := by decide +kernel
theorem d_Reader_readTimes_0 : decode c_Reader_readTimes 0 = .ok (.aload_n 0, 1) := by decide +kernel
theorem d_Reader_readTimes_1 : decode c_Reader_readTimes 1 = .ok (.iconst 1, 1) := by decide +kernel
theorem d_Reader_readTimes_2 : decode c_Reader_readTimes 2 = .ok (.invokevirtual 83, 3) := by decide +kernel
theorem d_Reader_readTimes_5 : decode c_Reader_readTimes 5 = .ok (.invokestatic 93, 3) := by decide +kernel
theorem d_Reader_readTimes_8 : decode c_Reader_readTimes 8 = .ok (.ifCond .eq 13, 3) := by decide +kernel
theorem d_Reader_readTimes_11 : decode c_Reader_readTimes 11 = .ok (.aload_n 0, 1) := by decide +kernel
theorem d_Reader_readTimes_12 : decode c_Reader_readTimes 12 = .ok (.iconst 2, 1) := by decide +kernel
theorem d_Reader_readTimes_13 : decode c_Reader_readTimes 13 = .ok (.invokevirtual 83, 3) := by decide +kernel
theorem d_Reader_readTimes_16 : decode c_Reader_readTimes 16 = .ok (.bipush 125, 2) := by decide +kernel
theorem d_Reader_readTimes_18 : decode c_Reader_readTimes 18 = .ok (.if_icmp .eq 9, 3) := by decide +kernel
theorem d_Reader_readTimes_21 : decode c_Reader_readTimes 21 = .ok (.aload_n 0, 1) := by decide +kernel
theorem d_Reader_readTimes_22 : decode c_Reader_readTimes 22 = .ok (.iconst 0, 1) := by decide +kernel
theorem d_Reader_readTimes_23 : decode c_Reader_readTimes 23 = .ok (.putfield 53, 3) := by decide +kernel
theorem d_Reader_readTimes_26 : decode c_Reader_readTimes 26 = .ok (.return_, 1) := by decide +kernel
theorem d_Reader_readTimes_27 : decode c_Reader_readTimes 27 = .ok (.aload_n 0, 1) := by decide +kernel
theorem d_Reader_readTimes_28 : decode c_Reader_readTimes 28 = .ok (.iconst 1, 1) := by decide +kernel
theorem d_Reader_readTimes_29 : decode c_Reader_readTimes 29 = .ok (.invokevirtual 83, 3) := by decide +kernel
theorem d_Reader_readTimes_32 : decode c_Reader_readTimes 32 = .ok (.bipush 48, 2) := by decide +kernel
theorem d_Reader_readTimes_34 : decode c_Reader_readTimes 34 = .ok (.isub, 1) := by decide +kernel
theorem d_Reader_readTimes_35 : decode c_Reader_readTimes 35 = .ok (.istore_n 2, 1) := by decide +kernel
theorem d_Reader_readTimes_36 : decode c_Reader_readTimes 36 = .ok (.aload_n 0, 1) := by decide +kernel
theorem d_Reader_readTimes_37 : decode c_Reader_readTimes 37 = .ok (.getfield 23, 3) := by decide +kernel
theorem d_Reader_readTimes_40 : decode c_Reader_readTimes 40 = .ok (.getfield 165, 3) := by decide +kernel
theorem d_Reader_readTimes_43 : decode c_Reader_readTimes 43 = .ok (.iload_n 1, 1) := by decide +kernel
theorem d_Reader_readTimes_44 : decode c_Reader_readTimes 44 = .ok (.iload_n 2, 1) := by decide +kernel
theorem d_Reader_readTimes_45 : decode c_Reader_readTimes 45 = .ok (.iastore, 1) := by decide +kernel
theorem d_Reader_readTimes_46 : decode c_Reader_readTimes 46 = .ok (.aload_n 0, 1) := by decide +kernel
theorem d_Reader_readTimes_47 : decode c_Reader_readTimes 47 = .ok (.iload_n 1, 1) := by decide +kernel
theorem d_Reader_readTimes_48 : decode c_Reader_readTimes 48 = .ok (.iload_n 2, 1) := by decide +kernel
theorem d_Reader_readTimes_49 : decode c_Reader_readTimes 49 = .ok (.ifCond .ne 7, 3) := by decide +kernel
theorem d_Reader_readTimes_52 : decode c_Reader_readTimes 52 = .ok (.iconst 1, 1) := by decide +kernel
theorem d_Reader_readTimes_53 : decode c_Reader_readTimes 53 = .ok (.goto 4, 3) := by decide +kernel
theorem d_Reader_readTimes_56 : decode c_Reader_readTimes 56 = .ok (.iconst 5, 1) := by decide +kernel
theorem d_Reader_readTimes_57 : decode c_Reader_readTimes 57 = .ok (.iconst 3, 1) := by decide +kernel
theorem d_Reader_readTimes_58 : decode c_Reader_readTimes 58 = .ok (.iload_n 2, 1) := by decide +kernel
theorem d_Reader_readTimes_59 : decode c_Reader_readTimes 59 = .ok (.aload_n 0, 1) := by decide +kernel
theorem d_Reader_readTimes_60 : decode c_Reader_readTimes 60 = .ok (.getfield 47, 3) := by decide +kernel
theorem d_Reader_readTimes_63 : decode c_Reader_readTimes 63 = .ok (.imul, 1) := by decide +kernel
theorem d_Reader_readTimes_64 : decode c_Reader_readTimes 64 = .ok (.iconst 1, 1) := by decide +kernel
theorem d_Reader_readTimes_65 : decode c_Reader_readTimes 65 = .ok (.iadd, 1) := by decide +kernel
theorem d_Reader_readTimes_66 : decode c_Reader_readTimes 66 = .ok (.invokevirtual 158, 3) := by decide +kernel
theorem d_Reader_readTimes_69 : decode c_Reader_readTimes 69 = .ok (.return_, 1) := by decide +kernel
theorem d_Reader_setRepeat_0 : decode c_Reader_setRepeat 0 = .ok (.aload_n 0, 1) := by decide +kernel
theorem d_Reader_setRepeat_1 : decode c_Reader_setRepeat 1 = .ok (.getfield 23, 3) := by decide +kernel
theorem d_Reader_setRepeat_4 : decode c_Reader_setRepeat 4 = .ok (.getfield 168, 3) := by decide +kernel
theorem d_Reader_setRepeat_7 : decode c_Reader_setRepeat 7 = .ok (.iload_n 1, 1) := by decide +kernel
theorem d_Reader_setRepeat_8 : decode c_Reader_setRepeat 8 = .ok (.iload_n 2, 1) := by decide +kernel
theorem d_Reader_setRepeat_9 : decode c_Reader_setRepeat 9 = .ok (.iastore, 1) := by decide +kernel
theorem d_Reader_setRepeat_10 : decode c_Reader_setRepeat 10 = .ok (.aload_n 0, 1) := by decide +kernel
theorem d_Reader_setRepeat_11 : decode c_Reader_setRepeat 11 = .ok (.getfield 37, 3) := by decide +kernel
theorem d_Reader_setRepeat_14 : decode c_Reader_setRepeat 14 = .ok (.aload_n 0, 1) := by decide +kernel
theorem d_Reader_setRepeat_15 : decode c_Reader_setRepeat 15 = .ok (.getfield 40, 3) := by decide +kernel
theorem d_Reader_setRepeat_18 : decode c_Reader_setRepeat 18 = .ok (.dup2, 1) := by decide +kernel
theorem d_Reader_setRepeat_19 : decode c_Reader_setRepeat 19 = .ok (.iaload, 1) := by decide +kernel
theorem d_Reader_setRepeat_20 : decode c_Reader_setRepeat 20 = .ok (.iload 4, 2) := by decide +kernel
theorem d_Reader_setRepeat_22 : decode c_Reader_setRepeat 22 = .ok (.iadd, 1) := by decide +kernel
theorem d_Reader_setRepeat_23 : decode c_Reader_setRepeat 23 = .ok (.iastore, 1) := by decide +kernel
theorem d_Reader_setRepeat_24 : decode c_Reader_setRepeat 24 = .ok (.aload_n 0, 1) := by decide +kernel
theorem d_Reader_setRepeat_25 : decode c_Reader_setRepeat 25 = .ok (.dup, 1) := by decide +kernel
theorem d_Reader_setRepeat_26 : decode c_Reader_setRepeat 26 = .ok (.getfield 44, 3) := by decide +kernel
theorem d_Reader_setRepeat_29 : decode c_Reader_setRepeat 29 = .ok (.iload_n 3, 1) := by decide +kernel
theorem d_Reader_setRepeat_30 : decode c_Reader_setRepeat 30 = .ok (.iadd, 1) := by decide +kernel
theorem d_Reader_setRepeat_31 : decode c_Reader_setRepeat 31 = .ok (.putfield 44, 3) := by decide +kernel
theorem d_Reader_setRepeat_34 : decode c_Reader_setRepeat 34 = .ok (.aload_n 0, 1) := by decide +kernel
theorem d_Reader_setRepeat_35 : decode c_Reader_setRepeat 35 = .ok (.iconst 0, 1) := by decide +kernel
theorem d_Reader_setRepeat_36 : decode c_Reader_setRepeat 36 = .ok (.invokevirtual 83, 3) := by decide +kernel
theorem d_Reader_setRepeat_39 : decode c_Reader_setRepeat 39 = .ok (.bipush 63, 2) := by decide +kernel
theorem d_Reader_setRepeat_41 : decode c_Reader_setRepeat 41 = .ok (.if_icmp .ne 26, 3) := by decide +kernel
theorem d_Reader_setRepeat_44 : decode c_Reader_setRepeat 44 = .ok (.aload_n 0, 1) := by decide +kernel
theorem d_Reader_setRepeat_45 : decode c_Reader_setRepeat 45 = .ok (.getfield 23, 3) := by decide +kernel
theorem d_Reader_setRepeat_48 : decode c_Reader_setRepeat 48 = .ok (.getfield 171, 3) := by decide +kernel
theorem d_Reader_setRepeat_51 : decode c_Reader_setRepeat 51 = .ok (.iload_n 1, 1) := by decide +kernel
theorem d_Reader_setRepeat_52 : decode c_Reader_setRepeat 52 = .ok (.iconst 1, 1) := by decide +kernel
theorem d_Reader_setRepeat_53 : decode c_Reader_setRepeat 53 = .ok (.iastore, 1) := by decide +kernel
theorem d_Reader_setRepeat_54 : decode c_Reader_setRepeat 54 = .ok (.aload_n 0, 1) := by decide +kernel
theorem d_Reader_setRepeat_55 : decode c_Reader_setRepeat 55 = .ok (.dup, 1) := by decide +kernel
theorem d_Reader_setRepeat_56 : decode c_Reader_setRepeat 56 = .ok (.getfield 44, 3) := by decide +kernel
theorem d_Reader_setRepeat_59 : decode c_Reader_setRepeat 59 = .ok (.iconst 1, 1) := by decide +kernel
theorem d_Reader_setRepeat_60 : decode c_Reader_setRepeat 60 = .ok (.iadd, 1) := by decide +kernel
theorem d_Reader_setRepeat_61 : decode c_Reader_setRepeat 61 = .ok (.putfield 44, 3) := by decide +kernel
theorem d_Reader_setRepeat_64 : decode c_Reader_setRepeat 64 = .ok (.goto 33, 3) := by decide +kernel
theorem d_Reader_setRepeat_67 : decode c_Reader_setRepeat 67 = .ok (.aload_n 0, 1) := by decide +kernel
theorem d_Reader_setRepeat_68 : decode c_Reader_setRepeat 68 = .ok (.iconst 0, 1) := by decide +kernel
theorem d_Reader_setRepeat_69 : decode c_Reader_setRepeat 69 = .ok (.invokevirtual 83, 3) := by decide +kernel
theorem d_Reader_setRepeat_72 : decode c_Reader_setRepeat 72 = .ok (.bipush 43, 2) := by decide +kernel
theorem d_Reader_setRepeat_74 : decode c_Reader_setRepeat 74 = .ok (.if_icmp .ne 23, 3) := by decide +kernel
theorem d_Reader_setRepeat_77 : decode c_Reader_setRepeat 77 = .ok (.aload_n 0, 1) := by decide +kernel
theorem d_Reader_setRepeat_78 : decode c_Reader_setRepeat 78 = .ok (.getfield 23, 3) := by decide +kernel
theorem d_Reader_setRepeat_81 : decode c_Reader_setRepeat 81 = .ok (.getfield 171, 3) := by decide +kernel
theorem d_Reader_setRepeat_84 : decode c_Reader_setRepeat 84 = .ok (.iload_n 1, 1) := by decide +kernel
theorem d_Reader_setRepeat_85 : decode c_Reader_setRepeat 85 = .ok (.iconst 2, 1) := by decide +kernel
theorem d_Reader_setRepeat_86 : decode c_Reader_setRepeat 86 = .ok (.iastore, 1) := by decide +kernel
theorem d_Reader_setRepeat_87 : decode c_Reader_setRepeat 87 = .ok (.aload_n 0, 1) := by decide +kernel
theorem d_Reader_setRepeat_88 : decode c_Reader_setRepeat 88 = .ok (.dup, 1) := by decide +kernel
theorem d_Reader_setRepeat_89 : decode c_Reader_setRepeat 89 = .ok (.getfield 44, 3) := by decide +kernel
theorem d_Reader_setRepeat_92 : decode c_Reader_setRepeat 92 = .ok (.iconst 1, 1) := by decide +kernel
theorem d_Reader_setRepeat_93 : decode c_Reader_setRepeat 93 = .ok (.iadd, 1) := by decide +kernel
theorem d_Reader_setRepeat_94 : decode c_Reader_setRepeat 94 = .ok (.putfield 44, 3) := by decide +kernel
theorem d_Reader_setRepeat_97 : decode c_Reader_setRepeat 97 = .ok (.return_, 1) := by decide +kernel
theorem d_Text_init_0 : decode c_Text_init 0 = .ok (.aload_n 0, 1) := by decide +kernel
theorem d_Text_init_1 : decode c_Text_init 1 = .ok (.invokespecial 3, 3) := by decide +kernel
theorem d_Text_init_4 : decode c_Text_init 4 = .ok (.aload_n 0, 1) := by decide +kernel
theorem d_Text_init_5 : decode c_Text_init 5 = .ok (.iconst 0, 1) := by decide +kernel
theorem d_Text_init_6 : decode c_Text_init 6 = .ok (.putfield 9, 3) := by decide +kernel
theorem d_Text_init_9 : decode c_Text_init 9 = .ok (.aload_n 0, 1) := by decide +kernel
theorem d_Text_init_10 : decode c_Text_init 10 = .ok (.iload_n 1, 1) := by decide +kernel
theorem d_Text_init_11 : decode c_Text_init 11 = .ok (.newarray .int, 2) := by decide +kernel
theorem d_Text_init_13 : decode c_Text_init 13 = .ok (.putfield 15, 3) := by decide +kernel
theorem d_Text_init_16 : decode c_Text_init 16 = .ok (.return_, 1) := by decide +kernel
theorem d_Text_isFull_0 : decode c_Text_isFull 0 = .ok (.aload_n 0, 1) := by decide +kernel
theorem d_Text_isFull_1 : decode c_Text_isFull 1 = .ok (.getfield 9, 3) := by decide +kernel
theorem d_Text_isFull_4 : decode c_Text_isFull 4 = .ok (.aload_n 0, 1) := by decide +kernel
theorem d_Text_isFull_5 : decode c_Text_isFull 5 = .ok (.getfield 15, 3) := by decide +kernel
theorem d_Text_isFull_8 : decode c_Text_isFull 8 = .ok (.arraylength, 1) := by decide +kernel
theorem d_Text_isFull_9 : decode c_Text_isFull 9 = .ok (.if_icmp .lt 7, 3) := by decide +kernel
theorem d_Text_isFull_12 : decode c_Text_isFull 12 = .ok (.iconst 1, 1) := by decide +kernel
theorem d_Text_isFull_13 : decode c_Text_isFull 13 = .ok (.goto 4, 3) := by decide +kernel
theorem d_Text_isFull_16 : decode c_Text_isFull 16 = .ok (.iconst 0, 1) := by decide +kernel
theorem d_Text_isFull_17 : decode c_Text_isFull 17 = .ok (.ireturn, 1) := by decide +kernel
theorem d_Text_add_0 : decode c_Text_add 0 = .ok (.aload_n 0, 1) := by decide +kernel
theorem d_Text_add_1 : decode c_Text_add 1 = .ok (.invokevirtual 19, 3) := by decide +kernel
theorem d_Text_add_4 : decode c_Text_add 4 = .ok (.ifCond .ne 23, 3) := by decide +kernel
theorem d_Text_add_7 : decode c_Text_add 7 = .ok (.aload_n 0, 1) := by decide +kernel
theorem d_Text_add_8 : decode c_Text_add 8 = .ok (.getfield 15, 3) := by decide +kernel
theorem d_Text_add_11 : decode c_Text_add 11 = .ok (.aload_n 0, 1) := by decide +kernel
theorem d_Text_add_12 : decode c_Text_add 12 = .ok (.getfield 9, 3) := by decide +kernel
theorem d_Text_add_15 : decode c_Text_add 15 = .ok (.iload_n 1, 1) := by decide +kernel
theorem d_Text_add_16 : decode c_Text_add 16 = .ok (.iastore, 1) := by decide +kernel
theorem d_Text_add_17 : decode c_Text_add 17 = .ok (.aload_n 0, 1) := by decide +kernel
theorem d_Text_add_18 : decode c_Text_add 18 = .ok (.dup, 1) := by decide +kernel
theorem d_Text_add_19 : decode c_Text_add 19 = .ok (.getfield 9, 3) := by decide +kernel
theorem d_Text_add_22 : decode c_Text_add 22 = .ok (.iconst 1, 1) := by decide +kernel
theorem d_Text_add_23 : decode c_Text_add 23 = .ok (.iadd, 1) := by decide +kernel
theorem d_Text_add_24 : decode c_Text_add 24 = .ok (.putfield 9, 3) := by decide +kernel
theorem d_Text_add_27 : decode c_Text_add 27 = .ok (.aload_n 0, 1) := by decide +kernel
theorem d_Text_add_28 : decode c_Text_add 28 = .ok (.getfield 9, 3) := by decide +kernel
theorem d_Text_add_31 : decode c_Text_add 31 = .ok (.ireturn, 1) := by decide +kernel
theorem d_Text_codeAt_0 : decode c_Text_codeAt 0 = .ok (.iload_n 1, 1) := by decide +kernel
theorem d_Text_codeAt_1 : decode c_Text_codeAt 1 = .ok (.ifCond .lt 20, 3) := by decide +kernel
theorem d_Text_codeAt_4 : decode c_Text_codeAt 4 = .ok (.iload_n 1, 1) := by decide +kernel
theorem d_Text_codeAt_5 : decode c_Text_codeAt 5 = .ok (.aload_n 0, 1) := by decide +kernel
theorem d_Text_codeAt_6 : decode c_Text_codeAt 6 = .ok (.getfield 9, 3) := by decide +kernel
theorem d_Text_codeAt_9 : decode c_Text_codeAt 9 = .ok (.if_icmp .ge 12, 3) := by decide +kernel
theorem d_Text_codeAt_12 : decode c_Text_codeAt 12 = .ok (.aload_n 0, 1) := by decide +kernel
theorem d_Text_codeAt_13 : decode c_Text_codeAt 13 = .ok (.getfield 15, 3) := by decide +kernel
theorem d_Text_codeAt_16 : decode c_Text_codeAt 16 = .ok (.iload_n 1, 1) := by decide +kernel
theorem d_Text_codeAt_17 : decode c_Text_codeAt 17 = .ok (.iaload, 1) := by decide +kernel
theorem d_Text_codeAt_18 : decode c_Text_codeAt 18 = .ok (.goto 4, 3) := by decide +kernel
theorem d_Text_codeAt_21 : decode c_Text_codeAt 21 = .ok (.iconst (-1), 1) := by decide +kernel
theorem d_Text_codeAt_22 : decode c_Text_codeAt 22 = .ok (.ireturn, 1) := by decide +kernel
