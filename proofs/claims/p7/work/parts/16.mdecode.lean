theorem d_Model_init_0 : decode c_Model_init 0 = .ok (.aload_n 0, 1) := by decide +kernel
theorem d_Model_init_1 : decode c_Model_init 1 = .ok (.invokespecial 1, 3) := by decide +kernel
theorem d_Model_init_4 : decode c_Model_init 4 = .ok (.aload_n 0, 1) := by decide +kernel
theorem d_Model_init_5 : decode c_Model_init 5 = .ok (.bipush 32, 2) := by decide +kernel
theorem d_Model_init_7 : decode c_Model_init 7 = .ok (.newarray .int, 2) := by decide +kernel
theorem d_Model_init_9 : decode c_Model_init 9 = .ok (.putfield 7, 3) := by decide +kernel
theorem d_Model_init_12 : decode c_Model_init 12 = .ok (.aload_n 0, 1) := by decide +kernel
theorem d_Model_init_13 : decode c_Model_init 13 = .ok (.bipush 32, 2) := by decide +kernel
theorem d_Model_init_15 : decode c_Model_init 15 = .ok (.newarray .int, 2) := by decide +kernel
theorem d_Model_init_17 : decode c_Model_init 17 = .ok (.putfield 13, 3) := by decide +kernel
theorem d_Model_init_20 : decode c_Model_init 20 = .ok (.aload_n 0, 1) := by decide +kernel
theorem d_Model_init_21 : decode c_Model_init 21 = .ok (.bipush 40, 2) := by decide +kernel
theorem d_Model_init_23 : decode c_Model_init 23 = .ok (.newarray .int, 2) := by decide +kernel
theorem d_Model_init_25 : decode c_Model_init 25 = .ok (.putfield 16, 3) := by decide +kernel
theorem d_Model_init_28 : decode c_Model_init 28 = .ok (.aload_n 0, 1) := by decide +kernel
theorem d_Model_init_29 : decode c_Model_init 29 = .ok (.bipush 8, 2) := by decide +kernel
theorem d_Model_init_31 : decode c_Model_init 31 = .ok (.newarray .int, 2) := by decide +kernel
theorem d_Model_init_33 : decode c_Model_init 33 = .ok (.putfield 19, 3) := by decide +kernel
theorem d_Model_init_36 : decode c_Model_init 36 = .ok (.aload_n 0, 1) := by decide +kernel
theorem d_Model_init_37 : decode c_Model_init 37 = .ok (.sipush 7000, 3) := by decide +kernel
theorem d_Model_init_40 : decode c_Model_init 40 = .ok (.newarray .long, 2) := by decide +kernel
theorem d_Model_init_42 : decode c_Model_init 42 = .ok (.putfield 22, 3) := by decide +kernel
theorem d_Model_init_45 : decode c_Model_init 45 = .ok (.aload_n 0, 1) := by decide +kernel
theorem d_Model_init_46 : decode c_Model_init 46 = .ok (.sipush 301, 3) := by decide +kernel
theorem d_Model_init_49 : decode c_Model_init 49 = .ok (.newarray .long, 2) := by decide +kernel
theorem d_Model_init_51 : decode c_Model_init 51 = .ok (.putfield 26, 3) := by decide +kernel
theorem d_Model_init_54 : decode c_Model_init 54 = .ok (.aload_n 0, 1) := by decide +kernel
theorem d_Model_init_55 : decode c_Model_init 55 = .ok (.sipush 4000, 3) := by decide +kernel
theorem d_Model_init_58 : decode c_Model_init 58 = .ok (.newarray .long, 2) := by decide +kernel
theorem d_Model_init_60 : decode c_Model_init 60 = .ok (.putfield 29, 3) := by decide +kernel
theorem d_Model_init_63 : decode c_Model_init 63 = .ok (.aload_n 0, 1) := by decide +kernel
theorem d_Model_init_64 : decode c_Model_init 64 = .ok (.sipush 4000, 3) := by decide +kernel
theorem d_Model_init_67 : decode c_Model_init 67 = .ok (.newarray .long, 2) := by decide +kernel
theorem d_Model_init_69 : decode c_Model_init 69 = .ok (.putfield 32, 3) := by decide +kernel
theorem d_Model_init_72 : decode c_Model_init 72 = .ok (.aload_n 0, 1) := by decide +kernel
theorem d_Model_init_73 : decode c_Model_init 73 = .ok (.iload_n 1, 1) := by decide +kernel
theorem d_Model_init_74 : decode c_Model_init 74 = .ok (.bipush 20, 2) := by decide +kernel
theorem d_Model_init_76 : decode c_Model_init 76 = .ok (.if_icmp .ge 8, 3) := by decide +kernel
theorem d_Model_init_79 : decode c_Model_init 79 = .ok (.bipush 20, 2) := by decide +kernel
theorem d_Model_init_81 : decode c_Model_init 81 = .ok (.goto 17, 3) := by decide +kernel
theorem d_Model_init_84 : decode c_Model_init 84 = .ok (.iload_n 1, 1) := by decide +kernel
theorem d_Model_init_85 : decode c_Model_init 85 = .ok (.sipush 300, 3) := by decide +kernel
theorem d_Model_init_88 : decode c_Model_init 88 = .ok (.if_icmp .le 9, 3) := by decide +kernel
theorem d_Model_init_91 : decode c_Model_init 91 = .ok (.sipush 300, 3) := by decide +kernel
theorem d_Model_init_94 : decode c_Model_init 94 = .ok (.goto 4, 3) := by decide +kernel
theorem d_Model_init_97 : decode c_Model_init 97 = .ok (.iload_n 1, 1) := by decide +kernel
theorem d_Model_init_98 : decode c_Model_init 98 = .ok (.putfield 35, 3) := by decide +kernel
theorem d_Model_init_101 : decode c_Model_init 101 = .ok (.return_, 1) := by decide +kernel
theorem d_Model_in_0 : decode c_Model_in 0 = .ok (.iload_n 0, 1) := by decide +kernel
theorem d_Model_in_1 : decode c_Model_in 1 = .ok (.iload_n 1, 1) := by decide +kernel
theorem d_Model_in_2 : decode c_Model_in 2 = .ok (.if_icmp .lt 12, 3) := by decide +kernel
theorem d_Model_in_5 : decode c_Model_in 5 = .ok (.iload_n 0, 1) := by decide +kernel
theorem d_Model_in_6 : decode c_Model_in 6 = .ok (.iload_n 2, 1) := by decide +kernel
theorem d_Model_in_7 : decode c_Model_in 7 = .ok (.if_icmp .gt 7, 3) := by decide +kernel
theorem d_Model_in_10 : decode c_Model_in 10 = .ok (.iconst 1, 1) := by decide +kernel
theorem d_Model_in_11 : decode c_Model_in 11 = .ok (.goto 4, 3) := by decide +kernel
theorem d_Model_in_14 : decode c_Model_in 14 = .ok (.iconst 0, 1) := by decide +kernel
theorem d_Model_in_15 : decode c_Model_in 15 = .ok (.ireturn, 1) := by decide +kernel
theorem d_Model_letter_0 : decode c_Model_letter 0 = .ok (.iload_n 0, 1) := by decide +kernel
theorem d_Model_letter_1 : decode c_Model_letter 1 = .ok (.bipush 97, 2) := by decide +kernel
theorem d_Model_letter_3 : decode c_Model_letter 3 = .ok (.bipush 122, 2) := by decide +kernel
theorem d_Model_letter_5 : decode c_Model_letter 5 = .ok (.invokestatic 39, 3) := by decide +kernel
theorem d_Model_letter_8 : decode c_Model_letter 8 = .ok (.ireturn, 1) := by decide +kernel
theorem d_Model_sign_0 : decode c_Model_sign 0 = .ok (.iload_n 0, 1) := by decide +kernel
theorem d_Model_sign_1 : decode c_Model_sign 1 = .ok (.bipush 40, 2) := by decide +kernel
theorem d_Model_sign_3 : decode c_Model_sign 3 = .ok (.bipush 43, 2) := by decide +kernel
theorem d_Model_sign_5 : decode c_Model_sign 5 = .ok (.invokestatic 39, 3) := by decide +kernel
theorem d_Model_sign_8 : decode c_Model_sign 8 = .ok (.ifCond .ne 32, 3) := by decide +kernel
theorem d_Model_sign_11 : decode c_Model_sign 11 = .ok (.iload_n 0, 1) := by decide +kernel
theorem d_Model_sign_12 : decode c_Model_sign 12 = .ok (.bipush 45, 2) := by decide +kernel
theorem d_Model_sign_14 : decode c_Model_sign 14 = .ok (.if_icmp .eq 26, 3) := by decide +kernel
theorem d_Model_sign_17 : decode c_Model_sign 17 = .ok (.iload_n 0, 1) := by decide +kernel
theorem d_Model_sign_18 : decode c_Model_sign 18 = .ok (.bipush 46, 2) := by decide +kernel
theorem d_Model_sign_20 : decode c_Model_sign 20 = .ok (.if_icmp .eq 20, 3) := by decide +kernel
theorem d_Model_sign_23 : decode c_Model_sign 23 = .ok (.iload_n 0, 1) := by decide +kernel
theorem d_Model_sign_24 : decode c_Model_sign 24 = .ok (.bipush 58, 2) := by decide +kernel
theorem d_Model_sign_26 : decode c_Model_sign 26 = .ok (.if_icmp .eq 14, 3) := by decide +kernel
theorem d_Model_sign_29 : decode c_Model_sign 29 = .ok (.iload_n 0, 1) := by decide +kernel
theorem d_Model_sign_30 : decode c_Model_sign 30 = .ok (.bipush 61, 2) := by decide +kernel
theorem d_Model_sign_32 : decode c_Model_sign 32 = .ok (.bipush 63, 2) := by decide +kernel
theorem d_Model_sign_34 : decode c_Model_sign 34 = .ok (.invokestatic 39, 3) := by decide +kernel
theorem d_Model_sign_37 : decode c_Model_sign 37 = .ok (.ifCond .eq 5, 3) := by decide +kernel
theorem d_Model_sign_40 : decode c_Model_sign 40 = .ok (.iconst 1, 1) := by decide +kernel
theorem d_Model_sign_41 : decode c_Model_sign 41 = .ok (.ireturn, 1) := by decide +kernel
theorem d_Model_sign_42 : decode c_Model_sign 42 = .ok (.iload_n 0, 1) := by decide +kernel
theorem d_Model_sign_43 : decode c_Model_sign 43 = .ok (.bipush 33, 2) := by decide +kernel
theorem d_Model_sign_45 : decode c_Model_sign 45 = .ok (.if_icmp .eq 31, 3) := by decide +kernel
theorem d_Model_sign_48 : decode c_Model_sign 48 = .ok (.iload_n 0, 1) := by decide +kernel
theorem d_Model_sign_49 : decode c_Model_sign 49 = .ok (.bipush 36, 2) := by decide +kernel
theorem d_Model_sign_51 : decode c_Model_sign 51 = .ok (.if_icmp .eq 25, 3) := by decide +kernel
theorem d_Model_sign_54 : decode c_Model_sign 54 = .ok (.iload_n 0, 1) := by decide +kernel
theorem d_Model_sign_55 : decode c_Model_sign 55 = .ok (.bipush 91, 2) := by decide +kernel
theorem d_Model_sign_57 : decode c_Model_sign 57 = .ok (.bipush 94, 2) := by decide +kernel
theorem d_Model_sign_59 : decode c_Model_sign 59 = .ok (.invokestatic 39, 3) := by decide +kernel
theorem d_Model_sign_62 : decode c_Model_sign 62 = .ok (.ifCond .ne 14, 3) := by decide +kernel
theorem d_Model_sign_65 : decode c_Model_sign 65 = .ok (.iload_n 0, 1) := by decide +kernel
theorem d_Model_sign_66 : decode c_Model_sign 66 = .ok (.bipush 123, 2) := by decide +kernel
theorem d_Model_sign_68 : decode c_Model_sign 68 = .ok (.bipush 125, 2) := by decide +kernel
theorem d_Model_sign_70 : decode c_Model_sign 70 = .ok (.invokestatic 39, 3) := by decide +kernel
theorem d_Model_sign_73 : decode c_Model_sign 73 = .ok (.ifCond .eq 7, 3) := by decide +kernel
theorem d_Model_sign_76 : decode c_Model_sign 76 = .ok (.iconst 1, 1) := by decide +kernel
theorem d_Model_sign_77 : decode c_Model_sign 77 = .ok (.goto 4, 3) := by decide +kernel
theorem d_Model_sign_80 : decode c_Model_sign 80 = .ok (.iconst 0, 1) := by decide +kernel
theorem d_Model_sign_81 : decode c_Model_sign 81 = .ok (.ireturn, 1) := by decide +kernel
theorem d_Model_write_0 : decode c_Model_write 0 = .ok (.iload_n 1, 1) := by decide +kernel
theorem d_Model_write_1 : decode c_Model_write 1 = .ok (.invokestatic 43, 3) := by decide +kernel
theorem d_Model_write_4 : decode c_Model_write 4 = .ok (.ifCond .ne 23, 3) := by decide +kernel
theorem d_Model_write_7 : decode c_Model_write 7 = .ok (.iload_n 1, 1) := by decide +kernel
theorem d_Model_write_8 : decode c_Model_write 8 = .ok (.bipush 48, 2) := by decide +kernel
theorem d_Model_write_10 : decode c_Model_write 10 = .ok (.bipush 57, 2) := by decide +kernel
theorem d_Model_write_12 : decode c_Model_write 12 = .ok (.invokestatic 39, 3) := by decide +kernel
theorem d_Model_write_15 : decode c_Model_write 15 = .ok (.ifCond .ne 12, 3) := by decide +kernel
theorem d_Model_write_18 : decode c_Model_write 18 = .ok (.iload_n 1, 1) := by decide +kernel
theorem d_Model_write_19 : decode c_Model_write 19 = .ok (.invokestatic 47, 3) := by decide +kernel
theorem d_Model_write_22 : decode c_Model_write 22 = .ok (.ifCond .ne 5, 3) := by decide +kernel
theorem d_Model_write_25 : decode c_Model_write 25 = .ok (.iconst (-1), 1) := by decide +kernel
theorem d_Model_write_26 : decode c_Model_write 26 = .ok (.ireturn, 1) := by decide +kernel
theorem d_Model_write_27 : decode c_Model_write 27 = .ok (.aload_n 0, 1) := by decide +kernel
theorem d_Model_write_28 : decode c_Model_write 28 = .ok (.getfield 50, 3) := by decide +kernel
theorem d_Model_write_31 : decode c_Model_write 31 = .ok (.bipush 32, 2) := by decide +kernel
theorem d_Model_write_33 : decode c_Model_write 33 = .ok (.if_icmp .ne 6, 3) := by decide +kernel
theorem d_Model_write_36 : decode c_Model_write 36 = .ok (.bipush (-2), 2) := by decide +kernel
theorem d_Model_write_38 : decode c_Model_write 38 = .ok (.ireturn, 1) := by decide +kernel
theorem d_Model_write_39 : decode c_Model_write 39 = .ok (.aload_n 0, 1) := by decide +kernel
theorem d_Model_write_40 : decode c_Model_write 40 = .ok (.getfield 7, 3) := by decide +kernel
theorem d_Model_write_43 : decode c_Model_write 43 = .ok (.aload_n 0, 1) := by decide +kernel
theorem d_Model_write_44 : decode c_Model_write 44 = .ok (.getfield 50, 3) := by decide +kernel
theorem d_Model_write_47 : decode c_Model_write 47 = .ok (.iload_n 1, 1) := by decide +kernel
theorem d_Model_write_48 : decode c_Model_write 48 = .ok (.iastore, 1) := by decide +kernel
theorem d_Model_write_49 : decode c_Model_write 49 = .ok (.aload_n 0, 1) := by decide +kernel
theorem d_Model_write_50 : decode c_Model_write 50 = .ok (.dup, 1) := by decide +kernel
theorem d_Model_write_51 : decode c_Model_write 51 = .ok (.getfield 50, 3) := by decide +kernel
theorem d_Model_write_54 : decode c_Model_write 54 = .ok (.iconst 1, 1) := by decide +kernel
theorem d_Model_write_55 : decode c_Model_write 55 = .ok (.iadd, 1) := by decide +kernel
theorem d_Model_write_56 : decode c_Model_write 56 = .ok (.putfield 50, 3) := by decide +kernel
theorem d_Model_write_59 : decode c_Model_write 59 = .ok (.aload_n 0, 1) := by decide +kernel
theorem d_Model_write_60 : decode c_Model_write 60 = .ok (.getfield 50, 3) := by decide +kernel
theorem d_Model_write_63 : decode c_Model_write 63 = .ok (.ireturn, 1) := by decide +kernel
theorem d_Model_c_0 : decode c_Model_c 0 = .ok (.iload_n 1, 1) := by decide +kernel
theorem d_Model_c_1 : decode c_Model_c 1 = .ok (.aload_n 0, 1) := by decide +kernel
theorem d_Model_c_2 : decode c_Model_c 2 = .ok (.getfield 50, 3) := by decide +kernel
theorem d_Model_c_5 : decode c_Model_c 5 = .ok (.if_icmp .ge 12, 3) := by decide +kernel
theorem d_Model_c_8 : decode c_Model_c 8 = .ok (.aload_n 0, 1) := by decide +kernel
theorem d_Model_c_9 : decode c_Model_c 9 = .ok (.getfield 7, 3) := by decide +kernel
theorem d_Model_c_12 : decode c_Model_c 12 = .ok (.iload_n 1, 1) := by decide +kernel
theorem d_Model_c_13 : decode c_Model_c 13 = .ok (.iaload, 1) := by decide +kernel
theorem d_Model_c_14 : decode c_Model_c 14 = .ok (.goto 4, 3) := by decide +kernel
theorem d_Model_c_17 : decode c_Model_c 17 = .ok (.iconst 0, 1) := by decide +kernel
theorem d_Model_c_18 : decode c_Model_c 18 = .ok (.ireturn, 1) := by decide +kernel
theorem d_Model_behindClass_0 : decode c_Model_behindClass 0 = .ok (.aload_n 0, 1) := by decide +kernel
theorem d_Model_behindClass_1 : decode c_Model_behindClass 1 = .ok (.iload_n 1, 1) := by decide +kernel
theorem d_Model_behindClass_2 : decode c_Model_behindClass 2 = .ok (.iconst 1, 1) := by decide +kernel
theorem d_Model_behindClass_3 : decode c_Model_behindClass 3 = .ok (.iadd, 1) := by decide +kernel
theorem d_Model_behindClass_4 : decode c_Model_behindClass 4 = .ok (.invokevirtual 53, 3) := by decide +kernel
theorem d_Model_behindClass_7 : decode c_Model_behindClass 7 = .ok (.bipush 94, 2) := by decide +kernel
theorem d_Model_behindClass_9 : decode c_Model_behindClass 9 = .ok (.if_icmp .ne 9, 3) := by decide +kernel
theorem d_Model_behindClass_12 : decode c_Model_behindClass 12 = .ok (.iload_n 1, 1) := by decide +kernel
theorem d_Model_behindClass_13 : decode c_Model_behindClass 13 = .ok (.iconst 2, 1) := by decide +kernel
theorem d_Model_behindClass_14 : decode c_Model_behindClass 14 = .ok (.iadd, 1) := by decide +kernel
theorem d_Model_behindClass_15 : decode c_Model_behindClass 15 = .ok (.goto 6, 3) := by decide +kernel
theorem d_Model_behindClass_18 : decode c_Model_behindClass 18 = .ok (.iload_n 1, 1) := by decide +kernel
theorem d_Model_behindClass_19 : decode c_Model_behindClass 19 = .ok (.iconst 1, 1) := by decide +kernel
theorem d_Model_behindClass_20 : decode c_Model_behindClass 20 = .ok (.iadd, 1) := by decide +kernel
theorem d_Model_behindClass_21 : decode c_Model_behindClass 21 = .ok (.istore_n 2, 1) := by decide +kernel
theorem d_Model_behindClass_22 : decode c_Model_behindClass 22 = .ok (.iconst 0, 1) := by decide +kernel
theorem d_Model_behindClass_23 : decode c_Model_behindClass 23 = .ok (.istore_n 3, 1) := by decide +kernel
theorem d_Model_behindClass_24 : decode c_Model_behindClass 24 = .ok (.aload_n 0, 1) := by decide +kernel
theorem d_Model_behindClass_25 : decode c_Model_behindClass 25 = .ok (.iload_n 2, 1) := by decide +kernel
theorem d_Model_behindClass_26 : decode c_Model_behindClass 26 = .ok (.invokevirtual 53, 3) := by decide +kernel
theorem d_Model_behindClass_29 : decode c_Model_behindClass 29 = .ok (.invokestatic 43, 3) := by decide +kernel
theorem d_Model_behindClass_32 : decode c_Model_behindClass 32 = .ok (.ifCond .eq 76, 3) := by decide +kernel
theorem d_Model_behindClass_35 : decode c_Model_behindClass 35 = .ok (.aload_n 0, 1) := by decide +kernel
theorem d_Model_behindClass_36 : decode c_Model_behindClass 36 = .ok (.iload_n 2, 1) := by decide +kernel
theorem d_Model_behindClass_37 : decode c_Model_behindClass 37 = .ok (.iconst 1, 1) := by decide +kernel
theorem d_Model_behindClass_38 : decode c_Model_behindClass 38 = .ok (.iadd, 1) := by decide +kernel
theorem d_Model_behindClass_39 : decode c_Model_behindClass 39 = .ok (.invokevirtual 53, 3) := by decide +kernel
theorem d_Model_behindClass_42 : decode c_Model_behindClass 42 = .ok (.bipush 45, 2) := by decide +kernel
theorem d_Model_behindClass_44 : decode c_Model_behindClass 44 = .ok (.if_icmp .ne 7, 3) := by decide +kernel
theorem d_Model_behindClass_47 : decode c_Model_behindClass 47 = .ok (.iconst 1, 1) := by decide +kernel
theorem d_Model_behindClass_48 : decode c_Model_behindClass 48 = .ok (.goto 4, 3) := by decide +kernel
theorem d_Model_behindClass_51 : decode c_Model_behindClass 51 = .ok (.iconst 0, 1) := by decide +kernel
theorem d_Model_behindClass_52 : decode c_Model_behindClass 52 = .ok (.istore 4, 2) := by decide +kernel
theorem d_Model_behindClass_54 : decode c_Model_behindClass 54 = .ok (.iload 4, 2) := by decide +kernel
theorem d_Model_behindClass_56 : decode c_Model_behindClass 56 = .ok (.ifCond .eq 33, 3) := by decide +kernel
theorem d_Model_behindClass_59 : decode c_Model_behindClass 59 = .ok (.aload_n 0, 1) := by decide +kernel
theorem d_Model_behindClass_60 : decode c_Model_behindClass 60 = .ok (.iload_n 2, 1) := by decide +kernel
theorem d_Model_behindClass_61 : decode c_Model_behindClass 61 = .ok (.iconst 2, 1) := by decide +kernel
theorem d_Model_behindClass_62 : decode c_Model_behindClass 62 = .ok (.iadd, 1) := by decide +kernel
theorem d_Model_behindClass_63 : decode c_Model_behindClass 63 = .ok (.invokevirtual 53, 3) := by decide +kernel
theorem d_Model_behindClass_66 : decode c_Model_behindClass 66 = .ok (.invokestatic 43, 3) := by decide +kernel
theorem d_Model_behindClass_69 : decode c_Model_behindClass 69 = .ok (.ifCond .eq 18, 3) := by decide +kernel
theorem d_Model_behindClass_72 : decode c_Model_behindClass 72 = .ok (.aload_n 0, 1) := by decide +kernel
theorem d_Model_behindClass_73 : decode c_Model_behindClass 73 = .ok (.iload_n 2, 1) := by decide +kernel
theorem d_Model_behindClass_74 : decode c_Model_behindClass 74 = .ok (.iconst 2, 1) := by decide +kernel
theorem d_Model_behindClass_75 : decode c_Model_behindClass 75 = .ok (.iadd, 1) := by decide +kernel
theorem d_Model_behindClass_76 : decode c_Model_behindClass 76 = .ok (.invokevirtual 53, 3) := by decide +kernel
theorem d_Model_behindClass_79 : decode c_Model_behindClass 79 = .ok (.aload_n 0, 1) := by decide +kernel
theorem d_Model_behindClass_80 : decode c_Model_behindClass 80 = .ok (.iload_n 2, 1) := by decide +kernel
theorem d_Model_behindClass_81 : decode c_Model_behindClass 81 = .ok (.invokevirtual 53, 3) := by decide +kernel
theorem d_Model_behindClass_84 : decode c_Model_behindClass 84 = .ok (.if_icmp .ge 5, 3) := by decide +kernel
theorem d_Model_behindClass_87 : decode c_Model_behindClass 87 = .ok (.iconst (-1), 1) := by decide +kernel
theorem d_Model_behindClass_88 : decode c_Model_behindClass 88 = .ok (.ireturn, 1) := by decide +kernel
theorem d_Model_behindClass_89 : decode c_Model_behindClass 89 = .ok (.iload_n 2, 1) := by decide +kernel
theorem d_Model_behindClass_90 : decode c_Model_behindClass 90 = .ok (.iload 4, 2) := by decide +kernel
theorem d_Model_behindClass_92 : decode c_Model_behindClass 92 = .ok (.ifCond .eq 7, 3) := by decide +kernel
theorem d_Model_behindClass_95 : decode c_Model_behindClass 95 = .ok (.iconst 3, 1) := by decide +kernel
theorem d_Model_behindClass_96 : decode c_Model_behindClass 96 = .ok (.goto 4, 3) := by decide +kernel
theorem d_Model_behindClass_99 : decode c_Model_behindClass 99 = .ok (.iconst 1, 1) := by decide +kernel
theorem d_Model_behindClass_100 : decode c_Model_behindClass 100 = .ok (.iadd, 1) := by decide +kernel
theorem d_Model_behindClass_101 : decode c_Model_behindClass 101 = .ok (.istore_n 2, 1) := by decide +kernel
theorem d_Model_behindClass_102 : decode c_Model_behindClass 102 = .ok (.iinc 3 1, 3) := by decide +kernel
theorem d_Model_behindClass_105 : decode c_Model_behindClass 105 = .ok (.goto (-81), 3) := by decide +kernel
theorem d_Model_behindClass_108 : decode c_Model_behindClass 108 = .ok (.iload_n 3, 1) := by decide +kernel
theorem d_Model_behindClass_109 : decode c_Model_behindClass 109 = .ok (.ifCond .le 19, 3) := by decide +kernel
theorem d_Model_behindClass_112 : decode c_Model_behindClass 112 = .ok (.aload_n 0, 1) := by decide +kernel
theorem d_Model_behindClass_113 : decode c_Model_behindClass 113 = .ok (.iload_n 2, 1) := by decide +kernel
theorem d_Model_behindClass_114 : decode c_Model_behindClass 114 = .ok (.invokevirtual 53, 3) := by decide +kernel
theorem d_Model_behindClass_117 : decode c_Model_behindClass 117 = .ok (.bipush 93, 2) := by decide +kernel
theorem d_Model_behindClass_119 : decode c_Model_behindClass 119 = .ok (.if_icmp .ne 9, 3) := by decide +kernel
theorem d_Model_behindClass_122 : decode c_Model_behindClass 122 = .ok (.iload_n 2, 1) := by decide +kernel
theorem d_Model_behindClass_123 : decode c_Model_behindClass 123 = .ok (.iconst 1, 1) := by decide +kernel
theorem d_Model_behindClass_124 : decode c_Model_behindClass 124 = .ok (.iadd, 1) := by decide +kernel
theorem d_Model_behindClass_125 : decode c_Model_behindClass 125 = .ok (.goto 4, 3) := by decide +kernel
theorem d_Model_behindClass_128 : decode c_Model_behindClass 128 = .ok (.iconst (-1), 1) := by decide +kernel
theorem d_Model_behindClass_129 : decode c_Model_behindClass 129 = .ok (.ireturn, 1) := by decide +kernel
theorem d_Model_opener_0 : decode c_Model_opener 0 = .ok (.aload_n 0, 1) := by decide +kernel
theorem d_Model_opener_1 : decode c_Model_opener 1 = .ok (.iload_n 1, 1) := by decide +kernel
theorem d_Model_opener_2 : decode c_Model_opener 2 = .ok (.invokevirtual 53, 3) := by decide +kernel
theorem d_Model_opener_5 : decode c_Model_opener 5 = .ok (.bipush 40, 2) := by decide +kernel
theorem d_Model_opener_7 : decode c_Model_opener 7 = .ok (.if_icmp .eq 5, 3) := by decide +kernel
theorem d_Model_opener_10 : decode c_Model_opener 10 = .ok (.iconst 0, 1) := by decide +kernel
theorem d_Model_opener_11 : decode c_Model_opener 11 = .ok (.ireturn, 1) := by decide +kernel
theorem d_Model_opener_12 : decode c_Model_opener 12 = .ok (.aload_n 0, 1) := by decide +kernel
theorem d_Model_opener_13 : decode c_Model_opener 13 = .ok (.iload_n 1, 1) := by decide +kernel
theorem d_Model_opener_14 : decode c_Model_opener 14 = .ok (.iconst 1, 1) := by decide +kernel
theorem d_Model_opener_15 : decode c_Model_opener 15 = .ok (.iadd, 1) := by decide +kernel
theorem d_Model_opener_16 : decode c_Model_opener 16 = .ok (.invokevirtual 53, 3) := by decide +kernel
theorem d_Model_opener_19 : decode c_Model_opener 19 = .ok (.bipush 63, 2) := by decide +kernel
theorem d_Model_opener_21 : decode c_Model_opener 21 = .ok (.if_icmp .eq 5, 3) := by decide +kernel
theorem d_Model_opener_24 : decode c_Model_opener 24 = .ok (.iconst 1, 1) := by decide +kernel
theorem d_Model_opener_25 : decode c_Model_opener 25 = .ok (.ireturn, 1) := by decide +kernel
theorem d_Model_opener_26 : decode c_Model_opener 26 = .ok (.aload_n 0, 1) := by decide +kernel
theorem d_Model_opener_27 : decode c_Model_opener 27 = .ok (.iload_n 1, 1) := by decide +kernel
theorem d_Model_opener_28 : decode c_Model_opener 28 = .ok (.iconst 2, 1) := by decide +kernel
theorem d_Model_opener_29 : decode c_Model_opener 29 = .ok (.iadd, 1) := by decide +kernel
theorem d_Model_opener_30 : decode c_Model_opener 30 = .ok (.invokevirtual 53, 3) := by decide +kernel
theorem d_Model_opener_33 : decode c_Model_opener 33 = .ok (.istore_n 2, 1) := by decide +kernel
theorem d_Model_opener_34 : decode c_Model_opener 34 = .ok (.iload_n 2, 1) := by decide +kernel
theorem d_Model_opener_35 : decode c_Model_opener 35 = .ok (.bipush 58, 2) := by decide +kernel
theorem d_Model_opener_37 : decode c_Model_opener 37 = .ok (.if_icmp .eq 21, 3) := by decide +kernel
theorem d_Model_opener_40 : decode c_Model_opener 40 = .ok (.iload_n 2, 1) := by decide +kernel
theorem d_Model_opener_41 : decode c_Model_opener 41 = .ok (.bipush 61, 2) := by decide +kernel
theorem d_Model_opener_43 : decode c_Model_opener 43 = .ok (.if_icmp .eq 15, 3) := by decide +kernel
theorem d_Model_opener_46 : decode c_Model_opener 46 = .ok (.iload_n 2, 1) := by decide +kernel
theorem d_Model_opener_47 : decode c_Model_opener 47 = .ok (.bipush 33, 2) := by decide +kernel
theorem d_Model_opener_49 : decode c_Model_opener 49 = .ok (.if_icmp .eq 9, 3) := by decide +kernel
theorem d_Model_opener_52 : decode c_Model_opener 52 = .ok (.iload_n 2, 1) := by decide +kernel
theorem d_Model_opener_53 : decode c_Model_opener 53 = .ok (.bipush 62, 2) := by decide +kernel
theorem d_Model_opener_55 : decode c_Model_opener 55 = .ok (.if_icmp .ne 7, 3) := by decide +kernel
theorem d_Model_opener_58 : decode c_Model_opener 58 = .ok (.iconst 3, 1) := by decide +kernel
theorem d_Model_opener_59 : decode c_Model_opener 59 = .ok (.goto 4, 3) := by decide +kernel
theorem d_Model_opener_62 : decode c_Model_opener 62 = .ok (.iconst 0, 1) := by decide +kernel
theorem d_Model_opener_63 : decode c_Model_opener 63 = .ok (.ireturn, 1) := by decide +kernel
theorem d_Model_behindPlain_0 : decode c_Model_behindPlain 0 = .ok (.aload_n 0, 1) := by decide +kernel
theorem d_Model_behindPlain_1 : decode c_Model_behindPlain 1 = .ok (.iload_n 1, 1) := by decide +kernel
theorem d_Model_behindPlain_2 : decode c_Model_behindPlain 2 = .ok (.invokevirtual 53, 3) := by decide +kernel
theorem d_Model_behindPlain_5 : decode c_Model_behindPlain 5 = .ok (.istore_n 2, 1) := by decide +kernel
theorem d_Model_behindPlain_6 : decode c_Model_behindPlain 6 = .ok (.iload_n 2, 1) := by decide +kernel
theorem d_Model_behindPlain_7 : decode c_Model_behindPlain 7 = .ok (.invokestatic 43, 3) := by decide +kernel
theorem d_Model_behindPlain_10 : decode c_Model_behindPlain 10 = .ok (.ifCond .ne 21, 3) := by decide +kernel
theorem d_Model_behindPlain_13 : decode c_Model_behindPlain 13 = .ok (.iload_n 2, 1) := by decide +kernel
theorem d_Model_behindPlain_14 : decode c_Model_behindPlain 14 = .ok (.bipush 46, 2) := by decide +kernel
theorem d_Model_behindPlain_16 : decode c_Model_behindPlain 16 = .ok (.if_icmp .eq 15, 3) := by decide +kernel
theorem d_Model_behindPlain_19 : decode c_Model_behindPlain 19 = .ok (.iload_n 2, 1) := by decide +kernel
theorem d_Model_behindPlain_20 : decode c_Model_behindPlain 20 = .ok (.bipush 94, 2) := by decide +kernel
theorem d_Model_behindPlain_22 : decode c_Model_behindPlain 22 = .ok (.if_icmp .eq 9, 3) := by decide +kernel
theorem d_Model_behindPlain_25 : decode c_Model_behindPlain 25 = .ok (.iload_n 2, 1) := by decide +kernel
theorem d_Model_behindPlain_26 : decode c_Model_behindPlain 26 = .ok (.bipush 36, 2) := by decide +kernel
theorem d_Model_behindPlain_28 : decode c_Model_behindPlain 28 = .ok (.if_icmp .ne 7, 3) := by decide +kernel
theorem d_Model_behindPlain_31 : decode c_Model_behindPlain 31 = .ok (.iload_n 1, 1) := by decide +kernel
theorem d_Model_behindPlain_32 : decode c_Model_behindPlain 32 = .ok (.iconst 1, 1) := by decide +kernel
theorem d_Model_behindPlain_33 : decode c_Model_behindPlain 33 = .ok (.iadd, 1) := by decide +kernel
theorem d_Model_behindPlain_34 : decode c_Model_behindPlain 34 = .ok (.ireturn, 1) := by decide +kernel
theorem d_Model_behindPlain_35 : decode c_Model_behindPlain 35 = .ok (.iload_n 2, 1) := by decide +kernel
theorem d_Model_behindPlain_36 : decode c_Model_behindPlain 36 = .ok (.bipush 91, 2) := by decide +kernel
theorem d_Model_behindPlain_38 : decode c_Model_behindPlain 38 = .ok (.if_icmp .ne 9, 3) := by decide +kernel
theorem d_Model_behindPlain_41 : decode c_Model_behindPlain 41 = .ok (.aload_n 0, 1) := by decide +kernel
theorem d_Model_behindPlain_42 : decode c_Model_behindPlain 42 = .ok (.iload_n 1, 1) := by decide +kernel
theorem d_Model_behindPlain_43 : decode c_Model_behindPlain 43 = .ok (.invokevirtual 57, 3) := by decide +kernel
theorem d_Model_behindPlain_46 : decode c_Model_behindPlain 46 = .ok (.ireturn, 1) := by decide +kernel
theorem d_Model_behindPlain_47 : decode c_Model_behindPlain 47 = .ok (.iload_n 2, 1) := by decide +kernel
theorem d_Model_behindPlain_48 : decode c_Model_behindPlain 48 = .ok (.bipush 92, 2) := by decide +kernel
theorem d_Model_behindPlain_50 : decode c_Model_behindPlain 50 = .ok (.if_icmp .ne 28, 3) := by decide +kernel
theorem d_Model_behindPlain_53 : decode c_Model_behindPlain 53 = .ok (.aload_n 0, 1) := by decide +kernel
theorem d_Model_behindPlain_54 : decode c_Model_behindPlain 54 = .ok (.iload_n 1, 1) := by decide +kernel
theorem d_Model_behindPlain_55 : decode c_Model_behindPlain 55 = .ok (.iconst 1, 1) := by decide +kernel
theorem d_Model_behindPlain_56 : decode c_Model_behindPlain 56 = .ok (.iadd, 1) := by decide +kernel
theorem d_Model_behindPlain_57 : decode c_Model_behindPlain 57 = .ok (.invokevirtual 53, 3) := by decide +kernel
theorem d_Model_behindPlain_60 : decode c_Model_behindPlain 60 = .ok (.bipush 49, 2) := by decide +kernel
theorem d_Model_behindPlain_62 : decode c_Model_behindPlain 62 = .ok (.bipush 52, 2) := by decide +kernel
theorem d_Model_behindPlain_64 : decode c_Model_behindPlain 64 = .ok (.invokestatic 39, 3) := by decide +kernel
theorem d_Model_behindPlain_67 : decode c_Model_behindPlain 67 = .ok (.ifCond .eq 9, 3) := by decide +kernel
theorem d_Model_behindPlain_70 : decode c_Model_behindPlain 70 = .ok (.iload_n 1, 1) := by decide +kernel
theorem d_Model_behindPlain_71 : decode c_Model_behindPlain 71 = .ok (.iconst 2, 1) := by decide +kernel
theorem d_Model_behindPlain_72 : decode c_Model_behindPlain 72 = .ok (.iadd, 1) := by decide +kernel
theorem d_Model_behindPlain_73 : decode c_Model_behindPlain 73 = .ok (.goto 4, 3) := by decide +kernel
theorem d_Model_behindPlain_76 : decode c_Model_behindPlain 76 = .ok (.iconst (-1), 1) := by decide +kernel
theorem d_Model_behindPlain_77 : decode c_Model_behindPlain 77 = .ok (.ireturn, 1) := by decide +kernel
theorem d_Model_behindPlain_78 : decode c_Model_behindPlain 78 = .ok (.iload_n 2, 1) := by decide +kernel
theorem d_Model_behindPlain_79 : decode c_Model_behindPlain 79 = .ok (.bipush 40, 2) := by decide +kernel
theorem d_Model_behindPlain_81 : decode c_Model_behindPlain 81 = .ok (.if_icmp .ne 48, 3) := by decide +kernel
theorem d_Model_behindPlain_84 : decode c_Model_behindPlain 84 = .ok (.aload_n 0, 1) := by decide +kernel
theorem d_Model_behindPlain_85 : decode c_Model_behindPlain 85 = .ok (.iload_n 1, 1) := by decide +kernel
theorem d_Model_behindPlain_86 : decode c_Model_behindPlain 86 = .ok (.iconst 1, 1) := by decide +kernel
theorem d_Model_behindPlain_87 : decode c_Model_behindPlain 87 = .ok (.iadd, 1) := by decide +kernel
theorem d_Model_behindPlain_88 : decode c_Model_behindPlain 88 = .ok (.invokevirtual 53, 3) := by decide +kernel
theorem d_Model_behindPlain_91 : decode c_Model_behindPlain 91 = .ok (.bipush 63, 2) := by decide +kernel
theorem d_Model_behindPlain_93 : decode c_Model_behindPlain 93 = .ok (.if_icmp .ne 36, 3) := by decide +kernel
theorem d_Model_behindPlain_96 : decode c_Model_behindPlain 96 = .ok (.aload_n 0, 1) := by decide +kernel
theorem d_Model_behindPlain_97 : decode c_Model_behindPlain 97 = .ok (.iload_n 1, 1) := by decide +kernel
theorem d_Model_behindPlain_98 : decode c_Model_behindPlain 98 = .ok (.iconst 2, 1) := by decide +kernel
theorem d_Model_behindPlain_99 : decode c_Model_behindPlain 99 = .ok (.iadd, 1) := by decide +kernel
theorem d_Model_behindPlain_100 : decode c_Model_behindPlain 100 = .ok (.invokevirtual 53, 3) := by decide +kernel
theorem d_Model_behindPlain_103 : decode c_Model_behindPlain 103 = .ok (.bipush 48, 2) := by decide +kernel
theorem d_Model_behindPlain_105 : decode c_Model_behindPlain 105 = .ok (.bipush 52, 2) := by decide +kernel
theorem d_Model_behindPlain_107 : decode c_Model_behindPlain 107 = .ok (.invokestatic 39, 3) := by decide +kernel
theorem d_Model_behindPlain_110 : decode c_Model_behindPlain 110 = .ok (.ifCond .eq 19, 3) := by decide +kernel
theorem d_Model_behindPlain_113 : decode c_Model_behindPlain 113 = .ok (.aload_n 0, 1) := by decide +kernel
theorem d_Model_behindPlain_114 : decode c_Model_behindPlain 114 = .ok (.iload_n 1, 1) := by decide +kernel
theorem d_Model_behindPlain_115 : decode c_Model_behindPlain 115 = .ok (.iconst 3, 1) := by decide +kernel
theorem d_Model_behindPlain_116 : decode c_Model_behindPlain 116 = .ok (.iadd, 1) := by decide +kernel
theorem d_Model_behindPlain_117 : decode c_Model_behindPlain 117 = .ok (.invokevirtual 53, 3) := by decide +kernel
theorem d_Model_behindPlain_120 : decode c_Model_behindPlain 120 = .ok (.bipush 41, 2) := by decide +kernel
theorem d_Model_behindPlain_122 : decode c_Model_behindPlain 122 = .ok (.if_icmp .ne 7, 3) := by decide +kernel
theorem d_Model_behindPlain_125 : decode c_Model_behindPlain 125 = .ok (.iconst 1, 1) := by decide +kernel
theorem d_Model_behindPlain_126 : decode c_Model_behindPlain 126 = .ok (.goto 4, 3) := by decide +kernel
theorem d_Model_behindPlain_129 : decode c_Model_behindPlain 129 = .ok (.iconst 0, 1) := by decide +kernel
theorem d_Model_behindPlain_130 : decode c_Model_behindPlain 130 = .ok (.istore_n 3, 1) := by decide +kernel
theorem d_Model_behindPlain_131 : decode c_Model_behindPlain 131 = .ok (.iload_n 3, 1) := by decide +kernel
theorem d_Model_behindPlain_132 : decode c_Model_behindPlain 132 = .ok (.ifCond .eq 9, 3) := by decide +kernel
theorem d_Model_behindPlain_135 : decode c_Model_behindPlain 135 = .ok (.iload_n 1, 1) := by decide +kernel
theorem d_Model_behindPlain_136 : decode c_Model_behindPlain 136 = .ok (.iconst 4, 1) := by decide +kernel
theorem d_Model_behindPlain_137 : decode c_Model_behindPlain 137 = .ok (.iadd, 1) := by decide +kernel
theorem d_Model_behindPlain_138 : decode c_Model_behindPlain 138 = .ok (.goto 4, 3) := by decide +kernel
theorem d_Model_behindPlain_141 : decode c_Model_behindPlain 141 = .ok (.iconst (-1), 1) := by decide +kernel
theorem d_Model_behindPlain_142 : decode c_Model_behindPlain 142 = .ok (.ireturn, 1) := by decide +kernel
theorem d_Model_behindRepeat_0 : decode c_Model_behindRepeat 0 = .ok (.iload_n 1, 1) := by decide +kernel
theorem d_Model_behindRepeat_1 : decode c_Model_behindRepeat 1 = .ok (.istore_n 2, 1) := by decide +kernel
theorem d_Model_behindRepeat_2 : decode c_Model_behindRepeat 2 = .ok (.aload_n 0, 1) := by decide +kernel
theorem d_Model_behindRepeat_3 : decode c_Model_behindRepeat 3 = .ok (.iload_n 1, 1) := by decide +kernel
theorem d_Model_behindRepeat_4 : decode c_Model_behindRepeat 4 = .ok (.invokevirtual 53, 3) := by decide +kernel
theorem d_Model_behindRepeat_7 : decode c_Model_behindRepeat 7 = .ok (.bipush 42, 2) := by decide +kernel
theorem d_Model_behindRepeat_9 : decode c_Model_behindRepeat 9 = .ok (.if_icmp .eq 23, 3) := by decide +kernel
theorem d_Model_behindRepeat_12 : decode c_Model_behindRepeat 12 = .ok (.aload_n 0, 1) := by decide +kernel
theorem d_Model_behindRepeat_13 : decode c_Model_behindRepeat 13 = .ok (.iload_n 1, 1) := by decide +kernel
theorem d_Model_behindRepeat_14 : decode c_Model_behindRepeat 14 = .ok (.invokevirtual 53, 3) := by decide +kernel
theorem d_Model_behindRepeat_17 : decode c_Model_behindRepeat 17 = .ok (.bipush 43, 2) := by decide +kernel
theorem d_Model_behindRepeat_19 : decode c_Model_behindRepeat 19 = .ok (.if_icmp .eq 13, 3) := by decide +kernel
theorem d_Model_behindRepeat_22 : decode c_Model_behindRepeat 22 = .ok (.aload_n 0, 1) := by decide +kernel
theorem d_Model_behindRepeat_23 : decode c_Model_behindRepeat 23 = .ok (.iload_n 1, 1) := by decide +kernel
theorem d_Model_behindRepeat_24 : decode c_Model_behindRepeat 24 = .ok (.invokevirtual 53, 3) := by decide +kernel
theorem d_Model_behindRepeat_27 : decode c_Model_behindRepeat 27 = .ok (.bipush 63, 2) := by decide +kernel
theorem d_Model_behindRepeat_29 : decode c_Model_behindRepeat 29 = .ok (.if_icmp .ne 7, 3) := by decide +kernel
theorem d_Model_behindRepeat_32 : decode c_Model_behindRepeat 32 = .ok (.iload_n 1, 1) := by decide +kernel
theorem d_Model_behindRepeat_33 : decode c_Model_behindRepeat 33 = .ok (.iconst 1, 1) := by decide +kernel
theorem d_Model_behindRepeat_34 : decode c_Model_behindRepeat 34 = .ok (.iadd, 1) := by decide +kernel
theorem d_Model_behindRepeat_35 : decode c_Model_behindRepeat 35 = .ok (.istore_n 2, 1) := by decide +kernel
theorem d_Model_behindRepeat_36 : decode c_Model_behindRepeat 36 = .ok (.aload_n 0, 1) := by decide +kernel
theorem d_Model_behindRepeat_37 : decode c_Model_behindRepeat 37 = .ok (.iload_n 1, 1) := by decide +kernel
theorem d_Model_behindRepeat_38 : decode c_Model_behindRepeat 38 = .ok (.invokevirtual 53, 3) := by decide +kernel
theorem d_Model_behindRepeat_41 : decode c_Model_behindRepeat 41 = .ok (.bipush 123, 2) := by decide +kernel
theorem d_Model_behindRepeat_43 : decode c_Model_behindRepeat 43 = .ok (.if_icmp .ne 38, 3) := by decide +kernel
theorem d_Model_behindRepeat_46 : decode c_Model_behindRepeat 46 = .ok (.aload_n 0, 1) := by decide +kernel
theorem d_Model_behindRepeat_47 : decode c_Model_behindRepeat 47 = .ok (.iload_n 1, 1) := by decide +kernel
theorem d_Model_behindRepeat_48 : decode c_Model_behindRepeat 48 = .ok (.iconst 1, 1) := by decide +kernel
theorem d_Model_behindRepeat_49 : decode c_Model_behindRepeat 49 = .ok (.iadd, 1) := by decide +kernel
theorem d_Model_behindRepeat_50 : decode c_Model_behindRepeat 50 = .ok (.invokevirtual 53, 3) := by decide +kernel
theorem d_Model_behindRepeat_53 : decode c_Model_behindRepeat 53 = .ok (.bipush 48, 2) := by decide +kernel
theorem d_Model_behindRepeat_55 : decode c_Model_behindRepeat 55 = .ok (.bipush 57, 2) := by decide +kernel
theorem d_Model_behindRepeat_57 : decode c_Model_behindRepeat 57 = .ok (.invokestatic 39, 3) := by decide +kernel
theorem d_Model_behindRepeat_60 : decode c_Model_behindRepeat 60 = .ok (.ifCond .eq 15, 3) := by decide +kernel
theorem d_Model_behindRepeat_63 : decode c_Model_behindRepeat 63 = .ok (.aload_n 0, 1) := by decide +kernel
theorem d_Model_behindRepeat_64 : decode c_Model_behindRepeat 64 = .ok (.iload_n 1, 1) := by decide +kernel
theorem d_Model_behindRepeat_65 : decode c_Model_behindRepeat 65 = .ok (.iconst 2, 1) := by decide +kernel
theorem d_Model_behindRepeat_66 : decode c_Model_behindRepeat 66 = .ok (.iadd, 1) := by decide +kernel
theorem d_Model_behindRepeat_67 : decode c_Model_behindRepeat 67 = .ok (.invokevirtual 53, 3) := by decide +kernel
theorem d_Model_behindRepeat_70 : decode c_Model_behindRepeat 70 = .ok (.bipush 125, 2) := by decide +kernel
theorem d_Model_behindRepeat_72 : decode c_Model_behindRepeat 72 = .ok (.if_icmp .eq 5, 3) := by decide +kernel
theorem d_Model_behindRepeat_75 : decode c_Model_behindRepeat 75 = .ok (.iconst (-1), 1) := by decide +kernel
theorem d_Model_behindRepeat_76 : decode c_Model_behindRepeat 76 = .ok (.ireturn, 1) := by decide +kernel
theorem d_Model_behindRepeat_77 : decode c_Model_behindRepeat 77 = .ok (.iload_n 1, 1) := by decide +kernel
theorem d_Model_behindRepeat_78 : decode c_Model_behindRepeat 78 = .ok (.iconst 3, 1) := by decide +kernel
theorem d_Model_behindRepeat_79 : decode c_Model_behindRepeat 79 = .ok (.iadd, 1) := by decide +kernel
theorem d_Model_behindRepeat_80 : decode c_Model_behindRepeat 80 = .ok (.istore_n 2, 1) := by decide +kernel
theorem d_Model_behindRepeat_81 : decode c_Model_behindRepeat 81 = .ok (.iload_n 2, 1) := by decide +kernel
theorem d_Model_behindRepeat_82 : decode c_Model_behindRepeat 82 = .ok (.iload_n 1, 1) := by decide +kernel
theorem d_Model_behindRepeat_83 : decode c_Model_behindRepeat 83 = .ok (.if_icmp .le 29, 3) := by decide +kernel
theorem d_Model_behindRepeat_86 : decode c_Model_behindRepeat 86 = .ok (.aload_n 0, 1) := by decide +kernel
theorem d_Model_behindRepeat_87 : decode c_Model_behindRepeat 87 = .ok (.iload_n 2, 1) := by decide +kernel
theorem d_Model_behindRepeat_88 : decode c_Model_behindRepeat 88 = .ok (.invokevirtual 53, 3) := by decide +kernel
theorem d_Model_behindRepeat_91 : decode c_Model_behindRepeat 91 = .ok (.bipush 63, 2) := by decide +kernel
theorem d_Model_behindRepeat_93 : decode c_Model_behindRepeat 93 = .ok (.if_icmp .eq 13, 3) := by decide +kernel
theorem d_Model_behindRepeat_96 : decode c_Model_behindRepeat 96 = .ok (.aload_n 0, 1) := by decide +kernel
theorem d_Model_behindRepeat_97 : decode c_Model_behindRepeat 97 = .ok (.iload_n 2, 1) := by decide +kernel
theorem d_Model_behindRepeat_98 : decode c_Model_behindRepeat 98 = .ok (.invokevirtual 53, 3) := by decide +kernel
theorem d_Model_behindRepeat_101 : decode c_Model_behindRepeat 101 = .ok (.bipush 43, 2) := by decide +kernel
theorem d_Model_behindRepeat_103 : decode c_Model_behindRepeat 103 = .ok (.if_icmp .ne 9, 3) := by decide +kernel
theorem d_Model_behindRepeat_106 : decode c_Model_behindRepeat 106 = .ok (.iload_n 2, 1) := by decide +kernel
theorem d_Model_behindRepeat_107 : decode c_Model_behindRepeat 107 = .ok (.iconst 1, 1) := by decide +kernel
theorem d_Model_behindRepeat_108 : decode c_Model_behindRepeat 108 = .ok (.iadd, 1) := by decide +kernel
theorem d_Model_behindRepeat_109 : decode c_Model_behindRepeat 109 = .ok (.goto 4, 3) := by decide +kernel
theorem d_Model_behindRepeat_112 : decode c_Model_behindRepeat 112 = .ok (.iload_n 2, 1) := by decide +kernel
theorem d_Model_behindRepeat_113 : decode c_Model_behindRepeat 113 = .ok (.ireturn, 1) := by decide +kernel
theorem d_Model_sized_0 : decode c_Model_sized 0 = .ok (.aload_n 0, 1) := by decide +kernel
theorem d_Model_sized_1 : decode c_Model_sized 1 = .ok (.iload_n 1, 1) := by decide +kernel
theorem d_Model_sized_2 : decode c_Model_sized 2 = .ok (.invokevirtual 53, 3) := by decide +kernel
theorem d_Model_sized_5 : decode c_Model_sized 5 = .ok (.lookupswitch 68 #[(42, 64), (43, 58), (63, 64), (123, 43)], 43) := by decide +kernel
theorem d_Model_sized_48 : decode c_Model_sized 48 = .ok (.aload_n 0, 1) := by decide +kernel
theorem d_Model_sized_49 : decode c_Model_sized 49 = .ok (.iload_n 1, 1) := by decide +kernel
theorem d_Model_sized_50 : decode c_Model_sized 50 = .ok (.iconst 1, 1) := by decide +kernel
theorem d_Model_sized_51 : decode c_Model_sized 51 = .ok (.iadd, 1) := by decide +kernel
theorem d_Model_sized_52 : decode c_Model_sized 52 = .ok (.invokevirtual 53, 3) := by decide +kernel
theorem d_Model_sized_55 : decode c_Model_sized 55 = .ok (.bipush 48, 2) := by decide +kernel
theorem d_Model_sized_57 : decode c_Model_sized 57 = .ok (.isub, 1) := by decide +kernel
theorem d_Model_sized_58 : decode c_Model_sized 58 = .ok (.iload_n 2, 1) := by decide +kernel
theorem d_Model_sized_59 : decode c_Model_sized 59 = .ok (.imul, 1) := by decide +kernel
theorem d_Model_sized_60 : decode c_Model_sized 60 = .ok (.iconst 1, 1) := by decide +kernel
theorem d_Model_sized_61 : decode c_Model_sized 61 = .ok (.iadd, 1) := by decide +kernel
theorem d_Model_sized_62 : decode c_Model_sized 62 = .ok (.ireturn, 1) := by decide +kernel
theorem d_Model_sized_63 : decode c_Model_sized 63 = .ok (.iconst 2, 1) := by decide +kernel
theorem d_Model_sized_64 : decode c_Model_sized 64 = .ok (.iload_n 2, 1) := by decide +kernel
theorem d_Model_sized_65 : decode c_Model_sized 65 = .ok (.imul, 1) := by decide +kernel
theorem d_Model_sized_66 : decode c_Model_sized 66 = .ok (.iconst 2, 1) := by decide +kernel
theorem d_Model_sized_67 : decode c_Model_sized 67 = .ok (.iadd, 1) := by decide +kernel
theorem d_Model_sized_68 : decode c_Model_sized 68 = .ok (.ireturn, 1) := by decide +kernel
theorem d_Model_sized_69 : decode c_Model_sized 69 = .ok (.iload_n 2, 1) := by decide +kernel
theorem d_Model_sized_70 : decode c_Model_sized 70 = .ok (.iconst 2, 1) := by decide +kernel
theorem d_Model_sized_71 : decode c_Model_sized 71 = .ok (.iadd, 1) := by decide +kernel
theorem d_Model_sized_72 : decode c_Model_sized 72 = .ok (.ireturn, 1) := by decide +kernel
theorem d_Model_sized_73 : decode c_Model_sized 73 = .ok (.iload_n 2, 1) := by decide +kernel
theorem d_Model_sized_74 : decode c_Model_sized 74 = .ok (.ireturn, 1) := by decide +kernel
theorem d_Model_groupsOf_0 : decode c_Model_groupsOf 0 = .ok (.iconst 0, 1) := by decide +kernel
theorem d_Model_groupsOf_1 : decode c_Model_groupsOf 1 = .ok (.istore_n 1, 1) := by decide +kernel
theorem d_Model_groupsOf_2 : decode c_Model_groupsOf 2 = .ok (.iconst 0, 1) := by decide +kernel
theorem d_Model_groupsOf_3 : decode c_Model_groupsOf 3 = .ok (.istore_n 2, 1) := by decide +kernel
theorem d_Model_groupsOf_4 : decode c_Model_groupsOf 4 = .ok (.iload_n 2, 1) := by decide +kernel
theorem d_Model_groupsOf_5 : decode c_Model_groupsOf 5 = .ok (.aload_n 0, 1) := by decide +kernel
theorem d_Model_groupsOf_6 : decode c_Model_groupsOf 6 = .ok (.getfield 50, 3) := by decide +kernel
theorem d_Model_groupsOf_9 : decode c_Model_groupsOf 9 = .ok (.if_icmp .ge 34, 3) := by decide +kernel
theorem d_Model_groupsOf_12 : decode c_Model_groupsOf 12 = .ok (.aload_n 0, 1) := by decide +kernel
theorem d_Model_groupsOf_13 : decode c_Model_groupsOf 13 = .ok (.iload_n 2, 1) := by decide +kernel
theorem d_Model_groupsOf_14 : decode c_Model_groupsOf 14 = .ok (.invokevirtual 53, 3) := by decide +kernel
theorem d_Model_groupsOf_17 : decode c_Model_groupsOf 17 = .ok (.bipush 40, 2) := by decide +kernel
theorem d_Model_groupsOf_19 : decode c_Model_groupsOf 19 = .ok (.if_icmp .ne 18, 3) := by decide +kernel
theorem d_Model_groupsOf_22 : decode c_Model_groupsOf 22 = .ok (.aload_n 0, 1) := by decide +kernel
theorem d_Model_groupsOf_23 : decode c_Model_groupsOf 23 = .ok (.iload_n 2, 1) := by decide +kernel
theorem d_Model_groupsOf_24 : decode c_Model_groupsOf 24 = .ok (.iconst 1, 1) := by decide +kernel
theorem d_Model_groupsOf_25 : decode c_Model_groupsOf 25 = .ok (.iadd, 1) := by decide +kernel
theorem d_Model_groupsOf_26 : decode c_Model_groupsOf 26 = .ok (.invokevirtual 53, 3) := by decide +kernel
theorem d_Model_groupsOf_29 : decode c_Model_groupsOf 29 = .ok (.bipush 63, 2) := by decide +kernel
theorem d_Model_groupsOf_31 : decode c_Model_groupsOf 31 = .ok (.if_icmp .eq 6, 3) := by decide +kernel
theorem d_Model_groupsOf_34 : decode c_Model_groupsOf 34 = .ok (.iinc 1 1, 3) := by decide +kernel
theorem d_Model_groupsOf_37 : decode c_Model_groupsOf 37 = .ok (.iinc 2 1, 3) := by decide +kernel
theorem d_Model_groupsOf_40 : decode c_Model_groupsOf 40 = .ok (.goto (-36), 3) := by decide +kernel
theorem d_Model_groupsOf_43 : decode c_Model_groupsOf 43 = .ok (.iload_n 1, 1) := by decide +kernel
theorem d_Model_groupsOf_44 : decode c_Model_groupsOf 44 = .ok (.ireturn, 1) := by decide +kernel
theorem d_Model_namesGood_0 : decode c_Model_namesGood 0 = .ok (.iconst 0, 1) := by decide +kernel
theorem d_Model_namesGood_1 : decode c_Model_namesGood 1 = .ok (.istore_n 2, 1) := by decide +kernel
theorem d_Model_namesGood_2 : decode c_Model_namesGood 2 = .ok (.iload_n 2, 1) := by decide +kernel
theorem d_Model_namesGood_3 : decode c_Model_namesGood 3 = .ok (.aload_n 0, 1) := by decide +kernel
theorem d_Model_namesGood_4 : decode c_Model_namesGood 4 = .ok (.getfield 50, 3) := by decide +kernel
theorem d_Model_namesGood_7 : decode c_Model_namesGood 7 = .ok (.if_icmp .ge 98, 3) := by decide +kernel
theorem d_Model_namesGood_10 : decode c_Model_namesGood 10 = .ok (.aload_n 0, 1) := by decide +kernel
theorem d_Model_namesGood_11 : decode c_Model_namesGood 11 = .ok (.iload_n 2, 1) := by decide +kernel
theorem d_Model_namesGood_12 : decode c_Model_namesGood 12 = .ok (.invokevirtual 53, 3) := by decide +kernel
theorem d_Model_namesGood_15 : decode c_Model_namesGood 15 = .ok (.bipush 40, 2) := by decide +kernel
theorem d_Model_namesGood_17 : decode c_Model_namesGood 17 = .ok (.if_icmp .ne 36, 3) := by decide +kernel
theorem d_Model_namesGood_20 : decode c_Model_namesGood 20 = .ok (.aload_n 0, 1) := by decide +kernel
theorem d_Model_namesGood_21 : decode c_Model_namesGood 21 = .ok (.iload_n 2, 1) := by decide +kernel
theorem d_Model_namesGood_22 : decode c_Model_namesGood 22 = .ok (.iconst 1, 1) := by decide +kernel
theorem d_Model_namesGood_23 : decode c_Model_namesGood 23 = .ok (.iadd, 1) := by decide +kernel
theorem d_Model_namesGood_24 : decode c_Model_namesGood 24 = .ok (.invokevirtual 53, 3) := by decide +kernel
theorem d_Model_namesGood_27 : decode c_Model_namesGood 27 = .ok (.bipush 63, 2) := by decide +kernel
theorem d_Model_namesGood_29 : decode c_Model_namesGood 29 = .ok (.if_icmp .ne 24, 3) := by decide +kernel
theorem d_Model_namesGood_32 : decode c_Model_namesGood 32 = .ok (.aload_n 0, 1) := by decide +kernel
theorem d_Model_namesGood_33 : decode c_Model_namesGood 33 = .ok (.iload_n 2, 1) := by decide +kernel
theorem d_Model_namesGood_34 : decode c_Model_namesGood 34 = .ok (.iconst 2, 1) := by decide +kernel
theorem d_Model_namesGood_35 : decode c_Model_namesGood 35 = .ok (.iadd, 1) := by decide +kernel
theorem d_Model_namesGood_36 : decode c_Model_namesGood 36 = .ok (.invokevirtual 53, 3) := by decide +kernel
theorem d_Model_namesGood_39 : decode c_Model_namesGood 39 = .ok (.bipush 48, 2) := by decide +kernel
theorem d_Model_namesGood_41 : decode c_Model_namesGood 41 = .ok (.bipush 52, 2) := by decide +kernel
theorem d_Model_namesGood_43 : decode c_Model_namesGood 43 = .ok (.invokestatic 39, 3) := by decide +kernel
theorem d_Model_namesGood_46 : decode c_Model_namesGood 46 = .ok (.ifCond .eq 7, 3) := by decide +kernel
theorem d_Model_namesGood_49 : decode c_Model_namesGood 49 = .ok (.iconst 1, 1) := by decide +kernel
theorem d_Model_namesGood_50 : decode c_Model_namesGood 50 = .ok (.goto 4, 3) := by decide +kernel
theorem d_Model_namesGood_53 : decode c_Model_namesGood 53 = .ok (.iconst 0, 1) := by decide +kernel
theorem d_Model_namesGood_54 : decode c_Model_namesGood 54 = .ok (.istore_n 3, 1) := by decide +kernel
theorem d_Model_namesGood_55 : decode c_Model_namesGood 55 = .ok (.iload_n 3, 1) := by decide +kernel
theorem d_Model_namesGood_56 : decode c_Model_namesGood 56 = .ok (.ifCond .eq 17, 3) := by decide +kernel
theorem d_Model_namesGood_59 : decode c_Model_namesGood 59 = .ok (.aload_n 0, 1) := by decide +kernel
theorem d_Model_namesGood_60 : decode c_Model_namesGood 60 = .ok (.iload_n 2, 1) := by decide +kernel
theorem d_Model_namesGood_61 : decode c_Model_namesGood 61 = .ok (.iconst 2, 1) := by decide +kernel
theorem d_Model_namesGood_62 : decode c_Model_namesGood 62 = .ok (.iadd, 1) := by decide +kernel
theorem d_Model_namesGood_63 : decode c_Model_namesGood 63 = .ok (.invokevirtual 53, 3) := by decide +kernel
theorem d_Model_namesGood_66 : decode c_Model_namesGood 66 = .ok (.bipush 48, 2) := by decide +kernel
theorem d_Model_namesGood_68 : decode c_Model_namesGood 68 = .ok (.isub, 1) := by decide +kernel
theorem d_Model_namesGood_69 : decode c_Model_namesGood 69 = .ok (.iload_n 1, 1) := by decide +kernel
theorem d_Model_namesGood_70 : decode c_Model_namesGood 70 = .ok (.if_icmp .gt 27, 3) := by decide +kernel
theorem d_Model_namesGood_73 : decode c_Model_namesGood 73 = .ok (.aload_n 0, 1) := by decide +kernel
theorem d_Model_namesGood_74 : decode c_Model_namesGood 74 = .ok (.iload_n 2, 1) := by decide +kernel
theorem d_Model_namesGood_75 : decode c_Model_namesGood 75 = .ok (.invokevirtual 53, 3) := by decide +kernel
theorem d_Model_namesGood_78 : decode c_Model_namesGood 78 = .ok (.bipush 92, 2) := by decide +kernel
theorem d_Model_namesGood_80 : decode c_Model_namesGood 80 = .ok (.if_icmp .ne 19, 3) := by decide +kernel
theorem d_Model_namesGood_83 : decode c_Model_namesGood 83 = .ok (.aload_n 0, 1) := by decide +kernel
theorem d_Model_namesGood_84 : decode c_Model_namesGood 84 = .ok (.iload_n 2, 1) := by decide +kernel
theorem d_Model_namesGood_85 : decode c_Model_namesGood 85 = .ok (.iconst 1, 1) := by decide +kernel
theorem d_Model_namesGood_86 : decode c_Model_namesGood 86 = .ok (.iadd, 1) := by decide +kernel
theorem d_Model_namesGood_87 : decode c_Model_namesGood 87 = .ok (.invokevirtual 53, 3) := by decide +kernel
theorem d_Model_namesGood_90 : decode c_Model_namesGood 90 = .ok (.bipush 48, 2) := by decide +kernel
theorem d_Model_namesGood_92 : decode c_Model_namesGood 92 = .ok (.isub, 1) := by decide +kernel
theorem d_Model_namesGood_93 : decode c_Model_namesGood 93 = .ok (.iload_n 1, 1) := by decide +kernel
theorem d_Model_namesGood_94 : decode c_Model_namesGood 94 = .ok (.if_icmp .le 5, 3) := by decide +kernel
theorem d_Model_namesGood_97 : decode c_Model_namesGood 97 = .ok (.iconst 0, 1) := by decide +kernel
theorem d_Model_namesGood_98 : decode c_Model_namesGood 98 = .ok (.ireturn, 1) := by decide +kernel
theorem d_Model_namesGood_99 : decode c_Model_namesGood 99 = .ok (.iinc 2 1, 3) := by decide +kernel
theorem d_Model_namesGood_102 : decode c_Model_namesGood 102 = .ok (.goto (-100), 3) := by decide +kernel
theorem d_Model_namesGood_105 : decode c_Model_namesGood 105 = .ok (.iload_n 1, 1) := by decide +kernel
theorem d_Model_namesGood_106 : decode c_Model_namesGood 106 = .ok (.iconst 4, 1) := by decide +kernel
theorem d_Model_namesGood_107 : decode c_Model_namesGood 107 = .ok (.if_icmp .gt 7, 3) := by decide +kernel
theorem d_Model_namesGood_110 : decode c_Model_namesGood 110 = .ok (.iconst 1, 1) := by decide +kernel
theorem d_Model_namesGood_111 : decode c_Model_namesGood 111 = .ok (.goto 4, 3) := by decide +kernel
theorem d_Model_namesGood_114 : decode c_Model_namesGood 114 = .ok (.iconst 0, 1) := by decide +kernel
theorem d_Model_namesGood_115 : decode c_Model_namesGood 115 = .ok (.ireturn, 1) := by decide +kernel
theorem d_Model_measure_0 : decode c_Model_measure 0 = .ok (.iconst 0, 1) := by decide +kernel
theorem d_Model_measure_1 : decode c_Model_measure 1 = .ok (.istore_n 1, 1) := by decide +kernel
theorem d_Model_measure_2 : decode c_Model_measure 2 = .ok (.iconst 0, 1) := by decide +kernel
theorem d_Model_measure_3 : decode c_Model_measure 3 = .ok (.istore_n 2, 1) := by decide +kernel
theorem d_Model_measure_4 : decode c_Model_measure 4 = .ok (.aload_n 0, 1) := by decide +kernel
theorem d_Model_measure_5 : decode c_Model_measure 5 = .ok (.getfield 19, 3) := by decide +kernel
theorem d_Model_measure_8 : decode c_Model_measure 8 = .ok (.iconst 0, 1) := by decide +kernel
theorem d_Model_measure_9 : decode c_Model_measure 9 = .ok (.iconst 0, 1) := by decide +kernel
theorem d_Model_measure_10 : decode c_Model_measure 10 = .ok (.iastore, 1) := by decide +kernel
theorem d_Model_measure_11 : decode c_Model_measure 11 = .ok (.iload_n 2, 1) := by decide +kernel
theorem d_Model_measure_12 : decode c_Model_measure 12 = .ok (.aload_n 0, 1) := by decide +kernel
theorem d_Model_measure_13 : decode c_Model_measure 13 = .ok (.getfield 50, 3) := by decide +kernel
theorem d_Model_measure_16 : decode c_Model_measure 16 = .ok (.if_icmp .ge 165, 3) := by decide +kernel
theorem d_Model_measure_19 : decode c_Model_measure 19 = .ok (.iconst 0, 1) := by decide +kernel
theorem d_Model_measure_20 : decode c_Model_measure 20 = .ok (.istore_n 3, 1) := by decide +kernel
theorem d_Model_measure_21 : decode c_Model_measure 21 = .ok (.iload_n 2, 1) := by decide +kernel
theorem d_Model_measure_22 : decode c_Model_measure 22 = .ok (.istore 4, 2) := by decide +kernel
theorem d_Model_measure_24 : decode c_Model_measure 24 = .ok (.aload_n 0, 1) := by decide +kernel
theorem d_Model_measure_25 : decode c_Model_measure 25 = .ok (.iload_n 2, 1) := by decide +kernel
theorem d_Model_measure_26 : decode c_Model_measure 26 = .ok (.invokevirtual 60, 3) := by decide +kernel
theorem d_Model_measure_29 : decode c_Model_measure 29 = .ok (.ifCond .le 32, 3) := by decide +kernel
theorem d_Model_measure_32 : decode c_Model_measure 32 = .ok (.iload_n 1, 1) := by decide +kernel
theorem d_Model_measure_33 : decode c_Model_measure 33 = .ok (.bipush 6, 2) := by decide +kernel
theorem d_Model_measure_35 : decode c_Model_measure 35 = .ok (.if_icmp .ne 5, 3) := by decide +kernel
theorem d_Model_measure_38 : decode c_Model_measure 38 = .ok (.iconst (-1), 1) := by decide +kernel
theorem d_Model_measure_39 : decode c_Model_measure 39 = .ok (.ireturn, 1) := by decide +kernel
theorem d_Model_measure_40 : decode c_Model_measure 40 = .ok (.iinc 1 1, 3) := by decide +kernel
theorem d_Model_measure_43 : decode c_Model_measure 43 = .ok (.aload_n 0, 1) := by decide +kernel
theorem d_Model_measure_44 : decode c_Model_measure 44 = .ok (.getfield 19, 3) := by decide +kernel
theorem d_Model_measure_47 : decode c_Model_measure 47 = .ok (.iload_n 1, 1) := by decide +kernel
theorem d_Model_measure_48 : decode c_Model_measure 48 = .ok (.iconst 0, 1) := by decide +kernel
theorem d_Model_measure_49 : decode c_Model_measure 49 = .ok (.iastore, 1) := by decide +kernel
theorem d_Model_measure_50 : decode c_Model_measure 50 = .ok (.iload_n 2, 1) := by decide +kernel
theorem d_Model_measure_51 : decode c_Model_measure 51 = .ok (.aload_n 0, 1) := by decide +kernel
theorem d_Model_measure_52 : decode c_Model_measure 52 = .ok (.iload_n 2, 1) := by decide +kernel
theorem d_Model_measure_53 : decode c_Model_measure 53 = .ok (.invokevirtual 60, 3) := by decide +kernel
theorem d_Model_measure_56 : decode c_Model_measure 56 = .ok (.iadd, 1) := by decide +kernel
theorem d_Model_measure_57 : decode c_Model_measure 57 = .ok (.istore_n 2, 1) := by decide +kernel
theorem d_Model_measure_58 : decode c_Model_measure 58 = .ok (.goto (-47), 3) := by decide +kernel
theorem d_Model_measure_61 : decode c_Model_measure 61 = .ok (.aload_n 0, 1) := by decide +kernel
theorem d_Model_measure_62 : decode c_Model_measure 62 = .ok (.iload_n 2, 1) := by decide +kernel
theorem d_Model_measure_63 : decode c_Model_measure 63 = .ok (.invokevirtual 53, 3) := by decide +kernel
theorem d_Model_measure_66 : decode c_Model_measure 66 = .ok (.bipush 124, 2) := by decide +kernel
theorem d_Model_measure_68 : decode c_Model_measure 68 = .ok (.if_icmp .ne 19, 3) := by decide +kernel
theorem d_Model_measure_71 : decode c_Model_measure 71 = .ok (.aload_n 0, 1) := by decide +kernel
theorem d_Model_measure_72 : decode c_Model_measure 72 = .ok (.getfield 19, 3) := by decide +kernel
theorem d_Model_measure_75 : decode c_Model_measure 75 = .ok (.iload_n 1, 1) := by decide +kernel
theorem d_Model_measure_76 : decode c_Model_measure 76 = .ok (.dup2, 1) := by decide +kernel
theorem d_Model_measure_77 : decode c_Model_measure 77 = .ok (.iaload, 1) := by decide +kernel
theorem d_Model_measure_78 : decode c_Model_measure 78 = .ok (.iconst 1, 1) := by decide +kernel
theorem d_Model_measure_79 : decode c_Model_measure 79 = .ok (.iadd, 1) := by decide +kernel
theorem d_Model_measure_80 : decode c_Model_measure 80 = .ok (.iastore, 1) := by decide +kernel
theorem d_Model_measure_81 : decode c_Model_measure 81 = .ok (.iinc 2 1, 3) := by decide +kernel
theorem d_Model_measure_84 : decode c_Model_measure 84 = .ok (.goto (-73), 3) := by decide +kernel
theorem d_Model_measure_87 : decode c_Model_measure 87 = .ok (.aload_n 0, 1) := by decide +kernel
theorem d_Model_measure_88 : decode c_Model_measure 88 = .ok (.iload_n 2, 1) := by decide +kernel
theorem d_Model_measure_89 : decode c_Model_measure 89 = .ok (.invokevirtual 53, 3) := by decide +kernel
theorem d_Model_measure_92 : decode c_Model_measure 92 = .ok (.bipush 41, 2) := by decide +kernel
theorem d_Model_measure_94 : decode c_Model_measure 94 = .ok (.if_icmp .ne 29, 3) := by decide +kernel
theorem d_Model_measure_97 : decode c_Model_measure 97 = .ok (.iload_n 1, 1) := by decide +kernel
theorem d_Model_measure_98 : decode c_Model_measure 98 = .ok (.ifCond .ne 5, 3) := by decide +kernel
theorem d_Model_measure_101 : decode c_Model_measure 101 = .ok (.iconst (-1), 1) := by decide +kernel
theorem d_Model_measure_102 : decode c_Model_measure 102 = .ok (.ireturn, 1) := by decide +kernel
theorem d_Model_measure_103 : decode c_Model_measure 103 = .ok (.aload_n 0, 1) := by decide +kernel
theorem d_Model_measure_104 : decode c_Model_measure 104 = .ok (.getfield 19, 3) := by decide +kernel
theorem d_Model_measure_107 : decode c_Model_measure 107 = .ok (.iload_n 1, 1) := by decide +kernel
theorem d_Model_measure_108 : decode c_Model_measure 108 = .ok (.iaload, 1) := by decide +kernel
theorem d_Model_measure_109 : decode c_Model_measure 109 = .ok (.iconst 2, 1) := by decide +kernel
theorem d_Model_measure_110 : decode c_Model_measure 110 = .ok (.iadd, 1) := by decide +kernel
theorem d_Model_measure_111 : decode c_Model_measure 111 = .ok (.istore_n 3, 1) := by decide +kernel
theorem d_Model_measure_112 : decode c_Model_measure 112 = .ok (.iinc 1 (-1), 3) := by decide +kernel
theorem d_Model_measure_115 : decode c_Model_measure 115 = .ok (.iload_n 2, 1) := by decide +kernel
theorem d_Model_measure_116 : decode c_Model_measure 116 = .ok (.iconst 1, 1) := by decide +kernel
theorem d_Model_measure_117 : decode c_Model_measure 117 = .ok (.iadd, 1) := by decide +kernel
theorem d_Model_measure_118 : decode c_Model_measure 118 = .ok (.istore 4, 2) := by decide +kernel
theorem d_Model_measure_120 : decode c_Model_measure 120 = .ok (.goto 12, 3) := by decide +kernel
theorem d_Model_measure_123 : decode c_Model_measure 123 = .ok (.iconst 1, 1) := by decide +kernel
theorem d_Model_measure_124 : decode c_Model_measure 124 = .ok (.istore_n 3, 1) := by decide +kernel
theorem d_Model_measure_125 : decode c_Model_measure 125 = .ok (.aload_n 0, 1) := by decide +kernel
theorem d_Model_measure_126 : decode c_Model_measure 126 = .ok (.iload_n 2, 1) := by decide +kernel
theorem d_Model_measure_127 : decode c_Model_measure 127 = .ok (.invokevirtual 63, 3) := by decide +kernel
theorem d_Model_measure_130 : decode c_Model_measure 130 = .ok (.istore 4, 2) := by decide +kernel
theorem d_Model_measure_132 : decode c_Model_measure 132 = .ok (.iload 4, 2) := by decide +kernel
theorem d_Model_measure_134 : decode c_Model_measure 134 = .ok (.ifCond .ge 5, 3) := by decide +kernel
theorem d_Model_measure_137 : decode c_Model_measure 137 = .ok (.iconst (-1), 1) := by decide +kernel
theorem d_Model_measure_138 : decode c_Model_measure 138 = .ok (.ireturn, 1) := by decide +kernel
theorem d_Model_measure_139 : decode c_Model_measure 139 = .ok (.aload_n 0, 1) := by decide +kernel
theorem d_Model_measure_140 : decode c_Model_measure 140 = .ok (.iload 4, 2) := by decide +kernel
theorem d_Model_measure_142 : decode c_Model_measure 142 = .ok (.invokevirtual 66, 3) := by decide +kernel
theorem d_Model_measure_145 : decode c_Model_measure 145 = .ok (.istore_n 2, 1) := by decide +kernel
theorem d_Model_measure_146 : decode c_Model_measure 146 = .ok (.iload_n 2, 1) := by decide +kernel
theorem d_Model_measure_147 : decode c_Model_measure 147 = .ok (.ifCond .ge 5, 3) := by decide +kernel
theorem d_Model_measure_150 : decode c_Model_measure 150 = .ok (.iconst (-1), 1) := by decide +kernel
theorem d_Model_measure_151 : decode c_Model_measure 151 = .ok (.ireturn, 1) := by decide +kernel
theorem d_Model_measure_152 : decode c_Model_measure 152 = .ok (.aload_n 0, 1) := by decide +kernel
theorem d_Model_measure_153 : decode c_Model_measure 153 = .ok (.getfield 19, 3) := by decide +kernel
theorem d_Model_measure_156 : decode c_Model_measure 156 = .ok (.iload_n 1, 1) := by decide +kernel
theorem d_Model_measure_157 : decode c_Model_measure 157 = .ok (.dup2, 1) := by decide +kernel
theorem d_Model_measure_158 : decode c_Model_measure 158 = .ok (.iaload, 1) := by decide +kernel
theorem d_Model_measure_159 : decode c_Model_measure 159 = .ok (.iload_n 2, 1) := by decide +kernel
theorem d_Model_measure_160 : decode c_Model_measure 160 = .ok (.iload 4, 2) := by decide +kernel
theorem d_Model_measure_162 : decode c_Model_measure 162 = .ok (.if_icmp .le 13, 3) := by decide +kernel
theorem d_Model_measure_165 : decode c_Model_measure 165 = .ok (.aload_n 0, 1) := by decide +kernel
theorem d_Model_measure_166 : decode c_Model_measure 166 = .ok (.iload 4, 2) := by decide +kernel
theorem d_Model_measure_168 : decode c_Model_measure 168 = .ok (.iload_n 3, 1) := by decide +kernel
theorem d_Model_measure_169 : decode c_Model_measure 169 = .ok (.invokevirtual 69, 3) := by decide +kernel
theorem d_Model_measure_172 : decode c_Model_measure 172 = .ok (.goto 4, 3) := by decide +kernel
theorem d_Model_measure_175 : decode c_Model_measure 175 = .ok (.iload_n 3, 1) := by decide +kernel
theorem d_Model_measure_176 : decode c_Model_measure 176 = .ok (.iadd, 1) := by decide +kernel
theorem d_Model_measure_177 : decode c_Model_measure 177 = .ok (.iastore, 1) := by decide +kernel
theorem d_Model_measure_178 : decode c_Model_measure 178 = .ok (.goto (-167), 3) := by decide +kernel
theorem d_Model_measure_181 : decode c_Model_measure 181 = .ok (.iload_n 1, 1) := by decide +kernel
theorem d_Model_measure_182 : decode c_Model_measure 182 = .ok (.ifCond .ne 12, 3) := by decide +kernel
theorem d_Model_measure_185 : decode c_Model_measure 185 = .ok (.aload_n 0, 1) := by decide +kernel
theorem d_Model_measure_186 : decode c_Model_measure 186 = .ok (.getfield 19, 3) := by decide +kernel
theorem d_Model_measure_189 : decode c_Model_measure 189 = .ok (.iconst 0, 1) := by decide +kernel
theorem d_Model_measure_190 : decode c_Model_measure 190 = .ok (.iaload, 1) := by decide +kernel
theorem d_Model_measure_191 : decode c_Model_measure 191 = .ok (.goto 4, 3) := by decide +kernel
theorem d_Model_measure_194 : decode c_Model_measure 194 = .ok (.iconst (-1), 1) := by decide +kernel
theorem d_Model_measure_195 : decode c_Model_measure 195 = .ok (.ireturn, 1) := by decide +kernel
theorem d_Model_compile_0 : decode c_Model_compile 0 = .ok (.aload_n 0, 1) := by decide +kernel
theorem d_Model_compile_1 : decode c_Model_compile 1 = .ok (.invokevirtual 73, 3) := by decide +kernel
theorem d_Model_compile_4 : decode c_Model_compile 4 = .ok (.istore_n 1, 1) := by decide +kernel
theorem d_Model_compile_5 : decode c_Model_compile 5 = .ok (.aload_n 0, 1) := by decide +kernel
theorem d_Model_compile_6 : decode c_Model_compile 6 = .ok (.invokevirtual 77, 3) := by decide +kernel
theorem d_Model_compile_9 : decode c_Model_compile 9 = .ok (.istore_n 2, 1) := by decide +kernel
theorem d_Model_compile_10 : decode c_Model_compile 10 = .ok (.iload_n 1, 1) := by decide +kernel
theorem d_Model_compile_11 : decode c_Model_compile 11 = .ok (.ifCond .lt 15, 3) := by decide +kernel
theorem d_Model_compile_14 : decode c_Model_compile 14 = .ok (.aload_n 0, 1) := by decide +kernel
theorem d_Model_compile_15 : decode c_Model_compile 15 = .ok (.iload_n 2, 1) := by decide +kernel
theorem d_Model_compile_16 : decode c_Model_compile 16 = .ok (.invokevirtual 80, 3) := by decide +kernel
theorem d_Model_compile_19 : decode c_Model_compile 19 = .ok (.ifCond .eq 7, 3) := by decide +kernel
theorem d_Model_compile_22 : decode c_Model_compile 22 = .ok (.iconst 1, 1) := by decide +kernel
theorem d_Model_compile_23 : decode c_Model_compile 23 = .ok (.goto 4, 3) := by decide +kernel
theorem d_Model_compile_26 : decode c_Model_compile 26 = .ok (.iconst 0, 1) := by decide +kernel
theorem d_Model_compile_27 : decode c_Model_compile 27 = .ok (.istore_n 3, 1) := by decide +kernel
theorem d_Model_compile_28 : decode c_Model_compile 28 = .ok (.iload_n 3, 1) := by decide +kernel
theorem d_Model_compile_29 : decode c_Model_compile 29 = .ok (.ifCond .eq 13, 3) := by decide +kernel
theorem d_Model_compile_32 : decode c_Model_compile 32 = .ok (.iload_n 1, 1) := by decide +kernel
theorem d_Model_compile_33 : decode c_Model_compile 33 = .ok (.bipush 60, 2) := by decide +kernel
theorem d_Model_compile_35 : decode c_Model_compile 35 = .ok (.if_icmp .gt 7, 3) := by decide +kernel
theorem d_Model_compile_38 : decode c_Model_compile 38 = .ok (.iconst 1, 1) := by decide +kernel
theorem d_Model_compile_39 : decode c_Model_compile 39 = .ok (.goto 4, 3) := by decide +kernel
theorem d_Model_compile_42 : decode c_Model_compile 42 = .ok (.iconst 0, 1) := by decide +kernel
theorem d_Model_compile_43 : decode c_Model_compile 43 = .ok (.istore 4, 2) := by decide +kernel
theorem d_Model_compile_45 : decode c_Model_compile 45 = .ok (.iload 4, 2) := by decide +kernel
theorem d_Model_compile_47 : decode c_Model_compile 47 = .ok (.ifCond .eq 61, 3) := by decide +kernel
theorem d_Model_compile_50 : decode c_Model_compile 50 = .ok (.aload_n 0, 1) := by decide +kernel
theorem d_Model_compile_51 : decode c_Model_compile 51 = .ok (.iconst 1, 1) := by decide +kernel
theorem d_Model_compile_52 : decode c_Model_compile 52 = .ok (.putfield 83, 3) := by decide +kernel
theorem d_Model_compile_55 : decode c_Model_compile 55 = .ok (.aload_n 0, 1) := by decide +kernel
theorem d_Model_compile_56 : decode c_Model_compile 56 = .ok (.aload_n 0, 1) := by decide +kernel
theorem d_Model_compile_57 : decode c_Model_compile 57 = .ok (.getfield 50, 3) := by decide +kernel
theorem d_Model_compile_60 : decode c_Model_compile 60 = .ok (.putfield 87, 3) := by decide +kernel
theorem d_Model_compile_63 : decode c_Model_compile 63 = .ok (.iconst 0, 1) := by decide +kernel
theorem d_Model_compile_64 : decode c_Model_compile 64 = .ok (.istore 5, 2) := by decide +kernel
theorem d_Model_compile_66 : decode c_Model_compile 66 = .ok (.iload 5, 2) := by decide +kernel
theorem d_Model_compile_68 : decode c_Model_compile 68 = .ok (.bipush 32, 2) := by decide +kernel
theorem d_Model_compile_70 : decode c_Model_compile 70 = .ok (.if_icmp .ge 23, 3) := by decide +kernel
theorem d_Model_compile_73 : decode c_Model_compile 73 = .ok (.aload_n 0, 1) := by decide +kernel
theorem d_Model_compile_74 : decode c_Model_compile 74 = .ok (.getfield 13, 3) := by decide +kernel
theorem d_Model_compile_77 : decode c_Model_compile 77 = .ok (.iload 5, 2) := by decide +kernel
theorem d_Model_compile_79 : decode c_Model_compile 79 = .ok (.aload_n 0, 1) := by decide +kernel
theorem d_Model_compile_80 : decode c_Model_compile 80 = .ok (.getfield 7, 3) := by decide +kernel
theorem d_Model_compile_83 : decode c_Model_compile 83 = .ok (.iload 5, 2) := by decide +kernel
theorem d_Model_compile_85 : decode c_Model_compile 85 = .ok (.iaload, 1) := by decide +kernel
theorem d_Model_compile_86 : decode c_Model_compile 86 = .ok (.iastore, 1) := by decide +kernel
theorem d_Model_compile_87 : decode c_Model_compile 87 = .ok (.iinc 5 1, 3) := by decide +kernel
theorem d_Model_compile_90 : decode c_Model_compile 90 = .ok (.goto (-24), 3) := by decide +kernel
theorem d_Model_compile_93 : decode c_Model_compile 93 = .ok (.aload_n 0, 1) := by decide +kernel
theorem d_Model_compile_94 : decode c_Model_compile 94 = .ok (.iload_n 2, 1) := by decide +kernel
theorem d_Model_compile_95 : decode c_Model_compile 95 = .ok (.putfield 90, 3) := by decide +kernel
theorem d_Model_compile_98 : decode c_Model_compile 98 = .ok (.aload_n 0, 1) := by decide +kernel
theorem d_Model_compile_99 : decode c_Model_compile 99 = .ok (.iload_n 1, 1) := by decide +kernel
theorem d_Model_compile_100 : decode c_Model_compile 100 = .ok (.putfield 93, 3) := by decide +kernel
theorem d_Model_compile_103 : decode c_Model_compile 103 = .ok (.aload_n 0, 1) := by decide +kernel
theorem d_Model_compile_104 : decode c_Model_compile 104 = .ok (.iconst 0, 1) := by decide +kernel
theorem d_Model_compile_105 : decode c_Model_compile 105 = .ok (.putfield 96, 3) := by decide +kernel
theorem d_Model_compile_108 : decode c_Model_compile 108 = .ok (.aload_n 0, 1) := by decide +kernel
theorem d_Model_compile_109 : decode c_Model_compile 109 = .ok (.iconst 0, 1) := by decide +kernel
theorem d_Model_compile_110 : decode c_Model_compile 110 = .ok (.putfield 50, 3) := by decide +kernel
theorem d_Model_compile_113 : decode c_Model_compile 113 = .ok (.iload 4, 2) := by decide +kernel
theorem d_Model_compile_115 : decode c_Model_compile 115 = .ok (.ifCond .eq 7, 3) := by decide +kernel
theorem d_Model_compile_118 : decode c_Model_compile 118 = .ok (.iload_n 2, 1) := by decide +kernel
theorem d_Model_compile_119 : decode c_Model_compile 119 = .ok (.goto 14, 3) := by decide +kernel
theorem d_Model_compile_122 : decode c_Model_compile 122 = .ok (.iload_n 3, 1) := by decide +kernel
theorem d_Model_compile_123 : decode c_Model_compile 123 = .ok (.ifCond .eq 8, 3) := by decide +kernel
theorem d_Model_compile_126 : decode c_Model_compile 126 = .ok (.bipush (-2), 2) := by decide +kernel
theorem d_Model_compile_128 : decode c_Model_compile 128 = .ok (.goto 5, 3) := by decide +kernel
theorem d_Model_compile_131 : decode c_Model_compile 131 = .ok (.bipush (-3), 2) := by decide +kernel
theorem d_Model_compile_133 : decode c_Model_compile 133 = .ok (.ireturn, 1) := by decide +kernel
theorem d_Model_feed_0 : decode c_Model_feed 0 = .ok (.iload_n 1, 1) := by decide +kernel
theorem d_Model_feed_1 : decode c_Model_feed 1 = .ok (.invokestatic 43, 3) := by decide +kernel
theorem d_Model_feed_4 : decode c_Model_feed 4 = .ok (.ifCond .ne 5, 3) := by decide +kernel
theorem d_Model_feed_7 : decode c_Model_feed 7 = .ok (.iconst (-1), 1) := by decide +kernel
theorem d_Model_feed_8 : decode c_Model_feed 8 = .ok (.ireturn, 1) := by decide +kernel
theorem d_Model_feed_9 : decode c_Model_feed 9 = .ok (.aload_n 0, 1) := by decide +kernel
theorem d_Model_feed_10 : decode c_Model_feed 10 = .ok (.getfield 99, 3) := by decide +kernel
theorem d_Model_feed_13 : decode c_Model_feed 13 = .ok (.bipush 40, 2) := by decide +kernel
theorem d_Model_feed_15 : decode c_Model_feed 15 = .ok (.if_icmp .ne 6, 3) := by decide +kernel
theorem d_Model_feed_18 : decode c_Model_feed 18 = .ok (.bipush (-2), 2) := by decide +kernel
theorem d_Model_feed_20 : decode c_Model_feed 20 = .ok (.ireturn, 1) := by decide +kernel
theorem d_Model_feed_21 : decode c_Model_feed 21 = .ok (.aload_n 0, 1) := by decide +kernel
theorem d_Model_feed_22 : decode c_Model_feed 22 = .ok (.getfield 16, 3) := by decide +kernel
theorem d_Model_feed_25 : decode c_Model_feed 25 = .ok (.aload_n 0, 1) := by decide +kernel
theorem d_Model_feed_26 : decode c_Model_feed 26 = .ok (.getfield 99, 3) := by decide +kernel
theorem d_Model_feed_29 : decode c_Model_feed 29 = .ok (.iload_n 1, 1) := by decide +kernel
theorem d_Model_feed_30 : decode c_Model_feed 30 = .ok (.iastore, 1) := by decide +kernel
theorem d_Model_feed_31 : decode c_Model_feed 31 = .ok (.aload_n 0, 1) := by decide +kernel
theorem d_Model_feed_32 : decode c_Model_feed 32 = .ok (.dup, 1) := by decide +kernel
theorem d_Model_feed_33 : decode c_Model_feed 33 = .ok (.getfield 99, 3) := by decide +kernel
theorem d_Model_feed_36 : decode c_Model_feed 36 = .ok (.iconst 1, 1) := by decide +kernel
theorem d_Model_feed_37 : decode c_Model_feed 37 = .ok (.iadd, 1) := by decide +kernel
theorem d_Model_feed_38 : decode c_Model_feed 38 = .ok (.putfield 99, 3) := by decide +kernel
theorem d_Model_feed_41 : decode c_Model_feed 41 = .ok (.aload_n 0, 1) := by decide +kernel
theorem d_Model_feed_42 : decode c_Model_feed 42 = .ok (.iconst 0, 1) := by decide +kernel
theorem d_Model_feed_43 : decode c_Model_feed 43 = .ok (.putfield 96, 3) := by decide +kernel
theorem d_Model_feed_46 : decode c_Model_feed 46 = .ok (.aload_n 0, 1) := by decide +kernel
theorem d_Model_feed_47 : decode c_Model_feed 47 = .ok (.getfield 99, 3) := by decide +kernel
theorem d_Model_feed_50 : decode c_Model_feed 50 = .ok (.ireturn, 1) := by decide +kernel
theorem d_Model_clear_0 : decode c_Model_clear 0 = .ok (.aload_n 0, 1) := by decide +kernel
theorem d_Model_clear_1 : decode c_Model_clear 1 = .ok (.getfield 99, 3) := by decide +kernel
theorem d_Model_clear_4 : decode c_Model_clear 4 = .ok (.istore_n 1, 1) := by decide +kernel
theorem d_Model_clear_5 : decode c_Model_clear 5 = .ok (.aload_n 0, 1) := by decide +kernel
theorem d_Model_clear_6 : decode c_Model_clear 6 = .ok (.iconst 0, 1) := by decide +kernel
theorem d_Model_clear_7 : decode c_Model_clear 7 = .ok (.putfield 99, 3) := by decide +kernel
theorem d_Model_clear_10 : decode c_Model_clear 10 = .ok (.aload_n 0, 1) := by decide +kernel
theorem d_Model_clear_11 : decode c_Model_clear 11 = .ok (.iconst 0, 1) := by decide +kernel
theorem d_Model_clear_12 : decode c_Model_clear 12 = .ok (.putfield 96, 3) := by decide +kernel
theorem d_Model_clear_15 : decode c_Model_clear 15 = .ok (.iload_n 1, 1) := by decide +kernel
theorem d_Model_clear_16 : decode c_Model_clear 16 = .ok (.ireturn, 1) := by decide +kernel
theorem d_Model_t_0 : decode c_Model_t 0 = .ok (.iload_n 1, 1) := by decide +kernel
theorem d_Model_t_1 : decode c_Model_t 1 = .ok (.aload_n 0, 1) := by decide +kernel
theorem d_Model_t_2 : decode c_Model_t 2 = .ok (.getfield 87, 3) := by decide +kernel
theorem d_Model_t_5 : decode c_Model_t 5 = .ok (.if_icmp .ge 12, 3) := by decide +kernel
theorem d_Model_t_8 : decode c_Model_t 8 = .ok (.aload_n 0, 1) := by decide +kernel
theorem d_Model_t_9 : decode c_Model_t 9 = .ok (.getfield 13, 3) := by decide +kernel
theorem d_Model_t_12 : decode c_Model_t 12 = .ok (.iload_n 1, 1) := by decide +kernel
theorem d_Model_t_13 : decode c_Model_t 13 = .ok (.iaload, 1) := by decide +kernel
theorem d_Model_t_14 : decode c_Model_t 14 = .ok (.goto 4, 3) := by decide +kernel
theorem d_Model_t_17 : decode c_Model_t 17 = .ok (.iconst 0, 1) := by decide +kernel
theorem d_Model_t_18 : decode c_Model_t 18 = .ok (.ireturn, 1) := by decide +kernel
theorem d_Model_closing_0 : decode c_Model_closing 0 = .ok (.iconst 0, 1) := by decide +kernel
theorem d_Model_closing_1 : decode c_Model_closing 1 = .ok (.istore_n 2, 1) := by decide +kernel
theorem d_Model_closing_2 : decode c_Model_closing 2 = .ok (.iload_n 1, 1) := by decide +kernel
theorem d_Model_closing_3 : decode c_Model_closing 3 = .ok (.istore_n 3, 1) := by decide +kernel
theorem d_Model_closing_4 : decode c_Model_closing 4 = .ok (.iload_n 3, 1) := by decide +kernel
theorem d_Model_closing_5 : decode c_Model_closing 5 = .ok (.aload_n 0, 1) := by decide +kernel
theorem d_Model_closing_6 : decode c_Model_closing 6 = .ok (.getfield 87, 3) := by decide +kernel
theorem d_Model_closing_9 : decode c_Model_closing 9 = .ok (.if_icmp .ge 43, 3) := by decide +kernel
theorem d_Model_closing_12 : decode c_Model_closing 12 = .ok (.aload_n 0, 1) := by decide +kernel
theorem d_Model_closing_13 : decode c_Model_closing 13 = .ok (.getfield 13, 3) := by decide +kernel
theorem d_Model_closing_16 : decode c_Model_closing 16 = .ok (.iload_n 3, 1) := by decide +kernel
theorem d_Model_closing_17 : decode c_Model_closing 17 = .ok (.iaload, 1) := by decide +kernel
theorem d_Model_closing_18 : decode c_Model_closing 18 = .ok (.bipush 40, 2) := by decide +kernel
theorem d_Model_closing_20 : decode c_Model_closing 20 = .ok (.if_icmp .ne 6, 3) := by decide +kernel
theorem d_Model_closing_23 : decode c_Model_closing 23 = .ok (.iinc 2 1, 3) := by decide +kernel
theorem d_Model_closing_26 : decode c_Model_closing 26 = .ok (.aload_n 0, 1) := by decide +kernel
theorem d_Model_closing_27 : decode c_Model_closing 27 = .ok (.getfield 13, 3) := by decide +kernel
theorem d_Model_closing_30 : decode c_Model_closing 30 = .ok (.iload_n 3, 1) := by decide +kernel
theorem d_Model_closing_31 : decode c_Model_closing 31 = .ok (.iaload, 1) := by decide +kernel
theorem d_Model_closing_32 : decode c_Model_closing 32 = .ok (.bipush 41, 2) := by decide +kernel
theorem d_Model_closing_34 : decode c_Model_closing 34 = .ok (.if_icmp .ne 6, 3) := by decide +kernel
theorem d_Model_closing_37 : decode c_Model_closing 37 = .ok (.iinc 2 (-1), 3) := by decide +kernel
theorem d_Model_closing_40 : decode c_Model_closing 40 = .ok (.iload_n 2, 1) := by decide +kernel
theorem d_Model_closing_41 : decode c_Model_closing 41 = .ok (.ifCond .ne 5, 3) := by decide +kernel
theorem d_Model_closing_44 : decode c_Model_closing 44 = .ok (.iload_n 3, 1) := by decide +kernel
theorem d_Model_closing_45 : decode c_Model_closing 45 = .ok (.ireturn, 1) := by decide +kernel
theorem d_Model_closing_46 : decode c_Model_closing 46 = .ok (.iinc 3 1, 3) := by decide +kernel
theorem d_Model_closing_49 : decode c_Model_closing 49 = .ok (.goto (-45), 3) := by decide +kernel
theorem d_Model_closing_52 : decode c_Model_closing 52 = .ok (.aload_n 0, 1) := by decide +kernel
theorem d_Model_closing_53 : decode c_Model_closing 53 = .ok (.getfield 87, 3) := by decide +kernel
theorem d_Model_closing_56 : decode c_Model_closing 56 = .ok (.ireturn, 1) := by decide +kernel
theorem d_Model_behindAtom_0 : decode c_Model_behindAtom 0 = .ok (.aload_n 0, 1) := by decide +kernel
theorem d_Model_behindAtom_1 : decode c_Model_behindAtom 1 = .ok (.iload_n 1, 1) := by decide +kernel
theorem d_Model_behindAtom_2 : decode c_Model_behindAtom 2 = .ok (.invokevirtual 102, 3) := by decide +kernel
theorem d_Model_behindAtom_5 : decode c_Model_behindAtom 5 = .ok (.bipush 40, 2) := by decide +kernel
theorem d_Model_behindAtom_7 : decode c_Model_behindAtom 7 = .ok (.if_icmp .ne 11, 3) := by decide +kernel
theorem d_Model_behindAtom_10 : decode c_Model_behindAtom 10 = .ok (.aload_n 0, 1) := by decide +kernel
theorem d_Model_behindAtom_11 : decode c_Model_behindAtom 11 = .ok (.iload_n 1, 1) := by decide +kernel
theorem d_Model_behindAtom_12 : decode c_Model_behindAtom 12 = .ok (.invokevirtual 105, 3) := by decide +kernel
theorem d_Model_behindAtom_15 : decode c_Model_behindAtom 15 = .ok (.iconst 1, 1) := by decide +kernel
theorem d_Model_behindAtom_16 : decode c_Model_behindAtom 16 = .ok (.iadd, 1) := by decide +kernel
theorem d_Model_behindAtom_17 : decode c_Model_behindAtom 17 = .ok (.ireturn, 1) := by decide +kernel
theorem d_Model_behindAtom_18 : decode c_Model_behindAtom 18 = .ok (.aload_n 0, 1) := by decide +kernel
theorem d_Model_behindAtom_19 : decode c_Model_behindAtom 19 = .ok (.iload_n 1, 1) := by decide +kernel
theorem d_Model_behindAtom_20 : decode c_Model_behindAtom 20 = .ok (.invokevirtual 102, 3) := by decide +kernel
theorem d_Model_behindAtom_23 : decode c_Model_behindAtom 23 = .ok (.bipush 92, 2) := by decide +kernel
theorem d_Model_behindAtom_25 : decode c_Model_behindAtom 25 = .ok (.if_icmp .ne 7, 3) := by decide +kernel
theorem d_Model_behindAtom_28 : decode c_Model_behindAtom 28 = .ok (.iload_n 1, 1) := by decide +kernel
theorem d_Model_behindAtom_29 : decode c_Model_behindAtom 29 = .ok (.iconst 2, 1) := by decide +kernel
theorem d_Model_behindAtom_30 : decode c_Model_behindAtom 30 = .ok (.iadd, 1) := by decide +kernel
theorem d_Model_behindAtom_31 : decode c_Model_behindAtom 31 = .ok (.ireturn, 1) := by decide +kernel
theorem d_Model_behindAtom_32 : decode c_Model_behindAtom 32 = .ok (.iload_n 1, 1) := by decide +kernel
theorem d_Model_behindAtom_33 : decode c_Model_behindAtom 33 = .ok (.istore_n 2, 1) := by decide +kernel
theorem d_Model_behindAtom_34 : decode c_Model_behindAtom 34 = .ok (.aload_n 0, 1) := by decide +kernel
theorem d_Model_behindAtom_35 : decode c_Model_behindAtom 35 = .ok (.iload_n 1, 1) := by decide +kernel
theorem d_Model_behindAtom_36 : decode c_Model_behindAtom 36 = .ok (.invokevirtual 102, 3) := by decide +kernel
theorem d_Model_behindAtom_39 : decode c_Model_behindAtom 39 = .ok (.bipush 91, 2) := by decide +kernel
theorem d_Model_behindAtom_41 : decode c_Model_behindAtom 41 = .ok (.if_icmp .ne 27, 3) := by decide +kernel
theorem d_Model_behindAtom_44 : decode c_Model_behindAtom 44 = .ok (.aload_n 0, 1) := by decide +kernel
theorem d_Model_behindAtom_45 : decode c_Model_behindAtom 45 = .ok (.iload_n 2, 1) := by decide +kernel
theorem d_Model_behindAtom_46 : decode c_Model_behindAtom 46 = .ok (.invokevirtual 102, 3) := by decide +kernel
theorem d_Model_behindAtom_49 : decode c_Model_behindAtom 49 = .ok (.bipush 93, 2) := by decide +kernel
theorem d_Model_behindAtom_51 : decode c_Model_behindAtom 51 = .ok (.if_icmp .eq 17, 3) := by decide +kernel
theorem d_Model_behindAtom_54 : decode c_Model_behindAtom 54 = .ok (.iload_n 2, 1) := by decide +kernel
theorem d_Model_behindAtom_55 : decode c_Model_behindAtom 55 = .ok (.aload_n 0, 1) := by decide +kernel
theorem d_Model_behindAtom_56 : decode c_Model_behindAtom 56 = .ok (.getfield 87, 3) := by decide +kernel
theorem d_Model_behindAtom_59 : decode c_Model_behindAtom 59 = .ok (.if_icmp .ge 9, 3) := by decide +kernel
theorem d_Model_behindAtom_62 : decode c_Model_behindAtom 62 = .ok (.iinc 2 1, 3) := by decide +kernel
theorem d_Model_behindAtom_65 : decode c_Model_behindAtom 65 = .ok (.goto (-21), 3) := by decide +kernel
theorem d_Model_behindAtom_68 : decode c_Model_behindAtom 68 = .ok (.iload_n 2, 1) := by decide +kernel
theorem d_Model_behindAtom_69 : decode c_Model_behindAtom 69 = .ok (.iconst 1, 1) := by decide +kernel
theorem d_Model_behindAtom_70 : decode c_Model_behindAtom 70 = .ok (.iadd, 1) := by decide +kernel
theorem d_Model_behindAtom_71 : decode c_Model_behindAtom 71 = .ok (.ireturn, 1) := by decide +kernel
theorem d_Model_rowEnds_0 : decode c_Model_rowEnds 0 = .ok (.iload_n 1, 1) := by decide +kernel
theorem d_Model_rowEnds_1 : decode c_Model_rowEnds 1 = .ok (.aload_n 0, 1) := by decide +kernel
theorem d_Model_rowEnds_2 : decode c_Model_rowEnds 2 = .ok (.getfield 87, 3) := by decide +kernel
theorem d_Model_rowEnds_5 : decode c_Model_rowEnds 5 = .ok (.if_icmp .ge 23, 3) := by decide +kernel
theorem d_Model_rowEnds_8 : decode c_Model_rowEnds 8 = .ok (.aload_n 0, 1) := by decide +kernel
theorem d_Model_rowEnds_9 : decode c_Model_rowEnds 9 = .ok (.iload_n 1, 1) := by decide +kernel
theorem d_Model_rowEnds_10 : decode c_Model_rowEnds 10 = .ok (.invokevirtual 102, 3) := by decide +kernel
theorem d_Model_rowEnds_13 : decode c_Model_rowEnds 13 = .ok (.bipush 124, 2) := by decide +kernel
theorem d_Model_rowEnds_15 : decode c_Model_rowEnds 15 = .ok (.if_icmp .eq 13, 3) := by decide +kernel
theorem d_Model_rowEnds_18 : decode c_Model_rowEnds 18 = .ok (.aload_n 0, 1) := by decide +kernel
theorem d_Model_rowEnds_19 : decode c_Model_rowEnds 19 = .ok (.iload_n 1, 1) := by decide +kernel
theorem d_Model_rowEnds_20 : decode c_Model_rowEnds 20 = .ok (.invokevirtual 102, 3) := by decide +kernel
theorem d_Model_rowEnds_23 : decode c_Model_rowEnds 23 = .ok (.bipush 41, 2) := by decide +kernel
theorem d_Model_rowEnds_25 : decode c_Model_rowEnds 25 = .ok (.if_icmp .ne 7, 3) := by decide +kernel
theorem d_Model_rowEnds_28 : decode c_Model_rowEnds 28 = .ok (.iconst 1, 1) := by decide +kernel
theorem d_Model_rowEnds_29 : decode c_Model_rowEnds 29 = .ok (.goto 4, 3) := by decide +kernel
theorem d_Model_rowEnds_32 : decode c_Model_rowEnds 32 = .ok (.iconst 0, 1) := by decide +kernel
theorem d_Model_rowEnds_33 : decode c_Model_rowEnds 33 = .ok (.ireturn, 1) := by decide +kernel
theorem d_Model_nextRow_0 : decode c_Model_nextRow 0 = .ok (.iload_n 1, 1) := by decide +kernel
theorem d_Model_nextRow_1 : decode c_Model_nextRow 1 = .ok (.istore_n 2, 1) := by decide +kernel
theorem d_Model_nextRow_2 : decode c_Model_nextRow 2 = .ok (.aload_n 0, 1) := by decide +kernel
theorem d_Model_nextRow_3 : decode c_Model_nextRow 3 = .ok (.iload_n 2, 1) := by decide +kernel
theorem d_Model_nextRow_4 : decode c_Model_nextRow 4 = .ok (.invokevirtual 108, 3) := by decide +kernel
theorem d_Model_nextRow_7 : decode c_Model_nextRow 7 = .ok (.ifCond .ne 48, 3) := by decide +kernel
theorem d_Model_nextRow_10 : decode c_Model_nextRow 10 = .ok (.aload_n 0, 1) := by decide +kernel
theorem d_Model_nextRow_11 : decode c_Model_nextRow 11 = .ok (.iload_n 2, 1) := by decide +kernel
theorem d_Model_nextRow_12 : decode c_Model_nextRow 12 = .ok (.invokevirtual 102, 3) := by decide +kernel
theorem d_Model_nextRow_15 : decode c_Model_nextRow 15 = .ok (.bipush 40, 2) := by decide +kernel
theorem d_Model_nextRow_17 : decode c_Model_nextRow 17 = .ok (.if_icmp .eq 23, 3) := by decide +kernel
theorem d_Model_nextRow_20 : decode c_Model_nextRow 20 = .ok (.aload_n 0, 1) := by decide +kernel
theorem d_Model_nextRow_21 : decode c_Model_nextRow 21 = .ok (.iload_n 2, 1) := by decide +kernel
theorem d_Model_nextRow_22 : decode c_Model_nextRow 22 = .ok (.invokevirtual 102, 3) := by decide +kernel
theorem d_Model_nextRow_25 : decode c_Model_nextRow 25 = .ok (.bipush 91, 2) := by decide +kernel
theorem d_Model_nextRow_27 : decode c_Model_nextRow 27 = .ok (.if_icmp .eq 13, 3) := by decide +kernel
theorem d_Model_nextRow_30 : decode c_Model_nextRow 30 = .ok (.aload_n 0, 1) := by decide +kernel
theorem d_Model_nextRow_31 : decode c_Model_nextRow 31 = .ok (.iload_n 2, 1) := by decide +kernel
theorem d_Model_nextRow_32 : decode c_Model_nextRow 32 = .ok (.invokevirtual 102, 3) := by decide +kernel
theorem d_Model_nextRow_35 : decode c_Model_nextRow 35 = .ok (.bipush 92, 2) := by decide +kernel
theorem d_Model_nextRow_37 : decode c_Model_nextRow 37 = .ok (.if_icmp .ne 11, 3) := by decide +kernel
theorem d_Model_nextRow_40 : decode c_Model_nextRow 40 = .ok (.aload_n 0, 1) := by decide +kernel
theorem d_Model_nextRow_41 : decode c_Model_nextRow 41 = .ok (.iload_n 2, 1) := by decide +kernel
theorem d_Model_nextRow_42 : decode c_Model_nextRow 42 = .ok (.invokevirtual 111, 3) := by decide +kernel
theorem d_Model_nextRow_45 : decode c_Model_nextRow 45 = .ok (.goto 6, 3) := by decide +kernel
theorem d_Model_nextRow_48 : decode c_Model_nextRow 48 = .ok (.iload_n 2, 1) := by decide +kernel
theorem d_Model_nextRow_49 : decode c_Model_nextRow 49 = .ok (.iconst 1, 1) := by decide +kernel
theorem d_Model_nextRow_50 : decode c_Model_nextRow 50 = .ok (.iadd, 1) := by decide +kernel
theorem d_Model_nextRow_51 : decode c_Model_nextRow 51 = .ok (.istore_n 2, 1) := by decide +kernel
theorem d_Model_nextRow_52 : decode c_Model_nextRow 52 = .ok (.goto (-50), 3) := by decide +kernel
theorem d_Model_nextRow_55 : decode c_Model_nextRow 55 = .ok (.aload_n 0, 1) := by decide +kernel
theorem d_Model_nextRow_56 : decode c_Model_nextRow 56 = .ok (.iload_n 2, 1) := by decide +kernel
theorem d_Model_nextRow_57 : decode c_Model_nextRow 57 = .ok (.invokevirtual 102, 3) := by decide +kernel
theorem d_Model_nextRow_60 : decode c_Model_nextRow 60 = .ok (.bipush 124, 2) := by decide +kernel
theorem d_Model_nextRow_62 : decode c_Model_nextRow 62 = .ok (.if_icmp .ne 9, 3) := by decide +kernel
theorem d_Model_nextRow_65 : decode c_Model_nextRow 65 = .ok (.iload_n 2, 1) := by decide +kernel
theorem d_Model_nextRow_66 : decode c_Model_nextRow 66 = .ok (.iconst 1, 1) := by decide +kernel
theorem d_Model_nextRow_67 : decode c_Model_nextRow 67 = .ok (.iadd, 1) := by decide +kernel
theorem d_Model_nextRow_68 : decode c_Model_nextRow 68 = .ok (.goto 4, 3) := by decide +kernel
theorem d_Model_nextRow_71 : decode c_Model_nextRow 71 = .ok (.iconst (-1), 1) := by decide +kernel
theorem d_Model_nextRow_72 : decode c_Model_nextRow 72 = .ok (.ireturn, 1) := by decide +kernel
theorem d_Model_choiceOf_0 : decode c_Model_choiceOf 0 = .ok (.iload_n 1, 1) := by decide +kernel
theorem d_Model_choiceOf_1 : decode c_Model_choiceOf 1 = .ok (.istore_n 2, 1) := by decide +kernel
theorem d_Model_choiceOf_2 : decode c_Model_choiceOf 2 = .ok (.iconst 0, 1) := by decide +kernel
theorem d_Model_choiceOf_3 : decode c_Model_choiceOf 3 = .ok (.istore_n 3, 1) := by decide +kernel
theorem d_Model_choiceOf_4 : decode c_Model_choiceOf 4 = .ok (.iload_n 3, 1) := by decide +kernel
theorem d_Model_choiceOf_5 : decode c_Model_choiceOf 5 = .ok (.aload_n 0, 1) := by decide +kernel
theorem d_Model_choiceOf_6 : decode c_Model_choiceOf 6 = .ok (.getfield 87, 3) := by decide +kernel
theorem d_Model_choiceOf_9 : decode c_Model_choiceOf 9 = .ok (.if_icmp .ge 46, 3) := by decide +kernel
theorem d_Model_choiceOf_12 : decode c_Model_choiceOf 12 = .ok (.iload_n 2, 1) := by decide +kernel
theorem d_Model_choiceOf_13 : decode c_Model_choiceOf 13 = .ok (.ifCond .le 42, 3) := by decide +kernel
theorem d_Model_choiceOf_16 : decode c_Model_choiceOf 16 = .ok (.aload_n 0, 1) := by decide +kernel
theorem d_Model_choiceOf_17 : decode c_Model_choiceOf 17 = .ok (.iload_n 3, 1) := by decide +kernel
theorem d_Model_choiceOf_18 : decode c_Model_choiceOf 18 = .ok (.invokevirtual 102, 3) := by decide +kernel
theorem d_Model_choiceOf_21 : decode c_Model_choiceOf 21 = .ok (.bipush 40, 2) := by decide +kernel
theorem d_Model_choiceOf_23 : decode c_Model_choiceOf 23 = .ok (.if_icmp .ne 18, 3) := by decide +kernel
theorem d_Model_choiceOf_26 : decode c_Model_choiceOf 26 = .ok (.aload_n 0, 1) := by decide +kernel
theorem d_Model_choiceOf_27 : decode c_Model_choiceOf 27 = .ok (.iload_n 3, 1) := by decide +kernel
theorem d_Model_choiceOf_28 : decode c_Model_choiceOf 28 = .ok (.iconst 1, 1) := by decide +kernel
theorem d_Model_choiceOf_29 : decode c_Model_choiceOf 29 = .ok (.iadd, 1) := by decide +kernel
theorem d_Model_choiceOf_30 : decode c_Model_choiceOf 30 = .ok (.invokevirtual 102, 3) := by decide +kernel
theorem d_Model_choiceOf_33 : decode c_Model_choiceOf 33 = .ok (.bipush 63, 2) := by decide +kernel
theorem d_Model_choiceOf_35 : decode c_Model_choiceOf 35 = .ok (.if_icmp .eq 6, 3) := by decide +kernel
theorem d_Model_choiceOf_38 : decode c_Model_choiceOf 38 = .ok (.iinc 2 (-1), 3) := by decide +kernel
theorem d_Model_choiceOf_41 : decode c_Model_choiceOf 41 = .ok (.iload_n 2, 1) := by decide +kernel
theorem d_Model_choiceOf_42 : decode c_Model_choiceOf 42 = .ok (.ifCond .ne 7, 3) := by decide +kernel
theorem d_Model_choiceOf_45 : decode c_Model_choiceOf 45 = .ok (.iload_n 3, 1) := by decide +kernel
theorem d_Model_choiceOf_46 : decode c_Model_choiceOf 46 = .ok (.iconst 1, 1) := by decide +kernel
theorem d_Model_choiceOf_47 : decode c_Model_choiceOf 47 = .ok (.iadd, 1) := by decide +kernel
theorem d_Model_choiceOf_48 : decode c_Model_choiceOf 48 = .ok (.ireturn, 1) := by decide +kernel
theorem d_Model_choiceOf_49 : decode c_Model_choiceOf 49 = .ok (.iinc 3 1, 3) := by decide +kernel
theorem d_Model_choiceOf_52 : decode c_Model_choiceOf 52 = .ok (.goto (-48), 3) := by decide +kernel
theorem d_Model_choiceOf_55 : decode c_Model_choiceOf 55 = .ok (.iconst 0, 1) := by decide +kernel
theorem d_Model_choiceOf_56 : decode c_Model_choiceOf 56 = .ok (.ireturn, 1) := by decide +kernel
theorem d_Model_groupAt_0 : decode c_Model_groupAt 0 = .ok (.iconst 0, 1) := by decide +kernel
theorem d_Model_groupAt_1 : decode c_Model_groupAt 1 = .ok (.istore_n 2, 1) := by decide +kernel
theorem d_Model_groupAt_2 : decode c_Model_groupAt 2 = .ok (.iconst 0, 1) := by decide +kernel
theorem d_Model_groupAt_3 : decode c_Model_groupAt 3 = .ok (.istore_n 3, 1) := by decide +kernel
theorem d_Model_groupAt_4 : decode c_Model_groupAt 4 = .ok (.iload_n 3, 1) := by decide +kernel
theorem d_Model_groupAt_5 : decode c_Model_groupAt 5 = .ok (.iload_n 1, 1) := by decide +kernel
theorem d_Model_groupAt_6 : decode c_Model_groupAt 6 = .ok (.if_icmp .gt 34, 3) := by decide +kernel
theorem d_Model_groupAt_9 : decode c_Model_groupAt 9 = .ok (.aload_n 0, 1) := by decide +kernel
theorem d_Model_groupAt_10 : decode c_Model_groupAt 10 = .ok (.iload_n 3, 1) := by decide +kernel
theorem d_Model_groupAt_11 : decode c_Model_groupAt 11 = .ok (.invokevirtual 102, 3) := by decide +kernel
theorem d_Model_groupAt_14 : decode c_Model_groupAt 14 = .ok (.bipush 40, 2) := by decide +kernel
theorem d_Model_groupAt_16 : decode c_Model_groupAt 16 = .ok (.if_icmp .ne 18, 3) := by decide +kernel
theorem d_Model_groupAt_19 : decode c_Model_groupAt 19 = .ok (.aload_n 0, 1) := by decide +kernel
theorem d_Model_groupAt_20 : decode c_Model_groupAt 20 = .ok (.iload_n 3, 1) := by decide +kernel
theorem d_Model_groupAt_21 : decode c_Model_groupAt 21 = .ok (.iconst 1, 1) := by decide +kernel
theorem d_Model_groupAt_22 : decode c_Model_groupAt 22 = .ok (.iadd, 1) := by decide +kernel
theorem d_Model_groupAt_23 : decode c_Model_groupAt 23 = .ok (.invokevirtual 102, 3) := by decide +kernel
theorem d_Model_groupAt_26 : decode c_Model_groupAt 26 = .ok (.bipush 63, 2) := by decide +kernel
theorem d_Model_groupAt_28 : decode c_Model_groupAt 28 = .ok (.if_icmp .eq 6, 3) := by decide +kernel
theorem d_Model_groupAt_31 : decode c_Model_groupAt 31 = .ok (.iinc 2 1, 3) := by decide +kernel
theorem d_Model_groupAt_34 : decode c_Model_groupAt 34 = .ok (.iinc 3 1, 3) := by decide +kernel
theorem d_Model_groupAt_37 : decode c_Model_groupAt 37 = .ok (.goto (-33), 3) := by decide +kernel
theorem d_Model_groupAt_40 : decode c_Model_groupAt 40 = .ok (.iload_n 2, 1) := by decide +kernel
theorem d_Model_groupAt_41 : decode c_Model_groupAt 41 = .ok (.ireturn, 1) := by decide +kernel
theorem d_Model_push_0 : decode c_Model_push 0 = .ok (.aload_n 0, 1) := by decide +kernel
theorem d_Model_push_1 : decode c_Model_push 1 = .ok (.dup, 1) := by decide +kernel
theorem d_Model_push_2 : decode c_Model_push 2 = .ok (.getfield 114, 3) := by decide +kernel
theorem d_Model_push_5 : decode c_Model_push 5 = .ok (.iconst 1, 1) := by decide +kernel
theorem d_Model_push_6 : decode c_Model_push 6 = .ok (.iadd, 1) := by decide +kernel
theorem d_Model_push_7 : decode c_Model_push 7 = .ok (.putfield 114, 3) := by decide +kernel
theorem d_Model_push_10 : decode c_Model_push 10 = .ok (.aload_n 0, 1) := by decide +kernel
theorem d_Model_push_11 : decode c_Model_push 11 = .ok (.getfield 22, 3) := by decide +kernel
theorem d_Model_push_14 : decode c_Model_push 14 = .ok (.aload_n 0, 1) := by decide +kernel
theorem d_Model_push_15 : decode c_Model_push 15 = .ok (.getfield 114, 3) := by decide +kernel
theorem d_Model_push_18 : decode c_Model_push 18 = .ok (.iload_n 1, 1) := by decide +kernel
theorem d_Model_push_19 : decode c_Model_push 19 = .ok (.iload_n 2, 1) := by decide +kernel
theorem d_Model_push_20 : decode c_Model_push 20 = .ok (.iconst 4, 1) := by decide +kernel
theorem d_Model_push_21 : decode c_Model_push 21 = .ok (.ishl, 1) := by decide +kernel
theorem d_Model_push_22 : decode c_Model_push 22 = .ok (.ior, 1) := by decide +kernel
theorem d_Model_push_23 : decode c_Model_push 23 = .ok (.iload_n 3, 1) := by decide +kernel
theorem d_Model_push_24 : decode c_Model_push 24 = .ok (.bipush 10, 2) := by decide +kernel
theorem d_Model_push_26 : decode c_Model_push 26 = .ok (.ishl, 1) := by decide +kernel
theorem d_Model_push_27 : decode c_Model_push 27 = .ok (.ior, 1) := by decide +kernel
theorem d_Model_push_28 : decode c_Model_push 28 = .ok (.i2l, 1) := by decide +kernel
theorem d_Model_push_29 : decode c_Model_push 29 = .ok (.iload 4, 2) := by decide +kernel
theorem d_Model_push_31 : decode c_Model_push 31 = .ok (.i2l, 1) := by decide +kernel
theorem d_Model_push_32 : decode c_Model_push 32 = .ok (.bipush 23, 2) := by decide +kernel
theorem d_Model_push_34 : decode c_Model_push 34 = .ok (.lshl, 1) := by decide +kernel
theorem d_Model_push_35 : decode c_Model_push 35 = .ok (.lor, 1) := by decide +kernel
theorem d_Model_push_36 : decode c_Model_push 36 = .ok (.lastore, 1) := by decide +kernel
theorem d_Model_push_37 : decode c_Model_push 37 = .ok (.aload_n 0, 1) := by decide +kernel
theorem d_Model_push_38 : decode c_Model_push 38 = .ok (.getfield 114, 3) := by decide +kernel
theorem d_Model_push_41 : decode c_Model_push 41 = .ok (.ireturn, 1) := by decide +kernel
theorem d_Model_kindOf_0 : decode c_Model_kindOf 0 = .ok (.aload_n 0, 1) := by decide +kernel
theorem d_Model_kindOf_1 : decode c_Model_kindOf 1 = .ok (.getfield 22, 3) := by decide +kernel
theorem d_Model_kindOf_4 : decode c_Model_kindOf 4 = .ok (.iload_n 1, 1) := by decide +kernel
theorem d_Model_kindOf_5 : decode c_Model_kindOf 5 = .ok (.laload, 1) := by decide +kernel
theorem d_Model_kindOf_6 : decode c_Model_kindOf 6 = .ok (.l2i, 1) := by decide +kernel
theorem d_Model_kindOf_7 : decode c_Model_kindOf 7 = .ok (.bipush 15, 2) := by decide +kernel
theorem d_Model_kindOf_9 : decode c_Model_kindOf 9 = .ok (.iand, 1) := by decide +kernel
theorem d_Model_kindOf_10 : decode c_Model_kindOf 10 = .ok (.ireturn, 1) := by decide +kernel
theorem d_Model_placeOf_0 : decode c_Model_placeOf 0 = .ok (.aload_n 0, 1) := by decide +kernel
theorem d_Model_placeOf_1 : decode c_Model_placeOf 1 = .ok (.getfield 22, 3) := by decide +kernel
theorem d_Model_placeOf_4 : decode c_Model_placeOf 4 = .ok (.iload_n 1, 1) := by decide +kernel
theorem d_Model_placeOf_5 : decode c_Model_placeOf 5 = .ok (.laload, 1) := by decide +kernel
theorem d_Model_placeOf_6 : decode c_Model_placeOf 6 = .ok (.iconst 4, 1) := by decide +kernel
theorem d_Model_placeOf_7 : decode c_Model_placeOf 7 = .ok (.lshr, 1) := by decide +kernel
theorem d_Model_placeOf_8 : decode c_Model_placeOf 8 = .ok (.l2i, 1) := by decide +kernel
theorem d_Model_placeOf_9 : decode c_Model_placeOf 9 = .ok (.bipush 63, 2) := by decide +kernel
theorem d_Model_placeOf_11 : decode c_Model_placeOf 11 = .ok (.iand, 1) := by decide +kernel
theorem d_Model_placeOf_12 : decode c_Model_placeOf 12 = .ok (.ireturn, 1) := by decide +kernel
theorem d_Model_numberOf_0 : decode c_Model_numberOf 0 = .ok (.aload_n 0, 1) := by decide +kernel
theorem d_Model_numberOf_1 : decode c_Model_numberOf 1 = .ok (.getfield 22, 3) := by decide +kernel
theorem d_Model_numberOf_4 : decode c_Model_numberOf 4 = .ok (.iload_n 1, 1) := by decide +kernel
theorem d_Model_numberOf_5 : decode c_Model_numberOf 5 = .ok (.laload, 1) := by decide +kernel
theorem d_Model_numberOf_6 : decode c_Model_numberOf 6 = .ok (.bipush 10, 2) := by decide +kernel
theorem d_Model_numberOf_8 : decode c_Model_numberOf 8 = .ok (.lshr, 1) := by decide +kernel
theorem d_Model_numberOf_9 : decode c_Model_numberOf 9 = .ok (.l2i, 1) := by decide +kernel
theorem d_Model_numberOf_10 : decode c_Model_numberOf 10 = .ok (.sipush 8191, 3) := by decide +kernel
theorem d_Model_numberOf_13 : decode c_Model_numberOf 13 = .ok (.iand, 1) := by decide +kernel
theorem d_Model_numberOf_14 : decode c_Model_numberOf 14 = .ok (.ireturn, 1) := by decide +kernel
theorem d_Model_parentOf_0 : decode c_Model_parentOf 0 = .ok (.aload_n 0, 1) := by decide +kernel
theorem d_Model_parentOf_1 : decode c_Model_parentOf 1 = .ok (.getfield 22, 3) := by decide +kernel
theorem d_Model_parentOf_4 : decode c_Model_parentOf 4 = .ok (.iload_n 1, 1) := by decide +kernel
theorem d_Model_parentOf_5 : decode c_Model_parentOf 5 = .ok (.laload, 1) := by decide +kernel
theorem d_Model_parentOf_6 : decode c_Model_parentOf 6 = .ok (.bipush 23, 2) := by decide +kernel
theorem d_Model_parentOf_8 : decode c_Model_parentOf 8 = .ok (.lshr, 1) := by decide +kernel
theorem d_Model_parentOf_9 : decode c_Model_parentOf 9 = .ok (.l2i, 1) := by decide +kernel
theorem d_Model_parentOf_10 : decode c_Model_parentOf 10 = .ok (.sipush 8191, 3) := by decide +kernel
theorem d_Model_parentOf_13 : decode c_Model_parentOf 13 = .ok (.iand, 1) := by decide +kernel
theorem d_Model_parentOf_14 : decode c_Model_parentOf 14 = .ok (.ireturn, 1) := by decide +kernel
theorem d_Model_pushBack_0 : decode c_Model_pushBack 0 = .ok (.aload_n 0, 1) := by decide +kernel
theorem d_Model_pushBack_1 : decode c_Model_pushBack 1 = .ok (.getfield 29, 3) := by decide +kernel
theorem d_Model_pushBack_4 : decode c_Model_pushBack 4 = .ok (.aload_n 0, 1) := by decide +kernel
theorem d_Model_pushBack_5 : decode c_Model_pushBack 5 = .ok (.getfield 117, 3) := by decide +kernel
theorem d_Model_pushBack_8 : decode c_Model_pushBack 8 = .ok (.iload_n 1, 1) := by decide +kernel
theorem d_Model_pushBack_9 : decode c_Model_pushBack 9 = .ok (.iload_n 2, 1) := by decide +kernel
theorem d_Model_pushBack_10 : decode c_Model_pushBack 10 = .ok (.iconst 3, 1) := by decide +kernel
theorem d_Model_pushBack_11 : decode c_Model_pushBack 11 = .ok (.ishl, 1) := by decide +kernel
theorem d_Model_pushBack_12 : decode c_Model_pushBack 12 = .ok (.ior, 1) := by decide +kernel
theorem d_Model_pushBack_13 : decode c_Model_pushBack 13 = .ok (.aload_n 0, 1) := by decide +kernel
theorem d_Model_pushBack_14 : decode c_Model_pushBack 14 = .ok (.getfield 120, 3) := by decide +kernel
theorem d_Model_pushBack_17 : decode c_Model_pushBack 17 = .ok (.bipush 9, 2) := by decide +kernel
theorem d_Model_pushBack_19 : decode c_Model_pushBack 19 = .ok (.ishl, 1) := by decide +kernel
theorem d_Model_pushBack_20 : decode c_Model_pushBack 20 = .ok (.ior, 1) := by decide +kernel
theorem d_Model_pushBack_21 : decode c_Model_pushBack 21 = .ok (.i2l, 1) := by decide +kernel
theorem d_Model_pushBack_22 : decode c_Model_pushBack 22 = .ok (.iload_n 3, 1) := by decide +kernel
theorem d_Model_pushBack_23 : decode c_Model_pushBack 23 = .ok (.i2l, 1) := by decide +kernel
theorem d_Model_pushBack_24 : decode c_Model_pushBack 24 = .ok (.bipush 15, 2) := by decide +kernel
theorem d_Model_pushBack_26 : decode c_Model_pushBack 26 = .ok (.lshl, 1) := by decide +kernel
theorem d_Model_pushBack_27 : decode c_Model_pushBack 27 = .ok (.lor, 1) := by decide +kernel
theorem d_Model_pushBack_28 : decode c_Model_pushBack 28 = .ok (.aload_n 0, 1) := by decide +kernel
theorem d_Model_pushBack_29 : decode c_Model_pushBack 29 = .ok (.getfield 114, 3) := by decide +kernel
theorem d_Model_pushBack_32 : decode c_Model_pushBack 32 = .ok (.i2l, 1) := by decide +kernel
theorem d_Model_pushBack_33 : decode c_Model_pushBack 33 = .ok (.bipush 28, 2) := by decide +kernel
theorem d_Model_pushBack_35 : decode c_Model_pushBack 35 = .ok (.lshl, 1) := by decide +kernel
theorem d_Model_pushBack_36 : decode c_Model_pushBack 36 = .ok (.lor, 1) := by decide +kernel
theorem d_Model_pushBack_37 : decode c_Model_pushBack 37 = .ok (.lastore, 1) := by decide +kernel
theorem d_Model_pushBack_38 : decode c_Model_pushBack 38 = .ok (.aload_n 0, 1) := by decide +kernel
theorem d_Model_pushBack_39 : decode c_Model_pushBack 39 = .ok (.getfield 32, 3) := by decide +kernel
theorem d_Model_pushBack_42 : decode c_Model_pushBack 42 = .ok (.aload_n 0, 1) := by decide +kernel
theorem d_Model_pushBack_43 : decode c_Model_pushBack 43 = .ok (.getfield 117, 3) := by decide +kernel
theorem d_Model_pushBack_46 : decode c_Model_pushBack 46 = .ok (.aload_n 0, 1) := by decide +kernel
theorem d_Model_pushBack_47 : decode c_Model_pushBack 47 = .ok (.getfield 123, 3) := by decide +kernel
theorem d_Model_pushBack_50 : decode c_Model_pushBack 50 = .ok (.lastore, 1) := by decide +kernel
theorem d_Model_pushBack_51 : decode c_Model_pushBack 51 = .ok (.aload_n 0, 1) := by decide +kernel
theorem d_Model_pushBack_52 : decode c_Model_pushBack 52 = .ok (.dup, 1) := by decide +kernel
theorem d_Model_pushBack_53 : decode c_Model_pushBack 53 = .ok (.getfield 117, 3) := by decide +kernel
theorem d_Model_pushBack_56 : decode c_Model_pushBack 56 = .ok (.iconst 1, 1) := by decide +kernel
theorem d_Model_pushBack_57 : decode c_Model_pushBack 57 = .ok (.iadd, 1) := by decide +kernel
theorem d_Model_pushBack_58 : decode c_Model_pushBack 58 = .ok (.putfield 117, 3) := by decide +kernel
theorem d_Model_pushBack_61 : decode c_Model_pushBack 61 = .ok (.return_, 1) := by decide +kernel
theorem d_Model_go_0 : decode c_Model_go 0 = .ok (.aload_n 0, 1) := by decide +kernel
theorem d_Model_go_1 : decode c_Model_go 1 = .ok (.iload_n 1, 1) := by decide +kernel
theorem d_Model_go_2 : decode c_Model_go 2 = .ok (.putfield 127, 3) := by decide +kernel
theorem d_Model_go_5 : decode c_Model_go 5 = .ok (.aload_n 0, 1) := by decide +kernel
theorem d_Model_go_6 : decode c_Model_go 6 = .ok (.iload_n 2, 1) := by decide +kernel
theorem d_Model_go_7 : decode c_Model_go 7 = .ok (.putfield 130, 3) := by decide +kernel
theorem d_Model_go_10 : decode c_Model_go 10 = .ok (.aload_n 0, 1) := by decide +kernel
theorem d_Model_go_11 : decode c_Model_go 11 = .ok (.iload_n 3, 1) := by decide +kernel
theorem d_Model_go_12 : decode c_Model_go 12 = .ok (.putfield 133, 3) := by decide +kernel
theorem d_Model_go_15 : decode c_Model_go 15 = .ok (.return_, 1) := by decide +kernel
theorem d_Model_calls_0 : decode c_Model_calls 0 = .ok (.iconst 0, 1) := by decide +kernel
theorem d_Model_calls_1 : decode c_Model_calls 1 = .ok (.istore_n 1, 1) := by decide +kernel
theorem d_Model_calls_2 : decode c_Model_calls 2 = .ok (.aload_n 0, 1) := by decide +kernel
theorem d_Model_calls_3 : decode c_Model_calls 3 = .ok (.getfield 133, 3) := by decide +kernel
theorem d_Model_calls_6 : decode c_Model_calls 6 = .ok (.istore_n 2, 1) := by decide +kernel
theorem d_Model_calls_7 : decode c_Model_calls 7 = .ok (.iload_n 2, 1) := by decide +kernel
theorem d_Model_calls_8 : decode c_Model_calls 8 = .ok (.ifCond .le 24, 3) := by decide +kernel
theorem d_Model_calls_11 : decode c_Model_calls 11 = .ok (.aload_n 0, 1) := by decide +kernel
theorem d_Model_calls_12 : decode c_Model_calls 12 = .ok (.iload_n 2, 1) := by decide +kernel
theorem d_Model_calls_13 : decode c_Model_calls 13 = .ok (.invokevirtual 136, 3) := by decide +kernel
theorem d_Model_calls_16 : decode c_Model_calls 16 = .ok (.iconst 3, 1) := by decide +kernel
theorem d_Model_calls_17 : decode c_Model_calls 17 = .ok (.if_icmp .ne 6, 3) := by decide +kernel
theorem d_Model_calls_20 : decode c_Model_calls 20 = .ok (.iinc 1 1, 3) := by decide +kernel
theorem d_Model_calls_23 : decode c_Model_calls 23 = .ok (.aload_n 0, 1) := by decide +kernel
theorem d_Model_calls_24 : decode c_Model_calls 24 = .ok (.iload_n 2, 1) := by decide +kernel
theorem d_Model_calls_25 : decode c_Model_calls 25 = .ok (.invokevirtual 139, 3) := by decide +kernel
theorem d_Model_calls_28 : decode c_Model_calls 28 = .ok (.istore_n 2, 1) := by decide +kernel
theorem d_Model_calls_29 : decode c_Model_calls 29 = .ok (.goto (-22), 3) := by decide +kernel
theorem d_Model_calls_32 : decode c_Model_calls 32 = .ok (.iload_n 1, 1) := by decide +kernel
theorem d_Model_calls_33 : decode c_Model_calls 33 = .ok (.ireturn, 1) := by decide +kernel
theorem d_Model_capture_0 : decode c_Model_capture 0 = .ok (.lload_n 1, 1) := by decide +kernel
theorem d_Model_capture_1 : decode c_Model_capture 1 = .ok (.bipush 12, 2) := by decide +kernel
theorem d_Model_capture_3 : decode c_Model_capture 3 = .ok (.iload_n 3, 1) := by decide +kernel
theorem d_Model_capture_4 : decode c_Model_capture 4 = .ok (.iconst 1, 1) := by decide +kernel
theorem d_Model_capture_5 : decode c_Model_capture 5 = .ok (.isub, 1) := by decide +kernel
theorem d_Model_capture_6 : decode c_Model_capture 6 = .ok (.imul, 1) := by decide +kernel
theorem d_Model_capture_7 : decode c_Model_capture 7 = .ok (.lshr, 1) := by decide +kernel
theorem d_Model_capture_8 : decode c_Model_capture 8 = .ok (.l2i, 1) := by decide +kernel
theorem d_Model_capture_9 : decode c_Model_capture 9 = .ok (.sipush 4095, 3) := by decide +kernel
theorem d_Model_capture_12 : decode c_Model_capture 12 = .ok (.iand, 1) := by decide +kernel
theorem d_Model_capture_13 : decode c_Model_capture 13 = .ok (.istore 5, 2) := by decide +kernel
theorem d_Model_capture_15 : decode c_Model_capture 15 = .ok (.iload 5, 2) := by decide +kernel
theorem d_Model_capture_17 : decode c_Model_capture 17 = .ok (.ifCond .ne 8, 3) := by decide +kernel
theorem d_Model_capture_20 : decode c_Model_capture 20 = .ok (.bipush (-6), 2) := by decide +kernel
theorem d_Model_capture_22 : decode c_Model_capture 22 = .ok (.goto 23, 3) := by decide +kernel
theorem d_Model_capture_25 : decode c_Model_capture 25 = .ok (.iload 4, 2) := by decide +kernel
theorem d_Model_capture_27 : decode c_Model_capture 27 = .ok (.ifCond .eq 11, 3) := by decide +kernel
theorem d_Model_capture_30 : decode c_Model_capture 30 = .ok (.iload 5, 2) := by decide +kernel
theorem d_Model_capture_32 : decode c_Model_capture 32 = .ok (.bipush 63, 2) := by decide +kernel
theorem d_Model_capture_34 : decode c_Model_capture 34 = .ok (.iand, 1) := by decide +kernel
theorem d_Model_capture_35 : decode c_Model_capture 35 = .ok (.goto 8, 3) := by decide +kernel
theorem d_Model_capture_38 : decode c_Model_capture 38 = .ok (.iload 5, 2) := by decide +kernel
theorem d_Model_capture_40 : decode c_Model_capture 40 = .ok (.bipush 6, 2) := by decide +kernel
theorem d_Model_capture_42 : decode c_Model_capture 42 = .ok (.ishr, 1) := by decide +kernel
theorem d_Model_capture_43 : decode c_Model_capture 43 = .ok (.iconst 1, 1) := by decide +kernel
theorem d_Model_capture_44 : decode c_Model_capture 44 = .ok (.isub, 1) := by decide +kernel
theorem d_Model_capture_45 : decode c_Model_capture 45 = .ok (.ireturn, 1) := by decide +kernel
theorem d_Model_inClass_0 : decode c_Model_inClass 0 = .ok (.aload_n 0, 1) := by decide +kernel
theorem d_Model_inClass_1 : decode c_Model_inClass 1 = .ok (.iload_n 1, 1) := by decide +kernel
theorem d_Model_inClass_2 : decode c_Model_inClass 2 = .ok (.iconst 1, 1) := by decide +kernel
theorem d_Model_inClass_3 : decode c_Model_inClass 3 = .ok (.iadd, 1) := by decide +kernel
theorem d_Model_inClass_4 : decode c_Model_inClass 4 = .ok (.invokevirtual 102, 3) := by decide +kernel
theorem d_Model_inClass_7 : decode c_Model_inClass 7 = .ok (.bipush 94, 2) := by decide +kernel
theorem d_Model_inClass_9 : decode c_Model_inClass 9 = .ok (.if_icmp .ne 7, 3) := by decide +kernel
theorem d_Model_inClass_12 : decode c_Model_inClass 12 = .ok (.iconst 1, 1) := by decide +kernel
theorem d_Model_inClass_13 : decode c_Model_inClass 13 = .ok (.goto 4, 3) := by decide +kernel
theorem d_Model_inClass_16 : decode c_Model_inClass 16 = .ok (.iconst 0, 1) := by decide +kernel
theorem d_Model_inClass_17 : decode c_Model_inClass 17 = .ok (.istore_n 3, 1) := by decide +kernel
theorem d_Model_inClass_18 : decode c_Model_inClass 18 = .ok (.iconst 0, 1) := by decide +kernel
theorem d_Model_inClass_19 : decode c_Model_inClass 19 = .ok (.istore 4, 2) := by decide +kernel
theorem d_Model_inClass_21 : decode c_Model_inClass 21 = .ok (.iload_n 3, 1) := by decide +kernel
theorem d_Model_inClass_22 : decode c_Model_inClass 22 = .ok (.ifCond .eq 9, 3) := by decide +kernel
theorem d_Model_inClass_25 : decode c_Model_inClass 25 = .ok (.iload_n 1, 1) := by decide +kernel
theorem d_Model_inClass_26 : decode c_Model_inClass 26 = .ok (.iconst 2, 1) := by decide +kernel
theorem d_Model_inClass_27 : decode c_Model_inClass 27 = .ok (.iadd, 1) := by decide +kernel
theorem d_Model_inClass_28 : decode c_Model_inClass 28 = .ok (.goto 6, 3) := by decide +kernel
theorem d_Model_inClass_31 : decode c_Model_inClass 31 = .ok (.iload_n 1, 1) := by decide +kernel
theorem d_Model_inClass_32 : decode c_Model_inClass 32 = .ok (.iconst 1, 1) := by decide +kernel
theorem d_Model_inClass_33 : decode c_Model_inClass 33 = .ok (.iadd, 1) := by decide +kernel
theorem d_Model_inClass_34 : decode c_Model_inClass 34 = .ok (.istore 5, 2) := by decide +kernel
theorem d_Model_inClass_36 : decode c_Model_inClass 36 = .ok (.aload_n 0, 1) := by decide +kernel
theorem d_Model_inClass_37 : decode c_Model_inClass 37 = .ok (.iload 5, 2) := by decide +kernel
theorem d_Model_inClass_39 : decode c_Model_inClass 39 = .ok (.invokevirtual 102, 3) := by decide +kernel
theorem d_Model_inClass_42 : decode c_Model_inClass 42 = .ok (.bipush 93, 2) := by decide +kernel
theorem d_Model_inClass_44 : decode c_Model_inClass 44 = .ok (.if_icmp .eq 89, 3) := by decide +kernel
theorem d_Model_inClass_47 : decode c_Model_inClass 47 = .ok (.iload 5, 2) := by decide +kernel
theorem d_Model_inClass_49 : decode c_Model_inClass 49 = .ok (.aload_n 0, 1) := by decide +kernel
theorem d_Model_inClass_50 : decode c_Model_inClass 50 = .ok (.getfield 87, 3) := by decide +kernel
theorem d_Model_inClass_53 : decode c_Model_inClass 53 = .ok (.if_icmp .ge 80, 3) := by decide +kernel
theorem d_Model_inClass_56 : decode c_Model_inClass 56 = .ok (.aload_n 0, 1) := by decide +kernel
theorem d_Model_inClass_57 : decode c_Model_inClass 57 = .ok (.iload 5, 2) := by decide +kernel
theorem d_Model_inClass_59 : decode c_Model_inClass 59 = .ok (.iconst 1, 1) := by decide +kernel
theorem d_Model_inClass_60 : decode c_Model_inClass 60 = .ok (.iadd, 1) := by decide +kernel
theorem d_Model_inClass_61 : decode c_Model_inClass 61 = .ok (.invokevirtual 102, 3) := by decide +kernel
theorem d_Model_inClass_64 : decode c_Model_inClass 64 = .ok (.bipush 45, 2) := by decide +kernel
theorem d_Model_inClass_66 : decode c_Model_inClass 66 = .ok (.if_icmp .ne 41, 3) := by decide +kernel
theorem d_Model_inClass_69 : decode c_Model_inClass 69 = .ok (.iload 4, 2) := by decide +kernel
theorem d_Model_inClass_71 : decode c_Model_inClass 71 = .ok (.iload_n 2, 1) := by decide +kernel
theorem d_Model_inClass_72 : decode c_Model_inClass 72 = .ok (.aload_n 0, 1) := by decide +kernel
theorem d_Model_inClass_73 : decode c_Model_inClass 73 = .ok (.iload 5, 2) := by decide +kernel
theorem d_Model_inClass_75 : decode c_Model_inClass 75 = .ok (.invokevirtual 102, 3) := by decide +kernel
theorem d_Model_inClass_78 : decode c_Model_inClass 78 = .ok (.if_icmp .lt 19, 3) := by decide +kernel
theorem d_Model_inClass_81 : decode c_Model_inClass 81 = .ok (.iload_n 2, 1) := by decide +kernel
theorem d_Model_inClass_82 : decode c_Model_inClass 82 = .ok (.aload_n 0, 1) := by decide +kernel
theorem d_Model_inClass_83 : decode c_Model_inClass 83 = .ok (.iload 5, 2) := by decide +kernel
theorem d_Model_inClass_85 : decode c_Model_inClass 85 = .ok (.iconst 2, 1) := by decide +kernel
theorem d_Model_inClass_86 : decode c_Model_inClass 86 = .ok (.iadd, 1) := by decide +kernel
theorem d_Model_inClass_87 : decode c_Model_inClass 87 = .ok (.invokevirtual 102, 3) := by decide +kernel
theorem d_Model_inClass_90 : decode c_Model_inClass 90 = .ok (.if_icmp .gt 7, 3) := by decide +kernel
theorem d_Model_inClass_93 : decode c_Model_inClass 93 = .ok (.iconst 1, 1) := by decide +kernel
theorem d_Model_inClass_94 : decode c_Model_inClass 94 = .ok (.goto 4, 3) := by decide +kernel
theorem d_Model_inClass_97 : decode c_Model_inClass 97 = .ok (.iconst 0, 1) := by decide +kernel
theorem d_Model_inClass_98 : decode c_Model_inClass 98 = .ok (.ior, 1) := by decide +kernel
theorem d_Model_inClass_99 : decode c_Model_inClass 99 = .ok (.istore 4, 2) := by decide +kernel
theorem d_Model_inClass_101 : decode c_Model_inClass 101 = .ok (.iinc 5 2, 3) := by decide +kernel
theorem d_Model_inClass_104 : decode c_Model_inClass 104 = .ok (.goto 23, 3) := by decide +kernel
theorem d_Model_inClass_107 : decode c_Model_inClass 107 = .ok (.iload 4, 2) := by decide +kernel
theorem d_Model_inClass_109 : decode c_Model_inClass 109 = .ok (.iload_n 2, 1) := by decide +kernel
theorem d_Model_inClass_110 : decode c_Model_inClass 110 = .ok (.aload_n 0, 1) := by decide +kernel
theorem d_Model_inClass_111 : decode c_Model_inClass 111 = .ok (.iload 5, 2) := by decide +kernel
theorem d_Model_inClass_113 : decode c_Model_inClass 113 = .ok (.invokevirtual 102, 3) := by decide +kernel
theorem d_Model_inClass_116 : decode c_Model_inClass 116 = .ok (.if_icmp .ne 7, 3) := by decide +kernel
theorem d_Model_inClass_119 : decode c_Model_inClass 119 = .ok (.iconst 1, 1) := by decide +kernel
theorem d_Model_inClass_120 : decode c_Model_inClass 120 = .ok (.goto 4, 3) := by decide +kernel
theorem d_Model_inClass_123 : decode c_Model_inClass 123 = .ok (.iconst 0, 1) := by decide +kernel
theorem d_Model_inClass_124 : decode c_Model_inClass 124 = .ok (.ior, 1) := by decide +kernel
theorem d_Model_inClass_125 : decode c_Model_inClass 125 = .ok (.istore 4, 2) := by decide +kernel
theorem d_Model_inClass_127 : decode c_Model_inClass 127 = .ok (.iinc 5 1, 3) := by decide +kernel
theorem d_Model_inClass_130 : decode c_Model_inClass 130 = .ok (.goto (-94), 3) := by decide +kernel
theorem d_Model_inClass_133 : decode c_Model_inClass 133 = .ok (.iload 4, 2) := by decide +kernel
theorem d_Model_inClass_135 : decode c_Model_inClass 135 = .ok (.iload_n 3, 1) := by decide +kernel
theorem d_Model_inClass_136 : decode c_Model_inClass 136 = .ok (.if_icmp .eq 7, 3) := by decide +kernel
theorem d_Model_inClass_139 : decode c_Model_inClass 139 = .ok (.iconst 1, 1) := by decide +kernel
theorem d_Model_inClass_140 : decode c_Model_inClass 140 = .ok (.goto 4, 3) := by decide +kernel
theorem d_Model_inClass_143 : decode c_Model_inClass 143 = .ok (.iconst 0, 1) := by decide +kernel
theorem d_Model_inClass_144 : decode c_Model_inClass 144 = .ok (.ireturn, 1) := by decide +kernel
theorem d_Model_repeats_0 : decode c_Model_repeats 0 = .ok (.aload_n 0, 1) := by decide +kernel
theorem d_Model_repeats_1 : decode c_Model_repeats 1 = .ok (.aload_n 0, 1) := by decide +kernel
theorem d_Model_repeats_2 : decode c_Model_repeats 2 = .ok (.getfield 123, 3) := by decide +kernel
theorem d_Model_repeats_5 : decode c_Model_repeats 5 = .ok (.iload_n 1, 1) := by decide +kernel
theorem d_Model_repeats_6 : decode c_Model_repeats 6 = .ok (.iconst 0, 1) := by decide +kernel
theorem d_Model_repeats_7 : decode c_Model_repeats 7 = .ok (.invokevirtual 142, 3) := by decide +kernel
theorem d_Model_repeats_10 : decode c_Model_repeats 10 = .ok (.istore_n 2, 1) := by decide +kernel
theorem d_Model_repeats_11 : decode c_Model_repeats 11 = .ok (.aload_n 0, 1) := by decide +kernel
theorem d_Model_repeats_12 : decode c_Model_repeats 12 = .ok (.aload_n 0, 1) := by decide +kernel
theorem d_Model_repeats_13 : decode c_Model_repeats 13 = .ok (.getfield 123, 3) := by decide +kernel
theorem d_Model_repeats_16 : decode c_Model_repeats 16 = .ok (.iload_n 1, 1) := by decide +kernel
theorem d_Model_repeats_17 : decode c_Model_repeats 17 = .ok (.iconst 1, 1) := by decide +kernel
theorem d_Model_repeats_18 : decode c_Model_repeats 18 = .ok (.invokevirtual 142, 3) := by decide +kernel
theorem d_Model_repeats_21 : decode c_Model_repeats 21 = .ok (.iload_n 2, 1) := by decide +kernel
theorem d_Model_repeats_22 : decode c_Model_repeats 22 = .ok (.isub, 1) := by decide +kernel
theorem d_Model_repeats_23 : decode c_Model_repeats 23 = .ok (.istore_n 3, 1) := by decide +kernel
theorem d_Model_repeats_24 : decode c_Model_repeats 24 = .ok (.iload_n 2, 1) := by decide +kernel
theorem d_Model_repeats_25 : decode c_Model_repeats 25 = .ok (.bipush (-6), 2) := by decide +kernel
theorem d_Model_repeats_27 : decode c_Model_repeats 27 = .ok (.if_icmp .eq 16, 3) := by decide +kernel
theorem d_Model_repeats_30 : decode c_Model_repeats 30 = .ok (.aload_n 0, 1) := by decide +kernel
theorem d_Model_repeats_31 : decode c_Model_repeats 31 = .ok (.getfield 120, 3) := by decide +kernel
theorem d_Model_repeats_34 : decode c_Model_repeats 34 = .ok (.iload_n 3, 1) := by decide +kernel
theorem d_Model_repeats_35 : decode c_Model_repeats 35 = .ok (.iadd, 1) := by decide +kernel
theorem d_Model_repeats_36 : decode c_Model_repeats 36 = .ok (.aload_n 0, 1) := by decide +kernel
theorem d_Model_repeats_37 : decode c_Model_repeats 37 = .ok (.getfield 99, 3) := by decide +kernel
theorem d_Model_repeats_40 : decode c_Model_repeats 40 = .ok (.if_icmp .le 5, 3) := by decide +kernel
theorem d_Model_repeats_43 : decode c_Model_repeats 43 = .ok (.iconst 0, 1) := by decide +kernel
theorem d_Model_repeats_44 : decode c_Model_repeats 44 = .ok (.ireturn, 1) := by decide +kernel
theorem d_Model_repeats_45 : decode c_Model_repeats 45 = .ok (.iconst 0, 1) := by decide +kernel
theorem d_Model_repeats_46 : decode c_Model_repeats 46 = .ok (.istore 4, 2) := by decide +kernel
theorem d_Model_repeats_48 : decode c_Model_repeats 48 = .ok (.iload 4, 2) := by decide +kernel
theorem d_Model_repeats_50 : decode c_Model_repeats 50 = .ok (.iload_n 3, 1) := by decide +kernel
theorem d_Model_repeats_51 : decode c_Model_repeats 51 = .ok (.if_icmp .ge 35, 3) := by decide +kernel
theorem d_Model_repeats_54 : decode c_Model_repeats 54 = .ok (.aload_n 0, 1) := by decide +kernel
theorem d_Model_repeats_55 : decode c_Model_repeats 55 = .ok (.getfield 16, 3) := by decide +kernel
theorem d_Model_repeats_58 : decode c_Model_repeats 58 = .ok (.iload_n 2, 1) := by decide +kernel
theorem d_Model_repeats_59 : decode c_Model_repeats 59 = .ok (.iload 4, 2) := by decide +kernel
theorem d_Model_repeats_61 : decode c_Model_repeats 61 = .ok (.iadd, 1) := by decide +kernel
theorem d_Model_repeats_62 : decode c_Model_repeats 62 = .ok (.iaload, 1) := by decide +kernel
theorem d_Model_repeats_63 : decode c_Model_repeats 63 = .ok (.aload_n 0, 1) := by decide +kernel
theorem d_Model_repeats_64 : decode c_Model_repeats 64 = .ok (.getfield 16, 3) := by decide +kernel
theorem d_Model_repeats_67 : decode c_Model_repeats 67 = .ok (.aload_n 0, 1) := by decide +kernel
theorem d_Model_repeats_68 : decode c_Model_repeats 68 = .ok (.getfield 120, 3) := by decide +kernel
theorem d_Model_repeats_71 : decode c_Model_repeats 71 = .ok (.iload 4, 2) := by decide +kernel
theorem d_Model_repeats_73 : decode c_Model_repeats 73 = .ok (.iadd, 1) := by decide +kernel
theorem d_Model_repeats_74 : decode c_Model_repeats 74 = .ok (.iaload, 1) := by decide +kernel
theorem d_Model_repeats_75 : decode c_Model_repeats 75 = .ok (.if_icmp .eq 5, 3) := by decide +kernel
theorem d_Model_repeats_78 : decode c_Model_repeats 78 = .ok (.iconst 0, 1) := by decide +kernel
theorem d_Model_repeats_79 : decode c_Model_repeats 79 = .ok (.ireturn, 1) := by decide +kernel
theorem d_Model_repeats_80 : decode c_Model_repeats 80 = .ok (.iinc 4 1, 3) := by decide +kernel
theorem d_Model_repeats_83 : decode c_Model_repeats 83 = .ok (.goto (-35), 3) := by decide +kernel
theorem d_Model_repeats_86 : decode c_Model_repeats 86 = .ok (.aload_n 0, 1) := by decide +kernel
theorem d_Model_repeats_87 : decode c_Model_repeats 87 = .ok (.dup, 1) := by decide +kernel
theorem d_Model_repeats_88 : decode c_Model_repeats 88 = .ok (.getfield 120, 3) := by decide +kernel
theorem d_Model_repeats_91 : decode c_Model_repeats 91 = .ok (.iload_n 3, 1) := by decide +kernel
theorem d_Model_repeats_92 : decode c_Model_repeats 92 = .ok (.iadd, 1) := by decide +kernel
theorem d_Model_repeats_93 : decode c_Model_repeats 93 = .ok (.putfield 120, 3) := by decide +kernel
theorem d_Model_repeats_96 : decode c_Model_repeats 96 = .ok (.iconst 1, 1) := by decide +kernel
theorem d_Model_repeats_97 : decode c_Model_repeats 97 = .ok (.ireturn, 1) := by decide +kernel
theorem d_Model_takesLetter_0 : decode c_Model_takesLetter 0 = .ok (.aload_n 0, 1) := by decide +kernel
theorem d_Model_takesLetter_1 : decode c_Model_takesLetter 1 = .ok (.getfield 120, 3) := by decide +kernel
theorem d_Model_takesLetter_4 : decode c_Model_takesLetter 4 = .ok (.aload_n 0, 1) := by decide +kernel
theorem d_Model_takesLetter_5 : decode c_Model_takesLetter 5 = .ok (.getfield 99, 3) := by decide +kernel
theorem d_Model_takesLetter_8 : decode c_Model_takesLetter 8 = .ok (.if_icmp .lt 5, 3) := by decide +kernel
theorem d_Model_takesLetter_11 : decode c_Model_takesLetter 11 = .ok (.iconst 0, 1) := by decide +kernel
theorem d_Model_takesLetter_12 : decode c_Model_takesLetter 12 = .ok (.ireturn, 1) := by decide +kernel
theorem d_Model_takesLetter_13 : decode c_Model_takesLetter 13 = .ok (.aload_n 0, 1) := by decide +kernel
theorem d_Model_takesLetter_14 : decode c_Model_takesLetter 14 = .ok (.getfield 16, 3) := by decide +kernel
theorem d_Model_takesLetter_17 : decode c_Model_takesLetter 17 = .ok (.aload_n 0, 1) := by decide +kernel
theorem d_Model_takesLetter_18 : decode c_Model_takesLetter 18 = .ok (.getfield 120, 3) := by decide +kernel
theorem d_Model_takesLetter_21 : decode c_Model_takesLetter 21 = .ok (.iaload, 1) := by decide +kernel
theorem d_Model_takesLetter_22 : decode c_Model_takesLetter 22 = .ok (.istore_n 2, 1) := by decide +kernel
theorem d_Model_takesLetter_23 : decode c_Model_takesLetter 23 = .ok (.aload_n 0, 1) := by decide +kernel
theorem d_Model_takesLetter_24 : decode c_Model_takesLetter 24 = .ok (.iload_n 1, 1) := by decide +kernel
theorem d_Model_takesLetter_25 : decode c_Model_takesLetter 25 = .ok (.invokevirtual 102, 3) := by decide +kernel
theorem d_Model_takesLetter_28 : decode c_Model_takesLetter 28 = .ok (.bipush 46, 2) := by decide +kernel
theorem d_Model_takesLetter_30 : decode c_Model_takesLetter 30 = .ok (.if_icmp .eq 34, 3) := by decide +kernel
theorem d_Model_takesLetter_33 : decode c_Model_takesLetter 33 = .ok (.aload_n 0, 1) := by decide +kernel
theorem d_Model_takesLetter_34 : decode c_Model_takesLetter 34 = .ok (.iload_n 1, 1) := by decide +kernel
theorem d_Model_takesLetter_35 : decode c_Model_takesLetter 35 = .ok (.invokevirtual 102, 3) := by decide +kernel
theorem d_Model_takesLetter_38 : decode c_Model_takesLetter 38 = .ok (.bipush 91, 2) := by decide +kernel
theorem d_Model_takesLetter_40 : decode c_Model_takesLetter 40 = .ok (.if_icmp .ne 15, 3) := by decide +kernel
theorem d_Model_takesLetter_43 : decode c_Model_takesLetter 43 = .ok (.aload_n 0, 1) := by decide +kernel
theorem d_Model_takesLetter_44 : decode c_Model_takesLetter 44 = .ok (.iload_n 1, 1) := by decide +kernel
theorem d_Model_takesLetter_45 : decode c_Model_takesLetter 45 = .ok (.iload_n 2, 1) := by decide +kernel
theorem d_Model_takesLetter_46 : decode c_Model_takesLetter 46 = .ok (.invokevirtual 146, 3) := by decide +kernel
theorem d_Model_takesLetter_49 : decode c_Model_takesLetter 49 = .ok (.ifCond .eq 19, 3) := by decide +kernel
theorem d_Model_takesLetter_52 : decode c_Model_takesLetter 52 = .ok (.goto 12, 3) := by decide +kernel
theorem d_Model_takesLetter_55 : decode c_Model_takesLetter 55 = .ok (.aload_n 0, 1) := by decide +kernel
theorem d_Model_takesLetter_56 : decode c_Model_takesLetter 56 = .ok (.iload_n 1, 1) := by decide +kernel
theorem d_Model_takesLetter_57 : decode c_Model_takesLetter 57 = .ok (.invokevirtual 102, 3) := by decide +kernel
theorem d_Model_takesLetter_60 : decode c_Model_takesLetter 60 = .ok (.iload_n 2, 1) := by decide +kernel
theorem d_Model_takesLetter_61 : decode c_Model_takesLetter 61 = .ok (.if_icmp .ne 7, 3) := by decide +kernel
theorem d_Model_takesLetter_64 : decode c_Model_takesLetter 64 = .ok (.iconst 1, 1) := by decide +kernel
theorem d_Model_takesLetter_65 : decode c_Model_takesLetter 65 = .ok (.goto 4, 3) := by decide +kernel
theorem d_Model_takesLetter_68 : decode c_Model_takesLetter 68 = .ok (.iconst 0, 1) := by decide +kernel
theorem d_Model_takesLetter_69 : decode c_Model_takesLetter 69 = .ok (.istore_n 3, 1) := by decide +kernel
theorem d_Model_takesLetter_70 : decode c_Model_takesLetter 70 = .ok (.iload_n 3, 1) := by decide +kernel
theorem d_Model_takesLetter_71 : decode c_Model_takesLetter 71 = .ok (.ifCond .eq 13, 3) := by decide +kernel
theorem d_Model_takesLetter_74 : decode c_Model_takesLetter 74 = .ok (.aload_n 0, 1) := by decide +kernel
theorem d_Model_takesLetter_75 : decode c_Model_takesLetter 75 = .ok (.dup, 1) := by decide +kernel
theorem d_Model_takesLetter_76 : decode c_Model_takesLetter 76 = .ok (.getfield 120, 3) := by decide +kernel
theorem d_Model_takesLetter_79 : decode c_Model_takesLetter 79 = .ok (.iconst 1, 1) := by decide +kernel
theorem d_Model_takesLetter_80 : decode c_Model_takesLetter 80 = .ok (.iadd, 1) := by decide +kernel
theorem d_Model_takesLetter_81 : decode c_Model_takesLetter 81 = .ok (.putfield 120, 3) := by decide +kernel
theorem d_Model_takesLetter_84 : decode c_Model_takesLetter 84 = .ok (.iload_n 3, 1) := by decide +kernel
theorem d_Model_takesLetter_85 : decode c_Model_takesLetter 85 = .ok (.ireturn, 1) := by decide +kernel
theorem d_Model_plain_0 : decode c_Model_plain 0 = .ok (.aload_n 0, 1) := by decide +kernel
theorem d_Model_plain_1 : decode c_Model_plain 1 = .ok (.iload_n 1, 1) := by decide +kernel
theorem d_Model_plain_2 : decode c_Model_plain 2 = .ok (.invokevirtual 102, 3) := by decide +kernel
theorem d_Model_plain_5 : decode c_Model_plain 5 = .ok (.bipush 94, 2) := by decide +kernel
theorem d_Model_plain_7 : decode c_Model_plain 7 = .ok (.if_icmp .ne 16, 3) := by decide +kernel
theorem d_Model_plain_10 : decode c_Model_plain 10 = .ok (.aload_n 0, 1) := by decide +kernel
theorem d_Model_plain_11 : decode c_Model_plain 11 = .ok (.getfield 120, 3) := by decide +kernel
theorem d_Model_plain_14 : decode c_Model_plain 14 = .ok (.ifCond .ne 7, 3) := by decide +kernel
theorem d_Model_plain_17 : decode c_Model_plain 17 = .ok (.iconst 1, 1) := by decide +kernel
theorem d_Model_plain_18 : decode c_Model_plain 18 = .ok (.goto 4, 3) := by decide +kernel
theorem d_Model_plain_21 : decode c_Model_plain 21 = .ok (.iconst 0, 1) := by decide +kernel
theorem d_Model_plain_22 : decode c_Model_plain 22 = .ok (.ireturn, 1) := by decide +kernel
theorem d_Model_plain_23 : decode c_Model_plain 23 = .ok (.aload_n 0, 1) := by decide +kernel
theorem d_Model_plain_24 : decode c_Model_plain 24 = .ok (.iload_n 1, 1) := by decide +kernel
theorem d_Model_plain_25 : decode c_Model_plain 25 = .ok (.invokevirtual 102, 3) := by decide +kernel
theorem d_Model_plain_28 : decode c_Model_plain 28 = .ok (.bipush 36, 2) := by decide +kernel
theorem d_Model_plain_30 : decode c_Model_plain 30 = .ok (.if_icmp .ne 20, 3) := by decide +kernel
theorem d_Model_plain_33 : decode c_Model_plain 33 = .ok (.aload_n 0, 1) := by decide +kernel
theorem d_Model_plain_34 : decode c_Model_plain 34 = .ok (.getfield 120, 3) := by decide +kernel
theorem d_Model_plain_37 : decode c_Model_plain 37 = .ok (.aload_n 0, 1) := by decide +kernel
theorem d_Model_plain_38 : decode c_Model_plain 38 = .ok (.getfield 99, 3) := by decide +kernel
theorem d_Model_plain_41 : decode c_Model_plain 41 = .ok (.if_icmp .ne 7, 3) := by decide +kernel
theorem d_Model_plain_44 : decode c_Model_plain 44 = .ok (.iconst 1, 1) := by decide +kernel
theorem d_Model_plain_45 : decode c_Model_plain 45 = .ok (.goto 4, 3) := by decide +kernel
theorem d_Model_plain_48 : decode c_Model_plain 48 = .ok (.iconst 0, 1) := by decide +kernel
theorem d_Model_plain_49 : decode c_Model_plain 49 = .ok (.ireturn, 1) := by decide +kernel
theorem d_Model_plain_50 : decode c_Model_plain 50 = .ok (.aload_n 0, 1) := by decide +kernel
theorem d_Model_plain_51 : decode c_Model_plain 51 = .ok (.iload_n 1, 1) := by decide +kernel
theorem d_Model_plain_52 : decode c_Model_plain 52 = .ok (.invokevirtual 102, 3) := by decide +kernel
theorem d_Model_plain_55 : decode c_Model_plain 55 = .ok (.bipush 92, 2) := by decide +kernel
theorem d_Model_plain_57 : decode c_Model_plain 57 = .ok (.if_icmp .ne 20, 3) := by decide +kernel
theorem d_Model_plain_60 : decode c_Model_plain 60 = .ok (.aload_n 0, 1) := by decide +kernel
theorem d_Model_plain_61 : decode c_Model_plain 61 = .ok (.aload_n 0, 1) := by decide +kernel
theorem d_Model_plain_62 : decode c_Model_plain 62 = .ok (.iload_n 1, 1) := by decide +kernel
theorem d_Model_plain_63 : decode c_Model_plain 63 = .ok (.iconst 1, 1) := by decide +kernel
theorem d_Model_plain_64 : decode c_Model_plain 64 = .ok (.iadd, 1) := by decide +kernel
theorem d_Model_plain_65 : decode c_Model_plain 65 = .ok (.invokevirtual 102, 3) := by decide +kernel
theorem d_Model_plain_68 : decode c_Model_plain 68 = .ok (.bipush 48, 2) := by decide +kernel
theorem d_Model_plain_70 : decode c_Model_plain 70 = .ok (.isub, 1) := by decide +kernel
theorem d_Model_plain_71 : decode c_Model_plain 71 = .ok (.invokevirtual 150, 3) := by decide +kernel
theorem d_Model_plain_74 : decode c_Model_plain 74 = .ok (.goto 8, 3) := by decide +kernel
theorem d_Model_plain_77 : decode c_Model_plain 77 = .ok (.aload_n 0, 1) := by decide +kernel
theorem d_Model_plain_78 : decode c_Model_plain 78 = .ok (.iload_n 1, 1) := by decide +kernel
theorem d_Model_plain_79 : decode c_Model_plain 79 = .ok (.invokevirtual 153, 3) := by decide +kernel
theorem d_Model_plain_82 : decode c_Model_plain 82 = .ok (.ireturn, 1) := by decide +kernel
theorem d_Model_openChoice_0 : decode c_Model_openChoice 0 = .ok (.aload_n 0, 1) := by decide +kernel
theorem d_Model_openChoice_1 : decode c_Model_openChoice 1 = .ok (.iload_n 1, 1) := by decide +kernel
theorem d_Model_openChoice_2 : decode c_Model_openChoice 2 = .ok (.iconst 1, 1) := by decide +kernel
theorem d_Model_openChoice_3 : decode c_Model_openChoice 3 = .ok (.iadd, 1) := by decide +kernel
theorem d_Model_openChoice_4 : decode c_Model_openChoice 4 = .ok (.invokevirtual 102, 3) := by decide +kernel
theorem d_Model_openChoice_7 : decode c_Model_openChoice 7 = .ok (.bipush 63, 2) := by decide +kernel
theorem d_Model_openChoice_9 : decode c_Model_openChoice 9 = .ok (.if_icmp .ne 13, 3) := by decide +kernel
theorem d_Model_openChoice_12 : decode c_Model_openChoice 12 = .ok (.aload_n 0, 1) := by decide +kernel
theorem d_Model_openChoice_13 : decode c_Model_openChoice 13 = .ok (.iload_n 1, 1) := by decide +kernel
theorem d_Model_openChoice_14 : decode c_Model_openChoice 14 = .ok (.iconst 2, 1) := by decide +kernel
theorem d_Model_openChoice_15 : decode c_Model_openChoice 15 = .ok (.iadd, 1) := by decide +kernel
theorem d_Model_openChoice_16 : decode c_Model_openChoice 16 = .ok (.invokevirtual 102, 3) := by decide +kernel
theorem d_Model_openChoice_19 : decode c_Model_openChoice 19 = .ok (.goto 4, 3) := by decide +kernel
theorem d_Model_openChoice_22 : decode c_Model_openChoice 22 = .ok (.iconst 0, 1) := by decide +kernel
theorem d_Model_openChoice_23 : decode c_Model_openChoice 23 = .ok (.istore_n 2, 1) := by decide +kernel
theorem d_Model_openChoice_24 : decode c_Model_openChoice 24 = .ok (.iload_n 2, 1) := by decide +kernel
theorem d_Model_openChoice_25 : decode c_Model_openChoice 25 = .ok (.ifCond .ne 32, 3) := by decide +kernel
theorem d_Model_openChoice_28 : decode c_Model_openChoice 28 = .ok (.aload_n 0, 1) := by decide +kernel
theorem d_Model_openChoice_29 : decode c_Model_openChoice 29 = .ok (.iconst 1, 1) := by decide +kernel
theorem d_Model_openChoice_30 : decode c_Model_openChoice 30 = .ok (.iload_n 1, 1) := by decide +kernel
theorem d_Model_openChoice_31 : decode c_Model_openChoice 31 = .ok (.iconst 1, 1) := by decide +kernel
theorem d_Model_openChoice_32 : decode c_Model_openChoice 32 = .ok (.iadd, 1) := by decide +kernel
theorem d_Model_openChoice_33 : decode c_Model_openChoice 33 = .ok (.aload_n 0, 1) := by decide +kernel
theorem d_Model_openChoice_34 : decode c_Model_openChoice 34 = .ok (.iconst 2, 1) := by decide +kernel
theorem d_Model_openChoice_35 : decode c_Model_openChoice 35 = .ok (.aload_n 0, 1) := by decide +kernel
theorem d_Model_openChoice_36 : decode c_Model_openChoice 36 = .ok (.iload_n 1, 1) := by decide +kernel
theorem d_Model_openChoice_37 : decode c_Model_openChoice 37 = .ok (.invokevirtual 156, 3) := by decide +kernel
theorem d_Model_openChoice_40 : decode c_Model_openChoice 40 = .ok (.aload_n 0, 1) := by decide +kernel
theorem d_Model_openChoice_41 : decode c_Model_openChoice 41 = .ok (.getfield 120, 3) := by decide +kernel
theorem d_Model_openChoice_44 : decode c_Model_openChoice 44 = .ok (.aload_n 0, 1) := by decide +kernel
theorem d_Model_openChoice_45 : decode c_Model_openChoice 45 = .ok (.getfield 133, 3) := by decide +kernel
theorem d_Model_openChoice_48 : decode c_Model_openChoice 48 = .ok (.invokevirtual 159, 3) := by decide +kernel
theorem d_Model_openChoice_51 : decode c_Model_openChoice 51 = .ok (.invokevirtual 163, 3) := by decide +kernel
theorem d_Model_openChoice_54 : decode c_Model_openChoice 54 = .ok (.goto 198, 3) := by decide +kernel
theorem d_Model_openChoice_57 : decode c_Model_openChoice 57 = .ok (.iload_n 2, 1) := by decide +kernel
theorem d_Model_openChoice_58 : decode c_Model_openChoice 58 = .ok (.bipush 58, 2) := by decide +kernel
theorem d_Model_openChoice_60 : decode c_Model_openChoice 60 = .ok (.if_icmp .ne 18, 3) := by decide +kernel
theorem d_Model_openChoice_63 : decode c_Model_openChoice 63 = .ok (.aload_n 0, 1) := by decide +kernel
theorem d_Model_openChoice_64 : decode c_Model_openChoice 64 = .ok (.iconst 1, 1) := by decide +kernel
theorem d_Model_openChoice_65 : decode c_Model_openChoice 65 = .ok (.iload_n 1, 1) := by decide +kernel
theorem d_Model_openChoice_66 : decode c_Model_openChoice 66 = .ok (.iconst 3, 1) := by decide +kernel
theorem d_Model_openChoice_67 : decode c_Model_openChoice 67 = .ok (.iadd, 1) := by decide +kernel
theorem d_Model_openChoice_68 : decode c_Model_openChoice 68 = .ok (.aload_n 0, 1) := by decide +kernel
theorem d_Model_openChoice_69 : decode c_Model_openChoice 69 = .ok (.getfield 133, 3) := by decide +kernel
theorem d_Model_openChoice_72 : decode c_Model_openChoice 72 = .ok (.invokevirtual 163, 3) := by decide +kernel
theorem d_Model_openChoice_75 : decode c_Model_openChoice 75 = .ok (.goto 177, 3) := by decide +kernel
theorem d_Model_openChoice_78 : decode c_Model_openChoice 78 = .ok (.iload_n 2, 1) := by decide +kernel
theorem d_Model_openChoice_79 : decode c_Model_openChoice 79 = .ok (.bipush 62, 2) := by decide +kernel
theorem d_Model_openChoice_81 : decode c_Model_openChoice 81 = .ok (.if_icmp .ne 29, 3) := by decide +kernel
theorem d_Model_openChoice_84 : decode c_Model_openChoice 84 = .ok (.aload_n 0, 1) := by decide +kernel
theorem d_Model_openChoice_85 : decode c_Model_openChoice 85 = .ok (.iconst 1, 1) := by decide +kernel
theorem d_Model_openChoice_86 : decode c_Model_openChoice 86 = .ok (.iload_n 1, 1) := by decide +kernel
theorem d_Model_openChoice_87 : decode c_Model_openChoice 87 = .ok (.iconst 3, 1) := by decide +kernel
theorem d_Model_openChoice_88 : decode c_Model_openChoice 88 = .ok (.iadd, 1) := by decide +kernel
theorem d_Model_openChoice_89 : decode c_Model_openChoice 89 = .ok (.aload_n 0, 1) := by decide +kernel
theorem d_Model_openChoice_90 : decode c_Model_openChoice 90 = .ok (.bipush 7, 2) := by decide +kernel
theorem d_Model_openChoice_92 : decode c_Model_openChoice 92 = .ok (.iconst 0, 1) := by decide +kernel
theorem d_Model_openChoice_93 : decode c_Model_openChoice 93 = .ok (.aload_n 0, 1) := by decide +kernel
theorem d_Model_openChoice_94 : decode c_Model_openChoice 94 = .ok (.getfield 117, 3) := by decide +kernel
theorem d_Model_openChoice_97 : decode c_Model_openChoice 97 = .ok (.aload_n 0, 1) := by decide +kernel
theorem d_Model_openChoice_98 : decode c_Model_openChoice 98 = .ok (.getfield 133, 3) := by decide +kernel
theorem d_Model_openChoice_101 : decode c_Model_openChoice 101 = .ok (.invokevirtual 159, 3) := by decide +kernel
theorem d_Model_openChoice_104 : decode c_Model_openChoice 104 = .ok (.invokevirtual 163, 3) := by decide +kernel
theorem d_Model_openChoice_107 : decode c_Model_openChoice 107 = .ok (.goto 145, 3) := by decide +kernel
theorem d_Model_openChoice_110 : decode c_Model_openChoice 110 = .ok (.iload_n 2, 1) := by decide +kernel
theorem d_Model_openChoice_111 : decode c_Model_openChoice 111 = .ok (.bipush 61, 2) := by decide +kernel
theorem d_Model_openChoice_113 : decode c_Model_openChoice 113 = .ok (.if_icmp .ne 32, 3) := by decide +kernel
theorem d_Model_openChoice_116 : decode c_Model_openChoice 116 = .ok (.aload_n 0, 1) := by decide +kernel
theorem d_Model_openChoice_117 : decode c_Model_openChoice 117 = .ok (.iconst 1, 1) := by decide +kernel
theorem d_Model_openChoice_118 : decode c_Model_openChoice 118 = .ok (.iload_n 1, 1) := by decide +kernel
theorem d_Model_openChoice_119 : decode c_Model_openChoice 119 = .ok (.iconst 3, 1) := by decide +kernel
theorem d_Model_openChoice_120 : decode c_Model_openChoice 120 = .ok (.iadd, 1) := by decide +kernel
theorem d_Model_openChoice_121 : decode c_Model_openChoice 121 = .ok (.aload_n 0, 1) := by decide +kernel
theorem d_Model_openChoice_122 : decode c_Model_openChoice 122 = .ok (.bipush 8, 2) := by decide +kernel
theorem d_Model_openChoice_124 : decode c_Model_openChoice 124 = .ok (.aload_n 0, 1) := by decide +kernel
theorem d_Model_openChoice_125 : decode c_Model_openChoice 125 = .ok (.getfield 120, 3) := by decide +kernel
theorem d_Model_openChoice_128 : decode c_Model_openChoice 128 = .ok (.aload_n 0, 1) := by decide +kernel
theorem d_Model_openChoice_129 : decode c_Model_openChoice 129 = .ok (.getfield 117, 3) := by decide +kernel
theorem d_Model_openChoice_132 : decode c_Model_openChoice 132 = .ok (.aload_n 0, 1) := by decide +kernel
theorem d_Model_openChoice_133 : decode c_Model_openChoice 133 = .ok (.getfield 133, 3) := by decide +kernel
theorem d_Model_openChoice_136 : decode c_Model_openChoice 136 = .ok (.invokevirtual 159, 3) := by decide +kernel
theorem d_Model_openChoice_139 : decode c_Model_openChoice 139 = .ok (.invokevirtual 163, 3) := by decide +kernel
theorem d_Model_openChoice_142 : decode c_Model_openChoice 142 = .ok (.goto 110, 3) := by decide +kernel
theorem d_Model_openChoice_145 : decode c_Model_openChoice 145 = .ok (.iload_n 2, 1) := by decide +kernel
theorem d_Model_openChoice_146 : decode c_Model_openChoice 146 = .ok (.bipush 33, 2) := by decide +kernel
theorem d_Model_openChoice_148 : decode c_Model_openChoice 148 = .ok (.if_icmp .ne 41, 3) := by decide +kernel
theorem d_Model_openChoice_151 : decode c_Model_openChoice 151 = .ok (.aload_n 0, 1) := by decide +kernel
theorem d_Model_openChoice_152 : decode c_Model_openChoice 152 = .ok (.bipush 9, 2) := by decide +kernel
theorem d_Model_openChoice_154 : decode c_Model_openChoice 154 = .ok (.iconst 0, 1) := by decide +kernel
theorem d_Model_openChoice_155 : decode c_Model_openChoice 155 = .ok (.aload_n 0, 1) := by decide +kernel
theorem d_Model_openChoice_156 : decode c_Model_openChoice 156 = .ok (.getfield 117, 3) := by decide +kernel
theorem d_Model_openChoice_159 : decode c_Model_openChoice 159 = .ok (.aload_n 0, 1) := by decide +kernel
theorem d_Model_openChoice_160 : decode c_Model_openChoice 160 = .ok (.getfield 133, 3) := by decide +kernel
theorem d_Model_openChoice_163 : decode c_Model_openChoice 163 = .ok (.invokevirtual 159, 3) := by decide +kernel
theorem d_Model_openChoice_166 : decode c_Model_openChoice 166 = .ok (.istore_n 3, 1) := by decide +kernel
theorem d_Model_openChoice_167 : decode c_Model_openChoice 167 = .ok (.aload_n 0, 1) := by decide +kernel
theorem d_Model_openChoice_168 : decode c_Model_openChoice 168 = .ok (.iconst 5, 1) := by decide +kernel
theorem d_Model_openChoice_169 : decode c_Model_openChoice 169 = .ok (.iconst 0, 1) := by decide +kernel
theorem d_Model_openChoice_170 : decode c_Model_openChoice 170 = .ok (.aload_n 0, 1) := by decide +kernel
theorem d_Model_openChoice_171 : decode c_Model_openChoice 171 = .ok (.getfield 133, 3) := by decide +kernel
theorem d_Model_openChoice_174 : decode c_Model_openChoice 174 = .ok (.invokevirtual 167, 3) := by decide +kernel
theorem d_Model_openChoice_177 : decode c_Model_openChoice 177 = .ok (.aload_n 0, 1) := by decide +kernel
theorem d_Model_openChoice_178 : decode c_Model_openChoice 178 = .ok (.iconst 1, 1) := by decide +kernel
theorem d_Model_openChoice_179 : decode c_Model_openChoice 179 = .ok (.iload_n 1, 1) := by decide +kernel
theorem d_Model_openChoice_180 : decode c_Model_openChoice 180 = .ok (.iconst 3, 1) := by decide +kernel
theorem d_Model_openChoice_181 : decode c_Model_openChoice 181 = .ok (.iadd, 1) := by decide +kernel
theorem d_Model_openChoice_182 : decode c_Model_openChoice 182 = .ok (.iload_n 3, 1) := by decide +kernel
theorem d_Model_openChoice_183 : decode c_Model_openChoice 183 = .ok (.invokevirtual 163, 3) := by decide +kernel
theorem d_Model_openChoice_186 : decode c_Model_openChoice 186 = .ok (.goto 66, 3) := by decide +kernel
theorem d_Model_openChoice_189 : decode c_Model_openChoice 189 = .ok (.aload_n 0, 1) := by decide +kernel
theorem d_Model_openChoice_190 : decode c_Model_openChoice 190 = .ok (.invokevirtual 170, 3) := by decide +kernel
theorem d_Model_openChoice_193 : decode c_Model_openChoice 193 = .ok (.bipush 12, 2) := by decide +kernel
theorem d_Model_openChoice_195 : decode c_Model_openChoice 195 = .ok (.if_icmp .lt 17, 3) := by decide +kernel
theorem d_Model_openChoice_198 : decode c_Model_openChoice 198 = .ok (.aload_n 0, 1) := by decide +kernel
theorem d_Model_openChoice_199 : decode c_Model_openChoice 199 = .ok (.bipush 6, 2) := by decide +kernel
theorem d_Model_openChoice_201 : decode c_Model_openChoice 201 = .ok (.iconst 0, 1) := by decide +kernel
theorem d_Model_openChoice_202 : decode c_Model_openChoice 202 = .ok (.aload_n 0, 1) := by decide +kernel
theorem d_Model_openChoice_203 : decode c_Model_openChoice 203 = .ok (.getfield 133, 3) := by decide +kernel
theorem d_Model_openChoice_206 : decode c_Model_openChoice 206 = .ok (.invokevirtual 163, 3) := by decide +kernel
theorem d_Model_openChoice_209 : decode c_Model_openChoice 209 = .ok (.goto 43, 3) := by decide +kernel
theorem d_Model_openChoice_212 : decode c_Model_openChoice 212 = .ok (.aload_n 0, 1) := by decide +kernel
theorem d_Model_openChoice_213 : decode c_Model_openChoice 213 = .ok (.getfield 26, 3) := by decide +kernel
theorem d_Model_openChoice_216 : decode c_Model_openChoice 216 = .ok (.aload_n 0, 1) := by decide +kernel
theorem d_Model_openChoice_217 : decode c_Model_openChoice 217 = .ok (.getfield 173, 3) := by decide +kernel
theorem d_Model_openChoice_220 : decode c_Model_openChoice 220 = .ok (.aload_n 0, 1) := by decide +kernel
theorem d_Model_openChoice_221 : decode c_Model_openChoice 221 = .ok (.getfield 123, 3) := by decide +kernel
theorem d_Model_openChoice_224 : decode c_Model_openChoice 224 = .ok (.lastore, 1) := by decide +kernel
theorem d_Model_openChoice_225 : decode c_Model_openChoice 225 = .ok (.aload_n 0, 1) := by decide +kernel
theorem d_Model_openChoice_226 : decode c_Model_openChoice 226 = .ok (.iconst 1, 1) := by decide +kernel
theorem d_Model_openChoice_227 : decode c_Model_openChoice 227 = .ok (.aload_n 0, 1) := by decide +kernel
theorem d_Model_openChoice_228 : decode c_Model_openChoice 228 = .ok (.iload_n 2, 1) := by decide +kernel
theorem d_Model_openChoice_229 : decode c_Model_openChoice 229 = .ok (.bipush 48, 2) := by decide +kernel
theorem d_Model_openChoice_231 : decode c_Model_openChoice 231 = .ok (.isub, 1) := by decide +kernel
theorem d_Model_openChoice_232 : decode c_Model_openChoice 232 = .ok (.invokevirtual 176, 3) := by decide +kernel
theorem d_Model_openChoice_235 : decode c_Model_openChoice 235 = .ok (.aload_n 0, 1) := by decide +kernel
theorem d_Model_openChoice_236 : decode c_Model_openChoice 236 = .ok (.iconst 3, 1) := by decide +kernel
theorem d_Model_openChoice_237 : decode c_Model_openChoice 237 = .ok (.iconst 0, 1) := by decide +kernel
theorem d_Model_openChoice_238 : decode c_Model_openChoice 238 = .ok (.aload_n 0, 1) := by decide +kernel
theorem d_Model_openChoice_239 : decode c_Model_openChoice 239 = .ok (.getfield 173, 3) := by decide +kernel
theorem d_Model_openChoice_242 : decode c_Model_openChoice 242 = .ok (.aload_n 0, 1) := by decide +kernel
theorem d_Model_openChoice_243 : decode c_Model_openChoice 243 = .ok (.getfield 133, 3) := by decide +kernel
theorem d_Model_openChoice_246 : decode c_Model_openChoice 246 = .ok (.invokevirtual 159, 3) := by decide +kernel
theorem d_Model_openChoice_249 : decode c_Model_openChoice 249 = .ok (.invokevirtual 163, 3) := by decide +kernel
theorem d_Model_openChoice_252 : decode c_Model_openChoice 252 = .ok (.return_, 1) := by decide +kernel
theorem d_Model_item_0 : decode c_Model_item 0 = .ok (.aload_n 0, 1) := by decide +kernel
theorem d_Model_item_1 : decode c_Model_item 1 = .ok (.iload_n 1, 1) := by decide +kernel
theorem d_Model_item_2 : decode c_Model_item 2 = .ok (.invokevirtual 111, 3) := by decide +kernel
theorem d_Model_item_5 : decode c_Model_item 5 = .ok (.istore_n 2, 1) := by decide +kernel
theorem d_Model_item_6 : decode c_Model_item 6 = .ok (.aload_n 0, 1) := by decide +kernel
theorem d_Model_item_7 : decode c_Model_item 7 = .ok (.iload_n 2, 1) := by decide +kernel
theorem d_Model_item_8 : decode c_Model_item 8 = .ok (.invokevirtual 102, 3) := by decide +kernel
theorem d_Model_item_11 : decode c_Model_item 11 = .ok (.istore_n 3, 1) := by decide +kernel
theorem d_Model_item_12 : decode c_Model_item 12 = .ok (.iload_n 3, 1) := by decide +kernel
theorem d_Model_item_13 : decode c_Model_item 13 = .ok (.bipush 42, 2) := by decide +kernel
theorem d_Model_item_15 : decode c_Model_item 15 = .ok (.if_icmp .eq 21, 3) := by decide +kernel
theorem d_Model_item_18 : decode c_Model_item 18 = .ok (.iload_n 3, 1) := by decide +kernel
theorem d_Model_item_19 : decode c_Model_item 19 = .ok (.bipush 43, 2) := by decide +kernel
theorem d_Model_item_21 : decode c_Model_item 21 = .ok (.if_icmp .eq 15, 3) := by decide +kernel
theorem d_Model_item_24 : decode c_Model_item 24 = .ok (.iload_n 3, 1) := by decide +kernel
theorem d_Model_item_25 : decode c_Model_item 25 = .ok (.bipush 63, 2) := by decide +kernel
theorem d_Model_item_27 : decode c_Model_item 27 = .ok (.if_icmp .eq 9, 3) := by decide +kernel
theorem d_Model_item_30 : decode c_Model_item 30 = .ok (.iload_n 3, 1) := by decide +kernel
theorem d_Model_item_31 : decode c_Model_item 31 = .ok (.bipush 123, 2) := by decide +kernel
theorem d_Model_item_33 : decode c_Model_item 33 = .ok (.if_icmp .ne 7, 3) := by decide +kernel
theorem d_Model_item_36 : decode c_Model_item 36 = .ok (.iconst 1, 1) := by decide +kernel
theorem d_Model_item_37 : decode c_Model_item 37 = .ok (.goto 4, 3) := by decide +kernel
theorem d_Model_item_40 : decode c_Model_item 40 = .ok (.iconst 0, 1) := by decide +kernel
theorem d_Model_item_41 : decode c_Model_item 41 = .ok (.istore 4, 2) := by decide +kernel
theorem d_Model_item_43 : decode c_Model_item 43 = .ok (.iload_n 3, 1) := by decide +kernel
theorem d_Model_item_44 : decode c_Model_item 44 = .ok (.bipush 123, 2) := by decide +kernel
theorem d_Model_item_46 : decode c_Model_item 46 = .ok (.if_icmp .ne 9, 3) := by decide +kernel
theorem d_Model_item_49 : decode c_Model_item 49 = .ok (.iload_n 2, 1) := by decide +kernel
theorem d_Model_item_50 : decode c_Model_item 50 = .ok (.iconst 3, 1) := by decide +kernel
theorem d_Model_item_51 : decode c_Model_item 51 = .ok (.iadd, 1) := by decide +kernel
theorem d_Model_item_52 : decode c_Model_item 52 = .ok (.goto 6, 3) := by decide +kernel
theorem d_Model_item_55 : decode c_Model_item 55 = .ok (.iload_n 2, 1) := by decide +kernel
theorem d_Model_item_56 : decode c_Model_item 56 = .ok (.iconst 1, 1) := by decide +kernel
theorem d_Model_item_57 : decode c_Model_item 57 = .ok (.iadd, 1) := by decide +kernel
theorem d_Model_item_58 : decode c_Model_item 58 = .ok (.istore 5, 2) := by decide +kernel
theorem d_Model_item_60 : decode c_Model_item 60 = .ok (.iload 4, 2) := by decide +kernel
theorem d_Model_item_62 : decode c_Model_item 62 = .ok (.ifCond .eq 34, 3) := by decide +kernel
theorem d_Model_item_65 : decode c_Model_item 65 = .ok (.aload_n 0, 1) := by decide +kernel
theorem d_Model_item_66 : decode c_Model_item 66 = .ok (.iload 5, 2) := by decide +kernel
theorem d_Model_item_68 : decode c_Model_item 68 = .ok (.invokevirtual 102, 3) := by decide +kernel
theorem d_Model_item_71 : decode c_Model_item 71 = .ok (.bipush 63, 2) := by decide +kernel
theorem d_Model_item_73 : decode c_Model_item 73 = .ok (.if_icmp .eq 14, 3) := by decide +kernel
theorem d_Model_item_76 : decode c_Model_item 76 = .ok (.aload_n 0, 1) := by decide +kernel
theorem d_Model_item_77 : decode c_Model_item 77 = .ok (.iload 5, 2) := by decide +kernel
theorem d_Model_item_79 : decode c_Model_item 79 = .ok (.invokevirtual 102, 3) := by decide +kernel
theorem d_Model_item_82 : decode c_Model_item 82 = .ok (.bipush 43, 2) := by decide +kernel
theorem d_Model_item_84 : decode c_Model_item 84 = .ok (.if_icmp .ne 12, 3) := by decide +kernel
theorem d_Model_item_87 : decode c_Model_item 87 = .ok (.aload_n 0, 1) := by decide +kernel
theorem d_Model_item_88 : decode c_Model_item 88 = .ok (.iload 5, 2) := by decide +kernel
theorem d_Model_item_90 : decode c_Model_item 90 = .ok (.invokevirtual 102, 3) := by decide +kernel
theorem d_Model_item_93 : decode c_Model_item 93 = .ok (.goto 4, 3) := by decide +kernel
theorem d_Model_item_96 : decode c_Model_item 96 = .ok (.iconst 0, 1) := by decide +kernel
theorem d_Model_item_97 : decode c_Model_item 97 = .ok (.istore 6, 2) := by decide +kernel
theorem d_Model_item_99 : decode c_Model_item 99 = .ok (.iload 4, 2) := by decide +kernel
theorem d_Model_item_101 : decode c_Model_item 101 = .ok (.ifCond .ne 7, 3) := by decide +kernel
theorem d_Model_item_104 : decode c_Model_item 104 = .ok (.iload_n 2, 1) := by decide +kernel
theorem d_Model_item_105 : decode c_Model_item 105 = .ok (.goto 17, 3) := by decide +kernel
theorem d_Model_item_108 : decode c_Model_item 108 = .ok (.iload 6, 2) := by decide +kernel
theorem d_Model_item_110 : decode c_Model_item 110 = .ok (.ifCond .ne 8, 3) := by decide +kernel
theorem d_Model_item_113 : decode c_Model_item 113 = .ok (.iload 5, 2) := by decide +kernel
theorem d_Model_item_115 : decode c_Model_item 115 = .ok (.goto 7, 3) := by decide +kernel
theorem d_Model_item_118 : decode c_Model_item 118 = .ok (.iload 5, 2) := by decide +kernel
theorem d_Model_item_120 : decode c_Model_item 120 = .ok (.iconst 1, 1) := by decide +kernel
theorem d_Model_item_121 : decode c_Model_item 121 = .ok (.iadd, 1) := by decide +kernel
theorem d_Model_item_122 : decode c_Model_item 122 = .ok (.istore 7, 2) := by decide +kernel
theorem d_Model_item_124 : decode c_Model_item 124 = .ok (.iload_n 3, 1) := by decide +kernel
theorem d_Model_item_125 : decode c_Model_item 125 = .ok (.bipush 123, 2) := by decide +kernel
theorem d_Model_item_127 : decode c_Model_item 127 = .ok (.if_icmp .ne 27, 3) := by decide +kernel
theorem d_Model_item_130 : decode c_Model_item 130 = .ok (.aload_n 0, 1) := by decide +kernel
theorem d_Model_item_131 : decode c_Model_item 131 = .ok (.iload_n 2, 1) := by decide +kernel
theorem d_Model_item_132 : decode c_Model_item 132 = .ok (.iconst 1, 1) := by decide +kernel
theorem d_Model_item_133 : decode c_Model_item 133 = .ok (.iadd, 1) := by decide +kernel
theorem d_Model_item_134 : decode c_Model_item 134 = .ok (.invokevirtual 102, 3) := by decide +kernel
theorem d_Model_item_137 : decode c_Model_item 137 = .ok (.bipush 48, 2) := by decide +kernel
theorem d_Model_item_139 : decode c_Model_item 139 = .ok (.if_icmp .ne 15, 3) := by decide +kernel
theorem d_Model_item_142 : decode c_Model_item 142 = .ok (.aload_n 0, 1) := by decide +kernel
theorem d_Model_item_143 : decode c_Model_item 143 = .ok (.iconst 0, 1) := by decide +kernel
theorem d_Model_item_144 : decode c_Model_item 144 = .ok (.iload 7, 2) := by decide +kernel
theorem d_Model_item_146 : decode c_Model_item 146 = .ok (.aload_n 0, 1) := by decide +kernel
theorem d_Model_item_147 : decode c_Model_item 147 = .ok (.getfield 133, 3) := by decide +kernel
theorem d_Model_item_150 : decode c_Model_item 150 = .ok (.invokevirtual 163, 3) := by decide +kernel
theorem d_Model_item_153 : decode c_Model_item 153 = .ok (.return_, 1) := by decide +kernel
theorem d_Model_item_154 : decode c_Model_item 154 = .ok (.aload_n 0, 1) := by decide +kernel
theorem d_Model_item_155 : decode c_Model_item 155 = .ok (.iconst 1, 1) := by decide +kernel
theorem d_Model_item_156 : decode c_Model_item 156 = .ok (.iload 7, 2) := by decide +kernel
theorem d_Model_item_158 : decode c_Model_item 158 = .ok (.iconst 0, 1) := by decide +kernel
theorem d_Model_item_159 : decode c_Model_item 159 = .ok (.aload_n 0, 1) := by decide +kernel
theorem d_Model_item_160 : decode c_Model_item 160 = .ok (.getfield 133, 3) := by decide +kernel
theorem d_Model_item_163 : decode c_Model_item 163 = .ok (.invokevirtual 159, 3) := by decide +kernel
theorem d_Model_item_166 : decode c_Model_item 166 = .ok (.istore 8, 2) := by decide +kernel
theorem d_Model_item_168 : decode c_Model_item 168 = .ok (.iload 6, 2) := by decide +kernel
theorem d_Model_item_170 : decode c_Model_item 170 = .ok (.bipush 43, 2) := by decide +kernel
theorem d_Model_item_172 : decode c_Model_item 172 = .ok (.if_icmp .ne 18, 3) := by decide +kernel
theorem d_Model_item_175 : decode c_Model_item 175 = .ok (.aload_n 0, 1) := by decide +kernel
theorem d_Model_item_176 : decode c_Model_item 176 = .ok (.bipush 7, 2) := by decide +kernel
theorem d_Model_item_178 : decode c_Model_item 178 = .ok (.iconst 0, 1) := by decide +kernel
theorem d_Model_item_179 : decode c_Model_item 179 = .ok (.aload_n 0, 1) := by decide +kernel
theorem d_Model_item_180 : decode c_Model_item 180 = .ok (.getfield 117, 3) := by decide +kernel
theorem d_Model_item_183 : decode c_Model_item 183 = .ok (.iload 8, 2) := by decide +kernel
theorem d_Model_item_185 : decode c_Model_item 185 = .ok (.invokevirtual 159, 3) := by decide +kernel
theorem d_Model_item_188 : decode c_Model_item 188 = .ok (.istore 8, 2) := by decide +kernel
theorem d_Model_item_190 : decode c_Model_item 190 = .ok (.iload 4, 2) := by decide +kernel
theorem d_Model_item_192 : decode c_Model_item 192 = .ok (.ifCond .ne 14, 3) := by decide +kernel
theorem d_Model_item_195 : decode c_Model_item 195 = .ok (.aload_n 0, 1) := by decide +kernel
theorem d_Model_item_196 : decode c_Model_item 196 = .ok (.iconst 2, 1) := by decide +kernel
theorem d_Model_item_197 : decode c_Model_item 197 = .ok (.iload_n 1, 1) := by decide +kernel
theorem d_Model_item_198 : decode c_Model_item 198 = .ok (.iload 8, 2) := by decide +kernel
theorem d_Model_item_200 : decode c_Model_item 200 = .ok (.invokevirtual 163, 3) := by decide +kernel
theorem d_Model_item_203 : decode c_Model_item 203 = .ok (.goto 140, 3) := by decide +kernel
theorem d_Model_item_206 : decode c_Model_item 206 = .ok (.iload_n 3, 1) := by decide +kernel
theorem d_Model_item_207 : decode c_Model_item 207 = .ok (.bipush 42, 2) := by decide +kernel
theorem d_Model_item_209 : decode c_Model_item 209 = .ok (.if_icmp .ne 25, 3) := by decide +kernel
theorem d_Model_item_212 : decode c_Model_item 212 = .ok (.aload_n 0, 1) := by decide +kernel
theorem d_Model_item_213 : decode c_Model_item 213 = .ok (.iload 6, 2) := by decide +kernel
theorem d_Model_item_215 : decode c_Model_item 215 = .ok (.bipush 63, 2) := by decide +kernel
theorem d_Model_item_217 : decode c_Model_item 217 = .ok (.if_icmp .ne 7, 3) := by decide +kernel
theorem d_Model_item_220 : decode c_Model_item 220 = .ok (.iconst 4, 1) := by decide +kernel
theorem d_Model_item_221 : decode c_Model_item 221 = .ok (.goto 4, 3) := by decide +kernel
theorem d_Model_item_224 : decode c_Model_item 224 = .ok (.iconst 3, 1) := by decide +kernel
theorem d_Model_item_225 : decode c_Model_item 225 = .ok (.iload_n 1, 1) := by decide +kernel
theorem d_Model_item_226 : decode c_Model_item 226 = .ok (.iload 8, 2) := by decide +kernel
theorem d_Model_item_228 : decode c_Model_item 228 = .ok (.invokevirtual 163, 3) := by decide +kernel
theorem d_Model_item_231 : decode c_Model_item 231 = .ok (.goto 112, 3) := by decide +kernel
theorem d_Model_item_234 : decode c_Model_item 234 = .ok (.iload_n 3, 1) := by decide +kernel
theorem d_Model_item_235 : decode c_Model_item 235 = .ok (.bipush 43, 2) := by decide +kernel
theorem d_Model_item_237 : decode c_Model_item 237 = .ok (.if_icmp .ne 34, 3) := by decide +kernel
theorem d_Model_item_240 : decode c_Model_item 240 = .ok (.aload_n 0, 1) := by decide +kernel
theorem d_Model_item_241 : decode c_Model_item 241 = .ok (.iconst 2, 1) := by decide +kernel
theorem d_Model_item_242 : decode c_Model_item 242 = .ok (.iload_n 1, 1) := by decide +kernel
theorem d_Model_item_243 : decode c_Model_item 243 = .ok (.aload_n 0, 1) := by decide +kernel
theorem d_Model_item_244 : decode c_Model_item 244 = .ok (.iload 6, 2) := by decide +kernel
theorem d_Model_item_246 : decode c_Model_item 246 = .ok (.bipush 63, 2) := by decide +kernel
theorem d_Model_item_248 : decode c_Model_item 248 = .ok (.if_icmp .ne 8, 3) := by decide +kernel
theorem d_Model_item_251 : decode c_Model_item 251 = .ok (.bipush 11, 2) := by decide +kernel
theorem d_Model_item_253 : decode c_Model_item 253 = .ok (.goto 5, 3) := by decide +kernel
theorem d_Model_item_256 : decode c_Model_item 256 = .ok (.bipush 10, 2) := by decide +kernel
theorem d_Model_item_258 : decode c_Model_item 258 = .ok (.iload_n 1, 1) := by decide +kernel
theorem d_Model_item_259 : decode c_Model_item 259 = .ok (.iconst 0, 1) := by decide +kernel
theorem d_Model_item_260 : decode c_Model_item 260 = .ok (.iload 8, 2) := by decide +kernel
theorem d_Model_item_262 : decode c_Model_item 262 = .ok (.invokevirtual 159, 3) := by decide +kernel
theorem d_Model_item_265 : decode c_Model_item 265 = .ok (.invokevirtual 163, 3) := by decide +kernel
theorem d_Model_item_268 : decode c_Model_item 268 = .ok (.goto 75, 3) := by decide +kernel
theorem d_Model_item_271 : decode c_Model_item 271 = .ok (.iload_n 3, 1) := by decide +kernel
theorem d_Model_item_272 : decode c_Model_item 272 = .ok (.bipush 123, 2) := by decide +kernel
theorem d_Model_item_274 : decode c_Model_item 274 = .ok (.if_icmp .ne 31, 3) := by decide +kernel
theorem d_Model_item_277 : decode c_Model_item 277 = .ok (.aload_n 0, 1) := by decide +kernel
theorem d_Model_item_278 : decode c_Model_item 278 = .ok (.iconst 2, 1) := by decide +kernel
theorem d_Model_item_279 : decode c_Model_item 279 = .ok (.iload_n 1, 1) := by decide +kernel
theorem d_Model_item_280 : decode c_Model_item 280 = .ok (.aload_n 0, 1) := by decide +kernel
theorem d_Model_item_281 : decode c_Model_item 281 = .ok (.bipush 6, 2) := by decide +kernel
theorem d_Model_item_283 : decode c_Model_item 283 = .ok (.iload_n 1, 1) := by decide +kernel
theorem d_Model_item_284 : decode c_Model_item 284 = .ok (.aload_n 0, 1) := by decide +kernel
theorem d_Model_item_285 : decode c_Model_item 285 = .ok (.iload_n 2, 1) := by decide +kernel
theorem d_Model_item_286 : decode c_Model_item 286 = .ok (.iconst 1, 1) := by decide +kernel
theorem d_Model_item_287 : decode c_Model_item 287 = .ok (.iadd, 1) := by decide +kernel
theorem d_Model_item_288 : decode c_Model_item 288 = .ok (.invokevirtual 102, 3) := by decide +kernel
theorem d_Model_item_291 : decode c_Model_item 291 = .ok (.bipush 49, 2) := by decide +kernel
theorem d_Model_item_293 : decode c_Model_item 293 = .ok (.isub, 1) := by decide +kernel
theorem d_Model_item_294 : decode c_Model_item 294 = .ok (.iload 8, 2) := by decide +kernel
theorem d_Model_item_296 : decode c_Model_item 296 = .ok (.invokevirtual 159, 3) := by decide +kernel
theorem d_Model_item_299 : decode c_Model_item 299 = .ok (.invokevirtual 163, 3) := by decide +kernel
theorem d_Model_item_302 : decode c_Model_item 302 = .ok (.goto 41, 3) := by decide +kernel
theorem d_Model_item_305 : decode c_Model_item 305 = .ok (.aload_n 0, 1) := by decide +kernel
theorem d_Model_item_306 : decode c_Model_item 306 = .ok (.iload 6, 2) := by decide +kernel
theorem d_Model_item_308 : decode c_Model_item 308 = .ok (.bipush 63, 2) := by decide +kernel
theorem d_Model_item_310 : decode c_Model_item 310 = .ok (.if_icmp .ne 7, 3) := by decide +kernel
theorem d_Model_item_313 : decode c_Model_item 313 = .ok (.iconst 2, 1) := by decide +kernel
theorem d_Model_item_314 : decode c_Model_item 314 = .ok (.goto 4, 3) := by decide +kernel
theorem d_Model_item_317 : decode c_Model_item 317 = .ok (.iconst 5, 1) := by decide +kernel
theorem d_Model_item_318 : decode c_Model_item 318 = .ok (.iload_n 1, 1) := by decide +kernel
theorem d_Model_item_319 : decode c_Model_item 319 = .ok (.iload 8, 2) := by decide +kernel
theorem d_Model_item_321 : decode c_Model_item 321 = .ok (.invokevirtual 167, 3) := by decide +kernel
theorem d_Model_item_324 : decode c_Model_item 324 = .ok (.aload_n 0, 1) := by decide +kernel
theorem d_Model_item_325 : decode c_Model_item 325 = .ok (.iload 6, 2) := by decide +kernel
theorem d_Model_item_327 : decode c_Model_item 327 = .ok (.bipush 63, 2) := by decide +kernel
theorem d_Model_item_329 : decode c_Model_item 329 = .ok (.if_icmp .ne 7, 3) := by decide +kernel
theorem d_Model_item_332 : decode c_Model_item 332 = .ok (.iconst 5, 1) := by decide +kernel
theorem d_Model_item_333 : decode c_Model_item 333 = .ok (.goto 4, 3) := by decide +kernel
theorem d_Model_item_336 : decode c_Model_item 336 = .ok (.iconst 2, 1) := by decide +kernel
theorem d_Model_item_337 : decode c_Model_item 337 = .ok (.iload_n 1, 1) := by decide +kernel
theorem d_Model_item_338 : decode c_Model_item 338 = .ok (.iload 8, 2) := by decide +kernel
theorem d_Model_item_340 : decode c_Model_item 340 = .ok (.invokevirtual 163, 3) := by decide +kernel
theorem d_Model_item_343 : decode c_Model_item 343 = .ok (.return_, 1) := by decide +kernel
theorem d_Model_star_0 : decode c_Model_star 0 = .ok (.aload_n 0, 1) := by decide +kernel
theorem d_Model_star_1 : decode c_Model_star 1 = .ok (.iload_n 1, 1) := by decide +kernel
theorem d_Model_star_2 : decode c_Model_star 2 = .ok (.ifCond .eq 7, 3) := by decide +kernel
theorem d_Model_star_5 : decode c_Model_star 5 = .ok (.iconst 5, 1) := by decide +kernel
theorem d_Model_star_6 : decode c_Model_star 6 = .ok (.goto 4, 3) := by decide +kernel
theorem d_Model_star_9 : decode c_Model_star 9 = .ok (.iconst 4, 1) := by decide +kernel
theorem d_Model_star_10 : decode c_Model_star 10 = .ok (.aload_n 0, 1) := by decide +kernel
theorem d_Model_star_11 : decode c_Model_star 11 = .ok (.getfield 130, 3) := by decide +kernel
theorem d_Model_star_14 : decode c_Model_star 14 = .ok (.aload_n 0, 1) := by decide +kernel
theorem d_Model_star_15 : decode c_Model_star 15 = .ok (.getfield 120, 3) := by decide +kernel
theorem d_Model_star_18 : decode c_Model_star 18 = .ok (.aload_n 0, 1) := by decide +kernel
theorem d_Model_star_19 : decode c_Model_star 19 = .ok (.getfield 133, 3) := by decide +kernel
theorem d_Model_star_22 : decode c_Model_star 22 = .ok (.invokevirtual 159, 3) := by decide +kernel
theorem d_Model_star_25 : decode c_Model_star 25 = .ok (.istore_n 2, 1) := by decide +kernel
theorem d_Model_star_26 : decode c_Model_star 26 = .ok (.aload_n 0, 1) := by decide +kernel
theorem d_Model_star_27 : decode c_Model_star 27 = .ok (.iload_n 1, 1) := by decide +kernel
theorem d_Model_star_28 : decode c_Model_star 28 = .ok (.ifCond .eq 7, 3) := by decide +kernel
theorem d_Model_star_31 : decode c_Model_star 31 = .ok (.iconst 2, 1) := by decide +kernel
theorem d_Model_star_32 : decode c_Model_star 32 = .ok (.goto 4, 3) := by decide +kernel
theorem d_Model_star_35 : decode c_Model_star 35 = .ok (.iconst 5, 1) := by decide +kernel
theorem d_Model_star_36 : decode c_Model_star 36 = .ok (.aload_n 0, 1) := by decide +kernel
theorem d_Model_star_37 : decode c_Model_star 37 = .ok (.getfield 130, 3) := by decide +kernel
theorem d_Model_star_40 : decode c_Model_star 40 = .ok (.iload_n 1, 1) := by decide +kernel
theorem d_Model_star_41 : decode c_Model_star 41 = .ok (.ifCond .eq 7, 3) := by decide +kernel
theorem d_Model_star_44 : decode c_Model_star 44 = .ok (.iload_n 2, 1) := by decide +kernel
theorem d_Model_star_45 : decode c_Model_star 45 = .ok (.goto 7, 3) := by decide +kernel
theorem d_Model_star_48 : decode c_Model_star 48 = .ok (.aload_n 0, 1) := by decide +kernel
theorem d_Model_star_49 : decode c_Model_star 49 = .ok (.getfield 133, 3) := by decide +kernel
theorem d_Model_star_52 : decode c_Model_star 52 = .ok (.invokevirtual 167, 3) := by decide +kernel
theorem d_Model_star_55 : decode c_Model_star 55 = .ok (.aload_n 0, 1) := by decide +kernel
theorem d_Model_star_56 : decode c_Model_star 56 = .ok (.iload_n 1, 1) := by decide +kernel
theorem d_Model_star_57 : decode c_Model_star 57 = .ok (.ifCond .eq 7, 3) := by decide +kernel
theorem d_Model_star_60 : decode c_Model_star 60 = .ok (.iconst 5, 1) := by decide +kernel
theorem d_Model_star_61 : decode c_Model_star 61 = .ok (.goto 4, 3) := by decide +kernel
theorem d_Model_star_64 : decode c_Model_star 64 = .ok (.iconst 2, 1) := by decide +kernel
theorem d_Model_star_65 : decode c_Model_star 65 = .ok (.aload_n 0, 1) := by decide +kernel
theorem d_Model_star_66 : decode c_Model_star 66 = .ok (.getfield 130, 3) := by decide +kernel
theorem d_Model_star_69 : decode c_Model_star 69 = .ok (.iload_n 1, 1) := by decide +kernel
theorem d_Model_star_70 : decode c_Model_star 70 = .ok (.ifCond .eq 10, 3) := by decide +kernel
theorem d_Model_star_73 : decode c_Model_star 73 = .ok (.aload_n 0, 1) := by decide +kernel
theorem d_Model_star_74 : decode c_Model_star 74 = .ok (.getfield 133, 3) := by decide +kernel
theorem d_Model_star_77 : decode c_Model_star 77 = .ok (.goto 4, 3) := by decide +kernel
theorem d_Model_star_80 : decode c_Model_star 80 = .ok (.iload_n 2, 1) := by decide +kernel
theorem d_Model_star_81 : decode c_Model_star 81 = .ok (.invokevirtual 163, 3) := by decide +kernel
theorem d_Model_star_84 : decode c_Model_star 84 = .ok (.return_, 1) := by decide +kernel
theorem d_Model_atom_0 : decode c_Model_atom 0 = .ok (.aload_n 0, 1) := by decide +kernel
theorem d_Model_atom_1 : decode c_Model_atom 1 = .ok (.dup, 1) := by decide +kernel
theorem d_Model_atom_2 : decode c_Model_atom 2 = .ok (.getfield 173, 3) := by decide +kernel
theorem d_Model_atom_5 : decode c_Model_atom 5 = .ok (.iconst 1, 1) := by decide +kernel
theorem d_Model_atom_6 : decode c_Model_atom 6 = .ok (.iadd, 1) := by decide +kernel
theorem d_Model_atom_7 : decode c_Model_atom 7 = .ok (.putfield 173, 3) := by decide +kernel
theorem d_Model_atom_10 : decode c_Model_atom 10 = .ok (.aload_n 0, 1) := by decide +kernel
theorem d_Model_atom_11 : decode c_Model_atom 11 = .ok (.aload_n 0, 1) := by decide +kernel
theorem d_Model_atom_12 : decode c_Model_atom 12 = .ok (.getfield 130, 3) := by decide +kernel
theorem d_Model_atom_15 : decode c_Model_atom 15 = .ok (.invokevirtual 102, 3) := by decide +kernel
theorem d_Model_atom_18 : decode c_Model_atom 18 = .ok (.bipush 40, 2) := by decide +kernel
theorem d_Model_atom_20 : decode c_Model_atom 20 = .ok (.if_icmp .ne 14, 3) := by decide +kernel
theorem d_Model_atom_23 : decode c_Model_atom 23 = .ok (.aload_n 0, 1) := by decide +kernel
theorem d_Model_atom_24 : decode c_Model_atom 24 = .ok (.aload_n 0, 1) := by decide +kernel
theorem d_Model_atom_25 : decode c_Model_atom 25 = .ok (.getfield 130, 3) := by decide +kernel
theorem d_Model_atom_28 : decode c_Model_atom 28 = .ok (.invokevirtual 179, 3) := by decide +kernel
theorem d_Model_atom_31 : decode c_Model_atom 31 = .ok (.goto 29, 3) := by decide +kernel
theorem d_Model_atom_34 : decode c_Model_atom 34 = .ok (.aload_n 0, 1) := by decide +kernel
theorem d_Model_atom_35 : decode c_Model_atom 35 = .ok (.aload_n 0, 1) := by decide +kernel
theorem d_Model_atom_36 : decode c_Model_atom 36 = .ok (.aload_n 0, 1) := by decide +kernel
theorem d_Model_atom_37 : decode c_Model_atom 37 = .ok (.getfield 130, 3) := by decide +kernel
theorem d_Model_atom_40 : decode c_Model_atom 40 = .ok (.invokevirtual 183, 3) := by decide +kernel
theorem d_Model_atom_43 : decode c_Model_atom 43 = .ok (.ifCond .eq 7, 3) := by decide +kernel
theorem d_Model_atom_46 : decode c_Model_atom 46 = .ok (.iconst 5, 1) := by decide +kernel
theorem d_Model_atom_47 : decode c_Model_atom 47 = .ok (.goto 5, 3) := by decide +kernel
theorem d_Model_atom_50 : decode c_Model_atom 50 = .ok (.bipush 6, 2) := by decide +kernel
theorem d_Model_atom_52 : decode c_Model_atom 52 = .ok (.iconst 0, 1) := by decide +kernel
theorem d_Model_atom_53 : decode c_Model_atom 53 = .ok (.aload_n 0, 1) := by decide +kernel
theorem d_Model_atom_54 : decode c_Model_atom 54 = .ok (.getfield 133, 3) := by decide +kernel
theorem d_Model_atom_57 : decode c_Model_atom 57 = .ok (.invokevirtual 163, 3) := by decide +kernel
theorem d_Model_atom_60 : decode c_Model_atom 60 = .ok (.return_, 1) := by decide +kernel
theorem d_Model_carryOn_0 : decode c_Model_carryOn 0 = .ok (.aload_n 0, 1) := by decide +kernel
theorem d_Model_carryOn_1 : decode c_Model_carryOn 1 = .ok (.getfield 133, 3) := by decide +kernel
theorem d_Model_carryOn_4 : decode c_Model_carryOn 4 = .ok (.istore_n 1, 1) := by decide +kernel
theorem d_Model_carryOn_5 : decode c_Model_carryOn 5 = .ok (.aload_n 0, 1) := by decide +kernel
theorem d_Model_carryOn_6 : decode c_Model_carryOn 6 = .ok (.iload_n 1, 1) := by decide +kernel
theorem d_Model_carryOn_7 : decode c_Model_carryOn 7 = .ok (.invokevirtual 139, 3) := by decide +kernel
theorem d_Model_carryOn_10 : decode c_Model_carryOn 10 = .ok (.istore_n 2, 1) := by decide +kernel
theorem d_Model_carryOn_11 : decode c_Model_carryOn 11 = .ok (.aload_n 0, 1) := by decide +kernel
theorem d_Model_carryOn_12 : decode c_Model_carryOn 12 = .ok (.iload_n 1, 1) := by decide +kernel
theorem d_Model_carryOn_13 : decode c_Model_carryOn 13 = .ok (.invokevirtual 186, 3) := by decide +kernel
theorem d_Model_carryOn_16 : decode c_Model_carryOn 16 = .ok (.istore_n 3, 1) := by decide +kernel
theorem d_Model_carryOn_17 : decode c_Model_carryOn 17 = .ok (.aload_n 0, 1) := by decide +kernel
theorem d_Model_carryOn_18 : decode c_Model_carryOn 18 = .ok (.iload_n 1, 1) := by decide +kernel
theorem d_Model_carryOn_19 : decode c_Model_carryOn 19 = .ok (.invokevirtual 189, 3) := by decide +kernel
theorem d_Model_carryOn_22 : decode c_Model_carryOn 22 = .ok (.istore 4, 2) := by decide +kernel
theorem d_Model_carryOn_24 : decode c_Model_carryOn 24 = .ok (.aload_n 0, 1) := by decide +kernel
theorem d_Model_carryOn_25 : decode c_Model_carryOn 25 = .ok (.iload_n 1, 1) := by decide +kernel
theorem d_Model_carryOn_26 : decode c_Model_carryOn 26 = .ok (.invokevirtual 136, 3) := by decide +kernel
theorem d_Model_carryOn_29 : decode c_Model_carryOn 29 = .ok (.tableswitch 254 1 9 #[51, 61, 117, 138, 138, 167, 206, 206, 237], 51) := by decide +kernel
theorem d_Model_carryOn_80 : decode c_Model_carryOn 80 = .ok (.aload_n 0, 1) := by decide +kernel
theorem d_Model_carryOn_81 : decode c_Model_carryOn 81 = .ok (.iconst 0, 1) := by decide +kernel
theorem d_Model_carryOn_82 : decode c_Model_carryOn 82 = .ok (.iload_n 3, 1) := by decide +kernel
theorem d_Model_carryOn_83 : decode c_Model_carryOn 83 = .ok (.iload_n 2, 1) := by decide +kernel
theorem d_Model_carryOn_84 : decode c_Model_carryOn 84 = .ok (.invokevirtual 163, 3) := by decide +kernel
theorem d_Model_carryOn_87 : decode c_Model_carryOn 87 = .ok (.goto 210, 3) := by decide +kernel
theorem d_Model_carryOn_90 : decode c_Model_carryOn 90 = .ok (.bipush 12, 2) := by decide +kernel
theorem d_Model_carryOn_92 : decode c_Model_carryOn 92 = .ok (.iload_n 3, 1) := by decide +kernel
theorem d_Model_carryOn_93 : decode c_Model_carryOn 93 = .ok (.iconst 1, 1) := by decide +kernel
theorem d_Model_carryOn_94 : decode c_Model_carryOn 94 = .ok (.isub, 1) := by decide +kernel
theorem d_Model_carryOn_95 : decode c_Model_carryOn 95 = .ok (.imul, 1) := by decide +kernel
theorem d_Model_carryOn_96 : decode c_Model_carryOn 96 = .ok (.istore 5, 2) := by decide +kernel
theorem d_Model_carryOn_98 : decode c_Model_carryOn 98 = .ok (.aload_n 0, 1) := by decide +kernel
theorem d_Model_carryOn_99 : decode c_Model_carryOn 99 = .ok (.aload_n 0, 1) := by decide +kernel
theorem d_Model_carryOn_100 : decode c_Model_carryOn 100 = .ok (.getfield 123, 3) := by decide +kernel
theorem d_Model_carryOn_103 : decode c_Model_carryOn 103 = .ok (.ldc2_w 192, 3) := by decide +kernel
theorem d_Model_carryOn_106 : decode c_Model_carryOn 106 = .ok (.iload 5, 2) := by decide +kernel
theorem d_Model_carryOn_108 : decode c_Model_carryOn 108 = .ok (.lshl, 1) := by decide +kernel
theorem d_Model_carryOn_109 : decode c_Model_carryOn 109 = .ok (.ldc2_w 194, 3) := by decide +kernel
theorem d_Model_carryOn_112 : decode c_Model_carryOn 112 = .ok (.lxor, 1) := by decide +kernel
theorem d_Model_carryOn_113 : decode c_Model_carryOn 113 = .ok (.land, 1) := by decide +kernel
theorem d_Model_carryOn_114 : decode c_Model_carryOn 114 = .ok (.bipush 64, 2) := by decide +kernel
theorem d_Model_carryOn_116 : decode c_Model_carryOn 116 = .ok (.iload 4, 2) := by decide +kernel
theorem d_Model_carryOn_118 : decode c_Model_carryOn 118 = .ok (.iconst 1, 1) := by decide +kernel
theorem d_Model_carryOn_119 : decode c_Model_carryOn 119 = .ok (.iadd, 1) := by decide +kernel
theorem d_Model_carryOn_120 : decode c_Model_carryOn 120 = .ok (.imul, 1) := by decide +kernel
theorem d_Model_carryOn_121 : decode c_Model_carryOn 121 = .ok (.aload_n 0, 1) := by decide +kernel
theorem d_Model_carryOn_122 : decode c_Model_carryOn 122 = .ok (.getfield 120, 3) := by decide +kernel
theorem d_Model_carryOn_125 : decode c_Model_carryOn 125 = .ok (.iadd, 1) := by decide +kernel
theorem d_Model_carryOn_126 : decode c_Model_carryOn 126 = .ok (.iconst 1, 1) := by decide +kernel
theorem d_Model_carryOn_127 : decode c_Model_carryOn 127 = .ok (.iadd, 1) := by decide +kernel
theorem d_Model_carryOn_128 : decode c_Model_carryOn 128 = .ok (.i2l, 1) := by decide +kernel
theorem d_Model_carryOn_129 : decode c_Model_carryOn 129 = .ok (.iload 5, 2) := by decide +kernel
theorem d_Model_carryOn_131 : decode c_Model_carryOn 131 = .ok (.lshl, 1) := by decide +kernel
theorem d_Model_carryOn_132 : decode c_Model_carryOn 132 = .ok (.lor, 1) := by decide +kernel
theorem d_Model_carryOn_133 : decode c_Model_carryOn 133 = .ok (.putfield 123, 3) := by decide +kernel
theorem d_Model_carryOn_136 : decode c_Model_carryOn 136 = .ok (.aload_n 0, 1) := by decide +kernel
theorem d_Model_carryOn_137 : decode c_Model_carryOn 137 = .ok (.iconst 5, 1) := by decide +kernel
theorem d_Model_carryOn_138 : decode c_Model_carryOn 138 = .ok (.iconst 0, 1) := by decide +kernel
theorem d_Model_carryOn_139 : decode c_Model_carryOn 139 = .ok (.iload_n 2, 1) := by decide +kernel
theorem d_Model_carryOn_140 : decode c_Model_carryOn 140 = .ok (.invokevirtual 163, 3) := by decide +kernel
theorem d_Model_carryOn_143 : decode c_Model_carryOn 143 = .ok (.goto 154, 3) := by decide +kernel
theorem d_Model_carryOn_146 : decode c_Model_carryOn 146 = .ok (.aload_n 0, 1) := by decide +kernel
theorem d_Model_carryOn_147 : decode c_Model_carryOn 147 = .ok (.aload_n 0, 1) := by decide +kernel
theorem d_Model_carryOn_148 : decode c_Model_carryOn 148 = .ok (.getfield 26, 3) := by decide +kernel
theorem d_Model_carryOn_151 : decode c_Model_carryOn 151 = .ok (.iload 4, 2) := by decide +kernel
theorem d_Model_carryOn_153 : decode c_Model_carryOn 153 = .ok (.laload, 1) := by decide +kernel
theorem d_Model_carryOn_154 : decode c_Model_carryOn 154 = .ok (.putfield 123, 3) := by decide +kernel
theorem d_Model_carryOn_157 : decode c_Model_carryOn 157 = .ok (.aload_n 0, 1) := by decide +kernel
theorem d_Model_carryOn_158 : decode c_Model_carryOn 158 = .ok (.iconst 5, 1) := by decide +kernel
theorem d_Model_carryOn_159 : decode c_Model_carryOn 159 = .ok (.iconst 0, 1) := by decide +kernel
theorem d_Model_carryOn_160 : decode c_Model_carryOn 160 = .ok (.iload_n 2, 1) := by decide +kernel
theorem d_Model_carryOn_161 : decode c_Model_carryOn 161 = .ok (.invokevirtual 163, 3) := by decide +kernel
theorem d_Model_carryOn_164 : decode c_Model_carryOn 164 = .ok (.goto 133, 3) := by decide +kernel
theorem d_Model_carryOn_167 : decode c_Model_carryOn 167 = .ok (.aload_n 0, 1) := by decide +kernel
theorem d_Model_carryOn_168 : decode c_Model_carryOn 168 = .ok (.iload 4, 2) := by decide +kernel
theorem d_Model_carryOn_170 : decode c_Model_carryOn 170 = .ok (.aload_n 0, 1) := by decide +kernel
theorem d_Model_carryOn_171 : decode c_Model_carryOn 171 = .ok (.getfield 120, 3) := by decide +kernel
theorem d_Model_carryOn_174 : decode c_Model_carryOn 174 = .ok (.if_icmp .ne 7, 3) := by decide +kernel
theorem d_Model_carryOn_177 : decode c_Model_carryOn 177 = .ok (.iconst 5, 1) := by decide +kernel
theorem d_Model_carryOn_178 : decode c_Model_carryOn 178 = .ok (.goto 10, 3) := by decide +kernel
theorem d_Model_carryOn_181 : decode c_Model_carryOn 181 = .ok (.aload_n 0, 1) := by decide +kernel
theorem d_Model_carryOn_182 : decode c_Model_carryOn 182 = .ok (.iload_n 1, 1) := by decide +kernel
theorem d_Model_carryOn_183 : decode c_Model_carryOn 183 = .ok (.invokevirtual 136, 3) := by decide +kernel
theorem d_Model_carryOn_186 : decode c_Model_carryOn 186 = .ok (.iconst 1, 1) := by decide +kernel
theorem d_Model_carryOn_187 : decode c_Model_carryOn 187 = .ok (.isub, 1) := by decide +kernel
theorem d_Model_carryOn_188 : decode c_Model_carryOn 188 = .ok (.iload_n 3, 1) := by decide +kernel
theorem d_Model_carryOn_189 : decode c_Model_carryOn 189 = .ok (.iload_n 2, 1) := by decide +kernel
theorem d_Model_carryOn_190 : decode c_Model_carryOn 190 = .ok (.invokevirtual 163, 3) := by decide +kernel
theorem d_Model_carryOn_193 : decode c_Model_carryOn 193 = .ok (.goto 104, 3) := by decide +kernel
theorem d_Model_carryOn_196 : decode c_Model_carryOn 196 = .ok (.aload_n 0, 1) := by decide +kernel
theorem d_Model_carryOn_197 : decode c_Model_carryOn 197 = .ok (.iload 4, 2) := by decide +kernel
theorem d_Model_carryOn_199 : decode c_Model_carryOn 199 = .ok (.ifCond .ne 7, 3) := by decide +kernel
theorem d_Model_carryOn_202 : decode c_Model_carryOn 202 = .ok (.iconst 5, 1) := by decide +kernel
theorem d_Model_carryOn_203 : decode c_Model_carryOn 203 = .ok (.goto 4, 3) := by decide +kernel
theorem d_Model_carryOn_206 : decode c_Model_carryOn 206 = .ok (.iconst 2, 1) := by decide +kernel
theorem d_Model_carryOn_207 : decode c_Model_carryOn 207 = .ok (.iload_n 3, 1) := by decide +kernel
theorem d_Model_carryOn_208 : decode c_Model_carryOn 208 = .ok (.iload 4, 2) := by decide +kernel
theorem d_Model_carryOn_210 : decode c_Model_carryOn 210 = .ok (.ifCond .ne 7, 3) := by decide +kernel
theorem d_Model_carryOn_213 : decode c_Model_carryOn 213 = .ok (.iload_n 2, 1) := by decide +kernel
theorem d_Model_carryOn_214 : decode c_Model_carryOn 214 = .ok (.goto 15, 3) := by decide +kernel
theorem d_Model_carryOn_217 : decode c_Model_carryOn 217 = .ok (.aload_n 0, 1) := by decide +kernel
theorem d_Model_carryOn_218 : decode c_Model_carryOn 218 = .ok (.bipush 6, 2) := by decide +kernel
theorem d_Model_carryOn_220 : decode c_Model_carryOn 220 = .ok (.iload_n 3, 1) := by decide +kernel
theorem d_Model_carryOn_221 : decode c_Model_carryOn 221 = .ok (.iload 4, 2) := by decide +kernel
theorem d_Model_carryOn_223 : decode c_Model_carryOn 223 = .ok (.iconst 1, 1) := by decide +kernel
theorem d_Model_carryOn_224 : decode c_Model_carryOn 224 = .ok (.isub, 1) := by decide +kernel
theorem d_Model_carryOn_225 : decode c_Model_carryOn 225 = .ok (.iload_n 2, 1) := by decide +kernel
theorem d_Model_carryOn_226 : decode c_Model_carryOn 226 = .ok (.invokevirtual 159, 3) := by decide +kernel
theorem d_Model_carryOn_229 : decode c_Model_carryOn 229 = .ok (.invokevirtual 163, 3) := by decide +kernel
theorem d_Model_carryOn_232 : decode c_Model_carryOn 232 = .ok (.goto 65, 3) := by decide +kernel
theorem d_Model_carryOn_235 : decode c_Model_carryOn 235 = .ok (.aload_n 0, 1) := by decide +kernel
theorem d_Model_carryOn_236 : decode c_Model_carryOn 236 = .ok (.iload 4, 2) := by decide +kernel
theorem d_Model_carryOn_238 : decode c_Model_carryOn 238 = .ok (.putfield 117, 3) := by decide +kernel
theorem d_Model_carryOn_241 : decode c_Model_carryOn 241 = .ok (.aload_n 0, 1) := by decide +kernel
theorem d_Model_carryOn_242 : decode c_Model_carryOn 242 = .ok (.iload_n 1, 1) := by decide +kernel
theorem d_Model_carryOn_243 : decode c_Model_carryOn 243 = .ok (.invokevirtual 136, 3) := by decide +kernel
theorem d_Model_carryOn_246 : decode c_Model_carryOn 246 = .ok (.bipush 8, 2) := by decide +kernel
theorem d_Model_carryOn_248 : decode c_Model_carryOn 248 = .ok (.if_icmp .ne 8, 3) := by decide +kernel
theorem d_Model_carryOn_251 : decode c_Model_carryOn 251 = .ok (.aload_n 0, 1) := by decide +kernel
theorem d_Model_carryOn_252 : decode c_Model_carryOn 252 = .ok (.iload_n 3, 1) := by decide +kernel
theorem d_Model_carryOn_253 : decode c_Model_carryOn 253 = .ok (.putfield 120, 3) := by decide +kernel
theorem d_Model_carryOn_256 : decode c_Model_carryOn 256 = .ok (.aload_n 0, 1) := by decide +kernel
theorem d_Model_carryOn_257 : decode c_Model_carryOn 257 = .ok (.iconst 5, 1) := by decide +kernel
theorem d_Model_carryOn_258 : decode c_Model_carryOn 258 = .ok (.iconst 0, 1) := by decide +kernel
theorem d_Model_carryOn_259 : decode c_Model_carryOn 259 = .ok (.iload_n 2, 1) := by decide +kernel
theorem d_Model_carryOn_260 : decode c_Model_carryOn 260 = .ok (.invokevirtual 163, 3) := by decide +kernel
theorem d_Model_carryOn_263 : decode c_Model_carryOn 263 = .ok (.goto 34, 3) := by decide +kernel
theorem d_Model_carryOn_266 : decode c_Model_carryOn 266 = .ok (.aload_n 0, 1) := by decide +kernel
theorem d_Model_carryOn_267 : decode c_Model_carryOn 267 = .ok (.iload 4, 2) := by decide +kernel
theorem d_Model_carryOn_269 : decode c_Model_carryOn 269 = .ok (.putfield 117, 3) := by decide +kernel
theorem d_Model_carryOn_272 : decode c_Model_carryOn 272 = .ok (.aload_n 0, 1) := by decide +kernel
theorem d_Model_carryOn_273 : decode c_Model_carryOn 273 = .ok (.bipush 6, 2) := by decide +kernel
theorem d_Model_carryOn_275 : decode c_Model_carryOn 275 = .ok (.iconst 0, 1) := by decide +kernel
theorem d_Model_carryOn_276 : decode c_Model_carryOn 276 = .ok (.iload_n 2, 1) := by decide +kernel
theorem d_Model_carryOn_277 : decode c_Model_carryOn 277 = .ok (.invokevirtual 163, 3) := by decide +kernel
theorem d_Model_carryOn_280 : decode c_Model_carryOn 280 = .ok (.goto 17, 3) := by decide +kernel
theorem d_Model_carryOn_283 : decode c_Model_carryOn 283 = .ok (.aload_n 0, 1) := by decide +kernel
theorem d_Model_carryOn_284 : decode c_Model_carryOn 284 = .ok (.aload_n 0, 1) := by decide +kernel
theorem d_Model_carryOn_285 : decode c_Model_carryOn 285 = .ok (.iload_n 1, 1) := by decide +kernel
theorem d_Model_carryOn_286 : decode c_Model_carryOn 286 = .ok (.invokevirtual 136, 3) := by decide +kernel
theorem d_Model_carryOn_289 : decode c_Model_carryOn 289 = .ok (.bipush 7, 2) := by decide +kernel
theorem d_Model_carryOn_291 : decode c_Model_carryOn 291 = .ok (.isub, 1) := by decide +kernel
theorem d_Model_carryOn_292 : decode c_Model_carryOn 292 = .ok (.iload_n 3, 1) := by decide +kernel
theorem d_Model_carryOn_293 : decode c_Model_carryOn 293 = .ok (.iload_n 2, 1) := by decide +kernel
theorem d_Model_carryOn_294 : decode c_Model_carryOn 294 = .ok (.invokevirtual 163, 3) := by decide +kernel
theorem d_Model_carryOn_297 : decode c_Model_carryOn 297 = .ok (.return_, 1) := by decide +kernel
theorem d_Model_retreat_0 : decode c_Model_retreat 0 = .ok (.aload_n 0, 1) := by decide +kernel
theorem d_Model_retreat_1 : decode c_Model_retreat 1 = .ok (.getfield 117, 3) := by decide +kernel
theorem d_Model_retreat_4 : decode c_Model_retreat 4 = .ok (.ifCond .ne 5, 3) := by decide +kernel
theorem d_Model_retreat_7 : decode c_Model_retreat 7 = .ok (.iconst 0, 1) := by decide +kernel
theorem d_Model_retreat_8 : decode c_Model_retreat 8 = .ok (.ireturn, 1) := by decide +kernel
theorem d_Model_retreat_9 : decode c_Model_retreat 9 = .ok (.aload_n 0, 1) := by decide +kernel
theorem d_Model_retreat_10 : decode c_Model_retreat 10 = .ok (.dup, 1) := by decide +kernel
theorem d_Model_retreat_11 : decode c_Model_retreat 11 = .ok (.getfield 117, 3) := by decide +kernel
theorem d_Model_retreat_14 : decode c_Model_retreat 14 = .ok (.iconst 1, 1) := by decide +kernel
theorem d_Model_retreat_15 : decode c_Model_retreat 15 = .ok (.isub, 1) := by decide +kernel
theorem d_Model_retreat_16 : decode c_Model_retreat 16 = .ok (.putfield 117, 3) := by decide +kernel
theorem d_Model_retreat_19 : decode c_Model_retreat 19 = .ok (.aload_n 0, 1) := by decide +kernel
theorem d_Model_retreat_20 : decode c_Model_retreat 20 = .ok (.getfield 29, 3) := by decide +kernel
theorem d_Model_retreat_23 : decode c_Model_retreat 23 = .ok (.aload_n 0, 1) := by decide +kernel
theorem d_Model_retreat_24 : decode c_Model_retreat 24 = .ok (.getfield 117, 3) := by decide +kernel
theorem d_Model_retreat_27 : decode c_Model_retreat 27 = .ok (.laload, 1) := by decide +kernel
theorem d_Model_retreat_28 : decode c_Model_retreat 28 = .ok (.lstore_n 1, 1) := by decide +kernel
theorem d_Model_retreat_29 : decode c_Model_retreat 29 = .ok (.aload_n 0, 1) := by decide +kernel
theorem d_Model_retreat_30 : decode c_Model_retreat 30 = .ok (.lload_n 1, 1) := by decide +kernel
theorem d_Model_retreat_31 : decode c_Model_retreat 31 = .ok (.bipush 9, 2) := by decide +kernel
theorem d_Model_retreat_33 : decode c_Model_retreat 33 = .ok (.lshr, 1) := by decide +kernel
theorem d_Model_retreat_34 : decode c_Model_retreat 34 = .ok (.l2i, 1) := by decide +kernel
theorem d_Model_retreat_35 : decode c_Model_retreat 35 = .ok (.bipush 63, 2) := by decide +kernel
theorem d_Model_retreat_37 : decode c_Model_retreat 37 = .ok (.iand, 1) := by decide +kernel
theorem d_Model_retreat_38 : decode c_Model_retreat 38 = .ok (.putfield 120, 3) := by decide +kernel
theorem d_Model_retreat_41 : decode c_Model_retreat 41 = .ok (.aload_n 0, 1) := by decide +kernel
theorem d_Model_retreat_42 : decode c_Model_retreat 42 = .ok (.aload_n 0, 1) := by decide +kernel
theorem d_Model_retreat_43 : decode c_Model_retreat 43 = .ok (.getfield 32, 3) := by decide +kernel
theorem d_Model_retreat_46 : decode c_Model_retreat 46 = .ok (.aload_n 0, 1) := by decide +kernel
theorem d_Model_retreat_47 : decode c_Model_retreat 47 = .ok (.getfield 117, 3) := by decide +kernel
theorem d_Model_retreat_50 : decode c_Model_retreat 50 = .ok (.laload, 1) := by decide +kernel
theorem d_Model_retreat_51 : decode c_Model_retreat 51 = .ok (.putfield 123, 3) := by decide +kernel
theorem d_Model_retreat_54 : decode c_Model_retreat 54 = .ok (.aload_n 0, 1) := by decide +kernel
theorem d_Model_retreat_55 : decode c_Model_retreat 55 = .ok (.lload_n 1, 1) := by decide +kernel
theorem d_Model_retreat_56 : decode c_Model_retreat 56 = .ok (.l2i, 1) := by decide +kernel
theorem d_Model_retreat_57 : decode c_Model_retreat 57 = .ok (.bipush 7, 2) := by decide +kernel
theorem d_Model_retreat_59 : decode c_Model_retreat 59 = .ok (.iand, 1) := by decide +kernel
theorem d_Model_retreat_60 : decode c_Model_retreat 60 = .ok (.lload_n 1, 1) := by decide +kernel
theorem d_Model_retreat_61 : decode c_Model_retreat 61 = .ok (.iconst 3, 1) := by decide +kernel
theorem d_Model_retreat_62 : decode c_Model_retreat 62 = .ok (.lshr, 1) := by decide +kernel
theorem d_Model_retreat_63 : decode c_Model_retreat 63 = .ok (.l2i, 1) := by decide +kernel
theorem d_Model_retreat_64 : decode c_Model_retreat 64 = .ok (.bipush 63, 2) := by decide +kernel
theorem d_Model_retreat_66 : decode c_Model_retreat 66 = .ok (.iand, 1) := by decide +kernel
theorem d_Model_retreat_67 : decode c_Model_retreat 67 = .ok (.lload_n 1, 1) := by decide +kernel
theorem d_Model_retreat_68 : decode c_Model_retreat 68 = .ok (.bipush 15, 2) := by decide +kernel
theorem d_Model_retreat_70 : decode c_Model_retreat 70 = .ok (.lshr, 1) := by decide +kernel
theorem d_Model_retreat_71 : decode c_Model_retreat 71 = .ok (.l2i, 1) := by decide +kernel
theorem d_Model_retreat_72 : decode c_Model_retreat 72 = .ok (.sipush 8191, 3) := by decide +kernel
theorem d_Model_retreat_75 : decode c_Model_retreat 75 = .ok (.iand, 1) := by decide +kernel
theorem d_Model_retreat_76 : decode c_Model_retreat 76 = .ok (.invokevirtual 163, 3) := by decide +kernel
theorem d_Model_retreat_79 : decode c_Model_retreat 79 = .ok (.aload_n 0, 1) := by decide +kernel
theorem d_Model_retreat_80 : decode c_Model_retreat 80 = .ok (.lload_n 1, 1) := by decide +kernel
theorem d_Model_retreat_81 : decode c_Model_retreat 81 = .ok (.bipush 28, 2) := by decide +kernel
theorem d_Model_retreat_83 : decode c_Model_retreat 83 = .ok (.lshr, 1) := by decide +kernel
theorem d_Model_retreat_84 : decode c_Model_retreat 84 = .ok (.l2i, 1) := by decide +kernel
theorem d_Model_retreat_85 : decode c_Model_retreat 85 = .ok (.sipush 8191, 3) := by decide +kernel
theorem d_Model_retreat_88 : decode c_Model_retreat 88 = .ok (.iand, 1) := by decide +kernel
theorem d_Model_retreat_89 : decode c_Model_retreat 89 = .ok (.putfield 114, 3) := by decide +kernel
theorem d_Model_retreat_92 : decode c_Model_retreat 92 = .ok (.iconst 1, 1) := by decide +kernel
theorem d_Model_retreat_93 : decode c_Model_retreat 93 = .ok (.ireturn, 1) := by decide +kernel
theorem d_Model_walk_0 : decode c_Model_walk 0 = .ok (.aload_n 0, 1) := by decide +kernel
theorem d_Model_walk_1 : decode c_Model_walk 1 = .ok (.iconst 0, 1) := by decide +kernel
theorem d_Model_walk_2 : decode c_Model_walk 2 = .ok (.putfield 114, 3) := by decide +kernel
theorem d_Model_walk_5 : decode c_Model_walk 5 = .ok (.aload_n 0, 1) := by decide +kernel
theorem d_Model_walk_6 : decode c_Model_walk 6 = .ok (.iconst 0, 1) := by decide +kernel
theorem d_Model_walk_7 : decode c_Model_walk 7 = .ok (.putfield 117, 3) := by decide +kernel
theorem d_Model_walk_10 : decode c_Model_walk 10 = .ok (.aload_n 0, 1) := by decide +kernel
theorem d_Model_walk_11 : decode c_Model_walk 11 = .ok (.iload_n 1, 1) := by decide +kernel
theorem d_Model_walk_12 : decode c_Model_walk 12 = .ok (.putfield 120, 3) := by decide +kernel
theorem d_Model_walk_15 : decode c_Model_walk 15 = .ok (.aload_n 0, 1) := by decide +kernel
theorem d_Model_walk_16 : decode c_Model_walk 16 = .ok (.lconst 0, 1) := by decide +kernel
theorem d_Model_walk_17 : decode c_Model_walk 17 = .ok (.putfield 123, 3) := by decide +kernel
theorem d_Model_walk_20 : decode c_Model_walk 20 = .ok (.aload_n 0, 1) := by decide +kernel
theorem d_Model_walk_21 : decode c_Model_walk 21 = .ok (.iconst 1, 1) := by decide +kernel
theorem d_Model_walk_22 : decode c_Model_walk 22 = .ok (.iconst 0, 1) := by decide +kernel
theorem d_Model_walk_23 : decode c_Model_walk 23 = .ok (.iconst 0, 1) := by decide +kernel
theorem d_Model_walk_24 : decode c_Model_walk 24 = .ok (.invokevirtual 163, 3) := by decide +kernel
theorem d_Model_walk_27 : decode c_Model_walk 27 = .ok (.iconst 0, 1) := by decide +kernel
theorem d_Model_walk_28 : decode c_Model_walk 28 = .ok (.istore_n 2, 1) := by decide +kernel
theorem d_Model_walk_29 : decode c_Model_walk 29 = .ok (.iload_n 2, 1) := by decide +kernel
theorem d_Model_walk_30 : decode c_Model_walk 30 = .ok (.ldc 196, 2) := by decide +kernel
theorem d_Model_walk_32 : decode c_Model_walk 32 = .ok (.if_icmp .ge 214, 3) := by decide +kernel
theorem d_Model_walk_35 : decode c_Model_walk 35 = .ok (.aload_n 0, 1) := by decide +kernel
theorem d_Model_walk_36 : decode c_Model_walk 36 = .ok (.getfield 127, 3) := by decide +kernel
theorem d_Model_walk_39 : decode c_Model_walk 39 = .ok (.bipush 6, 2) := by decide +kernel
theorem d_Model_walk_41 : decode c_Model_walk 41 = .ok (.if_icmp .ne 12, 3) := by decide +kernel
theorem d_Model_walk_44 : decode c_Model_walk 44 = .ok (.aload_n 0, 1) := by decide +kernel
theorem d_Model_walk_45 : decode c_Model_walk 45 = .ok (.invokevirtual 197, 3) := by decide +kernel
theorem d_Model_walk_48 : decode c_Model_walk 48 = .ok (.ifCond .ne 5, 3) := by decide +kernel
theorem d_Model_walk_51 : decode c_Model_walk 51 = .ok (.iconst 0, 1) := by decide +kernel
theorem d_Model_walk_52 : decode c_Model_walk 52 = .ok (.ireturn, 1) := by decide +kernel
theorem d_Model_walk_53 : decode c_Model_walk 53 = .ok (.aload_n 0, 1) := by decide +kernel
theorem d_Model_walk_54 : decode c_Model_walk 54 = .ok (.getfield 127, 3) := by decide +kernel
theorem d_Model_walk_57 : decode c_Model_walk 57 = .ok (.iconst 5, 1) := by decide +kernel
theorem d_Model_walk_58 : decode c_Model_walk 58 = .ok (.if_icmp .ne 12, 3) := by decide +kernel
theorem d_Model_walk_61 : decode c_Model_walk 61 = .ok (.aload_n 0, 1) := by decide +kernel
theorem d_Model_walk_62 : decode c_Model_walk 62 = .ok (.getfield 133, 3) := by decide +kernel
theorem d_Model_walk_65 : decode c_Model_walk 65 = .ok (.ifCond .ne 5, 3) := by decide +kernel
theorem d_Model_walk_68 : decode c_Model_walk 68 = .ok (.iconst 1, 1) := by decide +kernel
theorem d_Model_walk_69 : decode c_Model_walk 69 = .ok (.ireturn, 1) := by decide +kernel
theorem d_Model_walk_70 : decode c_Model_walk 70 = .ok (.aload_n 0, 1) := by decide +kernel
theorem d_Model_walk_71 : decode c_Model_walk 71 = .ok (.getfield 127, 3) := by decide +kernel
theorem d_Model_walk_74 : decode c_Model_walk 74 = .ok (.iconst 2, 1) := by decide +kernel
theorem d_Model_walk_75 : decode c_Model_walk 75 = .ok (.if_icmp .ne 16, 3) := by decide +kernel
theorem d_Model_walk_78 : decode c_Model_walk 78 = .ok (.aload_n 0, 1) := by decide +kernel
theorem d_Model_walk_79 : decode c_Model_walk 79 = .ok (.getfield 173, 3) := by decide +kernel
theorem d_Model_walk_82 : decode c_Model_walk 82 = .ok (.aload_n 0, 1) := by decide +kernel
theorem d_Model_walk_83 : decode c_Model_walk 83 = .ok (.getfield 35, 3) := by decide +kernel
theorem d_Model_walk_86 : decode c_Model_walk 86 = .ok (.if_icmp .ne 5, 3) := by decide +kernel
theorem d_Model_walk_89 : decode c_Model_walk 89 = .ok (.iconst 2, 1) := by decide +kernel
theorem d_Model_walk_90 : decode c_Model_walk 90 = .ok (.ireturn, 1) := by decide +kernel
theorem d_Model_walk_91 : decode c_Model_walk 91 = .ok (.aload_n 0, 1) := by decide +kernel
theorem d_Model_walk_92 : decode c_Model_walk 92 = .ok (.getfield 127, 3) := by decide +kernel
theorem d_Model_walk_95 : decode c_Model_walk 95 = .ok (.tableswitch 145 0 5 #[37, 72, 111, 118, 118, 138], 37) := by decide +kernel
theorem d_Model_walk_132 : decode c_Model_walk 132 = .ok (.aload_n 0, 1) := by decide +kernel
theorem d_Model_walk_133 : decode c_Model_walk 133 = .ok (.aload_n 0, 1) := by decide +kernel
theorem d_Model_walk_134 : decode c_Model_walk 134 = .ok (.getfield 130, 3) := by decide +kernel
theorem d_Model_walk_137 : decode c_Model_walk 137 = .ok (.invokevirtual 108, 3) := by decide +kernel
theorem d_Model_walk_140 : decode c_Model_walk 140 = .ok (.ifCond .eq 16, 3) := by decide +kernel
theorem d_Model_walk_143 : decode c_Model_walk 143 = .ok (.aload_n 0, 1) := by decide +kernel
theorem d_Model_walk_144 : decode c_Model_walk 144 = .ok (.iconst 5, 1) := by decide +kernel
theorem d_Model_walk_145 : decode c_Model_walk 145 = .ok (.iconst 0, 1) := by decide +kernel
theorem d_Model_walk_146 : decode c_Model_walk 146 = .ok (.aload_n 0, 1) := by decide +kernel
theorem d_Model_walk_147 : decode c_Model_walk 147 = .ok (.getfield 133, 3) := by decide +kernel
theorem d_Model_walk_150 : decode c_Model_walk 150 = .ok (.invokevirtual 163, 3) := by decide +kernel
theorem d_Model_walk_153 : decode c_Model_walk 153 = .ok (.goto 87, 3) := by decide +kernel
theorem d_Model_walk_156 : decode c_Model_walk 156 = .ok (.aload_n 0, 1) := by decide +kernel
theorem d_Model_walk_157 : decode c_Model_walk 157 = .ok (.aload_n 0, 1) := by decide +kernel
theorem d_Model_walk_158 : decode c_Model_walk 158 = .ok (.getfield 130, 3) := by decide +kernel
theorem d_Model_walk_161 : decode c_Model_walk 161 = .ok (.invokevirtual 201, 3) := by decide +kernel
theorem d_Model_walk_164 : decode c_Model_walk 164 = .ok (.goto 76, 3) := by decide +kernel
theorem d_Model_walk_167 : decode c_Model_walk 167 = .ok (.aload_n 0, 1) := by decide +kernel
theorem d_Model_walk_168 : decode c_Model_walk 168 = .ok (.aload_n 0, 1) := by decide +kernel
theorem d_Model_walk_169 : decode c_Model_walk 169 = .ok (.getfield 130, 3) := by decide +kernel
theorem d_Model_walk_172 : decode c_Model_walk 172 = .ok (.invokevirtual 204, 3) := by decide +kernel
theorem d_Model_walk_175 : decode c_Model_walk 175 = .ok (.istore_n 3, 1) := by decide +kernel
theorem d_Model_walk_176 : decode c_Model_walk 176 = .ok (.iload_n 3, 1) := by decide +kernel
theorem d_Model_walk_177 : decode c_Model_walk 177 = .ok (.ifCond .lt 13, 3) := by decide +kernel
theorem d_Model_walk_180 : decode c_Model_walk 180 = .ok (.aload_n 0, 1) := by decide +kernel
theorem d_Model_walk_181 : decode c_Model_walk 181 = .ok (.iconst 1, 1) := by decide +kernel
theorem d_Model_walk_182 : decode c_Model_walk 182 = .ok (.iload_n 3, 1) := by decide +kernel
theorem d_Model_walk_183 : decode c_Model_walk 183 = .ok (.aload_n 0, 1) := by decide +kernel
theorem d_Model_walk_184 : decode c_Model_walk 184 = .ok (.getfield 133, 3) := by decide +kernel
theorem d_Model_walk_187 : decode c_Model_walk 187 = .ok (.invokevirtual 167, 3) := by decide +kernel
theorem d_Model_walk_190 : decode c_Model_walk 190 = .ok (.aload_n 0, 1) := by decide +kernel
theorem d_Model_walk_191 : decode c_Model_walk 191 = .ok (.iconst 0, 1) := by decide +kernel
theorem d_Model_walk_192 : decode c_Model_walk 192 = .ok (.aload_n 0, 1) := by decide +kernel
theorem d_Model_walk_193 : decode c_Model_walk 193 = .ok (.getfield 130, 3) := by decide +kernel
theorem d_Model_walk_196 : decode c_Model_walk 196 = .ok (.aload_n 0, 1) := by decide +kernel
theorem d_Model_walk_197 : decode c_Model_walk 197 = .ok (.getfield 133, 3) := by decide +kernel
theorem d_Model_walk_200 : decode c_Model_walk 200 = .ok (.invokevirtual 163, 3) := by decide +kernel
theorem d_Model_walk_203 : decode c_Model_walk 203 = .ok (.goto 37, 3) := by decide +kernel
theorem d_Model_walk_206 : decode c_Model_walk 206 = .ok (.aload_n 0, 1) := by decide +kernel
theorem d_Model_walk_207 : decode c_Model_walk 207 = .ok (.invokevirtual 207, 3) := by decide +kernel
theorem d_Model_walk_210 : decode c_Model_walk 210 = .ok (.goto 30, 3) := by decide +kernel
theorem d_Model_walk_213 : decode c_Model_walk 213 = .ok (.aload_n 0, 1) := by decide +kernel
theorem d_Model_walk_214 : decode c_Model_walk 214 = .ok (.aload_n 0, 1) := by decide +kernel
theorem d_Model_walk_215 : decode c_Model_walk 215 = .ok (.getfield 127, 3) := by decide +kernel
theorem d_Model_walk_218 : decode c_Model_walk 218 = .ok (.iconst 4, 1) := by decide +kernel
theorem d_Model_walk_219 : decode c_Model_walk 219 = .ok (.if_icmp .ne 7, 3) := by decide +kernel
theorem d_Model_walk_222 : decode c_Model_walk 222 = .ok (.iconst 1, 1) := by decide +kernel
theorem d_Model_walk_223 : decode c_Model_walk 223 = .ok (.goto 4, 3) := by decide +kernel
theorem d_Model_walk_226 : decode c_Model_walk 226 = .ok (.iconst 0, 1) := by decide +kernel
theorem d_Model_walk_227 : decode c_Model_walk 227 = .ok (.invokevirtual 210, 3) := by decide +kernel
theorem d_Model_walk_230 : decode c_Model_walk 230 = .ok (.goto 10, 3) := by decide +kernel
theorem d_Model_walk_233 : decode c_Model_walk 233 = .ok (.aload_n 0, 1) := by decide +kernel
theorem d_Model_walk_234 : decode c_Model_walk 234 = .ok (.invokevirtual 214, 3) := by decide +kernel
theorem d_Model_walk_237 : decode c_Model_walk 237 = .ok (.goto 3, 3) := by decide +kernel
theorem d_Model_walk_240 : decode c_Model_walk 240 = .ok (.iinc 2 1, 3) := by decide +kernel
theorem d_Model_walk_243 : decode c_Model_walk 243 = .ok (.goto (-214), 3) := by decide +kernel
theorem d_Model_walk_246 : decode c_Model_walk 246 = .ok (.iconst 2, 1) := by decide +kernel
theorem d_Model_walk_247 : decode c_Model_walk 247 = .ok (.ireturn, 1) := by decide +kernel
theorem d_Model_seek_0 : decode c_Model_seek 0 = .ok (.aload_n 0, 1) := by decide +kernel
theorem d_Model_seek_1 : decode c_Model_seek 1 = .ok (.iconst 0, 1) := by decide +kernel
theorem d_Model_seek_2 : decode c_Model_seek 2 = .ok (.putfield 173, 3) := by decide +kernel
theorem d_Model_seek_5 : decode c_Model_seek 5 = .ok (.aload_n 0, 1) := by decide +kernel
theorem d_Model_seek_6 : decode c_Model_seek 6 = .ok (.iconst 0, 1) := by decide +kernel
theorem d_Model_seek_7 : decode c_Model_seek 7 = .ok (.putfield 96, 3) := by decide +kernel
theorem d_Model_seek_10 : decode c_Model_seek 10 = .ok (.iload_n 1, 1) := by decide +kernel
theorem d_Model_seek_11 : decode c_Model_seek 11 = .ok (.istore_n 2, 1) := by decide +kernel
theorem d_Model_seek_12 : decode c_Model_seek 12 = .ok (.iload_n 2, 1) := by decide +kernel
theorem d_Model_seek_13 : decode c_Model_seek 13 = .ok (.aload_n 0, 1) := by decide +kernel
theorem d_Model_seek_14 : decode c_Model_seek 14 = .ok (.getfield 99, 3) := by decide +kernel
theorem d_Model_seek_17 : decode c_Model_seek 17 = .ok (.if_icmp .gt 56, 3) := by decide +kernel
theorem d_Model_seek_20 : decode c_Model_seek 20 = .ok (.aload_n 0, 1) := by decide +kernel
theorem d_Model_seek_21 : decode c_Model_seek 21 = .ok (.iload_n 2, 1) := by decide +kernel
theorem d_Model_seek_22 : decode c_Model_seek 22 = .ok (.invokevirtual 217, 3) := by decide +kernel
theorem d_Model_seek_25 : decode c_Model_seek 25 = .ok (.istore_n 3, 1) := by decide +kernel
theorem d_Model_seek_26 : decode c_Model_seek 26 = .ok (.iload_n 3, 1) := by decide +kernel
theorem d_Model_seek_27 : decode c_Model_seek 27 = .ok (.iconst 2, 1) := by decide +kernel
theorem d_Model_seek_28 : decode c_Model_seek 28 = .ok (.if_icmp .ne 6, 3) := by decide +kernel
theorem d_Model_seek_31 : decode c_Model_seek 31 = .ok (.bipush (-5), 2) := by decide +kernel
theorem d_Model_seek_33 : decode c_Model_seek 33 = .ok (.ireturn, 1) := by decide +kernel
theorem d_Model_seek_34 : decode c_Model_seek 34 = .ok (.iload_n 3, 1) := by decide +kernel
theorem d_Model_seek_35 : decode c_Model_seek 35 = .ok (.iconst 1, 1) := by decide +kernel
theorem d_Model_seek_36 : decode c_Model_seek 36 = .ok (.if_icmp .ne 31, 3) := by decide +kernel
theorem d_Model_seek_39 : decode c_Model_seek 39 = .ok (.aload_n 0, 1) := by decide +kernel
theorem d_Model_seek_40 : decode c_Model_seek 40 = .ok (.iconst 1, 1) := by decide +kernel
theorem d_Model_seek_41 : decode c_Model_seek 41 = .ok (.putfield 96, 3) := by decide +kernel
theorem d_Model_seek_44 : decode c_Model_seek 44 = .ok (.aload_n 0, 1) := by decide +kernel
theorem d_Model_seek_45 : decode c_Model_seek 45 = .ok (.iload_n 2, 1) := by decide +kernel
theorem d_Model_seek_46 : decode c_Model_seek 46 = .ok (.putfield 220, 3) := by decide +kernel
theorem d_Model_seek_49 : decode c_Model_seek 49 = .ok (.aload_n 0, 1) := by decide +kernel
theorem d_Model_seek_50 : decode c_Model_seek 50 = .ok (.aload_n 0, 1) := by decide +kernel
theorem d_Model_seek_51 : decode c_Model_seek 51 = .ok (.getfield 120, 3) := by decide +kernel
theorem d_Model_seek_54 : decode c_Model_seek 54 = .ok (.putfield 223, 3) := by decide +kernel
theorem d_Model_seek_57 : decode c_Model_seek 57 = .ok (.aload_n 0, 1) := by decide +kernel
theorem d_Model_seek_58 : decode c_Model_seek 58 = .ok (.aload_n 0, 1) := by decide +kernel
theorem d_Model_seek_59 : decode c_Model_seek 59 = .ok (.getfield 123, 3) := by decide +kernel
theorem d_Model_seek_62 : decode c_Model_seek 62 = .ok (.putfield 226, 3) := by decide +kernel
theorem d_Model_seek_65 : decode c_Model_seek 65 = .ok (.iload_n 2, 1) := by decide +kernel
theorem d_Model_seek_66 : decode c_Model_seek 66 = .ok (.ireturn, 1) := by decide +kernel
theorem d_Model_seek_67 : decode c_Model_seek 67 = .ok (.iinc 2 1, 3) := by decide +kernel
theorem d_Model_seek_70 : decode c_Model_seek 70 = .ok (.goto (-58), 3) := by decide +kernel
theorem d_Model_seek_73 : decode c_Model_seek 73 = .ok (.bipush (-4), 2) := by decide +kernel
theorem d_Model_seek_75 : decode c_Model_seek 75 = .ok (.ireturn, 1) := by decide +kernel
theorem d_Model_search_0 : decode c_Model_search 0 = .ok (.aload_n 0, 1) := by decide +kernel
theorem d_Model_search_1 : decode c_Model_search 1 = .ok (.getfield 83, 3) := by decide +kernel
theorem d_Model_search_4 : decode c_Model_search 4 = .ok (.ifCond .eq 15, 3) := by decide +kernel
theorem d_Model_search_7 : decode c_Model_search 7 = .ok (.iload_n 1, 1) := by decide +kernel
theorem d_Model_search_8 : decode c_Model_search 8 = .ok (.iconst 0, 1) := by decide +kernel
theorem d_Model_search_9 : decode c_Model_search 9 = .ok (.aload_n 0, 1) := by decide +kernel
theorem d_Model_search_10 : decode c_Model_search 10 = .ok (.getfield 99, 3) := by decide +kernel
theorem d_Model_search_13 : decode c_Model_search 13 = .ok (.invokestatic 39, 3) := by decide +kernel
theorem d_Model_search_16 : decode c_Model_search 16 = .ok (.ifCond .ne 7, 3) := by decide +kernel
theorem d_Model_search_19 : decode c_Model_search 19 = .ok (.iconst (-1), 1) := by decide +kernel
theorem d_Model_search_20 : decode c_Model_search 20 = .ok (.goto 8, 3) := by decide +kernel
theorem d_Model_search_23 : decode c_Model_search 23 = .ok (.aload_n 0, 1) := by decide +kernel
theorem d_Model_search_24 : decode c_Model_search 24 = .ok (.iload_n 1, 1) := by decide +kernel
theorem d_Model_search_25 : decode c_Model_search 25 = .ok (.invokevirtual 229, 3) := by decide +kernel
theorem d_Model_search_28 : decode c_Model_search 28 = .ok (.ireturn, 1) := by decide +kernel
theorem d_Model_again_0 : decode c_Model_again 0 = .ok (.aload_n 0, 1) := by decide +kernel
theorem d_Model_again_1 : decode c_Model_again 1 = .ok (.getfield 96, 3) := by decide +kernel
theorem d_Model_again_4 : decode c_Model_again 4 = .ok (.ifCond .eq 30, 3) := by decide +kernel
theorem d_Model_again_7 : decode c_Model_again 7 = .ok (.aload_n 0, 1) := by decide +kernel
theorem d_Model_again_8 : decode c_Model_again 8 = .ok (.getfield 223, 3) := by decide +kernel
theorem d_Model_again_11 : decode c_Model_again 11 = .ok (.aload_n 0, 1) := by decide +kernel
theorem d_Model_again_12 : decode c_Model_again 12 = .ok (.getfield 220, 3) := by decide +kernel
theorem d_Model_again_15 : decode c_Model_again 15 = .ok (.if_icmp .le 10, 3) := by decide +kernel
theorem d_Model_again_18 : decode c_Model_again 18 = .ok (.aload_n 0, 1) := by decide +kernel
theorem d_Model_again_19 : decode c_Model_again 19 = .ok (.getfield 223, 3) := by decide +kernel
theorem d_Model_again_22 : decode c_Model_again 22 = .ok (.goto 18, 3) := by decide +kernel
theorem d_Model_again_25 : decode c_Model_again 25 = .ok (.aload_n 0, 1) := by decide +kernel
theorem d_Model_again_26 : decode c_Model_again 26 = .ok (.getfield 223, 3) := by decide +kernel
theorem d_Model_again_29 : decode c_Model_again 29 = .ok (.iconst 1, 1) := by decide +kernel
theorem d_Model_again_30 : decode c_Model_again 30 = .ok (.iadd, 1) := by decide +kernel
theorem d_Model_again_31 : decode c_Model_again 31 = .ok (.goto 9, 3) := by decide +kernel
theorem d_Model_again_34 : decode c_Model_again 34 = .ok (.aload_n 0, 1) := by decide +kernel
theorem d_Model_again_35 : decode c_Model_again 35 = .ok (.getfield 99, 3) := by decide +kernel
theorem d_Model_again_38 : decode c_Model_again 38 = .ok (.iconst 1, 1) := by decide +kernel
theorem d_Model_again_39 : decode c_Model_again 39 = .ok (.iadd, 1) := by decide +kernel
theorem d_Model_again_40 : decode c_Model_again 40 = .ok (.istore_n 1, 1) := by decide +kernel
theorem d_Model_again_41 : decode c_Model_again 41 = .ok (.iload_n 1, 1) := by decide +kernel
theorem d_Model_again_42 : decode c_Model_again 42 = .ok (.aload_n 0, 1) := by decide +kernel
theorem d_Model_again_43 : decode c_Model_again 43 = .ok (.getfield 99, 3) := by decide +kernel
theorem d_Model_again_46 : decode c_Model_again 46 = .ok (.if_icmp .gt 9, 3) := by decide +kernel
theorem d_Model_again_49 : decode c_Model_again 49 = .ok (.aload_n 0, 1) := by decide +kernel
theorem d_Model_again_50 : decode c_Model_again 50 = .ok (.iload_n 1, 1) := by decide +kernel
theorem d_Model_again_51 : decode c_Model_again 51 = .ok (.invokevirtual 229, 3) := by decide +kernel
theorem d_Model_again_54 : decode c_Model_again 54 = .ok (.ireturn, 1) := by decide +kernel
theorem d_Model_again_55 : decode c_Model_again 55 = .ok (.aload_n 0, 1) := by decide +kernel
theorem d_Model_again_56 : decode c_Model_again 56 = .ok (.iconst 0, 1) := by decide +kernel
theorem d_Model_again_57 : decode c_Model_again 57 = .ok (.putfield 96, 3) := by decide +kernel
theorem d_Model_again_60 : decode c_Model_again 60 = .ok (.aload_n 0, 1) := by decide +kernel
theorem d_Model_again_61 : decode c_Model_again 61 = .ok (.iconst 0, 1) := by decide +kernel
theorem d_Model_again_62 : decode c_Model_again 62 = .ok (.putfield 173, 3) := by decide +kernel
theorem d_Model_again_65 : decode c_Model_again 65 = .ok (.bipush (-4), 2) := by decide +kernel
theorem d_Model_again_67 : decode c_Model_again 67 = .ok (.ireturn, 1) := by decide +kernel
theorem d_Model_bound_0 : decode c_Model_bound 0 = .ok (.aload_n 0, 1) := by decide +kernel
theorem d_Model_bound_1 : decode c_Model_bound 1 = .ok (.getfield 96, 3) := by decide +kernel
theorem d_Model_bound_4 : decode c_Model_bound 4 = .ok (.ifCond .eq 12, 3) := by decide +kernel
theorem d_Model_bound_7 : decode c_Model_bound 7 = .ok (.iload_n 1, 1) := by decide +kernel
theorem d_Model_bound_8 : decode c_Model_bound 8 = .ok (.iconst 0, 1) := by decide +kernel
theorem d_Model_bound_9 : decode c_Model_bound 9 = .ok (.iconst 4, 1) := by decide +kernel
theorem d_Model_bound_10 : decode c_Model_bound 10 = .ok (.invokestatic 39, 3) := by decide +kernel
theorem d_Model_bound_13 : decode c_Model_bound 13 = .ok (.ifCond .ne 6, 3) := by decide +kernel
theorem d_Model_bound_16 : decode c_Model_bound 16 = .ok (.bipush (-6), 2) := by decide +kernel
theorem d_Model_bound_18 : decode c_Model_bound 18 = .ok (.ireturn, 1) := by decide +kernel
theorem d_Model_bound_19 : decode c_Model_bound 19 = .ok (.iload_n 1, 1) := by decide +kernel
theorem d_Model_bound_20 : decode c_Model_bound 20 = .ok (.ifCond .ne 19, 3) := by decide +kernel
theorem d_Model_bound_23 : decode c_Model_bound 23 = .ok (.iload_n 2, 1) := by decide +kernel
theorem d_Model_bound_24 : decode c_Model_bound 24 = .ok (.ifCond .eq 10, 3) := by decide +kernel
theorem d_Model_bound_27 : decode c_Model_bound 27 = .ok (.aload_n 0, 1) := by decide +kernel
theorem d_Model_bound_28 : decode c_Model_bound 28 = .ok (.getfield 223, 3) := by decide +kernel
theorem d_Model_bound_31 : decode c_Model_bound 31 = .ok (.goto 7, 3) := by decide +kernel
theorem d_Model_bound_34 : decode c_Model_bound 34 = .ok (.aload_n 0, 1) := by decide +kernel
theorem d_Model_bound_35 : decode c_Model_bound 35 = .ok (.getfield 220, 3) := by decide +kernel
theorem d_Model_bound_38 : decode c_Model_bound 38 = .ok (.ireturn, 1) := by decide +kernel
theorem d_Model_bound_39 : decode c_Model_bound 39 = .ok (.aload_n 0, 1) := by decide +kernel
theorem d_Model_bound_40 : decode c_Model_bound 40 = .ok (.aload_n 0, 1) := by decide +kernel
theorem d_Model_bound_41 : decode c_Model_bound 41 = .ok (.getfield 226, 3) := by decide +kernel
theorem d_Model_bound_44 : decode c_Model_bound 44 = .ok (.iload_n 1, 1) := by decide +kernel
theorem d_Model_bound_45 : decode c_Model_bound 45 = .ok (.iload_n 2, 1) := by decide +kernel
theorem d_Model_bound_46 : decode c_Model_bound 46 = .ok (.invokevirtual 142, 3) := by decide +kernel
theorem d_Model_bound_49 : decode c_Model_bound 49 = .ok (.ireturn, 1) := by decide +kernel
theorem d_Model_start_0 : decode c_Model_start 0 = .ok (.aload_n 0, 1) := by decide +kernel
theorem d_Model_start_1 : decode c_Model_start 1 = .ok (.iload_n 1, 1) := by decide +kernel
theorem d_Model_start_2 : decode c_Model_start 2 = .ok (.iconst 0, 1) := by decide +kernel
theorem d_Model_start_3 : decode c_Model_start 3 = .ok (.invokevirtual 232, 3) := by decide +kernel
theorem d_Model_start_6 : decode c_Model_start 6 = .ok (.ireturn, 1) := by decide +kernel
theorem d_Model_end_0 : decode c_Model_end 0 = .ok (.aload_n 0, 1) := by decide +kernel
theorem d_Model_end_1 : decode c_Model_end 1 = .ok (.iload_n 1, 1) := by decide +kernel
theorem d_Model_end_2 : decode c_Model_end 2 = .ok (.iconst 1, 1) := by decide +kernel
theorem d_Model_end_3 : decode c_Model_end 3 = .ok (.invokevirtual 232, 3) := by decide +kernel
theorem d_Model_end_6 : decode c_Model_end 6 = .ok (.ireturn, 1) := by decide +kernel
theorem d_Model_steps_0 : decode c_Model_steps 0 = .ok (.aload_n 0, 1) := by decide +kernel
theorem d_Model_steps_1 : decode c_Model_steps 1 = .ok (.getfield 173, 3) := by decide +kernel
theorem d_Model_steps_4 : decode c_Model_steps 4 = .ok (.ireturn, 1) := by decide +kernel
theorem d_Model_matches_0 : decode c_Model_matches 0 = .ok (.aload_n 0, 1) := by decide +kernel
theorem d_Model_matches_1 : decode c_Model_matches 1 = .ok (.getfield 83, 3) := by decide +kernel
theorem d_Model_matches_4 : decode c_Model_matches 4 = .ok (.ifCond .ne 5, 3) := by decide +kernel
theorem d_Model_matches_7 : decode c_Model_matches 7 = .ok (.iconst (-1), 1) := by decide +kernel
theorem d_Model_matches_8 : decode c_Model_matches 8 = .ok (.ireturn, 1) := by decide +kernel
theorem d_Model_matches_9 : decode c_Model_matches 9 = .ok (.iconst 0, 1) := by decide +kernel
theorem d_Model_matches_10 : decode c_Model_matches 10 = .ok (.istore_n 1, 1) := by decide +kernel
theorem d_Model_matches_11 : decode c_Model_matches 11 = .ok (.iconst 0, 1) := by decide +kernel
theorem d_Model_matches_12 : decode c_Model_matches 12 = .ok (.istore_n 2, 1) := by decide +kernel
theorem d_Model_matches_13 : decode c_Model_matches 13 = .ok (.iload_n 2, 1) := by decide +kernel
theorem d_Model_matches_14 : decode c_Model_matches 14 = .ok (.aload_n 0, 1) := by decide +kernel
theorem d_Model_matches_15 : decode c_Model_matches 15 = .ok (.getfield 99, 3) := by decide +kernel
theorem d_Model_matches_18 : decode c_Model_matches 18 = .ok (.if_icmp .gt 57, 3) := by decide +kernel
theorem d_Model_matches_21 : decode c_Model_matches 21 = .ok (.aload_n 0, 1) := by decide +kernel
theorem d_Model_matches_22 : decode c_Model_matches 22 = .ok (.iload_n 2, 1) := by decide +kernel
theorem d_Model_matches_23 : decode c_Model_matches 23 = .ok (.invokevirtual 229, 3) := by decide +kernel
theorem d_Model_matches_26 : decode c_Model_matches 26 = .ok (.istore_n 3, 1) := by decide +kernel
theorem d_Model_matches_27 : decode c_Model_matches 27 = .ok (.iload_n 3, 1) := by decide +kernel
theorem d_Model_matches_28 : decode c_Model_matches 28 = .ok (.ifCond .ge 16, 3) := by decide +kernel
theorem d_Model_matches_31 : decode c_Model_matches 31 = .ok (.iload_n 3, 1) := by decide +kernel
theorem d_Model_matches_32 : decode c_Model_matches 32 = .ok (.bipush (-5), 2) := by decide +kernel
theorem d_Model_matches_34 : decode c_Model_matches 34 = .ok (.if_icmp .ne 8, 3) := by decide +kernel
theorem d_Model_matches_37 : decode c_Model_matches 37 = .ok (.bipush (-5), 2) := by decide +kernel
theorem d_Model_matches_39 : decode c_Model_matches 39 = .ok (.goto 4, 3) := by decide +kernel
theorem d_Model_matches_42 : decode c_Model_matches 42 = .ok (.iload_n 1, 1) := by decide +kernel
theorem d_Model_matches_43 : decode c_Model_matches 43 = .ok (.ireturn, 1) := by decide +kernel
theorem d_Model_matches_44 : decode c_Model_matches 44 = .ok (.iinc 1 1, 3) := by decide +kernel
theorem d_Model_matches_47 : decode c_Model_matches 47 = .ok (.aload_n 0, 1) := by decide +kernel
theorem d_Model_matches_48 : decode c_Model_matches 48 = .ok (.getfield 223, 3) := by decide +kernel
theorem d_Model_matches_51 : decode c_Model_matches 51 = .ok (.aload_n 0, 1) := by decide +kernel
theorem d_Model_matches_52 : decode c_Model_matches 52 = .ok (.getfield 220, 3) := by decide +kernel
theorem d_Model_matches_55 : decode c_Model_matches 55 = .ok (.if_icmp .le 10, 3) := by decide +kernel
theorem d_Model_matches_58 : decode c_Model_matches 58 = .ok (.aload_n 0, 1) := by decide +kernel
theorem d_Model_matches_59 : decode c_Model_matches 59 = .ok (.getfield 223, 3) := by decide +kernel
theorem d_Model_matches_62 : decode c_Model_matches 62 = .ok (.goto 9, 3) := by decide +kernel
theorem d_Model_matches_65 : decode c_Model_matches 65 = .ok (.aload_n 0, 1) := by decide +kernel
theorem d_Model_matches_66 : decode c_Model_matches 66 = .ok (.getfield 223, 3) := by decide +kernel
theorem d_Model_matches_69 : decode c_Model_matches 69 = .ok (.iconst 1, 1) := by decide +kernel
theorem d_Model_matches_70 : decode c_Model_matches 70 = .ok (.iadd, 1) := by decide +kernel
theorem d_Model_matches_71 : decode c_Model_matches 71 = .ok (.istore_n 2, 1) := by decide +kernel
theorem d_Model_matches_72 : decode c_Model_matches 72 = .ok (.goto (-59), 3) := by decide +kernel
theorem d_Model_matches_75 : decode c_Model_matches 75 = .ok (.aload_n 0, 1) := by decide +kernel
theorem d_Model_matches_76 : decode c_Model_matches 76 = .ok (.iconst 0, 1) := by decide +kernel
theorem d_Model_matches_77 : decode c_Model_matches 77 = .ok (.putfield 96, 3) := by decide +kernel
theorem d_Model_matches_80 : decode c_Model_matches 80 = .ok (.iload_n 1, 1) := by decide +kernel
theorem d_Model_matches_81 : decode c_Model_matches 81 = .ok (.ireturn, 1) := by decide +kernel
theorem d_Model_count_0 : decode c_Model_count 0 = .ok (.iload_n 1, 1) := by decide +kernel
theorem d_Model_count_1 : decode c_Model_count 1 = .ok (.iconst 0, 1) := by decide +kernel
theorem d_Model_count_2 : decode c_Model_count 2 = .ok (.iconst 1, 1) := by decide +kernel
theorem d_Model_count_3 : decode c_Model_count 3 = .ok (.invokestatic 39, 3) := by decide +kernel
theorem d_Model_count_6 : decode c_Model_count 6 = .ok (.ifCond .eq 19, 3) := by decide +kernel
theorem d_Model_count_9 : decode c_Model_count 9 = .ok (.iload_n 1, 1) := by decide +kernel
theorem d_Model_count_10 : decode c_Model_count 10 = .ok (.ifCond .ne 10, 3) := by decide +kernel
theorem d_Model_count_13 : decode c_Model_count 13 = .ok (.aload_n 0, 1) := by decide +kernel
theorem d_Model_count_14 : decode c_Model_count 14 = .ok (.getfield 50, 3) := by decide +kernel
theorem d_Model_count_17 : decode c_Model_count 17 = .ok (.goto 7, 3) := by decide +kernel
theorem d_Model_count_20 : decode c_Model_count 20 = .ok (.aload_n 0, 1) := by decide +kernel
theorem d_Model_count_21 : decode c_Model_count 21 = .ok (.getfield 99, 3) := by decide +kernel
theorem d_Model_count_24 : decode c_Model_count 24 = .ok (.ireturn, 1) := by decide +kernel
theorem d_Model_count_25 : decode c_Model_count 25 = .ok (.iload_n 1, 1) := by decide +kernel
theorem d_Model_count_26 : decode c_Model_count 26 = .ok (.iconst 2, 1) := by decide +kernel
theorem d_Model_count_27 : decode c_Model_count 27 = .ok (.iconst 3, 1) := by decide +kernel
theorem d_Model_count_28 : decode c_Model_count 28 = .ok (.invokestatic 39, 3) := by decide +kernel
theorem d_Model_count_31 : decode c_Model_count 31 = .ok (.ifCond .ne 5, 3) := by decide +kernel
theorem d_Model_count_34 : decode c_Model_count 34 = .ok (.iconst (-1), 1) := by decide +kernel
theorem d_Model_count_35 : decode c_Model_count 35 = .ok (.ireturn, 1) := by decide +kernel
theorem d_Model_count_36 : decode c_Model_count 36 = .ok (.aload_n 0, 1) := by decide +kernel
theorem d_Model_count_37 : decode c_Model_count 37 = .ok (.getfield 83, 3) := by decide +kernel
theorem d_Model_count_40 : decode c_Model_count 40 = .ok (.ifCond .ne 8, 3) := by decide +kernel
theorem d_Model_count_43 : decode c_Model_count 43 = .ok (.bipush (-4), 2) := by decide +kernel
theorem d_Model_count_45 : decode c_Model_count 45 = .ok (.goto 19, 3) := by decide +kernel
theorem d_Model_count_48 : decode c_Model_count 48 = .ok (.iload_n 1, 1) := by decide +kernel
theorem d_Model_count_49 : decode c_Model_count 49 = .ok (.iconst 2, 1) := by decide +kernel
theorem d_Model_count_50 : decode c_Model_count 50 = .ok (.if_icmp .ne 10, 3) := by decide +kernel
theorem d_Model_count_53 : decode c_Model_count 53 = .ok (.aload_n 0, 1) := by decide +kernel
theorem d_Model_count_54 : decode c_Model_count 54 = .ok (.getfield 90, 3) := by decide +kernel
theorem d_Model_count_57 : decode c_Model_count 57 = .ok (.goto 7, 3) := by decide +kernel
theorem d_Model_count_60 : decode c_Model_count 60 = .ok (.aload_n 0, 1) := by decide +kernel
theorem d_Model_count_61 : decode c_Model_count 61 = .ok (.getfield 93, 3) := by decide +kernel
theorem d_Model_count_64 : decode c_Model_count 64 = .ok (.ireturn, 1) := by decide +kernel
