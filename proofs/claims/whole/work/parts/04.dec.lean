theorem d_GB_init_0 : decode b_GB_init 0 = .ok (.aload_n 0, 1) := by decide +kernel
theorem d_GB_init_1 : decode b_GB_init 1 = .ok (.invokespecial 3, 3) := by decide +kernel
theorem d_GB_init_4 : decode b_GB_init 4 = .ok (.aload_n 0, 1) := by decide +kernel
theorem d_GB_init_5 : decode b_GB_init 5 = .ok (.iconst 4, 1) := by decide +kernel
theorem d_GB_init_6 : decode b_GB_init 6 = .ok (.anewarray 9, 3) := by decide +kernel
theorem d_GB_init_9 : decode b_GB_init 9 = .ok (.putfield 11, 3) := by decide +kernel
theorem d_GB_init_12 : decode b_GB_init 12 = .ok (.aload_n 0, 1) := by decide +kernel
theorem d_GB_init_13 : decode b_GB_init 13 = .ok (.iconst 4, 1) := by decide +kernel
theorem d_GB_init_14 : decode b_GB_init 14 = .ok (.putfield 15, 3) := by decide +kernel
theorem d_GB_init_17 : decode b_GB_init 17 = .ok (.iconst 0, 1) := by decide +kernel
theorem d_GB_init_18 : decode b_GB_init 18 = .ok (.istore_n 1, 1) := by decide +kernel
theorem d_GB_init_19 : decode b_GB_init 19 = .ok (.iload_n 1, 1) := by decide +kernel
theorem d_GB_init_20 : decode b_GB_init 20 = .ok (.iconst 4, 1) := by decide +kernel
theorem d_GB_init_21 : decode b_GB_init 21 = .ok (.if_icmp .ge 23, 3) := by decide +kernel
theorem d_GB_init_24 : decode b_GB_init 24 = .ok (.aload_n 0, 1) := by decide +kernel
theorem d_GB_init_25 : decode b_GB_init 25 = .ok (.getfield 11, 3) := by decide +kernel
theorem d_GB_init_28 : decode b_GB_init 28 = .ok (.iload_n 1, 1) := by decide +kernel
theorem d_GB_init_29 : decode b_GB_init 29 = .ok (.new 9, 3) := by decide +kernel
theorem d_GB_init_32 : decode b_GB_init 32 = .ok (.dup, 1) := by decide +kernel
theorem d_GB_init_33 : decode b_GB_init 33 = .ok (.iload_n 1, 1) := by decide +kernel
theorem d_GB_init_34 : decode b_GB_init 34 = .ok (.invokespecial 19, 3) := by decide +kernel
theorem d_GB_init_37 : decode b_GB_init 37 = .ok (.aastore, 1) := by decide +kernel
theorem d_GB_init_38 : decode b_GB_init 38 = .ok (.iinc 1 1, 3) := by decide +kernel
theorem d_GB_init_41 : decode b_GB_init 41 = .ok (.goto (-22), 3) := by decide +kernel
theorem d_GB_init_44 : decode b_GB_init 44 = .ok (.aload_n 0, 1) := by decide +kernel
theorem d_GB_init_45 : decode b_GB_init 45 = .ok (.iconst 4, 1) := by decide +kernel
theorem d_GB_init_46 : decode b_GB_init 46 = .ok (.sipush 256, 3) := by decide +kernel
theorem d_GB_init_49 : decode b_GB_init 49 = .ok (.invokevirtual 22, 3) := by decide +kernel
theorem d_GB_init_52 : decode b_GB_init 52 = .ok (.return_, 1) := by decide +kernel
theorem d_GB_lay_0 : decode b_GB_lay 0 = .ok (.iload_n 1, 1) := by decide +kernel
theorem d_GB_lay_1 : decode b_GB_lay 1 = .ok (.iconst 1, 1) := by decide +kernel
theorem d_GB_lay_2 : decode b_GB_lay 2 = .ok (.if_icmp .lt 8, 3) := by decide +kernel
theorem d_GB_lay_5 : decode b_GB_lay 5 = .ok (.iload_n 1, 1) := by decide +kernel
theorem d_GB_lay_6 : decode b_GB_lay 6 = .ok (.iconst 4, 1) := by decide +kernel
theorem d_GB_lay_7 : decode b_GB_lay 7 = .ok (.if_icmp .le 13, 3) := by decide +kernel
theorem d_GB_lay_10 : decode b_GB_lay 10 = .ok (.new 26, 3) := by decide +kernel
theorem d_GB_lay_13 : decode b_GB_lay 13 = .ok (.dup, 1) := by decide +kernel
theorem d_GB_lay_14 : decode b_GB_lay 14 = .ok (.ldc 28, 2) := by decide +kernel
theorem d_GB_lay_16 : decode b_GB_lay 16 = .ok (.invokespecial 30, 3) := by decide +kernel
theorem d_GB_lay_19 : decode b_GB_lay 19 = .ok (.athrow, 1) := by decide +kernel
theorem d_GB_lay_20 : decode b_GB_lay 20 = .ok (.iload_n 2, 1) := by decide +kernel
theorem d_GB_lay_21 : decode b_GB_lay 21 = .ok (.bipush 16, 2) := by decide +kernel
theorem d_GB_lay_23 : decode b_GB_lay 23 = .ok (.if_icmp .lt 10, 3) := by decide +kernel
theorem d_GB_lay_26 : decode b_GB_lay 26 = .ok (.iload_n 2, 1) := by decide +kernel
theorem d_GB_lay_27 : decode b_GB_lay 27 = .ok (.sipush 256, 3) := by decide +kernel
theorem d_GB_lay_30 : decode b_GB_lay 30 = .ok (.if_icmp .le 13, 3) := by decide +kernel
theorem d_GB_lay_33 : decode b_GB_lay 33 = .ok (.new 26, 3) := by decide +kernel
theorem d_GB_lay_36 : decode b_GB_lay 36 = .ok (.dup, 1) := by decide +kernel
theorem d_GB_lay_37 : decode b_GB_lay 37 = .ok (.ldc 33, 2) := by decide +kernel
theorem d_GB_lay_39 : decode b_GB_lay 39 = .ok (.invokespecial 30, 3) := by decide +kernel
theorem d_GB_lay_42 : decode b_GB_lay 42 = .ok (.athrow, 1) := by decide +kernel
theorem d_GB_lay_43 : decode b_GB_lay 43 = .ok (.aload_n 0, 1) := by decide +kernel
theorem d_GB_lay_44 : decode b_GB_lay 44 = .ok (.iload_n 1, 1) := by decide +kernel
theorem d_GB_lay_45 : decode b_GB_lay 45 = .ok (.iload_n 2, 1) := by decide +kernel
theorem d_GB_lay_46 : decode b_GB_lay 46 = .ok (.invokevirtual 22, 3) := by decide +kernel
theorem d_GB_lay_49 : decode b_GB_lay 49 = .ok (.aload_n 0, 1) := by decide +kernel
theorem d_GB_lay_50 : decode b_GB_lay 50 = .ok (.invokevirtual 35, 3) := by decide +kernel
theorem d_GB_lay_53 : decode b_GB_lay 53 = .ok (.ireturn, 1) := by decide +kernel
theorem d_GB_reserve_0 : decode b_GB_reserve 0 = .ok (.iload_n 1, 1) := by decide +kernel
theorem d_GB_reserve_1 : decode b_GB_reserve 1 = .ok (.ifCond .lt 9, 3) := by decide +kernel
theorem d_GB_reserve_4 : decode b_GB_reserve 4 = .ok (.iload_n 1, 1) := by decide +kernel
theorem d_GB_reserve_5 : decode b_GB_reserve 5 = .ok (.bipush 100, 2) := by decide +kernel
theorem d_GB_reserve_7 : decode b_GB_reserve 7 = .ok (.if_icmp .le 13, 3) := by decide +kernel
theorem d_GB_reserve_10 : decode b_GB_reserve 10 = .ok (.new 26, 3) := by decide +kernel
theorem d_GB_reserve_13 : decode b_GB_reserve 13 = .ok (.dup, 1) := by decide +kernel
theorem d_GB_reserve_14 : decode b_GB_reserve 14 = .ok (.ldc 39, 2) := by decide +kernel
theorem d_GB_reserve_16 : decode b_GB_reserve 16 = .ok (.invokespecial 30, 3) := by decide +kernel
theorem d_GB_reserve_19 : decode b_GB_reserve 19 = .ok (.athrow, 1) := by decide +kernel
theorem d_GB_reserve_20 : decode b_GB_reserve 20 = .ok (.aload_n 0, 1) := by decide +kernel
theorem d_GB_reserve_21 : decode b_GB_reserve 21 = .ok (.iload_n 1, 1) := by decide +kernel
theorem d_GB_reserve_22 : decode b_GB_reserve 22 = .ok (.putfield 41, 3) := by decide +kernel
theorem d_GB_reserve_25 : decode b_GB_reserve 25 = .ok (.aload_n 0, 1) := by decide +kernel
theorem d_GB_reserve_26 : decode b_GB_reserve 26 = .ok (.iconst 0, 1) := by decide +kernel
theorem d_GB_reserve_27 : decode b_GB_reserve 27 = .ok (.invokevirtual 44, 3) := by decide +kernel
theorem d_GB_reserve_30 : decode b_GB_reserve 30 = .ok (.ireturn, 1) := by decide +kernel
theorem d_GB_take_0 : decode b_GB_take 0 = .ok (.aload_n 0, 1) := by decide +kernel
theorem d_GB_take_1 : decode b_GB_take 1 = .ok (.iload_n 1, 1) := by decide +kernel
theorem d_GB_take_2 : decode b_GB_take 2 = .ok (.invokevirtual 48, 3) := by decide +kernel
theorem d_GB_take_5 : decode b_GB_take 5 = .ok (.ifCond .ne 13, 3) := by decide +kernel
theorem d_GB_take_8 : decode b_GB_take 8 = .ok (.new 26, 3) := by decide +kernel
theorem d_GB_take_11 : decode b_GB_take 11 = .ok (.dup, 1) := by decide +kernel
theorem d_GB_take_12 : decode b_GB_take 12 = .ok (.ldc 52, 2) := by decide +kernel
theorem d_GB_take_14 : decode b_GB_take 14 = .ok (.invokespecial 30, 3) := by decide +kernel
theorem d_GB_take_17 : decode b_GB_take 17 = .ok (.athrow, 1) := by decide +kernel
theorem d_GB_take_18 : decode b_GB_take 18 = .ok (.iload_n 2, 1) := by decide +kernel
theorem d_GB_take_19 : decode b_GB_take 19 = .ok (.iconst 1, 1) := by decide +kernel
theorem d_GB_take_20 : decode b_GB_take 20 = .ok (.if_icmp .lt 10, 3) := by decide +kernel
theorem d_GB_take_23 : decode b_GB_take 23 = .ok (.iload_n 2, 1) := by decide +kernel
theorem d_GB_take_24 : decode b_GB_take 24 = .ok (.sipush 256, 3) := by decide +kernel
theorem d_GB_take_27 : decode b_GB_take 27 = .ok (.if_icmp .le 13, 3) := by decide +kernel
theorem d_GB_take_30 : decode b_GB_take 30 = .ok (.new 26, 3) := by decide +kernel
theorem d_GB_take_33 : decode b_GB_take 33 = .ok (.dup, 1) := by decide +kernel
theorem d_GB_take_34 : decode b_GB_take 34 = .ok (.ldc 54, 2) := by decide +kernel
theorem d_GB_take_36 : decode b_GB_take 36 = .ok (.invokespecial 30, 3) := by decide +kernel
theorem d_GB_take_39 : decode b_GB_take 39 = .ok (.athrow, 1) := by decide +kernel
theorem d_GB_take_40 : decode b_GB_take 40 = .ok (.aload_n 0, 1) := by decide +kernel
theorem d_GB_take_41 : decode b_GB_take 41 = .ok (.iload_n 3, 1) := by decide +kernel
theorem d_GB_take_42 : decode b_GB_take 42 = .ok (.invokevirtual 44, 3) := by decide +kernel
theorem d_GB_take_45 : decode b_GB_take 45 = .ok (.istore 4, 2) := by decide +kernel
theorem d_GB_take_47 : decode b_GB_take 47 = .ok (.iload 4, 2) := by decide +kernel
theorem d_GB_take_49 : decode b_GB_take 49 = .ok (.iconst 1, 1) := by decide +kernel
theorem d_GB_take_50 : decode b_GB_take 50 = .ok (.if_icmp .ge 13, 3) := by decide +kernel
theorem d_GB_take_53 : decode b_GB_take 53 = .ok (.new 56, 3) := by decide +kernel
theorem d_GB_take_56 : decode b_GB_take 56 = .ok (.dup, 1) := by decide +kernel
theorem d_GB_take_57 : decode b_GB_take 57 = .ok (.ldc 58, 2) := by decide +kernel
theorem d_GB_take_59 : decode b_GB_take 59 = .ok (.invokespecial 60, 3) := by decide +kernel
theorem d_GB_take_62 : decode b_GB_take 62 = .ok (.athrow, 1) := by decide +kernel
theorem d_GB_take_63 : decode b_GB_take 63 = .ok (.aload_n 0, 1) := by decide +kernel
theorem d_GB_take_64 : decode b_GB_take 64 = .ok (.iload_n 1, 1) := by decide +kernel
theorem d_GB_take_65 : decode b_GB_take 65 = .ok (.iload_n 2, 1) := by decide +kernel
theorem d_GB_take_66 : decode b_GB_take 66 = .ok (.iload 4, 2) := by decide +kernel
theorem d_GB_take_68 : decode b_GB_take 68 = .ok (.invokestatic 61, 3) := by decide +kernel
theorem d_GB_take_71 : decode b_GB_take 71 = .ok (.invokevirtual 67, 3) := by decide +kernel
theorem d_GB_take_74 : decode b_GB_take 74 = .ok (.ireturn, 1) := by decide +kernel
theorem d_GB_taken_0 : decode b_GB_taken 0 = .ok (.aload_n 0, 1) := by decide +kernel
theorem d_GB_taken_1 : decode b_GB_taken 1 = .ok (.getfield 70, 3) := by decide +kernel
theorem d_GB_taken_4 : decode b_GB_taken 4 = .ok (.ireturn, 1) := by decide +kernel
theorem d_GB_give_0 : decode b_GB_give 0 = .ok (.iload_n 2, 1) := by decide +kernel
theorem d_GB_give_1 : decode b_GB_give 1 = .ok (.iconst 1, 1) := by decide +kernel
theorem d_GB_give_2 : decode b_GB_give 2 = .ok (.if_icmp .lt 10, 3) := by decide +kernel
theorem d_GB_give_5 : decode b_GB_give 5 = .ok (.iload_n 2, 1) := by decide +kernel
theorem d_GB_give_6 : decode b_GB_give 6 = .ok (.sipush 1024, 3) := by decide +kernel
theorem d_GB_give_9 : decode b_GB_give 9 = .ok (.if_icmp .le 13, 3) := by decide +kernel
theorem d_GB_give_12 : decode b_GB_give 12 = .ok (.new 26, 3) := by decide +kernel
theorem d_GB_give_15 : decode b_GB_give 15 = .ok (.dup, 1) := by decide +kernel
theorem d_GB_give_16 : decode b_GB_give 16 = .ok (.ldc 73, 2) := by decide +kernel
theorem d_GB_give_18 : decode b_GB_give 18 = .ok (.invokespecial 30, 3) := by decide +kernel
theorem d_GB_give_21 : decode b_GB_give 21 = .ok (.athrow, 1) := by decide +kernel
theorem d_GB_give_22 : decode b_GB_give 22 = .ok (.aload_n 0, 1) := by decide +kernel
theorem d_GB_give_23 : decode b_GB_give 23 = .ok (.iload_n 1, 1) := by decide +kernel
theorem d_GB_give_24 : decode b_GB_give 24 = .ok (.invokevirtual 48, 3) := by decide +kernel
theorem d_GB_give_27 : decode b_GB_give 27 = .ok (.ifCond .eq 13, 3) := by decide +kernel
theorem d_GB_give_30 : decode b_GB_give 30 = .ok (.iload_n 2, 1) := by decide +kernel
theorem d_GB_give_31 : decode b_GB_give 31 = .ok (.aload_n 0, 1) := by decide +kernel
theorem d_GB_give_32 : decode b_GB_give 32 = .ok (.invokevirtual 75, 3) := by decide +kernel
theorem d_GB_give_35 : decode b_GB_give 35 = .ok (.iload_n 1, 1) := by decide +kernel
theorem d_GB_give_36 : decode b_GB_give 36 = .ok (.isub, 1) := by decide +kernel
theorem d_GB_give_37 : decode b_GB_give 37 = .ok (.if_icmp .le 13, 3) := by decide +kernel
theorem d_GB_give_40 : decode b_GB_give 40 = .ok (.new 26, 3) := by decide +kernel
theorem d_GB_give_43 : decode b_GB_give 43 = .ok (.dup, 1) := by decide +kernel
theorem d_GB_give_44 : decode b_GB_give 44 = .ok (.ldc 78, 2) := by decide +kernel
theorem d_GB_give_46 : decode b_GB_give 46 = .ok (.invokespecial 30, 3) := by decide +kernel
theorem d_GB_give_49 : decode b_GB_give 49 = .ok (.athrow, 1) := by decide +kernel
theorem d_GB_give_50 : decode b_GB_give 50 = .ok (.aload_n 0, 1) := by decide +kernel
theorem d_GB_give_51 : decode b_GB_give 51 = .ok (.iload_n 1, 1) := by decide +kernel
theorem d_GB_give_52 : decode b_GB_give 52 = .ok (.iload_n 2, 1) := by decide +kernel
theorem d_GB_give_53 : decode b_GB_give 53 = .ok (.invokevirtual 80, 3) := by decide +kernel
theorem d_GB_give_56 : decode b_GB_give 56 = .ok (.ifCond .ne 13, 3) := by decide +kernel
theorem d_GB_give_59 : decode b_GB_give 59 = .ok (.new 56, 3) := by decide +kernel
theorem d_GB_give_62 : decode b_GB_give 62 = .ok (.dup, 1) := by decide +kernel
theorem d_GB_give_63 : decode b_GB_give 63 = .ok (.ldc 84, 2) := by decide +kernel
theorem d_GB_give_65 : decode b_GB_give 65 = .ok (.invokespecial 60, 3) := by decide +kernel
theorem d_GB_give_68 : decode b_GB_give 68 = .ok (.athrow, 1) := by decide +kernel
theorem d_GB_give_69 : decode b_GB_give 69 = .ok (.iload_n 1, 1) := by decide +kernel
theorem d_GB_give_70 : decode b_GB_give 70 = .ok (.istore_n 3, 1) := by decide +kernel
theorem d_GB_give_71 : decode b_GB_give 71 = .ok (.iload_n 3, 1) := by decide +kernel
theorem d_GB_give_72 : decode b_GB_give 72 = .ok (.iload_n 1, 1) := by decide +kernel
theorem d_GB_give_73 : decode b_GB_give 73 = .ok (.iload_n 2, 1) := by decide +kernel
theorem d_GB_give_74 : decode b_GB_give 74 = .ok (.iadd, 1) := by decide +kernel
theorem d_GB_give_75 : decode b_GB_give 75 = .ok (.if_icmp .ge 25, 3) := by decide +kernel
theorem d_GB_give_78 : decode b_GB_give 78 = .ok (.aload_n 0, 1) := by decide +kernel
theorem d_GB_give_79 : decode b_GB_give 79 = .ok (.iload_n 3, 1) := by decide +kernel
theorem d_GB_give_80 : decode b_GB_give 80 = .ok (.invokevirtual 86, 3) := by decide +kernel
theorem d_GB_give_83 : decode b_GB_give 83 = .ok (.getfield 90, 3) := by decide +kernel
theorem d_GB_give_86 : decode b_GB_give 86 = .ok (.iload_n 3, 1) := by decide +kernel
theorem d_GB_give_87 : decode b_GB_give 87 = .ok (.sipush 256, 3) := by decide +kernel
theorem d_GB_give_90 : decode b_GB_give 90 = .ok (.irem, 1) := by decide +kernel
theorem d_GB_give_91 : decode b_GB_give 91 = .ok (.invokevirtual 94, 3) := by decide +kernel
theorem d_GB_give_94 : decode b_GB_give 94 = .ok (.iinc 3 1, 3) := by decide +kernel
theorem d_GB_give_97 : decode b_GB_give 97 = .ok (.goto (-26), 3) := by decide +kernel
theorem d_GB_give_100 : decode b_GB_give 100 = .ok (.aload_n 0, 1) := by decide +kernel
theorem d_GB_give_101 : decode b_GB_give 101 = .ok (.iconst 1, 1) := by decide +kernel
theorem d_GB_give_102 : decode b_GB_give 102 = .ok (.putfield 99, 3) := by decide +kernel
theorem d_GB_give_105 : decode b_GB_give 105 = .ok (.aload_n 0, 1) := by decide +kernel
theorem d_GB_give_106 : decode b_GB_give 106 = .ok (.invokevirtual 35, 3) := by decide +kernel
theorem d_GB_give_109 : decode b_GB_give 109 = .ok (.ireturn, 1) := by decide +kernel
theorem d_GB_takeFile_0 : decode b_GB_takeFile 0 = .ok (.aload_n 0, 1) := by decide +kernel
theorem d_GB_takeFile_1 : decode b_GB_takeFile 1 = .ok (.iload_n 1, 1) := by decide +kernel
theorem d_GB_takeFile_2 : decode b_GB_takeFile 2 = .ok (.invokevirtual 103, 3) := by decide +kernel
theorem d_GB_takeFile_5 : decode b_GB_takeFile 5 = .ok (.ifCond .ne 13, 3) := by decide +kernel
theorem d_GB_takeFile_8 : decode b_GB_takeFile 8 = .ok (.new 26, 3) := by decide +kernel
theorem d_GB_takeFile_11 : decode b_GB_takeFile 11 = .ok (.dup, 1) := by decide +kernel
theorem d_GB_takeFile_12 : decode b_GB_takeFile 12 = .ok (.ldc 106, 2) := by decide +kernel
theorem d_GB_takeFile_14 : decode b_GB_takeFile 14 = .ok (.invokespecial 30, 3) := by decide +kernel
theorem d_GB_takeFile_17 : decode b_GB_takeFile 17 = .ok (.athrow, 1) := by decide +kernel
theorem d_GB_takeFile_18 : decode b_GB_takeFile 18 = .ok (.iload_n 2, 1) := by decide +kernel
theorem d_GB_takeFile_19 : decode b_GB_takeFile 19 = .ok (.ifCond .eq 11, 3) := by decide +kernel
theorem d_GB_takeFile_22 : decode b_GB_takeFile 22 = .ok (.aload_n 0, 1) := by decide +kernel
theorem d_GB_takeFile_23 : decode b_GB_takeFile 23 = .ok (.iload_n 1, 1) := by decide +kernel
theorem d_GB_takeFile_24 : decode b_GB_takeFile 24 = .ok (.invokevirtual 108, 3) := by decide +kernel
theorem d_GB_takeFile_27 : decode b_GB_takeFile 27 = .ok (.goto 8, 3) := by decide +kernel
theorem d_GB_takeFile_30 : decode b_GB_takeFile 30 = .ok (.aload_n 0, 1) := by decide +kernel
theorem d_GB_takeFile_31 : decode b_GB_takeFile 31 = .ok (.iload_n 1, 1) := by decide +kernel
theorem d_GB_takeFile_32 : decode b_GB_takeFile 32 = .ok (.invokevirtual 111, 3) := by decide +kernel
theorem d_GB_takeFile_35 : decode b_GB_takeFile 35 = .ok (.astore_n 3, 1) := by decide +kernel
theorem d_GB_takeFile_36 : decode b_GB_takeFile 36 = .ok (.aload_n 3, 1) := by decide +kernel
theorem d_GB_takeFile_37 : decode b_GB_takeFile 37 = .ok (.ifnonnull 13, 3) := by decide +kernel
theorem d_GB_takeFile_40 : decode b_GB_takeFile 40 = .ok (.new 56, 3) := by decide +kernel
theorem d_GB_takeFile_43 : decode b_GB_takeFile 43 = .ok (.dup, 1) := by decide +kernel
theorem d_GB_takeFile_44 : decode b_GB_takeFile 44 = .ok (.ldc 114, 2) := by decide +kernel
theorem d_GB_takeFile_46 : decode b_GB_takeFile 46 = .ok (.invokespecial 60, 3) := by decide +kernel
theorem d_GB_takeFile_49 : decode b_GB_takeFile 49 = .ok (.athrow, 1) := by decide +kernel
theorem d_GB_takeFile_50 : decode b_GB_takeFile 50 = .ok (.aload_n 0, 1) := by decide +kernel
theorem d_GB_takeFile_51 : decode b_GB_takeFile 51 = .ok (.iconst 1, 1) := by decide +kernel
theorem d_GB_takeFile_52 : decode b_GB_takeFile 52 = .ok (.putfield 99, 3) := by decide +kernel
theorem d_GB_takeFile_55 : decode b_GB_takeFile 55 = .ok (.aload_n 3, 1) := by decide +kernel
theorem d_GB_takeFile_56 : decode b_GB_takeFile 56 = .ok (.iload_n 2, 1) := by decide +kernel
theorem d_GB_takeFile_57 : decode b_GB_takeFile 57 = .ok (.invokevirtual 116, 3) := by decide +kernel
theorem d_GB_takeFile_60 : decode b_GB_takeFile 60 = .ok (.ireturn, 1) := by decide +kernel
theorem d_GB_giveFile_0 : decode b_GB_giveFile 0 = .ok (.aload_n 0, 1) := by decide +kernel
theorem d_GB_giveFile_1 : decode b_GB_giveFile 1 = .ok (.iload_n 1, 1) := by decide +kernel
theorem d_GB_giveFile_2 : decode b_GB_giveFile 2 = .ok (.invokevirtual 103, 3) := by decide +kernel
theorem d_GB_giveFile_5 : decode b_GB_giveFile 5 = .ok (.ifCond .eq 9, 3) := by decide +kernel
theorem d_GB_giveFile_8 : decode b_GB_giveFile 8 = .ok (.iload_n 1, 1) := by decide +kernel
theorem d_GB_giveFile_9 : decode b_GB_giveFile 9 = .ok (.bipush 10, 2) := by decide +kernel
theorem d_GB_giveFile_11 : decode b_GB_giveFile 11 = .ok (.if_icmp .gt 13, 3) := by decide +kernel
theorem d_GB_giveFile_14 : decode b_GB_giveFile 14 = .ok (.new 26, 3) := by decide +kernel
theorem d_GB_giveFile_17 : decode b_GB_giveFile 17 = .ok (.dup, 1) := by decide +kernel
theorem d_GB_giveFile_18 : decode b_GB_giveFile 18 = .ok (.ldc 119, 2) := by decide +kernel
theorem d_GB_giveFile_20 : decode b_GB_giveFile 20 = .ok (.invokespecial 30, 3) := by decide +kernel
theorem d_GB_giveFile_23 : decode b_GB_giveFile 23 = .ok (.athrow, 1) := by decide +kernel
theorem d_GB_giveFile_24 : decode b_GB_giveFile 24 = .ok (.aload_n 0, 1) := by decide +kernel
theorem d_GB_giveFile_25 : decode b_GB_giveFile 25 = .ok (.iload_n 1, 1) := by decide +kernel
theorem d_GB_giveFile_26 : decode b_GB_giveFile 26 = .ok (.invokevirtual 121, 3) := by decide +kernel
theorem d_GB_giveFile_29 : decode b_GB_giveFile 29 = .ok (.astore_n 3, 1) := by decide +kernel
theorem d_GB_giveFile_30 : decode b_GB_giveFile 30 = .ok (.iload_n 1, 1) := by decide +kernel
theorem d_GB_giveFile_31 : decode b_GB_giveFile 31 = .ok (.iconst 1, 1) := by decide +kernel
theorem d_GB_giveFile_32 : decode b_GB_giveFile 32 = .ok (.isub, 1) := by decide +kernel
theorem d_GB_giveFile_33 : decode b_GB_giveFile 33 = .ok (.sipush 128, 3) := by decide +kernel
theorem d_GB_giveFile_36 : decode b_GB_giveFile 36 = .ok (.irem, 1) := by decide +kernel
theorem d_GB_giveFile_37 : decode b_GB_giveFile 37 = .ok (.istore 4, 2) := by decide +kernel
theorem d_GB_giveFile_39 : decode b_GB_giveFile 39 = .ok (.aload_n 3, 1) := by decide +kernel
theorem d_GB_giveFile_40 : decode b_GB_giveFile 40 = .ok (.getfield 124, 3) := by decide +kernel
theorem d_GB_giveFile_43 : decode b_GB_giveFile 43 = .ok (.iload 4, 2) := by decide +kernel
theorem d_GB_giveFile_45 : decode b_GB_giveFile 45 = .ok (.invokevirtual 127, 3) := by decide +kernel
theorem d_GB_giveFile_48 : decode b_GB_giveFile 48 = .ok (.ifCond .ne 13, 3) := by decide +kernel
theorem d_GB_giveFile_51 : decode b_GB_giveFile 51 = .ok (.new 56, 3) := by decide +kernel
theorem d_GB_giveFile_54 : decode b_GB_giveFile 54 = .ok (.dup, 1) := by decide +kernel
theorem d_GB_giveFile_55 : decode b_GB_giveFile 55 = .ok (.ldc 130, 2) := by decide +kernel
theorem d_GB_giveFile_57 : decode b_GB_giveFile 57 = .ok (.invokespecial 60, 3) := by decide +kernel
theorem d_GB_giveFile_60 : decode b_GB_giveFile 60 = .ok (.athrow, 1) := by decide +kernel
theorem d_GB_giveFile_61 : decode b_GB_giveFile 61 = .ok (.iload_n 2, 1) := by decide +kernel
theorem d_GB_giveFile_62 : decode b_GB_giveFile 62 = .ok (.ifCond .eq 21, 3) := by decide +kernel
theorem d_GB_giveFile_65 : decode b_GB_giveFile 65 = .ok (.aload_n 3, 1) := by decide +kernel
theorem d_GB_giveFile_66 : decode b_GB_giveFile 66 = .ok (.getfield 132, 3) := by decide +kernel
theorem d_GB_giveFile_69 : decode b_GB_giveFile 69 = .ok (.iconst 1, 1) := by decide +kernel
theorem d_GB_giveFile_70 : decode b_GB_giveFile 70 = .ok (.if_icmp .ge 13, 3) := by decide +kernel
theorem d_GB_giveFile_73 : decode b_GB_giveFile 73 = .ok (.new 56, 3) := by decide +kernel
theorem d_GB_giveFile_76 : decode b_GB_giveFile 76 = .ok (.dup, 1) := by decide +kernel
theorem d_GB_giveFile_77 : decode b_GB_giveFile 77 = .ok (.ldc 135, 2) := by decide +kernel
theorem d_GB_giveFile_79 : decode b_GB_giveFile 79 = .ok (.invokespecial 60, 3) := by decide +kernel
theorem d_GB_giveFile_82 : decode b_GB_giveFile 82 = .ok (.athrow, 1) := by decide +kernel
theorem d_GB_giveFile_83 : decode b_GB_giveFile 83 = .ok (.aload_n 3, 1) := by decide +kernel
theorem d_GB_giveFile_84 : decode b_GB_giveFile 84 = .ok (.iload 4, 2) := by decide +kernel
theorem d_GB_giveFile_86 : decode b_GB_giveFile 86 = .ok (.iload_n 2, 1) := by decide +kernel
theorem d_GB_giveFile_87 : decode b_GB_giveFile 87 = .ok (.invokevirtual 137, 3) := by decide +kernel
theorem d_GB_giveFile_90 : decode b_GB_giveFile 90 = .ok (.aload_n 0, 1) := by decide +kernel
theorem d_GB_giveFile_91 : decode b_GB_giveFile 91 = .ok (.iconst 1, 1) := by decide +kernel
theorem d_GB_giveFile_92 : decode b_GB_giveFile 92 = .ok (.putfield 99, 3) := by decide +kernel
theorem d_GB_giveFile_95 : decode b_GB_giveFile 95 = .ok (.aload_n 0, 1) := by decide +kernel
theorem d_GB_giveFile_96 : decode b_GB_giveFile 96 = .ok (.invokevirtual 141, 3) := by decide +kernel
theorem d_GB_giveFile_99 : decode b_GB_giveFile 99 = .ok (.ireturn, 1) := by decide +kernel
theorem d_GB_isTaken_0 : decode b_GB_isTaken 0 = .ok (.iload_n 1, 1) := by decide +kernel
theorem d_GB_isTaken_1 : decode b_GB_isTaken 1 = .ok (.ifCond .ne 28, 3) := by decide +kernel
theorem d_GB_isTaken_4 : decode b_GB_isTaken 4 = .ok (.aload_n 0, 1) := by decide +kernel
theorem d_GB_isTaken_5 : decode b_GB_isTaken 5 = .ok (.iload_n 2, 1) := by decide +kernel
theorem d_GB_isTaken_6 : decode b_GB_isTaken 6 = .ok (.invokevirtual 48, 3) := by decide +kernel
theorem d_GB_isTaken_9 : decode b_GB_isTaken 9 = .ok (.ifCond .eq 20, 3) := by decide +kernel
theorem d_GB_isTaken_12 : decode b_GB_isTaken 12 = .ok (.aload_n 0, 1) := by decide +kernel
theorem d_GB_isTaken_13 : decode b_GB_isTaken 13 = .ok (.iload_n 2, 1) := by decide +kernel
theorem d_GB_isTaken_14 : decode b_GB_isTaken 14 = .ok (.invokevirtual 86, 3) := by decide +kernel
theorem d_GB_isTaken_17 : decode b_GB_isTaken 17 = .ok (.getfield 90, 3) := by decide +kernel
theorem d_GB_isTaken_20 : decode b_GB_isTaken 20 = .ok (.iload_n 2, 1) := by decide +kernel
theorem d_GB_isTaken_21 : decode b_GB_isTaken 21 = .ok (.sipush 256, 3) := by decide +kernel
theorem d_GB_isTaken_24 : decode b_GB_isTaken 24 = .ok (.irem, 1) := by decide +kernel
theorem d_GB_isTaken_25 : decode b_GB_isTaken 25 = .ok (.invokevirtual 127, 3) := by decide +kernel
theorem d_GB_isTaken_28 : decode b_GB_isTaken 28 = .ok (.ireturn, 1) := by decide +kernel
theorem d_GB_isTaken_29 : decode b_GB_isTaken 29 = .ok (.iload_n 1, 1) := by decide +kernel
theorem d_GB_isTaken_30 : decode b_GB_isTaken 30 = .ok (.iconst 1, 1) := by decide +kernel
theorem d_GB_isTaken_31 : decode b_GB_isTaken 31 = .ok (.if_icmp .ne 30, 3) := by decide +kernel
theorem d_GB_isTaken_34 : decode b_GB_isTaken 34 = .ok (.aload_n 0, 1) := by decide +kernel
theorem d_GB_isTaken_35 : decode b_GB_isTaken 35 = .ok (.iload_n 2, 1) := by decide +kernel
theorem d_GB_isTaken_36 : decode b_GB_isTaken 36 = .ok (.invokevirtual 103, 3) := by decide +kernel
theorem d_GB_isTaken_39 : decode b_GB_isTaken 39 = .ok (.ifCond .eq 22, 3) := by decide +kernel
theorem d_GB_isTaken_42 : decode b_GB_isTaken 42 = .ok (.aload_n 0, 1) := by decide +kernel
theorem d_GB_isTaken_43 : decode b_GB_isTaken 43 = .ok (.iload_n 2, 1) := by decide +kernel
theorem d_GB_isTaken_44 : decode b_GB_isTaken 44 = .ok (.invokevirtual 121, 3) := by decide +kernel
theorem d_GB_isTaken_47 : decode b_GB_isTaken 47 = .ok (.getfield 124, 3) := by decide +kernel
theorem d_GB_isTaken_50 : decode b_GB_isTaken 50 = .ok (.iload_n 2, 1) := by decide +kernel
theorem d_GB_isTaken_51 : decode b_GB_isTaken 51 = .ok (.iconst 1, 1) := by decide +kernel
theorem d_GB_isTaken_52 : decode b_GB_isTaken 52 = .ok (.isub, 1) := by decide +kernel
theorem d_GB_isTaken_53 : decode b_GB_isTaken 53 = .ok (.sipush 128, 3) := by decide +kernel
theorem d_GB_isTaken_56 : decode b_GB_isTaken 56 = .ok (.irem, 1) := by decide +kernel
theorem d_GB_isTaken_57 : decode b_GB_isTaken 57 = .ok (.invokevirtual 127, 3) := by decide +kernel
theorem d_GB_isTaken_60 : decode b_GB_isTaken 60 = .ok (.ireturn, 1) := by decide +kernel
theorem d_GB_isTaken_61 : decode b_GB_isTaken 61 = .ok (.new 26, 3) := by decide +kernel
theorem d_GB_isTaken_64 : decode b_GB_isTaken 64 = .ok (.dup, 1) := by decide +kernel
theorem d_GB_isTaken_65 : decode b_GB_isTaken 65 = .ok (.ldc 144, 2) := by decide +kernel
theorem d_GB_isTaken_67 : decode b_GB_isTaken 67 = .ok (.invokespecial 30, 3) := by decide +kernel
theorem d_GB_isTaken_70 : decode b_GB_isTaken 70 = .ok (.athrow, 1) := by decide +kernel
theorem d_GB_group_0 : decode b_GB_group 0 = .ok (.iload_n 1, 1) := by decide +kernel
theorem d_GB_group_1 : decode b_GB_group 1 = .ok (.ifCond .lt 11, 3) := by decide +kernel
theorem d_GB_group_4 : decode b_GB_group 4 = .ok (.iload_n 1, 1) := by decide +kernel
theorem d_GB_group_5 : decode b_GB_group 5 = .ok (.aload_n 0, 1) := by decide +kernel
theorem d_GB_group_6 : decode b_GB_group 6 = .ok (.getfield 15, 3) := by decide +kernel
theorem d_GB_group_9 : decode b_GB_group 9 = .ok (.if_icmp .lt 13, 3) := by decide +kernel
theorem d_GB_group_12 : decode b_GB_group 12 = .ok (.new 26, 3) := by decide +kernel
theorem d_GB_group_15 : decode b_GB_group 15 = .ok (.dup, 1) := by decide +kernel
theorem d_GB_group_16 : decode b_GB_group 16 = .ok (.ldc 146, 2) := by decide +kernel
theorem d_GB_group_18 : decode b_GB_group 18 = .ok (.invokespecial 30, 3) := by decide +kernel
theorem d_GB_group_21 : decode b_GB_group 21 = .ok (.athrow, 1) := by decide +kernel
theorem d_GB_group_22 : decode b_GB_group 22 = .ok (.aload_n 0, 1) := by decide +kernel
theorem d_GB_group_23 : decode b_GB_group 23 = .ok (.getfield 11, 3) := by decide +kernel
theorem d_GB_group_26 : decode b_GB_group 26 = .ok (.iload_n 1, 1) := by decide +kernel
theorem d_GB_group_27 : decode b_GB_group 27 = .ok (.aaload, 1) := by decide +kernel
theorem d_GB_group_28 : decode b_GB_group 28 = .ok (.astore_n 3, 1) := by decide +kernel
theorem d_GB_group_29 : decode b_GB_group 29 = .ok (.iload_n 2, 1) := by decide +kernel
theorem d_GB_group_30 : decode b_GB_group 30 = .ok (.tableswitch 80 0 5 #[38, 43, 51, 59, 67, 72], 38) := by decide +kernel
theorem d_GB_group_68 : decode b_GB_group 68 = .ok (.aload_n 3, 1) := by decide +kernel
theorem d_GB_group_69 : decode b_GB_group 69 = .ok (.getfield 148, 3) := by decide +kernel
theorem d_GB_group_72 : decode b_GB_group 72 = .ok (.ireturn, 1) := by decide +kernel
theorem d_GB_group_73 : decode b_GB_group 73 = .ok (.aload_n 3, 1) := by decide +kernel
theorem d_GB_group_74 : decode b_GB_group 74 = .ok (.getfield 90, 3) := by decide +kernel
theorem d_GB_group_77 : decode b_GB_group 77 = .ok (.getfield 151, 3) := by decide +kernel
theorem d_GB_group_80 : decode b_GB_group 80 = .ok (.ireturn, 1) := by decide +kernel
theorem d_GB_group_81 : decode b_GB_group 81 = .ok (.aload_n 3, 1) := by decide +kernel
theorem d_GB_group_82 : decode b_GB_group 82 = .ok (.getfield 90, 3) := by decide +kernel
theorem d_GB_group_85 : decode b_GB_group 85 = .ok (.getfield 154, 3) := by decide +kernel
theorem d_GB_group_88 : decode b_GB_group 88 = .ok (.ireturn, 1) := by decide +kernel
theorem d_GB_group_89 : decode b_GB_group 89 = .ok (.aload_n 3, 1) := by decide +kernel
theorem d_GB_group_90 : decode b_GB_group 90 = .ok (.getfield 124, 3) := by decide +kernel
theorem d_GB_group_93 : decode b_GB_group 93 = .ok (.getfield 154, 3) := by decide +kernel
theorem d_GB_group_96 : decode b_GB_group 96 = .ok (.ireturn, 1) := by decide +kernel
theorem d_GB_group_97 : decode b_GB_group 97 = .ok (.aload_n 3, 1) := by decide +kernel
theorem d_GB_group_98 : decode b_GB_group 98 = .ok (.getfield 132, 3) := by decide +kernel
theorem d_GB_group_101 : decode b_GB_group 101 = .ok (.ireturn, 1) := by decide +kernel
theorem d_GB_group_102 : decode b_GB_group 102 = .ok (.aload_n 3, 1) := by decide +kernel
theorem d_GB_group_103 : decode b_GB_group 103 = .ok (.getfield 90, 3) := by decide +kernel
theorem d_GB_group_106 : decode b_GB_group 106 = .ok (.invokevirtual 157, 3) := by decide +kernel
theorem d_GB_group_109 : decode b_GB_group 109 = .ok (.ireturn, 1) := by decide +kernel
theorem d_GB_group_110 : decode b_GB_group 110 = .ok (.new 26, 3) := by decide +kernel
theorem d_GB_group_113 : decode b_GB_group 113 = .ok (.dup, 1) := by decide +kernel
theorem d_GB_group_114 : decode b_GB_group 114 = .ok (.ldc 160, 2) := by decide +kernel
theorem d_GB_group_116 : decode b_GB_group 116 = .ok (.invokespecial 30, 3) := by decide +kernel
theorem d_GB_group_119 : decode b_GB_group 119 = .ok (.athrow, 1) := by decide +kernel
theorem d_GB_byteOf_0 : decode b_GB_byteOf 0 = .ok (.iload_n 1, 1) := by decide +kernel
theorem d_GB_byteOf_1 : decode b_GB_byteOf 1 = .ok (.ifCond .lt 21, 3) := by decide +kernel
theorem d_GB_byteOf_4 : decode b_GB_byteOf 4 = .ok (.iload_n 1, 1) := by decide +kernel
theorem d_GB_byteOf_5 : decode b_GB_byteOf 5 = .ok (.sipush 1024, 3) := by decide +kernel
theorem d_GB_byteOf_8 : decode b_GB_byteOf 8 = .ok (.if_icmp .ge 14, 3) := by decide +kernel
theorem d_GB_byteOf_11 : decode b_GB_byteOf 11 = .ok (.iload_n 2, 1) := by decide +kernel
theorem d_GB_byteOf_12 : decode b_GB_byteOf 12 = .ok (.ifCond .lt 10, 3) := by decide +kernel
theorem d_GB_byteOf_15 : decode b_GB_byteOf 15 = .ok (.iload_n 2, 1) := by decide +kernel
theorem d_GB_byteOf_16 : decode b_GB_byteOf 16 = .ok (.sipush 4096, 3) := by decide +kernel
theorem d_GB_byteOf_19 : decode b_GB_byteOf 19 = .ok (.if_icmp .lt 13, 3) := by decide +kernel
theorem d_GB_byteOf_22 : decode b_GB_byteOf 22 = .ok (.new 162, 3) := by decide +kernel
theorem d_GB_byteOf_25 : decode b_GB_byteOf 25 = .ok (.dup, 1) := by decide +kernel
theorem d_GB_byteOf_26 : decode b_GB_byteOf 26 = .ok (.ldc 164, 2) := by decide +kernel
theorem d_GB_byteOf_28 : decode b_GB_byteOf 28 = .ok (.invokespecial 166, 3) := by decide +kernel
theorem d_GB_byteOf_31 : decode b_GB_byteOf 31 = .ok (.athrow, 1) := by decide +kernel
theorem d_GB_byteOf_32 : decode b_GB_byteOf 32 = .ok (.iload_n 1, 1) := by decide +kernel
theorem d_GB_byteOf_33 : decode b_GB_byteOf 33 = .ok (.iconst 1, 1) := by decide +kernel
theorem d_GB_byteOf_34 : decode b_GB_byteOf 34 = .ok (.if_icmp .ne 9, 3) := by decide +kernel
theorem d_GB_byteOf_37 : decode b_GB_byteOf 37 = .ok (.aload_n 0, 1) := by decide +kernel
theorem d_GB_byteOf_38 : decode b_GB_byteOf 38 = .ok (.iload_n 2, 1) := by decide +kernel
theorem d_GB_byteOf_39 : decode b_GB_byteOf 39 = .ok (.invokevirtual 167, 3) := by decide +kernel
theorem d_GB_byteOf_42 : decode b_GB_byteOf 42 = .ok (.ireturn, 1) := by decide +kernel
theorem d_GB_byteOf_43 : decode b_GB_byteOf 43 = .ok (.aload_n 0, 1) := by decide +kernel
theorem d_GB_byteOf_44 : decode b_GB_byteOf 44 = .ok (.iload_n 1, 1) := by decide +kernel
theorem d_GB_byteOf_45 : decode b_GB_byteOf 45 = .ok (.invokevirtual 86, 3) := by decide +kernel
theorem d_GB_byteOf_48 : decode b_GB_byteOf 48 = .ok (.iload_n 1, 1) := by decide +kernel
theorem d_GB_byteOf_49 : decode b_GB_byteOf 49 = .ok (.invokevirtual 171, 3) := by decide +kernel
theorem d_GB_byteOf_52 : decode b_GB_byteOf 52 = .ok (.astore_n 3, 1) := by decide +kernel
theorem d_GB_byteOf_53 : decode b_GB_byteOf 53 = .ok (.aload_n 3, 1) := by decide +kernel
theorem d_GB_byteOf_54 : decode b_GB_byteOf 54 = .ok (.ifnonnull 7, 3) := by decide +kernel
theorem d_GB_byteOf_57 : decode b_GB_byteOf 57 = .ok (.iconst 0, 1) := by decide +kernel
theorem d_GB_byteOf_58 : decode b_GB_byteOf 58 = .ok (.goto 8, 3) := by decide +kernel
theorem d_GB_byteOf_61 : decode b_GB_byteOf 61 = .ok (.aload_n 3, 1) := by decide +kernel
theorem d_GB_byteOf_62 : decode b_GB_byteOf 62 = .ok (.iload_n 2, 1) := by decide +kernel
theorem d_GB_byteOf_63 : decode b_GB_byteOf 63 = .ok (.invokevirtual 175, 3) := by decide +kernel
theorem d_GB_byteOf_66 : decode b_GB_byteOf 66 = .ok (.ireturn, 1) := by decide +kernel
theorem d_GB_isTold_0 : decode b_GB_isTold 0 = .ok (.iload_n 1, 1) := by decide +kernel
theorem d_GB_isTold_1 : decode b_GB_isTold 1 = .ok (.ifCond .lt 10, 3) := by decide +kernel
theorem d_GB_isTold_4 : decode b_GB_isTold 4 = .ok (.iload_n 1, 1) := by decide +kernel
theorem d_GB_isTold_5 : decode b_GB_isTold 5 = .ok (.sipush 1024, 3) := by decide +kernel
theorem d_GB_isTold_8 : decode b_GB_isTold 8 = .ok (.if_icmp .lt 13, 3) := by decide +kernel
theorem d_GB_isTold_11 : decode b_GB_isTold 11 = .ok (.new 162, 3) := by decide +kernel
theorem d_GB_isTold_14 : decode b_GB_isTold 14 = .ok (.dup, 1) := by decide +kernel
theorem d_GB_isTold_15 : decode b_GB_isTold 15 = .ok (.ldc 178, 2) := by decide +kernel
theorem d_GB_isTold_17 : decode b_GB_isTold 17 = .ok (.invokespecial 166, 3) := by decide +kernel
theorem d_GB_isTold_20 : decode b_GB_isTold 20 = .ok (.athrow, 1) := by decide +kernel
theorem d_GB_isTold_21 : decode b_GB_isTold 21 = .ok (.iload_n 1, 1) := by decide +kernel
theorem d_GB_isTold_22 : decode b_GB_isTold 22 = .ok (.iconst 1, 1) := by decide +kernel
theorem d_GB_isTold_23 : decode b_GB_isTold 23 = .ok (.if_icmp .ne 8, 3) := by decide +kernel
theorem d_GB_isTold_26 : decode b_GB_isTold 26 = .ok (.aload_n 0, 1) := by decide +kernel
theorem d_GB_isTold_27 : decode b_GB_isTold 27 = .ok (.getfield 99, 3) := by decide +kernel
theorem d_GB_isTold_30 : decode b_GB_isTold 30 = .ok (.ireturn, 1) := by decide +kernel
theorem d_GB_isTold_31 : decode b_GB_isTold 31 = .ok (.aload_n 0, 1) := by decide +kernel
theorem d_GB_isTold_32 : decode b_GB_isTold 32 = .ok (.iload_n 1, 1) := by decide +kernel
theorem d_GB_isTold_33 : decode b_GB_isTold 33 = .ok (.invokevirtual 86, 3) := by decide +kernel
theorem d_GB_isTold_36 : decode b_GB_isTold 36 = .ok (.iload_n 1, 1) := by decide +kernel
theorem d_GB_isTold_37 : decode b_GB_isTold 37 = .ok (.invokevirtual 171, 3) := by decide +kernel
theorem d_GB_isTold_40 : decode b_GB_isTold 40 = .ok (.astore_n 2, 1) := by decide +kernel
theorem d_GB_isTold_41 : decode b_GB_isTold 41 = .ok (.aload_n 2, 1) := by decide +kernel
theorem d_GB_isTold_42 : decode b_GB_isTold 42 = .ok (.ifnull 14, 3) := by decide +kernel
theorem d_GB_isTold_45 : decode b_GB_isTold 45 = .ok (.aload_n 2, 1) := by decide +kernel
theorem d_GB_isTold_46 : decode b_GB_isTold 46 = .ok (.getfield 180, 3) := by decide +kernel
theorem d_GB_isTold_49 : decode b_GB_isTold 49 = .ok (.ifCond .eq 7, 3) := by decide +kernel
theorem d_GB_isTold_52 : decode b_GB_isTold 52 = .ok (.iconst 1, 1) := by decide +kernel
theorem d_GB_isTold_53 : decode b_GB_isTold 53 = .ok (.goto 4, 3) := by decide +kernel
theorem d_GB_isTold_56 : decode b_GB_isTold 56 = .ok (.iconst 0, 1) := by decide +kernel
theorem d_GB_isTold_57 : decode b_GB_isTold 57 = .ok (.ireturn, 1) := by decide +kernel
theorem d_GB_settle_0 : decode b_GB_settle 0 = .ok (.aload_n 0, 1) := by decide +kernel
theorem d_GB_settle_1 : decode b_GB_settle 1 = .ok (.getfield 99, 3) := by decide +kernel
theorem d_GB_settle_4 : decode b_GB_settle 4 = .ok (.ifCond .eq 7, 3) := by decide +kernel
theorem d_GB_settle_7 : decode b_GB_settle 7 = .ok (.iconst 1, 1) := by decide +kernel
theorem d_GB_settle_8 : decode b_GB_settle 8 = .ok (.goto 4, 3) := by decide +kernel
theorem d_GB_settle_11 : decode b_GB_settle 11 = .ok (.iconst 0, 1) := by decide +kernel
theorem d_GB_settle_12 : decode b_GB_settle 12 = .ok (.istore_n 1, 1) := by decide +kernel
theorem d_GB_settle_13 : decode b_GB_settle 13 = .ok (.aload_n 0, 1) := by decide +kernel
theorem d_GB_settle_14 : decode b_GB_settle 14 = .ok (.iconst 0, 1) := by decide +kernel
theorem d_GB_settle_15 : decode b_GB_settle 15 = .ok (.putfield 99, 3) := by decide +kernel
theorem d_GB_settle_18 : decode b_GB_settle 18 = .ok (.iconst 0, 1) := by decide +kernel
theorem d_GB_settle_19 : decode b_GB_settle 19 = .ok (.istore_n 2, 1) := by decide +kernel
theorem d_GB_settle_20 : decode b_GB_settle 20 = .ok (.iload_n 2, 1) := by decide +kernel
theorem d_GB_settle_21 : decode b_GB_settle 21 = .ok (.iconst 4, 1) := by decide +kernel
theorem d_GB_settle_22 : decode b_GB_settle 22 = .ok (.if_icmp .ge 39, 3) := by decide +kernel
theorem d_GB_settle_25 : decode b_GB_settle 25 = .ok (.iload_n 1, 1) := by decide +kernel
theorem d_GB_settle_26 : decode b_GB_settle 26 = .ok (.aload_n 0, 1) := by decide +kernel
theorem d_GB_settle_27 : decode b_GB_settle 27 = .ok (.getfield 11, 3) := by decide +kernel
theorem d_GB_settle_30 : decode b_GB_settle 30 = .ok (.iload_n 2, 1) := by decide +kernel
theorem d_GB_settle_31 : decode b_GB_settle 31 = .ok (.aaload, 1) := by decide +kernel
theorem d_GB_settle_32 : decode b_GB_settle 32 = .ok (.getfield 90, 3) := by decide +kernel
theorem d_GB_settle_35 : decode b_GB_settle 35 = .ok (.invokevirtual 183, 3) := by decide +kernel
theorem d_GB_settle_38 : decode b_GB_settle 38 = .ok (.iadd, 1) := by decide +kernel
theorem d_GB_settle_39 : decode b_GB_settle 39 = .ok (.istore_n 1, 1) := by decide +kernel
theorem d_GB_settle_40 : decode b_GB_settle 40 = .ok (.iload_n 1, 1) := by decide +kernel
theorem d_GB_settle_41 : decode b_GB_settle 41 = .ok (.aload_n 0, 1) := by decide +kernel
theorem d_GB_settle_42 : decode b_GB_settle 42 = .ok (.getfield 11, 3) := by decide +kernel
theorem d_GB_settle_45 : decode b_GB_settle 45 = .ok (.iload_n 2, 1) := by decide +kernel
theorem d_GB_settle_46 : decode b_GB_settle 46 = .ok (.aaload, 1) := by decide +kernel
theorem d_GB_settle_47 : decode b_GB_settle 47 = .ok (.getfield 124, 3) := by decide +kernel
theorem d_GB_settle_50 : decode b_GB_settle 50 = .ok (.invokevirtual 183, 3) := by decide +kernel
theorem d_GB_settle_53 : decode b_GB_settle 53 = .ok (.iadd, 1) := by decide +kernel
theorem d_GB_settle_54 : decode b_GB_settle 54 = .ok (.istore_n 1, 1) := by decide +kernel
theorem d_GB_settle_55 : decode b_GB_settle 55 = .ok (.iinc 2 1, 3) := by decide +kernel
theorem d_GB_settle_58 : decode b_GB_settle 58 = .ok (.goto (-38), 3) := by decide +kernel
theorem d_GB_settle_61 : decode b_GB_settle 61 = .ok (.iload_n 1, 1) := by decide +kernel
theorem d_GB_settle_62 : decode b_GB_settle 62 = .ok (.ireturn, 1) := by decide +kernel
theorem d_GB_layOut_0 : decode b_GB_layOut 0 = .ok (.aload_n 0, 1) := by decide +kernel
theorem d_GB_layOut_1 : decode b_GB_layOut 1 = .ok (.iload_n 1, 1) := by decide +kernel
theorem d_GB_layOut_2 : decode b_GB_layOut 2 = .ok (.putfield 15, 3) := by decide +kernel
theorem d_GB_layOut_5 : decode b_GB_layOut 5 = .ok (.iconst 0, 1) := by decide +kernel
theorem d_GB_layOut_6 : decode b_GB_layOut 6 = .ok (.istore_n 3, 1) := by decide +kernel
theorem d_GB_layOut_7 : decode b_GB_layOut 7 = .ok (.iload_n 3, 1) := by decide +kernel
theorem d_GB_layOut_8 : decode b_GB_layOut 8 = .ok (.aload_n 0, 1) := by decide +kernel
theorem d_GB_layOut_9 : decode b_GB_layOut 9 = .ok (.getfield 15, 3) := by decide +kernel
theorem d_GB_layOut_12 : decode b_GB_layOut 12 = .ok (.if_icmp .ge 35, 3) := by decide +kernel
theorem d_GB_layOut_15 : decode b_GB_layOut 15 = .ok (.aload_n 0, 1) := by decide +kernel
theorem d_GB_layOut_16 : decode b_GB_layOut 16 = .ok (.getfield 11, 3) := by decide +kernel
theorem d_GB_layOut_19 : decode b_GB_layOut 19 = .ok (.iload_n 3, 1) := by decide +kernel
theorem d_GB_layOut_20 : decode b_GB_layOut 20 = .ok (.aaload, 1) := by decide +kernel
theorem d_GB_layOut_21 : decode b_GB_layOut 21 = .ok (.iload_n 3, 1) := by decide +kernel
theorem d_GB_layOut_22 : decode b_GB_layOut 22 = .ok (.aload_n 0, 1) := by decide +kernel
theorem d_GB_layOut_23 : decode b_GB_layOut 23 = .ok (.getfield 15, 3) := by decide +kernel
theorem d_GB_layOut_26 : decode b_GB_layOut 26 = .ok (.iconst 1, 1) := by decide +kernel
theorem d_GB_layOut_27 : decode b_GB_layOut 27 = .ok (.isub, 1) := by decide +kernel
theorem d_GB_layOut_28 : decode b_GB_layOut 28 = .ok (.if_icmp .ne 7, 3) := by decide +kernel
theorem d_GB_layOut_31 : decode b_GB_layOut 31 = .ok (.iload_n 2, 1) := by decide +kernel
theorem d_GB_layOut_32 : decode b_GB_layOut 32 = .ok (.goto 6, 3) := by decide +kernel
theorem d_GB_layOut_35 : decode b_GB_layOut 35 = .ok (.sipush 256, 3) := by decide +kernel
theorem d_GB_layOut_38 : decode b_GB_layOut 38 = .ok (.invokevirtual 186, 3) := by decide +kernel
theorem d_GB_layOut_41 : decode b_GB_layOut 41 = .ok (.iinc 3 1, 3) := by decide +kernel
theorem d_GB_layOut_44 : decode b_GB_layOut 44 = .ok (.goto (-37), 3) := by decide +kernel
theorem d_GB_layOut_47 : decode b_GB_layOut 47 = .ok (.aload_n 0, 1) := by decide +kernel
theorem d_GB_layOut_48 : decode b_GB_layOut 48 = .ok (.iconst 0, 1) := by decide +kernel
theorem d_GB_layOut_49 : decode b_GB_layOut 49 = .ok (.putfield 41, 3) := by decide +kernel
theorem d_GB_layOut_52 : decode b_GB_layOut 52 = .ok (.aload_n 0, 1) := by decide +kernel
theorem d_GB_layOut_53 : decode b_GB_layOut 53 = .ok (.iconst 0, 1) := by decide +kernel
theorem d_GB_layOut_54 : decode b_GB_layOut 54 = .ok (.putfield 70, 3) := by decide +kernel
theorem d_GB_layOut_57 : decode b_GB_layOut 57 = .ok (.aload_n 0, 1) := by decide +kernel
theorem d_GB_layOut_58 : decode b_GB_layOut 58 = .ok (.iconst 1, 1) := by decide +kernel
theorem d_GB_layOut_59 : decode b_GB_layOut 59 = .ok (.putfield 99, 3) := by decide +kernel
theorem d_GB_layOut_62 : decode b_GB_layOut 62 = .ok (.return_, 1) := by decide +kernel
theorem d_GB_allBlocks_0 : decode b_GB_allBlocks 0 = .ok (.aload_n 0, 1) := by decide +kernel
theorem d_GB_allBlocks_1 : decode b_GB_allBlocks 1 = .ok (.getfield 15, 3) := by decide +kernel
theorem d_GB_allBlocks_4 : decode b_GB_allBlocks 4 = .ok (.iconst 1, 1) := by decide +kernel
theorem d_GB_allBlocks_5 : decode b_GB_allBlocks 5 = .ok (.isub, 1) := by decide +kernel
theorem d_GB_allBlocks_6 : decode b_GB_allBlocks 6 = .ok (.sipush 256, 3) := by decide +kernel
theorem d_GB_allBlocks_9 : decode b_GB_allBlocks 9 = .ok (.imul, 1) := by decide +kernel
theorem d_GB_allBlocks_10 : decode b_GB_allBlocks 10 = .ok (.aload_n 0, 1) := by decide +kernel
theorem d_GB_allBlocks_11 : decode b_GB_allBlocks 11 = .ok (.getfield 11, 3) := by decide +kernel
theorem d_GB_allBlocks_14 : decode b_GB_allBlocks 14 = .ok (.aload_n 0, 1) := by decide +kernel
theorem d_GB_allBlocks_15 : decode b_GB_allBlocks 15 = .ok (.getfield 15, 3) := by decide +kernel
theorem d_GB_allBlocks_18 : decode b_GB_allBlocks 18 = .ok (.iconst 1, 1) := by decide +kernel
theorem d_GB_allBlocks_19 : decode b_GB_allBlocks 19 = .ok (.isub, 1) := by decide +kernel
theorem d_GB_allBlocks_20 : decode b_GB_allBlocks 20 = .ok (.aaload, 1) := by decide +kernel
theorem d_GB_allBlocks_21 : decode b_GB_allBlocks 21 = .ok (.getfield 90, 3) := by decide +kernel
theorem d_GB_allBlocks_24 : decode b_GB_allBlocks 24 = .ok (.getfield 151, 3) := by decide +kernel
theorem d_GB_allBlocks_27 : decode b_GB_allBlocks 27 = .ok (.iadd, 1) := by decide +kernel
theorem d_GB_allBlocks_28 : decode b_GB_allBlocks 28 = .ok (.ireturn, 1) := by decide +kernel
theorem d_GB_hasBlock_0 : decode b_GB_hasBlock 0 = .ok (.iload_n 1, 1) := by decide +kernel
theorem d_GB_hasBlock_1 : decode b_GB_hasBlock 1 = .ok (.ifCond .lt 15, 3) := by decide +kernel
theorem d_GB_hasBlock_4 : decode b_GB_hasBlock 4 = .ok (.iload_n 1, 1) := by decide +kernel
theorem d_GB_hasBlock_5 : decode b_GB_hasBlock 5 = .ok (.aload_n 0, 1) := by decide +kernel
theorem d_GB_hasBlock_6 : decode b_GB_hasBlock 6 = .ok (.invokevirtual 75, 3) := by decide +kernel
theorem d_GB_hasBlock_9 : decode b_GB_hasBlock 9 = .ok (.if_icmp .ge 7, 3) := by decide +kernel
theorem d_GB_hasBlock_12 : decode b_GB_hasBlock 12 = .ok (.iconst 1, 1) := by decide +kernel
theorem d_GB_hasBlock_13 : decode b_GB_hasBlock 13 = .ok (.goto 4, 3) := by decide +kernel
theorem d_GB_hasBlock_16 : decode b_GB_hasBlock 16 = .ok (.iconst 0, 1) := by decide +kernel
theorem d_GB_hasBlock_17 : decode b_GB_hasBlock 17 = .ok (.ireturn, 1) := by decide +kernel
theorem d_GB_hasFile_0 : decode b_GB_hasFile 0 = .ok (.iload_n 1, 1) := by decide +kernel
theorem d_GB_hasFile_1 : decode b_GB_hasFile 1 = .ok (.iconst 1, 1) := by decide +kernel
theorem d_GB_hasFile_2 : decode b_GB_hasFile 2 = .ok (.if_icmp .lt 19, 3) := by decide +kernel
theorem d_GB_hasFile_5 : decode b_GB_hasFile 5 = .ok (.iload_n 1, 1) := by decide +kernel
theorem d_GB_hasFile_6 : decode b_GB_hasFile 6 = .ok (.aload_n 0, 1) := by decide +kernel
theorem d_GB_hasFile_7 : decode b_GB_hasFile 7 = .ok (.getfield 15, 3) := by decide +kernel
theorem d_GB_hasFile_10 : decode b_GB_hasFile 10 = .ok (.sipush 128, 3) := by decide +kernel
theorem d_GB_hasFile_13 : decode b_GB_hasFile 13 = .ok (.imul, 1) := by decide +kernel
theorem d_GB_hasFile_14 : decode b_GB_hasFile 14 = .ok (.if_icmp .gt 7, 3) := by decide +kernel
theorem d_GB_hasFile_17 : decode b_GB_hasFile 17 = .ok (.iconst 1, 1) := by decide +kernel
theorem d_GB_hasFile_18 : decode b_GB_hasFile 18 = .ok (.goto 4, 3) := by decide +kernel
theorem d_GB_hasFile_21 : decode b_GB_hasFile 21 = .ok (.iconst 0, 1) := by decide +kernel
theorem d_GB_hasFile_22 : decode b_GB_hasFile 22 = .ok (.ireturn, 1) := by decide +kernel
theorem d_GB_groupOfBlock_0 : decode b_GB_groupOfBlock 0 = .ok (.aload_n 0, 1) := by decide +kernel
theorem d_GB_groupOfBlock_1 : decode b_GB_groupOfBlock 1 = .ok (.getfield 11, 3) := by decide +kernel
theorem d_GB_groupOfBlock_4 : decode b_GB_groupOfBlock 4 = .ok (.iload_n 1, 1) := by decide +kernel
theorem d_GB_groupOfBlock_5 : decode b_GB_groupOfBlock 5 = .ok (.sipush 256, 3) := by decide +kernel
theorem d_GB_groupOfBlock_8 : decode b_GB_groupOfBlock 8 = .ok (.idiv, 1) := by decide +kernel
theorem d_GB_groupOfBlock_9 : decode b_GB_groupOfBlock 9 = .ok (.aaload, 1) := by decide +kernel
theorem d_GB_groupOfBlock_10 : decode b_GB_groupOfBlock 10 = .ok (.areturn, 1) := by decide +kernel
theorem d_GB_groupOfFile_0 : decode b_GB_groupOfFile 0 = .ok (.aload_n 0, 1) := by decide +kernel
theorem d_GB_groupOfFile_1 : decode b_GB_groupOfFile 1 = .ok (.getfield 11, 3) := by decide +kernel
theorem d_GB_groupOfFile_4 : decode b_GB_groupOfFile 4 = .ok (.iload_n 1, 1) := by decide +kernel
theorem d_GB_groupOfFile_5 : decode b_GB_groupOfFile 5 = .ok (.iconst 1, 1) := by decide +kernel
theorem d_GB_groupOfFile_6 : decode b_GB_groupOfFile 6 = .ok (.isub, 1) := by decide +kernel
theorem d_GB_groupOfFile_7 : decode b_GB_groupOfFile 7 = .ok (.sipush 128, 3) := by decide +kernel
theorem d_GB_groupOfFile_10 : decode b_GB_groupOfFile 10 = .ok (.idiv, 1) := by decide +kernel
theorem d_GB_groupOfFile_11 : decode b_GB_groupOfFile 11 = .ok (.aaload, 1) := by decide +kernel
theorem d_GB_groupOfFile_12 : decode b_GB_groupOfFile 12 = .ok (.areturn, 1) := by decide +kernel
theorem d_GB_groupBehind_0 : decode b_GB_groupBehind 0 = .ok (.aload_n 0, 1) := by decide +kernel
theorem d_GB_groupBehind_1 : decode b_GB_groupBehind 1 = .ok (.getfield 11, 3) := by decide +kernel
theorem d_GB_groupBehind_4 : decode b_GB_groupBehind 4 = .ok (.aload_n 1, 1) := by decide +kernel
theorem d_GB_groupBehind_5 : decode b_GB_groupBehind 5 = .ok (.getfield 148, 3) := by decide +kernel
theorem d_GB_groupBehind_8 : decode b_GB_groupBehind 8 = .ok (.sipush 256, 3) := by decide +kernel
theorem d_GB_groupBehind_11 : decode b_GB_groupBehind 11 = .ok (.idiv, 1) := by decide +kernel
theorem d_GB_groupBehind_12 : decode b_GB_groupBehind 12 = .ok (.iload_n 2, 1) := by decide +kernel
theorem d_GB_groupBehind_13 : decode b_GB_groupBehind 13 = .ok (.iadd, 1) := by decide +kernel
theorem d_GB_groupBehind_14 : decode b_GB_groupBehind 14 = .ok (.aload_n 0, 1) := by decide +kernel
theorem d_GB_groupBehind_15 : decode b_GB_groupBehind 15 = .ok (.getfield 15, 3) := by decide +kernel
theorem d_GB_groupBehind_18 : decode b_GB_groupBehind 18 = .ok (.irem, 1) := by decide +kernel
theorem d_GB_groupBehind_19 : decode b_GB_groupBehind 19 = .ok (.aaload, 1) := by decide +kernel
theorem d_GB_groupBehind_20 : decode b_GB_groupBehind 20 = .ok (.areturn, 1) := by decide +kernel
theorem d_GB_freeBlocks_0 : decode b_GB_freeBlocks 0 = .ok (.iconst 0, 1) := by decide +kernel
theorem d_GB_freeBlocks_1 : decode b_GB_freeBlocks 1 = .ok (.istore_n 1, 1) := by decide +kernel
theorem d_GB_freeBlocks_2 : decode b_GB_freeBlocks 2 = .ok (.iconst 0, 1) := by decide +kernel
theorem d_GB_freeBlocks_3 : decode b_GB_freeBlocks 3 = .ok (.istore_n 2, 1) := by decide +kernel
theorem d_GB_freeBlocks_4 : decode b_GB_freeBlocks 4 = .ok (.iload_n 2, 1) := by decide +kernel
theorem d_GB_freeBlocks_5 : decode b_GB_freeBlocks 5 = .ok (.aload_n 0, 1) := by decide +kernel
theorem d_GB_freeBlocks_6 : decode b_GB_freeBlocks 6 = .ok (.getfield 15, 3) := by decide +kernel
theorem d_GB_freeBlocks_9 : decode b_GB_freeBlocks 9 = .ok (.if_icmp .ge 24, 3) := by decide +kernel
theorem d_GB_freeBlocks_12 : decode b_GB_freeBlocks 12 = .ok (.iload_n 1, 1) := by decide +kernel
theorem d_GB_freeBlocks_13 : decode b_GB_freeBlocks 13 = .ok (.aload_n 0, 1) := by decide +kernel
theorem d_GB_freeBlocks_14 : decode b_GB_freeBlocks 14 = .ok (.getfield 11, 3) := by decide +kernel
theorem d_GB_freeBlocks_17 : decode b_GB_freeBlocks 17 = .ok (.iload_n 2, 1) := by decide +kernel
theorem d_GB_freeBlocks_18 : decode b_GB_freeBlocks 18 = .ok (.aaload, 1) := by decide +kernel
theorem d_GB_freeBlocks_19 : decode b_GB_freeBlocks 19 = .ok (.getfield 90, 3) := by decide +kernel
theorem d_GB_freeBlocks_22 : decode b_GB_freeBlocks 22 = .ok (.getfield 154, 3) := by decide +kernel
theorem d_GB_freeBlocks_25 : decode b_GB_freeBlocks 25 = .ok (.iadd, 1) := by decide +kernel
theorem d_GB_freeBlocks_26 : decode b_GB_freeBlocks 26 = .ok (.istore_n 1, 1) := by decide +kernel
theorem d_GB_freeBlocks_27 : decode b_GB_freeBlocks 27 = .ok (.iinc 2 1, 3) := by decide +kernel
theorem d_GB_freeBlocks_30 : decode b_GB_freeBlocks 30 = .ok (.goto (-26), 3) := by decide +kernel
theorem d_GB_freeBlocks_33 : decode b_GB_freeBlocks 33 = .ok (.iload_n 1, 1) := by decide +kernel
theorem d_GB_freeBlocks_34 : decode b_GB_freeBlocks 34 = .ok (.ireturn, 1) := by decide +kernel
theorem d_GB_freeFiles_0 : decode b_GB_freeFiles 0 = .ok (.iconst 0, 1) := by decide +kernel
theorem d_GB_freeFiles_1 : decode b_GB_freeFiles 1 = .ok (.istore_n 1, 1) := by decide +kernel
theorem d_GB_freeFiles_2 : decode b_GB_freeFiles 2 = .ok (.iconst 0, 1) := by decide +kernel
theorem d_GB_freeFiles_3 : decode b_GB_freeFiles 3 = .ok (.istore_n 2, 1) := by decide +kernel
theorem d_GB_freeFiles_4 : decode b_GB_freeFiles 4 = .ok (.iload_n 2, 1) := by decide +kernel
theorem d_GB_freeFiles_5 : decode b_GB_freeFiles 5 = .ok (.aload_n 0, 1) := by decide +kernel
theorem d_GB_freeFiles_6 : decode b_GB_freeFiles 6 = .ok (.getfield 15, 3) := by decide +kernel
theorem d_GB_freeFiles_9 : decode b_GB_freeFiles 9 = .ok (.if_icmp .ge 24, 3) := by decide +kernel
theorem d_GB_freeFiles_12 : decode b_GB_freeFiles 12 = .ok (.iload_n 1, 1) := by decide +kernel
theorem d_GB_freeFiles_13 : decode b_GB_freeFiles 13 = .ok (.aload_n 0, 1) := by decide +kernel
theorem d_GB_freeFiles_14 : decode b_GB_freeFiles 14 = .ok (.getfield 11, 3) := by decide +kernel
theorem d_GB_freeFiles_17 : decode b_GB_freeFiles 17 = .ok (.iload_n 2, 1) := by decide +kernel
theorem d_GB_freeFiles_18 : decode b_GB_freeFiles 18 = .ok (.aaload, 1) := by decide +kernel
theorem d_GB_freeFiles_19 : decode b_GB_freeFiles 19 = .ok (.getfield 124, 3) := by decide +kernel
theorem d_GB_freeFiles_22 : decode b_GB_freeFiles 22 = .ok (.getfield 154, 3) := by decide +kernel
theorem d_GB_freeFiles_25 : decode b_GB_freeFiles 25 = .ok (.iadd, 1) := by decide +kernel
theorem d_GB_freeFiles_26 : decode b_GB_freeFiles 26 = .ok (.istore_n 1, 1) := by decide +kernel
theorem d_GB_freeFiles_27 : decode b_GB_freeFiles 27 = .ok (.iinc 2 1, 3) := by decide +kernel
theorem d_GB_freeFiles_30 : decode b_GB_freeFiles 30 = .ok (.goto (-26), 3) := by decide +kernel
theorem d_GB_freeFiles_33 : decode b_GB_freeFiles 33 = .ok (.iload_n 1, 1) := by decide +kernel
theorem d_GB_freeFiles_34 : decode b_GB_freeFiles 34 = .ok (.ireturn, 1) := by decide +kernel
theorem d_GB_takeable_0 : decode b_GB_takeable 0 = .ok (.iload_n 1, 1) := by decide +kernel
theorem d_GB_takeable_1 : decode b_GB_takeable 1 = .ok (.ifCond .eq 10, 3) := by decide +kernel
theorem d_GB_takeable_4 : decode b_GB_takeable 4 = .ok (.aload_n 0, 1) := by decide +kernel
theorem d_GB_takeable_5 : decode b_GB_takeable 5 = .ok (.invokevirtual 35, 3) := by decide +kernel
theorem d_GB_takeable_8 : decode b_GB_takeable 8 = .ok (.goto 16, 3) := by decide +kernel
theorem d_GB_takeable_11 : decode b_GB_takeable 11 = .ok (.iconst 0, 1) := by decide +kernel
theorem d_GB_takeable_12 : decode b_GB_takeable 12 = .ok (.aload_n 0, 1) := by decide +kernel
theorem d_GB_takeable_13 : decode b_GB_takeable 13 = .ok (.invokevirtual 35, 3) := by decide +kernel
theorem d_GB_takeable_16 : decode b_GB_takeable 16 = .ok (.aload_n 0, 1) := by decide +kernel
theorem d_GB_takeable_17 : decode b_GB_takeable 17 = .ok (.getfield 41, 3) := by decide +kernel
theorem d_GB_takeable_20 : decode b_GB_takeable 20 = .ok (.isub, 1) := by decide +kernel
theorem d_GB_takeable_21 : decode b_GB_takeable 21 = .ok (.invokestatic 188, 3) := by decide +kernel
theorem d_GB_takeable_24 : decode b_GB_takeable 24 = .ok (.ireturn, 1) := by decide +kernel
theorem d_GB_takeNear_0 : decode b_GB_takeNear 0 = .ok (.aload_n 0, 1) := by decide +kernel
theorem d_GB_takeNear_1 : decode b_GB_takeNear 1 = .ok (.iload_n 1, 1) := by decide +kernel
theorem d_GB_takeNear_2 : decode b_GB_takeNear 2 = .ok (.invokevirtual 86, 3) := by decide +kernel
theorem d_GB_takeNear_5 : decode b_GB_takeNear 5 = .ok (.astore_n 3, 1) := by decide +kernel
theorem d_GB_takeNear_6 : decode b_GB_takeNear 6 = .ok (.iload_n 1, 1) := by decide +kernel
theorem d_GB_takeNear_7 : decode b_GB_takeNear 7 = .ok (.sipush 256, 3) := by decide +kernel
theorem d_GB_takeNear_10 : decode b_GB_takeNear 10 = .ok (.irem, 1) := by decide +kernel
theorem d_GB_takeNear_11 : decode b_GB_takeNear 11 = .ok (.istore 4, 2) := by decide +kernel
theorem d_GB_takeNear_13 : decode b_GB_takeNear 13 = .ok (.aload_n 3, 1) := by decide +kernel
theorem d_GB_takeNear_14 : decode b_GB_takeNear 14 = .ok (.getfield 90, 3) := by decide +kernel
theorem d_GB_takeNear_17 : decode b_GB_takeNear 17 = .ok (.iload 4, 2) := by decide +kernel
theorem d_GB_takeNear_19 : decode b_GB_takeNear 19 = .ok (.iload_n 2, 1) := by decide +kernel
theorem d_GB_takeNear_20 : decode b_GB_takeNear 20 = .ok (.invokevirtual 191, 3) := by decide +kernel
theorem d_GB_takeNear_23 : decode b_GB_takeNear 23 = .ok (.ifCond .eq 12, 3) := by decide +kernel
theorem d_GB_takeNear_26 : decode b_GB_takeNear 26 = .ok (.aload_n 0, 1) := by decide +kernel
theorem d_GB_takeNear_27 : decode b_GB_takeNear 27 = .ok (.aload_n 3, 1) := by decide +kernel
theorem d_GB_takeNear_28 : decode b_GB_takeNear 28 = .ok (.iload 4, 2) := by decide +kernel
theorem d_GB_takeNear_30 : decode b_GB_takeNear 30 = .ok (.iload_n 2, 1) := by decide +kernel
theorem d_GB_takeNear_31 : decode b_GB_takeNear 31 = .ok (.invokevirtual 194, 3) := by decide +kernel
theorem d_GB_takeNear_34 : decode b_GB_takeNear 34 = .ok (.ireturn, 1) := by decide +kernel
theorem d_GB_takeNear_35 : decode b_GB_takeNear 35 = .ok (.iconst 0, 1) := by decide +kernel
theorem d_GB_takeNear_36 : decode b_GB_takeNear 36 = .ok (.istore 5, 2) := by decide +kernel
theorem d_GB_takeNear_38 : decode b_GB_takeNear 38 = .ok (.iload 5, 2) := by decide +kernel
theorem d_GB_takeNear_40 : decode b_GB_takeNear 40 = .ok (.aload_n 0, 1) := by decide +kernel
theorem d_GB_takeNear_41 : decode b_GB_takeNear 41 = .ok (.getfield 15, 3) := by decide +kernel
theorem d_GB_takeNear_44 : decode b_GB_takeNear 44 = .ok (.if_icmp .ge 44, 3) := by decide +kernel
theorem d_GB_takeNear_47 : decode b_GB_takeNear 47 = .ok (.aload_n 0, 1) := by decide +kernel
theorem d_GB_takeNear_48 : decode b_GB_takeNear 48 = .ok (.aload_n 3, 1) := by decide +kernel
theorem d_GB_takeNear_49 : decode b_GB_takeNear 49 = .ok (.iload 5, 2) := by decide +kernel
theorem d_GB_takeNear_51 : decode b_GB_takeNear 51 = .ok (.invokevirtual 198, 3) := by decide +kernel
theorem d_GB_takeNear_54 : decode b_GB_takeNear 54 = .ok (.astore 6, 2) := by decide +kernel
theorem d_GB_takeNear_56 : decode b_GB_takeNear 56 = .ok (.aload 6, 2) := by decide +kernel
theorem d_GB_takeNear_58 : decode b_GB_takeNear 58 = .ok (.getfield 90, 3) := by decide +kernel
theorem d_GB_takeNear_61 : decode b_GB_takeNear 61 = .ok (.iload_n 2, 1) := by decide +kernel
theorem d_GB_takeNear_62 : decode b_GB_takeNear 62 = .ok (.invokevirtual 202, 3) := by decide +kernel
theorem d_GB_takeNear_65 : decode b_GB_takeNear 65 = .ok (.istore 7, 2) := by decide +kernel
theorem d_GB_takeNear_67 : decode b_GB_takeNear 67 = .ok (.iload 7, 2) := by decide +kernel
theorem d_GB_takeNear_69 : decode b_GB_takeNear 69 = .ok (.ifCond .lt 13, 3) := by decide +kernel
theorem d_GB_takeNear_72 : decode b_GB_takeNear 72 = .ok (.aload_n 0, 1) := by decide +kernel
theorem d_GB_takeNear_73 : decode b_GB_takeNear 73 = .ok (.aload 6, 2) := by decide +kernel
theorem d_GB_takeNear_75 : decode b_GB_takeNear 75 = .ok (.iload 7, 2) := by decide +kernel
theorem d_GB_takeNear_77 : decode b_GB_takeNear 77 = .ok (.iload_n 2, 1) := by decide +kernel
theorem d_GB_takeNear_78 : decode b_GB_takeNear 78 = .ok (.invokevirtual 194, 3) := by decide +kernel
theorem d_GB_takeNear_81 : decode b_GB_takeNear 81 = .ok (.ireturn, 1) := by decide +kernel
theorem d_GB_takeNear_82 : decode b_GB_takeNear 82 = .ok (.iinc 5 1, 3) := by decide +kernel
theorem d_GB_takeNear_85 : decode b_GB_takeNear 85 = .ok (.goto (-47), 3) := by decide +kernel
theorem d_GB_takeNear_88 : decode b_GB_takeNear 88 = .ok (.aload_n 0, 1) := by decide +kernel
theorem d_GB_takeNear_89 : decode b_GB_takeNear 89 = .ok (.aload_n 3, 1) := by decide +kernel
theorem d_GB_takeNear_90 : decode b_GB_takeNear 90 = .ok (.invokevirtual 205, 3) := by decide +kernel
theorem d_GB_takeNear_93 : decode b_GB_takeNear 93 = .ok (.ireturn, 1) := by decide +kernel
theorem d_GB_takeLongestRun_0 : decode b_GB_takeLongestRun 0 = .ok (.aload_n 1, 1) := by decide +kernel
theorem d_GB_takeLongestRun_1 : decode b_GB_takeLongestRun 1 = .ok (.astore_n 2, 1) := by decide +kernel
theorem d_GB_takeLongestRun_2 : decode b_GB_takeLongestRun 2 = .ok (.aload_n 1, 1) := by decide +kernel
theorem d_GB_takeLongestRun_3 : decode b_GB_takeLongestRun 3 = .ok (.getfield 90, 3) := by decide +kernel
theorem d_GB_takeLongestRun_6 : decode b_GB_takeLongestRun 6 = .ok (.invokevirtual 157, 3) := by decide +kernel
theorem d_GB_takeLongestRun_9 : decode b_GB_takeLongestRun 9 = .ok (.istore_n 3, 1) := by decide +kernel
theorem d_GB_takeLongestRun_10 : decode b_GB_takeLongestRun 10 = .ok (.iconst 1, 1) := by decide +kernel
theorem d_GB_takeLongestRun_11 : decode b_GB_takeLongestRun 11 = .ok (.istore 4, 2) := by decide +kernel
theorem d_GB_takeLongestRun_13 : decode b_GB_takeLongestRun 13 = .ok (.iload 4, 2) := by decide +kernel
theorem d_GB_takeLongestRun_15 : decode b_GB_takeLongestRun 15 = .ok (.aload_n 0, 1) := by decide +kernel
theorem d_GB_takeLongestRun_16 : decode b_GB_takeLongestRun 16 = .ok (.getfield 15, 3) := by decide +kernel
theorem d_GB_takeLongestRun_19 : decode b_GB_takeLongestRun 19 = .ok (.if_icmp .ge 40, 3) := by decide +kernel
theorem d_GB_takeLongestRun_22 : decode b_GB_takeLongestRun 22 = .ok (.aload_n 0, 1) := by decide +kernel
theorem d_GB_takeLongestRun_23 : decode b_GB_takeLongestRun 23 = .ok (.aload_n 1, 1) := by decide +kernel
theorem d_GB_takeLongestRun_24 : decode b_GB_takeLongestRun 24 = .ok (.iload 4, 2) := by decide +kernel
theorem d_GB_takeLongestRun_26 : decode b_GB_takeLongestRun 26 = .ok (.invokevirtual 198, 3) := by decide +kernel
theorem d_GB_takeLongestRun_29 : decode b_GB_takeLongestRun 29 = .ok (.astore 5, 2) := by decide +kernel
theorem d_GB_takeLongestRun_31 : decode b_GB_takeLongestRun 31 = .ok (.aload 5, 2) := by decide +kernel
theorem d_GB_takeLongestRun_33 : decode b_GB_takeLongestRun 33 = .ok (.getfield 90, 3) := by decide +kernel
theorem d_GB_takeLongestRun_36 : decode b_GB_takeLongestRun 36 = .ok (.invokevirtual 157, 3) := by decide +kernel
theorem d_GB_takeLongestRun_39 : decode b_GB_takeLongestRun 39 = .ok (.istore 6, 2) := by decide +kernel
theorem d_GB_takeLongestRun_41 : decode b_GB_takeLongestRun 41 = .ok (.iload 6, 2) := by decide +kernel
theorem d_GB_takeLongestRun_43 : decode b_GB_takeLongestRun 43 = .ok (.iload_n 3, 1) := by decide +kernel
theorem d_GB_takeLongestRun_44 : decode b_GB_takeLongestRun 44 = .ok (.if_icmp .le 9, 3) := by decide +kernel
theorem d_GB_takeLongestRun_47 : decode b_GB_takeLongestRun 47 = .ok (.iload 6, 2) := by decide +kernel
theorem d_GB_takeLongestRun_49 : decode b_GB_takeLongestRun 49 = .ok (.istore_n 3, 1) := by decide +kernel
theorem d_GB_takeLongestRun_50 : decode b_GB_takeLongestRun 50 = .ok (.aload 5, 2) := by decide +kernel
theorem d_GB_takeLongestRun_52 : decode b_GB_takeLongestRun 52 = .ok (.astore_n 2, 1) := by decide +kernel
theorem d_GB_takeLongestRun_53 : decode b_GB_takeLongestRun 53 = .ok (.iinc 4 1, 3) := by decide +kernel
theorem d_GB_takeLongestRun_56 : decode b_GB_takeLongestRun 56 = .ok (.goto (-43), 3) := by decide +kernel
theorem d_GB_takeLongestRun_59 : decode b_GB_takeLongestRun 59 = .ok (.aload_n 0, 1) := by decide +kernel
theorem d_GB_takeLongestRun_60 : decode b_GB_takeLongestRun 60 = .ok (.aload_n 2, 1) := by decide +kernel
theorem d_GB_takeLongestRun_61 : decode b_GB_takeLongestRun 61 = .ok (.aload_n 2, 1) := by decide +kernel
theorem d_GB_takeLongestRun_62 : decode b_GB_takeLongestRun 62 = .ok (.getfield 90, 3) := by decide +kernel
theorem d_GB_takeLongestRun_65 : decode b_GB_takeLongestRun 65 = .ok (.iload_n 3, 1) := by decide +kernel
theorem d_GB_takeLongestRun_66 : decode b_GB_takeLongestRun 66 = .ok (.invokevirtual 202, 3) := by decide +kernel
theorem d_GB_takeLongestRun_69 : decode b_GB_takeLongestRun 69 = .ok (.iload_n 3, 1) := by decide +kernel
theorem d_GB_takeLongestRun_70 : decode b_GB_takeLongestRun 70 = .ok (.invokevirtual 194, 3) := by decide +kernel
theorem d_GB_takeLongestRun_73 : decode b_GB_takeLongestRun 73 = .ok (.ireturn, 1) := by decide +kernel
theorem d_GB_takeRun_0 : decode b_GB_takeRun 0 = .ok (.iload_n 2, 1) := by decide +kernel
theorem d_GB_takeRun_1 : decode b_GB_takeRun 1 = .ok (.istore 4, 2) := by decide +kernel
theorem d_GB_takeRun_3 : decode b_GB_takeRun 3 = .ok (.iload 4, 2) := by decide +kernel
theorem d_GB_takeRun_5 : decode b_GB_takeRun 5 = .ok (.iload_n 2, 1) := by decide +kernel
theorem d_GB_takeRun_6 : decode b_GB_takeRun 6 = .ok (.iload_n 3, 1) := by decide +kernel
theorem d_GB_takeRun_7 : decode b_GB_takeRun 7 = .ok (.iadd, 1) := by decide +kernel
theorem d_GB_takeRun_8 : decode b_GB_takeRun 8 = .ok (.if_icmp .ge 18, 3) := by decide +kernel
theorem d_GB_takeRun_11 : decode b_GB_takeRun 11 = .ok (.aload_n 1, 1) := by decide +kernel
theorem d_GB_takeRun_12 : decode b_GB_takeRun 12 = .ok (.getfield 90, 3) := by decide +kernel
theorem d_GB_takeRun_15 : decode b_GB_takeRun 15 = .ok (.iload 4, 2) := by decide +kernel
theorem d_GB_takeRun_17 : decode b_GB_takeRun 17 = .ok (.invokevirtual 209, 3) := by decide +kernel
theorem d_GB_takeRun_20 : decode b_GB_takeRun 20 = .ok (.iinc 4 1, 3) := by decide +kernel
theorem d_GB_takeRun_23 : decode b_GB_takeRun 23 = .ok (.goto (-20), 3) := by decide +kernel
theorem d_GB_takeRun_26 : decode b_GB_takeRun 26 = .ok (.aload_n 0, 1) := by decide +kernel
theorem d_GB_takeRun_27 : decode b_GB_takeRun 27 = .ok (.iload_n 3, 1) := by decide +kernel
theorem d_GB_takeRun_28 : decode b_GB_takeRun 28 = .ok (.putfield 70, 3) := by decide +kernel
theorem d_GB_takeRun_31 : decode b_GB_takeRun 31 = .ok (.aload_n 0, 1) := by decide +kernel
theorem d_GB_takeRun_32 : decode b_GB_takeRun 32 = .ok (.iconst 1, 1) := by decide +kernel
theorem d_GB_takeRun_33 : decode b_GB_takeRun 33 = .ok (.putfield 99, 3) := by decide +kernel
theorem d_GB_takeRun_36 : decode b_GB_takeRun 36 = .ok (.aload_n 1, 1) := by decide +kernel
theorem d_GB_takeRun_37 : decode b_GB_takeRun 37 = .ok (.getfield 148, 3) := by decide +kernel
theorem d_GB_takeRun_40 : decode b_GB_takeRun 40 = .ok (.iload_n 2, 1) := by decide +kernel
theorem d_GB_takeRun_41 : decode b_GB_takeRun 41 = .ok (.iadd, 1) := by decide +kernel
theorem d_GB_takeRun_42 : decode b_GB_takeRun 42 = .ok (.ireturn, 1) := by decide +kernel
theorem d_GB_areGivable_0 : decode b_GB_areGivable 0 = .ok (.iload_n 1, 1) := by decide +kernel
theorem d_GB_areGivable_1 : decode b_GB_areGivable 1 = .ok (.istore_n 3, 1) := by decide +kernel
theorem d_GB_areGivable_2 : decode b_GB_areGivable 2 = .ok (.iload_n 3, 1) := by decide +kernel
theorem d_GB_areGivable_3 : decode b_GB_areGivable 3 = .ok (.iload_n 1, 1) := by decide +kernel
theorem d_GB_areGivable_4 : decode b_GB_areGivable 4 = .ok (.iload_n 2, 1) := by decide +kernel
theorem d_GB_areGivable_5 : decode b_GB_areGivable 5 = .ok (.iadd, 1) := by decide +kernel
theorem d_GB_areGivable_6 : decode b_GB_areGivable 6 = .ok (.if_icmp .ge 48, 3) := by decide +kernel
theorem d_GB_areGivable_9 : decode b_GB_areGivable 9 = .ok (.aload_n 0, 1) := by decide +kernel
theorem d_GB_areGivable_10 : decode b_GB_areGivable 10 = .ok (.iload_n 3, 1) := by decide +kernel
theorem d_GB_areGivable_11 : decode b_GB_areGivable 11 = .ok (.invokevirtual 86, 3) := by decide +kernel
theorem d_GB_areGivable_14 : decode b_GB_areGivable 14 = .ok (.astore 4, 2) := by decide +kernel
theorem d_GB_areGivable_16 : decode b_GB_areGivable 16 = .ok (.iload_n 3, 1) := by decide +kernel
theorem d_GB_areGivable_17 : decode b_GB_areGivable 17 = .ok (.sipush 256, 3) := by decide +kernel
theorem d_GB_areGivable_20 : decode b_GB_areGivable 20 = .ok (.irem, 1) := by decide +kernel
theorem d_GB_areGivable_21 : decode b_GB_areGivable 21 = .ok (.istore 5, 2) := by decide +kernel
theorem d_GB_areGivable_23 : decode b_GB_areGivable 23 = .ok (.iload 5, 2) := by decide +kernel
theorem d_GB_areGivable_25 : decode b_GB_areGivable 25 = .ok (.aload 4, 2) := by decide +kernel
theorem d_GB_areGivable_27 : decode b_GB_areGivable 27 = .ok (.getfield 212, 3) := by decide +kernel
theorem d_GB_areGivable_30 : decode b_GB_areGivable 30 = .ok (.if_icmp .lt 16, 3) := by decide +kernel
theorem d_GB_areGivable_33 : decode b_GB_areGivable 33 = .ok (.aload 4, 2) := by decide +kernel
theorem d_GB_areGivable_35 : decode b_GB_areGivable 35 = .ok (.getfield 90, 3) := by decide +kernel
theorem d_GB_areGivable_38 : decode b_GB_areGivable 38 = .ok (.iload 5, 2) := by decide +kernel
theorem d_GB_areGivable_40 : decode b_GB_areGivable 40 = .ok (.invokevirtual 127, 3) := by decide +kernel
theorem d_GB_areGivable_43 : decode b_GB_areGivable 43 = .ok (.ifCond .ne 5, 3) := by decide +kernel
theorem d_GB_areGivable_46 : decode b_GB_areGivable 46 = .ok (.iconst 0, 1) := by decide +kernel
theorem d_GB_areGivable_47 : decode b_GB_areGivable 47 = .ok (.ireturn, 1) := by decide +kernel
theorem d_GB_areGivable_48 : decode b_GB_areGivable 48 = .ok (.iinc 3 1, 3) := by decide +kernel
theorem d_GB_areGivable_51 : decode b_GB_areGivable 51 = .ok (.goto (-49), 3) := by decide +kernel
theorem d_GB_areGivable_54 : decode b_GB_areGivable 54 = .ok (.iconst 1, 1) := by decide +kernel
theorem d_GB_areGivable_55 : decode b_GB_areGivable 55 = .ok (.ireturn, 1) := by decide +kernel
theorem d_GB_groupForPlain_0 : decode b_GB_groupForPlain 0 = .ok (.aload_n 0, 1) := by decide +kernel
theorem d_GB_groupForPlain_1 : decode b_GB_groupForPlain 1 = .ok (.iload_n 1, 1) := by decide +kernel
theorem d_GB_groupForPlain_2 : decode b_GB_groupForPlain 2 = .ok (.invokevirtual 121, 3) := by decide +kernel
theorem d_GB_groupForPlain_5 : decode b_GB_groupForPlain 5 = .ok (.astore_n 2, 1) := by decide +kernel
theorem d_GB_groupForPlain_6 : decode b_GB_groupForPlain 6 = .ok (.getstatic 215, 3) := by decide +kernel
theorem d_GB_groupForPlain_9 : decode b_GB_groupForPlain 9 = .ok (.astore_n 3, 1) := by decide +kernel
theorem d_GB_groupForPlain_10 : decode b_GB_groupForPlain 10 = .ok (.aload_n 3, 1) := by decide +kernel
theorem d_GB_groupForPlain_11 : decode b_GB_groupForPlain 11 = .ok (.arraylength, 1) := by decide +kernel
theorem d_GB_groupForPlain_12 : decode b_GB_groupForPlain 12 = .ok (.istore 4, 2) := by decide +kernel
theorem d_GB_groupForPlain_14 : decode b_GB_groupForPlain 14 = .ok (.iconst 0, 1) := by decide +kernel
theorem d_GB_groupForPlain_15 : decode b_GB_groupForPlain 15 = .ok (.istore 5, 2) := by decide +kernel
theorem d_GB_groupForPlain_17 : decode b_GB_groupForPlain 17 = .ok (.iload 5, 2) := by decide +kernel
theorem d_GB_groupForPlain_19 : decode b_GB_groupForPlain 19 = .ok (.iload 4, 2) := by decide +kernel
theorem d_GB_groupForPlain_21 : decode b_GB_groupForPlain 21 = .ok (.if_icmp .ge 35, 3) := by decide +kernel
theorem d_GB_groupForPlain_24 : decode b_GB_groupForPlain 24 = .ok (.aload_n 3, 1) := by decide +kernel
theorem d_GB_groupForPlain_25 : decode b_GB_groupForPlain 25 = .ok (.iload 5, 2) := by decide +kernel
theorem d_GB_groupForPlain_27 : decode b_GB_groupForPlain 27 = .ok (.iaload, 1) := by decide +kernel
theorem d_GB_groupForPlain_28 : decode b_GB_groupForPlain 28 = .ok (.istore 6, 2) := by decide +kernel
theorem d_GB_groupForPlain_30 : decode b_GB_groupForPlain 30 = .ok (.aload_n 0, 1) := by decide +kernel
theorem d_GB_groupForPlain_31 : decode b_GB_groupForPlain 31 = .ok (.aload_n 2, 1) := by decide +kernel
theorem d_GB_groupForPlain_32 : decode b_GB_groupForPlain 32 = .ok (.iload 6, 2) := by decide +kernel
theorem d_GB_groupForPlain_34 : decode b_GB_groupForPlain 34 = .ok (.invokevirtual 198, 3) := by decide +kernel
theorem d_GB_groupForPlain_37 : decode b_GB_groupForPlain 37 = .ok (.astore 7, 2) := by decide +kernel
theorem d_GB_groupForPlain_39 : decode b_GB_groupForPlain 39 = .ok (.aload 7, 2) := by decide +kernel
theorem d_GB_groupForPlain_41 : decode b_GB_groupForPlain 41 = .ok (.invokevirtual 219, 3) := by decide +kernel
theorem d_GB_groupForPlain_44 : decode b_GB_groupForPlain 44 = .ok (.ifCond .eq 6, 3) := by decide +kernel
theorem d_GB_groupForPlain_47 : decode b_GB_groupForPlain 47 = .ok (.aload 7, 2) := by decide +kernel
theorem d_GB_groupForPlain_49 : decode b_GB_groupForPlain 49 = .ok (.areturn, 1) := by decide +kernel
theorem d_GB_groupForPlain_50 : decode b_GB_groupForPlain 50 = .ok (.iinc 5 1, 3) := by decide +kernel
theorem d_GB_groupForPlain_53 : decode b_GB_groupForPlain 53 = .ok (.goto (-36), 3) := by decide +kernel
theorem d_GB_groupForPlain_56 : decode b_GB_groupForPlain 56 = .ok (.aload_n 0, 1) := by decide +kernel
theorem d_GB_groupForPlain_57 : decode b_GB_groupForPlain 57 = .ok (.aload_n 2, 1) := by decide +kernel
theorem d_GB_groupForPlain_58 : decode b_GB_groupForPlain 58 = .ok (.invokevirtual 223, 3) := by decide +kernel
theorem d_GB_groupForPlain_61 : decode b_GB_groupForPlain 61 = .ok (.areturn, 1) := by decide +kernel
theorem d_GB_groupForFolder_0 : decode b_GB_groupForFolder 0 = .ok (.aload_n 0, 1) := by decide +kernel
theorem d_GB_groupForFolder_1 : decode b_GB_groupForFolder 1 = .ok (.iload_n 1, 1) := by decide +kernel
theorem d_GB_groupForFolder_2 : decode b_GB_groupForFolder 2 = .ok (.invokevirtual 121, 3) := by decide +kernel
theorem d_GB_groupForFolder_5 : decode b_GB_groupForFolder 5 = .ok (.astore_n 2, 1) := by decide +kernel
theorem d_GB_groupForFolder_6 : decode b_GB_groupForFolder 6 = .ok (.iload_n 1, 1) := by decide +kernel
theorem d_GB_groupForFolder_7 : decode b_GB_groupForFolder 7 = .ok (.iconst 2, 1) := by decide +kernel
theorem d_GB_groupForFolder_8 : decode b_GB_groupForFolder 8 = .ok (.if_icmp .ne 11, 3) := by decide +kernel
theorem d_GB_groupForFolder_11 : decode b_GB_groupForFolder 11 = .ok (.aload_n 0, 1) := by decide +kernel
theorem d_GB_groupForFolder_12 : decode b_GB_groupForFolder 12 = .ok (.aload_n 2, 1) := by decide +kernel
theorem d_GB_groupForFolder_13 : decode b_GB_groupForFolder 13 = .ok (.invokevirtual 227, 3) := by decide +kernel
theorem d_GB_groupForFolder_16 : decode b_GB_groupForFolder 16 = .ok (.goto 4, 3) := by decide +kernel
theorem d_GB_groupForFolder_19 : decode b_GB_groupForFolder 19 = .ok (.aconst_null, 1) := by decide +kernel
theorem d_GB_groupForFolder_20 : decode b_GB_groupForFolder 20 = .ok (.astore_n 3, 1) := by decide +kernel
theorem d_GB_groupForFolder_21 : decode b_GB_groupForFolder 21 = .ok (.aload_n 3, 1) := by decide +kernel
theorem d_GB_groupForFolder_22 : decode b_GB_groupForFolder 22 = .ok (.ifnonnull 9, 3) := by decide +kernel
theorem d_GB_groupForFolder_25 : decode b_GB_groupForFolder 25 = .ok (.aload_n 0, 1) := by decide +kernel
theorem d_GB_groupForFolder_26 : decode b_GB_groupForFolder 26 = .ok (.aload_n 2, 1) := by decide +kernel
theorem d_GB_groupForFolder_27 : decode b_GB_groupForFolder 27 = .ok (.invokevirtual 230, 3) := by decide +kernel
theorem d_GB_groupForFolder_30 : decode b_GB_groupForFolder 30 = .ok (.astore_n 3, 1) := by decide +kernel
theorem d_GB_groupForFolder_31 : decode b_GB_groupForFolder 31 = .ok (.aload_n 3, 1) := by decide +kernel
theorem d_GB_groupForFolder_32 : decode b_GB_groupForFolder 32 = .ok (.ifnonnull 11, 3) := by decide +kernel
theorem d_GB_groupForFolder_35 : decode b_GB_groupForFolder 35 = .ok (.aload_n 0, 1) := by decide +kernel
theorem d_GB_groupForFolder_36 : decode b_GB_groupForFolder 36 = .ok (.aload_n 2, 1) := by decide +kernel
theorem d_GB_groupForFolder_37 : decode b_GB_groupForFolder 37 = .ok (.invokevirtual 223, 3) := by decide +kernel
theorem d_GB_groupForFolder_40 : decode b_GB_groupForFolder 40 = .ok (.goto 4, 3) := by decide +kernel
theorem d_GB_groupForFolder_43 : decode b_GB_groupForFolder 43 = .ok (.aload_n 3, 1) := by decide +kernel
theorem d_GB_groupForFolder_44 : decode b_GB_groupForFolder 44 = .ok (.areturn, 1) := by decide +kernel
theorem d_GB_leastFolders_0 : decode b_GB_leastFolders 0 = .ok (.iconst 1, 1) := by decide +kernel
theorem d_GB_leastFolders_1 : decode b_GB_leastFolders 1 = .ok (.aload_n 0, 1) := by decide +kernel
theorem d_GB_leastFolders_2 : decode b_GB_leastFolders 2 = .ok (.invokevirtual 141, 3) := by decide +kernel
theorem d_GB_leastFolders_5 : decode b_GB_leastFolders 5 = .ok (.aload_n 0, 1) := by decide +kernel
theorem d_GB_leastFolders_6 : decode b_GB_leastFolders 6 = .ok (.getfield 15, 3) := by decide +kernel
theorem d_GB_leastFolders_9 : decode b_GB_leastFolders 9 = .ok (.idiv, 1) := by decide +kernel
theorem d_GB_leastFolders_10 : decode b_GB_leastFolders 10 = .ok (.invokestatic 188, 3) := by decide +kernel
theorem d_GB_leastFolders_13 : decode b_GB_leastFolders 13 = .ok (.istore_n 2, 1) := by decide +kernel
theorem d_GB_leastFolders_14 : decode b_GB_leastFolders 14 = .ok (.aload_n 0, 1) := by decide +kernel
theorem d_GB_leastFolders_15 : decode b_GB_leastFolders 15 = .ok (.invokevirtual 35, 3) := by decide +kernel
theorem d_GB_leastFolders_18 : decode b_GB_leastFolders 18 = .ok (.aload_n 0, 1) := by decide +kernel
theorem d_GB_leastFolders_19 : decode b_GB_leastFolders 19 = .ok (.getfield 15, 3) := by decide +kernel
theorem d_GB_leastFolders_22 : decode b_GB_leastFolders 22 = .ok (.idiv, 1) := by decide +kernel
theorem d_GB_leastFolders_23 : decode b_GB_leastFolders 23 = .ok (.istore_n 3, 1) := by decide +kernel
theorem d_GB_leastFolders_24 : decode b_GB_leastFolders 24 = .ok (.aconst_null, 1) := by decide +kernel
theorem d_GB_leastFolders_25 : decode b_GB_leastFolders 25 = .ok (.astore 4, 2) := by decide +kernel
theorem d_GB_leastFolders_27 : decode b_GB_leastFolders 27 = .ok (.iconst 0, 1) := by decide +kernel
theorem d_GB_leastFolders_28 : decode b_GB_leastFolders 28 = .ok (.istore 5, 2) := by decide +kernel
theorem d_GB_leastFolders_30 : decode b_GB_leastFolders 30 = .ok (.iload 5, 2) := by decide +kernel
theorem d_GB_leastFolders_32 : decode b_GB_leastFolders 32 = .ok (.aload_n 0, 1) := by decide +kernel
theorem d_GB_leastFolders_33 : decode b_GB_leastFolders 33 = .ok (.getfield 15, 3) := by decide +kernel
theorem d_GB_leastFolders_36 : decode b_GB_leastFolders 36 = .ok (.if_icmp .ge 76, 3) := by decide +kernel
theorem d_GB_leastFolders_39 : decode b_GB_leastFolders 39 = .ok (.aload_n 0, 1) := by decide +kernel
theorem d_GB_leastFolders_40 : decode b_GB_leastFolders 40 = .ok (.aload_n 1, 1) := by decide +kernel
theorem d_GB_leastFolders_41 : decode b_GB_leastFolders 41 = .ok (.iload 5, 2) := by decide +kernel
theorem d_GB_leastFolders_43 : decode b_GB_leastFolders 43 = .ok (.invokevirtual 198, 3) := by decide +kernel
theorem d_GB_leastFolders_46 : decode b_GB_leastFolders 46 = .ok (.astore 6, 2) := by decide +kernel
theorem d_GB_leastFolders_48 : decode b_GB_leastFolders 48 = .ok (.aload 6, 2) := by decide +kernel
theorem d_GB_leastFolders_50 : decode b_GB_leastFolders 50 = .ok (.getfield 124, 3) := by decide +kernel
theorem d_GB_leastFolders_53 : decode b_GB_leastFolders 53 = .ok (.getfield 154, 3) := by decide +kernel
theorem d_GB_leastFolders_56 : decode b_GB_leastFolders 56 = .ok (.iload_n 2, 1) := by decide +kernel
theorem d_GB_leastFolders_57 : decode b_GB_leastFolders 57 = .ok (.if_icmp .lt 19, 3) := by decide +kernel
theorem d_GB_leastFolders_60 : decode b_GB_leastFolders 60 = .ok (.aload 6, 2) := by decide +kernel
theorem d_GB_leastFolders_62 : decode b_GB_leastFolders 62 = .ok (.getfield 90, 3) := by decide +kernel
theorem d_GB_leastFolders_65 : decode b_GB_leastFolders 65 = .ok (.getfield 154, 3) := by decide +kernel
theorem d_GB_leastFolders_68 : decode b_GB_leastFolders 68 = .ok (.iload_n 3, 1) := by decide +kernel
theorem d_GB_leastFolders_69 : decode b_GB_leastFolders 69 = .ok (.if_icmp .lt 7, 3) := by decide +kernel
theorem d_GB_leastFolders_72 : decode b_GB_leastFolders 72 = .ok (.iconst 1, 1) := by decide +kernel
theorem d_GB_leastFolders_73 : decode b_GB_leastFolders 73 = .ok (.goto 4, 3) := by decide +kernel
theorem d_GB_leastFolders_76 : decode b_GB_leastFolders 76 = .ok (.iconst 0, 1) := by decide +kernel
theorem d_GB_leastFolders_77 : decode b_GB_leastFolders 77 = .ok (.istore 7, 2) := by decide +kernel
theorem d_GB_leastFolders_79 : decode b_GB_leastFolders 79 = .ok (.iload 7, 2) := by decide +kernel
theorem d_GB_leastFolders_81 : decode b_GB_leastFolders 81 = .ok (.ifCond .eq 25, 3) := by decide +kernel
theorem d_GB_leastFolders_84 : decode b_GB_leastFolders 84 = .ok (.aload 4, 2) := by decide +kernel
theorem d_GB_leastFolders_86 : decode b_GB_leastFolders 86 = .ok (.ifnull 16, 3) := by decide +kernel
theorem d_GB_leastFolders_89 : decode b_GB_leastFolders 89 = .ok (.aload 6, 2) := by decide +kernel
theorem d_GB_leastFolders_91 : decode b_GB_leastFolders 91 = .ok (.getfield 132, 3) := by decide +kernel
theorem d_GB_leastFolders_94 : decode b_GB_leastFolders 94 = .ok (.aload 4, 2) := by decide +kernel
theorem d_GB_leastFolders_96 : decode b_GB_leastFolders 96 = .ok (.getfield 132, 3) := by decide +kernel
theorem d_GB_leastFolders_99 : decode b_GB_leastFolders 99 = .ok (.if_icmp .ge 7, 3) := by decide +kernel
theorem d_GB_leastFolders_102 : decode b_GB_leastFolders 102 = .ok (.aload 6, 2) := by decide +kernel
theorem d_GB_leastFolders_104 : decode b_GB_leastFolders 104 = .ok (.astore 4, 2) := by decide +kernel
theorem d_GB_leastFolders_106 : decode b_GB_leastFolders 106 = .ok (.iinc 5 1, 3) := by decide +kernel
theorem d_GB_leastFolders_109 : decode b_GB_leastFolders 109 = .ok (.goto (-79), 3) := by decide +kernel
theorem d_GB_leastFolders_112 : decode b_GB_leastFolders 112 = .ok (.aload 4, 2) := by decide +kernel
theorem d_GB_leastFolders_114 : decode b_GB_leastFolders 114 = .ok (.areturn, 1) := by decide +kernel
theorem d_GB_firstWithRoom_0 : decode b_GB_firstWithRoom 0 = .ok (.aload_n 0, 1) := by decide +kernel
theorem d_GB_firstWithRoom_1 : decode b_GB_firstWithRoom 1 = .ok (.invokevirtual 141, 3) := by decide +kernel
theorem d_GB_firstWithRoom_4 : decode b_GB_firstWithRoom 4 = .ok (.aload_n 0, 1) := by decide +kernel
theorem d_GB_firstWithRoom_5 : decode b_GB_firstWithRoom 5 = .ok (.getfield 15, 3) := by decide +kernel
theorem d_GB_firstWithRoom_8 : decode b_GB_firstWithRoom 8 = .ok (.idiv, 1) := by decide +kernel
theorem d_GB_firstWithRoom_9 : decode b_GB_firstWithRoom 9 = .ok (.iconst 2, 1) := by decide +kernel
theorem d_GB_firstWithRoom_10 : decode b_GB_firstWithRoom 10 = .ok (.idiv, 1) := by decide +kernel
theorem d_GB_firstWithRoom_11 : decode b_GB_firstWithRoom 11 = .ok (.istore_n 2, 1) := by decide +kernel
theorem d_GB_firstWithRoom_12 : decode b_GB_firstWithRoom 12 = .ok (.iconst 0, 1) := by decide +kernel
theorem d_GB_firstWithRoom_13 : decode b_GB_firstWithRoom 13 = .ok (.istore_n 3, 1) := by decide +kernel
theorem d_GB_firstWithRoom_14 : decode b_GB_firstWithRoom 14 = .ok (.iload_n 3, 1) := by decide +kernel
theorem d_GB_firstWithRoom_15 : decode b_GB_firstWithRoom 15 = .ok (.aload_n 0, 1) := by decide +kernel
theorem d_GB_firstWithRoom_16 : decode b_GB_firstWithRoom 16 = .ok (.getfield 15, 3) := by decide +kernel
theorem d_GB_firstWithRoom_19 : decode b_GB_firstWithRoom 19 = .ok (.if_icmp .ge 40, 3) := by decide +kernel
theorem d_GB_firstWithRoom_22 : decode b_GB_firstWithRoom 22 = .ok (.aload_n 0, 1) := by decide +kernel
theorem d_GB_firstWithRoom_23 : decode b_GB_firstWithRoom 23 = .ok (.aload_n 1, 1) := by decide +kernel
theorem d_GB_firstWithRoom_24 : decode b_GB_firstWithRoom 24 = .ok (.iload_n 3, 1) := by decide +kernel
theorem d_GB_firstWithRoom_25 : decode b_GB_firstWithRoom 25 = .ok (.invokevirtual 198, 3) := by decide +kernel
theorem d_GB_firstWithRoom_28 : decode b_GB_firstWithRoom 28 = .ok (.astore 4, 2) := by decide +kernel
theorem d_GB_firstWithRoom_30 : decode b_GB_firstWithRoom 30 = .ok (.aload 4, 2) := by decide +kernel
theorem d_GB_firstWithRoom_32 : decode b_GB_firstWithRoom 32 = .ok (.getfield 124, 3) := by decide +kernel
theorem d_GB_firstWithRoom_35 : decode b_GB_firstWithRoom 35 = .ok (.getfield 154, 3) := by decide +kernel
theorem d_GB_firstWithRoom_38 : decode b_GB_firstWithRoom 38 = .ok (.iload_n 2, 1) := by decide +kernel
theorem d_GB_firstWithRoom_39 : decode b_GB_firstWithRoom 39 = .ok (.if_icmp .lt 14, 3) := by decide +kernel
theorem d_GB_firstWithRoom_42 : decode b_GB_firstWithRoom 42 = .ok (.aload 4, 2) := by decide +kernel
theorem d_GB_firstWithRoom_44 : decode b_GB_firstWithRoom 44 = .ok (.invokevirtual 219, 3) := by decide +kernel
theorem d_GB_firstWithRoom_47 : decode b_GB_firstWithRoom 47 = .ok (.ifCond .eq 6, 3) := by decide +kernel
theorem d_GB_firstWithRoom_50 : decode b_GB_firstWithRoom 50 = .ok (.aload 4, 2) := by decide +kernel
theorem d_GB_firstWithRoom_52 : decode b_GB_firstWithRoom 52 = .ok (.areturn, 1) := by decide +kernel
theorem d_GB_firstWithRoom_53 : decode b_GB_firstWithRoom 53 = .ok (.iinc 3 1, 3) := by decide +kernel
theorem d_GB_firstWithRoom_56 : decode b_GB_firstWithRoom 56 = .ok (.goto (-42), 3) := by decide +kernel
theorem d_GB_firstWithRoom_59 : decode b_GB_firstWithRoom 59 = .ok (.aconst_null, 1) := by decide +kernel
theorem d_GB_firstWithRoom_60 : decode b_GB_firstWithRoom 60 = .ok (.areturn, 1) := by decide +kernel
theorem d_GB_firstWithFile_0 : decode b_GB_firstWithFile 0 = .ok (.iconst 0, 1) := by decide +kernel
theorem d_GB_firstWithFile_1 : decode b_GB_firstWithFile 1 = .ok (.istore_n 2, 1) := by decide +kernel
theorem d_GB_firstWithFile_2 : decode b_GB_firstWithFile 2 = .ok (.iload_n 2, 1) := by decide +kernel
theorem d_GB_firstWithFile_3 : decode b_GB_firstWithFile 3 = .ok (.aload_n 0, 1) := by decide +kernel
theorem d_GB_firstWithFile_4 : decode b_GB_firstWithFile 4 = .ok (.getfield 15, 3) := by decide +kernel
theorem d_GB_firstWithFile_7 : decode b_GB_firstWithFile 7 = .ok (.if_icmp .ge 29, 3) := by decide +kernel
theorem d_GB_firstWithFile_10 : decode b_GB_firstWithFile 10 = .ok (.aload_n 0, 1) := by decide +kernel
theorem d_GB_firstWithFile_11 : decode b_GB_firstWithFile 11 = .ok (.aload_n 1, 1) := by decide +kernel
theorem d_GB_firstWithFile_12 : decode b_GB_firstWithFile 12 = .ok (.iload_n 2, 1) := by decide +kernel
theorem d_GB_firstWithFile_13 : decode b_GB_firstWithFile 13 = .ok (.invokevirtual 198, 3) := by decide +kernel
theorem d_GB_firstWithFile_16 : decode b_GB_firstWithFile 16 = .ok (.astore_n 3, 1) := by decide +kernel
theorem d_GB_firstWithFile_17 : decode b_GB_firstWithFile 17 = .ok (.aload_n 3, 1) := by decide +kernel
theorem d_GB_firstWithFile_18 : decode b_GB_firstWithFile 18 = .ok (.getfield 124, 3) := by decide +kernel
theorem d_GB_firstWithFile_21 : decode b_GB_firstWithFile 21 = .ok (.getfield 154, 3) := by decide +kernel
theorem d_GB_firstWithFile_24 : decode b_GB_firstWithFile 24 = .ok (.iconst 1, 1) := by decide +kernel
theorem d_GB_firstWithFile_25 : decode b_GB_firstWithFile 25 = .ok (.if_icmp .lt 5, 3) := by decide +kernel
theorem d_GB_firstWithFile_28 : decode b_GB_firstWithFile 28 = .ok (.aload_n 3, 1) := by decide +kernel
theorem d_GB_firstWithFile_29 : decode b_GB_firstWithFile 29 = .ok (.areturn, 1) := by decide +kernel
theorem d_GB_firstWithFile_30 : decode b_GB_firstWithFile 30 = .ok (.iinc 2 1, 3) := by decide +kernel
theorem d_GB_firstWithFile_33 : decode b_GB_firstWithFile 33 = .ok (.goto (-31), 3) := by decide +kernel
theorem d_GB_firstWithFile_36 : decode b_GB_firstWithFile 36 = .ok (.aconst_null, 1) := by decide +kernel
theorem d_GB_firstWithFile_37 : decode b_GB_firstWithFile 37 = .ok (.areturn, 1) := by decide +kernel
theorem d_GB_tableByte_0 : decode b_GB_tableByte 0 = .ok (.iload_n 1, 1) := by decide +kernel
theorem d_GB_tableByte_1 : decode b_GB_tableByte 1 = .ok (.bipush 32, 2) := by decide +kernel
theorem d_GB_tableByte_3 : decode b_GB_tableByte 3 = .ok (.idiv, 1) := by decide +kernel
theorem d_GB_tableByte_4 : decode b_GB_tableByte 4 = .ok (.istore_n 2, 1) := by decide +kernel
theorem d_GB_tableByte_5 : decode b_GB_tableByte 5 = .ok (.iload_n 2, 1) := by decide +kernel
theorem d_GB_tableByte_6 : decode b_GB_tableByte 6 = .ok (.aload_n 0, 1) := by decide +kernel
theorem d_GB_tableByte_7 : decode b_GB_tableByte 7 = .ok (.getfield 15, 3) := by decide +kernel
theorem d_GB_tableByte_10 : decode b_GB_tableByte 10 = .ok (.if_icmp .ge 19, 3) := by decide +kernel
theorem d_GB_tableByte_13 : decode b_GB_tableByte 13 = .ok (.aload_n 0, 1) := by decide +kernel
theorem d_GB_tableByte_14 : decode b_GB_tableByte 14 = .ok (.getfield 11, 3) := by decide +kernel
theorem d_GB_tableByte_17 : decode b_GB_tableByte 17 = .ok (.iload_n 2, 1) := by decide +kernel
theorem d_GB_tableByte_18 : decode b_GB_tableByte 18 = .ok (.aaload, 1) := by decide +kernel
theorem d_GB_tableByte_19 : decode b_GB_tableByte 19 = .ok (.iload_n 1, 1) := by decide +kernel
theorem d_GB_tableByte_20 : decode b_GB_tableByte 20 = .ok (.bipush 32, 2) := by decide +kernel
theorem d_GB_tableByte_22 : decode b_GB_tableByte 22 = .ok (.irem, 1) := by decide +kernel
theorem d_GB_tableByte_23 : decode b_GB_tableByte 23 = .ok (.invokevirtual 233, 3) := by decide +kernel
theorem d_GB_tableByte_26 : decode b_GB_tableByte 26 = .ok (.goto 4, 3) := by decide +kernel
theorem d_GB_tableByte_29 : decode b_GB_tableByte 29 = .ok (.iconst 0, 1) := by decide +kernel
theorem d_GB_tableByte_30 : decode b_GB_tableByte 30 = .ok (.ireturn, 1) := by decide +kernel
theorem d_BM_init_0 : decode b_BM_init 0 = .ok (.aload_n 0, 1) := by decide +kernel
theorem d_BM_init_1 : decode b_BM_init 1 = .ok (.invokespecial 1, 3) := by decide +kernel
theorem d_BM_init_4 : decode b_BM_init 4 = .ok (.aload_n 0, 1) := by decide +kernel
theorem d_BM_init_5 : decode b_BM_init 5 = .ok (.iload_n 1, 1) := by decide +kernel
theorem d_BM_init_6 : decode b_BM_init 6 = .ok (.putfield 7, 3) := by decide +kernel
theorem d_BM_init_9 : decode b_BM_init 9 = .ok (.aload_n 0, 1) := by decide +kernel
theorem d_BM_init_10 : decode b_BM_init 10 = .ok (.iload_n 2, 1) := by decide +kernel
theorem d_BM_init_11 : decode b_BM_init 11 = .ok (.newarray .boolean, 2) := by decide +kernel
theorem d_BM_init_13 : decode b_BM_init 13 = .ok (.putfield 13, 3) := by decide +kernel
theorem d_BM_init_16 : decode b_BM_init 16 = .ok (.return_, 1) := by decide +kernel
theorem d_BM_layOut_0 : decode b_BM_layOut 0 = .ok (.iconst 0, 1) := by decide +kernel
theorem d_BM_layOut_1 : decode b_BM_layOut 1 = .ok (.istore_n 3, 1) := by decide +kernel
theorem d_BM_layOut_2 : decode b_BM_layOut 2 = .ok (.iload_n 3, 1) := by decide +kernel
theorem d_BM_layOut_3 : decode b_BM_layOut 3 = .ok (.aload_n 0, 1) := by decide +kernel
theorem d_BM_layOut_4 : decode b_BM_layOut 4 = .ok (.getfield 13, 3) := by decide +kernel
theorem d_BM_layOut_7 : decode b_BM_layOut 7 = .ok (.arraylength, 1) := by decide +kernel
theorem d_BM_layOut_8 : decode b_BM_layOut 8 = .ok (.if_icmp .ge 30, 3) := by decide +kernel
theorem d_BM_layOut_11 : decode b_BM_layOut 11 = .ok (.aload_n 0, 1) := by decide +kernel
theorem d_BM_layOut_12 : decode b_BM_layOut 12 = .ok (.getfield 13, 3) := by decide +kernel
theorem d_BM_layOut_15 : decode b_BM_layOut 15 = .ok (.iload_n 3, 1) := by decide +kernel
theorem d_BM_layOut_16 : decode b_BM_layOut 16 = .ok (.iload_n 3, 1) := by decide +kernel
theorem d_BM_layOut_17 : decode b_BM_layOut 17 = .ok (.iload_n 2, 1) := by decide +kernel
theorem d_BM_layOut_18 : decode b_BM_layOut 18 = .ok (.if_icmp .lt 8, 3) := by decide +kernel
theorem d_BM_layOut_21 : decode b_BM_layOut 21 = .ok (.iload_n 3, 1) := by decide +kernel
theorem d_BM_layOut_22 : decode b_BM_layOut 22 = .ok (.iload_n 1, 1) := by decide +kernel
theorem d_BM_layOut_23 : decode b_BM_layOut 23 = .ok (.if_icmp .lt 7, 3) := by decide +kernel
theorem d_BM_layOut_26 : decode b_BM_layOut 26 = .ok (.iconst 1, 1) := by decide +kernel
theorem d_BM_layOut_27 : decode b_BM_layOut 27 = .ok (.goto 4, 3) := by decide +kernel
theorem d_BM_layOut_30 : decode b_BM_layOut 30 = .ok (.iconst 0, 1) := by decide +kernel
theorem d_BM_layOut_31 : decode b_BM_layOut 31 = .ok (.bastore, 1) := by decide +kernel
theorem d_BM_layOut_32 : decode b_BM_layOut 32 = .ok (.iinc 3 1, 3) := by decide +kernel
theorem d_BM_layOut_35 : decode b_BM_layOut 35 = .ok (.goto (-33), 3) := by decide +kernel
theorem d_BM_layOut_38 : decode b_BM_layOut 38 = .ok (.aload_n 0, 1) := by decide +kernel
theorem d_BM_layOut_39 : decode b_BM_layOut 39 = .ok (.iload_n 1, 1) := by decide +kernel
theorem d_BM_layOut_40 : decode b_BM_layOut 40 = .ok (.putfield 17, 3) := by decide +kernel
theorem d_BM_layOut_43 : decode b_BM_layOut 43 = .ok (.aload_n 0, 1) := by decide +kernel
theorem d_BM_layOut_44 : decode b_BM_layOut 44 = .ok (.iload_n 1, 1) := by decide +kernel
theorem d_BM_layOut_45 : decode b_BM_layOut 45 = .ok (.iload_n 2, 1) := by decide +kernel
theorem d_BM_layOut_46 : decode b_BM_layOut 46 = .ok (.isub, 1) := by decide +kernel
theorem d_BM_layOut_47 : decode b_BM_layOut 47 = .ok (.putfield 20, 3) := by decide +kernel
theorem d_BM_layOut_50 : decode b_BM_layOut 50 = .ok (.aload_n 0, 1) := by decide +kernel
theorem d_BM_layOut_51 : decode b_BM_layOut 51 = .ok (.iconst 1, 1) := by decide +kernel
theorem d_BM_layOut_52 : decode b_BM_layOut 52 = .ok (.putfield 23, 3) := by decide +kernel
theorem d_BM_layOut_55 : decode b_BM_layOut 55 = .ok (.return_, 1) := by decide +kernel
theorem d_BM_isSet_0 : decode b_BM_isSet 0 = .ok (.iload_n 1, 1) := by decide +kernel
theorem d_BM_isSet_1 : decode b_BM_isSet 1 = .ok (.ifCond .lt 21, 3) := by decide +kernel
theorem d_BM_isSet_4 : decode b_BM_isSet 4 = .ok (.iload_n 1, 1) := by decide +kernel
theorem d_BM_isSet_5 : decode b_BM_isSet 5 = .ok (.aload_n 0, 1) := by decide +kernel
theorem d_BM_isSet_6 : decode b_BM_isSet 6 = .ok (.getfield 13, 3) := by decide +kernel
theorem d_BM_isSet_9 : decode b_BM_isSet 9 = .ok (.arraylength, 1) := by decide +kernel
theorem d_BM_isSet_10 : decode b_BM_isSet 10 = .ok (.if_icmp .ge 12, 3) := by decide +kernel
theorem d_BM_isSet_13 : decode b_BM_isSet 13 = .ok (.aload_n 0, 1) := by decide +kernel
theorem d_BM_isSet_14 : decode b_BM_isSet 14 = .ok (.getfield 13, 3) := by decide +kernel
theorem d_BM_isSet_17 : decode b_BM_isSet 17 = .ok (.iload_n 1, 1) := by decide +kernel
theorem d_BM_isSet_18 : decode b_BM_isSet 18 = .ok (.baload, 1) := by decide +kernel
theorem d_BM_isSet_19 : decode b_BM_isSet 19 = .ok (.ifCond .eq 7, 3) := by decide +kernel
theorem d_BM_isSet_22 : decode b_BM_isSet 22 = .ok (.iconst 1, 1) := by decide +kernel
theorem d_BM_isSet_23 : decode b_BM_isSet 23 = .ok (.goto 4, 3) := by decide +kernel
theorem d_BM_isSet_26 : decode b_BM_isSet 26 = .ok (.iconst 0, 1) := by decide +kernel
theorem d_BM_isSet_27 : decode b_BM_isSet 27 = .ok (.ireturn, 1) := by decide +kernel
theorem d_BM_occupy_0 : decode b_BM_occupy 0 = .ok (.aload_n 0, 1) := by decide +kernel
theorem d_BM_occupy_1 : decode b_BM_occupy 1 = .ok (.iload_n 1, 1) := by decide +kernel
theorem d_BM_occupy_2 : decode b_BM_occupy 2 = .ok (.invokevirtual 27, 3) := by decide +kernel
theorem d_BM_occupy_5 : decode b_BM_occupy 5 = .ok (.ifCond .ne 25, 3) := by decide +kernel
theorem d_BM_occupy_8 : decode b_BM_occupy 8 = .ok (.aload_n 0, 1) := by decide +kernel
theorem d_BM_occupy_9 : decode b_BM_occupy 9 = .ok (.getfield 13, 3) := by decide +kernel
theorem d_BM_occupy_12 : decode b_BM_occupy 12 = .ok (.iload_n 1, 1) := by decide +kernel
theorem d_BM_occupy_13 : decode b_BM_occupy 13 = .ok (.iconst 1, 1) := by decide +kernel
theorem d_BM_occupy_14 : decode b_BM_occupy 14 = .ok (.bastore, 1) := by decide +kernel
theorem d_BM_occupy_15 : decode b_BM_occupy 15 = .ok (.aload_n 0, 1) := by decide +kernel
theorem d_BM_occupy_16 : decode b_BM_occupy 16 = .ok (.dup, 1) := by decide +kernel
theorem d_BM_occupy_17 : decode b_BM_occupy 17 = .ok (.getfield 20, 3) := by decide +kernel
theorem d_BM_occupy_20 : decode b_BM_occupy 20 = .ok (.iconst 1, 1) := by decide +kernel
theorem d_BM_occupy_21 : decode b_BM_occupy 21 = .ok (.isub, 1) := by decide +kernel
theorem d_BM_occupy_22 : decode b_BM_occupy 22 = .ok (.putfield 20, 3) := by decide +kernel
theorem d_BM_occupy_25 : decode b_BM_occupy 25 = .ok (.aload_n 0, 1) := by decide +kernel
theorem d_BM_occupy_26 : decode b_BM_occupy 26 = .ok (.iconst 1, 1) := by decide +kernel
theorem d_BM_occupy_27 : decode b_BM_occupy 27 = .ok (.putfield 23, 3) := by decide +kernel
theorem d_BM_occupy_30 : decode b_BM_occupy 30 = .ok (.return_, 1) := by decide +kernel
theorem d_BM_free_0 : decode b_BM_free 0 = .ok (.iload_n 1, 1) := by decide +kernel
theorem d_BM_free_1 : decode b_BM_free 1 = .ok (.ifCond .lt 42, 3) := by decide +kernel
theorem d_BM_free_4 : decode b_BM_free 4 = .ok (.iload_n 1, 1) := by decide +kernel
theorem d_BM_free_5 : decode b_BM_free 5 = .ok (.aload_n 0, 1) := by decide +kernel
theorem d_BM_free_6 : decode b_BM_free 6 = .ok (.getfield 17, 3) := by decide +kernel
theorem d_BM_free_9 : decode b_BM_free 9 = .ok (.if_icmp .ge 34, 3) := by decide +kernel
theorem d_BM_free_12 : decode b_BM_free 12 = .ok (.aload_n 0, 1) := by decide +kernel
theorem d_BM_free_13 : decode b_BM_free 13 = .ok (.getfield 13, 3) := by decide +kernel
theorem d_BM_free_16 : decode b_BM_free 16 = .ok (.iload_n 1, 1) := by decide +kernel
theorem d_BM_free_17 : decode b_BM_free 17 = .ok (.baload, 1) := by decide +kernel
theorem d_BM_free_18 : decode b_BM_free 18 = .ok (.ifCond .eq 25, 3) := by decide +kernel
theorem d_BM_free_21 : decode b_BM_free 21 = .ok (.aload_n 0, 1) := by decide +kernel
theorem d_BM_free_22 : decode b_BM_free 22 = .ok (.getfield 13, 3) := by decide +kernel
theorem d_BM_free_25 : decode b_BM_free 25 = .ok (.iload_n 1, 1) := by decide +kernel
theorem d_BM_free_26 : decode b_BM_free 26 = .ok (.iconst 0, 1) := by decide +kernel
theorem d_BM_free_27 : decode b_BM_free 27 = .ok (.bastore, 1) := by decide +kernel
theorem d_BM_free_28 : decode b_BM_free 28 = .ok (.aload_n 0, 1) := by decide +kernel
theorem d_BM_free_29 : decode b_BM_free 29 = .ok (.dup, 1) := by decide +kernel
theorem d_BM_free_30 : decode b_BM_free 30 = .ok (.getfield 20, 3) := by decide +kernel
theorem d_BM_free_33 : decode b_BM_free 33 = .ok (.iconst 1, 1) := by decide +kernel
theorem d_BM_free_34 : decode b_BM_free 34 = .ok (.iadd, 1) := by decide +kernel
theorem d_BM_free_35 : decode b_BM_free 35 = .ok (.putfield 20, 3) := by decide +kernel
theorem d_BM_free_38 : decode b_BM_free 38 = .ok (.aload_n 0, 1) := by decide +kernel
theorem d_BM_free_39 : decode b_BM_free 39 = .ok (.iconst 1, 1) := by decide +kernel
theorem d_BM_free_40 : decode b_BM_free 40 = .ok (.putfield 23, 3) := by decide +kernel
theorem d_BM_free_43 : decode b_BM_free 43 = .ok (.return_, 1) := by decide +kernel
theorem d_BM_byteAt_0 : decode b_BM_byteAt 0 = .ok (.iconst 0, 1) := by decide +kernel
theorem d_BM_byteAt_1 : decode b_BM_byteAt 1 = .ok (.istore_n 2, 1) := by decide +kernel
theorem d_BM_byteAt_2 : decode b_BM_byteAt 2 = .ok (.iconst 0, 1) := by decide +kernel
theorem d_BM_byteAt_3 : decode b_BM_byteAt 3 = .ok (.istore_n 3, 1) := by decide +kernel
theorem d_BM_byteAt_4 : decode b_BM_byteAt 4 = .ok (.iload_n 3, 1) := by decide +kernel
theorem d_BM_byteAt_5 : decode b_BM_byteAt 5 = .ok (.bipush 8, 2) := by decide +kernel
theorem d_BM_byteAt_7 : decode b_BM_byteAt 7 = .ok (.if_icmp .ge 28, 3) := by decide +kernel
theorem d_BM_byteAt_10 : decode b_BM_byteAt 10 = .ok (.aload_n 0, 1) := by decide +kernel
theorem d_BM_byteAt_11 : decode b_BM_byteAt 11 = .ok (.bipush 8, 2) := by decide +kernel
theorem d_BM_byteAt_13 : decode b_BM_byteAt 13 = .ok (.iload_n 1, 1) := by decide +kernel
theorem d_BM_byteAt_14 : decode b_BM_byteAt 14 = .ok (.imul, 1) := by decide +kernel
theorem d_BM_byteAt_15 : decode b_BM_byteAt 15 = .ok (.iload_n 3, 1) := by decide +kernel
theorem d_BM_byteAt_16 : decode b_BM_byteAt 16 = .ok (.iadd, 1) := by decide +kernel
theorem d_BM_byteAt_17 : decode b_BM_byteAt 17 = .ok (.invokevirtual 27, 3) := by decide +kernel
theorem d_BM_byteAt_20 : decode b_BM_byteAt 20 = .ok (.ifCond .eq 9, 3) := by decide +kernel
theorem d_BM_byteAt_23 : decode b_BM_byteAt 23 = .ok (.iload_n 2, 1) := by decide +kernel
theorem d_BM_byteAt_24 : decode b_BM_byteAt 24 = .ok (.iconst 1, 1) := by decide +kernel
theorem d_BM_byteAt_25 : decode b_BM_byteAt 25 = .ok (.iload_n 3, 1) := by decide +kernel
theorem d_BM_byteAt_26 : decode b_BM_byteAt 26 = .ok (.ishl, 1) := by decide +kernel
theorem d_BM_byteAt_27 : decode b_BM_byteAt 27 = .ok (.ior, 1) := by decide +kernel
theorem d_BM_byteAt_28 : decode b_BM_byteAt 28 = .ok (.istore_n 2, 1) := by decide +kernel
theorem d_BM_byteAt_29 : decode b_BM_byteAt 29 = .ok (.iinc 3 1, 3) := by decide +kernel
theorem d_BM_byteAt_32 : decode b_BM_byteAt 32 = .ok (.goto (-28), 3) := by decide +kernel
theorem d_BM_byteAt_35 : decode b_BM_byteAt 35 = .ok (.iload_n 2, 1) := by decide +kernel
theorem d_BM_byteAt_36 : decode b_BM_byteAt 36 = .ok (.ireturn, 1) := by decide +kernel
theorem d_BM_leastFree_0 : decode b_BM_leastFree 0 = .ok (.iconst 0, 1) := by decide +kernel
theorem d_BM_leastFree_1 : decode b_BM_leastFree 1 = .ok (.istore_n 1, 1) := by decide +kernel
theorem d_BM_leastFree_2 : decode b_BM_leastFree 2 = .ok (.iload_n 1, 1) := by decide +kernel
theorem d_BM_leastFree_3 : decode b_BM_leastFree 3 = .ok (.aload_n 0, 1) := by decide +kernel
theorem d_BM_leastFree_4 : decode b_BM_leastFree 4 = .ok (.getfield 17, 3) := by decide +kernel
theorem d_BM_leastFree_7 : decode b_BM_leastFree 7 = .ok (.if_icmp .ge 19, 3) := by decide +kernel
theorem d_BM_leastFree_10 : decode b_BM_leastFree 10 = .ok (.aload_n 0, 1) := by decide +kernel
theorem d_BM_leastFree_11 : decode b_BM_leastFree 11 = .ok (.iload_n 1, 1) := by decide +kernel
theorem d_BM_leastFree_12 : decode b_BM_leastFree 12 = .ok (.invokevirtual 27, 3) := by decide +kernel
theorem d_BM_leastFree_15 : decode b_BM_leastFree 15 = .ok (.ifCond .ne 5, 3) := by decide +kernel
theorem d_BM_leastFree_18 : decode b_BM_leastFree 18 = .ok (.iload_n 1, 1) := by decide +kernel
theorem d_BM_leastFree_19 : decode b_BM_leastFree 19 = .ok (.ireturn, 1) := by decide +kernel
theorem d_BM_leastFree_20 : decode b_BM_leastFree 20 = .ok (.iinc 1 1, 3) := by decide +kernel
theorem d_BM_leastFree_23 : decode b_BM_leastFree 23 = .ok (.goto (-21), 3) := by decide +kernel
theorem d_BM_leastFree_26 : decode b_BM_leastFree 26 = .ok (.iconst (-1), 1) := by decide +kernel
theorem d_BM_leastFree_27 : decode b_BM_leastFree 27 = .ok (.ireturn, 1) := by decide +kernel
theorem d_BM_areFree_0 : decode b_BM_areFree 0 = .ok (.iload_n 1, 1) := by decide +kernel
theorem d_BM_areFree_1 : decode b_BM_areFree 1 = .ok (.istore_n 3, 1) := by decide +kernel
theorem d_BM_areFree_2 : decode b_BM_areFree 2 = .ok (.iload_n 3, 1) := by decide +kernel
theorem d_BM_areFree_3 : decode b_BM_areFree 3 = .ok (.iload_n 1, 1) := by decide +kernel
theorem d_BM_areFree_4 : decode b_BM_areFree 4 = .ok (.iload_n 2, 1) := by decide +kernel
theorem d_BM_areFree_5 : decode b_BM_areFree 5 = .ok (.iadd, 1) := by decide +kernel
theorem d_BM_areFree_6 : decode b_BM_areFree 6 = .ok (.if_icmp .ge 19, 3) := by decide +kernel
theorem d_BM_areFree_9 : decode b_BM_areFree 9 = .ok (.aload_n 0, 1) := by decide +kernel
theorem d_BM_areFree_10 : decode b_BM_areFree 10 = .ok (.iload_n 3, 1) := by decide +kernel
theorem d_BM_areFree_11 : decode b_BM_areFree 11 = .ok (.invokevirtual 27, 3) := by decide +kernel
theorem d_BM_areFree_14 : decode b_BM_areFree 14 = .ok (.ifCond .eq 5, 3) := by decide +kernel
theorem d_BM_areFree_17 : decode b_BM_areFree 17 = .ok (.iconst 0, 1) := by decide +kernel
theorem d_BM_areFree_18 : decode b_BM_areFree 18 = .ok (.ireturn, 1) := by decide +kernel
theorem d_BM_areFree_19 : decode b_BM_areFree 19 = .ok (.iinc 3 1, 3) := by decide +kernel
theorem d_BM_areFree_22 : decode b_BM_areFree 22 = .ok (.goto (-20), 3) := by decide +kernel
theorem d_BM_areFree_25 : decode b_BM_areFree 25 = .ok (.iconst 1, 1) := by decide +kernel
theorem d_BM_areFree_26 : decode b_BM_areFree 26 = .ok (.ireturn, 1) := by decide +kernel
theorem d_BM_longestRun_0 : decode b_BM_longestRun 0 = .ok (.iconst 0, 1) := by decide +kernel
theorem d_BM_longestRun_1 : decode b_BM_longestRun 1 = .ok (.istore_n 1, 1) := by decide +kernel
theorem d_BM_longestRun_2 : decode b_BM_longestRun 2 = .ok (.iconst 0, 1) := by decide +kernel
theorem d_BM_longestRun_3 : decode b_BM_longestRun 3 = .ok (.istore_n 2, 1) := by decide +kernel
theorem d_BM_longestRun_4 : decode b_BM_longestRun 4 = .ok (.iconst 0, 1) := by decide +kernel
theorem d_BM_longestRun_5 : decode b_BM_longestRun 5 = .ok (.istore_n 3, 1) := by decide +kernel
theorem d_BM_longestRun_6 : decode b_BM_longestRun 6 = .ok (.iload_n 3, 1) := by decide +kernel
theorem d_BM_longestRun_7 : decode b_BM_longestRun 7 = .ok (.aload_n 0, 1) := by decide +kernel
theorem d_BM_longestRun_8 : decode b_BM_longestRun 8 = .ok (.getfield 17, 3) := by decide +kernel
theorem d_BM_longestRun_11 : decode b_BM_longestRun 11 = .ok (.if_icmp .ge 31, 3) := by decide +kernel
theorem d_BM_longestRun_14 : decode b_BM_longestRun 14 = .ok (.aload_n 0, 1) := by decide +kernel
theorem d_BM_longestRun_15 : decode b_BM_longestRun 15 = .ok (.iload_n 3, 1) := by decide +kernel
theorem d_BM_longestRun_16 : decode b_BM_longestRun 16 = .ok (.invokevirtual 27, 3) := by decide +kernel
theorem d_BM_longestRun_19 : decode b_BM_longestRun 19 = .ok (.ifCond .eq 7, 3) := by decide +kernel
theorem d_BM_longestRun_22 : decode b_BM_longestRun 22 = .ok (.iconst 0, 1) := by decide +kernel
theorem d_BM_longestRun_23 : decode b_BM_longestRun 23 = .ok (.goto 6, 3) := by decide +kernel
theorem d_BM_longestRun_26 : decode b_BM_longestRun 26 = .ok (.iload_n 2, 1) := by decide +kernel
theorem d_BM_longestRun_27 : decode b_BM_longestRun 27 = .ok (.iconst 1, 1) := by decide +kernel
theorem d_BM_longestRun_28 : decode b_BM_longestRun 28 = .ok (.iadd, 1) := by decide +kernel
theorem d_BM_longestRun_29 : decode b_BM_longestRun 29 = .ok (.istore_n 2, 1) := by decide +kernel
theorem d_BM_longestRun_30 : decode b_BM_longestRun 30 = .ok (.iload_n 1, 1) := by decide +kernel
theorem d_BM_longestRun_31 : decode b_BM_longestRun 31 = .ok (.iload_n 2, 1) := by decide +kernel
theorem d_BM_longestRun_32 : decode b_BM_longestRun 32 = .ok (.invokestatic 31, 3) := by decide +kernel
theorem d_BM_longestRun_35 : decode b_BM_longestRun 35 = .ok (.istore_n 1, 1) := by decide +kernel
theorem d_BM_longestRun_36 : decode b_BM_longestRun 36 = .ok (.iinc 3 1, 3) := by decide +kernel
theorem d_BM_longestRun_39 : decode b_BM_longestRun 39 = .ok (.goto (-33), 3) := by decide +kernel
theorem d_BM_longestRun_42 : decode b_BM_longestRun 42 = .ok (.iload_n 1, 1) := by decide +kernel
theorem d_BM_longestRun_43 : decode b_BM_longestRun 43 = .ok (.ireturn, 1) := by decide +kernel
theorem d_BM_shortestRun_0 : decode b_BM_shortestRun 0 = .ok (.iconst (-1), 1) := by decide +kernel
theorem d_BM_shortestRun_1 : decode b_BM_shortestRun 1 = .ok (.istore_n 2, 1) := by decide +kernel
theorem d_BM_shortestRun_2 : decode b_BM_shortestRun 2 = .ok (.aload_n 0, 1) := by decide +kernel
theorem d_BM_shortestRun_3 : decode b_BM_shortestRun 3 = .ok (.getfield 17, 3) := by decide +kernel
theorem d_BM_shortestRun_6 : decode b_BM_shortestRun 6 = .ok (.iconst 1, 1) := by decide +kernel
theorem d_BM_shortestRun_7 : decode b_BM_shortestRun 7 = .ok (.iadd, 1) := by decide +kernel
theorem d_BM_shortestRun_8 : decode b_BM_shortestRun 8 = .ok (.istore_n 3, 1) := by decide +kernel
theorem d_BM_shortestRun_9 : decode b_BM_shortestRun 9 = .ok (.iconst 0, 1) := by decide +kernel
theorem d_BM_shortestRun_10 : decode b_BM_shortestRun 10 = .ok (.istore 4, 2) := by decide +kernel
theorem d_BM_shortestRun_12 : decode b_BM_shortestRun 12 = .ok (.iconst 0, 1) := by decide +kernel
theorem d_BM_shortestRun_13 : decode b_BM_shortestRun 13 = .ok (.istore 5, 2) := by decide +kernel
theorem d_BM_shortestRun_15 : decode b_BM_shortestRun 15 = .ok (.iload 5, 2) := by decide +kernel
theorem d_BM_shortestRun_17 : decode b_BM_shortestRun 17 = .ok (.aload_n 0, 1) := by decide +kernel
theorem d_BM_shortestRun_18 : decode b_BM_shortestRun 18 = .ok (.getfield 17, 3) := by decide +kernel
theorem d_BM_shortestRun_21 : decode b_BM_shortestRun 21 = .ok (.if_icmp .ge 62, 3) := by decide +kernel
theorem d_BM_shortestRun_24 : decode b_BM_shortestRun 24 = .ok (.aload_n 0, 1) := by decide +kernel
theorem d_BM_shortestRun_25 : decode b_BM_shortestRun 25 = .ok (.iload 5, 2) := by decide +kernel
theorem d_BM_shortestRun_27 : decode b_BM_shortestRun 27 = .ok (.invokevirtual 27, 3) := by decide +kernel
theorem d_BM_shortestRun_30 : decode b_BM_shortestRun 30 = .ok (.ifCond .eq 7, 3) := by decide +kernel
theorem d_BM_shortestRun_33 : decode b_BM_shortestRun 33 = .ok (.iconst 0, 1) := by decide +kernel
theorem d_BM_shortestRun_34 : decode b_BM_shortestRun 34 = .ok (.goto 7, 3) := by decide +kernel
theorem d_BM_shortestRun_37 : decode b_BM_shortestRun 37 = .ok (.iload 4, 2) := by decide +kernel
theorem d_BM_shortestRun_39 : decode b_BM_shortestRun 39 = .ok (.iconst 1, 1) := by decide +kernel
theorem d_BM_shortestRun_40 : decode b_BM_shortestRun 40 = .ok (.iadd, 1) := by decide +kernel
theorem d_BM_shortestRun_41 : decode b_BM_shortestRun 41 = .ok (.istore 4, 2) := by decide +kernel
theorem d_BM_shortestRun_43 : decode b_BM_shortestRun 43 = .ok (.iload 4, 2) := by decide +kernel
theorem d_BM_shortestRun_45 : decode b_BM_shortestRun 45 = .ok (.iload_n 1, 1) := by decide +kernel
theorem d_BM_shortestRun_46 : decode b_BM_shortestRun 46 = .ok (.if_icmp .lt 31, 3) := by decide +kernel
theorem d_BM_shortestRun_49 : decode b_BM_shortestRun 49 = .ok (.iload 4, 2) := by decide +kernel
theorem d_BM_shortestRun_51 : decode b_BM_shortestRun 51 = .ok (.iload_n 3, 1) := by decide +kernel
theorem d_BM_shortestRun_52 : decode b_BM_shortestRun 52 = .ok (.if_icmp .ge 25, 3) := by decide +kernel
theorem d_BM_shortestRun_55 : decode b_BM_shortestRun 55 = .ok (.aload_n 0, 1) := by decide +kernel
theorem d_BM_shortestRun_56 : decode b_BM_shortestRun 56 = .ok (.iload 5, 2) := by decide +kernel
theorem d_BM_shortestRun_58 : decode b_BM_shortestRun 58 = .ok (.iconst 1, 1) := by decide +kernel
theorem d_BM_shortestRun_59 : decode b_BM_shortestRun 59 = .ok (.iadd, 1) := by decide +kernel
theorem d_BM_shortestRun_60 : decode b_BM_shortestRun 60 = .ok (.invokevirtual 27, 3) := by decide +kernel
theorem d_BM_shortestRun_63 : decode b_BM_shortestRun 63 = .ok (.ifCond .eq 14, 3) := by decide +kernel
theorem d_BM_shortestRun_66 : decode b_BM_shortestRun 66 = .ok (.iload 4, 2) := by decide +kernel
theorem d_BM_shortestRun_68 : decode b_BM_shortestRun 68 = .ok (.istore_n 3, 1) := by decide +kernel
theorem d_BM_shortestRun_69 : decode b_BM_shortestRun 69 = .ok (.iload 5, 2) := by decide +kernel
theorem d_BM_shortestRun_71 : decode b_BM_shortestRun 71 = .ok (.iconst 1, 1) := by decide +kernel
theorem d_BM_shortestRun_72 : decode b_BM_shortestRun 72 = .ok (.iadd, 1) := by decide +kernel
theorem d_BM_shortestRun_73 : decode b_BM_shortestRun 73 = .ok (.iload 4, 2) := by decide +kernel
theorem d_BM_shortestRun_75 : decode b_BM_shortestRun 75 = .ok (.isub, 1) := by decide +kernel
theorem d_BM_shortestRun_76 : decode b_BM_shortestRun 76 = .ok (.istore_n 2, 1) := by decide +kernel
theorem d_BM_shortestRun_77 : decode b_BM_shortestRun 77 = .ok (.iinc 5 1, 3) := by decide +kernel
theorem d_BM_shortestRun_80 : decode b_BM_shortestRun 80 = .ok (.goto (-65), 3) := by decide +kernel
theorem d_BM_shortestRun_83 : decode b_BM_shortestRun 83 = .ok (.iload_n 2, 1) := by decide +kernel
theorem d_BM_shortestRun_84 : decode b_BM_shortestRun 84 = .ok (.ireturn, 1) := by decide +kernel
theorem d_BM_forgetTold_0 : decode b_BM_forgetTold 0 = .ok (.aload_n 0, 1) := by decide +kernel
theorem d_BM_forgetTold_1 : decode b_BM_forgetTold 1 = .ok (.getfield 23, 3) := by decide +kernel
theorem d_BM_forgetTold_4 : decode b_BM_forgetTold 4 = .ok (.ifCond .eq 7, 3) := by decide +kernel
theorem d_BM_forgetTold_7 : decode b_BM_forgetTold 7 = .ok (.iconst 1, 1) := by decide +kernel
theorem d_BM_forgetTold_8 : decode b_BM_forgetTold 8 = .ok (.goto 4, 3) := by decide +kernel
theorem d_BM_forgetTold_11 : decode b_BM_forgetTold 11 = .ok (.iconst 0, 1) := by decide +kernel
theorem d_BM_forgetTold_12 : decode b_BM_forgetTold 12 = .ok (.istore_n 1, 1) := by decide +kernel
theorem d_BM_forgetTold_13 : decode b_BM_forgetTold 13 = .ok (.aload_n 0, 1) := by decide +kernel
theorem d_BM_forgetTold_14 : decode b_BM_forgetTold 14 = .ok (.iconst 0, 1) := by decide +kernel
theorem d_BM_forgetTold_15 : decode b_BM_forgetTold 15 = .ok (.putfield 23, 3) := by decide +kernel
theorem d_BM_forgetTold_18 : decode b_BM_forgetTold 18 = .ok (.iload_n 1, 1) := by decide +kernel
theorem d_BM_forgetTold_19 : decode b_BM_forgetTold 19 = .ok (.ireturn, 1) := by decide +kernel
theorem d_GR_init_0 : decode b_GR_init 0 = .ok (.aload_n 0, 1) := by decide +kernel
theorem d_GR_init_1 : decode b_GR_init 1 = .ok (.invokespecial 3, 3) := by decide +kernel
theorem d_GR_init_4 : decode b_GR_init 4 = .ok (.iload_n 1, 1) := by decide +kernel
theorem d_GR_init_5 : decode b_GR_init 5 = .ok (.iconst 2, 1) := by decide +kernel
theorem d_GR_init_6 : decode b_GR_init 6 = .ok (.if_icmp .ne 7, 3) := by decide +kernel
theorem d_GR_init_9 : decode b_GR_init 9 = .ok (.iconst 0, 1) := by decide +kernel
theorem d_GR_init_10 : decode b_GR_init 10 = .ok (.goto 4, 3) := by decide +kernel
theorem d_GR_init_13 : decode b_GR_init 13 = .ok (.iconst 2, 1) := by decide +kernel
theorem d_GR_init_14 : decode b_GR_init 14 = .ok (.istore_n 2, 1) := by decide +kernel
theorem d_GR_init_15 : decode b_GR_init 15 = .ok (.aload_n 0, 1) := by decide +kernel
theorem d_GR_init_16 : decode b_GR_init 16 = .ok (.iload_n 1, 1) := by decide +kernel
theorem d_GR_init_17 : decode b_GR_init 17 = .ok (.sipush 256, 3) := by decide +kernel
theorem d_GR_init_20 : decode b_GR_init 20 = .ok (.imul, 1) := by decide +kernel
theorem d_GR_init_21 : decode b_GR_init 21 = .ok (.putfield 9, 3) := by decide +kernel
theorem d_GR_init_24 : decode b_GR_init 24 = .ok (.aload_n 0, 1) := by decide +kernel
theorem d_GR_init_25 : decode b_GR_init 25 = .ok (.iload_n 2, 1) := by decide +kernel
theorem d_GR_init_26 : decode b_GR_init 26 = .ok (.iconst 2, 1) := by decide +kernel
theorem d_GR_init_27 : decode b_GR_init 27 = .ok (.iadd, 1) := by decide +kernel
theorem d_GR_init_28 : decode b_GR_init 28 = .ok (.bipush 8, 2) := by decide +kernel
theorem d_GR_init_30 : decode b_GR_init 30 = .ok (.iadd, 1) := by decide +kernel
theorem d_GR_init_31 : decode b_GR_init 31 = .ok (.putfield 15, 3) := by decide +kernel
theorem d_GR_init_34 : decode b_GR_init 34 = .ok (.aload_n 0, 1) := by decide +kernel
theorem d_GR_init_35 : decode b_GR_init 35 = .ok (.aload_n 0, 1) := by decide +kernel
theorem d_GR_init_36 : decode b_GR_init 36 = .ok (.getfield 9, 3) := by decide +kernel
theorem d_GR_init_39 : decode b_GR_init 39 = .ok (.iload_n 2, 1) := by decide +kernel
theorem d_GR_init_40 : decode b_GR_init 40 = .ok (.iadd, 1) := by decide +kernel
theorem d_GR_init_41 : decode b_GR_init 41 = .ok (.iconst 2, 1) := by decide +kernel
theorem d_GR_init_42 : decode b_GR_init 42 = .ok (.iadd, 1) := by decide +kernel
theorem d_GR_init_43 : decode b_GR_init 43 = .ok (.putfield 18, 3) := by decide +kernel
theorem d_GR_init_46 : decode b_GR_init 46 = .ok (.aload_n 0, 1) := by decide +kernel
theorem d_GR_init_47 : decode b_GR_init 47 = .ok (.new 21, 3) := by decide +kernel
theorem d_GR_init_50 : decode b_GR_init 50 = .ok (.dup, 1) := by decide +kernel
theorem d_GR_init_51 : decode b_GR_init 51 = .ok (.aload_n 0, 1) := by decide +kernel
theorem d_GR_init_52 : decode b_GR_init 52 = .ok (.getfield 9, 3) := by decide +kernel
theorem d_GR_init_55 : decode b_GR_init 55 = .ok (.iload_n 2, 1) := by decide +kernel
theorem d_GR_init_56 : decode b_GR_init 56 = .ok (.iadd, 1) := by decide +kernel
theorem d_GR_init_57 : decode b_GR_init 57 = .ok (.sipush 256, 3) := by decide +kernel
theorem d_GR_init_60 : decode b_GR_init 60 = .ok (.invokespecial 23, 3) := by decide +kernel
theorem d_GR_init_63 : decode b_GR_init 63 = .ok (.putfield 26, 3) := by decide +kernel
theorem d_GR_init_66 : decode b_GR_init 66 = .ok (.aload_n 0, 1) := by decide +kernel
theorem d_GR_init_67 : decode b_GR_init 67 = .ok (.new 21, 3) := by decide +kernel
theorem d_GR_init_70 : decode b_GR_init 70 = .ok (.dup, 1) := by decide +kernel
theorem d_GR_init_71 : decode b_GR_init 71 = .ok (.aload_n 0, 1) := by decide +kernel
theorem d_GR_init_72 : decode b_GR_init 72 = .ok (.getfield 9, 3) := by decide +kernel
theorem d_GR_init_75 : decode b_GR_init 75 = .ok (.iload_n 2, 1) := by decide +kernel
theorem d_GR_init_76 : decode b_GR_init 76 = .ok (.iadd, 1) := by decide +kernel
theorem d_GR_init_77 : decode b_GR_init 77 = .ok (.iconst 1, 1) := by decide +kernel
theorem d_GR_init_78 : decode b_GR_init 78 = .ok (.iadd, 1) := by decide +kernel
theorem d_GR_init_79 : decode b_GR_init 79 = .ok (.sipush 128, 3) := by decide +kernel
theorem d_GR_init_82 : decode b_GR_init 82 = .ok (.invokespecial 23, 3) := by decide +kernel
theorem d_GR_init_85 : decode b_GR_init 85 = .ok (.putfield 30, 3) := by decide +kernel
theorem d_GR_init_88 : decode b_GR_init 88 = .ok (.return_, 1) := by decide +kernel
theorem d_GR_layOut_0 : decode b_GR_layOut 0 = .ok (.aload_n 0, 1) := by decide +kernel
theorem d_GR_layOut_1 : decode b_GR_layOut 1 = .ok (.getfield 26, 3) := by decide +kernel
theorem d_GR_layOut_4 : decode b_GR_layOut 4 = .ok (.iload_n 1, 1) := by decide +kernel
theorem d_GR_layOut_5 : decode b_GR_layOut 5 = .ok (.aload_n 0, 1) := by decide +kernel
theorem d_GR_layOut_6 : decode b_GR_layOut 6 = .ok (.getfield 15, 3) := by decide +kernel
theorem d_GR_layOut_9 : decode b_GR_layOut 9 = .ok (.invokevirtual 33, 3) := by decide +kernel
theorem d_GR_layOut_12 : decode b_GR_layOut 12 = .ok (.aload_n 0, 1) := by decide +kernel
theorem d_GR_layOut_13 : decode b_GR_layOut 13 = .ok (.getfield 30, 3) := by decide +kernel
theorem d_GR_layOut_16 : decode b_GR_layOut 16 = .ok (.sipush 128, 3) := by decide +kernel
theorem d_GR_layOut_19 : decode b_GR_layOut 19 = .ok (.aload_n 0, 1) := by decide +kernel
theorem d_GR_layOut_20 : decode b_GR_layOut 20 = .ok (.getfield 9, 3) := by decide +kernel
theorem d_GR_layOut_23 : decode b_GR_layOut 23 = .ok (.ifCond .ne 8, 3) := by decide +kernel
theorem d_GR_layOut_26 : decode b_GR_layOut 26 = .ok (.bipush 10, 2) := by decide +kernel
theorem d_GR_layOut_28 : decode b_GR_layOut 28 = .ok (.goto 4, 3) := by decide +kernel
theorem d_GR_layOut_31 : decode b_GR_layOut 31 = .ok (.iconst 0, 1) := by decide +kernel
theorem d_GR_layOut_32 : decode b_GR_layOut 32 = .ok (.invokevirtual 33, 3) := by decide +kernel
theorem d_GR_layOut_35 : decode b_GR_layOut 35 = .ok (.aload_n 0, 1) := by decide +kernel
theorem d_GR_layOut_36 : decode b_GR_layOut 36 = .ok (.iconst 0, 1) := by decide +kernel
theorem d_GR_layOut_37 : decode b_GR_layOut 37 = .ok (.putfield 36, 3) := by decide +kernel
theorem d_GR_layOut_40 : decode b_GR_layOut 40 = .ok (.return_, 1) := by decide +kernel
theorem d_GR_bitmapIn_0 : decode b_GR_bitmapIn 0 = .ok (.iload_n 1, 1) := by decide +kernel
theorem d_GR_bitmapIn_1 : decode b_GR_bitmapIn 1 = .ok (.aload_n 0, 1) := by decide +kernel
theorem d_GR_bitmapIn_2 : decode b_GR_bitmapIn 2 = .ok (.getfield 26, 3) := by decide +kernel
theorem d_GR_bitmapIn_5 : decode b_GR_bitmapIn 5 = .ok (.getfield 39, 3) := by decide +kernel
theorem d_GR_bitmapIn_8 : decode b_GR_bitmapIn 8 = .ok (.if_icmp .ne 8, 3) := by decide +kernel
theorem d_GR_bitmapIn_11 : decode b_GR_bitmapIn 11 = .ok (.aload_n 0, 1) := by decide +kernel
theorem d_GR_bitmapIn_12 : decode b_GR_bitmapIn 12 = .ok (.getfield 26, 3) := by decide +kernel
theorem d_GR_bitmapIn_15 : decode b_GR_bitmapIn 15 = .ok (.areturn, 1) := by decide +kernel
theorem d_GR_bitmapIn_16 : decode b_GR_bitmapIn 16 = .ok (.iload_n 1, 1) := by decide +kernel
theorem d_GR_bitmapIn_17 : decode b_GR_bitmapIn 17 = .ok (.aload_n 0, 1) := by decide +kernel
theorem d_GR_bitmapIn_18 : decode b_GR_bitmapIn 18 = .ok (.getfield 30, 3) := by decide +kernel
theorem d_GR_bitmapIn_21 : decode b_GR_bitmapIn 21 = .ok (.getfield 39, 3) := by decide +kernel
theorem d_GR_bitmapIn_24 : decode b_GR_bitmapIn 24 = .ok (.if_icmp .ne 10, 3) := by decide +kernel
theorem d_GR_bitmapIn_27 : decode b_GR_bitmapIn 27 = .ok (.aload_n 0, 1) := by decide +kernel
theorem d_GR_bitmapIn_28 : decode b_GR_bitmapIn 28 = .ok (.getfield 30, 3) := by decide +kernel
theorem d_GR_bitmapIn_31 : decode b_GR_bitmapIn 31 = .ok (.goto 4, 3) := by decide +kernel
theorem d_GR_bitmapIn_34 : decode b_GR_bitmapIn 34 = .ok (.aconst_null, 1) := by decide +kernel
theorem d_GR_bitmapIn_35 : decode b_GR_bitmapIn 35 = .ok (.areturn, 1) := by decide +kernel
theorem d_GR_hasFileAndBlock_0 : decode b_GR_hasFileAndBlock 0 = .ok (.aload_n 0, 1) := by decide +kernel
theorem d_GR_hasFileAndBlock_1 : decode b_GR_hasFileAndBlock 1 = .ok (.getfield 30, 3) := by decide +kernel
theorem d_GR_hasFileAndBlock_4 : decode b_GR_hasFileAndBlock 4 = .ok (.getfield 42, 3) := by decide +kernel
theorem d_GR_hasFileAndBlock_7 : decode b_GR_hasFileAndBlock 7 = .ok (.iconst 1, 1) := by decide +kernel
theorem d_GR_hasFileAndBlock_8 : decode b_GR_hasFileAndBlock 8 = .ok (.if_icmp .lt 18, 3) := by decide +kernel
theorem d_GR_hasFileAndBlock_11 : decode b_GR_hasFileAndBlock 11 = .ok (.aload_n 0, 1) := by decide +kernel
theorem d_GR_hasFileAndBlock_12 : decode b_GR_hasFileAndBlock 12 = .ok (.getfield 26, 3) := by decide +kernel
theorem d_GR_hasFileAndBlock_15 : decode b_GR_hasFileAndBlock 15 = .ok (.getfield 42, 3) := by decide +kernel
theorem d_GR_hasFileAndBlock_18 : decode b_GR_hasFileAndBlock 18 = .ok (.iconst 1, 1) := by decide +kernel
theorem d_GR_hasFileAndBlock_19 : decode b_GR_hasFileAndBlock 19 = .ok (.if_icmp .lt 7, 3) := by decide +kernel
theorem d_GR_hasFileAndBlock_22 : decode b_GR_hasFileAndBlock 22 = .ok (.iconst 1, 1) := by decide +kernel
theorem d_GR_hasFileAndBlock_23 : decode b_GR_hasFileAndBlock 23 = .ok (.goto 4, 3) := by decide +kernel
theorem d_GR_hasFileAndBlock_26 : decode b_GR_hasFileAndBlock 26 = .ok (.iconst 0, 1) := by decide +kernel
theorem d_GR_hasFileAndBlock_27 : decode b_GR_hasFileAndBlock 27 = .ok (.ireturn, 1) := by decide +kernel
theorem d_GR_occupyFile_0 : decode b_GR_occupyFile 0 = .ok (.aload_n 0, 1) := by decide +kernel
theorem d_GR_occupyFile_1 : decode b_GR_occupyFile 1 = .ok (.getfield 30, 3) := by decide +kernel
theorem d_GR_occupyFile_4 : decode b_GR_occupyFile 4 = .ok (.invokevirtual 45, 3) := by decide +kernel
theorem d_GR_occupyFile_7 : decode b_GR_occupyFile 7 = .ok (.istore_n 2, 1) := by decide +kernel
theorem d_GR_occupyFile_8 : decode b_GR_occupyFile 8 = .ok (.aload_n 0, 1) := by decide +kernel
theorem d_GR_occupyFile_9 : decode b_GR_occupyFile 9 = .ok (.getfield 30, 3) := by decide +kernel
theorem d_GR_occupyFile_12 : decode b_GR_occupyFile 12 = .ok (.iload_n 2, 1) := by decide +kernel
theorem d_GR_occupyFile_13 : decode b_GR_occupyFile 13 = .ok (.invokevirtual 49, 3) := by decide +kernel
theorem d_GR_occupyFile_16 : decode b_GR_occupyFile 16 = .ok (.iload_n 1, 1) := by decide +kernel
theorem d_GR_occupyFile_17 : decode b_GR_occupyFile 17 = .ok (.ifCond .eq 13, 3) := by decide +kernel
theorem d_GR_occupyFile_20 : decode b_GR_occupyFile 20 = .ok (.aload_n 0, 1) := by decide +kernel
theorem d_GR_occupyFile_21 : decode b_GR_occupyFile 21 = .ok (.dup, 1) := by decide +kernel
theorem d_GR_occupyFile_22 : decode b_GR_occupyFile 22 = .ok (.getfield 36, 3) := by decide +kernel
theorem d_GR_occupyFile_25 : decode b_GR_occupyFile 25 = .ok (.iconst 1, 1) := by decide +kernel
theorem d_GR_occupyFile_26 : decode b_GR_occupyFile 26 = .ok (.iadd, 1) := by decide +kernel
theorem d_GR_occupyFile_27 : decode b_GR_occupyFile 27 = .ok (.putfield 36, 3) := by decide +kernel
theorem d_GR_occupyFile_30 : decode b_GR_occupyFile 30 = .ok (.aload_n 0, 1) := by decide +kernel
theorem d_GR_occupyFile_31 : decode b_GR_occupyFile 31 = .ok (.getfield 9, 3) := by decide +kernel
theorem d_GR_occupyFile_34 : decode b_GR_occupyFile 34 = .ok (.sipush 256, 3) := by decide +kernel
theorem d_GR_occupyFile_37 : decode b_GR_occupyFile 37 = .ok (.idiv, 1) := by decide +kernel
theorem d_GR_occupyFile_38 : decode b_GR_occupyFile 38 = .ok (.sipush 128, 3) := by decide +kernel
theorem d_GR_occupyFile_41 : decode b_GR_occupyFile 41 = .ok (.imul, 1) := by decide +kernel
theorem d_GR_occupyFile_42 : decode b_GR_occupyFile 42 = .ok (.iload_n 2, 1) := by decide +kernel
theorem d_GR_occupyFile_43 : decode b_GR_occupyFile 43 = .ok (.iadd, 1) := by decide +kernel
theorem d_GR_occupyFile_44 : decode b_GR_occupyFile 44 = .ok (.iconst 1, 1) := by decide +kernel
theorem d_GR_occupyFile_45 : decode b_GR_occupyFile 45 = .ok (.iadd, 1) := by decide +kernel
theorem d_GR_occupyFile_46 : decode b_GR_occupyFile 46 = .ok (.ireturn, 1) := by decide +kernel
theorem d_GR_freeFile_0 : decode b_GR_freeFile 0 = .ok (.aload_n 0, 1) := by decide +kernel
theorem d_GR_freeFile_1 : decode b_GR_freeFile 1 = .ok (.getfield 30, 3) := by decide +kernel
theorem d_GR_freeFile_4 : decode b_GR_freeFile 4 = .ok (.iload_n 1, 1) := by decide +kernel
theorem d_GR_freeFile_5 : decode b_GR_freeFile 5 = .ok (.invokevirtual 53, 3) := by decide +kernel
theorem d_GR_freeFile_8 : decode b_GR_freeFile 8 = .ok (.iload_n 2, 1) := by decide +kernel
theorem d_GR_freeFile_9 : decode b_GR_freeFile 9 = .ok (.ifCond .eq 13, 3) := by decide +kernel
theorem d_GR_freeFile_12 : decode b_GR_freeFile 12 = .ok (.aload_n 0, 1) := by decide +kernel
theorem d_GR_freeFile_13 : decode b_GR_freeFile 13 = .ok (.dup, 1) := by decide +kernel
theorem d_GR_freeFile_14 : decode b_GR_freeFile 14 = .ok (.getfield 36, 3) := by decide +kernel
theorem d_GR_freeFile_17 : decode b_GR_freeFile 17 = .ok (.iconst 1, 1) := by decide +kernel
theorem d_GR_freeFile_18 : decode b_GR_freeFile 18 = .ok (.isub, 1) := by decide +kernel
theorem d_GR_freeFile_19 : decode b_GR_freeFile 19 = .ok (.putfield 36, 3) := by decide +kernel
theorem d_GR_freeFile_22 : decode b_GR_freeFile 22 = .ok (.return_, 1) := by decide +kernel
theorem d_GR_tableByte_0 : decode b_GR_tableByte 0 = .ok (.iload_n 1, 1) := by decide +kernel
theorem d_GR_tableByte_1 : decode b_GR_tableByte 1 = .ok (.iconst 4, 1) := by decide +kernel
theorem d_GR_tableByte_2 : decode b_GR_tableByte 2 = .ok (.if_icmp .ge 15, 3) := by decide +kernel
theorem d_GR_tableByte_5 : decode b_GR_tableByte 5 = .ok (.aload_n 0, 1) := by decide +kernel
theorem d_GR_tableByte_6 : decode b_GR_tableByte 6 = .ok (.getfield 26, 3) := by decide +kernel
theorem d_GR_tableByte_9 : decode b_GR_tableByte 9 = .ok (.getfield 39, 3) := by decide +kernel
theorem d_GR_tableByte_12 : decode b_GR_tableByte 12 = .ok (.iload_n 1, 1) := by decide +kernel
theorem d_GR_tableByte_13 : decode b_GR_tableByte 13 = .ok (.invokestatic 56, 3) := by decide +kernel
theorem d_GR_tableByte_16 : decode b_GR_tableByte 16 = .ok (.ireturn, 1) := by decide +kernel
theorem d_GR_tableByte_17 : decode b_GR_tableByte 17 = .ok (.iload_n 1, 1) := by decide +kernel
theorem d_GR_tableByte_18 : decode b_GR_tableByte 18 = .ok (.bipush 8, 2) := by decide +kernel
theorem d_GR_tableByte_20 : decode b_GR_tableByte 20 = .ok (.if_icmp .ge 17, 3) := by decide +kernel
theorem d_GR_tableByte_23 : decode b_GR_tableByte 23 = .ok (.aload_n 0, 1) := by decide +kernel
theorem d_GR_tableByte_24 : decode b_GR_tableByte 24 = .ok (.getfield 30, 3) := by decide +kernel
theorem d_GR_tableByte_27 : decode b_GR_tableByte 27 = .ok (.getfield 39, 3) := by decide +kernel
theorem d_GR_tableByte_30 : decode b_GR_tableByte 30 = .ok (.iload_n 1, 1) := by decide +kernel
theorem d_GR_tableByte_31 : decode b_GR_tableByte 31 = .ok (.iconst 4, 1) := by decide +kernel
theorem d_GR_tableByte_32 : decode b_GR_tableByte 32 = .ok (.isub, 1) := by decide +kernel
theorem d_GR_tableByte_33 : decode b_GR_tableByte 33 = .ok (.invokestatic 56, 3) := by decide +kernel
theorem d_GR_tableByte_36 : decode b_GR_tableByte 36 = .ok (.ireturn, 1) := by decide +kernel
theorem d_GR_tableByte_37 : decode b_GR_tableByte 37 = .ok (.iload_n 1, 1) := by decide +kernel
theorem d_GR_tableByte_38 : decode b_GR_tableByte 38 = .ok (.bipush 12, 2) := by decide +kernel
theorem d_GR_tableByte_40 : decode b_GR_tableByte 40 = .ok (.if_icmp .ge 15, 3) := by decide +kernel
theorem d_GR_tableByte_43 : decode b_GR_tableByte 43 = .ok (.aload_n 0, 1) := by decide +kernel
theorem d_GR_tableByte_44 : decode b_GR_tableByte 44 = .ok (.getfield 18, 3) := by decide +kernel
theorem d_GR_tableByte_47 : decode b_GR_tableByte 47 = .ok (.iload_n 1, 1) := by decide +kernel
theorem d_GR_tableByte_48 : decode b_GR_tableByte 48 = .ok (.bipush 8, 2) := by decide +kernel
theorem d_GR_tableByte_50 : decode b_GR_tableByte 50 = .ok (.isub, 1) := by decide +kernel
theorem d_GR_tableByte_51 : decode b_GR_tableByte 51 = .ok (.invokestatic 56, 3) := by decide +kernel
theorem d_GR_tableByte_54 : decode b_GR_tableByte 54 = .ok (.ireturn, 1) := by decide +kernel
theorem d_GR_tableByte_55 : decode b_GR_tableByte 55 = .ok (.iload_n 1, 1) := by decide +kernel
theorem d_GR_tableByte_56 : decode b_GR_tableByte 56 = .ok (.bipush 14, 2) := by decide +kernel
theorem d_GR_tableByte_58 : decode b_GR_tableByte 58 = .ok (.if_icmp .ge 18, 3) := by decide +kernel
theorem d_GR_tableByte_61 : decode b_GR_tableByte 61 = .ok (.aload_n 0, 1) := by decide +kernel
theorem d_GR_tableByte_62 : decode b_GR_tableByte 62 = .ok (.getfield 26, 3) := by decide +kernel
theorem d_GR_tableByte_65 : decode b_GR_tableByte 65 = .ok (.getfield 42, 3) := by decide +kernel
theorem d_GR_tableByte_68 : decode b_GR_tableByte 68 = .ok (.iload_n 1, 1) := by decide +kernel
theorem d_GR_tableByte_69 : decode b_GR_tableByte 69 = .ok (.bipush 12, 2) := by decide +kernel
theorem d_GR_tableByte_71 : decode b_GR_tableByte 71 = .ok (.isub, 1) := by decide +kernel
theorem d_GR_tableByte_72 : decode b_GR_tableByte 72 = .ok (.invokestatic 56, 3) := by decide +kernel
theorem d_GR_tableByte_75 : decode b_GR_tableByte 75 = .ok (.ireturn, 1) := by decide +kernel
theorem d_GR_tableByte_76 : decode b_GR_tableByte 76 = .ok (.iload_n 1, 1) := by decide +kernel
theorem d_GR_tableByte_77 : decode b_GR_tableByte 77 = .ok (.bipush 16, 2) := by decide +kernel
theorem d_GR_tableByte_79 : decode b_GR_tableByte 79 = .ok (.if_icmp .ge 18, 3) := by decide +kernel
theorem d_GR_tableByte_82 : decode b_GR_tableByte 82 = .ok (.aload_n 0, 1) := by decide +kernel
theorem d_GR_tableByte_83 : decode b_GR_tableByte 83 = .ok (.getfield 30, 3) := by decide +kernel
theorem d_GR_tableByte_86 : decode b_GR_tableByte 86 = .ok (.getfield 42, 3) := by decide +kernel
theorem d_GR_tableByte_89 : decode b_GR_tableByte 89 = .ok (.iload_n 1, 1) := by decide +kernel
theorem d_GR_tableByte_90 : decode b_GR_tableByte 90 = .ok (.bipush 14, 2) := by decide +kernel
theorem d_GR_tableByte_92 : decode b_GR_tableByte 92 = .ok (.isub, 1) := by decide +kernel
theorem d_GR_tableByte_93 : decode b_GR_tableByte 93 = .ok (.invokestatic 56, 3) := by decide +kernel
theorem d_GR_tableByte_96 : decode b_GR_tableByte 96 = .ok (.ireturn, 1) := by decide +kernel
theorem d_GR_tableByte_97 : decode b_GR_tableByte 97 = .ok (.iload_n 1, 1) := by decide +kernel
theorem d_GR_tableByte_98 : decode b_GR_tableByte 98 = .ok (.bipush 18, 2) := by decide +kernel
theorem d_GR_tableByte_100 : decode b_GR_tableByte 100 = .ok (.if_icmp .ge 17, 3) := by decide +kernel
theorem d_GR_tableByte_103 : decode b_GR_tableByte 103 = .ok (.aload_n 0, 1) := by decide +kernel
theorem d_GR_tableByte_104 : decode b_GR_tableByte 104 = .ok (.getfield 36, 3) := by decide +kernel
theorem d_GR_tableByte_107 : decode b_GR_tableByte 107 = .ok (.iload_n 1, 1) := by decide +kernel
theorem d_GR_tableByte_108 : decode b_GR_tableByte 108 = .ok (.bipush 16, 2) := by decide +kernel
theorem d_GR_tableByte_110 : decode b_GR_tableByte 110 = .ok (.isub, 1) := by decide +kernel
theorem d_GR_tableByte_111 : decode b_GR_tableByte 111 = .ok (.invokestatic 56, 3) := by decide +kernel
theorem d_GR_tableByte_114 : decode b_GR_tableByte 114 = .ok (.goto 4, 3) := by decide +kernel
theorem d_GR_tableByte_117 : decode b_GR_tableByte 117 = .ok (.iconst 0, 1) := by decide +kernel
theorem d_GR_tableByte_118 : decode b_GR_tableByte 118 = .ok (.ireturn, 1) := by decide +kernel
theorem d_GR_byteOfNumber_0 : decode b_GR_byteOfNumber 0 = .ok (.iload_n 0, 1) := by decide +kernel
theorem d_GR_byteOfNumber_1 : decode b_GR_byteOfNumber 1 = .ok (.bipush 8, 2) := by decide +kernel
theorem d_GR_byteOfNumber_3 : decode b_GR_byteOfNumber 3 = .ok (.iload_n 1, 1) := by decide +kernel
theorem d_GR_byteOfNumber_4 : decode b_GR_byteOfNumber 4 = .ok (.imul, 1) := by decide +kernel
theorem d_GR_byteOfNumber_5 : decode b_GR_byteOfNumber 5 = .ok (.ishr, 1) := by decide +kernel
theorem d_GR_byteOfNumber_6 : decode b_GR_byteOfNumber 6 = .ok (.sipush 255, 3) := by decide +kernel
theorem d_GR_byteOfNumber_9 : decode b_GR_byteOfNumber 9 = .ok (.iand, 1) := by decide +kernel
theorem d_GR_byteOfNumber_10 : decode b_GR_byteOfNumber 10 = .ok (.ireturn, 1) := by decide +kernel
