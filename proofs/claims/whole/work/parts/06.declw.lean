theorem d_LW_lay_0 : decode b_LW_lay 0 = .ok (.aload_n 3, 1) := by decide +kernel
theorem d_LW_lay_1 : decode b_LW_lay 1 = .ok (.iconst 0, 1) := by decide +kernel
theorem d_LW_lay_2 : decode b_LW_lay 2 = .ok (.aload_n 0, 1) := by decide +kernel
theorem d_LW_lay_3 : decode b_LW_lay 3 = .ok (.iload_n 1, 1) := by decide +kernel
theorem d_LW_lay_4 : decode b_LW_lay 4 = .ok (.iload_n 2, 1) := by decide +kernel
theorem d_LW_lay_5 : decode b_LW_lay 5 = .ok (.invokevirtual 7, 3) := by decide +kernel
theorem d_LW_lay_8 : decode b_LW_lay 8 = .ok (.i2l, 1) := by decide +kernel
theorem d_LW_lay_9 : decode b_LW_lay 9 = .ok (.lastore, 1) := by decide +kernel
theorem d_LW_lay_10 : decode b_LW_lay 10 = .ok (.goto 7, 3) := by decide +kernel
theorem d_LW_lay_13 : decode b_LW_lay 13 = .ok (.astore 4, 2) := by decide +kernel
theorem d_LW_lay_15 : decode b_LW_lay 15 = .ok (.iconst 1, 1) := by decide +kernel
theorem d_LW_lay_16 : decode b_LW_lay 16 = .ok (.ireturn, 1) := by decide +kernel
theorem d_LW_lay_17 : decode b_LW_lay 17 = .ok (.iconst 0, 1) := by decide +kernel
theorem d_LW_lay_18 : decode b_LW_lay 18 = .ok (.ireturn, 1) := by decide +kernel
theorem d_LW_reserve_0 : decode b_LW_reserve 0 = .ok (.aload_n 2, 1) := by decide +kernel
theorem d_LW_reserve_1 : decode b_LW_reserve 1 = .ok (.iconst 0, 1) := by decide +kernel
theorem d_LW_reserve_2 : decode b_LW_reserve 2 = .ok (.aload_n 0, 1) := by decide +kernel
theorem d_LW_reserve_3 : decode b_LW_reserve 3 = .ok (.iload_n 1, 1) := by decide +kernel
theorem d_LW_reserve_4 : decode b_LW_reserve 4 = .ok (.invokevirtual 15, 3) := by decide +kernel
theorem d_LW_reserve_7 : decode b_LW_reserve 7 = .ok (.i2l, 1) := by decide +kernel
theorem d_LW_reserve_8 : decode b_LW_reserve 8 = .ok (.lastore, 1) := by decide +kernel
theorem d_LW_reserve_9 : decode b_LW_reserve 9 = .ok (.goto 6, 3) := by decide +kernel
theorem d_LW_reserve_12 : decode b_LW_reserve 12 = .ok (.astore_n 3, 1) := by decide +kernel
theorem d_LW_reserve_13 : decode b_LW_reserve 13 = .ok (.iconst 1, 1) := by decide +kernel
theorem d_LW_reserve_14 : decode b_LW_reserve 14 = .ok (.ireturn, 1) := by decide +kernel
theorem d_LW_reserve_15 : decode b_LW_reserve 15 = .ok (.iconst 0, 1) := by decide +kernel
theorem d_LW_reserve_16 : decode b_LW_reserve 16 = .ok (.ireturn, 1) := by decide +kernel
theorem d_LW_take_0 : decode b_LW_take 0 = .ok (.aload 4, 2) := by decide +kernel
theorem d_LW_take_2 : decode b_LW_take 2 = .ok (.iconst 0, 1) := by decide +kernel
theorem d_LW_take_3 : decode b_LW_take 3 = .ok (.aload_n 0, 1) := by decide +kernel
theorem d_LW_take_4 : decode b_LW_take 4 = .ok (.iload_n 1, 1) := by decide +kernel
theorem d_LW_take_5 : decode b_LW_take 5 = .ok (.iload_n 2, 1) := by decide +kernel
theorem d_LW_take_6 : decode b_LW_take 6 = .ok (.iload_n 3, 1) := by decide +kernel
theorem d_LW_take_7 : decode b_LW_take 7 = .ok (.invokevirtual 19, 3) := by decide +kernel
theorem d_LW_take_10 : decode b_LW_take 10 = .ok (.i2l, 1) := by decide +kernel
theorem d_LW_take_11 : decode b_LW_take 11 = .ok (.lastore, 1) := by decide +kernel
theorem d_LW_take_12 : decode b_LW_take 12 = .ok (.goto 11, 3) := by decide +kernel
theorem d_LW_take_15 : decode b_LW_take 15 = .ok (.astore 5, 2) := by decide +kernel
theorem d_LW_take_17 : decode b_LW_take 17 = .ok (.iconst 1, 1) := by decide +kernel
theorem d_LW_take_18 : decode b_LW_take 18 = .ok (.ireturn, 1) := by decide +kernel
theorem d_LW_take_19 : decode b_LW_take 19 = .ok (.astore 5, 2) := by decide +kernel
theorem d_LW_take_21 : decode b_LW_take 21 = .ok (.iconst 2, 1) := by decide +kernel
theorem d_LW_take_22 : decode b_LW_take 22 = .ok (.ireturn, 1) := by decide +kernel
theorem d_LW_take_23 : decode b_LW_take 23 = .ok (.iconst 0, 1) := by decide +kernel
theorem d_LW_take_24 : decode b_LW_take 24 = .ok (.ireturn, 1) := by decide +kernel
theorem d_LW_give_0 : decode b_LW_give 0 = .ok (.aload_n 3, 1) := by decide +kernel
theorem d_LW_give_1 : decode b_LW_give 1 = .ok (.iconst 0, 1) := by decide +kernel
theorem d_LW_give_2 : decode b_LW_give 2 = .ok (.aload_n 0, 1) := by decide +kernel
theorem d_LW_give_3 : decode b_LW_give 3 = .ok (.iload_n 1, 1) := by decide +kernel
theorem d_LW_give_4 : decode b_LW_give 4 = .ok (.iload_n 2, 1) := by decide +kernel
theorem d_LW_give_5 : decode b_LW_give 5 = .ok (.invokevirtual 25, 3) := by decide +kernel
theorem d_LW_give_8 : decode b_LW_give 8 = .ok (.i2l, 1) := by decide +kernel
theorem d_LW_give_9 : decode b_LW_give 9 = .ok (.lastore, 1) := by decide +kernel
theorem d_LW_give_10 : decode b_LW_give 10 = .ok (.goto 11, 3) := by decide +kernel
theorem d_LW_give_13 : decode b_LW_give 13 = .ok (.astore 4, 2) := by decide +kernel
theorem d_LW_give_15 : decode b_LW_give 15 = .ok (.iconst 1, 1) := by decide +kernel
theorem d_LW_give_16 : decode b_LW_give 16 = .ok (.ireturn, 1) := by decide +kernel
theorem d_LW_give_17 : decode b_LW_give 17 = .ok (.astore 4, 2) := by decide +kernel
theorem d_LW_give_19 : decode b_LW_give 19 = .ok (.iconst 2, 1) := by decide +kernel
theorem d_LW_give_20 : decode b_LW_give 20 = .ok (.ireturn, 1) := by decide +kernel
theorem d_LW_give_21 : decode b_LW_give 21 = .ok (.iconst 0, 1) := by decide +kernel
theorem d_LW_give_22 : decode b_LW_give 22 = .ok (.ireturn, 1) := by decide +kernel
theorem d_LW_takeFile_0 : decode b_LW_takeFile 0 = .ok (.aload_n 3, 1) := by decide +kernel
theorem d_LW_takeFile_1 : decode b_LW_takeFile 1 = .ok (.iconst 0, 1) := by decide +kernel
theorem d_LW_takeFile_2 : decode b_LW_takeFile 2 = .ok (.aload_n 0, 1) := by decide +kernel
theorem d_LW_takeFile_3 : decode b_LW_takeFile 3 = .ok (.iload_n 1, 1) := by decide +kernel
theorem d_LW_takeFile_4 : decode b_LW_takeFile 4 = .ok (.iload_n 2, 1) := by decide +kernel
theorem d_LW_takeFile_5 : decode b_LW_takeFile 5 = .ok (.invokevirtual 28, 3) := by decide +kernel
theorem d_LW_takeFile_8 : decode b_LW_takeFile 8 = .ok (.i2l, 1) := by decide +kernel
theorem d_LW_takeFile_9 : decode b_LW_takeFile 9 = .ok (.lastore, 1) := by decide +kernel
theorem d_LW_takeFile_10 : decode b_LW_takeFile 10 = .ok (.goto 11, 3) := by decide +kernel
theorem d_LW_takeFile_13 : decode b_LW_takeFile 13 = .ok (.astore 4, 2) := by decide +kernel
theorem d_LW_takeFile_15 : decode b_LW_takeFile 15 = .ok (.iconst 1, 1) := by decide +kernel
theorem d_LW_takeFile_16 : decode b_LW_takeFile 16 = .ok (.ireturn, 1) := by decide +kernel
theorem d_LW_takeFile_17 : decode b_LW_takeFile 17 = .ok (.astore 4, 2) := by decide +kernel
theorem d_LW_takeFile_19 : decode b_LW_takeFile 19 = .ok (.iconst 2, 1) := by decide +kernel
theorem d_LW_takeFile_20 : decode b_LW_takeFile 20 = .ok (.ireturn, 1) := by decide +kernel
theorem d_LW_takeFile_21 : decode b_LW_takeFile 21 = .ok (.iconst 0, 1) := by decide +kernel
theorem d_LW_takeFile_22 : decode b_LW_takeFile 22 = .ok (.ireturn, 1) := by decide +kernel
theorem d_LW_giveFile_0 : decode b_LW_giveFile 0 = .ok (.aload_n 3, 1) := by decide +kernel
theorem d_LW_giveFile_1 : decode b_LW_giveFile 1 = .ok (.iconst 0, 1) := by decide +kernel
theorem d_LW_giveFile_2 : decode b_LW_giveFile 2 = .ok (.aload_n 0, 1) := by decide +kernel
theorem d_LW_giveFile_3 : decode b_LW_giveFile 3 = .ok (.iload_n 1, 1) := by decide +kernel
theorem d_LW_giveFile_4 : decode b_LW_giveFile 4 = .ok (.iload_n 2, 1) := by decide +kernel
theorem d_LW_giveFile_5 : decode b_LW_giveFile 5 = .ok (.invokevirtual 32, 3) := by decide +kernel
theorem d_LW_giveFile_8 : decode b_LW_giveFile 8 = .ok (.i2l, 1) := by decide +kernel
theorem d_LW_giveFile_9 : decode b_LW_giveFile 9 = .ok (.lastore, 1) := by decide +kernel
theorem d_LW_giveFile_10 : decode b_LW_giveFile 10 = .ok (.goto 11, 3) := by decide +kernel
theorem d_LW_giveFile_13 : decode b_LW_giveFile 13 = .ok (.astore 4, 2) := by decide +kernel
theorem d_LW_giveFile_15 : decode b_LW_giveFile 15 = .ok (.iconst 1, 1) := by decide +kernel
theorem d_LW_giveFile_16 : decode b_LW_giveFile 16 = .ok (.ireturn, 1) := by decide +kernel
theorem d_LW_giveFile_17 : decode b_LW_giveFile 17 = .ok (.astore 4, 2) := by decide +kernel
theorem d_LW_giveFile_19 : decode b_LW_giveFile 19 = .ok (.iconst 2, 1) := by decide +kernel
theorem d_LW_giveFile_20 : decode b_LW_giveFile 20 = .ok (.ireturn, 1) := by decide +kernel
theorem d_LW_giveFile_21 : decode b_LW_giveFile 21 = .ok (.iconst 0, 1) := by decide +kernel
theorem d_LW_giveFile_22 : decode b_LW_giveFile 22 = .ok (.ireturn, 1) := by decide +kernel
theorem d_LW_isTaken_0 : decode b_LW_isTaken 0 = .ok (.aload_n 3, 1) := by decide +kernel
theorem d_LW_isTaken_1 : decode b_LW_isTaken 1 = .ok (.iconst 0, 1) := by decide +kernel
theorem d_LW_isTaken_2 : decode b_LW_isTaken 2 = .ok (.aload_n 0, 1) := by decide +kernel
theorem d_LW_isTaken_3 : decode b_LW_isTaken 3 = .ok (.iload_n 1, 1) := by decide +kernel
theorem d_LW_isTaken_4 : decode b_LW_isTaken 4 = .ok (.iload_n 2, 1) := by decide +kernel
theorem d_LW_isTaken_5 : decode b_LW_isTaken 5 = .ok (.invokevirtual 35, 3) := by decide +kernel
theorem d_LW_isTaken_8 : decode b_LW_isTaken 8 = .ok (.ifCond .eq 7, 3) := by decide +kernel
theorem d_LW_isTaken_11 : decode b_LW_isTaken 11 = .ok (.lconst 1, 1) := by decide +kernel
theorem d_LW_isTaken_12 : decode b_LW_isTaken 12 = .ok (.goto 4, 3) := by decide +kernel
theorem d_LW_isTaken_15 : decode b_LW_isTaken 15 = .ok (.lconst 0, 1) := by decide +kernel
theorem d_LW_isTaken_16 : decode b_LW_isTaken 16 = .ok (.lastore, 1) := by decide +kernel
theorem d_LW_isTaken_17 : decode b_LW_isTaken 17 = .ok (.goto 7, 3) := by decide +kernel
theorem d_LW_isTaken_20 : decode b_LW_isTaken 20 = .ok (.astore 4, 2) := by decide +kernel
theorem d_LW_isTaken_22 : decode b_LW_isTaken 22 = .ok (.iconst 1, 1) := by decide +kernel
theorem d_LW_isTaken_23 : decode b_LW_isTaken 23 = .ok (.ireturn, 1) := by decide +kernel
theorem d_LW_isTaken_24 : decode b_LW_isTaken 24 = .ok (.iconst 0, 1) := by decide +kernel
theorem d_LW_isTaken_25 : decode b_LW_isTaken 25 = .ok (.ireturn, 1) := by decide +kernel
theorem d_LW_group_0 : decode b_LW_group 0 = .ok (.aload_n 3, 1) := by decide +kernel
theorem d_LW_group_1 : decode b_LW_group 1 = .ok (.iconst 0, 1) := by decide +kernel
theorem d_LW_group_2 : decode b_LW_group 2 = .ok (.aload_n 0, 1) := by decide +kernel
theorem d_LW_group_3 : decode b_LW_group 3 = .ok (.iload_n 1, 1) := by decide +kernel
theorem d_LW_group_4 : decode b_LW_group 4 = .ok (.iload_n 2, 1) := by decide +kernel
theorem d_LW_group_5 : decode b_LW_group 5 = .ok (.invokevirtual 39, 3) := by decide +kernel
theorem d_LW_group_8 : decode b_LW_group 8 = .ok (.i2l, 1) := by decide +kernel
theorem d_LW_group_9 : decode b_LW_group 9 = .ok (.lastore, 1) := by decide +kernel
theorem d_LW_group_10 : decode b_LW_group 10 = .ok (.goto 7, 3) := by decide +kernel
theorem d_LW_group_13 : decode b_LW_group 13 = .ok (.astore 4, 2) := by decide +kernel
theorem d_LW_group_15 : decode b_LW_group 15 = .ok (.iconst 1, 1) := by decide +kernel
theorem d_LW_group_16 : decode b_LW_group 16 = .ok (.ireturn, 1) := by decide +kernel
theorem d_LW_group_17 : decode b_LW_group 17 = .ok (.iconst 0, 1) := by decide +kernel
theorem d_LW_group_18 : decode b_LW_group 18 = .ok (.ireturn, 1) := by decide +kernel
theorem d_LW_byteOf_0 : decode b_LW_byteOf 0 = .ok (.aload_n 3, 1) := by decide +kernel
theorem d_LW_byteOf_1 : decode b_LW_byteOf 1 = .ok (.iconst 0, 1) := by decide +kernel
theorem d_LW_byteOf_2 : decode b_LW_byteOf 2 = .ok (.aload_n 0, 1) := by decide +kernel
theorem d_LW_byteOf_3 : decode b_LW_byteOf 3 = .ok (.iload_n 1, 1) := by decide +kernel
theorem d_LW_byteOf_4 : decode b_LW_byteOf 4 = .ok (.iload_n 2, 1) := by decide +kernel
theorem d_LW_byteOf_5 : decode b_LW_byteOf 5 = .ok (.invokevirtual 42, 3) := by decide +kernel
theorem d_LW_byteOf_8 : decode b_LW_byteOf 8 = .ok (.i2l, 1) := by decide +kernel
theorem d_LW_byteOf_9 : decode b_LW_byteOf 9 = .ok (.lastore, 1) := by decide +kernel
theorem d_LW_byteOf_10 : decode b_LW_byteOf 10 = .ok (.goto 7, 3) := by decide +kernel
theorem d_LW_byteOf_13 : decode b_LW_byteOf 13 = .ok (.astore 4, 2) := by decide +kernel
theorem d_LW_byteOf_15 : decode b_LW_byteOf 15 = .ok (.iconst 1, 1) := by decide +kernel
theorem d_LW_byteOf_16 : decode b_LW_byteOf 16 = .ok (.ireturn, 1) := by decide +kernel
theorem d_LW_byteOf_17 : decode b_LW_byteOf 17 = .ok (.iconst 0, 1) := by decide +kernel
theorem d_LW_byteOf_18 : decode b_LW_byteOf 18 = .ok (.ireturn, 1) := by decide +kernel
theorem d_LW_isTold_0 : decode b_LW_isTold 0 = .ok (.aload_n 2, 1) := by decide +kernel
theorem d_LW_isTold_1 : decode b_LW_isTold 1 = .ok (.iconst 0, 1) := by decide +kernel
theorem d_LW_isTold_2 : decode b_LW_isTold 2 = .ok (.aload_n 0, 1) := by decide +kernel
theorem d_LW_isTold_3 : decode b_LW_isTold 3 = .ok (.iload_n 1, 1) := by decide +kernel
theorem d_LW_isTold_4 : decode b_LW_isTold 4 = .ok (.invokevirtual 47, 3) := by decide +kernel
theorem d_LW_isTold_7 : decode b_LW_isTold 7 = .ok (.ifCond .eq 7, 3) := by decide +kernel
theorem d_LW_isTold_10 : decode b_LW_isTold 10 = .ok (.lconst 1, 1) := by decide +kernel
theorem d_LW_isTold_11 : decode b_LW_isTold 11 = .ok (.goto 4, 3) := by decide +kernel
theorem d_LW_isTold_14 : decode b_LW_isTold 14 = .ok (.lconst 0, 1) := by decide +kernel
theorem d_LW_isTold_15 : decode b_LW_isTold 15 = .ok (.lastore, 1) := by decide +kernel
theorem d_LW_isTold_16 : decode b_LW_isTold 16 = .ok (.goto 6, 3) := by decide +kernel
theorem d_LW_isTold_19 : decode b_LW_isTold 19 = .ok (.astore_n 3, 1) := by decide +kernel
theorem d_LW_isTold_20 : decode b_LW_isTold 20 = .ok (.iconst 1, 1) := by decide +kernel
theorem d_LW_isTold_21 : decode b_LW_isTold 21 = .ok (.ireturn, 1) := by decide +kernel
theorem d_LW_isTold_22 : decode b_LW_isTold 22 = .ok (.iconst 0, 1) := by decide +kernel
theorem d_LW_isTold_23 : decode b_LW_isTold 23 = .ok (.ireturn, 1) := by decide +kernel
theorem d_LW_law_0 : decode code 0 = .ok (.new 8, 3) := by decide +kernel
theorem d_LW_law_3 : decode code 3 = .ok (.dup, 1) := by decide +kernel
theorem d_LW_law_4 : decode code 4 = .ok (.invokespecial 51, 3) := by decide +kernel
theorem d_LW_law_7 : decode code 7 = .ok (.astore_n 1, 1) := by decide +kernel
theorem d_LW_law_8 : decode code 8 = .ok (.new 52, 3) := by decide +kernel
theorem d_LW_law_11 : decode code 11 = .ok (.dup, 1) := by decide +kernel
theorem d_LW_law_12 : decode code 12 = .ok (.invokespecial 54, 3) := by decide +kernel
theorem d_LW_law_15 : decode code 15 = .ok (.astore_n 2, 1) := by decide +kernel
theorem d_LW_law_16 : decode code 16 = .ok (.iconst 1, 1) := by decide +kernel
theorem d_LW_law_17 : decode code 17 = .ok (.newarray .long, 2) := by decide +kernel
theorem d_LW_law_19 : decode code 19 = .ok (.astore_n 3, 1) := by decide +kernel
theorem d_LW_law_20 : decode code 20 = .ok (.iconst 0, 1) := by decide +kernel
theorem d_LW_law_21 : decode code 21 = .ok (.istore 4, 2) := by decide +kernel
theorem d_LW_law_23 : decode code 23 = .ok (.iload 4, 2) := by decide +kernel
theorem d_LW_law_25 : decode code 25 = .ok (.aload_n 0, 1) := by decide +kernel
theorem d_LW_law_26 : decode code 26 = .ok (.arraylength, 1) := by decide +kernel
theorem d_LW_law_27 : decode code 27 = .ok (.iconst 4, 1) := by decide +kernel
theorem d_LW_law_28 : decode code 28 = .ok (.isub, 1) := by decide +kernel
theorem d_LW_law_29 : decode code 29 = .ok (.if_icmp .gt 833, 3) := by decide +kernel
theorem d_LW_law_32 : decode code 32 = .ok (.aload_n 0, 1) := by decide +kernel
theorem d_LW_law_33 : decode code 33 = .ok (.iload 4, 2) := by decide +kernel
theorem d_LW_law_35 : decode code 35 = .ok (.iaload, 1) := by decide +kernel
theorem d_LW_law_36 : decode code 36 = .ok (.bipush 15, 2) := by decide +kernel
theorem d_LW_law_38 : decode code 38 = .ok (.iand, 1) := by decide +kernel
theorem d_LW_law_39 : decode code 39 = .ok (.tableswitch 817 0 11 #[61, 129, 185, 281, 294, 362, 446, 530, 605, 673, 741, 804], 61) := by decide +kernel
theorem d_LW_law_100 : decode code 100 = .ok (.aload_n 1, 1) := by decide +kernel
theorem d_LW_law_101 : decode code 101 = .ok (.aload_n 0, 1) := by decide +kernel
theorem d_LW_law_102 : decode code 102 = .ok (.iload 4, 2) := by decide +kernel
theorem d_LW_law_104 : decode code 104 = .ok (.iconst 1, 1) := by decide +kernel
theorem d_LW_law_105 : decode code 105 = .ok (.iadd, 1) := by decide +kernel
theorem d_LW_law_106 : decode code 106 = .ok (.iaload, 1) := by decide +kernel
theorem d_LW_law_107 : decode code 107 = .ok (.aload_n 0, 1) := by decide +kernel
theorem d_LW_law_108 : decode code 108 = .ok (.iload 4, 2) := by decide +kernel
theorem d_LW_law_110 : decode code 110 = .ok (.iconst 2, 1) := by decide +kernel
theorem d_LW_law_111 : decode code 111 = .ok (.iadd, 1) := by decide +kernel
theorem d_LW_law_112 : decode code 112 = .ok (.iaload, 1) := by decide +kernel
theorem d_LW_law_113 : decode code 113 = .ok (.aload_n 3, 1) := by decide +kernel
theorem d_LW_law_114 : decode code 114 = .ok (.invokestatic 55, 3) := by decide +kernel
theorem d_LW_law_117 : decode code 117 = .ok (.istore 5, 2) := by decide +kernel
theorem d_LW_law_119 : decode code 119 = .ok (.aload_n 2, 1) := by decide +kernel
theorem d_LW_law_120 : decode code 120 = .ok (.aload_n 0, 1) := by decide +kernel
theorem d_LW_law_121 : decode code 121 = .ok (.iload 4, 2) := by decide +kernel
theorem d_LW_law_123 : decode code 123 = .ok (.iconst 1, 1) := by decide +kernel
theorem d_LW_law_124 : decode code 124 = .ok (.iadd, 1) := by decide +kernel
theorem d_LW_law_125 : decode code 125 = .ok (.iaload, 1) := by decide +kernel
theorem d_LW_law_126 : decode code 126 = .ok (.aload_n 0, 1) := by decide +kernel
theorem d_LW_law_127 : decode code 127 = .ok (.iload 4, 2) := by decide +kernel
theorem d_LW_law_129 : decode code 129 = .ok (.iconst 2, 1) := by decide +kernel
theorem d_LW_law_130 : decode code 130 = .ok (.iadd, 1) := by decide +kernel
theorem d_LW_law_131 : decode code 131 = .ok (.iaload, 1) := by decide +kernel
theorem d_LW_law_132 : decode code 132 = .ok (.invokevirtual 60, 3) := by decide +kernel
theorem d_LW_law_135 : decode code 135 = .ok (.istore 6, 2) := by decide +kernel
theorem d_LW_law_137 : decode code 137 = .ok (.aload_n 2, 1) := by decide +kernel
theorem d_LW_law_138 : decode code 138 = .ok (.invokevirtual 61, 3) := by decide +kernel
theorem d_LW_law_141 : decode code 141 = .ok (.iload 5, 2) := by decide +kernel
theorem d_LW_law_143 : decode code 143 = .ok (.if_icmp .eq 5, 3) := by decide +kernel
theorem d_LW_law_146 : decode code 146 = .ok (.iconst 0, 1) := by decide +kernel
theorem d_LW_law_147 : decode code 147 = .ok (.ireturn, 1) := by decide +kernel
theorem d_LW_law_148 : decode code 148 = .ok (.iload 5, 2) := by decide +kernel
theorem d_LW_law_150 : decode code 150 = .ok (.ifCond .ne 15, 3) := by decide +kernel
theorem d_LW_law_153 : decode code 153 = .ok (.aload_n 3, 1) := by decide +kernel
theorem d_LW_law_154 : decode code 154 = .ok (.iconst 0, 1) := by decide +kernel
theorem d_LW_law_155 : decode code 155 = .ok (.laload, 1) := by decide +kernel
theorem d_LW_law_156 : decode code 156 = .ok (.iload 6, 2) := by decide +kernel
theorem d_LW_law_158 : decode code 158 = .ok (.i2l, 1) := by decide +kernel
theorem d_LW_law_159 : decode code 159 = .ok (.lcmp, 1) := by decide +kernel
theorem d_LW_law_160 : decode code 160 = .ok (.ifCond .eq 5, 3) := by decide +kernel
theorem d_LW_law_163 : decode code 163 = .ok (.iconst 0, 1) := by decide +kernel
theorem d_LW_law_164 : decode code 164 = .ok (.ireturn, 1) := by decide +kernel
theorem d_LW_law_165 : decode code 165 = .ok (.goto 691, 3) := by decide +kernel
theorem d_LW_law_168 : decode code 168 = .ok (.aload_n 1, 1) := by decide +kernel
theorem d_LW_law_169 : decode code 169 = .ok (.aload_n 0, 1) := by decide +kernel
theorem d_LW_law_170 : decode code 170 = .ok (.iload 4, 2) := by decide +kernel
theorem d_LW_law_172 : decode code 172 = .ok (.iconst 1, 1) := by decide +kernel
theorem d_LW_law_173 : decode code 173 = .ok (.iadd, 1) := by decide +kernel
theorem d_LW_law_174 : decode code 174 = .ok (.iaload, 1) := by decide +kernel
theorem d_LW_law_175 : decode code 175 = .ok (.aload_n 3, 1) := by decide +kernel
theorem d_LW_law_176 : decode code 176 = .ok (.invokestatic 65, 3) := by decide +kernel
theorem d_LW_law_179 : decode code 179 = .ok (.istore 5, 2) := by decide +kernel
theorem d_LW_law_181 : decode code 181 = .ok (.aload_n 2, 1) := by decide +kernel
theorem d_LW_law_182 : decode code 182 = .ok (.aload_n 0, 1) := by decide +kernel
theorem d_LW_law_183 : decode code 183 = .ok (.iload 4, 2) := by decide +kernel
theorem d_LW_law_185 : decode code 185 = .ok (.iconst 1, 1) := by decide +kernel
theorem d_LW_law_186 : decode code 186 = .ok (.iadd, 1) := by decide +kernel
theorem d_LW_law_187 : decode code 187 = .ok (.iaload, 1) := by decide +kernel
theorem d_LW_law_188 : decode code 188 = .ok (.invokevirtual 68, 3) := by decide +kernel
theorem d_LW_law_191 : decode code 191 = .ok (.istore 6, 2) := by decide +kernel
theorem d_LW_law_193 : decode code 193 = .ok (.aload_n 2, 1) := by decide +kernel
theorem d_LW_law_194 : decode code 194 = .ok (.invokevirtual 61, 3) := by decide +kernel
theorem d_LW_law_197 : decode code 197 = .ok (.iload 5, 2) := by decide +kernel
theorem d_LW_law_199 : decode code 199 = .ok (.if_icmp .eq 5, 3) := by decide +kernel
theorem d_LW_law_202 : decode code 202 = .ok (.iconst 0, 1) := by decide +kernel
theorem d_LW_law_203 : decode code 203 = .ok (.ireturn, 1) := by decide +kernel
theorem d_LW_law_204 : decode code 204 = .ok (.iload 5, 2) := by decide +kernel
theorem d_LW_law_206 : decode code 206 = .ok (.ifCond .ne 15, 3) := by decide +kernel
theorem d_LW_law_209 : decode code 209 = .ok (.aload_n 3, 1) := by decide +kernel
theorem d_LW_law_210 : decode code 210 = .ok (.iconst 0, 1) := by decide +kernel
theorem d_LW_law_211 : decode code 211 = .ok (.laload, 1) := by decide +kernel
theorem d_LW_law_212 : decode code 212 = .ok (.iload 6, 2) := by decide +kernel
theorem d_LW_law_214 : decode code 214 = .ok (.i2l, 1) := by decide +kernel
theorem d_LW_law_215 : decode code 215 = .ok (.lcmp, 1) := by decide +kernel
theorem d_LW_law_216 : decode code 216 = .ok (.ifCond .eq 5, 3) := by decide +kernel
theorem d_LW_law_219 : decode code 219 = .ok (.iconst 0, 1) := by decide +kernel
theorem d_LW_law_220 : decode code 220 = .ok (.ireturn, 1) := by decide +kernel
theorem d_LW_law_221 : decode code 221 = .ok (.goto 635, 3) := by decide +kernel
theorem d_LW_law_224 : decode code 224 = .ok (.aload_n 1, 1) := by decide +kernel
theorem d_LW_law_225 : decode code 225 = .ok (.aload_n 0, 1) := by decide +kernel
theorem d_LW_law_226 : decode code 226 = .ok (.iload 4, 2) := by decide +kernel
theorem d_LW_law_228 : decode code 228 = .ok (.iconst 1, 1) := by decide +kernel
theorem d_LW_law_229 : decode code 229 = .ok (.iadd, 1) := by decide +kernel
theorem d_LW_law_230 : decode code 230 = .ok (.iaload, 1) := by decide +kernel
theorem d_LW_law_231 : decode code 231 = .ok (.aload_n 0, 1) := by decide +kernel
theorem d_LW_law_232 : decode code 232 = .ok (.iload 4, 2) := by decide +kernel
theorem d_LW_law_234 : decode code 234 = .ok (.iconst 2, 1) := by decide +kernel
theorem d_LW_law_235 : decode code 235 = .ok (.iadd, 1) := by decide +kernel
theorem d_LW_law_236 : decode code 236 = .ok (.iaload, 1) := by decide +kernel
theorem d_LW_law_237 : decode code 237 = .ok (.aload_n 0, 1) := by decide +kernel
theorem d_LW_law_238 : decode code 238 = .ok (.iload 4, 2) := by decide +kernel
theorem d_LW_law_240 : decode code 240 = .ok (.iconst 3, 1) := by decide +kernel
theorem d_LW_law_241 : decode code 241 = .ok (.iadd, 1) := by decide +kernel
theorem d_LW_law_242 : decode code 242 = .ok (.iaload, 1) := by decide +kernel
theorem d_LW_law_243 : decode code 243 = .ok (.ifCond .eq 7, 3) := by decide +kernel
theorem d_LW_law_246 : decode code 246 = .ok (.iconst 1, 1) := by decide +kernel
theorem d_LW_law_247 : decode code 247 = .ok (.goto 4, 3) := by decide +kernel
theorem d_LW_law_250 : decode code 250 = .ok (.iconst 0, 1) := by decide +kernel
theorem d_LW_law_251 : decode code 251 = .ok (.aload_n 3, 1) := by decide +kernel
theorem d_LW_law_252 : decode code 252 = .ok (.invokestatic 69, 3) := by decide +kernel
theorem d_LW_law_255 : decode code 255 = .ok (.istore 5, 2) := by decide +kernel
theorem d_LW_law_257 : decode code 257 = .ok (.aload_n 2, 1) := by decide +kernel
theorem d_LW_law_258 : decode code 258 = .ok (.aload_n 0, 1) := by decide +kernel
theorem d_LW_law_259 : decode code 259 = .ok (.iload 4, 2) := by decide +kernel
theorem d_LW_law_261 : decode code 261 = .ok (.iconst 1, 1) := by decide +kernel
theorem d_LW_law_262 : decode code 262 = .ok (.iadd, 1) := by decide +kernel
theorem d_LW_law_263 : decode code 263 = .ok (.iaload, 1) := by decide +kernel
theorem d_LW_law_264 : decode code 264 = .ok (.aload_n 0, 1) := by decide +kernel
theorem d_LW_law_265 : decode code 265 = .ok (.iload 4, 2) := by decide +kernel
theorem d_LW_law_267 : decode code 267 = .ok (.iconst 2, 1) := by decide +kernel
theorem d_LW_law_268 : decode code 268 = .ok (.iadd, 1) := by decide +kernel
theorem d_LW_law_269 : decode code 269 = .ok (.iaload, 1) := by decide +kernel
theorem d_LW_law_270 : decode code 270 = .ok (.aload_n 0, 1) := by decide +kernel
theorem d_LW_law_271 : decode code 271 = .ok (.iload 4, 2) := by decide +kernel
theorem d_LW_law_273 : decode code 273 = .ok (.iconst 3, 1) := by decide +kernel
theorem d_LW_law_274 : decode code 274 = .ok (.iadd, 1) := by decide +kernel
theorem d_LW_law_275 : decode code 275 = .ok (.iaload, 1) := by decide +kernel
theorem d_LW_law_276 : decode code 276 = .ok (.ifCond .eq 7, 3) := by decide +kernel
theorem d_LW_law_279 : decode code 279 = .ok (.iconst 1, 1) := by decide +kernel
theorem d_LW_law_280 : decode code 280 = .ok (.goto 4, 3) := by decide +kernel
theorem d_LW_law_283 : decode code 283 = .ok (.iconst 0, 1) := by decide +kernel
theorem d_LW_law_284 : decode code 284 = .ok (.invokevirtual 72, 3) := by decide +kernel
theorem d_LW_law_287 : decode code 287 = .ok (.istore 6, 2) := by decide +kernel
theorem d_LW_law_289 : decode code 289 = .ok (.aload_n 2, 1) := by decide +kernel
theorem d_LW_law_290 : decode code 290 = .ok (.invokevirtual 61, 3) := by decide +kernel
theorem d_LW_law_293 : decode code 293 = .ok (.iload 5, 2) := by decide +kernel
theorem d_LW_law_295 : decode code 295 = .ok (.if_icmp .eq 5, 3) := by decide +kernel
theorem d_LW_law_298 : decode code 298 = .ok (.iconst 0, 1) := by decide +kernel
theorem d_LW_law_299 : decode code 299 = .ok (.ireturn, 1) := by decide +kernel
theorem d_LW_law_300 : decode code 300 = .ok (.iload 5, 2) := by decide +kernel
theorem d_LW_law_302 : decode code 302 = .ok (.ifCond .ne 15, 3) := by decide +kernel
theorem d_LW_law_305 : decode code 305 = .ok (.aload_n 3, 1) := by decide +kernel
theorem d_LW_law_306 : decode code 306 = .ok (.iconst 0, 1) := by decide +kernel
theorem d_LW_law_307 : decode code 307 = .ok (.laload, 1) := by decide +kernel
theorem d_LW_law_308 : decode code 308 = .ok (.iload 6, 2) := by decide +kernel
theorem d_LW_law_310 : decode code 310 = .ok (.i2l, 1) := by decide +kernel
theorem d_LW_law_311 : decode code 311 = .ok (.lcmp, 1) := by decide +kernel
theorem d_LW_law_312 : decode code 312 = .ok (.ifCond .eq 5, 3) := by decide +kernel
theorem d_LW_law_315 : decode code 315 = .ok (.iconst 0, 1) := by decide +kernel
theorem d_LW_law_316 : decode code 316 = .ok (.ireturn, 1) := by decide +kernel
theorem d_LW_law_317 : decode code 317 = .ok (.goto 539, 3) := by decide +kernel
theorem d_LW_law_320 : decode code 320 = .ok (.aload_n 1, 1) := by decide +kernel
theorem d_LW_law_321 : decode code 321 = .ok (.invokevirtual 73, 3) := by decide +kernel
theorem d_LW_law_324 : decode code 324 = .ok (.aload_n 2, 1) := by decide +kernel
theorem d_LW_law_325 : decode code 325 = .ok (.invokevirtual 76, 3) := by decide +kernel
theorem d_LW_law_328 : decode code 328 = .ok (.if_icmp .eq 528, 3) := by decide +kernel
theorem d_LW_law_331 : decode code 331 = .ok (.iconst 0, 1) := by decide +kernel
theorem d_LW_law_332 : decode code 332 = .ok (.ireturn, 1) := by decide +kernel
theorem d_LW_law_333 : decode code 333 = .ok (.aload_n 1, 1) := by decide +kernel
theorem d_LW_law_334 : decode code 334 = .ok (.aload_n 0, 1) := by decide +kernel
theorem d_LW_law_335 : decode code 335 = .ok (.iload 4, 2) := by decide +kernel
theorem d_LW_law_337 : decode code 337 = .ok (.iconst 1, 1) := by decide +kernel
theorem d_LW_law_338 : decode code 338 = .ok (.iadd, 1) := by decide +kernel
theorem d_LW_law_339 : decode code 339 = .ok (.iaload, 1) := by decide +kernel
theorem d_LW_law_340 : decode code 340 = .ok (.aload_n 0, 1) := by decide +kernel
theorem d_LW_law_341 : decode code 341 = .ok (.iload 4, 2) := by decide +kernel
theorem d_LW_law_343 : decode code 343 = .ok (.iconst 2, 1) := by decide +kernel
theorem d_LW_law_344 : decode code 344 = .ok (.iadd, 1) := by decide +kernel
theorem d_LW_law_345 : decode code 345 = .ok (.iaload, 1) := by decide +kernel
theorem d_LW_law_346 : decode code 346 = .ok (.aload_n 3, 1) := by decide +kernel
theorem d_LW_law_347 : decode code 347 = .ok (.invokestatic 77, 3) := by decide +kernel
theorem d_LW_law_350 : decode code 350 = .ok (.istore 5, 2) := by decide +kernel
theorem d_LW_law_352 : decode code 352 = .ok (.aload_n 2, 1) := by decide +kernel
theorem d_LW_law_353 : decode code 353 = .ok (.aload_n 0, 1) := by decide +kernel
theorem d_LW_law_354 : decode code 354 = .ok (.iload 4, 2) := by decide +kernel
theorem d_LW_law_356 : decode code 356 = .ok (.iconst 1, 1) := by decide +kernel
theorem d_LW_law_357 : decode code 357 = .ok (.iadd, 1) := by decide +kernel
theorem d_LW_law_358 : decode code 358 = .ok (.iaload, 1) := by decide +kernel
theorem d_LW_law_359 : decode code 359 = .ok (.aload_n 0, 1) := by decide +kernel
theorem d_LW_law_360 : decode code 360 = .ok (.iload 4, 2) := by decide +kernel
theorem d_LW_law_362 : decode code 362 = .ok (.iconst 2, 1) := by decide +kernel
theorem d_LW_law_363 : decode code 363 = .ok (.iadd, 1) := by decide +kernel
theorem d_LW_law_364 : decode code 364 = .ok (.iaload, 1) := by decide +kernel
theorem d_LW_law_365 : decode code 365 = .ok (.invokevirtual 79, 3) := by decide +kernel
theorem d_LW_law_368 : decode code 368 = .ok (.istore 6, 2) := by decide +kernel
theorem d_LW_law_370 : decode code 370 = .ok (.aload_n 2, 1) := by decide +kernel
theorem d_LW_law_371 : decode code 371 = .ok (.invokevirtual 61, 3) := by decide +kernel
theorem d_LW_law_374 : decode code 374 = .ok (.iload 5, 2) := by decide +kernel
theorem d_LW_law_376 : decode code 376 = .ok (.if_icmp .eq 5, 3) := by decide +kernel
theorem d_LW_law_379 : decode code 379 = .ok (.iconst 0, 1) := by decide +kernel
theorem d_LW_law_380 : decode code 380 = .ok (.ireturn, 1) := by decide +kernel
theorem d_LW_law_381 : decode code 381 = .ok (.iload 5, 2) := by decide +kernel
theorem d_LW_law_383 : decode code 383 = .ok (.ifCond .ne 15, 3) := by decide +kernel
theorem d_LW_law_386 : decode code 386 = .ok (.aload_n 3, 1) := by decide +kernel
theorem d_LW_law_387 : decode code 387 = .ok (.iconst 0, 1) := by decide +kernel
theorem d_LW_law_388 : decode code 388 = .ok (.laload, 1) := by decide +kernel
theorem d_LW_law_389 : decode code 389 = .ok (.iload 6, 2) := by decide +kernel
theorem d_LW_law_391 : decode code 391 = .ok (.i2l, 1) := by decide +kernel
theorem d_LW_law_392 : decode code 392 = .ok (.lcmp, 1) := by decide +kernel
theorem d_LW_law_393 : decode code 393 = .ok (.ifCond .eq 5, 3) := by decide +kernel
theorem d_LW_law_396 : decode code 396 = .ok (.iconst 0, 1) := by decide +kernel
theorem d_LW_law_397 : decode code 397 = .ok (.ireturn, 1) := by decide +kernel
theorem d_LW_law_398 : decode code 398 = .ok (.goto 458, 3) := by decide +kernel
theorem d_LW_law_401 : decode code 401 = .ok (.aload_n 1, 1) := by decide +kernel
theorem d_LW_law_402 : decode code 402 = .ok (.aload_n 0, 1) := by decide +kernel
theorem d_LW_law_403 : decode code 403 = .ok (.iload 4, 2) := by decide +kernel
theorem d_LW_law_405 : decode code 405 = .ok (.iconst 1, 1) := by decide +kernel
theorem d_LW_law_406 : decode code 406 = .ok (.iadd, 1) := by decide +kernel
theorem d_LW_law_407 : decode code 407 = .ok (.iaload, 1) := by decide +kernel
theorem d_LW_law_408 : decode code 408 = .ok (.aload_n 0, 1) := by decide +kernel
theorem d_LW_law_409 : decode code 409 = .ok (.iload 4, 2) := by decide +kernel
theorem d_LW_law_411 : decode code 411 = .ok (.iconst 2, 1) := by decide +kernel
theorem d_LW_law_412 : decode code 412 = .ok (.iadd, 1) := by decide +kernel
theorem d_LW_law_413 : decode code 413 = .ok (.iaload, 1) := by decide +kernel
theorem d_LW_law_414 : decode code 414 = .ok (.ifCond .eq 7, 3) := by decide +kernel
theorem d_LW_law_417 : decode code 417 = .ok (.iconst 1, 1) := by decide +kernel
theorem d_LW_law_418 : decode code 418 = .ok (.goto 4, 3) := by decide +kernel
theorem d_LW_law_421 : decode code 421 = .ok (.iconst 0, 1) := by decide +kernel
theorem d_LW_law_422 : decode code 422 = .ok (.aload_n 3, 1) := by decide +kernel
theorem d_LW_law_423 : decode code 423 = .ok (.invokestatic 80, 3) := by decide +kernel
theorem d_LW_law_426 : decode code 426 = .ok (.istore 5, 2) := by decide +kernel
theorem d_LW_law_428 : decode code 428 = .ok (.aload_n 2, 1) := by decide +kernel
theorem d_LW_law_429 : decode code 429 = .ok (.aload_n 0, 1) := by decide +kernel
theorem d_LW_law_430 : decode code 430 = .ok (.iload 4, 2) := by decide +kernel
theorem d_LW_law_432 : decode code 432 = .ok (.iconst 1, 1) := by decide +kernel
theorem d_LW_law_433 : decode code 433 = .ok (.iadd, 1) := by decide +kernel
theorem d_LW_law_434 : decode code 434 = .ok (.iaload, 1) := by decide +kernel
theorem d_LW_law_435 : decode code 435 = .ok (.aload_n 0, 1) := by decide +kernel
theorem d_LW_law_436 : decode code 436 = .ok (.iload 4, 2) := by decide +kernel
theorem d_LW_law_438 : decode code 438 = .ok (.iconst 2, 1) := by decide +kernel
theorem d_LW_law_439 : decode code 439 = .ok (.iadd, 1) := by decide +kernel
theorem d_LW_law_440 : decode code 440 = .ok (.iaload, 1) := by decide +kernel
theorem d_LW_law_441 : decode code 441 = .ok (.ifCond .eq 7, 3) := by decide +kernel
theorem d_LW_law_444 : decode code 444 = .ok (.iconst 1, 1) := by decide +kernel
theorem d_LW_law_445 : decode code 445 = .ok (.goto 4, 3) := by decide +kernel
theorem d_LW_law_448 : decode code 448 = .ok (.iconst 0, 1) := by decide +kernel
theorem d_LW_law_449 : decode code 449 = .ok (.invokevirtual 83, 3) := by decide +kernel
theorem d_LW_law_452 : decode code 452 = .ok (.istore 6, 2) := by decide +kernel
theorem d_LW_law_454 : decode code 454 = .ok (.aload_n 2, 1) := by decide +kernel
theorem d_LW_law_455 : decode code 455 = .ok (.invokevirtual 61, 3) := by decide +kernel
theorem d_LW_law_458 : decode code 458 = .ok (.iload 5, 2) := by decide +kernel
theorem d_LW_law_460 : decode code 460 = .ok (.if_icmp .eq 5, 3) := by decide +kernel
theorem d_LW_law_463 : decode code 463 = .ok (.iconst 0, 1) := by decide +kernel
theorem d_LW_law_464 : decode code 464 = .ok (.ireturn, 1) := by decide +kernel
theorem d_LW_law_465 : decode code 465 = .ok (.iload 5, 2) := by decide +kernel
theorem d_LW_law_467 : decode code 467 = .ok (.ifCond .ne 15, 3) := by decide +kernel
theorem d_LW_law_470 : decode code 470 = .ok (.aload_n 3, 1) := by decide +kernel
theorem d_LW_law_471 : decode code 471 = .ok (.iconst 0, 1) := by decide +kernel
theorem d_LW_law_472 : decode code 472 = .ok (.laload, 1) := by decide +kernel
theorem d_LW_law_473 : decode code 473 = .ok (.iload 6, 2) := by decide +kernel
theorem d_LW_law_475 : decode code 475 = .ok (.i2l, 1) := by decide +kernel
theorem d_LW_law_476 : decode code 476 = .ok (.lcmp, 1) := by decide +kernel
theorem d_LW_law_477 : decode code 477 = .ok (.ifCond .eq 5, 3) := by decide +kernel
theorem d_LW_law_480 : decode code 480 = .ok (.iconst 0, 1) := by decide +kernel
theorem d_LW_law_481 : decode code 481 = .ok (.ireturn, 1) := by decide +kernel
theorem d_LW_law_482 : decode code 482 = .ok (.goto 374, 3) := by decide +kernel
theorem d_LW_law_485 : decode code 485 = .ok (.aload_n 1, 1) := by decide +kernel
theorem d_LW_law_486 : decode code 486 = .ok (.aload_n 0, 1) := by decide +kernel
theorem d_LW_law_487 : decode code 487 = .ok (.iload 4, 2) := by decide +kernel
theorem d_LW_law_489 : decode code 489 = .ok (.iconst 1, 1) := by decide +kernel
theorem d_LW_law_490 : decode code 490 = .ok (.iadd, 1) := by decide +kernel
theorem d_LW_law_491 : decode code 491 = .ok (.iaload, 1) := by decide +kernel
theorem d_LW_law_492 : decode code 492 = .ok (.aload_n 0, 1) := by decide +kernel
theorem d_LW_law_493 : decode code 493 = .ok (.iload 4, 2) := by decide +kernel
theorem d_LW_law_495 : decode code 495 = .ok (.iconst 2, 1) := by decide +kernel
theorem d_LW_law_496 : decode code 496 = .ok (.iadd, 1) := by decide +kernel
theorem d_LW_law_497 : decode code 497 = .ok (.iaload, 1) := by decide +kernel
theorem d_LW_law_498 : decode code 498 = .ok (.ifCond .eq 7, 3) := by decide +kernel
theorem d_LW_law_501 : decode code 501 = .ok (.iconst 1, 1) := by decide +kernel
theorem d_LW_law_502 : decode code 502 = .ok (.goto 4, 3) := by decide +kernel
theorem d_LW_law_505 : decode code 505 = .ok (.iconst 0, 1) := by decide +kernel
theorem d_LW_law_506 : decode code 506 = .ok (.aload_n 3, 1) := by decide +kernel
theorem d_LW_law_507 : decode code 507 = .ok (.invokestatic 84, 3) := by decide +kernel
theorem d_LW_law_510 : decode code 510 = .ok (.istore 5, 2) := by decide +kernel
theorem d_LW_law_512 : decode code 512 = .ok (.aload_n 2, 1) := by decide +kernel
theorem d_LW_law_513 : decode code 513 = .ok (.aload_n 0, 1) := by decide +kernel
theorem d_LW_law_514 : decode code 514 = .ok (.iload 4, 2) := by decide +kernel
theorem d_LW_law_516 : decode code 516 = .ok (.iconst 1, 1) := by decide +kernel
theorem d_LW_law_517 : decode code 517 = .ok (.iadd, 1) := by decide +kernel
theorem d_LW_law_518 : decode code 518 = .ok (.iaload, 1) := by decide +kernel
theorem d_LW_law_519 : decode code 519 = .ok (.aload_n 0, 1) := by decide +kernel
theorem d_LW_law_520 : decode code 520 = .ok (.iload 4, 2) := by decide +kernel
theorem d_LW_law_522 : decode code 522 = .ok (.iconst 2, 1) := by decide +kernel
theorem d_LW_law_523 : decode code 523 = .ok (.iadd, 1) := by decide +kernel
theorem d_LW_law_524 : decode code 524 = .ok (.iaload, 1) := by decide +kernel
theorem d_LW_law_525 : decode code 525 = .ok (.ifCond .eq 7, 3) := by decide +kernel
theorem d_LW_law_528 : decode code 528 = .ok (.iconst 1, 1) := by decide +kernel
theorem d_LW_law_529 : decode code 529 = .ok (.goto 4, 3) := by decide +kernel
theorem d_LW_law_532 : decode code 532 = .ok (.iconst 0, 1) := by decide +kernel
theorem d_LW_law_533 : decode code 533 = .ok (.invokevirtual 86, 3) := by decide +kernel
theorem d_LW_law_536 : decode code 536 = .ok (.istore 6, 2) := by decide +kernel
theorem d_LW_law_538 : decode code 538 = .ok (.aload_n 2, 1) := by decide +kernel
theorem d_LW_law_539 : decode code 539 = .ok (.invokevirtual 61, 3) := by decide +kernel
theorem d_LW_law_542 : decode code 542 = .ok (.iload 5, 2) := by decide +kernel
theorem d_LW_law_544 : decode code 544 = .ok (.if_icmp .eq 5, 3) := by decide +kernel
theorem d_LW_law_547 : decode code 547 = .ok (.iconst 0, 1) := by decide +kernel
theorem d_LW_law_548 : decode code 548 = .ok (.ireturn, 1) := by decide +kernel
theorem d_LW_law_549 : decode code 549 = .ok (.iload 5, 2) := by decide +kernel
theorem d_LW_law_551 : decode code 551 = .ok (.ifCond .ne 15, 3) := by decide +kernel
theorem d_LW_law_554 : decode code 554 = .ok (.aload_n 3, 1) := by decide +kernel
theorem d_LW_law_555 : decode code 555 = .ok (.iconst 0, 1) := by decide +kernel
theorem d_LW_law_556 : decode code 556 = .ok (.laload, 1) := by decide +kernel
theorem d_LW_law_557 : decode code 557 = .ok (.iload 6, 2) := by decide +kernel
theorem d_LW_law_559 : decode code 559 = .ok (.i2l, 1) := by decide +kernel
theorem d_LW_law_560 : decode code 560 = .ok (.lcmp, 1) := by decide +kernel
theorem d_LW_law_561 : decode code 561 = .ok (.ifCond .eq 5, 3) := by decide +kernel
theorem d_LW_law_564 : decode code 564 = .ok (.iconst 0, 1) := by decide +kernel
theorem d_LW_law_565 : decode code 565 = .ok (.ireturn, 1) := by decide +kernel
theorem d_LW_law_566 : decode code 566 = .ok (.goto 290, 3) := by decide +kernel
theorem d_LW_law_569 : decode code 569 = .ok (.aload_n 1, 1) := by decide +kernel
theorem d_LW_law_570 : decode code 570 = .ok (.aload_n 0, 1) := by decide +kernel
theorem d_LW_law_571 : decode code 571 = .ok (.iload 4, 2) := by decide +kernel
theorem d_LW_law_573 : decode code 573 = .ok (.iconst 1, 1) := by decide +kernel
theorem d_LW_law_574 : decode code 574 = .ok (.iadd, 1) := by decide +kernel
theorem d_LW_law_575 : decode code 575 = .ok (.iaload, 1) := by decide +kernel
theorem d_LW_law_576 : decode code 576 = .ok (.aload_n 0, 1) := by decide +kernel
theorem d_LW_law_577 : decode code 577 = .ok (.iload 4, 2) := by decide +kernel
theorem d_LW_law_579 : decode code 579 = .ok (.iconst 2, 1) := by decide +kernel
theorem d_LW_law_580 : decode code 580 = .ok (.iadd, 1) := by decide +kernel
theorem d_LW_law_581 : decode code 581 = .ok (.iaload, 1) := by decide +kernel
theorem d_LW_law_582 : decode code 582 = .ok (.aload_n 3, 1) := by decide +kernel
theorem d_LW_law_583 : decode code 583 = .ok (.invokestatic 87, 3) := by decide +kernel
theorem d_LW_law_586 : decode code 586 = .ok (.istore 5, 2) := by decide +kernel
theorem d_LW_law_588 : decode code 588 = .ok (.aload_n 2, 1) := by decide +kernel
theorem d_LW_law_589 : decode code 589 = .ok (.aload_n 0, 1) := by decide +kernel
theorem d_LW_law_590 : decode code 590 = .ok (.iload 4, 2) := by decide +kernel
theorem d_LW_law_592 : decode code 592 = .ok (.iconst 1, 1) := by decide +kernel
theorem d_LW_law_593 : decode code 593 = .ok (.iadd, 1) := by decide +kernel
theorem d_LW_law_594 : decode code 594 = .ok (.iaload, 1) := by decide +kernel
theorem d_LW_law_595 : decode code 595 = .ok (.aload_n 0, 1) := by decide +kernel
theorem d_LW_law_596 : decode code 596 = .ok (.iload 4, 2) := by decide +kernel
theorem d_LW_law_598 : decode code 598 = .ok (.iconst 2, 1) := by decide +kernel
theorem d_LW_law_599 : decode code 599 = .ok (.iadd, 1) := by decide +kernel
theorem d_LW_law_600 : decode code 600 = .ok (.iaload, 1) := by decide +kernel
theorem d_LW_law_601 : decode code 601 = .ok (.invokevirtual 89, 3) := by decide +kernel
theorem d_LW_law_604 : decode code 604 = .ok (.istore 6, 2) := by decide +kernel
theorem d_LW_law_606 : decode code 606 = .ok (.aload_n 2, 1) := by decide +kernel
theorem d_LW_law_607 : decode code 607 = .ok (.invokevirtual 61, 3) := by decide +kernel
theorem d_LW_law_610 : decode code 610 = .ok (.iload 5, 2) := by decide +kernel
theorem d_LW_law_612 : decode code 612 = .ok (.if_icmp .eq 5, 3) := by decide +kernel
theorem d_LW_law_615 : decode code 615 = .ok (.iconst 0, 1) := by decide +kernel
theorem d_LW_law_616 : decode code 616 = .ok (.ireturn, 1) := by decide +kernel
theorem d_LW_law_617 : decode code 617 = .ok (.iload 5, 2) := by decide +kernel
theorem d_LW_law_619 : decode code 619 = .ok (.ifCond .ne 22, 3) := by decide +kernel
theorem d_LW_law_622 : decode code 622 = .ok (.aload_n 3, 1) := by decide +kernel
theorem d_LW_law_623 : decode code 623 = .ok (.iconst 0, 1) := by decide +kernel
theorem d_LW_law_624 : decode code 624 = .ok (.laload, 1) := by decide +kernel
theorem d_LW_law_625 : decode code 625 = .ok (.iload 6, 2) := by decide +kernel
theorem d_LW_law_627 : decode code 627 = .ok (.ifCond .eq 7, 3) := by decide +kernel
theorem d_LW_law_630 : decode code 630 = .ok (.lconst 1, 1) := by decide +kernel
theorem d_LW_law_631 : decode code 631 = .ok (.goto 4, 3) := by decide +kernel
theorem d_LW_law_634 : decode code 634 = .ok (.lconst 0, 1) := by decide +kernel
theorem d_LW_law_635 : decode code 635 = .ok (.lcmp, 1) := by decide +kernel
theorem d_LW_law_636 : decode code 636 = .ok (.ifCond .eq 5, 3) := by decide +kernel
theorem d_LW_law_639 : decode code 639 = .ok (.iconst 0, 1) := by decide +kernel
theorem d_LW_law_640 : decode code 640 = .ok (.ireturn, 1) := by decide +kernel
theorem d_LW_law_641 : decode code 641 = .ok (.goto 215, 3) := by decide +kernel
theorem d_LW_law_644 : decode code 644 = .ok (.aload_n 1, 1) := by decide +kernel
theorem d_LW_law_645 : decode code 645 = .ok (.aload_n 0, 1) := by decide +kernel
theorem d_LW_law_646 : decode code 646 = .ok (.iload 4, 2) := by decide +kernel
theorem d_LW_law_648 : decode code 648 = .ok (.iconst 1, 1) := by decide +kernel
theorem d_LW_law_649 : decode code 649 = .ok (.iadd, 1) := by decide +kernel
theorem d_LW_law_650 : decode code 650 = .ok (.iaload, 1) := by decide +kernel
theorem d_LW_law_651 : decode code 651 = .ok (.aload_n 0, 1) := by decide +kernel
theorem d_LW_law_652 : decode code 652 = .ok (.iload 4, 2) := by decide +kernel
theorem d_LW_law_654 : decode code 654 = .ok (.iconst 2, 1) := by decide +kernel
theorem d_LW_law_655 : decode code 655 = .ok (.iadd, 1) := by decide +kernel
theorem d_LW_law_656 : decode code 656 = .ok (.iaload, 1) := by decide +kernel
theorem d_LW_law_657 : decode code 657 = .ok (.aload_n 3, 1) := by decide +kernel
theorem d_LW_law_658 : decode code 658 = .ok (.invokestatic 90, 3) := by decide +kernel
theorem d_LW_law_661 : decode code 661 = .ok (.istore 5, 2) := by decide +kernel
theorem d_LW_law_663 : decode code 663 = .ok (.aload_n 2, 1) := by decide +kernel
theorem d_LW_law_664 : decode code 664 = .ok (.aload_n 0, 1) := by decide +kernel
theorem d_LW_law_665 : decode code 665 = .ok (.iload 4, 2) := by decide +kernel
theorem d_LW_law_667 : decode code 667 = .ok (.iconst 1, 1) := by decide +kernel
theorem d_LW_law_668 : decode code 668 = .ok (.iadd, 1) := by decide +kernel
theorem d_LW_law_669 : decode code 669 = .ok (.iaload, 1) := by decide +kernel
theorem d_LW_law_670 : decode code 670 = .ok (.aload_n 0, 1) := by decide +kernel
theorem d_LW_law_671 : decode code 671 = .ok (.iload 4, 2) := by decide +kernel
theorem d_LW_law_673 : decode code 673 = .ok (.iconst 2, 1) := by decide +kernel
theorem d_LW_law_674 : decode code 674 = .ok (.iadd, 1) := by decide +kernel
theorem d_LW_law_675 : decode code 675 = .ok (.iaload, 1) := by decide +kernel
theorem d_LW_law_676 : decode code 676 = .ok (.invokevirtual 92, 3) := by decide +kernel
theorem d_LW_law_679 : decode code 679 = .ok (.istore 6, 2) := by decide +kernel
theorem d_LW_law_681 : decode code 681 = .ok (.aload_n 2, 1) := by decide +kernel
theorem d_LW_law_682 : decode code 682 = .ok (.invokevirtual 61, 3) := by decide +kernel
theorem d_LW_law_685 : decode code 685 = .ok (.iload 5, 2) := by decide +kernel
theorem d_LW_law_687 : decode code 687 = .ok (.if_icmp .eq 5, 3) := by decide +kernel
theorem d_LW_law_690 : decode code 690 = .ok (.iconst 0, 1) := by decide +kernel
theorem d_LW_law_691 : decode code 691 = .ok (.ireturn, 1) := by decide +kernel
theorem d_LW_law_692 : decode code 692 = .ok (.iload 5, 2) := by decide +kernel
theorem d_LW_law_694 : decode code 694 = .ok (.ifCond .ne 15, 3) := by decide +kernel
theorem d_LW_law_697 : decode code 697 = .ok (.aload_n 3, 1) := by decide +kernel
theorem d_LW_law_698 : decode code 698 = .ok (.iconst 0, 1) := by decide +kernel
theorem d_LW_law_699 : decode code 699 = .ok (.laload, 1) := by decide +kernel
theorem d_LW_law_700 : decode code 700 = .ok (.iload 6, 2) := by decide +kernel
theorem d_LW_law_702 : decode code 702 = .ok (.i2l, 1) := by decide +kernel
theorem d_LW_law_703 : decode code 703 = .ok (.lcmp, 1) := by decide +kernel
theorem d_LW_law_704 : decode code 704 = .ok (.ifCond .eq 5, 3) := by decide +kernel
theorem d_LW_law_707 : decode code 707 = .ok (.iconst 0, 1) := by decide +kernel
theorem d_LW_law_708 : decode code 708 = .ok (.ireturn, 1) := by decide +kernel
theorem d_LW_law_709 : decode code 709 = .ok (.goto 147, 3) := by decide +kernel
theorem d_LW_law_712 : decode code 712 = .ok (.aload_n 1, 1) := by decide +kernel
theorem d_LW_law_713 : decode code 713 = .ok (.aload_n 0, 1) := by decide +kernel
theorem d_LW_law_714 : decode code 714 = .ok (.iload 4, 2) := by decide +kernel
theorem d_LW_law_716 : decode code 716 = .ok (.iconst 1, 1) := by decide +kernel
theorem d_LW_law_717 : decode code 717 = .ok (.iadd, 1) := by decide +kernel
theorem d_LW_law_718 : decode code 718 = .ok (.iaload, 1) := by decide +kernel
theorem d_LW_law_719 : decode code 719 = .ok (.aload_n 0, 1) := by decide +kernel
theorem d_LW_law_720 : decode code 720 = .ok (.iload 4, 2) := by decide +kernel
theorem d_LW_law_722 : decode code 722 = .ok (.iconst 2, 1) := by decide +kernel
theorem d_LW_law_723 : decode code 723 = .ok (.iadd, 1) := by decide +kernel
theorem d_LW_law_724 : decode code 724 = .ok (.iaload, 1) := by decide +kernel
theorem d_LW_law_725 : decode code 725 = .ok (.aload_n 3, 1) := by decide +kernel
theorem d_LW_law_726 : decode code 726 = .ok (.invokestatic 93, 3) := by decide +kernel
theorem d_LW_law_729 : decode code 729 = .ok (.istore 5, 2) := by decide +kernel
theorem d_LW_law_731 : decode code 731 = .ok (.aload_n 2, 1) := by decide +kernel
theorem d_LW_law_732 : decode code 732 = .ok (.aload_n 0, 1) := by decide +kernel
theorem d_LW_law_733 : decode code 733 = .ok (.iload 4, 2) := by decide +kernel
theorem d_LW_law_735 : decode code 735 = .ok (.iconst 1, 1) := by decide +kernel
theorem d_LW_law_736 : decode code 736 = .ok (.iadd, 1) := by decide +kernel
theorem d_LW_law_737 : decode code 737 = .ok (.iaload, 1) := by decide +kernel
theorem d_LW_law_738 : decode code 738 = .ok (.aload_n 0, 1) := by decide +kernel
theorem d_LW_law_739 : decode code 739 = .ok (.iload 4, 2) := by decide +kernel
theorem d_LW_law_741 : decode code 741 = .ok (.iconst 2, 1) := by decide +kernel
theorem d_LW_law_742 : decode code 742 = .ok (.iadd, 1) := by decide +kernel
theorem d_LW_law_743 : decode code 743 = .ok (.iaload, 1) := by decide +kernel
theorem d_LW_law_744 : decode code 744 = .ok (.invokevirtual 95, 3) := by decide +kernel
theorem d_LW_law_747 : decode code 747 = .ok (.istore 6, 2) := by decide +kernel
theorem d_LW_law_749 : decode code 749 = .ok (.aload_n 2, 1) := by decide +kernel
theorem d_LW_law_750 : decode code 750 = .ok (.invokevirtual 61, 3) := by decide +kernel
theorem d_LW_law_753 : decode code 753 = .ok (.iload 5, 2) := by decide +kernel
theorem d_LW_law_755 : decode code 755 = .ok (.if_icmp .eq 5, 3) := by decide +kernel
theorem d_LW_law_758 : decode code 758 = .ok (.iconst 0, 1) := by decide +kernel
theorem d_LW_law_759 : decode code 759 = .ok (.ireturn, 1) := by decide +kernel
theorem d_LW_law_760 : decode code 760 = .ok (.iload 5, 2) := by decide +kernel
theorem d_LW_law_762 : decode code 762 = .ok (.ifCond .ne 15, 3) := by decide +kernel
theorem d_LW_law_765 : decode code 765 = .ok (.aload_n 3, 1) := by decide +kernel
theorem d_LW_law_766 : decode code 766 = .ok (.iconst 0, 1) := by decide +kernel
theorem d_LW_law_767 : decode code 767 = .ok (.laload, 1) := by decide +kernel
theorem d_LW_law_768 : decode code 768 = .ok (.iload 6, 2) := by decide +kernel
theorem d_LW_law_770 : decode code 770 = .ok (.i2l, 1) := by decide +kernel
theorem d_LW_law_771 : decode code 771 = .ok (.lcmp, 1) := by decide +kernel
theorem d_LW_law_772 : decode code 772 = .ok (.ifCond .eq 5, 3) := by decide +kernel
theorem d_LW_law_775 : decode code 775 = .ok (.iconst 0, 1) := by decide +kernel
theorem d_LW_law_776 : decode code 776 = .ok (.ireturn, 1) := by decide +kernel
theorem d_LW_law_777 : decode code 777 = .ok (.goto 79, 3) := by decide +kernel
theorem d_LW_law_780 : decode code 780 = .ok (.aload_n 1, 1) := by decide +kernel
theorem d_LW_law_781 : decode code 781 = .ok (.aload_n 0, 1) := by decide +kernel
theorem d_LW_law_782 : decode code 782 = .ok (.iload 4, 2) := by decide +kernel
theorem d_LW_law_784 : decode code 784 = .ok (.iconst 1, 1) := by decide +kernel
theorem d_LW_law_785 : decode code 785 = .ok (.iadd, 1) := by decide +kernel
theorem d_LW_law_786 : decode code 786 = .ok (.iaload, 1) := by decide +kernel
theorem d_LW_law_787 : decode code 787 = .ok (.aload_n 3, 1) := by decide +kernel
theorem d_LW_law_788 : decode code 788 = .ok (.invokestatic 96, 3) := by decide +kernel
theorem d_LW_law_791 : decode code 791 = .ok (.istore 5, 2) := by decide +kernel
theorem d_LW_law_793 : decode code 793 = .ok (.aload_n 2, 1) := by decide +kernel
theorem d_LW_law_794 : decode code 794 = .ok (.aload_n 0, 1) := by decide +kernel
theorem d_LW_law_795 : decode code 795 = .ok (.iload 4, 2) := by decide +kernel
theorem d_LW_law_797 : decode code 797 = .ok (.iconst 1, 1) := by decide +kernel
theorem d_LW_law_798 : decode code 798 = .ok (.iadd, 1) := by decide +kernel
theorem d_LW_law_799 : decode code 799 = .ok (.iaload, 1) := by decide +kernel
theorem d_LW_law_800 : decode code 800 = .ok (.invokevirtual 98, 3) := by decide +kernel
theorem d_LW_law_803 : decode code 803 = .ok (.istore 6, 2) := by decide +kernel
theorem d_LW_law_805 : decode code 805 = .ok (.aload_n 2, 1) := by decide +kernel
theorem d_LW_law_806 : decode code 806 = .ok (.invokevirtual 61, 3) := by decide +kernel
theorem d_LW_law_809 : decode code 809 = .ok (.iload 5, 2) := by decide +kernel
theorem d_LW_law_811 : decode code 811 = .ok (.if_icmp .eq 5, 3) := by decide +kernel
theorem d_LW_law_814 : decode code 814 = .ok (.iconst 0, 1) := by decide +kernel
theorem d_LW_law_815 : decode code 815 = .ok (.ireturn, 1) := by decide +kernel
theorem d_LW_law_816 : decode code 816 = .ok (.iload 5, 2) := by decide +kernel
theorem d_LW_law_818 : decode code 818 = .ok (.ifCond .ne 22, 3) := by decide +kernel
theorem d_LW_law_821 : decode code 821 = .ok (.aload_n 3, 1) := by decide +kernel
theorem d_LW_law_822 : decode code 822 = .ok (.iconst 0, 1) := by decide +kernel
theorem d_LW_law_823 : decode code 823 = .ok (.laload, 1) := by decide +kernel
theorem d_LW_law_824 : decode code 824 = .ok (.iload 6, 2) := by decide +kernel
theorem d_LW_law_826 : decode code 826 = .ok (.ifCond .eq 7, 3) := by decide +kernel
theorem d_LW_law_829 : decode code 829 = .ok (.lconst 1, 1) := by decide +kernel
theorem d_LW_law_830 : decode code 830 = .ok (.goto 4, 3) := by decide +kernel
theorem d_LW_law_833 : decode code 833 = .ok (.lconst 0, 1) := by decide +kernel
theorem d_LW_law_834 : decode code 834 = .ok (.lcmp, 1) := by decide +kernel
theorem d_LW_law_835 : decode code 835 = .ok (.ifCond .eq 5, 3) := by decide +kernel
theorem d_LW_law_838 : decode code 838 = .ok (.iconst 0, 1) := by decide +kernel
theorem d_LW_law_839 : decode code 839 = .ok (.ireturn, 1) := by decide +kernel
theorem d_LW_law_840 : decode code 840 = .ok (.goto 16, 3) := by decide +kernel
theorem d_LW_law_843 : decode code 843 = .ok (.aload_n 1, 1) := by decide +kernel
theorem d_LW_law_844 : decode code 844 = .ok (.invokevirtual 99, 3) := by decide +kernel
theorem d_LW_law_847 : decode code 847 = .ok (.aload_n 2, 1) := by decide +kernel
theorem d_LW_law_848 : decode code 848 = .ok (.invokevirtual 102, 3) := by decide +kernel
theorem d_LW_law_851 : decode code 851 = .ok (.if_icmp .eq 5, 3) := by decide +kernel
theorem d_LW_law_854 : decode code 854 = .ok (.iconst 0, 1) := by decide +kernel
theorem d_LW_law_855 : decode code 855 = .ok (.ireturn, 1) := by decide +kernel
theorem d_LW_law_856 : decode code 856 = .ok (.iinc 4 4, 3) := by decide +kernel
theorem d_LW_law_859 : decode code 859 = .ok (.goto (-836), 3) := by decide +kernel
theorem d_LW_law_862 : decode code 862 = .ok (.iconst 1, 1) := by decide +kernel
theorem d_LW_law_863 : decode code 863 = .ok (.ireturn, 1) := by decide +kernel
