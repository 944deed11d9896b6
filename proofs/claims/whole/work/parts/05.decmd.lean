theorem d_MD_init_0 : decode b_MD_init 0 = .ok (.aload_n 0, 1) := by decide +kernel
theorem d_MD_init_1 : decode b_MD_init 1 = .ok (.invokespecial 1, 3) := by decide +kernel
theorem d_MD_init_4 : decode b_MD_init 4 = .ok (.aload_n 0, 1) := by decide +kernel
theorem d_MD_init_5 : decode b_MD_init 5 = .ok (.iconst 4, 1) := by decide +kernel
theorem d_MD_init_6 : decode b_MD_init 6 = .ok (.newarray .int, 2) := by decide +kernel
theorem d_MD_init_8 : decode b_MD_init 8 = .ok (.putfield 7, 3) := by decide +kernel
theorem d_MD_init_11 : decode b_MD_init 11 = .ok (.aload_n 0, 1) := by decide +kernel
theorem d_MD_init_12 : decode b_MD_init 12 = .ok (.sipush 1024, 3) := by decide +kernel
theorem d_MD_init_15 : decode b_MD_init 15 = .ok (.newarray .boolean, 2) := by decide +kernel
theorem d_MD_init_17 : decode b_MD_init 17 = .ok (.putfield 13, 3) := by decide +kernel
theorem d_MD_init_20 : decode b_MD_init 20 = .ok (.aload_n 0, 1) := by decide +kernel
theorem d_MD_init_21 : decode b_MD_init 21 = .ok (.sipush 512, 3) := by decide +kernel
theorem d_MD_init_24 : decode b_MD_init 24 = .ok (.newarray .boolean, 2) := by decide +kernel
theorem d_MD_init_26 : decode b_MD_init 26 = .ok (.putfield 17, 3) := by decide +kernel
theorem d_MD_init_29 : decode b_MD_init 29 = .ok (.aload_n 0, 1) := by decide +kernel
theorem d_MD_init_30 : decode b_MD_init 30 = .ok (.iconst 4, 1) := by decide +kernel
theorem d_MD_init_31 : decode b_MD_init 31 = .ok (.newarray .int, 2) := by decide +kernel
theorem d_MD_init_33 : decode b_MD_init 33 = .ok (.putfield 20, 3) := by decide +kernel
theorem d_MD_init_36 : decode b_MD_init 36 = .ok (.aload_n 0, 1) := by decide +kernel
theorem d_MD_init_37 : decode b_MD_init 37 = .ok (.sipush 1024, 3) := by decide +kernel
theorem d_MD_init_40 : decode b_MD_init 40 = .ok (.newarray .boolean, 2) := by decide +kernel
theorem d_MD_init_42 : decode b_MD_init 42 = .ok (.putfield 23, 3) := by decide +kernel
theorem d_MD_init_45 : decode b_MD_init 45 = .ok (.aload_n 0, 1) := by decide +kernel
theorem d_MD_init_46 : decode b_MD_init 46 = .ok (.iconst 4, 1) := by decide +kernel
theorem d_MD_init_47 : decode b_MD_init 47 = .ok (.sipush 256, 3) := by decide +kernel
theorem d_MD_init_50 : decode b_MD_init 50 = .ok (.invokevirtual 26, 3) := by decide +kernel
theorem d_MD_init_53 : decode b_MD_init 53 = .ok (.return_, 1) := by decide +kernel
theorem d_MD_thrown_0 : decode b_MD_thrown 0 = .ok (.aload_n 0, 1) := by decide +kernel
theorem d_MD_thrown_1 : decode b_MD_thrown 1 = .ok (.getfield 30, 3) := by decide +kernel
theorem d_MD_thrown_4 : decode b_MD_thrown 4 = .ok (.ireturn, 1) := by decide +kernel
theorem d_MD_heads_0 : decode b_MD_heads 0 = .ok (.iload_n 0, 1) := by decide +kernel
theorem d_MD_heads_1 : decode b_MD_heads 1 = .ok (.iconst 2, 1) := by decide +kernel
theorem d_MD_heads_2 : decode b_MD_heads 2 = .ok (.if_icmp .ne 7, 3) := by decide +kernel
theorem d_MD_heads_5 : decode b_MD_heads 5 = .ok (.iconst 0, 1) := by decide +kernel
theorem d_MD_heads_6 : decode b_MD_heads 6 = .ok (.goto 4, 3) := by decide +kernel
theorem d_MD_heads_9 : decode b_MD_heads 9 = .ok (.iconst 2, 1) := by decide +kernel
theorem d_MD_heads_10 : decode b_MD_heads 10 = .ok (.ireturn, 1) := by decide +kernel
theorem d_MD_bitmap_0 : decode b_MD_bitmap 0 = .ok (.sipush 256, 3) := by decide +kernel
theorem d_MD_bitmap_3 : decode b_MD_bitmap 3 = .ok (.iload_n 0, 1) := by decide +kernel
theorem d_MD_bitmap_4 : decode b_MD_bitmap 4 = .ok (.imul, 1) := by decide +kernel
theorem d_MD_bitmap_5 : decode b_MD_bitmap 5 = .ok (.iload_n 0, 1) := by decide +kernel
theorem d_MD_bitmap_6 : decode b_MD_bitmap 6 = .ok (.invokestatic 34, 3) := by decide +kernel
theorem d_MD_bitmap_9 : decode b_MD_bitmap 9 = .ok (.iadd, 1) := by decide +kernel
theorem d_MD_bitmap_10 : decode b_MD_bitmap 10 = .ok (.ireturn, 1) := by decide +kernel
theorem d_MD_fixed_0 : decode b_MD_fixed 0 = .ok (.iload_n 0, 1) := by decide +kernel
theorem d_MD_fixed_1 : decode b_MD_fixed 1 = .ok (.invokestatic 34, 3) := by decide +kernel
theorem d_MD_fixed_4 : decode b_MD_fixed 4 = .ok (.bipush 10, 2) := by decide +kernel
theorem d_MD_fixed_6 : decode b_MD_fixed 6 = .ok (.iadd, 1) := by decide +kernel
theorem d_MD_fixed_7 : decode b_MD_fixed 7 = .ok (.ireturn, 1) := by decide +kernel
theorem d_MD_layOut_0 : decode b_MD_layOut 0 = .ok (.aload_n 0, 1) := by decide +kernel
theorem d_MD_layOut_1 : decode b_MD_layOut 1 = .ok (.iload_n 1, 1) := by decide +kernel
theorem d_MD_layOut_2 : decode b_MD_layOut 2 = .ok (.putfield 38, 3) := by decide +kernel
theorem d_MD_layOut_5 : decode b_MD_layOut 5 = .ok (.aload_n 0, 1) := by decide +kernel
theorem d_MD_layOut_6 : decode b_MD_layOut 6 = .ok (.iconst 0, 1) := by decide +kernel
theorem d_MD_layOut_7 : decode b_MD_layOut 7 = .ok (.putfield 41, 3) := by decide +kernel
theorem d_MD_layOut_10 : decode b_MD_layOut 10 = .ok (.aload_n 0, 1) := by decide +kernel
theorem d_MD_layOut_11 : decode b_MD_layOut 11 = .ok (.iconst 0, 1) := by decide +kernel
theorem d_MD_layOut_12 : decode b_MD_layOut 12 = .ok (.putfield 44, 3) := by decide +kernel
theorem d_MD_layOut_15 : decode b_MD_layOut 15 = .ok (.aload_n 0, 1) := by decide +kernel
theorem d_MD_layOut_16 : decode b_MD_layOut 16 = .ok (.getfield 23, 3) := by decide +kernel
theorem d_MD_layOut_19 : decode b_MD_layOut 19 = .ok (.iconst 1, 1) := by decide +kernel
theorem d_MD_layOut_20 : decode b_MD_layOut 20 = .ok (.iconst 1, 1) := by decide +kernel
theorem d_MD_layOut_21 : decode b_MD_layOut 21 = .ok (.bastore, 1) := by decide +kernel
theorem d_MD_layOut_22 : decode b_MD_layOut 22 = .ok (.iconst 0, 1) := by decide +kernel
theorem d_MD_layOut_23 : decode b_MD_layOut 23 = .ok (.istore_n 3, 1) := by decide +kernel
theorem d_MD_layOut_24 : decode b_MD_layOut 24 = .ok (.iload_n 3, 1) := by decide +kernel
theorem d_MD_layOut_25 : decode b_MD_layOut 25 = .ok (.aload_n 0, 1) := by decide +kernel
theorem d_MD_layOut_26 : decode b_MD_layOut 26 = .ok (.getfield 38, 3) := by decide +kernel
theorem d_MD_layOut_29 : decode b_MD_layOut 29 = .ok (.if_icmp .ge 151, 3) := by decide +kernel
theorem d_MD_layOut_32 : decode b_MD_layOut 32 = .ok (.aload_n 0, 1) := by decide +kernel
theorem d_MD_layOut_33 : decode b_MD_layOut 33 = .ok (.getfield 7, 3) := by decide +kernel
theorem d_MD_layOut_36 : decode b_MD_layOut 36 = .ok (.iload_n 3, 1) := by decide +kernel
theorem d_MD_layOut_37 : decode b_MD_layOut 37 = .ok (.iload_n 3, 1) := by decide +kernel
theorem d_MD_layOut_38 : decode b_MD_layOut 38 = .ok (.aload_n 0, 1) := by decide +kernel
theorem d_MD_layOut_39 : decode b_MD_layOut 39 = .ok (.getfield 38, 3) := by decide +kernel
theorem d_MD_layOut_42 : decode b_MD_layOut 42 = .ok (.iconst 1, 1) := by decide +kernel
theorem d_MD_layOut_43 : decode b_MD_layOut 43 = .ok (.isub, 1) := by decide +kernel
theorem d_MD_layOut_44 : decode b_MD_layOut 44 = .ok (.if_icmp .ne 7, 3) := by decide +kernel
theorem d_MD_layOut_47 : decode b_MD_layOut 47 = .ok (.iload_n 2, 1) := by decide +kernel
theorem d_MD_layOut_48 : decode b_MD_layOut 48 = .ok (.goto 6, 3) := by decide +kernel
theorem d_MD_layOut_51 : decode b_MD_layOut 51 = .ok (.sipush 256, 3) := by decide +kernel
theorem d_MD_layOut_54 : decode b_MD_layOut 54 = .ok (.iastore, 1) := by decide +kernel
theorem d_MD_layOut_55 : decode b_MD_layOut 55 = .ok (.aload_n 0, 1) := by decide +kernel
theorem d_MD_layOut_56 : decode b_MD_layOut 56 = .ok (.getfield 20, 3) := by decide +kernel
theorem d_MD_layOut_59 : decode b_MD_layOut 59 = .ok (.iload_n 3, 1) := by decide +kernel
theorem d_MD_layOut_60 : decode b_MD_layOut 60 = .ok (.iconst 0, 1) := by decide +kernel
theorem d_MD_layOut_61 : decode b_MD_layOut 61 = .ok (.iastore, 1) := by decide +kernel
theorem d_MD_layOut_62 : decode b_MD_layOut 62 = .ok (.aload_n 0, 1) := by decide +kernel
theorem d_MD_layOut_63 : decode b_MD_layOut 63 = .ok (.getfield 23, 3) := by decide +kernel
theorem d_MD_layOut_66 : decode b_MD_layOut 66 = .ok (.iload_n 3, 1) := by decide +kernel
theorem d_MD_layOut_67 : decode b_MD_layOut 67 = .ok (.invokestatic 47, 3) := by decide +kernel
theorem d_MD_layOut_70 : decode b_MD_layOut 70 = .ok (.iconst 1, 1) := by decide +kernel
theorem d_MD_layOut_71 : decode b_MD_layOut 71 = .ok (.bastore, 1) := by decide +kernel
theorem d_MD_layOut_72 : decode b_MD_layOut 72 = .ok (.aload_n 0, 1) := by decide +kernel
theorem d_MD_layOut_73 : decode b_MD_layOut 73 = .ok (.getfield 23, 3) := by decide +kernel
theorem d_MD_layOut_76 : decode b_MD_layOut 76 = .ok (.iload_n 3, 1) := by decide +kernel
theorem d_MD_layOut_77 : decode b_MD_layOut 77 = .ok (.invokestatic 47, 3) := by decide +kernel
theorem d_MD_layOut_80 : decode b_MD_layOut 80 = .ok (.iconst 1, 1) := by decide +kernel
theorem d_MD_layOut_81 : decode b_MD_layOut 81 = .ok (.iadd, 1) := by decide +kernel
theorem d_MD_layOut_82 : decode b_MD_layOut 82 = .ok (.iconst 1, 1) := by decide +kernel
theorem d_MD_layOut_83 : decode b_MD_layOut 83 = .ok (.bastore, 1) := by decide +kernel
theorem d_MD_layOut_84 : decode b_MD_layOut 84 = .ok (.iconst 0, 1) := by decide +kernel
theorem d_MD_layOut_85 : decode b_MD_layOut 85 = .ok (.istore 4, 2) := by decide +kernel
theorem d_MD_layOut_87 : decode b_MD_layOut 87 = .ok (.iload 4, 2) := by decide +kernel
theorem d_MD_layOut_89 : decode b_MD_layOut 89 = .ok (.sipush 256, 3) := by decide +kernel
theorem d_MD_layOut_92 : decode b_MD_layOut 92 = .ok (.if_icmp .ge 36, 3) := by decide +kernel
theorem d_MD_layOut_95 : decode b_MD_layOut 95 = .ok (.aload_n 0, 1) := by decide +kernel
theorem d_MD_layOut_96 : decode b_MD_layOut 96 = .ok (.getfield 13, 3) := by decide +kernel
theorem d_MD_layOut_99 : decode b_MD_layOut 99 = .ok (.sipush 256, 3) := by decide +kernel
theorem d_MD_layOut_102 : decode b_MD_layOut 102 = .ok (.iload_n 3, 1) := by decide +kernel
theorem d_MD_layOut_103 : decode b_MD_layOut 103 = .ok (.imul, 1) := by decide +kernel
theorem d_MD_layOut_104 : decode b_MD_layOut 104 = .ok (.iload 4, 2) := by decide +kernel
theorem d_MD_layOut_106 : decode b_MD_layOut 106 = .ok (.iadd, 1) := by decide +kernel
theorem d_MD_layOut_107 : decode b_MD_layOut 107 = .ok (.iload 4, 2) := by decide +kernel
theorem d_MD_layOut_109 : decode b_MD_layOut 109 = .ok (.iload_n 3, 1) := by decide +kernel
theorem d_MD_layOut_110 : decode b_MD_layOut 110 = .ok (.invokestatic 50, 3) := by decide +kernel
theorem d_MD_layOut_113 : decode b_MD_layOut 113 = .ok (.if_icmp .ge 7, 3) := by decide +kernel
theorem d_MD_layOut_116 : decode b_MD_layOut 116 = .ok (.iconst 1, 1) := by decide +kernel
theorem d_MD_layOut_117 : decode b_MD_layOut 117 = .ok (.goto 4, 3) := by decide +kernel
theorem d_MD_layOut_120 : decode b_MD_layOut 120 = .ok (.iconst 0, 1) := by decide +kernel
theorem d_MD_layOut_121 : decode b_MD_layOut 121 = .ok (.bastore, 1) := by decide +kernel
theorem d_MD_layOut_122 : decode b_MD_layOut 122 = .ok (.iinc 4 1, 3) := by decide +kernel
theorem d_MD_layOut_125 : decode b_MD_layOut 125 = .ok (.goto (-38), 3) := by decide +kernel
theorem d_MD_layOut_128 : decode b_MD_layOut 128 = .ok (.iconst 0, 1) := by decide +kernel
theorem d_MD_layOut_129 : decode b_MD_layOut 129 = .ok (.istore 4, 2) := by decide +kernel
theorem d_MD_layOut_131 : decode b_MD_layOut 131 = .ok (.iload 4, 2) := by decide +kernel
theorem d_MD_layOut_133 : decode b_MD_layOut 133 = .ok (.sipush 128, 3) := by decide +kernel
theorem d_MD_layOut_136 : decode b_MD_layOut 136 = .ok (.if_icmp .ge 38, 3) := by decide +kernel
theorem d_MD_layOut_139 : decode b_MD_layOut 139 = .ok (.aload_n 0, 1) := by decide +kernel
theorem d_MD_layOut_140 : decode b_MD_layOut 140 = .ok (.getfield 17, 3) := by decide +kernel
theorem d_MD_layOut_143 : decode b_MD_layOut 143 = .ok (.sipush 128, 3) := by decide +kernel
theorem d_MD_layOut_146 : decode b_MD_layOut 146 = .ok (.iload_n 3, 1) := by decide +kernel
theorem d_MD_layOut_147 : decode b_MD_layOut 147 = .ok (.imul, 1) := by decide +kernel
theorem d_MD_layOut_148 : decode b_MD_layOut 148 = .ok (.iload 4, 2) := by decide +kernel
theorem d_MD_layOut_150 : decode b_MD_layOut 150 = .ok (.iadd, 1) := by decide +kernel
theorem d_MD_layOut_151 : decode b_MD_layOut 151 = .ok (.iload_n 3, 1) := by decide +kernel
theorem d_MD_layOut_152 : decode b_MD_layOut 152 = .ok (.ifCond .ne 14, 3) := by decide +kernel
theorem d_MD_layOut_155 : decode b_MD_layOut 155 = .ok (.iload 4, 2) := by decide +kernel
theorem d_MD_layOut_157 : decode b_MD_layOut 157 = .ok (.bipush 10, 2) := by decide +kernel
theorem d_MD_layOut_159 : decode b_MD_layOut 159 = .ok (.if_icmp .ge 7, 3) := by decide +kernel
theorem d_MD_layOut_162 : decode b_MD_layOut 162 = .ok (.iconst 1, 1) := by decide +kernel
theorem d_MD_layOut_163 : decode b_MD_layOut 163 = .ok (.goto 4, 3) := by decide +kernel
theorem d_MD_layOut_166 : decode b_MD_layOut 166 = .ok (.iconst 0, 1) := by decide +kernel
theorem d_MD_layOut_167 : decode b_MD_layOut 167 = .ok (.bastore, 1) := by decide +kernel
theorem d_MD_layOut_168 : decode b_MD_layOut 168 = .ok (.iinc 4 1, 3) := by decide +kernel
theorem d_MD_layOut_171 : decode b_MD_layOut 171 = .ok (.goto (-40), 3) := by decide +kernel
theorem d_MD_layOut_174 : decode b_MD_layOut 174 = .ok (.iinc 3 1, 3) := by decide +kernel
theorem d_MD_layOut_177 : decode b_MD_layOut 177 = .ok (.goto (-153), 3) := by decide +kernel
theorem d_MD_layOut_180 : decode b_MD_layOut 180 = .ok (.return_, 1) := by decide +kernel
theorem d_MD_freeBlocks_0 : decode b_MD_freeBlocks 0 = .ok (.iconst 0, 1) := by decide +kernel
theorem d_MD_freeBlocks_1 : decode b_MD_freeBlocks 1 = .ok (.istore_n 2, 1) := by decide +kernel
theorem d_MD_freeBlocks_2 : decode b_MD_freeBlocks 2 = .ok (.iconst 0, 1) := by decide +kernel
theorem d_MD_freeBlocks_3 : decode b_MD_freeBlocks 3 = .ok (.istore_n 3, 1) := by decide +kernel
theorem d_MD_freeBlocks_4 : decode b_MD_freeBlocks 4 = .ok (.iload_n 3, 1) := by decide +kernel
theorem d_MD_freeBlocks_5 : decode b_MD_freeBlocks 5 = .ok (.aload_n 0, 1) := by decide +kernel
theorem d_MD_freeBlocks_6 : decode b_MD_freeBlocks 6 = .ok (.getfield 7, 3) := by decide +kernel
theorem d_MD_freeBlocks_9 : decode b_MD_freeBlocks 9 = .ok (.iload_n 1, 1) := by decide +kernel
theorem d_MD_freeBlocks_10 : decode b_MD_freeBlocks 10 = .ok (.iaload, 1) := by decide +kernel
theorem d_MD_freeBlocks_11 : decode b_MD_freeBlocks 11 = .ok (.if_icmp .ge 32, 3) := by decide +kernel
theorem d_MD_freeBlocks_14 : decode b_MD_freeBlocks 14 = .ok (.aload_n 0, 1) := by decide +kernel
theorem d_MD_freeBlocks_15 : decode b_MD_freeBlocks 15 = .ok (.getfield 13, 3) := by decide +kernel
theorem d_MD_freeBlocks_18 : decode b_MD_freeBlocks 18 = .ok (.sipush 256, 3) := by decide +kernel
theorem d_MD_freeBlocks_21 : decode b_MD_freeBlocks 21 = .ok (.iload_n 1, 1) := by decide +kernel
theorem d_MD_freeBlocks_22 : decode b_MD_freeBlocks 22 = .ok (.imul, 1) := by decide +kernel
theorem d_MD_freeBlocks_23 : decode b_MD_freeBlocks 23 = .ok (.iload_n 3, 1) := by decide +kernel
theorem d_MD_freeBlocks_24 : decode b_MD_freeBlocks 24 = .ok (.iadd, 1) := by decide +kernel
theorem d_MD_freeBlocks_25 : decode b_MD_freeBlocks 25 = .ok (.baload, 1) := by decide +kernel
theorem d_MD_freeBlocks_26 : decode b_MD_freeBlocks 26 = .ok (.ifCond .eq 7, 3) := by decide +kernel
theorem d_MD_freeBlocks_29 : decode b_MD_freeBlocks 29 = .ok (.iload_n 2, 1) := by decide +kernel
theorem d_MD_freeBlocks_30 : decode b_MD_freeBlocks 30 = .ok (.goto 6, 3) := by decide +kernel
theorem d_MD_freeBlocks_33 : decode b_MD_freeBlocks 33 = .ok (.iload_n 2, 1) := by decide +kernel
theorem d_MD_freeBlocks_34 : decode b_MD_freeBlocks 34 = .ok (.iconst 1, 1) := by decide +kernel
theorem d_MD_freeBlocks_35 : decode b_MD_freeBlocks 35 = .ok (.iadd, 1) := by decide +kernel
theorem d_MD_freeBlocks_36 : decode b_MD_freeBlocks 36 = .ok (.istore_n 2, 1) := by decide +kernel
theorem d_MD_freeBlocks_37 : decode b_MD_freeBlocks 37 = .ok (.iinc 3 1, 3) := by decide +kernel
theorem d_MD_freeBlocks_40 : decode b_MD_freeBlocks 40 = .ok (.goto (-36), 3) := by decide +kernel
theorem d_MD_freeBlocks_43 : decode b_MD_freeBlocks 43 = .ok (.iload_n 2, 1) := by decide +kernel
theorem d_MD_freeBlocks_44 : decode b_MD_freeBlocks 44 = .ok (.ireturn, 1) := by decide +kernel
theorem d_MD_freeFiles_0 : decode b_MD_freeFiles 0 = .ok (.iconst 0, 1) := by decide +kernel
theorem d_MD_freeFiles_1 : decode b_MD_freeFiles 1 = .ok (.istore_n 2, 1) := by decide +kernel
theorem d_MD_freeFiles_2 : decode b_MD_freeFiles 2 = .ok (.iconst 0, 1) := by decide +kernel
theorem d_MD_freeFiles_3 : decode b_MD_freeFiles 3 = .ok (.istore_n 3, 1) := by decide +kernel
theorem d_MD_freeFiles_4 : decode b_MD_freeFiles 4 = .ok (.iload_n 3, 1) := by decide +kernel
theorem d_MD_freeFiles_5 : decode b_MD_freeFiles 5 = .ok (.sipush 128, 3) := by decide +kernel
theorem d_MD_freeFiles_8 : decode b_MD_freeFiles 8 = .ok (.if_icmp .ge 32, 3) := by decide +kernel
theorem d_MD_freeFiles_11 : decode b_MD_freeFiles 11 = .ok (.aload_n 0, 1) := by decide +kernel
theorem d_MD_freeFiles_12 : decode b_MD_freeFiles 12 = .ok (.getfield 17, 3) := by decide +kernel
theorem d_MD_freeFiles_15 : decode b_MD_freeFiles 15 = .ok (.sipush 128, 3) := by decide +kernel
theorem d_MD_freeFiles_18 : decode b_MD_freeFiles 18 = .ok (.iload_n 1, 1) := by decide +kernel
theorem d_MD_freeFiles_19 : decode b_MD_freeFiles 19 = .ok (.imul, 1) := by decide +kernel
theorem d_MD_freeFiles_20 : decode b_MD_freeFiles 20 = .ok (.iload_n 3, 1) := by decide +kernel
theorem d_MD_freeFiles_21 : decode b_MD_freeFiles 21 = .ok (.iadd, 1) := by decide +kernel
theorem d_MD_freeFiles_22 : decode b_MD_freeFiles 22 = .ok (.baload, 1) := by decide +kernel
theorem d_MD_freeFiles_23 : decode b_MD_freeFiles 23 = .ok (.ifCond .eq 7, 3) := by decide +kernel
theorem d_MD_freeFiles_26 : decode b_MD_freeFiles 26 = .ok (.iload_n 2, 1) := by decide +kernel
theorem d_MD_freeFiles_27 : decode b_MD_freeFiles 27 = .ok (.goto 6, 3) := by decide +kernel
theorem d_MD_freeFiles_30 : decode b_MD_freeFiles 30 = .ok (.iload_n 2, 1) := by decide +kernel
theorem d_MD_freeFiles_31 : decode b_MD_freeFiles 31 = .ok (.iconst 1, 1) := by decide +kernel
theorem d_MD_freeFiles_32 : decode b_MD_freeFiles 32 = .ok (.iadd, 1) := by decide +kernel
theorem d_MD_freeFiles_33 : decode b_MD_freeFiles 33 = .ok (.istore_n 2, 1) := by decide +kernel
theorem d_MD_freeFiles_34 : decode b_MD_freeFiles 34 = .ok (.iinc 3 1, 3) := by decide +kernel
theorem d_MD_freeFiles_37 : decode b_MD_freeFiles 37 = .ok (.goto (-33), 3) := by decide +kernel
theorem d_MD_freeFiles_40 : decode b_MD_freeFiles 40 = .ok (.iload_n 2, 1) := by decide +kernel
theorem d_MD_freeFiles_41 : decode b_MD_freeFiles 41 = .ok (.ireturn, 1) := by decide +kernel
theorem d_MD_allBlocks_0 : decode b_MD_allBlocks 0 = .ok (.iconst 0, 1) := by decide +kernel
theorem d_MD_allBlocks_1 : decode b_MD_allBlocks 1 = .ok (.istore_n 1, 1) := by decide +kernel
theorem d_MD_allBlocks_2 : decode b_MD_allBlocks 2 = .ok (.iconst 0, 1) := by decide +kernel
theorem d_MD_allBlocks_3 : decode b_MD_allBlocks 3 = .ok (.istore_n 2, 1) := by decide +kernel
theorem d_MD_allBlocks_4 : decode b_MD_allBlocks 4 = .ok (.iload_n 2, 1) := by decide +kernel
theorem d_MD_allBlocks_5 : decode b_MD_allBlocks 5 = .ok (.aload_n 0, 1) := by decide +kernel
theorem d_MD_allBlocks_6 : decode b_MD_allBlocks 6 = .ok (.getfield 38, 3) := by decide +kernel
theorem d_MD_allBlocks_9 : decode b_MD_allBlocks 9 = .ok (.if_icmp .ge 17, 3) := by decide +kernel
theorem d_MD_allBlocks_12 : decode b_MD_allBlocks 12 = .ok (.iload_n 1, 1) := by decide +kernel
theorem d_MD_allBlocks_13 : decode b_MD_allBlocks 13 = .ok (.aload_n 0, 1) := by decide +kernel
theorem d_MD_allBlocks_14 : decode b_MD_allBlocks 14 = .ok (.iload_n 2, 1) := by decide +kernel
theorem d_MD_allBlocks_15 : decode b_MD_allBlocks 15 = .ok (.invokevirtual 53, 3) := by decide +kernel
theorem d_MD_allBlocks_18 : decode b_MD_allBlocks 18 = .ok (.iadd, 1) := by decide +kernel
theorem d_MD_allBlocks_19 : decode b_MD_allBlocks 19 = .ok (.istore_n 1, 1) := by decide +kernel
theorem d_MD_allBlocks_20 : decode b_MD_allBlocks 20 = .ok (.iinc 2 1, 3) := by decide +kernel
theorem d_MD_allBlocks_23 : decode b_MD_allBlocks 23 = .ok (.goto (-19), 3) := by decide +kernel
theorem d_MD_allBlocks_26 : decode b_MD_allBlocks 26 = .ok (.iload_n 1, 1) := by decide +kernel
theorem d_MD_allBlocks_27 : decode b_MD_allBlocks 27 = .ok (.ireturn, 1) := by decide +kernel
theorem d_MD_allFiles_0 : decode b_MD_allFiles 0 = .ok (.iconst 0, 1) := by decide +kernel
theorem d_MD_allFiles_1 : decode b_MD_allFiles 1 = .ok (.istore_n 1, 1) := by decide +kernel
theorem d_MD_allFiles_2 : decode b_MD_allFiles 2 = .ok (.iconst 0, 1) := by decide +kernel
theorem d_MD_allFiles_3 : decode b_MD_allFiles 3 = .ok (.istore_n 2, 1) := by decide +kernel
theorem d_MD_allFiles_4 : decode b_MD_allFiles 4 = .ok (.iload_n 2, 1) := by decide +kernel
theorem d_MD_allFiles_5 : decode b_MD_allFiles 5 = .ok (.aload_n 0, 1) := by decide +kernel
theorem d_MD_allFiles_6 : decode b_MD_allFiles 6 = .ok (.getfield 38, 3) := by decide +kernel
theorem d_MD_allFiles_9 : decode b_MD_allFiles 9 = .ok (.if_icmp .ge 17, 3) := by decide +kernel
theorem d_MD_allFiles_12 : decode b_MD_allFiles 12 = .ok (.iload_n 1, 1) := by decide +kernel
theorem d_MD_allFiles_13 : decode b_MD_allFiles 13 = .ok (.aload_n 0, 1) := by decide +kernel
theorem d_MD_allFiles_14 : decode b_MD_allFiles 14 = .ok (.iload_n 2, 1) := by decide +kernel
theorem d_MD_allFiles_15 : decode b_MD_allFiles 15 = .ok (.invokevirtual 56, 3) := by decide +kernel
theorem d_MD_allFiles_18 : decode b_MD_allFiles 18 = .ok (.iadd, 1) := by decide +kernel
theorem d_MD_allFiles_19 : decode b_MD_allFiles 19 = .ok (.istore_n 1, 1) := by decide +kernel
theorem d_MD_allFiles_20 : decode b_MD_allFiles 20 = .ok (.iinc 2 1, 3) := by decide +kernel
theorem d_MD_allFiles_23 : decode b_MD_allFiles 23 = .ok (.goto (-19), 3) := by decide +kernel
theorem d_MD_allFiles_26 : decode b_MD_allFiles 26 = .ok (.iload_n 1, 1) := by decide +kernel
theorem d_MD_allFiles_27 : decode b_MD_allFiles 27 = .ok (.ireturn, 1) := by decide +kernel
theorem d_MD_isBlock_0 : decode b_MD_isBlock 0 = .ok (.iload_n 1, 1) := by decide +kernel
theorem d_MD_isBlock_1 : decode b_MD_isBlock 1 = .ok (.ifCond .lt 37, 3) := by decide +kernel
theorem d_MD_isBlock_4 : decode b_MD_isBlock 4 = .ok (.iload_n 1, 1) := by decide +kernel
theorem d_MD_isBlock_5 : decode b_MD_isBlock 5 = .ok (.sipush 256, 3) := by decide +kernel
theorem d_MD_isBlock_8 : decode b_MD_isBlock 8 = .ok (.aload_n 0, 1) := by decide +kernel
theorem d_MD_isBlock_9 : decode b_MD_isBlock 9 = .ok (.getfield 38, 3) := by decide +kernel
theorem d_MD_isBlock_12 : decode b_MD_isBlock 12 = .ok (.imul, 1) := by decide +kernel
theorem d_MD_isBlock_13 : decode b_MD_isBlock 13 = .ok (.if_icmp .ge 25, 3) := by decide +kernel
theorem d_MD_isBlock_16 : decode b_MD_isBlock 16 = .ok (.iload_n 1, 1) := by decide +kernel
theorem d_MD_isBlock_17 : decode b_MD_isBlock 17 = .ok (.sipush 256, 3) := by decide +kernel
theorem d_MD_isBlock_20 : decode b_MD_isBlock 20 = .ok (.irem, 1) := by decide +kernel
theorem d_MD_isBlock_21 : decode b_MD_isBlock 21 = .ok (.aload_n 0, 1) := by decide +kernel
theorem d_MD_isBlock_22 : decode b_MD_isBlock 22 = .ok (.getfield 7, 3) := by decide +kernel
theorem d_MD_isBlock_25 : decode b_MD_isBlock 25 = .ok (.iload_n 1, 1) := by decide +kernel
theorem d_MD_isBlock_26 : decode b_MD_isBlock 26 = .ok (.sipush 256, 3) := by decide +kernel
theorem d_MD_isBlock_29 : decode b_MD_isBlock 29 = .ok (.idiv, 1) := by decide +kernel
theorem d_MD_isBlock_30 : decode b_MD_isBlock 30 = .ok (.iaload, 1) := by decide +kernel
theorem d_MD_isBlock_31 : decode b_MD_isBlock 31 = .ok (.if_icmp .ge 7, 3) := by decide +kernel
theorem d_MD_isBlock_34 : decode b_MD_isBlock 34 = .ok (.iconst 1, 1) := by decide +kernel
theorem d_MD_isBlock_35 : decode b_MD_isBlock 35 = .ok (.goto 4, 3) := by decide +kernel
theorem d_MD_isBlock_38 : decode b_MD_isBlock 38 = .ok (.iconst 0, 1) := by decide +kernel
theorem d_MD_isBlock_39 : decode b_MD_isBlock 39 = .ok (.ireturn, 1) := by decide +kernel
theorem d_MD_isFile_0 : decode b_MD_isFile 0 = .ok (.iload_n 1, 1) := by decide +kernel
theorem d_MD_isFile_1 : decode b_MD_isFile 1 = .ok (.iconst 1, 1) := by decide +kernel
theorem d_MD_isFile_2 : decode b_MD_isFile 2 = .ok (.if_icmp .lt 19, 3) := by decide +kernel
theorem d_MD_isFile_5 : decode b_MD_isFile 5 = .ok (.iload_n 1, 1) := by decide +kernel
theorem d_MD_isFile_6 : decode b_MD_isFile 6 = .ok (.sipush 128, 3) := by decide +kernel
theorem d_MD_isFile_9 : decode b_MD_isFile 9 = .ok (.aload_n 0, 1) := by decide +kernel
theorem d_MD_isFile_10 : decode b_MD_isFile 10 = .ok (.getfield 38, 3) := by decide +kernel
theorem d_MD_isFile_13 : decode b_MD_isFile 13 = .ok (.imul, 1) := by decide +kernel
theorem d_MD_isFile_14 : decode b_MD_isFile 14 = .ok (.if_icmp .gt 7, 3) := by decide +kernel
theorem d_MD_isFile_17 : decode b_MD_isFile 17 = .ok (.iconst 1, 1) := by decide +kernel
theorem d_MD_isFile_18 : decode b_MD_isFile 18 = .ok (.goto 4, 3) := by decide +kernel
theorem d_MD_isFile_21 : decode b_MD_isFile 21 = .ok (.iconst 0, 1) := by decide +kernel
theorem d_MD_isFile_22 : decode b_MD_isFile 22 = .ok (.ireturn, 1) := by decide +kernel
theorem d_MD_lay_0 : decode b_MD_lay 0 = .ok (.aload_n 0, 1) := by decide +kernel
theorem d_MD_lay_1 : decode b_MD_lay 1 = .ok (.iload_n 1, 1) := by decide +kernel
theorem d_MD_lay_2 : decode b_MD_lay 2 = .ok (.iconst 1, 1) := by decide +kernel
theorem d_MD_lay_3 : decode b_MD_lay 3 = .ok (.if_icmp .lt 21, 3) := by decide +kernel
theorem d_MD_lay_6 : decode b_MD_lay 6 = .ok (.iload_n 1, 1) := by decide +kernel
theorem d_MD_lay_7 : decode b_MD_lay 7 = .ok (.iconst 4, 1) := by decide +kernel
theorem d_MD_lay_8 : decode b_MD_lay 8 = .ok (.if_icmp .gt 16, 3) := by decide +kernel
theorem d_MD_lay_11 : decode b_MD_lay 11 = .ok (.iload_n 2, 1) := by decide +kernel
theorem d_MD_lay_12 : decode b_MD_lay 12 = .ok (.bipush 16, 2) := by decide +kernel
theorem d_MD_lay_14 : decode b_MD_lay 14 = .ok (.if_icmp .lt 10, 3) := by decide +kernel
theorem d_MD_lay_17 : decode b_MD_lay 17 = .ok (.iload_n 2, 1) := by decide +kernel
theorem d_MD_lay_18 : decode b_MD_lay 18 = .ok (.sipush 256, 3) := by decide +kernel
theorem d_MD_lay_21 : decode b_MD_lay 21 = .ok (.if_icmp .le 7, 3) := by decide +kernel
theorem d_MD_lay_24 : decode b_MD_lay 24 = .ok (.iconst 1, 1) := by decide +kernel
theorem d_MD_lay_25 : decode b_MD_lay 25 = .ok (.goto 4, 3) := by decide +kernel
theorem d_MD_lay_28 : decode b_MD_lay 28 = .ok (.iconst 0, 1) := by decide +kernel
theorem d_MD_lay_29 : decode b_MD_lay 29 = .ok (.putfield 30, 3) := by decide +kernel
theorem d_MD_lay_32 : decode b_MD_lay 32 = .ok (.aload_n 0, 1) := by decide +kernel
theorem d_MD_lay_33 : decode b_MD_lay 33 = .ok (.getfield 30, 3) := by decide +kernel
theorem d_MD_lay_36 : decode b_MD_lay 36 = .ok (.ifCond .le 5, 3) := by decide +kernel
theorem d_MD_lay_39 : decode b_MD_lay 39 = .ok (.iconst 0, 1) := by decide +kernel
theorem d_MD_lay_40 : decode b_MD_lay 40 = .ok (.ireturn, 1) := by decide +kernel
theorem d_MD_lay_41 : decode b_MD_lay 41 = .ok (.aload_n 0, 1) := by decide +kernel
theorem d_MD_lay_42 : decode b_MD_lay 42 = .ok (.iload_n 1, 1) := by decide +kernel
theorem d_MD_lay_43 : decode b_MD_lay 43 = .ok (.iload_n 2, 1) := by decide +kernel
theorem d_MD_lay_44 : decode b_MD_lay 44 = .ok (.invokevirtual 26, 3) := by decide +kernel
theorem d_MD_lay_47 : decode b_MD_lay 47 = .ok (.aload_n 0, 1) := by decide +kernel
theorem d_MD_lay_48 : decode b_MD_lay 48 = .ok (.invokevirtual 59, 3) := by decide +kernel
theorem d_MD_lay_51 : decode b_MD_lay 51 = .ok (.ireturn, 1) := by decide +kernel
theorem d_MD_reserve_0 : decode b_MD_reserve 0 = .ok (.aload_n 0, 1) := by decide +kernel
theorem d_MD_reserve_1 : decode b_MD_reserve 1 = .ok (.iload_n 1, 1) := by decide +kernel
theorem d_MD_reserve_2 : decode b_MD_reserve 2 = .ok (.ifCond .lt 9, 3) := by decide +kernel
theorem d_MD_reserve_5 : decode b_MD_reserve 5 = .ok (.iload_n 1, 1) := by decide +kernel
theorem d_MD_reserve_6 : decode b_MD_reserve 6 = .ok (.bipush 100, 2) := by decide +kernel
theorem d_MD_reserve_8 : decode b_MD_reserve 8 = .ok (.if_icmp .le 7, 3) := by decide +kernel
theorem d_MD_reserve_11 : decode b_MD_reserve 11 = .ok (.iconst 1, 1) := by decide +kernel
theorem d_MD_reserve_12 : decode b_MD_reserve 12 = .ok (.goto 4, 3) := by decide +kernel
theorem d_MD_reserve_15 : decode b_MD_reserve 15 = .ok (.iconst 0, 1) := by decide +kernel
theorem d_MD_reserve_16 : decode b_MD_reserve 16 = .ok (.putfield 30, 3) := by decide +kernel
theorem d_MD_reserve_19 : decode b_MD_reserve 19 = .ok (.aload_n 0, 1) := by decide +kernel
theorem d_MD_reserve_20 : decode b_MD_reserve 20 = .ok (.getfield 30, 3) := by decide +kernel
theorem d_MD_reserve_23 : decode b_MD_reserve 23 = .ok (.ifCond .le 5, 3) := by decide +kernel
theorem d_MD_reserve_26 : decode b_MD_reserve 26 = .ok (.iconst 0, 1) := by decide +kernel
theorem d_MD_reserve_27 : decode b_MD_reserve 27 = .ok (.ireturn, 1) := by decide +kernel
theorem d_MD_reserve_28 : decode b_MD_reserve 28 = .ok (.aload_n 0, 1) := by decide +kernel
theorem d_MD_reserve_29 : decode b_MD_reserve 29 = .ok (.iload_n 1, 1) := by decide +kernel
theorem d_MD_reserve_30 : decode b_MD_reserve 30 = .ok (.putfield 41, 3) := by decide +kernel
theorem d_MD_reserve_33 : decode b_MD_reserve 33 = .ok (.aload_n 0, 1) := by decide +kernel
theorem d_MD_reserve_34 : decode b_MD_reserve 34 = .ok (.invokevirtual 59, 3) := by decide +kernel
theorem d_MD_reserve_37 : decode b_MD_reserve 37 = .ok (.iload_n 1, 1) := by decide +kernel
theorem d_MD_reserve_38 : decode b_MD_reserve 38 = .ok (.isub, 1) := by decide +kernel
theorem d_MD_reserve_39 : decode b_MD_reserve 39 = .ok (.istore_n 2, 1) := by decide +kernel
theorem d_MD_reserve_40 : decode b_MD_reserve 40 = .ok (.iload_n 2, 1) := by decide +kernel
theorem d_MD_reserve_41 : decode b_MD_reserve 41 = .ok (.ifCond .ge 7, 3) := by decide +kernel
theorem d_MD_reserve_44 : decode b_MD_reserve 44 = .ok (.iconst 0, 1) := by decide +kernel
theorem d_MD_reserve_45 : decode b_MD_reserve 45 = .ok (.goto 4, 3) := by decide +kernel
theorem d_MD_reserve_48 : decode b_MD_reserve 48 = .ok (.iload_n 2, 1) := by decide +kernel
theorem d_MD_reserve_49 : decode b_MD_reserve 49 = .ok (.ireturn, 1) := by decide +kernel
theorem d_MD_findRun_0 : decode b_MD_findRun 0 = .ok (.aload_n 0, 1) := by decide +kernel
theorem d_MD_findRun_1 : decode b_MD_findRun 1 = .ok (.iconst 0, 1) := by decide +kernel
theorem d_MD_findRun_2 : decode b_MD_findRun 2 = .ok (.putfield 63, 3) := by decide +kernel
theorem d_MD_findRun_5 : decode b_MD_findRun 5 = .ok (.iconst 0, 1) := by decide +kernel
theorem d_MD_findRun_6 : decode b_MD_findRun 6 = .ok (.istore_n 3, 1) := by decide +kernel
theorem d_MD_findRun_7 : decode b_MD_findRun 7 = .ok (.iload_n 3, 1) := by decide +kernel
theorem d_MD_findRun_8 : decode b_MD_findRun 8 = .ok (.aload_n 0, 1) := by decide +kernel
theorem d_MD_findRun_9 : decode b_MD_findRun 9 = .ok (.getfield 7, 3) := by decide +kernel
theorem d_MD_findRun_12 : decode b_MD_findRun 12 = .ok (.iload_n 1, 1) := by decide +kernel
theorem d_MD_findRun_13 : decode b_MD_findRun 13 = .ok (.iaload, 1) := by decide +kernel
theorem d_MD_findRun_14 : decode b_MD_findRun 14 = .ok (.if_icmp .ge 130, 3) := by decide +kernel
theorem d_MD_findRun_17 : decode b_MD_findRun 17 = .ok (.iload_n 3, 1) := by decide +kernel
theorem d_MD_findRun_18 : decode b_MD_findRun 18 = .ok (.istore 4, 2) := by decide +kernel
theorem d_MD_findRun_20 : decode b_MD_findRun 20 = .ok (.iload 4, 2) := by decide +kernel
theorem d_MD_findRun_22 : decode b_MD_findRun 22 = .ok (.aload_n 0, 1) := by decide +kernel
theorem d_MD_findRun_23 : decode b_MD_findRun 23 = .ok (.getfield 7, 3) := by decide +kernel
theorem d_MD_findRun_26 : decode b_MD_findRun 26 = .ok (.iload_n 1, 1) := by decide +kernel
theorem d_MD_findRun_27 : decode b_MD_findRun 27 = .ok (.iaload, 1) := by decide +kernel
theorem d_MD_findRun_28 : decode b_MD_findRun 28 = .ok (.if_icmp .ge 25, 3) := by decide +kernel
theorem d_MD_findRun_31 : decode b_MD_findRun 31 = .ok (.aload_n 0, 1) := by decide +kernel
theorem d_MD_findRun_32 : decode b_MD_findRun 32 = .ok (.getfield 13, 3) := by decide +kernel
theorem d_MD_findRun_35 : decode b_MD_findRun 35 = .ok (.sipush 256, 3) := by decide +kernel
theorem d_MD_findRun_38 : decode b_MD_findRun 38 = .ok (.iload_n 1, 1) := by decide +kernel
theorem d_MD_findRun_39 : decode b_MD_findRun 39 = .ok (.imul, 1) := by decide +kernel
theorem d_MD_findRun_40 : decode b_MD_findRun 40 = .ok (.iload 4, 2) := by decide +kernel
theorem d_MD_findRun_42 : decode b_MD_findRun 42 = .ok (.iadd, 1) := by decide +kernel
theorem d_MD_findRun_43 : decode b_MD_findRun 43 = .ok (.baload, 1) := by decide +kernel
theorem d_MD_findRun_44 : decode b_MD_findRun 44 = .ok (.ifCond .ne 9, 3) := by decide +kernel
theorem d_MD_findRun_47 : decode b_MD_findRun 47 = .ok (.iinc 4 1, 3) := by decide +kernel
theorem d_MD_findRun_50 : decode b_MD_findRun 50 = .ok (.goto (-30), 3) := by decide +kernel
theorem d_MD_findRun_53 : decode b_MD_findRun 53 = .ok (.iload 4, 2) := by decide +kernel
theorem d_MD_findRun_55 : decode b_MD_findRun 55 = .ok (.iload_n 3, 1) := by decide +kernel
theorem d_MD_findRun_56 : decode b_MD_findRun 56 = .ok (.isub, 1) := by decide +kernel
theorem d_MD_findRun_57 : decode b_MD_findRun 57 = .ok (.istore 5, 2) := by decide +kernel
theorem d_MD_findRun_59 : decode b_MD_findRun 59 = .ok (.iload_n 2, 1) := by decide +kernel
theorem d_MD_findRun_60 : decode b_MD_findRun 60 = .ok (.ifCond .ne 20, 3) := by decide +kernel
theorem d_MD_findRun_63 : decode b_MD_findRun 63 = .ok (.iload 5, 2) := by decide +kernel
theorem d_MD_findRun_65 : decode b_MD_findRun 65 = .ok (.aload_n 0, 1) := by decide +kernel
theorem d_MD_findRun_66 : decode b_MD_findRun 66 = .ok (.getfield 63, 3) := by decide +kernel
theorem d_MD_findRun_69 : decode b_MD_findRun 69 = .ok (.if_icmp .le 7, 3) := by decide +kernel
theorem d_MD_findRun_72 : decode b_MD_findRun 72 = .ok (.iconst 1, 1) := by decide +kernel
theorem d_MD_findRun_73 : decode b_MD_findRun 73 = .ok (.goto 34, 3) := by decide +kernel
theorem d_MD_findRun_76 : decode b_MD_findRun 76 = .ok (.iconst 0, 1) := by decide +kernel
theorem d_MD_findRun_77 : decode b_MD_findRun 77 = .ok (.goto 30, 3) := by decide +kernel
theorem d_MD_findRun_80 : decode b_MD_findRun 80 = .ok (.iload 5, 2) := by decide +kernel
theorem d_MD_findRun_82 : decode b_MD_findRun 82 = .ok (.iload_n 2, 1) := by decide +kernel
theorem d_MD_findRun_83 : decode b_MD_findRun 83 = .ok (.if_icmp .lt 23, 3) := by decide +kernel
theorem d_MD_findRun_86 : decode b_MD_findRun 86 = .ok (.aload_n 0, 1) := by decide +kernel
theorem d_MD_findRun_87 : decode b_MD_findRun 87 = .ok (.getfield 63, 3) := by decide +kernel
theorem d_MD_findRun_90 : decode b_MD_findRun 90 = .ok (.ifCond .eq 12, 3) := by decide +kernel
theorem d_MD_findRun_93 : decode b_MD_findRun 93 = .ok (.iload 5, 2) := by decide +kernel
theorem d_MD_findRun_95 : decode b_MD_findRun 95 = .ok (.aload_n 0, 1) := by decide +kernel
theorem d_MD_findRun_96 : decode b_MD_findRun 96 = .ok (.getfield 63, 3) := by decide +kernel
theorem d_MD_findRun_99 : decode b_MD_findRun 99 = .ok (.if_icmp .ge 7, 3) := by decide +kernel
theorem d_MD_findRun_102 : decode b_MD_findRun 102 = .ok (.iconst 1, 1) := by decide +kernel
theorem d_MD_findRun_103 : decode b_MD_findRun 103 = .ok (.goto 4, 3) := by decide +kernel
theorem d_MD_findRun_106 : decode b_MD_findRun 106 = .ok (.iconst 0, 1) := by decide +kernel
theorem d_MD_findRun_107 : decode b_MD_findRun 107 = .ok (.istore 6, 2) := by decide +kernel
theorem d_MD_findRun_109 : decode b_MD_findRun 109 = .ok (.iload 5, 2) := by decide +kernel
theorem d_MD_findRun_111 : decode b_MD_findRun 111 = .ok (.ifCond .le 25, 3) := by decide +kernel
theorem d_MD_findRun_114 : decode b_MD_findRun 114 = .ok (.iload 6, 2) := by decide +kernel
theorem d_MD_findRun_116 : decode b_MD_findRun 116 = .ok (.ifCond .eq 20, 3) := by decide +kernel
theorem d_MD_findRun_119 : decode b_MD_findRun 119 = .ok (.aload_n 0, 1) := by decide +kernel
theorem d_MD_findRun_120 : decode b_MD_findRun 120 = .ok (.sipush 256, 3) := by decide +kernel
theorem d_MD_findRun_123 : decode b_MD_findRun 123 = .ok (.iload_n 1, 1) := by decide +kernel
theorem d_MD_findRun_124 : decode b_MD_findRun 124 = .ok (.imul, 1) := by decide +kernel
theorem d_MD_findRun_125 : decode b_MD_findRun 125 = .ok (.iload_n 3, 1) := by decide +kernel
theorem d_MD_findRun_126 : decode b_MD_findRun 126 = .ok (.iadd, 1) := by decide +kernel
theorem d_MD_findRun_127 : decode b_MD_findRun 127 = .ok (.putfield 66, 3) := by decide +kernel
theorem d_MD_findRun_130 : decode b_MD_findRun 130 = .ok (.aload_n 0, 1) := by decide +kernel
theorem d_MD_findRun_131 : decode b_MD_findRun 131 = .ok (.iload 5, 2) := by decide +kernel
theorem d_MD_findRun_133 : decode b_MD_findRun 133 = .ok (.putfield 63, 3) := by decide +kernel
theorem d_MD_findRun_136 : decode b_MD_findRun 136 = .ok (.iload 4, 2) := by decide +kernel
theorem d_MD_findRun_138 : decode b_MD_findRun 138 = .ok (.iconst 1, 1) := by decide +kernel
theorem d_MD_findRun_139 : decode b_MD_findRun 139 = .ok (.iadd, 1) := by decide +kernel
theorem d_MD_findRun_140 : decode b_MD_findRun 140 = .ok (.istore_n 3, 1) := by decide +kernel
theorem d_MD_findRun_141 : decode b_MD_findRun 141 = .ok (.goto (-134), 3) := by decide +kernel
theorem d_MD_findRun_144 : decode b_MD_findRun 144 = .ok (.return_, 1) := by decide +kernel
theorem d_MD_areFree_0 : decode b_MD_areFree 0 = .ok (.iconst 1, 1) := by decide +kernel
theorem d_MD_areFree_1 : decode b_MD_areFree 1 = .ok (.istore_n 3, 1) := by decide +kernel
theorem d_MD_areFree_2 : decode b_MD_areFree 2 = .ok (.iload_n 1, 1) := by decide +kernel
theorem d_MD_areFree_3 : decode b_MD_areFree 3 = .ok (.istore 4, 2) := by decide +kernel
theorem d_MD_areFree_5 : decode b_MD_areFree 5 = .ok (.iload 4, 2) := by decide +kernel
theorem d_MD_areFree_7 : decode b_MD_areFree 7 = .ok (.iload_n 1, 1) := by decide +kernel
theorem d_MD_areFree_8 : decode b_MD_areFree 8 = .ok (.iload_n 2, 1) := by decide +kernel
theorem d_MD_areFree_9 : decode b_MD_areFree 9 = .ok (.iadd, 1) := by decide +kernel
theorem d_MD_areFree_10 : decode b_MD_areFree 10 = .ok (.if_icmp .ge 52, 3) := by decide +kernel
theorem d_MD_areFree_13 : decode b_MD_areFree 13 = .ok (.iload_n 3, 1) := by decide +kernel
theorem d_MD_areFree_14 : decode b_MD_areFree 14 = .ok (.ifCond .eq 40, 3) := by decide +kernel
theorem d_MD_areFree_17 : decode b_MD_areFree 17 = .ok (.aload_n 0, 1) := by decide +kernel
theorem d_MD_areFree_18 : decode b_MD_areFree 18 = .ok (.iload 4, 2) := by decide +kernel
theorem d_MD_areFree_20 : decode b_MD_areFree 20 = .ok (.invokevirtual 69, 3) := by decide +kernel
theorem d_MD_areFree_23 : decode b_MD_areFree 23 = .ok (.ifCond .eq 31, 3) := by decide +kernel
theorem d_MD_areFree_26 : decode b_MD_areFree 26 = .ok (.iload 4, 2) := by decide +kernel
theorem d_MD_areFree_28 : decode b_MD_areFree 28 = .ok (.sipush 256, 3) := by decide +kernel
theorem d_MD_areFree_31 : decode b_MD_areFree 31 = .ok (.idiv, 1) := by decide +kernel
theorem d_MD_areFree_32 : decode b_MD_areFree 32 = .ok (.iload_n 1, 1) := by decide +kernel
theorem d_MD_areFree_33 : decode b_MD_areFree 33 = .ok (.sipush 256, 3) := by decide +kernel
theorem d_MD_areFree_36 : decode b_MD_areFree 36 = .ok (.idiv, 1) := by decide +kernel
theorem d_MD_areFree_37 : decode b_MD_areFree 37 = .ok (.if_icmp .ne 17, 3) := by decide +kernel
theorem d_MD_areFree_40 : decode b_MD_areFree 40 = .ok (.aload_n 0, 1) := by decide +kernel
theorem d_MD_areFree_41 : decode b_MD_areFree 41 = .ok (.getfield 13, 3) := by decide +kernel
theorem d_MD_areFree_44 : decode b_MD_areFree 44 = .ok (.iload 4, 2) := by decide +kernel
theorem d_MD_areFree_46 : decode b_MD_areFree 46 = .ok (.baload, 1) := by decide +kernel
theorem d_MD_areFree_47 : decode b_MD_areFree 47 = .ok (.ifCond .ne 7, 3) := by decide +kernel
theorem d_MD_areFree_50 : decode b_MD_areFree 50 = .ok (.iconst 1, 1) := by decide +kernel
theorem d_MD_areFree_51 : decode b_MD_areFree 51 = .ok (.goto 4, 3) := by decide +kernel
theorem d_MD_areFree_54 : decode b_MD_areFree 54 = .ok (.iconst 0, 1) := by decide +kernel
theorem d_MD_areFree_55 : decode b_MD_areFree 55 = .ok (.istore_n 3, 1) := by decide +kernel
theorem d_MD_areFree_56 : decode b_MD_areFree 56 = .ok (.iinc 4 1, 3) := by decide +kernel
theorem d_MD_areFree_59 : decode b_MD_areFree 59 = .ok (.goto (-54), 3) := by decide +kernel
theorem d_MD_areFree_62 : decode b_MD_areFree 62 = .ok (.iload_n 3, 1) := by decide +kernel
theorem d_MD_areFree_63 : decode b_MD_areFree 63 = .ok (.ireturn, 1) := by decide +kernel
theorem d_MD_mark_0 : decode b_MD_mark 0 = .ok (.aload_n 0, 1) := by decide +kernel
theorem d_MD_mark_1 : decode b_MD_mark 1 = .ok (.getfield 23, 3) := by decide +kernel
theorem d_MD_mark_4 : decode b_MD_mark 4 = .ok (.iconst 1, 1) := by decide +kernel
theorem d_MD_mark_5 : decode b_MD_mark 5 = .ok (.iconst 1, 1) := by decide +kernel
theorem d_MD_mark_6 : decode b_MD_mark 6 = .ok (.bastore, 1) := by decide +kernel
theorem d_MD_mark_7 : decode b_MD_mark 7 = .ok (.iload_n 1, 1) := by decide +kernel
theorem d_MD_mark_8 : decode b_MD_mark 8 = .ok (.istore 4, 2) := by decide +kernel
theorem d_MD_mark_10 : decode b_MD_mark 10 = .ok (.iload 4, 2) := by decide +kernel
theorem d_MD_mark_12 : decode b_MD_mark 12 = .ok (.iload_n 1, 1) := by decide +kernel
theorem d_MD_mark_13 : decode b_MD_mark 13 = .ok (.iload_n 2, 1) := by decide +kernel
theorem d_MD_mark_14 : decode b_MD_mark 14 = .ok (.iadd, 1) := by decide +kernel
theorem d_MD_mark_15 : decode b_MD_mark 15 = .ok (.if_icmp .ge 32, 3) := by decide +kernel
theorem d_MD_mark_18 : decode b_MD_mark 18 = .ok (.aload_n 0, 1) := by decide +kernel
theorem d_MD_mark_19 : decode b_MD_mark 19 = .ok (.getfield 13, 3) := by decide +kernel
theorem d_MD_mark_22 : decode b_MD_mark 22 = .ok (.iload 4, 2) := by decide +kernel
theorem d_MD_mark_24 : decode b_MD_mark 24 = .ok (.iload_n 3, 1) := by decide +kernel
theorem d_MD_mark_25 : decode b_MD_mark 25 = .ok (.bastore, 1) := by decide +kernel
theorem d_MD_mark_26 : decode b_MD_mark 26 = .ok (.aload_n 0, 1) := by decide +kernel
theorem d_MD_mark_27 : decode b_MD_mark 27 = .ok (.getfield 23, 3) := by decide +kernel
theorem d_MD_mark_30 : decode b_MD_mark 30 = .ok (.iload 4, 2) := by decide +kernel
theorem d_MD_mark_32 : decode b_MD_mark 32 = .ok (.sipush 256, 3) := by decide +kernel
theorem d_MD_mark_35 : decode b_MD_mark 35 = .ok (.idiv, 1) := by decide +kernel
theorem d_MD_mark_36 : decode b_MD_mark 36 = .ok (.invokestatic 47, 3) := by decide +kernel
theorem d_MD_mark_39 : decode b_MD_mark 39 = .ok (.iconst 1, 1) := by decide +kernel
theorem d_MD_mark_40 : decode b_MD_mark 40 = .ok (.bastore, 1) := by decide +kernel
theorem d_MD_mark_41 : decode b_MD_mark 41 = .ok (.iinc 4 1, 3) := by decide +kernel
theorem d_MD_mark_44 : decode b_MD_mark 44 = .ok (.goto (-34), 3) := by decide +kernel
theorem d_MD_mark_47 : decode b_MD_mark 47 = .ok (.return_, 1) := by decide +kernel
theorem d_MD_take_0 : decode b_MD_take 0 = .ok (.aload_n 0, 1) := by decide +kernel
theorem d_MD_take_1 : decode b_MD_take 1 = .ok (.aload_n 0, 1) := by decide +kernel
theorem d_MD_take_2 : decode b_MD_take 2 = .ok (.iload_n 1, 1) := by decide +kernel
theorem d_MD_take_3 : decode b_MD_take 3 = .ok (.invokevirtual 69, 3) := by decide +kernel
theorem d_MD_take_6 : decode b_MD_take 6 = .ok (.ifCond .eq 15, 3) := by decide +kernel
theorem d_MD_take_9 : decode b_MD_take 9 = .ok (.iload_n 2, 1) := by decide +kernel
theorem d_MD_take_10 : decode b_MD_take 10 = .ok (.iconst 1, 1) := by decide +kernel
theorem d_MD_take_11 : decode b_MD_take 11 = .ok (.if_icmp .lt 10, 3) := by decide +kernel
theorem d_MD_take_14 : decode b_MD_take 14 = .ok (.iload_n 2, 1) := by decide +kernel
theorem d_MD_take_15 : decode b_MD_take 15 = .ok (.sipush 256, 3) := by decide +kernel
theorem d_MD_take_18 : decode b_MD_take 18 = .ok (.if_icmp .le 7, 3) := by decide +kernel
theorem d_MD_take_21 : decode b_MD_take 21 = .ok (.iconst 1, 1) := by decide +kernel
theorem d_MD_take_22 : decode b_MD_take 22 = .ok (.goto 4, 3) := by decide +kernel
theorem d_MD_take_25 : decode b_MD_take 25 = .ok (.iconst 0, 1) := by decide +kernel
theorem d_MD_take_26 : decode b_MD_take 26 = .ok (.putfield 30, 3) := by decide +kernel
theorem d_MD_take_29 : decode b_MD_take 29 = .ok (.aload_n 0, 1) := by decide +kernel
theorem d_MD_take_30 : decode b_MD_take 30 = .ok (.getfield 30, 3) := by decide +kernel
theorem d_MD_take_33 : decode b_MD_take 33 = .ok (.ifCond .le 5, 3) := by decide +kernel
theorem d_MD_take_36 : decode b_MD_take 36 = .ok (.iconst 0, 1) := by decide +kernel
theorem d_MD_take_37 : decode b_MD_take 37 = .ok (.ireturn, 1) := by decide +kernel
theorem d_MD_take_38 : decode b_MD_take 38 = .ok (.aload_n 0, 1) := by decide +kernel
theorem d_MD_take_39 : decode b_MD_take 39 = .ok (.invokevirtual 59, 3) := by decide +kernel
theorem d_MD_take_42 : decode b_MD_take 42 = .ok (.iload_n 3, 1) := by decide +kernel
theorem d_MD_take_43 : decode b_MD_take 43 = .ok (.ifCond .eq 7, 3) := by decide +kernel
theorem d_MD_take_46 : decode b_MD_take 46 = .ok (.iconst 0, 1) := by decide +kernel
theorem d_MD_take_47 : decode b_MD_take 47 = .ok (.goto 7, 3) := by decide +kernel
theorem d_MD_take_50 : decode b_MD_take 50 = .ok (.aload_n 0, 1) := by decide +kernel
theorem d_MD_take_51 : decode b_MD_take 51 = .ok (.getfield 41, 3) := by decide +kernel
theorem d_MD_take_54 : decode b_MD_take 54 = .ok (.isub, 1) := by decide +kernel
theorem d_MD_take_55 : decode b_MD_take 55 = .ok (.istore 4, 2) := by decide +kernel
theorem d_MD_take_57 : decode b_MD_take 57 = .ok (.aload_n 0, 1) := by decide +kernel
theorem d_MD_take_58 : decode b_MD_take 58 = .ok (.iload 4, 2) := by decide +kernel
theorem d_MD_take_60 : decode b_MD_take 60 = .ok (.iconst 1, 1) := by decide +kernel
theorem d_MD_take_61 : decode b_MD_take 61 = .ok (.if_icmp .ge 7, 3) := by decide +kernel
theorem d_MD_take_64 : decode b_MD_take 64 = .ok (.iconst 2, 1) := by decide +kernel
theorem d_MD_take_65 : decode b_MD_take 65 = .ok (.goto 4, 3) := by decide +kernel
theorem d_MD_take_68 : decode b_MD_take 68 = .ok (.iconst 0, 1) := by decide +kernel
theorem d_MD_take_69 : decode b_MD_take 69 = .ok (.putfield 30, 3) := by decide +kernel
theorem d_MD_take_72 : decode b_MD_take 72 = .ok (.aload_n 0, 1) := by decide +kernel
theorem d_MD_take_73 : decode b_MD_take 73 = .ok (.getfield 30, 3) := by decide +kernel
theorem d_MD_take_76 : decode b_MD_take 76 = .ok (.ifCond .le 5, 3) := by decide +kernel
theorem d_MD_take_79 : decode b_MD_take 79 = .ok (.iconst 0, 1) := by decide +kernel
theorem d_MD_take_80 : decode b_MD_take 80 = .ok (.ireturn, 1) := by decide +kernel
theorem d_MD_take_81 : decode b_MD_take 81 = .ok (.iload_n 2, 1) := by decide +kernel
theorem d_MD_take_82 : decode b_MD_take 82 = .ok (.iload 4, 2) := by decide +kernel
theorem d_MD_take_84 : decode b_MD_take 84 = .ok (.if_icmp .ge 7, 3) := by decide +kernel
theorem d_MD_take_87 : decode b_MD_take 87 = .ok (.iload_n 2, 1) := by decide +kernel
theorem d_MD_take_88 : decode b_MD_take 88 = .ok (.goto 5, 3) := by decide +kernel
theorem d_MD_take_91 : decode b_MD_take 91 = .ok (.iload 4, 2) := by decide +kernel
theorem d_MD_take_93 : decode b_MD_take 93 = .ok (.istore 5, 2) := by decide +kernel
theorem d_MD_take_95 : decode b_MD_take 95 = .ok (.aload_n 0, 1) := by decide +kernel
theorem d_MD_take_96 : decode b_MD_take 96 = .ok (.iload_n 1, 1) := by decide +kernel
theorem d_MD_take_97 : decode b_MD_take 97 = .ok (.iload 5, 2) := by decide +kernel
theorem d_MD_take_99 : decode b_MD_take 99 = .ok (.invokevirtual 73, 3) := by decide +kernel
theorem d_MD_take_102 : decode b_MD_take 102 = .ok (.ifCond .eq 7, 3) := by decide +kernel
theorem d_MD_take_105 : decode b_MD_take 105 = .ok (.iload_n 1, 1) := by decide +kernel
theorem d_MD_take_106 : decode b_MD_take 106 = .ok (.goto 4, 3) := by decide +kernel
theorem d_MD_take_109 : decode b_MD_take 109 = .ok (.iconst (-1), 1) := by decide +kernel
theorem d_MD_take_110 : decode b_MD_take 110 = .ok (.istore 6, 2) := by decide +kernel
theorem d_MD_take_112 : decode b_MD_take 112 = .ok (.iconst 0, 1) := by decide +kernel
theorem d_MD_take_113 : decode b_MD_take 113 = .ok (.istore 7, 2) := by decide +kernel
theorem d_MD_take_115 : decode b_MD_take 115 = .ok (.iload 7, 2) := by decide +kernel
theorem d_MD_take_117 : decode b_MD_take 117 = .ok (.aload_n 0, 1) := by decide +kernel
theorem d_MD_take_118 : decode b_MD_take 118 = .ok (.getfield 38, 3) := by decide +kernel
theorem d_MD_take_121 : decode b_MD_take 121 = .ok (.if_icmp .ge 50, 3) := by decide +kernel
theorem d_MD_take_124 : decode b_MD_take 124 = .ok (.iload 6, 2) := by decide +kernel
theorem d_MD_take_126 : decode b_MD_take 126 = .ok (.ifCond .ge 45, 3) := by decide +kernel
theorem d_MD_take_129 : decode b_MD_take 129 = .ok (.aload_n 0, 1) := by decide +kernel
theorem d_MD_take_130 : decode b_MD_take 130 = .ok (.iload_n 1, 1) := by decide +kernel
theorem d_MD_take_131 : decode b_MD_take 131 = .ok (.sipush 256, 3) := by decide +kernel
theorem d_MD_take_134 : decode b_MD_take 134 = .ok (.idiv, 1) := by decide +kernel
theorem d_MD_take_135 : decode b_MD_take 135 = .ok (.iload 7, 2) := by decide +kernel
theorem d_MD_take_137 : decode b_MD_take 137 = .ok (.iadd, 1) := by decide +kernel
theorem d_MD_take_138 : decode b_MD_take 138 = .ok (.aload_n 0, 1) := by decide +kernel
theorem d_MD_take_139 : decode b_MD_take 139 = .ok (.getfield 38, 3) := by decide +kernel
theorem d_MD_take_142 : decode b_MD_take 142 = .ok (.irem, 1) := by decide +kernel
theorem d_MD_take_143 : decode b_MD_take 143 = .ok (.iload 5, 2) := by decide +kernel
theorem d_MD_take_145 : decode b_MD_take 145 = .ok (.invokevirtual 77, 3) := by decide +kernel
theorem d_MD_take_148 : decode b_MD_take 148 = .ok (.aload_n 0, 1) := by decide +kernel
theorem d_MD_take_149 : decode b_MD_take 149 = .ok (.getfield 63, 3) := by decide +kernel
theorem d_MD_take_152 : decode b_MD_take 152 = .ok (.ifCond .le 10, 3) := by decide +kernel
theorem d_MD_take_155 : decode b_MD_take 155 = .ok (.aload_n 0, 1) := by decide +kernel
theorem d_MD_take_156 : decode b_MD_take 156 = .ok (.getfield 66, 3) := by decide +kernel
theorem d_MD_take_159 : decode b_MD_take 159 = .ok (.goto 4, 3) := by decide +kernel
theorem d_MD_take_162 : decode b_MD_take 162 = .ok (.iconst (-1), 1) := by decide +kernel
theorem d_MD_take_163 : decode b_MD_take 163 = .ok (.istore 6, 2) := by decide +kernel
theorem d_MD_take_165 : decode b_MD_take 165 = .ok (.iinc 7 1, 3) := by decide +kernel
theorem d_MD_take_168 : decode b_MD_take 168 = .ok (.goto (-53), 3) := by decide +kernel
theorem d_MD_take_171 : decode b_MD_take 171 = .ok (.iload 6, 2) := by decide +kernel
theorem d_MD_take_173 : decode b_MD_take 173 = .ok (.ifCond .ge 86, 3) := by decide +kernel
theorem d_MD_take_176 : decode b_MD_take 176 = .ok (.iconst 0, 1) := by decide +kernel
theorem d_MD_take_177 : decode b_MD_take 177 = .ok (.istore 7, 2) := by decide +kernel
theorem d_MD_take_179 : decode b_MD_take 179 = .ok (.iconst 0, 1) := by decide +kernel
theorem d_MD_take_180 : decode b_MD_take 180 = .ok (.istore 8, 2) := by decide +kernel
theorem d_MD_take_182 : decode b_MD_take 182 = .ok (.iload 8, 2) := by decide +kernel
theorem d_MD_take_184 : decode b_MD_take 184 = .ok (.aload_n 0, 1) := by decide +kernel
theorem d_MD_take_185 : decode b_MD_take 185 = .ok (.getfield 38, 3) := by decide +kernel
theorem d_MD_take_188 : decode b_MD_take 188 = .ok (.if_icmp .ge 67, 3) := by decide +kernel
theorem d_MD_take_191 : decode b_MD_take 191 = .ok (.aload_n 0, 1) := by decide +kernel
theorem d_MD_take_192 : decode b_MD_take 192 = .ok (.iload_n 1, 1) := by decide +kernel
theorem d_MD_take_193 : decode b_MD_take 193 = .ok (.sipush 256, 3) := by decide +kernel
theorem d_MD_take_196 : decode b_MD_take 196 = .ok (.idiv, 1) := by decide +kernel
theorem d_MD_take_197 : decode b_MD_take 197 = .ok (.iload 8, 2) := by decide +kernel
theorem d_MD_take_199 : decode b_MD_take 199 = .ok (.iadd, 1) := by decide +kernel
theorem d_MD_take_200 : decode b_MD_take 200 = .ok (.aload_n 0, 1) := by decide +kernel
theorem d_MD_take_201 : decode b_MD_take 201 = .ok (.getfield 38, 3) := by decide +kernel
theorem d_MD_take_204 : decode b_MD_take 204 = .ok (.irem, 1) := by decide +kernel
theorem d_MD_take_205 : decode b_MD_take 205 = .ok (.iconst 0, 1) := by decide +kernel
theorem d_MD_take_206 : decode b_MD_take 206 = .ok (.invokevirtual 77, 3) := by decide +kernel
theorem d_MD_take_209 : decode b_MD_take 209 = .ok (.aload_n 0, 1) := by decide +kernel
theorem d_MD_take_210 : decode b_MD_take 210 = .ok (.getfield 63, 3) := by decide +kernel
theorem d_MD_take_213 : decode b_MD_take 213 = .ok (.iload 7, 2) := by decide +kernel
theorem d_MD_take_215 : decode b_MD_take 215 = .ok (.if_icmp .le 10, 3) := by decide +kernel
theorem d_MD_take_218 : decode b_MD_take 218 = .ok (.aload_n 0, 1) := by decide +kernel
theorem d_MD_take_219 : decode b_MD_take 219 = .ok (.getfield 66, 3) := by decide +kernel
theorem d_MD_take_222 : decode b_MD_take 222 = .ok (.goto 5, 3) := by decide +kernel
theorem d_MD_take_225 : decode b_MD_take 225 = .ok (.iload 6, 2) := by decide +kernel
theorem d_MD_take_227 : decode b_MD_take 227 = .ok (.istore 6, 2) := by decide +kernel
theorem d_MD_take_229 : decode b_MD_take 229 = .ok (.aload_n 0, 1) := by decide +kernel
theorem d_MD_take_230 : decode b_MD_take 230 = .ok (.getfield 63, 3) := by decide +kernel
theorem d_MD_take_233 : decode b_MD_take 233 = .ok (.iload 7, 2) := by decide +kernel
theorem d_MD_take_235 : decode b_MD_take 235 = .ok (.if_icmp .le 10, 3) := by decide +kernel
theorem d_MD_take_238 : decode b_MD_take 238 = .ok (.aload_n 0, 1) := by decide +kernel
theorem d_MD_take_239 : decode b_MD_take 239 = .ok (.getfield 63, 3) := by decide +kernel
theorem d_MD_take_242 : decode b_MD_take 242 = .ok (.goto 5, 3) := by decide +kernel
theorem d_MD_take_245 : decode b_MD_take 245 = .ok (.iload 7, 2) := by decide +kernel
theorem d_MD_take_247 : decode b_MD_take 247 = .ok (.istore 7, 2) := by decide +kernel
theorem d_MD_take_249 : decode b_MD_take 249 = .ok (.iinc 8 1, 3) := by decide +kernel
theorem d_MD_take_252 : decode b_MD_take 252 = .ok (.goto (-70), 3) := by decide +kernel
theorem d_MD_take_255 : decode b_MD_take 255 = .ok (.iload 7, 2) := by decide +kernel
theorem d_MD_take_257 : decode b_MD_take 257 = .ok (.istore 5, 2) := by decide +kernel
theorem d_MD_take_259 : decode b_MD_take 259 = .ok (.aload_n 0, 1) := by decide +kernel
theorem d_MD_take_260 : decode b_MD_take 260 = .ok (.iload 6, 2) := by decide +kernel
theorem d_MD_take_262 : decode b_MD_take 262 = .ok (.iload 5, 2) := by decide +kernel
theorem d_MD_take_264 : decode b_MD_take 264 = .ok (.iconst 1, 1) := by decide +kernel
theorem d_MD_take_265 : decode b_MD_take 265 = .ok (.invokevirtual 80, 3) := by decide +kernel
theorem d_MD_take_268 : decode b_MD_take 268 = .ok (.aload_n 0, 1) := by decide +kernel
theorem d_MD_take_269 : decode b_MD_take 269 = .ok (.iload 5, 2) := by decide +kernel
theorem d_MD_take_271 : decode b_MD_take 271 = .ok (.putfield 44, 3) := by decide +kernel
theorem d_MD_take_274 : decode b_MD_take 274 = .ok (.iload 6, 2) := by decide +kernel
theorem d_MD_take_276 : decode b_MD_take 276 = .ok (.ireturn, 1) := by decide +kernel
theorem d_MD_taken_0 : decode b_MD_taken 0 = .ok (.aload_n 0, 1) := by decide +kernel
theorem d_MD_taken_1 : decode b_MD_taken 1 = .ok (.iconst 0, 1) := by decide +kernel
theorem d_MD_taken_2 : decode b_MD_taken 2 = .ok (.putfield 30, 3) := by decide +kernel
theorem d_MD_taken_5 : decode b_MD_taken 5 = .ok (.aload_n 0, 1) := by decide +kernel
theorem d_MD_taken_6 : decode b_MD_taken 6 = .ok (.getfield 44, 3) := by decide +kernel
theorem d_MD_taken_9 : decode b_MD_taken 9 = .ok (.ireturn, 1) := by decide +kernel
theorem d_MD_give_0 : decode b_MD_give 0 = .ok (.iload_n 2, 1) := by decide +kernel
theorem d_MD_give_1 : decode b_MD_give 1 = .ok (.iconst 1, 1) := by decide +kernel
theorem d_MD_give_2 : decode b_MD_give 2 = .ok (.if_icmp .lt 14, 3) := by decide +kernel
theorem d_MD_give_5 : decode b_MD_give 5 = .ok (.iload_n 2, 1) := by decide +kernel
theorem d_MD_give_6 : decode b_MD_give 6 = .ok (.sipush 1024, 3) := by decide +kernel
theorem d_MD_give_9 : decode b_MD_give 9 = .ok (.if_icmp .gt 7, 3) := by decide +kernel
theorem d_MD_give_12 : decode b_MD_give 12 = .ok (.iconst 1, 1) := by decide +kernel
theorem d_MD_give_13 : decode b_MD_give 13 = .ok (.goto 4, 3) := by decide +kernel
theorem d_MD_give_16 : decode b_MD_give 16 = .ok (.iconst 0, 1) := by decide +kernel
theorem d_MD_give_17 : decode b_MD_give 17 = .ok (.istore_n 3, 1) := by decide +kernel
theorem d_MD_give_18 : decode b_MD_give 18 = .ok (.iconst 0, 1) := by decide +kernel
theorem d_MD_give_19 : decode b_MD_give 19 = .ok (.istore 4, 2) := by decide +kernel
theorem d_MD_give_21 : decode b_MD_give 21 = .ok (.iload 4, 2) := by decide +kernel
theorem d_MD_give_23 : decode b_MD_give 23 = .ok (.iload_n 2, 1) := by decide +kernel
theorem d_MD_give_24 : decode b_MD_give 24 = .ok (.if_icmp .ge 41, 3) := by decide +kernel
theorem d_MD_give_27 : decode b_MD_give 27 = .ok (.iload_n 3, 1) := by decide +kernel
theorem d_MD_give_28 : decode b_MD_give 28 = .ok (.ifCond .eq 37, 3) := by decide +kernel
theorem d_MD_give_31 : decode b_MD_give 31 = .ok (.iload_n 1, 1) := by decide +kernel
theorem d_MD_give_32 : decode b_MD_give 32 = .ok (.ifCond .lt 25, 3) := by decide +kernel
theorem d_MD_give_35 : decode b_MD_give 35 = .ok (.iload_n 1, 1) := by decide +kernel
theorem d_MD_give_36 : decode b_MD_give 36 = .ok (.sipush 1024, 3) := by decide +kernel
theorem d_MD_give_39 : decode b_MD_give 39 = .ok (.if_icmp .ge 18, 3) := by decide +kernel
theorem d_MD_give_42 : decode b_MD_give 42 = .ok (.aload_n 0, 1) := by decide +kernel
theorem d_MD_give_43 : decode b_MD_give 43 = .ok (.iload_n 1, 1) := by decide +kernel
theorem d_MD_give_44 : decode b_MD_give 44 = .ok (.iload 4, 2) := by decide +kernel
theorem d_MD_give_46 : decode b_MD_give 46 = .ok (.iadd, 1) := by decide +kernel
theorem d_MD_give_47 : decode b_MD_give 47 = .ok (.invokevirtual 69, 3) := by decide +kernel
theorem d_MD_give_50 : decode b_MD_give 50 = .ok (.ifCond .eq 7, 3) := by decide +kernel
theorem d_MD_give_53 : decode b_MD_give 53 = .ok (.iconst 1, 1) := by decide +kernel
theorem d_MD_give_54 : decode b_MD_give 54 = .ok (.goto 4, 3) := by decide +kernel
theorem d_MD_give_57 : decode b_MD_give 57 = .ok (.iconst 0, 1) := by decide +kernel
theorem d_MD_give_58 : decode b_MD_give 58 = .ok (.istore_n 3, 1) := by decide +kernel
theorem d_MD_give_59 : decode b_MD_give 59 = .ok (.iinc 4 1, 3) := by decide +kernel
theorem d_MD_give_62 : decode b_MD_give 62 = .ok (.goto (-41), 3) := by decide +kernel
theorem d_MD_give_65 : decode b_MD_give 65 = .ok (.aload_n 0, 1) := by decide +kernel
theorem d_MD_give_66 : decode b_MD_give 66 = .ok (.iload_n 3, 1) := by decide +kernel
theorem d_MD_give_67 : decode b_MD_give 67 = .ok (.ifCond .eq 7, 3) := by decide +kernel
theorem d_MD_give_70 : decode b_MD_give 70 = .ok (.iconst 0, 1) := by decide +kernel
theorem d_MD_give_71 : decode b_MD_give 71 = .ok (.goto 4, 3) := by decide +kernel
theorem d_MD_give_74 : decode b_MD_give 74 = .ok (.iconst 1, 1) := by decide +kernel
theorem d_MD_give_75 : decode b_MD_give 75 = .ok (.putfield 30, 3) := by decide +kernel
theorem d_MD_give_78 : decode b_MD_give 78 = .ok (.iconst 0, 1) := by decide +kernel
theorem d_MD_give_79 : decode b_MD_give 79 = .ok (.istore 4, 2) := by decide +kernel
theorem d_MD_give_81 : decode b_MD_give 81 = .ok (.iload 4, 2) := by decide +kernel
theorem d_MD_give_83 : decode b_MD_give 83 = .ok (.iload_n 2, 1) := by decide +kernel
theorem d_MD_give_84 : decode b_MD_give 84 = .ok (.if_icmp .ge 59, 3) := by decide +kernel
theorem d_MD_give_87 : decode b_MD_give 87 = .ok (.iload_n 3, 1) := by decide +kernel
theorem d_MD_give_88 : decode b_MD_give 88 = .ok (.ifCond .eq 55, 3) := by decide +kernel
theorem d_MD_give_91 : decode b_MD_give 91 = .ok (.iload_n 1, 1) := by decide +kernel
theorem d_MD_give_92 : decode b_MD_give 92 = .ok (.iload 4, 2) := by decide +kernel
theorem d_MD_give_94 : decode b_MD_give 94 = .ok (.iadd, 1) := by decide +kernel
theorem d_MD_give_95 : decode b_MD_give 95 = .ok (.istore 5, 2) := by decide +kernel
theorem d_MD_give_97 : decode b_MD_give 97 = .ok (.aload_n 0, 1) := by decide +kernel
theorem d_MD_give_98 : decode b_MD_give 98 = .ok (.aload_n 0, 1) := by decide +kernel
theorem d_MD_give_99 : decode b_MD_give 99 = .ok (.getfield 13, 3) := by decide +kernel
theorem d_MD_give_102 : decode b_MD_give 102 = .ok (.iload 5, 2) := by decide +kernel
theorem d_MD_give_104 : decode b_MD_give 104 = .ok (.baload, 1) := by decide +kernel
theorem d_MD_give_105 : decode b_MD_give 105 = .ok (.ifCond .eq 21, 3) := by decide +kernel
theorem d_MD_give_108 : decode b_MD_give 108 = .ok (.iload 5, 2) := by decide +kernel
theorem d_MD_give_110 : decode b_MD_give 110 = .ok (.sipush 256, 3) := by decide +kernel
theorem d_MD_give_113 : decode b_MD_give 113 = .ok (.irem, 1) := by decide +kernel
theorem d_MD_give_114 : decode b_MD_give 114 = .ok (.iload 5, 2) := by decide +kernel
theorem d_MD_give_116 : decode b_MD_give 116 = .ok (.sipush 256, 3) := by decide +kernel
theorem d_MD_give_119 : decode b_MD_give 119 = .ok (.idiv, 1) := by decide +kernel
theorem d_MD_give_120 : decode b_MD_give 120 = .ok (.invokestatic 50, 3) := by decide +kernel
theorem d_MD_give_123 : decode b_MD_give 123 = .ok (.if_icmp .ge 7, 3) := by decide +kernel
theorem d_MD_give_126 : decode b_MD_give 126 = .ok (.iconst 2, 1) := by decide +kernel
theorem d_MD_give_127 : decode b_MD_give 127 = .ok (.goto 7, 3) := by decide +kernel
theorem d_MD_give_130 : decode b_MD_give 130 = .ok (.aload_n 0, 1) := by decide +kernel
theorem d_MD_give_131 : decode b_MD_give 131 = .ok (.getfield 30, 3) := by decide +kernel
theorem d_MD_give_134 : decode b_MD_give 134 = .ok (.putfield 30, 3) := by decide +kernel
theorem d_MD_give_137 : decode b_MD_give 137 = .ok (.iinc 4 1, 3) := by decide +kernel
theorem d_MD_give_140 : decode b_MD_give 140 = .ok (.goto (-59), 3) := by decide +kernel
theorem d_MD_give_143 : decode b_MD_give 143 = .ok (.aload_n 0, 1) := by decide +kernel
theorem d_MD_give_144 : decode b_MD_give 144 = .ok (.getfield 30, 3) := by decide +kernel
theorem d_MD_give_147 : decode b_MD_give 147 = .ok (.ifCond .le 5, 3) := by decide +kernel
theorem d_MD_give_150 : decode b_MD_give 150 = .ok (.iconst 0, 1) := by decide +kernel
theorem d_MD_give_151 : decode b_MD_give 151 = .ok (.ireturn, 1) := by decide +kernel
theorem d_MD_give_152 : decode b_MD_give 152 = .ok (.aload_n 0, 1) := by decide +kernel
theorem d_MD_give_153 : decode b_MD_give 153 = .ok (.iload_n 1, 1) := by decide +kernel
theorem d_MD_give_154 : decode b_MD_give 154 = .ok (.iload_n 2, 1) := by decide +kernel
theorem d_MD_give_155 : decode b_MD_give 155 = .ok (.iconst 0, 1) := by decide +kernel
theorem d_MD_give_156 : decode b_MD_give 156 = .ok (.invokevirtual 80, 3) := by decide +kernel
theorem d_MD_give_159 : decode b_MD_give 159 = .ok (.aload_n 0, 1) := by decide +kernel
theorem d_MD_give_160 : decode b_MD_give 160 = .ok (.invokevirtual 59, 3) := by decide +kernel
theorem d_MD_give_163 : decode b_MD_give 163 = .ok (.ireturn, 1) := by decide +kernel
theorem d_MD_groupOfPlain_0 : decode b_MD_groupOfPlain 0 = .ok (.aload_n 0, 1) := by decide +kernel
theorem d_MD_groupOfPlain_1 : decode b_MD_groupOfPlain 1 = .ok (.iload_n 1, 1) := by decide +kernel
theorem d_MD_groupOfPlain_2 : decode b_MD_groupOfPlain 2 = .ok (.invokevirtual 56, 3) := by decide +kernel
theorem d_MD_groupOfPlain_5 : decode b_MD_groupOfPlain 5 = .ok (.ifCond .le 13, 3) := by decide +kernel
theorem d_MD_groupOfPlain_8 : decode b_MD_groupOfPlain 8 = .ok (.aload_n 0, 1) := by decide +kernel
theorem d_MD_groupOfPlain_9 : decode b_MD_groupOfPlain 9 = .ok (.iload_n 1, 1) := by decide +kernel
theorem d_MD_groupOfPlain_10 : decode b_MD_groupOfPlain 10 = .ok (.invokevirtual 53, 3) := by decide +kernel
theorem d_MD_groupOfPlain_13 : decode b_MD_groupOfPlain 13 = .ok (.ifCond .le 5, 3) := by decide +kernel
theorem d_MD_groupOfPlain_16 : decode b_MD_groupOfPlain 16 = .ok (.iload_n 1, 1) := by decide +kernel
theorem d_MD_groupOfPlain_17 : decode b_MD_groupOfPlain 17 = .ok (.ireturn, 1) := by decide +kernel
theorem d_MD_groupOfPlain_18 : decode b_MD_groupOfPlain 18 = .ok (.iconst 1, 1) := by decide +kernel
theorem d_MD_groupOfPlain_19 : decode b_MD_groupOfPlain 19 = .ok (.istore_n 2, 1) := by decide +kernel
theorem d_MD_groupOfPlain_20 : decode b_MD_groupOfPlain 20 = .ok (.iload_n 2, 1) := by decide +kernel
theorem d_MD_groupOfPlain_21 : decode b_MD_groupOfPlain 21 = .ok (.bipush 8, 2) := by decide +kernel
theorem d_MD_groupOfPlain_23 : decode b_MD_groupOfPlain 23 = .ok (.if_icmp .ge 39, 3) := by decide +kernel
theorem d_MD_groupOfPlain_26 : decode b_MD_groupOfPlain 26 = .ok (.iload_n 1, 1) := by decide +kernel
theorem d_MD_groupOfPlain_27 : decode b_MD_groupOfPlain 27 = .ok (.iload_n 2, 1) := by decide +kernel
theorem d_MD_groupOfPlain_28 : decode b_MD_groupOfPlain 28 = .ok (.iadd, 1) := by decide +kernel
theorem d_MD_groupOfPlain_29 : decode b_MD_groupOfPlain 29 = .ok (.aload_n 0, 1) := by decide +kernel
theorem d_MD_groupOfPlain_30 : decode b_MD_groupOfPlain 30 = .ok (.getfield 38, 3) := by decide +kernel
theorem d_MD_groupOfPlain_33 : decode b_MD_groupOfPlain 33 = .ok (.irem, 1) := by decide +kernel
theorem d_MD_groupOfPlain_34 : decode b_MD_groupOfPlain 34 = .ok (.istore_n 3, 1) := by decide +kernel
theorem d_MD_groupOfPlain_35 : decode b_MD_groupOfPlain 35 = .ok (.aload_n 0, 1) := by decide +kernel
theorem d_MD_groupOfPlain_36 : decode b_MD_groupOfPlain 36 = .ok (.iload_n 3, 1) := by decide +kernel
theorem d_MD_groupOfPlain_37 : decode b_MD_groupOfPlain 37 = .ok (.invokevirtual 56, 3) := by decide +kernel
theorem d_MD_groupOfPlain_40 : decode b_MD_groupOfPlain 40 = .ok (.ifCond .le 13, 3) := by decide +kernel
theorem d_MD_groupOfPlain_43 : decode b_MD_groupOfPlain 43 = .ok (.aload_n 0, 1) := by decide +kernel
theorem d_MD_groupOfPlain_44 : decode b_MD_groupOfPlain 44 = .ok (.iload_n 3, 1) := by decide +kernel
theorem d_MD_groupOfPlain_45 : decode b_MD_groupOfPlain 45 = .ok (.invokevirtual 53, 3) := by decide +kernel
theorem d_MD_groupOfPlain_48 : decode b_MD_groupOfPlain 48 = .ok (.ifCond .le 5, 3) := by decide +kernel
theorem d_MD_groupOfPlain_51 : decode b_MD_groupOfPlain 51 = .ok (.iload_n 3, 1) := by decide +kernel
theorem d_MD_groupOfPlain_52 : decode b_MD_groupOfPlain 52 = .ok (.ireturn, 1) := by decide +kernel
theorem d_MD_groupOfPlain_53 : decode b_MD_groupOfPlain 53 = .ok (.iconst 2, 1) := by decide +kernel
theorem d_MD_groupOfPlain_54 : decode b_MD_groupOfPlain 54 = .ok (.iload_n 2, 1) := by decide +kernel
theorem d_MD_groupOfPlain_55 : decode b_MD_groupOfPlain 55 = .ok (.imul, 1) := by decide +kernel
theorem d_MD_groupOfPlain_56 : decode b_MD_groupOfPlain 56 = .ok (.iconst 1, 1) := by decide +kernel
theorem d_MD_groupOfPlain_57 : decode b_MD_groupOfPlain 57 = .ok (.iadd, 1) := by decide +kernel
theorem d_MD_groupOfPlain_58 : decode b_MD_groupOfPlain 58 = .ok (.istore_n 2, 1) := by decide +kernel
theorem d_MD_groupOfPlain_59 : decode b_MD_groupOfPlain 59 = .ok (.goto (-39), 3) := by decide +kernel
theorem d_MD_groupOfPlain_62 : decode b_MD_groupOfPlain 62 = .ok (.aload_n 0, 1) := by decide +kernel
theorem d_MD_groupOfPlain_63 : decode b_MD_groupOfPlain 63 = .ok (.iload_n 1, 1) := by decide +kernel
theorem d_MD_groupOfPlain_64 : decode b_MD_groupOfPlain 64 = .ok (.invokevirtual 84, 3) := by decide +kernel
theorem d_MD_groupOfPlain_67 : decode b_MD_groupOfPlain 67 = .ok (.ireturn, 1) := by decide +kernel
theorem d_MD_firstFree_0 : decode b_MD_firstFree 0 = .ok (.iconst 0, 1) := by decide +kernel
theorem d_MD_firstFree_1 : decode b_MD_firstFree 1 = .ok (.istore_n 2, 1) := by decide +kernel
theorem d_MD_firstFree_2 : decode b_MD_firstFree 2 = .ok (.iload_n 2, 1) := by decide +kernel
theorem d_MD_firstFree_3 : decode b_MD_firstFree 3 = .ok (.aload_n 0, 1) := by decide +kernel
theorem d_MD_firstFree_4 : decode b_MD_firstFree 4 = .ok (.getfield 38, 3) := by decide +kernel
theorem d_MD_firstFree_7 : decode b_MD_firstFree 7 = .ok (.if_icmp .ge 33, 3) := by decide +kernel
theorem d_MD_firstFree_10 : decode b_MD_firstFree 10 = .ok (.aload_n 0, 1) := by decide +kernel
theorem d_MD_firstFree_11 : decode b_MD_firstFree 11 = .ok (.iload_n 1, 1) := by decide +kernel
theorem d_MD_firstFree_12 : decode b_MD_firstFree 12 = .ok (.iload_n 2, 1) := by decide +kernel
theorem d_MD_firstFree_13 : decode b_MD_firstFree 13 = .ok (.iadd, 1) := by decide +kernel
theorem d_MD_firstFree_14 : decode b_MD_firstFree 14 = .ok (.aload_n 0, 1) := by decide +kernel
theorem d_MD_firstFree_15 : decode b_MD_firstFree 15 = .ok (.getfield 38, 3) := by decide +kernel
theorem d_MD_firstFree_18 : decode b_MD_firstFree 18 = .ok (.irem, 1) := by decide +kernel
theorem d_MD_firstFree_19 : decode b_MD_firstFree 19 = .ok (.invokevirtual 56, 3) := by decide +kernel
theorem d_MD_firstFree_22 : decode b_MD_firstFree 22 = .ok (.ifCond .le 12, 3) := by decide +kernel
theorem d_MD_firstFree_25 : decode b_MD_firstFree 25 = .ok (.iload_n 1, 1) := by decide +kernel
theorem d_MD_firstFree_26 : decode b_MD_firstFree 26 = .ok (.iload_n 2, 1) := by decide +kernel
theorem d_MD_firstFree_27 : decode b_MD_firstFree 27 = .ok (.iadd, 1) := by decide +kernel
theorem d_MD_firstFree_28 : decode b_MD_firstFree 28 = .ok (.aload_n 0, 1) := by decide +kernel
theorem d_MD_firstFree_29 : decode b_MD_firstFree 29 = .ok (.getfield 38, 3) := by decide +kernel
theorem d_MD_firstFree_32 : decode b_MD_firstFree 32 = .ok (.irem, 1) := by decide +kernel
theorem d_MD_firstFree_33 : decode b_MD_firstFree 33 = .ok (.ireturn, 1) := by decide +kernel
theorem d_MD_firstFree_34 : decode b_MD_firstFree 34 = .ok (.iinc 2 1, 3) := by decide +kernel
theorem d_MD_firstFree_37 : decode b_MD_firstFree 37 = .ok (.goto (-35), 3) := by decide +kernel
theorem d_MD_firstFree_40 : decode b_MD_firstFree 40 = .ok (.iconst (-1), 1) := by decide +kernel
theorem d_MD_firstFree_41 : decode b_MD_firstFree 41 = .ok (.ireturn, 1) := by decide +kernel
theorem d_MD_groupOfFolder_0 : decode b_MD_groupOfFolder 0 = .ok (.aload_n 0, 1) := by decide +kernel
theorem d_MD_groupOfFolder_1 : decode b_MD_groupOfFolder 1 = .ok (.invokevirtual 87, 3) := by decide +kernel
theorem d_MD_groupOfFolder_4 : decode b_MD_groupOfFolder 4 = .ok (.aload_n 0, 1) := by decide +kernel
theorem d_MD_groupOfFolder_5 : decode b_MD_groupOfFolder 5 = .ok (.getfield 38, 3) := by decide +kernel
theorem d_MD_groupOfFolder_8 : decode b_MD_groupOfFolder 8 = .ok (.idiv, 1) := by decide +kernel
theorem d_MD_groupOfFolder_9 : decode b_MD_groupOfFolder 9 = .ok (.istore_n 3, 1) := by decide +kernel
theorem d_MD_groupOfFolder_10 : decode b_MD_groupOfFolder 10 = .ok (.aload_n 0, 1) := by decide +kernel
theorem d_MD_groupOfFolder_11 : decode b_MD_groupOfFolder 11 = .ok (.invokevirtual 59, 3) := by decide +kernel
theorem d_MD_groupOfFolder_14 : decode b_MD_groupOfFolder 14 = .ok (.aload_n 0, 1) := by decide +kernel
theorem d_MD_groupOfFolder_15 : decode b_MD_groupOfFolder 15 = .ok (.getfield 38, 3) := by decide +kernel
theorem d_MD_groupOfFolder_18 : decode b_MD_groupOfFolder 18 = .ok (.idiv, 1) := by decide +kernel
theorem d_MD_groupOfFolder_19 : decode b_MD_groupOfFolder 19 = .ok (.istore 4, 2) := by decide +kernel
theorem d_MD_groupOfFolder_21 : decode b_MD_groupOfFolder 21 = .ok (.iconst (-1), 1) := by decide +kernel
theorem d_MD_groupOfFolder_22 : decode b_MD_groupOfFolder 22 = .ok (.istore 5, 2) := by decide +kernel
theorem d_MD_groupOfFolder_24 : decode b_MD_groupOfFolder 24 = .ok (.iconst 0, 1) := by decide +kernel
theorem d_MD_groupOfFolder_25 : decode b_MD_groupOfFolder 25 = .ok (.istore 6, 2) := by decide +kernel
theorem d_MD_groupOfFolder_27 : decode b_MD_groupOfFolder 27 = .ok (.iload 6, 2) := by decide +kernel
theorem d_MD_groupOfFolder_29 : decode b_MD_groupOfFolder 29 = .ok (.aload_n 0, 1) := by decide +kernel
theorem d_MD_groupOfFolder_30 : decode b_MD_groupOfFolder 30 = .ok (.getfield 38, 3) := by decide +kernel
theorem d_MD_groupOfFolder_33 : decode b_MD_groupOfFolder 33 = .ok (.if_icmp .ge 97, 3) := by decide +kernel
theorem d_MD_groupOfFolder_36 : decode b_MD_groupOfFolder 36 = .ok (.iload_n 2, 1) := by decide +kernel
theorem d_MD_groupOfFolder_37 : decode b_MD_groupOfFolder 37 = .ok (.ifCond .eq 93, 3) := by decide +kernel
theorem d_MD_groupOfFolder_40 : decode b_MD_groupOfFolder 40 = .ok (.iload_n 1, 1) := by decide +kernel
theorem d_MD_groupOfFolder_41 : decode b_MD_groupOfFolder 41 = .ok (.iload 6, 2) := by decide +kernel
theorem d_MD_groupOfFolder_43 : decode b_MD_groupOfFolder 43 = .ok (.iadd, 1) := by decide +kernel
theorem d_MD_groupOfFolder_44 : decode b_MD_groupOfFolder 44 = .ok (.aload_n 0, 1) := by decide +kernel
theorem d_MD_groupOfFolder_45 : decode b_MD_groupOfFolder 45 = .ok (.getfield 38, 3) := by decide +kernel
theorem d_MD_groupOfFolder_48 : decode b_MD_groupOfFolder 48 = .ok (.irem, 1) := by decide +kernel
theorem d_MD_groupOfFolder_49 : decode b_MD_groupOfFolder 49 = .ok (.istore 7, 2) := by decide +kernel
theorem d_MD_groupOfFolder_51 : decode b_MD_groupOfFolder 51 = .ok (.aload_n 0, 1) := by decide +kernel
theorem d_MD_groupOfFolder_52 : decode b_MD_groupOfFolder 52 = .ok (.iload 7, 2) := by decide +kernel
theorem d_MD_groupOfFolder_54 : decode b_MD_groupOfFolder 54 = .ok (.invokevirtual 56, 3) := by decide +kernel
theorem d_MD_groupOfFolder_57 : decode b_MD_groupOfFolder 57 = .ok (.iload_n 3, 1) := by decide +kernel
theorem d_MD_groupOfFolder_58 : decode b_MD_groupOfFolder 58 = .ok (.if_icmp .lt 27, 3) := by decide +kernel
theorem d_MD_groupOfFolder_61 : decode b_MD_groupOfFolder 61 = .ok (.aload_n 0, 1) := by decide +kernel
theorem d_MD_groupOfFolder_62 : decode b_MD_groupOfFolder 62 = .ok (.iload 7, 2) := by decide +kernel
theorem d_MD_groupOfFolder_64 : decode b_MD_groupOfFolder 64 = .ok (.invokevirtual 53, 3) := by decide +kernel
theorem d_MD_groupOfFolder_67 : decode b_MD_groupOfFolder 67 = .ok (.iload 4, 2) := by decide +kernel
theorem d_MD_groupOfFolder_69 : decode b_MD_groupOfFolder 69 = .ok (.if_icmp .lt 16, 3) := by decide +kernel
theorem d_MD_groupOfFolder_72 : decode b_MD_groupOfFolder 72 = .ok (.aload_n 0, 1) := by decide +kernel
theorem d_MD_groupOfFolder_73 : decode b_MD_groupOfFolder 73 = .ok (.iload 7, 2) := by decide +kernel
theorem d_MD_groupOfFolder_75 : decode b_MD_groupOfFolder 75 = .ok (.invokevirtual 56, 3) := by decide +kernel
theorem d_MD_groupOfFolder_78 : decode b_MD_groupOfFolder 78 = .ok (.ifCond .le 7, 3) := by decide +kernel
theorem d_MD_groupOfFolder_81 : decode b_MD_groupOfFolder 81 = .ok (.iconst 1, 1) := by decide +kernel
theorem d_MD_groupOfFolder_82 : decode b_MD_groupOfFolder 82 = .ok (.goto 4, 3) := by decide +kernel
theorem d_MD_groupOfFolder_85 : decode b_MD_groupOfFolder 85 = .ok (.iconst 0, 1) := by decide +kernel
theorem d_MD_groupOfFolder_86 : decode b_MD_groupOfFolder 86 = .ok (.istore 8, 2) := by decide +kernel
theorem d_MD_groupOfFolder_88 : decode b_MD_groupOfFolder 88 = .ok (.iload 8, 2) := by decide +kernel
theorem d_MD_groupOfFolder_90 : decode b_MD_groupOfFolder 90 = .ok (.ifCond .eq 30, 3) := by decide +kernel
theorem d_MD_groupOfFolder_93 : decode b_MD_groupOfFolder 93 = .ok (.iload 5, 2) := by decide +kernel
theorem d_MD_groupOfFolder_95 : decode b_MD_groupOfFolder 95 = .ok (.ifCond .lt 20, 3) := by decide +kernel
theorem d_MD_groupOfFolder_98 : decode b_MD_groupOfFolder 98 = .ok (.aload_n 0, 1) := by decide +kernel
theorem d_MD_groupOfFolder_99 : decode b_MD_groupOfFolder 99 = .ok (.getfield 20, 3) := by decide +kernel
theorem d_MD_groupOfFolder_102 : decode b_MD_groupOfFolder 102 = .ok (.iload 7, 2) := by decide +kernel
theorem d_MD_groupOfFolder_104 : decode b_MD_groupOfFolder 104 = .ok (.iaload, 1) := by decide +kernel
theorem d_MD_groupOfFolder_105 : decode b_MD_groupOfFolder 105 = .ok (.aload_n 0, 1) := by decide +kernel
theorem d_MD_groupOfFolder_106 : decode b_MD_groupOfFolder 106 = .ok (.getfield 20, 3) := by decide +kernel
theorem d_MD_groupOfFolder_109 : decode b_MD_groupOfFolder 109 = .ok (.iload 5, 2) := by decide +kernel
theorem d_MD_groupOfFolder_111 : decode b_MD_groupOfFolder 111 = .ok (.iaload, 1) := by decide +kernel
theorem d_MD_groupOfFolder_112 : decode b_MD_groupOfFolder 112 = .ok (.if_icmp .ge 8, 3) := by decide +kernel
theorem d_MD_groupOfFolder_115 : decode b_MD_groupOfFolder 115 = .ok (.iload 7, 2) := by decide +kernel
theorem d_MD_groupOfFolder_117 : decode b_MD_groupOfFolder 117 = .ok (.goto 5, 3) := by decide +kernel
theorem d_MD_groupOfFolder_120 : decode b_MD_groupOfFolder 120 = .ok (.iload 5, 2) := by decide +kernel
theorem d_MD_groupOfFolder_122 : decode b_MD_groupOfFolder 122 = .ok (.istore 5, 2) := by decide +kernel
theorem d_MD_groupOfFolder_124 : decode b_MD_groupOfFolder 124 = .ok (.iinc 6 1, 3) := by decide +kernel
theorem d_MD_groupOfFolder_127 : decode b_MD_groupOfFolder 127 = .ok (.goto (-100), 3) := by decide +kernel
theorem d_MD_groupOfFolder_130 : decode b_MD_groupOfFolder 130 = .ok (.iconst 0, 1) := by decide +kernel
theorem d_MD_groupOfFolder_131 : decode b_MD_groupOfFolder 131 = .ok (.istore 6, 2) := by decide +kernel
theorem d_MD_groupOfFolder_133 : decode b_MD_groupOfFolder 133 = .ok (.iload 6, 2) := by decide +kernel
theorem d_MD_groupOfFolder_135 : decode b_MD_groupOfFolder 135 = .ok (.aload_n 0, 1) := by decide +kernel
theorem d_MD_groupOfFolder_136 : decode b_MD_groupOfFolder 136 = .ok (.getfield 38, 3) := by decide +kernel
theorem d_MD_groupOfFolder_139 : decode b_MD_groupOfFolder 139 = .ok (.if_icmp .ge 76, 3) := by decide +kernel
theorem d_MD_groupOfFolder_142 : decode b_MD_groupOfFolder 142 = .ok (.iload 5, 2) := by decide +kernel
theorem d_MD_groupOfFolder_144 : decode b_MD_groupOfFolder 144 = .ok (.ifCond .ge 71, 3) := by decide +kernel
theorem d_MD_groupOfFolder_147 : decode b_MD_groupOfFolder 147 = .ok (.iload_n 1, 1) := by decide +kernel
theorem d_MD_groupOfFolder_148 : decode b_MD_groupOfFolder 148 = .ok (.iload 6, 2) := by decide +kernel
theorem d_MD_groupOfFolder_150 : decode b_MD_groupOfFolder 150 = .ok (.iadd, 1) := by decide +kernel
theorem d_MD_groupOfFolder_151 : decode b_MD_groupOfFolder 151 = .ok (.aload_n 0, 1) := by decide +kernel
theorem d_MD_groupOfFolder_152 : decode b_MD_groupOfFolder 152 = .ok (.getfield 38, 3) := by decide +kernel
theorem d_MD_groupOfFolder_155 : decode b_MD_groupOfFolder 155 = .ok (.irem, 1) := by decide +kernel
theorem d_MD_groupOfFolder_156 : decode b_MD_groupOfFolder 156 = .ok (.istore 7, 2) := by decide +kernel
theorem d_MD_groupOfFolder_158 : decode b_MD_groupOfFolder 158 = .ok (.aload_n 0, 1) := by decide +kernel
theorem d_MD_groupOfFolder_159 : decode b_MD_groupOfFolder 159 = .ok (.iload 7, 2) := by decide +kernel
theorem d_MD_groupOfFolder_161 : decode b_MD_groupOfFolder 161 = .ok (.invokevirtual 56, 3) := by decide +kernel
theorem d_MD_groupOfFolder_164 : decode b_MD_groupOfFolder 164 = .ok (.iload_n 3, 1) := by decide +kernel
theorem d_MD_groupOfFolder_165 : decode b_MD_groupOfFolder 165 = .ok (.iconst 2, 1) := by decide +kernel
theorem d_MD_groupOfFolder_166 : decode b_MD_groupOfFolder 166 = .ok (.idiv, 1) := by decide +kernel
theorem d_MD_groupOfFolder_167 : decode b_MD_groupOfFolder 167 = .ok (.if_icmp .lt 25, 3) := by decide +kernel
theorem d_MD_groupOfFolder_170 : decode b_MD_groupOfFolder 170 = .ok (.aload_n 0, 1) := by decide +kernel
theorem d_MD_groupOfFolder_171 : decode b_MD_groupOfFolder 171 = .ok (.iload 7, 2) := by decide +kernel
theorem d_MD_groupOfFolder_173 : decode b_MD_groupOfFolder 173 = .ok (.invokevirtual 56, 3) := by decide +kernel
theorem d_MD_groupOfFolder_176 : decode b_MD_groupOfFolder 176 = .ok (.ifCond .le 16, 3) := by decide +kernel
theorem d_MD_groupOfFolder_179 : decode b_MD_groupOfFolder 179 = .ok (.aload_n 0, 1) := by decide +kernel
theorem d_MD_groupOfFolder_180 : decode b_MD_groupOfFolder 180 = .ok (.iload 7, 2) := by decide +kernel
theorem d_MD_groupOfFolder_182 : decode b_MD_groupOfFolder 182 = .ok (.invokevirtual 53, 3) := by decide +kernel
theorem d_MD_groupOfFolder_185 : decode b_MD_groupOfFolder 185 = .ok (.ifCond .le 7, 3) := by decide +kernel
theorem d_MD_groupOfFolder_188 : decode b_MD_groupOfFolder 188 = .ok (.iconst 1, 1) := by decide +kernel
theorem d_MD_groupOfFolder_189 : decode b_MD_groupOfFolder 189 = .ok (.goto 4, 3) := by decide +kernel
theorem d_MD_groupOfFolder_192 : decode b_MD_groupOfFolder 192 = .ok (.iconst 0, 1) := by decide +kernel
theorem d_MD_groupOfFolder_193 : decode b_MD_groupOfFolder 193 = .ok (.istore 8, 2) := by decide +kernel
theorem d_MD_groupOfFolder_195 : decode b_MD_groupOfFolder 195 = .ok (.iload 8, 2) := by decide +kernel
theorem d_MD_groupOfFolder_197 : decode b_MD_groupOfFolder 197 = .ok (.ifCond .eq 8, 3) := by decide +kernel
theorem d_MD_groupOfFolder_200 : decode b_MD_groupOfFolder 200 = .ok (.iload 7, 2) := by decide +kernel
theorem d_MD_groupOfFolder_202 : decode b_MD_groupOfFolder 202 = .ok (.goto 5, 3) := by decide +kernel
theorem d_MD_groupOfFolder_205 : decode b_MD_groupOfFolder 205 = .ok (.iload 5, 2) := by decide +kernel
theorem d_MD_groupOfFolder_207 : decode b_MD_groupOfFolder 207 = .ok (.istore 5, 2) := by decide +kernel
theorem d_MD_groupOfFolder_209 : decode b_MD_groupOfFolder 209 = .ok (.iinc 6 1, 3) := by decide +kernel
theorem d_MD_groupOfFolder_212 : decode b_MD_groupOfFolder 212 = .ok (.goto (-79), 3) := by decide +kernel
theorem d_MD_groupOfFolder_215 : decode b_MD_groupOfFolder 215 = .ok (.iload 5, 2) := by decide +kernel
theorem d_MD_groupOfFolder_217 : decode b_MD_groupOfFolder 217 = .ok (.ifCond .ge 11, 3) := by decide +kernel
theorem d_MD_groupOfFolder_220 : decode b_MD_groupOfFolder 220 = .ok (.aload_n 0, 1) := by decide +kernel
theorem d_MD_groupOfFolder_221 : decode b_MD_groupOfFolder 221 = .ok (.iload_n 1, 1) := by decide +kernel
theorem d_MD_groupOfFolder_222 : decode b_MD_groupOfFolder 222 = .ok (.invokevirtual 84, 3) := by decide +kernel
theorem d_MD_groupOfFolder_225 : decode b_MD_groupOfFolder 225 = .ok (.goto 5, 3) := by decide +kernel
theorem d_MD_groupOfFolder_228 : decode b_MD_groupOfFolder 228 = .ok (.iload 5, 2) := by decide +kernel
theorem d_MD_groupOfFolder_230 : decode b_MD_groupOfFolder 230 = .ok (.ireturn, 1) := by decide +kernel
theorem d_MD_markFile_0 : decode b_MD_markFile 0 = .ok (.aload_n 0, 1) := by decide +kernel
theorem d_MD_markFile_1 : decode b_MD_markFile 1 = .ok (.getfield 17, 3) := by decide +kernel
theorem d_MD_markFile_4 : decode b_MD_markFile 4 = .ok (.sipush 128, 3) := by decide +kernel
theorem d_MD_markFile_7 : decode b_MD_markFile 7 = .ok (.iload_n 1, 1) := by decide +kernel
theorem d_MD_markFile_8 : decode b_MD_markFile 8 = .ok (.imul, 1) := by decide +kernel
theorem d_MD_markFile_9 : decode b_MD_markFile 9 = .ok (.iload_n 2, 1) := by decide +kernel
theorem d_MD_markFile_10 : decode b_MD_markFile 10 = .ok (.iadd, 1) := by decide +kernel
theorem d_MD_markFile_11 : decode b_MD_markFile 11 = .ok (.iload_n 3, 1) := by decide +kernel
theorem d_MD_markFile_12 : decode b_MD_markFile 12 = .ok (.bastore, 1) := by decide +kernel
theorem d_MD_markFile_13 : decode b_MD_markFile 13 = .ok (.aload_n 0, 1) := by decide +kernel
theorem d_MD_markFile_14 : decode b_MD_markFile 14 = .ok (.getfield 20, 3) := by decide +kernel
theorem d_MD_markFile_17 : decode b_MD_markFile 17 = .ok (.iload_n 1, 1) := by decide +kernel
theorem d_MD_markFile_18 : decode b_MD_markFile 18 = .ok (.iload 4, 2) := by decide +kernel
theorem d_MD_markFile_20 : decode b_MD_markFile 20 = .ok (.ifCond .ne 12, 3) := by decide +kernel
theorem d_MD_markFile_23 : decode b_MD_markFile 23 = .ok (.aload_n 0, 1) := by decide +kernel
theorem d_MD_markFile_24 : decode b_MD_markFile 24 = .ok (.getfield 20, 3) := by decide +kernel
theorem d_MD_markFile_27 : decode b_MD_markFile 27 = .ok (.iload_n 1, 1) := by decide +kernel
theorem d_MD_markFile_28 : decode b_MD_markFile 28 = .ok (.iaload, 1) := by decide +kernel
theorem d_MD_markFile_29 : decode b_MD_markFile 29 = .ok (.goto 26, 3) := by decide +kernel
theorem d_MD_markFile_32 : decode b_MD_markFile 32 = .ok (.iload_n 3, 1) := by decide +kernel
theorem d_MD_markFile_33 : decode b_MD_markFile 33 = .ok (.ifCond .eq 14, 3) := by decide +kernel
theorem d_MD_markFile_36 : decode b_MD_markFile 36 = .ok (.aload_n 0, 1) := by decide +kernel
theorem d_MD_markFile_37 : decode b_MD_markFile 37 = .ok (.getfield 20, 3) := by decide +kernel
theorem d_MD_markFile_40 : decode b_MD_markFile 40 = .ok (.iload_n 1, 1) := by decide +kernel
theorem d_MD_markFile_41 : decode b_MD_markFile 41 = .ok (.iaload, 1) := by decide +kernel
theorem d_MD_markFile_42 : decode b_MD_markFile 42 = .ok (.iconst 1, 1) := by decide +kernel
theorem d_MD_markFile_43 : decode b_MD_markFile 43 = .ok (.iadd, 1) := by decide +kernel
theorem d_MD_markFile_44 : decode b_MD_markFile 44 = .ok (.goto 11, 3) := by decide +kernel
theorem d_MD_markFile_47 : decode b_MD_markFile 47 = .ok (.aload_n 0, 1) := by decide +kernel
theorem d_MD_markFile_48 : decode b_MD_markFile 48 = .ok (.getfield 20, 3) := by decide +kernel
theorem d_MD_markFile_51 : decode b_MD_markFile 51 = .ok (.iload_n 1, 1) := by decide +kernel
theorem d_MD_markFile_52 : decode b_MD_markFile 52 = .ok (.iaload, 1) := by decide +kernel
theorem d_MD_markFile_53 : decode b_MD_markFile 53 = .ok (.iconst 1, 1) := by decide +kernel
theorem d_MD_markFile_54 : decode b_MD_markFile 54 = .ok (.isub, 1) := by decide +kernel
theorem d_MD_markFile_55 : decode b_MD_markFile 55 = .ok (.iastore, 1) := by decide +kernel
theorem d_MD_markFile_56 : decode b_MD_markFile 56 = .ok (.aload_n 0, 1) := by decide +kernel
theorem d_MD_markFile_57 : decode b_MD_markFile 57 = .ok (.getfield 23, 3) := by decide +kernel
theorem d_MD_markFile_60 : decode b_MD_markFile 60 = .ok (.iconst 1, 1) := by decide +kernel
theorem d_MD_markFile_61 : decode b_MD_markFile 61 = .ok (.iconst 1, 1) := by decide +kernel
theorem d_MD_markFile_62 : decode b_MD_markFile 62 = .ok (.bastore, 1) := by decide +kernel
theorem d_MD_markFile_63 : decode b_MD_markFile 63 = .ok (.aload_n 0, 1) := by decide +kernel
theorem d_MD_markFile_64 : decode b_MD_markFile 64 = .ok (.getfield 23, 3) := by decide +kernel
theorem d_MD_markFile_67 : decode b_MD_markFile 67 = .ok (.iload_n 1, 1) := by decide +kernel
theorem d_MD_markFile_68 : decode b_MD_markFile 68 = .ok (.invokestatic 47, 3) := by decide +kernel
theorem d_MD_markFile_71 : decode b_MD_markFile 71 = .ok (.iconst 1, 1) := by decide +kernel
theorem d_MD_markFile_72 : decode b_MD_markFile 72 = .ok (.iadd, 1) := by decide +kernel
theorem d_MD_markFile_73 : decode b_MD_markFile 73 = .ok (.iconst 1, 1) := by decide +kernel
theorem d_MD_markFile_74 : decode b_MD_markFile 74 = .ok (.bastore, 1) := by decide +kernel
theorem d_MD_markFile_75 : decode b_MD_markFile 75 = .ok (.return_, 1) := by decide +kernel
theorem d_MD_takeFile_0 : decode b_MD_takeFile 0 = .ok (.aload_n 0, 1) := by decide +kernel
theorem d_MD_takeFile_1 : decode b_MD_takeFile 1 = .ok (.aload_n 0, 1) := by decide +kernel
theorem d_MD_takeFile_2 : decode b_MD_takeFile 2 = .ok (.iload_n 1, 1) := by decide +kernel
theorem d_MD_takeFile_3 : decode b_MD_takeFile 3 = .ok (.invokevirtual 90, 3) := by decide +kernel
theorem d_MD_takeFile_6 : decode b_MD_takeFile 6 = .ok (.ifCond .ne 7, 3) := by decide +kernel
theorem d_MD_takeFile_9 : decode b_MD_takeFile 9 = .ok (.iconst 1, 1) := by decide +kernel
theorem d_MD_takeFile_10 : decode b_MD_takeFile 10 = .ok (.goto 15, 3) := by decide +kernel
theorem d_MD_takeFile_13 : decode b_MD_takeFile 13 = .ok (.aload_n 0, 1) := by decide +kernel
theorem d_MD_takeFile_14 : decode b_MD_takeFile 14 = .ok (.invokevirtual 87, 3) := by decide +kernel
theorem d_MD_takeFile_17 : decode b_MD_takeFile 17 = .ok (.ifCond .ne 7, 3) := by decide +kernel
theorem d_MD_takeFile_20 : decode b_MD_takeFile 20 = .ok (.iconst 2, 1) := by decide +kernel
theorem d_MD_takeFile_21 : decode b_MD_takeFile 21 = .ok (.goto 4, 3) := by decide +kernel
theorem d_MD_takeFile_24 : decode b_MD_takeFile 24 = .ok (.iconst 0, 1) := by decide +kernel
theorem d_MD_takeFile_25 : decode b_MD_takeFile 25 = .ok (.putfield 30, 3) := by decide +kernel
theorem d_MD_takeFile_28 : decode b_MD_takeFile 28 = .ok (.aload_n 0, 1) := by decide +kernel
theorem d_MD_takeFile_29 : decode b_MD_takeFile 29 = .ok (.getfield 30, 3) := by decide +kernel
theorem d_MD_takeFile_32 : decode b_MD_takeFile 32 = .ok (.ifCond .le 5, 3) := by decide +kernel
theorem d_MD_takeFile_35 : decode b_MD_takeFile 35 = .ok (.iconst 0, 1) := by decide +kernel
theorem d_MD_takeFile_36 : decode b_MD_takeFile 36 = .ok (.ireturn, 1) := by decide +kernel
theorem d_MD_takeFile_37 : decode b_MD_takeFile 37 = .ok (.iload_n 1, 1) := by decide +kernel
theorem d_MD_takeFile_38 : decode b_MD_takeFile 38 = .ok (.iconst 1, 1) := by decide +kernel
theorem d_MD_takeFile_39 : decode b_MD_takeFile 39 = .ok (.isub, 1) := by decide +kernel
theorem d_MD_takeFile_40 : decode b_MD_takeFile 40 = .ok (.sipush 128, 3) := by decide +kernel
theorem d_MD_takeFile_43 : decode b_MD_takeFile 43 = .ok (.idiv, 1) := by decide +kernel
theorem d_MD_takeFile_44 : decode b_MD_takeFile 44 = .ok (.istore_n 3, 1) := by decide +kernel
theorem d_MD_takeFile_45 : decode b_MD_takeFile 45 = .ok (.iload_n 2, 1) := by decide +kernel
theorem d_MD_takeFile_46 : decode b_MD_takeFile 46 = .ok (.ifCond .eq 21, 3) := by decide +kernel
theorem d_MD_takeFile_49 : decode b_MD_takeFile 49 = .ok (.aload_n 0, 1) := by decide +kernel
theorem d_MD_takeFile_50 : decode b_MD_takeFile 50 = .ok (.iload_n 3, 1) := by decide +kernel
theorem d_MD_takeFile_51 : decode b_MD_takeFile 51 = .ok (.iload_n 1, 1) := by decide +kernel
theorem d_MD_takeFile_52 : decode b_MD_takeFile 52 = .ok (.iconst 2, 1) := by decide +kernel
theorem d_MD_takeFile_53 : decode b_MD_takeFile 53 = .ok (.if_icmp .ne 7, 3) := by decide +kernel
theorem d_MD_takeFile_56 : decode b_MD_takeFile 56 = .ok (.iconst 1, 1) := by decide +kernel
theorem d_MD_takeFile_57 : decode b_MD_takeFile 57 = .ok (.goto 4, 3) := by decide +kernel
theorem d_MD_takeFile_60 : decode b_MD_takeFile 60 = .ok (.iconst 0, 1) := by decide +kernel
theorem d_MD_takeFile_61 : decode b_MD_takeFile 61 = .ok (.invokevirtual 93, 3) := by decide +kernel
theorem d_MD_takeFile_64 : decode b_MD_takeFile 64 = .ok (.goto 8, 3) := by decide +kernel
theorem d_MD_takeFile_67 : decode b_MD_takeFile 67 = .ok (.aload_n 0, 1) := by decide +kernel
theorem d_MD_takeFile_68 : decode b_MD_takeFile 68 = .ok (.iload_n 3, 1) := by decide +kernel
theorem d_MD_takeFile_69 : decode b_MD_takeFile 69 = .ok (.invokevirtual 97, 3) := by decide +kernel
theorem d_MD_takeFile_72 : decode b_MD_takeFile 72 = .ok (.istore 4, 2) := by decide +kernel
theorem d_MD_takeFile_74 : decode b_MD_takeFile 74 = .ok (.iconst 0, 1) := by decide +kernel
theorem d_MD_takeFile_75 : decode b_MD_takeFile 75 = .ok (.istore 5, 2) := by decide +kernel
theorem d_MD_takeFile_77 : decode b_MD_takeFile 77 = .ok (.aload_n 0, 1) := by decide +kernel
theorem d_MD_takeFile_78 : decode b_MD_takeFile 78 = .ok (.getfield 17, 3) := by decide +kernel
theorem d_MD_takeFile_81 : decode b_MD_takeFile 81 = .ok (.sipush 128, 3) := by decide +kernel
theorem d_MD_takeFile_84 : decode b_MD_takeFile 84 = .ok (.iload 4, 2) := by decide +kernel
theorem d_MD_takeFile_86 : decode b_MD_takeFile 86 = .ok (.imul, 1) := by decide +kernel
theorem d_MD_takeFile_87 : decode b_MD_takeFile 87 = .ok (.iload 5, 2) := by decide +kernel
theorem d_MD_takeFile_89 : decode b_MD_takeFile 89 = .ok (.iadd, 1) := by decide +kernel
theorem d_MD_takeFile_90 : decode b_MD_takeFile 90 = .ok (.baload, 1) := by decide +kernel
theorem d_MD_takeFile_91 : decode b_MD_takeFile 91 = .ok (.ifCond .eq 9, 3) := by decide +kernel
theorem d_MD_takeFile_94 : decode b_MD_takeFile 94 = .ok (.iinc 5 1, 3) := by decide +kernel
theorem d_MD_takeFile_97 : decode b_MD_takeFile 97 = .ok (.goto (-20), 3) := by decide +kernel
theorem d_MD_takeFile_100 : decode b_MD_takeFile 100 = .ok (.aload_n 0, 1) := by decide +kernel
theorem d_MD_takeFile_101 : decode b_MD_takeFile 101 = .ok (.iload 4, 2) := by decide +kernel
theorem d_MD_takeFile_103 : decode b_MD_takeFile 103 = .ok (.iload 5, 2) := by decide +kernel
theorem d_MD_takeFile_105 : decode b_MD_takeFile 105 = .ok (.iconst 1, 1) := by decide +kernel
theorem d_MD_takeFile_106 : decode b_MD_takeFile 106 = .ok (.iload_n 2, 1) := by decide +kernel
theorem d_MD_takeFile_107 : decode b_MD_takeFile 107 = .ok (.invokevirtual 100, 3) := by decide +kernel
theorem d_MD_takeFile_110 : decode b_MD_takeFile 110 = .ok (.sipush 128, 3) := by decide +kernel
theorem d_MD_takeFile_113 : decode b_MD_takeFile 113 = .ok (.iload 4, 2) := by decide +kernel
theorem d_MD_takeFile_115 : decode b_MD_takeFile 115 = .ok (.imul, 1) := by decide +kernel
theorem d_MD_takeFile_116 : decode b_MD_takeFile 116 = .ok (.iload 5, 2) := by decide +kernel
theorem d_MD_takeFile_118 : decode b_MD_takeFile 118 = .ok (.iadd, 1) := by decide +kernel
theorem d_MD_takeFile_119 : decode b_MD_takeFile 119 = .ok (.iconst 1, 1) := by decide +kernel
theorem d_MD_takeFile_120 : decode b_MD_takeFile 120 = .ok (.iadd, 1) := by decide +kernel
theorem d_MD_takeFile_121 : decode b_MD_takeFile 121 = .ok (.ireturn, 1) := by decide +kernel
theorem d_MD_giveFile_0 : decode b_MD_giveFile 0 = .ok (.aload_n 0, 1) := by decide +kernel
theorem d_MD_giveFile_1 : decode b_MD_giveFile 1 = .ok (.aload_n 0, 1) := by decide +kernel
theorem d_MD_giveFile_2 : decode b_MD_giveFile 2 = .ok (.iload_n 1, 1) := by decide +kernel
theorem d_MD_giveFile_3 : decode b_MD_giveFile 3 = .ok (.invokevirtual 90, 3) := by decide +kernel
theorem d_MD_giveFile_6 : decode b_MD_giveFile 6 = .ok (.ifCond .eq 9, 3) := by decide +kernel
theorem d_MD_giveFile_9 : decode b_MD_giveFile 9 = .ok (.iload_n 1, 1) := by decide +kernel
theorem d_MD_giveFile_10 : decode b_MD_giveFile 10 = .ok (.bipush 11, 2) := by decide +kernel
theorem d_MD_giveFile_12 : decode b_MD_giveFile 12 = .ok (.if_icmp .ge 7, 3) := by decide +kernel
theorem d_MD_giveFile_15 : decode b_MD_giveFile 15 = .ok (.iconst 1, 1) := by decide +kernel
theorem d_MD_giveFile_16 : decode b_MD_giveFile 16 = .ok (.goto 4, 3) := by decide +kernel
theorem d_MD_giveFile_19 : decode b_MD_giveFile 19 = .ok (.iconst 0, 1) := by decide +kernel
theorem d_MD_giveFile_20 : decode b_MD_giveFile 20 = .ok (.putfield 30, 3) := by decide +kernel
theorem d_MD_giveFile_23 : decode b_MD_giveFile 23 = .ok (.aload_n 0, 1) := by decide +kernel
theorem d_MD_giveFile_24 : decode b_MD_giveFile 24 = .ok (.getfield 30, 3) := by decide +kernel
theorem d_MD_giveFile_27 : decode b_MD_giveFile 27 = .ok (.ifCond .le 5, 3) := by decide +kernel
theorem d_MD_giveFile_30 : decode b_MD_giveFile 30 = .ok (.iconst 0, 1) := by decide +kernel
theorem d_MD_giveFile_31 : decode b_MD_giveFile 31 = .ok (.ireturn, 1) := by decide +kernel
theorem d_MD_giveFile_32 : decode b_MD_giveFile 32 = .ok (.iload_n 1, 1) := by decide +kernel
theorem d_MD_giveFile_33 : decode b_MD_giveFile 33 = .ok (.iconst 1, 1) := by decide +kernel
theorem d_MD_giveFile_34 : decode b_MD_giveFile 34 = .ok (.isub, 1) := by decide +kernel
theorem d_MD_giveFile_35 : decode b_MD_giveFile 35 = .ok (.sipush 128, 3) := by decide +kernel
theorem d_MD_giveFile_38 : decode b_MD_giveFile 38 = .ok (.idiv, 1) := by decide +kernel
theorem d_MD_giveFile_39 : decode b_MD_giveFile 39 = .ok (.istore_n 3, 1) := by decide +kernel
theorem d_MD_giveFile_40 : decode b_MD_giveFile 40 = .ok (.aload_n 0, 1) := by decide +kernel
theorem d_MD_giveFile_41 : decode b_MD_giveFile 41 = .ok (.aload_n 0, 1) := by decide +kernel
theorem d_MD_giveFile_42 : decode b_MD_giveFile 42 = .ok (.getfield 17, 3) := by decide +kernel
theorem d_MD_giveFile_45 : decode b_MD_giveFile 45 = .ok (.iload_n 1, 1) := by decide +kernel
theorem d_MD_giveFile_46 : decode b_MD_giveFile 46 = .ok (.iconst 1, 1) := by decide +kernel
theorem d_MD_giveFile_47 : decode b_MD_giveFile 47 = .ok (.isub, 1) := by decide +kernel
theorem d_MD_giveFile_48 : decode b_MD_giveFile 48 = .ok (.baload, 1) := by decide +kernel
theorem d_MD_giveFile_49 : decode b_MD_giveFile 49 = .ok (.ifCond .eq 16, 3) := by decide +kernel
theorem d_MD_giveFile_52 : decode b_MD_giveFile 52 = .ok (.iload_n 2, 1) := by decide +kernel
theorem d_MD_giveFile_53 : decode b_MD_giveFile 53 = .ok (.ifCond .eq 16, 3) := by decide +kernel
theorem d_MD_giveFile_56 : decode b_MD_giveFile 56 = .ok (.aload_n 0, 1) := by decide +kernel
theorem d_MD_giveFile_57 : decode b_MD_giveFile 57 = .ok (.getfield 20, 3) := by decide +kernel
theorem d_MD_giveFile_60 : decode b_MD_giveFile 60 = .ok (.iload_n 3, 1) := by decide +kernel
theorem d_MD_giveFile_61 : decode b_MD_giveFile 61 = .ok (.iaload, 1) := by decide +kernel
theorem d_MD_giveFile_62 : decode b_MD_giveFile 62 = .ok (.ifCond .ne 7, 3) := by decide +kernel
theorem d_MD_giveFile_65 : decode b_MD_giveFile 65 = .ok (.iconst 2, 1) := by decide +kernel
theorem d_MD_giveFile_66 : decode b_MD_giveFile 66 = .ok (.goto 4, 3) := by decide +kernel
theorem d_MD_giveFile_69 : decode b_MD_giveFile 69 = .ok (.iconst 0, 1) := by decide +kernel
theorem d_MD_giveFile_70 : decode b_MD_giveFile 70 = .ok (.putfield 30, 3) := by decide +kernel
theorem d_MD_giveFile_73 : decode b_MD_giveFile 73 = .ok (.aload_n 0, 1) := by decide +kernel
theorem d_MD_giveFile_74 : decode b_MD_giveFile 74 = .ok (.getfield 30, 3) := by decide +kernel
theorem d_MD_giveFile_77 : decode b_MD_giveFile 77 = .ok (.ifCond .le 5, 3) := by decide +kernel
theorem d_MD_giveFile_80 : decode b_MD_giveFile 80 = .ok (.iconst 0, 1) := by decide +kernel
theorem d_MD_giveFile_81 : decode b_MD_giveFile 81 = .ok (.ireturn, 1) := by decide +kernel
theorem d_MD_giveFile_82 : decode b_MD_giveFile 82 = .ok (.aload_n 0, 1) := by decide +kernel
theorem d_MD_giveFile_83 : decode b_MD_giveFile 83 = .ok (.iload_n 3, 1) := by decide +kernel
theorem d_MD_giveFile_84 : decode b_MD_giveFile 84 = .ok (.iload_n 1, 1) := by decide +kernel
theorem d_MD_giveFile_85 : decode b_MD_giveFile 85 = .ok (.iconst 1, 1) := by decide +kernel
theorem d_MD_giveFile_86 : decode b_MD_giveFile 86 = .ok (.isub, 1) := by decide +kernel
theorem d_MD_giveFile_87 : decode b_MD_giveFile 87 = .ok (.sipush 128, 3) := by decide +kernel
theorem d_MD_giveFile_90 : decode b_MD_giveFile 90 = .ok (.irem, 1) := by decide +kernel
theorem d_MD_giveFile_91 : decode b_MD_giveFile 91 = .ok (.iconst 0, 1) := by decide +kernel
theorem d_MD_giveFile_92 : decode b_MD_giveFile 92 = .ok (.iload_n 2, 1) := by decide +kernel
theorem d_MD_giveFile_93 : decode b_MD_giveFile 93 = .ok (.invokevirtual 100, 3) := by decide +kernel
theorem d_MD_giveFile_96 : decode b_MD_giveFile 96 = .ok (.aload_n 0, 1) := by decide +kernel
theorem d_MD_giveFile_97 : decode b_MD_giveFile 97 = .ok (.invokevirtual 87, 3) := by decide +kernel
theorem d_MD_giveFile_100 : decode b_MD_giveFile 100 = .ok (.ireturn, 1) := by decide +kernel
theorem d_MD_isTaken_0 : decode b_MD_isTaken 0 = .ok (.aload_n 0, 1) := by decide +kernel
theorem d_MD_isTaken_1 : decode b_MD_isTaken 1 = .ok (.iload_n 1, 1) := by decide +kernel
theorem d_MD_isTaken_2 : decode b_MD_isTaken 2 = .ok (.ifCond .ne 11, 3) := by decide +kernel
theorem d_MD_isTaken_5 : decode b_MD_isTaken 5 = .ok (.aload_n 0, 1) := by decide +kernel
theorem d_MD_isTaken_6 : decode b_MD_isTaken 6 = .ok (.iload_n 2, 1) := by decide +kernel
theorem d_MD_isTaken_7 : decode b_MD_isTaken 7 = .ok (.invokevirtual 69, 3) := by decide +kernel
theorem d_MD_isTaken_10 : decode b_MD_isTaken 10 = .ok (.ifCond .ne 16, 3) := by decide +kernel
theorem d_MD_isTaken_13 : decode b_MD_isTaken 13 = .ok (.iload_n 1, 1) := by decide +kernel
theorem d_MD_isTaken_14 : decode b_MD_isTaken 14 = .ok (.iconst 1, 1) := by decide +kernel
theorem d_MD_isTaken_15 : decode b_MD_isTaken 15 = .ok (.if_icmp .ne 15, 3) := by decide +kernel
theorem d_MD_isTaken_18 : decode b_MD_isTaken 18 = .ok (.aload_n 0, 1) := by decide +kernel
theorem d_MD_isTaken_19 : decode b_MD_isTaken 19 = .ok (.iload_n 2, 1) := by decide +kernel
theorem d_MD_isTaken_20 : decode b_MD_isTaken 20 = .ok (.invokevirtual 90, 3) := by decide +kernel
theorem d_MD_isTaken_23 : decode b_MD_isTaken 23 = .ok (.ifCond .eq 7, 3) := by decide +kernel
theorem d_MD_isTaken_26 : decode b_MD_isTaken 26 = .ok (.iconst 0, 1) := by decide +kernel
theorem d_MD_isTaken_27 : decode b_MD_isTaken 27 = .ok (.goto 4, 3) := by decide +kernel
theorem d_MD_isTaken_30 : decode b_MD_isTaken 30 = .ok (.iconst 1, 1) := by decide +kernel
theorem d_MD_isTaken_31 : decode b_MD_isTaken 31 = .ok (.putfield 30, 3) := by decide +kernel
theorem d_MD_isTaken_34 : decode b_MD_isTaken 34 = .ok (.aload_n 0, 1) := by decide +kernel
theorem d_MD_isTaken_35 : decode b_MD_isTaken 35 = .ok (.getfield 30, 3) := by decide +kernel
theorem d_MD_isTaken_38 : decode b_MD_isTaken 38 = .ok (.ifCond .ne 34, 3) := by decide +kernel
theorem d_MD_isTaken_41 : decode b_MD_isTaken 41 = .ok (.iload_n 1, 1) := by decide +kernel
theorem d_MD_isTaken_42 : decode b_MD_isTaken 42 = .ok (.ifCond .ne 15, 3) := by decide +kernel
theorem d_MD_isTaken_45 : decode b_MD_isTaken 45 = .ok (.aload_n 0, 1) := by decide +kernel
theorem d_MD_isTaken_46 : decode b_MD_isTaken 46 = .ok (.getfield 13, 3) := by decide +kernel
theorem d_MD_isTaken_49 : decode b_MD_isTaken 49 = .ok (.iload_n 2, 1) := by decide +kernel
theorem d_MD_isTaken_50 : decode b_MD_isTaken 50 = .ok (.baload, 1) := by decide +kernel
theorem d_MD_isTaken_51 : decode b_MD_isTaken 51 = .ok (.ifCond .eq 21, 3) := by decide +kernel
theorem d_MD_isTaken_54 : decode b_MD_isTaken 54 = .ok (.goto 14, 3) := by decide +kernel
theorem d_MD_isTaken_57 : decode b_MD_isTaken 57 = .ok (.aload_n 0, 1) := by decide +kernel
theorem d_MD_isTaken_58 : decode b_MD_isTaken 58 = .ok (.getfield 17, 3) := by decide +kernel
theorem d_MD_isTaken_61 : decode b_MD_isTaken 61 = .ok (.iload_n 2, 1) := by decide +kernel
theorem d_MD_isTaken_62 : decode b_MD_isTaken 62 = .ok (.iconst 1, 1) := by decide +kernel
theorem d_MD_isTaken_63 : decode b_MD_isTaken 63 = .ok (.isub, 1) := by decide +kernel
theorem d_MD_isTaken_64 : decode b_MD_isTaken 64 = .ok (.baload, 1) := by decide +kernel
theorem d_MD_isTaken_65 : decode b_MD_isTaken 65 = .ok (.ifCond .eq 7, 3) := by decide +kernel
theorem d_MD_isTaken_68 : decode b_MD_isTaken 68 = .ok (.iconst 1, 1) := by decide +kernel
theorem d_MD_isTaken_69 : decode b_MD_isTaken 69 = .ok (.goto 4, 3) := by decide +kernel
theorem d_MD_isTaken_72 : decode b_MD_isTaken 72 = .ok (.iconst 0, 1) := by decide +kernel
theorem d_MD_isTaken_73 : decode b_MD_isTaken 73 = .ok (.ireturn, 1) := by decide +kernel
theorem d_MD_group_0 : decode b_MD_group 0 = .ok (.aload_n 0, 1) := by decide +kernel
theorem d_MD_group_1 : decode b_MD_group 1 = .ok (.iload_n 1, 1) := by decide +kernel
theorem d_MD_group_2 : decode b_MD_group 2 = .ok (.ifCond .lt 20, 3) := by decide +kernel
theorem d_MD_group_5 : decode b_MD_group 5 = .ok (.iload_n 1, 1) := by decide +kernel
theorem d_MD_group_6 : decode b_MD_group 6 = .ok (.aload_n 0, 1) := by decide +kernel
theorem d_MD_group_7 : decode b_MD_group 7 = .ok (.getfield 38, 3) := by decide +kernel
theorem d_MD_group_10 : decode b_MD_group 10 = .ok (.if_icmp .ge 12, 3) := by decide +kernel
theorem d_MD_group_13 : decode b_MD_group 13 = .ok (.iload_n 2, 1) := by decide +kernel
theorem d_MD_group_14 : decode b_MD_group 14 = .ok (.ifCond .lt 8, 3) := by decide +kernel
theorem d_MD_group_17 : decode b_MD_group 17 = .ok (.iload_n 2, 1) := by decide +kernel
theorem d_MD_group_18 : decode b_MD_group 18 = .ok (.iconst 5, 1) := by decide +kernel
theorem d_MD_group_19 : decode b_MD_group 19 = .ok (.if_icmp .le 7, 3) := by decide +kernel
theorem d_MD_group_22 : decode b_MD_group 22 = .ok (.iconst 1, 1) := by decide +kernel
theorem d_MD_group_23 : decode b_MD_group 23 = .ok (.goto 4, 3) := by decide +kernel
theorem d_MD_group_26 : decode b_MD_group 26 = .ok (.iconst 0, 1) := by decide +kernel
theorem d_MD_group_27 : decode b_MD_group 27 = .ok (.putfield 30, 3) := by decide +kernel
theorem d_MD_group_30 : decode b_MD_group 30 = .ok (.aload_n 0, 1) := by decide +kernel
theorem d_MD_group_31 : decode b_MD_group 31 = .ok (.getfield 30, 3) := by decide +kernel
theorem d_MD_group_34 : decode b_MD_group 34 = .ok (.ifCond .le 5, 3) := by decide +kernel
theorem d_MD_group_37 : decode b_MD_group 37 = .ok (.iconst 0, 1) := by decide +kernel
theorem d_MD_group_38 : decode b_MD_group 38 = .ok (.ireturn, 1) := by decide +kernel
theorem d_MD_group_39 : decode b_MD_group 39 = .ok (.iload_n 2, 1) := by decide +kernel
theorem d_MD_group_40 : decode b_MD_group 40 = .ok (.tableswitch 68 0 4 #[36, 42, 49, 55, 61], 36) := by decide +kernel
theorem d_MD_group_76 : decode b_MD_group 76 = .ok (.sipush 256, 3) := by decide +kernel
theorem d_MD_group_79 : decode b_MD_group 79 = .ok (.iload_n 1, 1) := by decide +kernel
theorem d_MD_group_80 : decode b_MD_group 80 = .ok (.imul, 1) := by decide +kernel
theorem d_MD_group_81 : decode b_MD_group 81 = .ok (.ireturn, 1) := by decide +kernel
theorem d_MD_group_82 : decode b_MD_group 82 = .ok (.aload_n 0, 1) := by decide +kernel
theorem d_MD_group_83 : decode b_MD_group 83 = .ok (.getfield 7, 3) := by decide +kernel
theorem d_MD_group_86 : decode b_MD_group 86 = .ok (.iload_n 1, 1) := by decide +kernel
theorem d_MD_group_87 : decode b_MD_group 87 = .ok (.iaload, 1) := by decide +kernel
theorem d_MD_group_88 : decode b_MD_group 88 = .ok (.ireturn, 1) := by decide +kernel
theorem d_MD_group_89 : decode b_MD_group 89 = .ok (.aload_n 0, 1) := by decide +kernel
theorem d_MD_group_90 : decode b_MD_group 90 = .ok (.iload_n 1, 1) := by decide +kernel
theorem d_MD_group_91 : decode b_MD_group 91 = .ok (.invokevirtual 53, 3) := by decide +kernel
theorem d_MD_group_94 : decode b_MD_group 94 = .ok (.ireturn, 1) := by decide +kernel
theorem d_MD_group_95 : decode b_MD_group 95 = .ok (.aload_n 0, 1) := by decide +kernel
theorem d_MD_group_96 : decode b_MD_group 96 = .ok (.iload_n 1, 1) := by decide +kernel
theorem d_MD_group_97 : decode b_MD_group 97 = .ok (.invokevirtual 56, 3) := by decide +kernel
theorem d_MD_group_100 : decode b_MD_group 100 = .ok (.ireturn, 1) := by decide +kernel
theorem d_MD_group_101 : decode b_MD_group 101 = .ok (.aload_n 0, 1) := by decide +kernel
theorem d_MD_group_102 : decode b_MD_group 102 = .ok (.getfield 20, 3) := by decide +kernel
theorem d_MD_group_105 : decode b_MD_group 105 = .ok (.iload_n 1, 1) := by decide +kernel
theorem d_MD_group_106 : decode b_MD_group 106 = .ok (.iaload, 1) := by decide +kernel
theorem d_MD_group_107 : decode b_MD_group 107 = .ok (.ireturn, 1) := by decide +kernel
theorem d_MD_group_108 : decode b_MD_group 108 = .ok (.aload_n 0, 1) := by decide +kernel
theorem d_MD_group_109 : decode b_MD_group 109 = .ok (.iload_n 1, 1) := by decide +kernel
theorem d_MD_group_110 : decode b_MD_group 110 = .ok (.iconst 0, 1) := by decide +kernel
theorem d_MD_group_111 : decode b_MD_group 111 = .ok (.invokevirtual 77, 3) := by decide +kernel
theorem d_MD_group_114 : decode b_MD_group 114 = .ok (.aload_n 0, 1) := by decide +kernel
theorem d_MD_group_115 : decode b_MD_group 115 = .ok (.getfield 63, 3) := by decide +kernel
theorem d_MD_group_118 : decode b_MD_group 118 = .ok (.ireturn, 1) := by decide +kernel
theorem d_MD_descriptor_0 : decode b_MD_descriptor 0 = .ok (.iload_n 1, 1) := by decide +kernel
theorem d_MD_descriptor_1 : decode b_MD_descriptor 1 = .ok (.bipush 32, 2) := by decide +kernel
theorem d_MD_descriptor_3 : decode b_MD_descriptor 3 = .ok (.idiv, 1) := by decide +kernel
theorem d_MD_descriptor_4 : decode b_MD_descriptor 4 = .ok (.istore_n 2, 1) := by decide +kernel
theorem d_MD_descriptor_5 : decode b_MD_descriptor 5 = .ok (.iload_n 2, 1) := by decide +kernel
theorem d_MD_descriptor_6 : decode b_MD_descriptor 6 = .ok (.aload_n 0, 1) := by decide +kernel
theorem d_MD_descriptor_7 : decode b_MD_descriptor 7 = .ok (.getfield 38, 3) := by decide +kernel
theorem d_MD_descriptor_10 : decode b_MD_descriptor 10 = .ok (.if_icmp .lt 5, 3) := by decide +kernel
theorem d_MD_descriptor_13 : decode b_MD_descriptor 13 = .ok (.iconst 0, 1) := by decide +kernel
theorem d_MD_descriptor_14 : decode b_MD_descriptor 14 = .ok (.ireturn, 1) := by decide +kernel
theorem d_MD_descriptor_15 : decode b_MD_descriptor 15 = .ok (.iload_n 1, 1) := by decide +kernel
theorem d_MD_descriptor_16 : decode b_MD_descriptor 16 = .ok (.bipush 32, 2) := by decide +kernel
theorem d_MD_descriptor_18 : decode b_MD_descriptor 18 = .ok (.irem, 1) := by decide +kernel
theorem d_MD_descriptor_19 : decode b_MD_descriptor 19 = .ok (.istore_n 3, 1) := by decide +kernel
theorem d_MD_descriptor_20 : decode b_MD_descriptor 20 = .ok (.iconst 0, 1) := by decide +kernel
theorem d_MD_descriptor_21 : decode b_MD_descriptor 21 = .ok (.istore 4, 2) := by decide +kernel
theorem d_MD_descriptor_23 : decode b_MD_descriptor 23 = .ok (.iload_n 3, 1) := by decide +kernel
theorem d_MD_descriptor_24 : decode b_MD_descriptor 24 = .ok (.bipush 12, 2) := by decide +kernel
theorem d_MD_descriptor_26 : decode b_MD_descriptor 26 = .ok (.if_icmp .ge 9, 3) := by decide +kernel
theorem d_MD_descriptor_29 : decode b_MD_descriptor 29 = .ok (.iload_n 3, 1) := by decide +kernel
theorem d_MD_descriptor_30 : decode b_MD_descriptor 30 = .ok (.iconst 4, 1) := by decide +kernel
theorem d_MD_descriptor_31 : decode b_MD_descriptor 31 = .ok (.irem, 1) := by decide +kernel
theorem d_MD_descriptor_32 : decode b_MD_descriptor 32 = .ok (.goto 6, 3) := by decide +kernel
theorem d_MD_descriptor_35 : decode b_MD_descriptor 35 = .ok (.iload_n 3, 1) := by decide +kernel
theorem d_MD_descriptor_36 : decode b_MD_descriptor 36 = .ok (.iconst 2, 1) := by decide +kernel
theorem d_MD_descriptor_37 : decode b_MD_descriptor 37 = .ok (.irem, 1) := by decide +kernel
theorem d_MD_descriptor_38 : decode b_MD_descriptor 38 = .ok (.istore 5, 2) := by decide +kernel
theorem d_MD_descriptor_40 : decode b_MD_descriptor 40 = .ok (.iload_n 3, 1) := by decide +kernel
theorem d_MD_descriptor_41 : decode b_MD_descriptor 41 = .ok (.bipush 12, 2) := by decide +kernel
theorem d_MD_descriptor_43 : decode b_MD_descriptor 43 = .ok (.if_icmp .ge 41, 3) := by decide +kernel
theorem d_MD_descriptor_46 : decode b_MD_descriptor 46 = .ok (.iload_n 3, 1) := by decide +kernel
theorem d_MD_descriptor_47 : decode b_MD_descriptor 47 = .ok (.iconst 4, 1) := by decide +kernel
theorem d_MD_descriptor_48 : decode b_MD_descriptor 48 = .ok (.if_icmp .ge 10, 3) := by decide +kernel
theorem d_MD_descriptor_51 : decode b_MD_descriptor 51 = .ok (.iload_n 2, 1) := by decide +kernel
theorem d_MD_descriptor_52 : decode b_MD_descriptor 52 = .ok (.invokestatic 47, 3) := by decide +kernel
theorem d_MD_descriptor_55 : decode b_MD_descriptor 55 = .ok (.goto 24, 3) := by decide +kernel
theorem d_MD_descriptor_58 : decode b_MD_descriptor 58 = .ok (.iload_n 3, 1) := by decide +kernel
theorem d_MD_descriptor_59 : decode b_MD_descriptor 59 = .ok (.bipush 8, 2) := by decide +kernel
theorem d_MD_descriptor_61 : decode b_MD_descriptor 61 = .ok (.if_icmp .ge 12, 3) := by decide +kernel
theorem d_MD_descriptor_64 : decode b_MD_descriptor 64 = .ok (.iload_n 2, 1) := by decide +kernel
theorem d_MD_descriptor_65 : decode b_MD_descriptor 65 = .ok (.invokestatic 47, 3) := by decide +kernel
theorem d_MD_descriptor_68 : decode b_MD_descriptor 68 = .ok (.iconst 1, 1) := by decide +kernel
theorem d_MD_descriptor_69 : decode b_MD_descriptor 69 = .ok (.iadd, 1) := by decide +kernel
theorem d_MD_descriptor_70 : decode b_MD_descriptor 70 = .ok (.goto 9, 3) := by decide +kernel
theorem d_MD_descriptor_73 : decode b_MD_descriptor 73 = .ok (.iload_n 2, 1) := by decide +kernel
theorem d_MD_descriptor_74 : decode b_MD_descriptor 74 = .ok (.invokestatic 47, 3) := by decide +kernel
theorem d_MD_descriptor_77 : decode b_MD_descriptor 77 = .ok (.iconst 2, 1) := by decide +kernel
theorem d_MD_descriptor_78 : decode b_MD_descriptor 78 = .ok (.iadd, 1) := by decide +kernel
theorem d_MD_descriptor_79 : decode b_MD_descriptor 79 = .ok (.istore 4, 2) := by decide +kernel
theorem d_MD_descriptor_81 : decode b_MD_descriptor 81 = .ok (.goto 45, 3) := by decide +kernel
theorem d_MD_descriptor_84 : decode b_MD_descriptor 84 = .ok (.iload_n 3, 1) := by decide +kernel
theorem d_MD_descriptor_85 : decode b_MD_descriptor 85 = .ok (.bipush 18, 2) := by decide +kernel
theorem d_MD_descriptor_87 : decode b_MD_descriptor 87 = .ok (.if_icmp .ge 39, 3) := by decide +kernel
theorem d_MD_descriptor_90 : decode b_MD_descriptor 90 = .ok (.iload_n 3, 1) := by decide +kernel
theorem d_MD_descriptor_91 : decode b_MD_descriptor 91 = .ok (.bipush 14, 2) := by decide +kernel
theorem d_MD_descriptor_93 : decode b_MD_descriptor 93 = .ok (.if_icmp .ge 11, 3) := by decide +kernel
theorem d_MD_descriptor_96 : decode b_MD_descriptor 96 = .ok (.aload_n 0, 1) := by decide +kernel
theorem d_MD_descriptor_97 : decode b_MD_descriptor 97 = .ok (.iload_n 2, 1) := by decide +kernel
theorem d_MD_descriptor_98 : decode b_MD_descriptor 98 = .ok (.invokevirtual 53, 3) := by decide +kernel
theorem d_MD_descriptor_101 : decode b_MD_descriptor 101 = .ok (.goto 23, 3) := by decide +kernel
theorem d_MD_descriptor_104 : decode b_MD_descriptor 104 = .ok (.iload_n 3, 1) := by decide +kernel
theorem d_MD_descriptor_105 : decode b_MD_descriptor 105 = .ok (.bipush 16, 2) := by decide +kernel
theorem d_MD_descriptor_107 : decode b_MD_descriptor 107 = .ok (.if_icmp .ge 11, 3) := by decide +kernel
theorem d_MD_descriptor_110 : decode b_MD_descriptor 110 = .ok (.aload_n 0, 1) := by decide +kernel
theorem d_MD_descriptor_111 : decode b_MD_descriptor 111 = .ok (.iload_n 2, 1) := by decide +kernel
theorem d_MD_descriptor_112 : decode b_MD_descriptor 112 = .ok (.invokevirtual 56, 3) := by decide +kernel
theorem d_MD_descriptor_115 : decode b_MD_descriptor 115 = .ok (.goto 9, 3) := by decide +kernel
theorem d_MD_descriptor_118 : decode b_MD_descriptor 118 = .ok (.aload_n 0, 1) := by decide +kernel
theorem d_MD_descriptor_119 : decode b_MD_descriptor 119 = .ok (.getfield 20, 3) := by decide +kernel
theorem d_MD_descriptor_122 : decode b_MD_descriptor 122 = .ok (.iload_n 2, 1) := by decide +kernel
theorem d_MD_descriptor_123 : decode b_MD_descriptor 123 = .ok (.iaload, 1) := by decide +kernel
theorem d_MD_descriptor_124 : decode b_MD_descriptor 124 = .ok (.istore 4, 2) := by decide +kernel
theorem d_MD_descriptor_126 : decode b_MD_descriptor 126 = .ok (.iload 4, 2) := by decide +kernel
theorem d_MD_descriptor_128 : decode b_MD_descriptor 128 = .ok (.bipush 8, 2) := by decide +kernel
theorem d_MD_descriptor_130 : decode b_MD_descriptor 130 = .ok (.iload 5, 2) := by decide +kernel
theorem d_MD_descriptor_132 : decode b_MD_descriptor 132 = .ok (.imul, 1) := by decide +kernel
theorem d_MD_descriptor_133 : decode b_MD_descriptor 133 = .ok (.ishr, 1) := by decide +kernel
theorem d_MD_descriptor_134 : decode b_MD_descriptor 134 = .ok (.sipush 255, 3) := by decide +kernel
theorem d_MD_descriptor_137 : decode b_MD_descriptor 137 = .ok (.iand, 1) := by decide +kernel
theorem d_MD_descriptor_138 : decode b_MD_descriptor 138 = .ok (.ireturn, 1) := by decide +kernel
theorem d_MD_byteOf_0 : decode b_MD_byteOf 0 = .ok (.aload_n 0, 1) := by decide +kernel
theorem d_MD_byteOf_1 : decode b_MD_byteOf 1 = .ok (.iload_n 1, 1) := by decide +kernel
theorem d_MD_byteOf_2 : decode b_MD_byteOf 2 = .ok (.ifCond .lt 21, 3) := by decide +kernel
theorem d_MD_byteOf_5 : decode b_MD_byteOf 5 = .ok (.iload_n 1, 1) := by decide +kernel
theorem d_MD_byteOf_6 : decode b_MD_byteOf 6 = .ok (.sipush 1023, 3) := by decide +kernel
theorem d_MD_byteOf_9 : decode b_MD_byteOf 9 = .ok (.if_icmp .gt 14, 3) := by decide +kernel
theorem d_MD_byteOf_12 : decode b_MD_byteOf 12 = .ok (.iload_n 2, 1) := by decide +kernel
theorem d_MD_byteOf_13 : decode b_MD_byteOf 13 = .ok (.ifCond .lt 10, 3) := by decide +kernel
theorem d_MD_byteOf_16 : decode b_MD_byteOf 16 = .ok (.iload_n 2, 1) := by decide +kernel
theorem d_MD_byteOf_17 : decode b_MD_byteOf 17 = .ok (.sipush 4095, 3) := by decide +kernel
theorem d_MD_byteOf_20 : decode b_MD_byteOf 20 = .ok (.if_icmp .le 7, 3) := by decide +kernel
theorem d_MD_byteOf_23 : decode b_MD_byteOf 23 = .ok (.iconst 1, 1) := by decide +kernel
theorem d_MD_byteOf_24 : decode b_MD_byteOf 24 = .ok (.goto 4, 3) := by decide +kernel
theorem d_MD_byteOf_27 : decode b_MD_byteOf 27 = .ok (.iconst 0, 1) := by decide +kernel
theorem d_MD_byteOf_28 : decode b_MD_byteOf 28 = .ok (.putfield 30, 3) := by decide +kernel
theorem d_MD_byteOf_31 : decode b_MD_byteOf 31 = .ok (.aload_n 0, 1) := by decide +kernel
theorem d_MD_byteOf_32 : decode b_MD_byteOf 32 = .ok (.getfield 30, 3) := by decide +kernel
theorem d_MD_byteOf_35 : decode b_MD_byteOf 35 = .ok (.ifCond .le 5, 3) := by decide +kernel
theorem d_MD_byteOf_38 : decode b_MD_byteOf 38 = .ok (.iconst 0, 1) := by decide +kernel
theorem d_MD_byteOf_39 : decode b_MD_byteOf 39 = .ok (.ireturn, 1) := by decide +kernel
theorem d_MD_byteOf_40 : decode b_MD_byteOf 40 = .ok (.iload_n 1, 1) := by decide +kernel
theorem d_MD_byteOf_41 : decode b_MD_byteOf 41 = .ok (.iconst 1, 1) := by decide +kernel
theorem d_MD_byteOf_42 : decode b_MD_byteOf 42 = .ok (.if_icmp .ne 9, 3) := by decide +kernel
theorem d_MD_byteOf_45 : decode b_MD_byteOf 45 = .ok (.aload_n 0, 1) := by decide +kernel
theorem d_MD_byteOf_46 : decode b_MD_byteOf 46 = .ok (.iload_n 2, 1) := by decide +kernel
theorem d_MD_byteOf_47 : decode b_MD_byteOf 47 = .ok (.invokevirtual 104, 3) := by decide +kernel
theorem d_MD_byteOf_50 : decode b_MD_byteOf 50 = .ok (.ireturn, 1) := by decide +kernel
theorem d_MD_byteOf_51 : decode b_MD_byteOf 51 = .ok (.iload_n 1, 1) := by decide +kernel
theorem d_MD_byteOf_52 : decode b_MD_byteOf 52 = .ok (.sipush 256, 3) := by decide +kernel
theorem d_MD_byteOf_55 : decode b_MD_byteOf 55 = .ok (.idiv, 1) := by decide +kernel
theorem d_MD_byteOf_56 : decode b_MD_byteOf 56 = .ok (.istore_n 3, 1) := by decide +kernel
theorem d_MD_byteOf_57 : decode b_MD_byteOf 57 = .ok (.iload_n 1, 1) := by decide +kernel
theorem d_MD_byteOf_58 : decode b_MD_byteOf 58 = .ok (.iload_n 3, 1) := by decide +kernel
theorem d_MD_byteOf_59 : decode b_MD_byteOf 59 = .ok (.invokestatic 47, 3) := by decide +kernel
theorem d_MD_byteOf_62 : decode b_MD_byteOf 62 = .ok (.if_icmp .ne 7, 3) := by decide +kernel
theorem d_MD_byteOf_65 : decode b_MD_byteOf 65 = .ok (.iconst 1, 1) := by decide +kernel
theorem d_MD_byteOf_66 : decode b_MD_byteOf 66 = .ok (.goto 4, 3) := by decide +kernel
theorem d_MD_byteOf_69 : decode b_MD_byteOf 69 = .ok (.iconst 0, 1) := by decide +kernel
theorem d_MD_byteOf_70 : decode b_MD_byteOf 70 = .ok (.istore 4, 2) := by decide +kernel
theorem d_MD_byteOf_72 : decode b_MD_byteOf 72 = .ok (.iload 4, 2) := by decide +kernel
theorem d_MD_byteOf_74 : decode b_MD_byteOf 74 = .ok (.ifCond .ne 15, 3) := by decide +kernel
theorem d_MD_byteOf_77 : decode b_MD_byteOf 77 = .ok (.iload_n 1, 1) := by decide +kernel
theorem d_MD_byteOf_78 : decode b_MD_byteOf 78 = .ok (.iload_n 3, 1) := by decide +kernel
theorem d_MD_byteOf_79 : decode b_MD_byteOf 79 = .ok (.invokestatic 47, 3) := by decide +kernel
theorem d_MD_byteOf_82 : decode b_MD_byteOf 82 = .ok (.iconst 1, 1) := by decide +kernel
theorem d_MD_byteOf_83 : decode b_MD_byteOf 83 = .ok (.iadd, 1) := by decide +kernel
theorem d_MD_byteOf_84 : decode b_MD_byteOf 84 = .ok (.if_icmp .eq 5, 3) := by decide +kernel
theorem d_MD_byteOf_87 : decode b_MD_byteOf 87 = .ok (.iconst 0, 1) := by decide +kernel
theorem d_MD_byteOf_88 : decode b_MD_byteOf 88 = .ok (.ireturn, 1) := by decide +kernel
theorem d_MD_byteOf_89 : decode b_MD_byteOf 89 = .ok (.iconst 0, 1) := by decide +kernel
theorem d_MD_byteOf_90 : decode b_MD_byteOf 90 = .ok (.istore 5, 2) := by decide +kernel
theorem d_MD_byteOf_92 : decode b_MD_byteOf 92 = .ok (.iconst 0, 1) := by decide +kernel
theorem d_MD_byteOf_93 : decode b_MD_byteOf 93 = .ok (.istore 6, 2) := by decide +kernel
theorem d_MD_byteOf_95 : decode b_MD_byteOf 95 = .ok (.iload 6, 2) := by decide +kernel
theorem d_MD_byteOf_97 : decode b_MD_byteOf 97 = .ok (.bipush 8, 2) := by decide +kernel
theorem d_MD_byteOf_99 : decode b_MD_byteOf 99 = .ok (.if_icmp .ge 108, 3) := by decide +kernel
theorem d_MD_byteOf_102 : decode b_MD_byteOf 102 = .ok (.bipush 8, 2) := by decide +kernel
theorem d_MD_byteOf_104 : decode b_MD_byteOf 104 = .ok (.iload_n 2, 1) := by decide +kernel
theorem d_MD_byteOf_105 : decode b_MD_byteOf 105 = .ok (.imul, 1) := by decide +kernel
theorem d_MD_byteOf_106 : decode b_MD_byteOf 106 = .ok (.iload 6, 2) := by decide +kernel
theorem d_MD_byteOf_108 : decode b_MD_byteOf 108 = .ok (.iadd, 1) := by decide +kernel
theorem d_MD_byteOf_109 : decode b_MD_byteOf 109 = .ok (.istore 7, 2) := by decide +kernel
theorem d_MD_byteOf_111 : decode b_MD_byteOf 111 = .ok (.iload 4, 2) := by decide +kernel
theorem d_MD_byteOf_113 : decode b_MD_byteOf 113 = .ok (.ifCond .eq 38, 3) := by decide +kernel
theorem d_MD_byteOf_116 : decode b_MD_byteOf 116 = .ok (.iload 7, 2) := by decide +kernel
theorem d_MD_byteOf_118 : decode b_MD_byteOf 118 = .ok (.aload_n 0, 1) := by decide +kernel
theorem d_MD_byteOf_119 : decode b_MD_byteOf 119 = .ok (.getfield 7, 3) := by decide +kernel
theorem d_MD_byteOf_122 : decode b_MD_byteOf 122 = .ok (.iload_n 3, 1) := by decide +kernel
theorem d_MD_byteOf_123 : decode b_MD_byteOf 123 = .ok (.iaload, 1) := by decide +kernel
theorem d_MD_byteOf_124 : decode b_MD_byteOf 124 = .ok (.if_icmp .ge 19, 3) := by decide +kernel
theorem d_MD_byteOf_127 : decode b_MD_byteOf 127 = .ok (.aload_n 0, 1) := by decide +kernel
theorem d_MD_byteOf_128 : decode b_MD_byteOf 128 = .ok (.getfield 13, 3) := by decide +kernel
theorem d_MD_byteOf_131 : decode b_MD_byteOf 131 = .ok (.sipush 256, 3) := by decide +kernel
theorem d_MD_byteOf_134 : decode b_MD_byteOf 134 = .ok (.iload_n 3, 1) := by decide +kernel
theorem d_MD_byteOf_135 : decode b_MD_byteOf 135 = .ok (.imul, 1) := by decide +kernel
theorem d_MD_byteOf_136 : decode b_MD_byteOf 136 = .ok (.iload 7, 2) := by decide +kernel
theorem d_MD_byteOf_138 : decode b_MD_byteOf 138 = .ok (.iadd, 1) := by decide +kernel
theorem d_MD_byteOf_139 : decode b_MD_byteOf 139 = .ok (.baload, 1) := by decide +kernel
theorem d_MD_byteOf_140 : decode b_MD_byteOf 140 = .ok (.ifCond .eq 7, 3) := by decide +kernel
theorem d_MD_byteOf_143 : decode b_MD_byteOf 143 = .ok (.iconst 1, 1) := by decide +kernel
theorem d_MD_byteOf_144 : decode b_MD_byteOf 144 = .ok (.goto 36, 3) := by decide +kernel
theorem d_MD_byteOf_147 : decode b_MD_byteOf 147 = .ok (.iconst 0, 1) := by decide +kernel
theorem d_MD_byteOf_148 : decode b_MD_byteOf 148 = .ok (.goto 32, 3) := by decide +kernel
theorem d_MD_byteOf_151 : decode b_MD_byteOf 151 = .ok (.iload 7, 2) := by decide +kernel
theorem d_MD_byteOf_153 : decode b_MD_byteOf 153 = .ok (.sipush 128, 3) := by decide +kernel
theorem d_MD_byteOf_156 : decode b_MD_byteOf 156 = .ok (.if_icmp .ge 19, 3) := by decide +kernel
theorem d_MD_byteOf_159 : decode b_MD_byteOf 159 = .ok (.aload_n 0, 1) := by decide +kernel
theorem d_MD_byteOf_160 : decode b_MD_byteOf 160 = .ok (.getfield 17, 3) := by decide +kernel
theorem d_MD_byteOf_163 : decode b_MD_byteOf 163 = .ok (.sipush 128, 3) := by decide +kernel
theorem d_MD_byteOf_166 : decode b_MD_byteOf 166 = .ok (.iload_n 3, 1) := by decide +kernel
theorem d_MD_byteOf_167 : decode b_MD_byteOf 167 = .ok (.imul, 1) := by decide +kernel
theorem d_MD_byteOf_168 : decode b_MD_byteOf 168 = .ok (.iload 7, 2) := by decide +kernel
theorem d_MD_byteOf_170 : decode b_MD_byteOf 170 = .ok (.iadd, 1) := by decide +kernel
theorem d_MD_byteOf_171 : decode b_MD_byteOf 171 = .ok (.baload, 1) := by decide +kernel
theorem d_MD_byteOf_172 : decode b_MD_byteOf 172 = .ok (.ifCond .eq 7, 3) := by decide +kernel
theorem d_MD_byteOf_175 : decode b_MD_byteOf 175 = .ok (.iconst 1, 1) := by decide +kernel
theorem d_MD_byteOf_176 : decode b_MD_byteOf 176 = .ok (.goto 4, 3) := by decide +kernel
theorem d_MD_byteOf_179 : decode b_MD_byteOf 179 = .ok (.iconst 0, 1) := by decide +kernel
theorem d_MD_byteOf_180 : decode b_MD_byteOf 180 = .ok (.istore 8, 2) := by decide +kernel
theorem d_MD_byteOf_182 : decode b_MD_byteOf 182 = .ok (.iload 8, 2) := by decide +kernel
theorem d_MD_byteOf_184 : decode b_MD_byteOf 184 = .ok (.ifCond .eq 13, 3) := by decide +kernel
theorem d_MD_byteOf_187 : decode b_MD_byteOf 187 = .ok (.iload 5, 2) := by decide +kernel
theorem d_MD_byteOf_189 : decode b_MD_byteOf 189 = .ok (.iconst 1, 1) := by decide +kernel
theorem d_MD_byteOf_190 : decode b_MD_byteOf 190 = .ok (.iload 6, 2) := by decide +kernel
theorem d_MD_byteOf_192 : decode b_MD_byteOf 192 = .ok (.ishl, 1) := by decide +kernel
theorem d_MD_byteOf_193 : decode b_MD_byteOf 193 = .ok (.iadd, 1) := by decide +kernel
theorem d_MD_byteOf_194 : decode b_MD_byteOf 194 = .ok (.goto 5, 3) := by decide +kernel
theorem d_MD_byteOf_197 : decode b_MD_byteOf 197 = .ok (.iload 5, 2) := by decide +kernel
theorem d_MD_byteOf_199 : decode b_MD_byteOf 199 = .ok (.istore 5, 2) := by decide +kernel
theorem d_MD_byteOf_201 : decode b_MD_byteOf 201 = .ok (.iinc 6 1, 3) := by decide +kernel
theorem d_MD_byteOf_204 : decode b_MD_byteOf 204 = .ok (.goto (-109), 3) := by decide +kernel
theorem d_MD_byteOf_207 : decode b_MD_byteOf 207 = .ok (.iload 5, 2) := by decide +kernel
theorem d_MD_byteOf_209 : decode b_MD_byteOf 209 = .ok (.ireturn, 1) := by decide +kernel
theorem d_MD_isTold_0 : decode b_MD_isTold 0 = .ok (.aload_n 0, 1) := by decide +kernel
theorem d_MD_isTold_1 : decode b_MD_isTold 1 = .ok (.iload_n 1, 1) := by decide +kernel
theorem d_MD_isTold_2 : decode b_MD_isTold 2 = .ok (.ifCond .lt 10, 3) := by decide +kernel
theorem d_MD_isTold_5 : decode b_MD_isTold 5 = .ok (.iload_n 1, 1) := by decide +kernel
theorem d_MD_isTold_6 : decode b_MD_isTold 6 = .ok (.sipush 1023, 3) := by decide +kernel
theorem d_MD_isTold_9 : decode b_MD_isTold 9 = .ok (.if_icmp .le 7, 3) := by decide +kernel
theorem d_MD_isTold_12 : decode b_MD_isTold 12 = .ok (.iconst 1, 1) := by decide +kernel
theorem d_MD_isTold_13 : decode b_MD_isTold 13 = .ok (.goto 4, 3) := by decide +kernel
theorem d_MD_isTold_16 : decode b_MD_isTold 16 = .ok (.iconst 0, 1) := by decide +kernel
theorem d_MD_isTold_17 : decode b_MD_isTold 17 = .ok (.putfield 30, 3) := by decide +kernel
theorem d_MD_isTold_20 : decode b_MD_isTold 20 = .ok (.aload_n 0, 1) := by decide +kernel
theorem d_MD_isTold_21 : decode b_MD_isTold 21 = .ok (.getfield 30, 3) := by decide +kernel
theorem d_MD_isTold_24 : decode b_MD_isTold 24 = .ok (.ifCond .ne 16, 3) := by decide +kernel
theorem d_MD_isTold_27 : decode b_MD_isTold 27 = .ok (.aload_n 0, 1) := by decide +kernel
theorem d_MD_isTold_28 : decode b_MD_isTold 28 = .ok (.getfield 23, 3) := by decide +kernel
theorem d_MD_isTold_31 : decode b_MD_isTold 31 = .ok (.iload_n 1, 1) := by decide +kernel
theorem d_MD_isTold_32 : decode b_MD_isTold 32 = .ok (.baload, 1) := by decide +kernel
theorem d_MD_isTold_33 : decode b_MD_isTold 33 = .ok (.ifCond .eq 7, 3) := by decide +kernel
theorem d_MD_isTold_36 : decode b_MD_isTold 36 = .ok (.iconst 1, 1) := by decide +kernel
theorem d_MD_isTold_37 : decode b_MD_isTold 37 = .ok (.goto 4, 3) := by decide +kernel
theorem d_MD_isTold_40 : decode b_MD_isTold 40 = .ok (.iconst 0, 1) := by decide +kernel
theorem d_MD_isTold_41 : decode b_MD_isTold 41 = .ok (.ireturn, 1) := by decide +kernel
theorem d_MD_settle_0 : decode b_MD_settle 0 = .ok (.aload_n 0, 1) := by decide +kernel
theorem d_MD_settle_1 : decode b_MD_settle 1 = .ok (.iconst 0, 1) := by decide +kernel
theorem d_MD_settle_2 : decode b_MD_settle 2 = .ok (.putfield 30, 3) := by decide +kernel
theorem d_MD_settle_5 : decode b_MD_settle 5 = .ok (.iconst 0, 1) := by decide +kernel
theorem d_MD_settle_6 : decode b_MD_settle 6 = .ok (.istore_n 1, 1) := by decide +kernel
theorem d_MD_settle_7 : decode b_MD_settle 7 = .ok (.iconst 0, 1) := by decide +kernel
theorem d_MD_settle_8 : decode b_MD_settle 8 = .ok (.istore_n 2, 1) := by decide +kernel
theorem d_MD_settle_9 : decode b_MD_settle 9 = .ok (.iload_n 2, 1) := by decide +kernel
theorem d_MD_settle_10 : decode b_MD_settle 10 = .ok (.sipush 1024, 3) := by decide +kernel
theorem d_MD_settle_13 : decode b_MD_settle 13 = .ok (.if_icmp .ge 33, 3) := by decide +kernel
theorem d_MD_settle_16 : decode b_MD_settle 16 = .ok (.aload_n 0, 1) := by decide +kernel
theorem d_MD_settle_17 : decode b_MD_settle 17 = .ok (.getfield 23, 3) := by decide +kernel
theorem d_MD_settle_20 : decode b_MD_settle 20 = .ok (.iload_n 2, 1) := by decide +kernel
theorem d_MD_settle_21 : decode b_MD_settle 21 = .ok (.baload, 1) := by decide +kernel
theorem d_MD_settle_22 : decode b_MD_settle 22 = .ok (.ifCond .eq 9, 3) := by decide +kernel
theorem d_MD_settle_25 : decode b_MD_settle 25 = .ok (.iload_n 1, 1) := by decide +kernel
theorem d_MD_settle_26 : decode b_MD_settle 26 = .ok (.iconst 1, 1) := by decide +kernel
theorem d_MD_settle_27 : decode b_MD_settle 27 = .ok (.iadd, 1) := by decide +kernel
theorem d_MD_settle_28 : decode b_MD_settle 28 = .ok (.goto 4, 3) := by decide +kernel
theorem d_MD_settle_31 : decode b_MD_settle 31 = .ok (.iload_n 1, 1) := by decide +kernel
theorem d_MD_settle_32 : decode b_MD_settle 32 = .ok (.istore_n 1, 1) := by decide +kernel
theorem d_MD_settle_33 : decode b_MD_settle 33 = .ok (.aload_n 0, 1) := by decide +kernel
theorem d_MD_settle_34 : decode b_MD_settle 34 = .ok (.getfield 23, 3) := by decide +kernel
theorem d_MD_settle_37 : decode b_MD_settle 37 = .ok (.iload_n 2, 1) := by decide +kernel
theorem d_MD_settle_38 : decode b_MD_settle 38 = .ok (.iconst 0, 1) := by decide +kernel
theorem d_MD_settle_39 : decode b_MD_settle 39 = .ok (.bastore, 1) := by decide +kernel
theorem d_MD_settle_40 : decode b_MD_settle 40 = .ok (.iinc 2 1, 3) := by decide +kernel
theorem d_MD_settle_43 : decode b_MD_settle 43 = .ok (.goto (-34), 3) := by decide +kernel
theorem d_MD_settle_46 : decode b_MD_settle 46 = .ok (.iload_n 1, 1) := by decide +kernel
theorem d_MD_settle_47 : decode b_MD_settle 47 = .ok (.ireturn, 1) := by decide +kernel
