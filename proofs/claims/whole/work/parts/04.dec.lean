theorem d_BM_init_0 : decode b_BM_init 0 = .ok (.aload_n 0, 1) := by decide +kernel
theorem d_BM_init_1 : decode b_BM_init 1 = .ok (.invokespecial 1, 3) := by decide +kernel
theorem d_BM_init_4 : decode b_BM_init 4 = .ok (.aload_n 0, 1) := by decide +kernel
theorem d_BM_init_5 : decode b_BM_init 5 = .ok (.iload_n 1, 1) := by decide +kernel
theorem d_BM_init_6 : decode b_BM_init 6 = .ok (.putfield 7, 3) := by decide +kernel
theorem d_BM_init_9 : decode b_BM_init 9 = .ok (.aload_n 0, 1) := by decide +kernel
theorem d_BM_init_10 : decode b_BM_init 10 = .ok (.iload_n 2, 1) := by decide +kernel
theorem d_BM_init_11 : decode b_BM_init 11 = .ok (.newarray .boolean, 2) := by decide +kernel
theorem d_BM_init_13 : decode b_BM_init 13 = .ok (.putfield 13, 3) := by decide +kernel
theorem d_BM_init_16 : decode b_BM_init 16 = .ok (.return_, 1) := by decide +kernel
theorem d_BM_layOut_0 : decode b_BM_layOut 0 = .ok (.iconst 0, 1) := by decide +kernel
theorem d_BM_layOut_1 : decode b_BM_layOut 1 = .ok (.istore_n 3, 1) := by decide +kernel
theorem d_BM_layOut_2 : decode b_BM_layOut 2 = .ok (.iload_n 3, 1) := by decide +kernel
theorem d_BM_layOut_3 : decode b_BM_layOut 3 = .ok (.aload_n 0, 1) := by decide +kernel
theorem d_BM_layOut_4 : decode b_BM_layOut 4 = .ok (.getfield 13, 3) := by decide +kernel
theorem d_BM_layOut_7 : decode b_BM_layOut 7 = .ok (.arraylength, 1) := by decide +kernel
theorem d_BM_layOut_8 : decode b_BM_layOut 8 = .ok (.if_icmp .ge 30, 3) := by decide +kernel
theorem d_BM_layOut_11 : decode b_BM_layOut 11 = .ok (.aload_n 0, 1) := by decide +kernel
theorem d_BM_layOut_12 : decode b_BM_layOut 12 = .ok (.getfield 13, 3) := by decide +kernel
theorem d_BM_layOut_15 : decode b_BM_layOut 15 = .ok (.iload_n 3, 1) := by decide +kernel
theorem d_BM_layOut_16 : decode b_BM_layOut 16 = .ok (.iload_n 3, 1) := by decide +kernel
theorem d_BM_layOut_17 : decode b_BM_layOut 17 = .ok (.iload_n 2, 1) := by decide +kernel
theorem d_BM_layOut_18 : decode b_BM_layOut 18 = .ok (.if_icmp .lt 8, 3) := by decide +kernel
theorem d_BM_layOut_21 : decode b_BM_layOut 21 = .ok (.iload_n 3, 1) := by decide +kernel
theorem d_BM_layOut_22 : decode b_BM_layOut 22 = .ok (.iload_n 1, 1) := by decide +kernel
theorem d_BM_layOut_23 : decode b_BM_layOut 23 = .ok (.if_icmp .lt 7, 3) := by decide +kernel
theorem d_BM_layOut_26 : decode b_BM_layOut 26 = .ok (.iconst 1, 1) := by decide +kernel
theorem d_BM_layOut_27 : decode b_BM_layOut 27 = .ok (.goto 4, 3) := by decide +kernel
theorem d_BM_layOut_30 : decode b_BM_layOut 30 = .ok (.iconst 0, 1) := by decide +kernel
theorem d_BM_layOut_31 : decode b_BM_layOut 31 = .ok (.bastore, 1) := by decide +kernel
theorem d_BM_layOut_32 : decode b_BM_layOut 32 = .ok (.iinc 3 1, 3) := by decide +kernel
theorem d_BM_layOut_35 : decode b_BM_layOut 35 = .ok (.goto (-33), 3) := by decide +kernel
theorem d_BM_layOut_38 : decode b_BM_layOut 38 = .ok (.aload_n 0, 1) := by decide +kernel
theorem d_BM_layOut_39 : decode b_BM_layOut 39 = .ok (.iload_n 1, 1) := by decide +kernel
theorem d_BM_layOut_40 : decode b_BM_layOut 40 = .ok (.putfield 17, 3) := by decide +kernel
theorem d_BM_layOut_43 : decode b_BM_layOut 43 = .ok (.aload_n 0, 1) := by decide +kernel
theorem d_BM_layOut_44 : decode b_BM_layOut 44 = .ok (.iload_n 1, 1) := by decide +kernel
theorem d_BM_layOut_45 : decode b_BM_layOut 45 = .ok (.iload_n 2, 1) := by decide +kernel
theorem d_BM_layOut_46 : decode b_BM_layOut 46 = .ok (.isub, 1) := by decide +kernel
theorem d_BM_layOut_47 : decode b_BM_layOut 47 = .ok (.putfield 20, 3) := by decide +kernel
theorem d_BM_layOut_50 : decode b_BM_layOut 50 = .ok (.aload_n 0, 1) := by decide +kernel
theorem d_BM_layOut_51 : decode b_BM_layOut 51 = .ok (.iconst 1, 1) := by decide +kernel
theorem d_BM_layOut_52 : decode b_BM_layOut 52 = .ok (.putfield 23, 3) := by decide +kernel
theorem d_BM_layOut_55 : decode b_BM_layOut 55 = .ok (.return_, 1) := by decide +kernel
theorem d_BM_isSet_0 : decode b_BM_isSet 0 = .ok (.iload_n 1, 1) := by decide +kernel
theorem d_BM_isSet_1 : decode b_BM_isSet 1 = .ok (.ifCond .lt 21, 3) := by decide +kernel
theorem d_BM_isSet_4 : decode b_BM_isSet 4 = .ok (.iload_n 1, 1) := by decide +kernel
theorem d_BM_isSet_5 : decode b_BM_isSet 5 = .ok (.aload_n 0, 1) := by decide +kernel
theorem d_BM_isSet_6 : decode b_BM_isSet 6 = .ok (.getfield 13, 3) := by decide +kernel
theorem d_BM_isSet_9 : decode b_BM_isSet 9 = .ok (.arraylength, 1) := by decide +kernel
theorem d_BM_isSet_10 : decode b_BM_isSet 10 = .ok (.if_icmp .ge 12, 3) := by decide +kernel
theorem d_BM_isSet_13 : decode b_BM_isSet 13 = .ok (.aload_n 0, 1) := by decide +kernel
theorem d_BM_isSet_14 : decode b_BM_isSet 14 = .ok (.getfield 13, 3) := by decide +kernel
theorem d_BM_isSet_17 : decode b_BM_isSet 17 = .ok (.iload_n 1, 1) := by decide +kernel
theorem d_BM_isSet_18 : decode b_BM_isSet 18 = .ok (.baload, 1) := by decide +kernel
theorem d_BM_isSet_19 : decode b_BM_isSet 19 = .ok (.ifCond .eq 7, 3) := by decide +kernel
theorem d_BM_isSet_22 : decode b_BM_isSet 22 = .ok (.iconst 1, 1) := by decide +kernel
theorem d_BM_isSet_23 : decode b_BM_isSet 23 = .ok (.goto 4, 3) := by decide +kernel
theorem d_BM_isSet_26 : decode b_BM_isSet 26 = .ok (.iconst 0, 1) := by decide +kernel
theorem d_BM_isSet_27 : decode b_BM_isSet 27 = .ok (.ireturn, 1) := by decide +kernel
theorem d_BM_occupy_0 : decode b_BM_occupy 0 = .ok (.aload_n 0, 1) := by decide +kernel
theorem d_BM_occupy_1 : decode b_BM_occupy 1 = .ok (.iload_n 1, 1) := by decide +kernel
theorem d_BM_occupy_2 : decode b_BM_occupy 2 = .ok (.invokevirtual 27, 3) := by decide +kernel
theorem d_BM_occupy_5 : decode b_BM_occupy 5 = .ok (.ifCond .ne 25, 3) := by decide +kernel
theorem d_BM_occupy_8 : decode b_BM_occupy 8 = .ok (.aload_n 0, 1) := by decide +kernel
theorem d_BM_occupy_9 : decode b_BM_occupy 9 = .ok (.getfield 13, 3) := by decide +kernel
theorem d_BM_occupy_12 : decode b_BM_occupy 12 = .ok (.iload_n 1, 1) := by decide +kernel
theorem d_BM_occupy_13 : decode b_BM_occupy 13 = .ok (.iconst 1, 1) := by decide +kernel
theorem d_BM_occupy_14 : decode b_BM_occupy 14 = .ok (.bastore, 1) := by decide +kernel
theorem d_BM_occupy_15 : decode b_BM_occupy 15 = .ok (.aload_n 0, 1) := by decide +kernel
theorem d_BM_occupy_16 : decode b_BM_occupy 16 = .ok (.dup, 1) := by decide +kernel
theorem d_BM_occupy_17 : decode b_BM_occupy 17 = .ok (.getfield 20, 3) := by decide +kernel
theorem d_BM_occupy_20 : decode b_BM_occupy 20 = .ok (.iconst 1, 1) := by decide +kernel
theorem d_BM_occupy_21 : decode b_BM_occupy 21 = .ok (.isub, 1) := by decide +kernel
theorem d_BM_occupy_22 : decode b_BM_occupy 22 = .ok (.putfield 20, 3) := by decide +kernel
theorem d_BM_occupy_25 : decode b_BM_occupy 25 = .ok (.aload_n 0, 1) := by decide +kernel
theorem d_BM_occupy_26 : decode b_BM_occupy 26 = .ok (.iconst 1, 1) := by decide +kernel
theorem d_BM_occupy_27 : decode b_BM_occupy 27 = .ok (.putfield 23, 3) := by decide +kernel
theorem d_BM_occupy_30 : decode b_BM_occupy 30 = .ok (.return_, 1) := by decide +kernel
theorem d_BM_free_0 : decode b_BM_free 0 = .ok (.iload_n 1, 1) := by decide +kernel
theorem d_BM_free_1 : decode b_BM_free 1 = .ok (.ifCond .lt 42, 3) := by decide +kernel
theorem d_BM_free_4 : decode b_BM_free 4 = .ok (.iload_n 1, 1) := by decide +kernel
theorem d_BM_free_5 : decode b_BM_free 5 = .ok (.aload_n 0, 1) := by decide +kernel
theorem d_BM_free_6 : decode b_BM_free 6 = .ok (.getfield 17, 3) := by decide +kernel
theorem d_BM_free_9 : decode b_BM_free 9 = .ok (.if_icmp .ge 34, 3) := by decide +kernel
theorem d_BM_free_12 : decode b_BM_free 12 = .ok (.aload_n 0, 1) := by decide +kernel
theorem d_BM_free_13 : decode b_BM_free 13 = .ok (.getfield 13, 3) := by decide +kernel
theorem d_BM_free_16 : decode b_BM_free 16 = .ok (.iload_n 1, 1) := by decide +kernel
theorem d_BM_free_17 : decode b_BM_free 17 = .ok (.baload, 1) := by decide +kernel
theorem d_BM_free_18 : decode b_BM_free 18 = .ok (.ifCond .eq 25, 3) := by decide +kernel
theorem d_BM_free_21 : decode b_BM_free 21 = .ok (.aload_n 0, 1) := by decide +kernel
theorem d_BM_free_22 : decode b_BM_free 22 = .ok (.getfield 13, 3) := by decide +kernel
theorem d_BM_free_25 : decode b_BM_free 25 = .ok (.iload_n 1, 1) := by decide +kernel
theorem d_BM_free_26 : decode b_BM_free 26 = .ok (.iconst 0, 1) := by decide +kernel
theorem d_BM_free_27 : decode b_BM_free 27 = .ok (.bastore, 1) := by decide +kernel
theorem d_BM_free_28 : decode b_BM_free 28 = .ok (.aload_n 0, 1) := by decide +kernel
theorem d_BM_free_29 : decode b_BM_free 29 = .ok (.dup, 1) := by decide +kernel
theorem d_BM_free_30 : decode b_BM_free 30 = .ok (.getfield 20, 3) := by decide +kernel
theorem d_BM_free_33 : decode b_BM_free 33 = .ok (.iconst 1, 1) := by decide +kernel
theorem d_BM_free_34 : decode b_BM_free 34 = .ok (.iadd, 1) := by decide +kernel
theorem d_BM_free_35 : decode b_BM_free 35 = .ok (.putfield 20, 3) := by decide +kernel
theorem d_BM_free_38 : decode b_BM_free 38 = .ok (.aload_n 0, 1) := by decide +kernel
theorem d_BM_free_39 : decode b_BM_free 39 = .ok (.iconst 1, 1) := by decide +kernel
theorem d_BM_free_40 : decode b_BM_free 40 = .ok (.putfield 23, 3) := by decide +kernel
theorem d_BM_free_43 : decode b_BM_free 43 = .ok (.return_, 1) := by decide +kernel
theorem d_BM_byteAt_0 : decode b_BM_byteAt 0 = .ok (.iconst 0, 1) := by decide +kernel
theorem d_BM_byteAt_1 : decode b_BM_byteAt 1 = .ok (.istore_n 2, 1) := by decide +kernel
theorem d_BM_byteAt_2 : decode b_BM_byteAt 2 = .ok (.iconst 0, 1) := by decide +kernel
theorem d_BM_byteAt_3 : decode b_BM_byteAt 3 = .ok (.istore_n 3, 1) := by decide +kernel
theorem d_BM_byteAt_4 : decode b_BM_byteAt 4 = .ok (.iload_n 3, 1) := by decide +kernel
theorem d_BM_byteAt_5 : decode b_BM_byteAt 5 = .ok (.bipush 8, 2) := by decide +kernel
theorem d_BM_byteAt_7 : decode b_BM_byteAt 7 = .ok (.if_icmp .ge 28, 3) := by decide +kernel
theorem d_BM_byteAt_10 : decode b_BM_byteAt 10 = .ok (.aload_n 0, 1) := by decide +kernel
theorem d_BM_byteAt_11 : decode b_BM_byteAt 11 = .ok (.bipush 8, 2) := by decide +kernel
theorem d_BM_byteAt_13 : decode b_BM_byteAt 13 = .ok (.iload_n 1, 1) := by decide +kernel
theorem d_BM_byteAt_14 : decode b_BM_byteAt 14 = .ok (.imul, 1) := by decide +kernel
theorem d_BM_byteAt_15 : decode b_BM_byteAt 15 = .ok (.iload_n 3, 1) := by decide +kernel
theorem d_BM_byteAt_16 : decode b_BM_byteAt 16 = .ok (.iadd, 1) := by decide +kernel
theorem d_BM_byteAt_17 : decode b_BM_byteAt 17 = .ok (.invokevirtual 27, 3) := by decide +kernel
theorem d_BM_byteAt_20 : decode b_BM_byteAt 20 = .ok (.ifCond .eq 9, 3) := by decide +kernel
theorem d_BM_byteAt_23 : decode b_BM_byteAt 23 = .ok (.iload_n 2, 1) := by decide +kernel
theorem d_BM_byteAt_24 : decode b_BM_byteAt 24 = .ok (.iconst 1, 1) := by decide +kernel
theorem d_BM_byteAt_25 : decode b_BM_byteAt 25 = .ok (.iload_n 3, 1) := by decide +kernel
theorem d_BM_byteAt_26 : decode b_BM_byteAt 26 = .ok (.ishl, 1) := by decide +kernel
theorem d_BM_byteAt_27 : decode b_BM_byteAt 27 = .ok (.ior, 1) := by decide +kernel
theorem d_BM_byteAt_28 : decode b_BM_byteAt 28 = .ok (.istore_n 2, 1) := by decide +kernel
theorem d_BM_byteAt_29 : decode b_BM_byteAt 29 = .ok (.iinc 3 1, 3) := by decide +kernel
theorem d_BM_byteAt_32 : decode b_BM_byteAt 32 = .ok (.goto (-28), 3) := by decide +kernel
theorem d_BM_byteAt_35 : decode b_BM_byteAt 35 = .ok (.iload_n 2, 1) := by decide +kernel
theorem d_BM_byteAt_36 : decode b_BM_byteAt 36 = .ok (.ireturn, 1) := by decide +kernel
theorem d_BM_leastFree_0 : decode b_BM_leastFree 0 = .ok (.iconst 0, 1) := by decide +kernel
theorem d_BM_leastFree_1 : decode b_BM_leastFree 1 = .ok (.istore_n 1, 1) := by decide +kernel
theorem d_BM_leastFree_2 : decode b_BM_leastFree 2 = .ok (.iload_n 1, 1) := by decide +kernel
theorem d_BM_leastFree_3 : decode b_BM_leastFree 3 = .ok (.aload_n 0, 1) := by decide +kernel
theorem d_BM_leastFree_4 : decode b_BM_leastFree 4 = .ok (.getfield 17, 3) := by decide +kernel
theorem d_BM_leastFree_7 : decode b_BM_leastFree 7 = .ok (.if_icmp .ge 19, 3) := by decide +kernel
theorem d_BM_leastFree_10 : decode b_BM_leastFree 10 = .ok (.aload_n 0, 1) := by decide +kernel
theorem d_BM_leastFree_11 : decode b_BM_leastFree 11 = .ok (.iload_n 1, 1) := by decide +kernel
theorem d_BM_leastFree_12 : decode b_BM_leastFree 12 = .ok (.invokevirtual 27, 3) := by decide +kernel
theorem d_BM_leastFree_15 : decode b_BM_leastFree 15 = .ok (.ifCond .ne 5, 3) := by decide +kernel
theorem d_BM_leastFree_18 : decode b_BM_leastFree 18 = .ok (.iload_n 1, 1) := by decide +kernel
theorem d_BM_leastFree_19 : decode b_BM_leastFree 19 = .ok (.ireturn, 1) := by decide +kernel
theorem d_BM_leastFree_20 : decode b_BM_leastFree 20 = .ok (.iinc 1 1, 3) := by decide +kernel
theorem d_BM_leastFree_23 : decode b_BM_leastFree 23 = .ok (.goto (-21), 3) := by decide +kernel
theorem d_BM_leastFree_26 : decode b_BM_leastFree 26 = .ok (.iconst (-1), 1) := by decide +kernel
theorem d_BM_leastFree_27 : decode b_BM_leastFree 27 = .ok (.ireturn, 1) := by decide +kernel
theorem d_BM_areFree_0 : decode b_BM_areFree 0 = .ok (.iload_n 1, 1) := by decide +kernel
theorem d_BM_areFree_1 : decode b_BM_areFree 1 = .ok (.istore_n 3, 1) := by decide +kernel
theorem d_BM_areFree_2 : decode b_BM_areFree 2 = .ok (.iload_n 3, 1) := by decide +kernel
theorem d_BM_areFree_3 : decode b_BM_areFree 3 = .ok (.iload_n 1, 1) := by decide +kernel
theorem d_BM_areFree_4 : decode b_BM_areFree 4 = .ok (.iload_n 2, 1) := by decide +kernel
theorem d_BM_areFree_5 : decode b_BM_areFree 5 = .ok (.iadd, 1) := by decide +kernel
theorem d_BM_areFree_6 : decode b_BM_areFree 6 = .ok (.if_icmp .ge 19, 3) := by decide +kernel
theorem d_BM_areFree_9 : decode b_BM_areFree 9 = .ok (.aload_n 0, 1) := by decide +kernel
theorem d_BM_areFree_10 : decode b_BM_areFree 10 = .ok (.iload_n 3, 1) := by decide +kernel
theorem d_BM_areFree_11 : decode b_BM_areFree 11 = .ok (.invokevirtual 27, 3) := by decide +kernel
theorem d_BM_areFree_14 : decode b_BM_areFree 14 = .ok (.ifCond .eq 5, 3) := by decide +kernel
theorem d_BM_areFree_17 : decode b_BM_areFree 17 = .ok (.iconst 0, 1) := by decide +kernel
theorem d_BM_areFree_18 : decode b_BM_areFree 18 = .ok (.ireturn, 1) := by decide +kernel
theorem d_BM_areFree_19 : decode b_BM_areFree 19 = .ok (.iinc 3 1, 3) := by decide +kernel
theorem d_BM_areFree_22 : decode b_BM_areFree 22 = .ok (.goto (-20), 3) := by decide +kernel
theorem d_BM_areFree_25 : decode b_BM_areFree 25 = .ok (.iconst 1, 1) := by decide +kernel
theorem d_BM_areFree_26 : decode b_BM_areFree 26 = .ok (.ireturn, 1) := by decide +kernel
theorem d_BM_longestRun_0 : decode b_BM_longestRun 0 = .ok (.iconst 0, 1) := by decide +kernel
theorem d_BM_longestRun_1 : decode b_BM_longestRun 1 = .ok (.istore_n 1, 1) := by decide +kernel
theorem d_BM_longestRun_2 : decode b_BM_longestRun 2 = .ok (.iconst 0, 1) := by decide +kernel
theorem d_BM_longestRun_3 : decode b_BM_longestRun 3 = .ok (.istore_n 2, 1) := by decide +kernel
theorem d_BM_longestRun_4 : decode b_BM_longestRun 4 = .ok (.iconst 0, 1) := by decide +kernel
theorem d_BM_longestRun_5 : decode b_BM_longestRun 5 = .ok (.istore_n 3, 1) := by decide +kernel
theorem d_BM_longestRun_6 : decode b_BM_longestRun 6 = .ok (.iload_n 3, 1) := by decide +kernel
theorem d_BM_longestRun_7 : decode b_BM_longestRun 7 = .ok (.aload_n 0, 1) := by decide +kernel
theorem d_BM_longestRun_8 : decode b_BM_longestRun 8 = .ok (.getfield 17, 3) := by decide +kernel
theorem d_BM_longestRun_11 : decode b_BM_longestRun 11 = .ok (.if_icmp .ge 31, 3) := by decide +kernel
theorem d_BM_longestRun_14 : decode b_BM_longestRun 14 = .ok (.aload_n 0, 1) := by decide +kernel
theorem d_BM_longestRun_15 : decode b_BM_longestRun 15 = .ok (.iload_n 3, 1) := by decide +kernel
theorem d_BM_longestRun_16 : decode b_BM_longestRun 16 = .ok (.invokevirtual 27, 3) := by decide +kernel
theorem d_BM_longestRun_19 : decode b_BM_longestRun 19 = .ok (.ifCond .eq 7, 3) := by decide +kernel
theorem d_BM_longestRun_22 : decode b_BM_longestRun 22 = .ok (.iconst 0, 1) := by decide +kernel
theorem d_BM_longestRun_23 : decode b_BM_longestRun 23 = .ok (.goto 6, 3) := by decide +kernel
theorem d_BM_longestRun_26 : decode b_BM_longestRun 26 = .ok (.iload_n 2, 1) := by decide +kernel
theorem d_BM_longestRun_27 : decode b_BM_longestRun 27 = .ok (.iconst 1, 1) := by decide +kernel
theorem d_BM_longestRun_28 : decode b_BM_longestRun 28 = .ok (.iadd, 1) := by decide +kernel
theorem d_BM_longestRun_29 : decode b_BM_longestRun 29 = .ok (.istore_n 2, 1) := by decide +kernel
theorem d_BM_longestRun_30 : decode b_BM_longestRun 30 = .ok (.iload_n 1, 1) := by decide +kernel
theorem d_BM_longestRun_31 : decode b_BM_longestRun 31 = .ok (.iload_n 2, 1) := by decide +kernel
theorem d_BM_longestRun_32 : decode b_BM_longestRun 32 = .ok (.invokestatic 31, 3) := by decide +kernel
theorem d_BM_longestRun_35 : decode b_BM_longestRun 35 = .ok (.istore_n 1, 1) := by decide +kernel
theorem d_BM_longestRun_36 : decode b_BM_longestRun 36 = .ok (.iinc 3 1, 3) := by decide +kernel
theorem d_BM_longestRun_39 : decode b_BM_longestRun 39 = .ok (.goto (-33), 3) := by decide +kernel
theorem d_BM_longestRun_42 : decode b_BM_longestRun 42 = .ok (.iload_n 1, 1) := by decide +kernel
theorem d_BM_longestRun_43 : decode b_BM_longestRun 43 = .ok (.ireturn, 1) := by decide +kernel
theorem d_BM_shortestRun_0 : decode b_BM_shortestRun 0 = .ok (.iconst (-1), 1) := by decide +kernel
theorem d_BM_shortestRun_1 : decode b_BM_shortestRun 1 = .ok (.istore_n 2, 1) := by decide +kernel
theorem d_BM_shortestRun_2 : decode b_BM_shortestRun 2 = .ok (.aload_n 0, 1) := by decide +kernel
theorem d_BM_shortestRun_3 : decode b_BM_shortestRun 3 = .ok (.getfield 17, 3) := by decide +kernel
theorem d_BM_shortestRun_6 : decode b_BM_shortestRun 6 = .ok (.iconst 1, 1) := by decide +kernel
theorem d_BM_shortestRun_7 : decode b_BM_shortestRun 7 = .ok (.iadd, 1) := by decide +kernel
theorem d_BM_shortestRun_8 : decode b_BM_shortestRun 8 = .ok (.istore_n 3, 1) := by decide +kernel
theorem d_BM_shortestRun_9 : decode b_BM_shortestRun 9 = .ok (.iconst 0, 1) := by decide +kernel
theorem d_BM_shortestRun_10 : decode b_BM_shortestRun 10 = .ok (.istore 4, 2) := by decide +kernel
theorem d_BM_shortestRun_12 : decode b_BM_shortestRun 12 = .ok (.iconst 0, 1) := by decide +kernel
theorem d_BM_shortestRun_13 : decode b_BM_shortestRun 13 = .ok (.istore 5, 2) := by decide +kernel
theorem d_BM_shortestRun_15 : decode b_BM_shortestRun 15 = .ok (.iload 5, 2) := by decide +kernel
theorem d_BM_shortestRun_17 : decode b_BM_shortestRun 17 = .ok (.aload_n 0, 1) := by decide +kernel
theorem d_BM_shortestRun_18 : decode b_BM_shortestRun 18 = .ok (.getfield 17, 3) := by decide +kernel
theorem d_BM_shortestRun_21 : decode b_BM_shortestRun 21 = .ok (.if_icmp .ge 62, 3) := by decide +kernel
theorem d_BM_shortestRun_24 : decode b_BM_shortestRun 24 = .ok (.aload_n 0, 1) := by decide +kernel
theorem d_BM_shortestRun_25 : decode b_BM_shortestRun 25 = .ok (.iload 5, 2) := by decide +kernel
theorem d_BM_shortestRun_27 : decode b_BM_shortestRun 27 = .ok (.invokevirtual 27, 3) := by decide +kernel
theorem d_BM_shortestRun_30 : decode b_BM_shortestRun 30 = .ok (.ifCond .eq 7, 3) := by decide +kernel
theorem d_BM_shortestRun_33 : decode b_BM_shortestRun 33 = .ok (.iconst 0, 1) := by decide +kernel
theorem d_BM_shortestRun_34 : decode b_BM_shortestRun 34 = .ok (.goto 7, 3) := by decide +kernel
theorem d_BM_shortestRun_37 : decode b_BM_shortestRun 37 = .ok (.iload 4, 2) := by decide +kernel
theorem d_BM_shortestRun_39 : decode b_BM_shortestRun 39 = .ok (.iconst 1, 1) := by decide +kernel
theorem d_BM_shortestRun_40 : decode b_BM_shortestRun 40 = .ok (.iadd, 1) := by decide +kernel
theorem d_BM_shortestRun_41 : decode b_BM_shortestRun 41 = .ok (.istore 4, 2) := by decide +kernel
theorem d_BM_shortestRun_43 : decode b_BM_shortestRun 43 = .ok (.iload 4, 2) := by decide +kernel
theorem d_BM_shortestRun_45 : decode b_BM_shortestRun 45 = .ok (.iload_n 1, 1) := by decide +kernel
theorem d_BM_shortestRun_46 : decode b_BM_shortestRun 46 = .ok (.if_icmp .lt 31, 3) := by decide +kernel
theorem d_BM_shortestRun_49 : decode b_BM_shortestRun 49 = .ok (.iload 4, 2) := by decide +kernel
theorem d_BM_shortestRun_51 : decode b_BM_shortestRun 51 = .ok (.iload_n 3, 1) := by decide +kernel
theorem d_BM_shortestRun_52 : decode b_BM_shortestRun 52 = .ok (.if_icmp .ge 25, 3) := by decide +kernel
theorem d_BM_shortestRun_55 : decode b_BM_shortestRun 55 = .ok (.aload_n 0, 1) := by decide +kernel
theorem d_BM_shortestRun_56 : decode b_BM_shortestRun 56 = .ok (.iload 5, 2) := by decide +kernel
theorem d_BM_shortestRun_58 : decode b_BM_shortestRun 58 = .ok (.iconst 1, 1) := by decide +kernel
theorem d_BM_shortestRun_59 : decode b_BM_shortestRun 59 = .ok (.iadd, 1) := by decide +kernel
theorem d_BM_shortestRun_60 : decode b_BM_shortestRun 60 = .ok (.invokevirtual 27, 3) := by decide +kernel
theorem d_BM_shortestRun_63 : decode b_BM_shortestRun 63 = .ok (.ifCond .eq 14, 3) := by decide +kernel
theorem d_BM_shortestRun_66 : decode b_BM_shortestRun 66 = .ok (.iload 4, 2) := by decide +kernel
theorem d_BM_shortestRun_68 : decode b_BM_shortestRun 68 = .ok (.istore_n 3, 1) := by decide +kernel
theorem d_BM_shortestRun_69 : decode b_BM_shortestRun 69 = .ok (.iload 5, 2) := by decide +kernel
theorem d_BM_shortestRun_71 : decode b_BM_shortestRun 71 = .ok (.iconst 1, 1) := by decide +kernel
theorem d_BM_shortestRun_72 : decode b_BM_shortestRun 72 = .ok (.iadd, 1) := by decide +kernel
theorem d_BM_shortestRun_73 : decode b_BM_shortestRun 73 = .ok (.iload 4, 2) := by decide +kernel
theorem d_BM_shortestRun_75 : decode b_BM_shortestRun 75 = .ok (.isub, 1) := by decide +kernel
theorem d_BM_shortestRun_76 : decode b_BM_shortestRun 76 = .ok (.istore_n 2, 1) := by decide +kernel
theorem d_BM_shortestRun_77 : decode b_BM_shortestRun 77 = .ok (.iinc 5 1, 3) := by decide +kernel
theorem d_BM_shortestRun_80 : decode b_BM_shortestRun 80 = .ok (.goto (-65), 3) := by decide +kernel
theorem d_BM_shortestRun_83 : decode b_BM_shortestRun 83 = .ok (.iload_n 2, 1) := by decide +kernel
theorem d_BM_shortestRun_84 : decode b_BM_shortestRun 84 = .ok (.ireturn, 1) := by decide +kernel
theorem d_BM_forgetTold_0 : decode b_BM_forgetTold 0 = .ok (.aload_n 0, 1) := by decide +kernel
theorem d_BM_forgetTold_1 : decode b_BM_forgetTold 1 = .ok (.getfield 23, 3) := by decide +kernel
theorem d_BM_forgetTold_4 : decode b_BM_forgetTold 4 = .ok (.ifCond .eq 7, 3) := by decide +kernel
theorem d_BM_forgetTold_7 : decode b_BM_forgetTold 7 = .ok (.iconst 1, 1) := by decide +kernel
theorem d_BM_forgetTold_8 : decode b_BM_forgetTold 8 = .ok (.goto 4, 3) := by decide +kernel
theorem d_BM_forgetTold_11 : decode b_BM_forgetTold 11 = .ok (.iconst 0, 1) := by decide +kernel
theorem d_BM_forgetTold_12 : decode b_BM_forgetTold 12 = .ok (.istore_n 1, 1) := by decide +kernel
theorem d_BM_forgetTold_13 : decode b_BM_forgetTold 13 = .ok (.aload_n 0, 1) := by decide +kernel
theorem d_BM_forgetTold_14 : decode b_BM_forgetTold 14 = .ok (.iconst 0, 1) := by decide +kernel
theorem d_BM_forgetTold_15 : decode b_BM_forgetTold 15 = .ok (.putfield 23, 3) := by decide +kernel
theorem d_BM_forgetTold_18 : decode b_BM_forgetTold 18 = .ok (.iload_n 1, 1) := by decide +kernel
theorem d_BM_forgetTold_19 : decode b_BM_forgetTold 19 = .ok (.ireturn, 1) := by decide +kernel
