-- decode rows (laid by gen/names.py)
theorem d_Me_add_0 : decode b_Me_add 0 = .ok (.aload_n 0, 1) := by decide +kernel
theorem d_Me_add_1 : decode b_Me_add 1 = .ok (.invokevirtual 17, 3) := by decide +kernel
theorem d_Me_add_4 : decode b_Me_add 4 = .ok (.ifCond .ne 23, 3) := by decide +kernel
theorem d_Me_add_7 : decode b_Me_add 7 = .ok (.aload_n 0, 1) := by decide +kernel
theorem d_Me_add_8 : decode b_Me_add 8 = .ok (.getfield 13, 3) := by decide +kernel
theorem d_Me_add_11 : decode b_Me_add 11 = .ok (.aload_n 0, 1) := by decide +kernel
theorem d_Me_add_12 : decode b_Me_add 12 = .ok (.getfield 7, 3) := by decide +kernel
theorem d_Me_add_15 : decode b_Me_add 15 = .ok (.iload_n 1, 1) := by decide +kernel
theorem d_Me_add_16 : decode b_Me_add 16 = .ok (.iastore, 1) := by decide +kernel
theorem d_Me_add_17 : decode b_Me_add 17 = .ok (.aload_n 0, 1) := by decide +kernel
theorem d_Me_add_18 : decode b_Me_add 18 = .ok (.dup, 1) := by decide +kernel
theorem d_Me_add_19 : decode b_Me_add 19 = .ok (.getfield 7, 3) := by decide +kernel
theorem d_Me_add_22 : decode b_Me_add 22 = .ok (.iconst 1, 1) := by decide +kernel
theorem d_Me_add_23 : decode b_Me_add 23 = .ok (.iadd, 1) := by decide +kernel
theorem d_Me_add_24 : decode b_Me_add 24 = .ok (.putfield 7, 3) := by decide +kernel
theorem d_Me_add_27 : decode b_Me_add 27 = .ok (.return_, 1) := by decide +kernel
theorem d_Me_has_0 : decode b_Me_has 0 = .ok (.iload_n 1, 1) := by decide +kernel
theorem d_Me_has_1 : decode b_Me_has 1 = .ok (.ifCond .lt 15, 3) := by decide +kernel
theorem d_Me_has_4 : decode b_Me_has 4 = .ok (.iload_n 1, 1) := by decide +kernel
theorem d_Me_has_5 : decode b_Me_has 5 = .ok (.aload_n 0, 1) := by decide +kernel
theorem d_Me_has_6 : decode b_Me_has 6 = .ok (.getfield 7, 3) := by decide +kernel
theorem d_Me_has_9 : decode b_Me_has 9 = .ok (.if_icmp .ge 7, 3) := by decide +kernel
theorem d_Me_has_12 : decode b_Me_has 12 = .ok (.iconst 1, 1) := by decide +kernel
theorem d_Me_has_13 : decode b_Me_has 13 = .ok (.goto 4, 3) := by decide +kernel
theorem d_Me_has_16 : decode b_Me_has 16 = .ok (.iconst 0, 1) := by decide +kernel
theorem d_Me_has_17 : decode b_Me_has 17 = .ok (.ireturn, 1) := by decide +kernel
theorem d_Me_init_0 : decode b_Me_init 0 = .ok (.aload_n 0, 1) := by decide +kernel
theorem d_Me_init_1 : decode b_Me_init 1 = .ok (.invokespecial 1, 3) := by decide +kernel
theorem d_Me_init_4 : decode b_Me_init 4 = .ok (.aload_n 0, 1) := by decide +kernel
theorem d_Me_init_5 : decode b_Me_init 5 = .ok (.iconst 0, 1) := by decide +kernel
theorem d_Me_init_6 : decode b_Me_init 6 = .ok (.putfield 7, 3) := by decide +kernel
theorem d_Me_init_9 : decode b_Me_init 9 = .ok (.aload_n 0, 1) := by decide +kernel
theorem d_Me_init_10 : decode b_Me_init 10 = .ok (.iload_n 1, 1) := by decide +kernel
theorem d_Me_init_11 : decode b_Me_init 11 = .ok (.newarray .int, 2) := by decide +kernel
theorem d_Me_init_13 : decode b_Me_init 13 = .ok (.putfield 13, 3) := by decide +kernel
theorem d_Me_init_16 : decode b_Me_init 16 = .ok (.return_, 1) := by decide +kernel
theorem d_Me_isFull_0 : decode b_Me_isFull 0 = .ok (.aload_n 0, 1) := by decide +kernel
theorem d_Me_isFull_1 : decode b_Me_isFull 1 = .ok (.getfield 7, 3) := by decide +kernel
theorem d_Me_isFull_4 : decode b_Me_isFull 4 = .ok (.aload_n 0, 1) := by decide +kernel
theorem d_Me_isFull_5 : decode b_Me_isFull 5 = .ok (.getfield 13, 3) := by decide +kernel
theorem d_Me_isFull_8 : decode b_Me_isFull 8 = .ok (.arraylength, 1) := by decide +kernel
theorem d_Me_isFull_9 : decode b_Me_isFull 9 = .ok (.if_icmp .lt 7, 3) := by decide +kernel
theorem d_Me_isFull_12 : decode b_Me_isFull 12 = .ok (.iconst 1, 1) := by decide +kernel
theorem d_Me_isFull_13 : decode b_Me_isFull 13 = .ok (.goto 4, 3) := by decide +kernel
theorem d_Me_isFull_16 : decode b_Me_isFull 16 = .ok (.iconst 0, 1) := by decide +kernel
theorem d_Me_isFull_17 : decode b_Me_isFull 17 = .ok (.ireturn, 1) := by decide +kernel
theorem d_Me_take_0 : decode b_Me_take 0 = .ok (.aload_n 0, 1) := by decide +kernel
theorem d_Me_take_1 : decode b_Me_take 1 = .ok (.getfield 13, 3) := by decide +kernel
theorem d_Me_take_4 : decode b_Me_take 4 = .ok (.iload_n 1, 1) := by decide +kernel
theorem d_Me_take_5 : decode b_Me_take 5 = .ok (.iaload, 1) := by decide +kernel
theorem d_Me_take_6 : decode b_Me_take 6 = .ok (.istore_n 2, 1) := by decide +kernel
theorem d_Me_take_7 : decode b_Me_take 7 = .ok (.aload_n 0, 1) := by decide +kernel
theorem d_Me_take_8 : decode b_Me_take 8 = .ok (.dup, 1) := by decide +kernel
theorem d_Me_take_9 : decode b_Me_take 9 = .ok (.getfield 7, 3) := by decide +kernel
theorem d_Me_take_12 : decode b_Me_take 12 = .ok (.iconst 1, 1) := by decide +kernel
theorem d_Me_take_13 : decode b_Me_take 13 = .ok (.isub, 1) := by decide +kernel
theorem d_Me_take_14 : decode b_Me_take 14 = .ok (.putfield 7, 3) := by decide +kernel
theorem d_Me_take_17 : decode b_Me_take 17 = .ok (.iload_n 1, 1) := by decide +kernel
theorem d_Me_take_18 : decode b_Me_take 18 = .ok (.istore_n 3, 1) := by decide +kernel
theorem d_Me_take_19 : decode b_Me_take 19 = .ok (.iload_n 3, 1) := by decide +kernel
theorem d_Me_take_20 : decode b_Me_take 20 = .ok (.aload_n 0, 1) := by decide +kernel
theorem d_Me_take_21 : decode b_Me_take 21 = .ok (.getfield 7, 3) := by decide +kernel
theorem d_Me_take_24 : decode b_Me_take 24 = .ok (.if_icmp .ge 23, 3) := by decide +kernel
theorem d_Me_take_27 : decode b_Me_take 27 = .ok (.aload_n 0, 1) := by decide +kernel
theorem d_Me_take_28 : decode b_Me_take 28 = .ok (.getfield 13, 3) := by decide +kernel
theorem d_Me_take_31 : decode b_Me_take 31 = .ok (.iload_n 3, 1) := by decide +kernel
theorem d_Me_take_32 : decode b_Me_take 32 = .ok (.aload_n 0, 1) := by decide +kernel
theorem d_Me_take_33 : decode b_Me_take 33 = .ok (.getfield 13, 3) := by decide +kernel
theorem d_Me_take_36 : decode b_Me_take 36 = .ok (.iload_n 3, 1) := by decide +kernel
theorem d_Me_take_37 : decode b_Me_take 37 = .ok (.iconst 1, 1) := by decide +kernel
theorem d_Me_take_38 : decode b_Me_take 38 = .ok (.iadd, 1) := by decide +kernel
theorem d_Me_take_39 : decode b_Me_take 39 = .ok (.iaload, 1) := by decide +kernel
theorem d_Me_take_40 : decode b_Me_take 40 = .ok (.iastore, 1) := by decide +kernel
theorem d_Me_take_41 : decode b_Me_take 41 = .ok (.iinc 3 1, 3) := by decide +kernel
theorem d_Me_take_44 : decode b_Me_take 44 = .ok (.goto (-25), 3) := by decide +kernel
theorem d_Me_take_47 : decode b_Me_take 47 = .ok (.iload_n 2, 1) := by decide +kernel
theorem d_Me_take_48 : decode b_Me_take 48 = .ok (.ireturn, 1) := by decide +kernel
theorem d_Re_init_0 : decode b_Re_init 0 = .ok (.aload_n 0, 1) := by decide +kernel
theorem d_Re_init_1 : decode b_Re_init 1 = .ok (.invokespecial 3, 3) := by decide +kernel
theorem d_Re_init_4 : decode b_Re_init 4 = .ok (.aload_n 0, 1) := by decide +kernel
theorem d_Re_init_5 : decode b_Re_init 5 = .ok (.bipush 30, 2) := by decide +kernel
theorem d_Re_init_7 : decode b_Re_init 7 = .ok (.newarray .int, 2) := by decide +kernel
theorem d_Re_init_9 : decode b_Re_init 9 = .ok (.putfield 9, 3) := by decide +kernel
theorem d_Re_init_12 : decode b_Re_init 12 = .ok (.aload_n 0, 1) := by decide +kernel
theorem d_Re_init_13 : decode b_Re_init 13 = .ok (.new 15, 3) := by decide +kernel
theorem d_Re_init_16 : decode b_Re_init 16 = .ok (.dup, 1) := by decide +kernel
theorem d_Re_init_17 : decode b_Re_init 17 = .ok (.bipush 50, 2) := by decide +kernel
theorem d_Re_init_19 : decode b_Re_init 19 = .ok (.invokespecial 17, 3) := by decide +kernel
theorem d_Re_init_22 : decode b_Re_init 22 = .ok (.putfield 20, 3) := by decide +kernel
theorem d_Re_init_25 : decode b_Re_init 25 = .ok (.aload_n 0, 1) := by decide +kernel
theorem d_Re_init_26 : decode b_Re_init 26 = .ok (.new 15, 3) := by decide +kernel
theorem d_Re_init_29 : decode b_Re_init 29 = .ok (.dup, 1) := by decide +kernel
theorem d_Re_init_30 : decode b_Re_init 30 = .ok (.bipush 90, 2) := by decide +kernel
theorem d_Re_init_32 : decode b_Re_init 32 = .ok (.invokespecial 17, 3) := by decide +kernel
theorem d_Re_init_35 : decode b_Re_init 35 = .ok (.putfield 24, 3) := by decide +kernel
theorem d_Re_init_38 : decode b_Re_init 38 = .ok (.return_, 1) := by decide +kernel
theorem d_Re_isSettled_0 : decode b_Re_isSettled 0 = .ok (.iload_n 1, 1) := by decide +kernel
theorem d_Re_isSettled_1 : decode b_Re_isSettled 1 = .ok (.iconst (-1), 1) := by decide +kernel
theorem d_Re_isSettled_2 : decode b_Re_isSettled 2 = .ok (.if_icmp .eq 12, 3) := by decide +kernel
theorem d_Re_isSettled_5 : decode b_Re_isSettled 5 = .ok (.aload_n 0, 1) := by decide +kernel
theorem d_Re_isSettled_6 : decode b_Re_isSettled 6 = .ok (.getfield 9, 3) := by decide +kernel
theorem d_Re_isSettled_9 : decode b_Re_isSettled 9 = .ok (.iload_n 1, 1) := by decide +kernel
theorem d_Re_isSettled_10 : decode b_Re_isSettled 10 = .ok (.iaload, 1) := by decide +kernel
theorem d_Re_isSettled_11 : decode b_Re_isSettled 11 = .ok (.ifCond .eq 7, 3) := by decide +kernel
theorem d_Re_isSettled_14 : decode b_Re_isSettled 14 = .ok (.iconst 1, 1) := by decide +kernel
theorem d_Re_isSettled_15 : decode b_Re_isSettled 15 = .ok (.goto 4, 3) := by decide +kernel
theorem d_Re_isSettled_18 : decode b_Re_isSettled 18 = .ok (.iconst 0, 1) := by decide +kernel
theorem d_Re_isSettled_19 : decode b_Re_isSettled 19 = .ok (.ireturn, 1) := by decide +kernel
theorem d_Tr_add_0 : decode b_Tr_add 0 = .ok (.aload_n 0, 1) := by decide +kernel
theorem d_Tr_add_1 : decode b_Tr_add 1 = .ok (.getfield 30, 3) := by decide +kernel
theorem d_Tr_add_4 : decode b_Tr_add 4 = .ok (.istore 6, 2) := by decide +kernel
theorem d_Tr_add_6 : decode b_Tr_add 6 = .ok (.aload_n 0, 1) := by decide +kernel
theorem d_Tr_add_7 : decode b_Tr_add 7 = .ok (.getfield 9, 3) := by decide +kernel
theorem d_Tr_add_10 : decode b_Tr_add 10 = .ok (.iload 6, 2) := by decide +kernel
theorem d_Tr_add_12 : decode b_Tr_add 12 = .ok (.iload_n 1, 1) := by decide +kernel
theorem d_Tr_add_13 : decode b_Tr_add 13 = .ok (.iastore, 1) := by decide +kernel
theorem d_Tr_add_14 : decode b_Tr_add 14 = .ok (.aload_n 0, 1) := by decide +kernel
theorem d_Tr_add_15 : decode b_Tr_add 15 = .ok (.getfield 15, 3) := by decide +kernel
theorem d_Tr_add_18 : decode b_Tr_add 18 = .ok (.iload 6, 2) := by decide +kernel
theorem d_Tr_add_20 : decode b_Tr_add 20 = .ok (.iload_n 2, 1) := by decide +kernel
theorem d_Tr_add_21 : decode b_Tr_add 21 = .ok (.iastore, 1) := by decide +kernel
theorem d_Tr_add_22 : decode b_Tr_add 22 = .ok (.aload_n 0, 1) := by decide +kernel
theorem d_Tr_add_23 : decode b_Tr_add 23 = .ok (.getfield 18, 3) := by decide +kernel
theorem d_Tr_add_26 : decode b_Tr_add 26 = .ok (.iload 6, 2) := by decide +kernel
theorem d_Tr_add_28 : decode b_Tr_add 28 = .ok (.iload_n 3, 1) := by decide +kernel
theorem d_Tr_add_29 : decode b_Tr_add 29 = .ok (.iastore, 1) := by decide +kernel
theorem d_Tr_add_30 : decode b_Tr_add 30 = .ok (.aload_n 0, 1) := by decide +kernel
theorem d_Tr_add_31 : decode b_Tr_add 31 = .ok (.getfield 21, 3) := by decide +kernel
theorem d_Tr_add_34 : decode b_Tr_add 34 = .ok (.iload 6, 2) := by decide +kernel
theorem d_Tr_add_36 : decode b_Tr_add 36 = .ok (.iload 4, 2) := by decide +kernel
theorem d_Tr_add_38 : decode b_Tr_add 38 = .ok (.iastore, 1) := by decide +kernel
theorem d_Tr_add_39 : decode b_Tr_add 39 = .ok (.aload_n 0, 1) := by decide +kernel
theorem d_Tr_add_40 : decode b_Tr_add 40 = .ok (.getfield 24, 3) := by decide +kernel
theorem d_Tr_add_43 : decode b_Tr_add 43 = .ok (.iload 6, 2) := by decide +kernel
theorem d_Tr_add_45 : decode b_Tr_add 45 = .ok (.iload 5, 2) := by decide +kernel
theorem d_Tr_add_47 : decode b_Tr_add 47 = .ok (.iastore, 1) := by decide +kernel
theorem d_Tr_add_48 : decode b_Tr_add 48 = .ok (.iload 4, 2) := by decide +kernel
theorem d_Tr_add_50 : decode b_Tr_add 50 = .ok (.ifCond .ne 12, 3) := by decide +kernel
theorem d_Tr_add_53 : decode b_Tr_add 53 = .ok (.aload_n 0, 1) := by decide +kernel
theorem d_Tr_add_54 : decode b_Tr_add 54 = .ok (.iload 6, 2) := by decide +kernel
theorem d_Tr_add_56 : decode b_Tr_add 56 = .ok (.invokevirtual 34, 3) := by decide +kernel
theorem d_Tr_add_59 : decode b_Tr_add 59 = .ok (.goto 9, 3) := by decide +kernel
theorem d_Tr_add_62 : decode b_Tr_add 62 = .ok (.aload_n 0, 1) := by decide +kernel
theorem d_Tr_add_63 : decode b_Tr_add 63 = .ok (.iload 6, 2) := by decide +kernel
theorem d_Tr_add_65 : decode b_Tr_add 65 = .ok (.invokevirtual 38, 3) := by decide +kernel
theorem d_Tr_add_68 : decode b_Tr_add 68 = .ok (.istore 7, 2) := by decide +kernel
theorem d_Tr_add_70 : decode b_Tr_add 70 = .ok (.aload_n 0, 1) := by decide +kernel
theorem d_Tr_add_71 : decode b_Tr_add 71 = .ok (.getfield 30, 3) := by decide +kernel
theorem d_Tr_add_74 : decode b_Tr_add 74 = .ok (.istore 8, 2) := by decide +kernel
theorem d_Tr_add_76 : decode b_Tr_add 76 = .ok (.iload 8, 2) := by decide +kernel
theorem d_Tr_add_78 : decode b_Tr_add 78 = .ok (.iload 7, 2) := by decide +kernel
theorem d_Tr_add_80 : decode b_Tr_add 80 = .ok (.if_icmp .le 25, 3) := by decide +kernel
theorem d_Tr_add_83 : decode b_Tr_add 83 = .ok (.aload_n 0, 1) := by decide +kernel
theorem d_Tr_add_84 : decode b_Tr_add 84 = .ok (.getfield 27, 3) := by decide +kernel
theorem d_Tr_add_87 : decode b_Tr_add 87 = .ok (.iload 8, 2) := by decide +kernel
theorem d_Tr_add_89 : decode b_Tr_add 89 = .ok (.aload_n 0, 1) := by decide +kernel
theorem d_Tr_add_90 : decode b_Tr_add 90 = .ok (.getfield 27, 3) := by decide +kernel
theorem d_Tr_add_93 : decode b_Tr_add 93 = .ok (.iload 8, 2) := by decide +kernel
theorem d_Tr_add_95 : decode b_Tr_add 95 = .ok (.iconst 1, 1) := by decide +kernel
theorem d_Tr_add_96 : decode b_Tr_add 96 = .ok (.isub, 1) := by decide +kernel
theorem d_Tr_add_97 : decode b_Tr_add 97 = .ok (.iaload, 1) := by decide +kernel
theorem d_Tr_add_98 : decode b_Tr_add 98 = .ok (.iastore, 1) := by decide +kernel
theorem d_Tr_add_99 : decode b_Tr_add 99 = .ok (.iinc 8 (-1), 3) := by decide +kernel
theorem d_Tr_add_102 : decode b_Tr_add 102 = .ok (.goto (-26), 3) := by decide +kernel
theorem d_Tr_add_105 : decode b_Tr_add 105 = .ok (.aload_n 0, 1) := by decide +kernel
theorem d_Tr_add_106 : decode b_Tr_add 106 = .ok (.getfield 27, 3) := by decide +kernel
theorem d_Tr_add_109 : decode b_Tr_add 109 = .ok (.iload 7, 2) := by decide +kernel
theorem d_Tr_add_111 : decode b_Tr_add 111 = .ok (.iload 6, 2) := by decide +kernel
theorem d_Tr_add_113 : decode b_Tr_add 113 = .ok (.iastore, 1) := by decide +kernel
theorem d_Tr_add_114 : decode b_Tr_add 114 = .ok (.aload_n 0, 1) := by decide +kernel
theorem d_Tr_add_115 : decode b_Tr_add 115 = .ok (.dup, 1) := by decide +kernel
theorem d_Tr_add_116 : decode b_Tr_add 116 = .ok (.getfield 30, 3) := by decide +kernel
theorem d_Tr_add_119 : decode b_Tr_add 119 = .ok (.iconst 1, 1) := by decide +kernel
theorem d_Tr_add_120 : decode b_Tr_add 120 = .ok (.iadd, 1) := by decide +kernel
theorem d_Tr_add_121 : decode b_Tr_add 121 = .ok (.putfield 30, 3) := by decide +kernel
theorem d_Tr_add_124 : decode b_Tr_add 124 = .ok (.iload 6, 2) := by decide +kernel
theorem d_Tr_add_126 : decode b_Tr_add 126 = .ok (.ireturn, 1) := by decide +kernel
theorem d_Tr_branchOf_0 : decode b_Tr_branchOf 0 = .ok (.iload_n 1, 1) := by decide +kernel
theorem d_Tr_branchOf_1 : decode b_Tr_branchOf 1 = .ok (.istore_n 3, 1) := by decide +kernel
theorem d_Tr_branchOf_2 : decode b_Tr_branchOf 2 = .ok (.iconst 0, 1) := by decide +kernel
theorem d_Tr_branchOf_3 : decode b_Tr_branchOf 3 = .ok (.istore 4, 2) := by decide +kernel
theorem d_Tr_branchOf_5 : decode b_Tr_branchOf 5 = .ok (.iload 4, 2) := by decide +kernel
theorem d_Tr_branchOf_7 : decode b_Tr_branchOf 7 = .ok (.aload_n 0, 1) := by decide +kernel
theorem d_Tr_branchOf_8 : decode b_Tr_branchOf 8 = .ok (.getfield 30, 3) := by decide +kernel
theorem d_Tr_branchOf_11 : decode b_Tr_branchOf 11 = .ok (.if_icmp .ge 33, 3) := by decide +kernel
theorem d_Tr_branchOf_14 : decode b_Tr_branchOf 14 = .ok (.iload_n 3, 1) := by decide +kernel
theorem d_Tr_branchOf_15 : decode b_Tr_branchOf 15 = .ok (.iconst (-1), 1) := by decide +kernel
theorem d_Tr_branchOf_16 : decode b_Tr_branchOf 16 = .ok (.if_icmp .eq 28, 3) := by decide +kernel
theorem d_Tr_branchOf_19 : decode b_Tr_branchOf 19 = .ok (.aload_n 0, 1) := by decide +kernel
theorem d_Tr_branchOf_20 : decode b_Tr_branchOf 20 = .ok (.getfield 18, 3) := by decide +kernel
theorem d_Tr_branchOf_23 : decode b_Tr_branchOf 23 = .ok (.iload_n 3, 1) := by decide +kernel
theorem d_Tr_branchOf_24 : decode b_Tr_branchOf 24 = .ok (.iaload, 1) := by decide +kernel
theorem d_Tr_branchOf_25 : decode b_Tr_branchOf 25 = .ok (.iload_n 2, 1) := by decide +kernel
theorem d_Tr_branchOf_26 : decode b_Tr_branchOf 26 = .ok (.if_icmp .ne 5, 3) := by decide +kernel
theorem d_Tr_branchOf_29 : decode b_Tr_branchOf 29 = .ok (.iload_n 3, 1) := by decide +kernel
theorem d_Tr_branchOf_30 : decode b_Tr_branchOf 30 = .ok (.ireturn, 1) := by decide +kernel
theorem d_Tr_branchOf_31 : decode b_Tr_branchOf 31 = .ok (.aload_n 0, 1) := by decide +kernel
theorem d_Tr_branchOf_32 : decode b_Tr_branchOf 32 = .ok (.getfield 18, 3) := by decide +kernel
theorem d_Tr_branchOf_35 : decode b_Tr_branchOf 35 = .ok (.iload_n 3, 1) := by decide +kernel
theorem d_Tr_branchOf_36 : decode b_Tr_branchOf 36 = .ok (.iaload, 1) := by decide +kernel
theorem d_Tr_branchOf_37 : decode b_Tr_branchOf 37 = .ok (.istore_n 3, 1) := by decide +kernel
theorem d_Tr_branchOf_38 : decode b_Tr_branchOf 38 = .ok (.iinc 4 1, 3) := by decide +kernel
theorem d_Tr_branchOf_41 : decode b_Tr_branchOf 41 = .ok (.goto (-36), 3) := by decide +kernel
theorem d_Tr_branchOf_44 : decode b_Tr_branchOf 44 = .ok (.bipush (-3), 2) := by decide +kernel
theorem d_Tr_branchOf_46 : decode b_Tr_branchOf 46 = .ok (.ireturn, 1) := by decide +kernel
theorem d_Tr_countAbove_0 : decode b_Tr_countAbove 0 = .ok (.iconst 0, 1) := by decide +kernel
theorem d_Tr_countAbove_1 : decode b_Tr_countAbove 1 = .ok (.istore_n 2, 1) := by decide +kernel
theorem d_Tr_countAbove_2 : decode b_Tr_countAbove 2 = .ok (.aload_n 0, 1) := by decide +kernel
theorem d_Tr_countAbove_3 : decode b_Tr_countAbove 3 = .ok (.getfield 18, 3) := by decide +kernel
theorem d_Tr_countAbove_6 : decode b_Tr_countAbove 6 = .ok (.iload_n 1, 1) := by decide +kernel
theorem d_Tr_countAbove_7 : decode b_Tr_countAbove 7 = .ok (.iaload, 1) := by decide +kernel
theorem d_Tr_countAbove_8 : decode b_Tr_countAbove 8 = .ok (.istore_n 3, 1) := by decide +kernel
theorem d_Tr_countAbove_9 : decode b_Tr_countAbove 9 = .ok (.iload_n 3, 1) := by decide +kernel
theorem d_Tr_countAbove_10 : decode b_Tr_countAbove 10 = .ok (.iconst (-1), 1) := by decide +kernel
theorem d_Tr_countAbove_11 : decode b_Tr_countAbove 11 = .ok (.if_icmp .eq 24, 3) := by decide +kernel
theorem d_Tr_countAbove_14 : decode b_Tr_countAbove 14 = .ok (.iload_n 2, 1) := by decide +kernel
theorem d_Tr_countAbove_15 : decode b_Tr_countAbove 15 = .ok (.aload_n 0, 1) := by decide +kernel
theorem d_Tr_countAbove_16 : decode b_Tr_countAbove 16 = .ok (.getfield 30, 3) := by decide +kernel
theorem d_Tr_countAbove_19 : decode b_Tr_countAbove 19 = .ok (.if_icmp .ge 16, 3) := by decide +kernel
theorem d_Tr_countAbove_22 : decode b_Tr_countAbove 22 = .ok (.iinc 2 1, 3) := by decide +kernel
theorem d_Tr_countAbove_25 : decode b_Tr_countAbove 25 = .ok (.aload_n 0, 1) := by decide +kernel
theorem d_Tr_countAbove_26 : decode b_Tr_countAbove 26 = .ok (.getfield 18, 3) := by decide +kernel
theorem d_Tr_countAbove_29 : decode b_Tr_countAbove 29 = .ok (.iload_n 3, 1) := by decide +kernel
theorem d_Tr_countAbove_30 : decode b_Tr_countAbove 30 = .ok (.iaload, 1) := by decide +kernel
theorem d_Tr_countAbove_31 : decode b_Tr_countAbove 31 = .ok (.istore_n 3, 1) := by decide +kernel
theorem d_Tr_countAbove_32 : decode b_Tr_countAbove 32 = .ok (.goto (-23), 3) := by decide +kernel
theorem d_Tr_countAbove_35 : decode b_Tr_countAbove 35 = .ok (.iload_n 2, 1) := by decide +kernel
theorem d_Tr_countAbove_36 : decode b_Tr_countAbove 36 = .ok (.ireturn, 1) := by decide +kernel
theorem d_Tr_has_0 : decode b_Tr_has 0 = .ok (.iload_n 1, 1) := by decide +kernel
theorem d_Tr_has_1 : decode b_Tr_has 1 = .ok (.ifCond .lt 15, 3) := by decide +kernel
theorem d_Tr_has_4 : decode b_Tr_has 4 = .ok (.iload_n 1, 1) := by decide +kernel
theorem d_Tr_has_5 : decode b_Tr_has 5 = .ok (.aload_n 0, 1) := by decide +kernel
theorem d_Tr_has_6 : decode b_Tr_has 6 = .ok (.getfield 30, 3) := by decide +kernel
theorem d_Tr_has_9 : decode b_Tr_has 9 = .ok (.if_icmp .ge 7, 3) := by decide +kernel
theorem d_Tr_has_12 : decode b_Tr_has 12 = .ok (.iconst 1, 1) := by decide +kernel
theorem d_Tr_has_13 : decode b_Tr_has 13 = .ok (.goto 4, 3) := by decide +kernel
theorem d_Tr_has_16 : decode b_Tr_has 16 = .ok (.iconst 0, 1) := by decide +kernel
theorem d_Tr_has_17 : decode b_Tr_has 17 = .ok (.ireturn, 1) := by decide +kernel
theorem d_Tr_init_0 : decode b_Tr_init 0 = .ok (.aload_n 0, 1) := by decide +kernel
theorem d_Tr_init_1 : decode b_Tr_init 1 = .ok (.invokespecial 3, 3) := by decide +kernel
theorem d_Tr_init_4 : decode b_Tr_init 4 = .ok (.aload_n 0, 1) := by decide +kernel
theorem d_Tr_init_5 : decode b_Tr_init 5 = .ok (.bipush 30, 2) := by decide +kernel
theorem d_Tr_init_7 : decode b_Tr_init 7 = .ok (.newarray .int, 2) := by decide +kernel
theorem d_Tr_init_9 : decode b_Tr_init 9 = .ok (.putfield 9, 3) := by decide +kernel
theorem d_Tr_init_12 : decode b_Tr_init 12 = .ok (.aload_n 0, 1) := by decide +kernel
theorem d_Tr_init_13 : decode b_Tr_init 13 = .ok (.bipush 30, 2) := by decide +kernel
theorem d_Tr_init_15 : decode b_Tr_init 15 = .ok (.newarray .int, 2) := by decide +kernel
theorem d_Tr_init_17 : decode b_Tr_init 17 = .ok (.putfield 15, 3) := by decide +kernel
theorem d_Tr_init_20 : decode b_Tr_init 20 = .ok (.aload_n 0, 1) := by decide +kernel
theorem d_Tr_init_21 : decode b_Tr_init 21 = .ok (.bipush 30, 2) := by decide +kernel
theorem d_Tr_init_23 : decode b_Tr_init 23 = .ok (.newarray .int, 2) := by decide +kernel
theorem d_Tr_init_25 : decode b_Tr_init 25 = .ok (.putfield 18, 3) := by decide +kernel
theorem d_Tr_init_28 : decode b_Tr_init 28 = .ok (.aload_n 0, 1) := by decide +kernel
theorem d_Tr_init_29 : decode b_Tr_init 29 = .ok (.bipush 30, 2) := by decide +kernel
theorem d_Tr_init_31 : decode b_Tr_init 31 = .ok (.newarray .int, 2) := by decide +kernel
theorem d_Tr_init_33 : decode b_Tr_init 33 = .ok (.putfield 21, 3) := by decide +kernel
theorem d_Tr_init_36 : decode b_Tr_init 36 = .ok (.aload_n 0, 1) := by decide +kernel
theorem d_Tr_init_37 : decode b_Tr_init 37 = .ok (.bipush 30, 2) := by decide +kernel
theorem d_Tr_init_39 : decode b_Tr_init 39 = .ok (.newarray .int, 2) := by decide +kernel
theorem d_Tr_init_41 : decode b_Tr_init 41 = .ok (.putfield 24, 3) := by decide +kernel
theorem d_Tr_init_44 : decode b_Tr_init 44 = .ok (.aload_n 0, 1) := by decide +kernel
theorem d_Tr_init_45 : decode b_Tr_init 45 = .ok (.bipush 30, 2) := by decide +kernel
theorem d_Tr_init_47 : decode b_Tr_init 47 = .ok (.newarray .int, 2) := by decide +kernel
theorem d_Tr_init_49 : decode b_Tr_init 49 = .ok (.putfield 27, 3) := by decide +kernel
theorem d_Tr_init_52 : decode b_Tr_init 52 = .ok (.aload_n 0, 1) := by decide +kernel
theorem d_Tr_init_53 : decode b_Tr_init 53 = .ok (.iconst 0, 1) := by decide +kernel
theorem d_Tr_init_54 : decode b_Tr_init 54 = .ok (.putfield 30, 3) := by decide +kernel
theorem d_Tr_init_57 : decode b_Tr_init 57 = .ok (.return_, 1) := by decide +kernel
theorem d_Tr_isBeforeBranchOf_0 : decode b_Tr_isBeforeBranchOf 0 = .ok (.aload_n 0, 1) := by decide +kernel
theorem d_Tr_isBeforeBranchOf_1 : decode b_Tr_isBeforeBranchOf 1 = .ok (.iload_n 2, 1) := by decide +kernel
theorem d_Tr_isBeforeBranchOf_2 : decode b_Tr_isBeforeBranchOf 2 = .ok (.aload_n 0, 1) := by decide +kernel
theorem d_Tr_isBeforeBranchOf_3 : decode b_Tr_isBeforeBranchOf 3 = .ok (.getfield 18, 3) := by decide +kernel
theorem d_Tr_isBeforeBranchOf_6 : decode b_Tr_isBeforeBranchOf 6 = .ok (.iload_n 1, 1) := by decide +kernel
theorem d_Tr_isBeforeBranchOf_7 : decode b_Tr_isBeforeBranchOf 7 = .ok (.iaload, 1) := by decide +kernel
theorem d_Tr_isBeforeBranchOf_8 : decode b_Tr_isBeforeBranchOf 8 = .ok (.invokevirtual 54, 3) := by decide +kernel
theorem d_Tr_isBeforeBranchOf_11 : decode b_Tr_isBeforeBranchOf 11 = .ok (.istore_n 3, 1) := by decide +kernel
theorem d_Tr_isBeforeBranchOf_12 : decode b_Tr_isBeforeBranchOf 12 = .ok (.iload_n 3, 1) := by decide +kernel
theorem d_Tr_isBeforeBranchOf_13 : decode b_Tr_isBeforeBranchOf 13 = .ok (.bipush (-3), 2) := by decide +kernel
theorem d_Tr_isBeforeBranchOf_15 : decode b_Tr_isBeforeBranchOf 15 = .ok (.if_icmp .eq 16, 3) := by decide +kernel
theorem d_Tr_isBeforeBranchOf_18 : decode b_Tr_isBeforeBranchOf 18 = .ok (.aload_n 0, 1) := by decide +kernel
theorem d_Tr_isBeforeBranchOf_19 : decode b_Tr_isBeforeBranchOf 19 = .ok (.iload_n 1, 1) := by decide +kernel
theorem d_Tr_isBeforeBranchOf_20 : decode b_Tr_isBeforeBranchOf 20 = .ok (.iload_n 3, 1) := by decide +kernel
theorem d_Tr_isBeforeBranchOf_21 : decode b_Tr_isBeforeBranchOf 21 = .ok (.invokevirtual 58, 3) := by decide +kernel
theorem d_Tr_isBeforeBranchOf_24 : decode b_Tr_isBeforeBranchOf 24 = .ok (.ifCond .eq 7, 3) := by decide +kernel
theorem d_Tr_isBeforeBranchOf_27 : decode b_Tr_isBeforeBranchOf 27 = .ok (.iconst 1, 1) := by decide +kernel
theorem d_Tr_isBeforeBranchOf_28 : decode b_Tr_isBeforeBranchOf 28 = .ok (.goto 4, 3) := by decide +kernel
theorem d_Tr_isBeforeBranchOf_31 : decode b_Tr_isBeforeBranchOf 31 = .ok (.iconst 0, 1) := by decide +kernel
theorem d_Tr_isBeforeBranchOf_32 : decode b_Tr_isBeforeBranchOf 32 = .ok (.ireturn, 1) := by decide +kernel
theorem d_Tr_isBehindBranchOf_0 : decode b_Tr_isBehindBranchOf 0 = .ok (.aload_n 0, 1) := by decide +kernel
theorem d_Tr_isBehindBranchOf_1 : decode b_Tr_isBehindBranchOf 1 = .ok (.iload_n 2, 1) := by decide +kernel
theorem d_Tr_isBehindBranchOf_2 : decode b_Tr_isBehindBranchOf 2 = .ok (.aload_n 0, 1) := by decide +kernel
theorem d_Tr_isBehindBranchOf_3 : decode b_Tr_isBehindBranchOf 3 = .ok (.getfield 18, 3) := by decide +kernel
theorem d_Tr_isBehindBranchOf_6 : decode b_Tr_isBehindBranchOf 6 = .ok (.iload_n 1, 1) := by decide +kernel
theorem d_Tr_isBehindBranchOf_7 : decode b_Tr_isBehindBranchOf 7 = .ok (.iaload, 1) := by decide +kernel
theorem d_Tr_isBehindBranchOf_8 : decode b_Tr_isBehindBranchOf 8 = .ok (.invokevirtual 54, 3) := by decide +kernel
theorem d_Tr_isBehindBranchOf_11 : decode b_Tr_isBehindBranchOf 11 = .ok (.istore_n 3, 1) := by decide +kernel
theorem d_Tr_isBehindBranchOf_12 : decode b_Tr_isBehindBranchOf 12 = .ok (.iload_n 3, 1) := by decide +kernel
theorem d_Tr_isBehindBranchOf_13 : decode b_Tr_isBehindBranchOf 13 = .ok (.bipush (-3), 2) := by decide +kernel
theorem d_Tr_isBehindBranchOf_15 : decode b_Tr_isBehindBranchOf 15 = .ok (.if_icmp .eq 16, 3) := by decide +kernel
theorem d_Tr_isBehindBranchOf_18 : decode b_Tr_isBehindBranchOf 18 = .ok (.aload_n 0, 1) := by decide +kernel
theorem d_Tr_isBehindBranchOf_19 : decode b_Tr_isBehindBranchOf 19 = .ok (.iload_n 3, 1) := by decide +kernel
theorem d_Tr_isBehindBranchOf_20 : decode b_Tr_isBehindBranchOf 20 = .ok (.iload_n 1, 1) := by decide +kernel
theorem d_Tr_isBehindBranchOf_21 : decode b_Tr_isBehindBranchOf 21 = .ok (.invokevirtual 58, 3) := by decide +kernel
theorem d_Tr_isBehindBranchOf_24 : decode b_Tr_isBehindBranchOf 24 = .ok (.ifCond .eq 7, 3) := by decide +kernel
theorem d_Tr_isBehindBranchOf_27 : decode b_Tr_isBehindBranchOf 27 = .ok (.iconst 1, 1) := by decide +kernel
theorem d_Tr_isBehindBranchOf_28 : decode b_Tr_isBehindBranchOf 28 = .ok (.goto 4, 3) := by decide +kernel
theorem d_Tr_isBehindBranchOf_31 : decode b_Tr_isBehindBranchOf 31 = .ok (.iconst 0, 1) := by decide +kernel
theorem d_Tr_isBehindBranchOf_32 : decode b_Tr_isBehindBranchOf 32 = .ok (.ireturn, 1) := by decide +kernel
theorem d_Tr_isFull_0 : decode b_Tr_isFull 0 = .ok (.aload_n 0, 1) := by decide +kernel
theorem d_Tr_isFull_1 : decode b_Tr_isFull 1 = .ok (.getfield 30, 3) := by decide +kernel
theorem d_Tr_isFull_4 : decode b_Tr_isFull 4 = .ok (.bipush 30, 2) := by decide +kernel
theorem d_Tr_isFull_6 : decode b_Tr_isFull 6 = .ok (.if_icmp .lt 7, 3) := by decide +kernel
theorem d_Tr_isFull_9 : decode b_Tr_isFull 9 = .ok (.iconst 1, 1) := by decide +kernel
theorem d_Tr_isFull_10 : decode b_Tr_isFull 10 = .ok (.goto 4, 3) := by decide +kernel
theorem d_Tr_isFull_13 : decode b_Tr_isFull 13 = .ok (.iconst 0, 1) := by decide +kernel
theorem d_Tr_isFull_14 : decode b_Tr_isFull 14 = .ok (.ireturn, 1) := by decide +kernel
theorem d_Tr_isSiblingBefore_0 : decode b_Tr_isSiblingBefore 0 = .ok (.aload_n 0, 1) := by decide +kernel
theorem d_Tr_isSiblingBefore_1 : decode b_Tr_isSiblingBefore 1 = .ok (.getfield 21, 3) := by decide +kernel
theorem d_Tr_isSiblingBefore_4 : decode b_Tr_isSiblingBefore 4 = .ok (.iload_n 1, 1) := by decide +kernel
theorem d_Tr_isSiblingBefore_5 : decode b_Tr_isSiblingBefore 5 = .ok (.iaload, 1) := by decide +kernel
theorem d_Tr_isSiblingBefore_6 : decode b_Tr_isSiblingBefore 6 = .ok (.iconst 1, 1) := by decide +kernel
theorem d_Tr_isSiblingBefore_7 : decode b_Tr_isSiblingBefore 7 = .ok (.if_icmp .ne 44, 3) := by decide +kernel
theorem d_Tr_isSiblingBefore_10 : decode b_Tr_isSiblingBefore 10 = .ok (.aload_n 0, 1) := by decide +kernel
theorem d_Tr_isSiblingBefore_11 : decode b_Tr_isSiblingBefore 11 = .ok (.aload_n 0, 1) := by decide +kernel
theorem d_Tr_isSiblingBefore_12 : decode b_Tr_isSiblingBefore 12 = .ok (.getfield 24, 3) := by decide +kernel
theorem d_Tr_isSiblingBefore_15 : decode b_Tr_isSiblingBefore 15 = .ok (.iload_n 1, 1) := by decide +kernel
theorem d_Tr_isSiblingBefore_16 : decode b_Tr_isSiblingBefore 16 = .ok (.iaload, 1) := by decide +kernel
theorem d_Tr_isSiblingBefore_17 : decode b_Tr_isSiblingBefore 17 = .ok (.invokevirtual 41, 3) := by decide +kernel
theorem d_Tr_isSiblingBefore_20 : decode b_Tr_isSiblingBefore 20 = .ok (.istore_n 3, 1) := by decide +kernel
theorem d_Tr_isSiblingBefore_21 : decode b_Tr_isSiblingBefore 21 = .ok (.aload_n 0, 1) := by decide +kernel
theorem d_Tr_isSiblingBefore_22 : decode b_Tr_isSiblingBefore 22 = .ok (.aload_n 0, 1) := by decide +kernel
theorem d_Tr_isSiblingBefore_23 : decode b_Tr_isSiblingBefore 23 = .ok (.getfield 24, 3) := by decide +kernel
theorem d_Tr_isSiblingBefore_26 : decode b_Tr_isSiblingBefore 26 = .ok (.iload_n 2, 1) := by decide +kernel
theorem d_Tr_isSiblingBefore_27 : decode b_Tr_isSiblingBefore 27 = .ok (.iaload, 1) := by decide +kernel
theorem d_Tr_isSiblingBefore_28 : decode b_Tr_isSiblingBefore 28 = .ok (.invokevirtual 41, 3) := by decide +kernel
theorem d_Tr_isSiblingBefore_31 : decode b_Tr_isSiblingBefore 31 = .ok (.istore 4, 2) := by decide +kernel
theorem d_Tr_isSiblingBefore_33 : decode b_Tr_isSiblingBefore 33 = .ok (.iload_n 3, 1) := by decide +kernel
theorem d_Tr_isSiblingBefore_34 : decode b_Tr_isSiblingBefore 34 = .ok (.iload 4, 2) := by decide +kernel
theorem d_Tr_isSiblingBefore_36 : decode b_Tr_isSiblingBefore 36 = .ok (.if_icmp .eq 15, 3) := by decide +kernel
theorem d_Tr_isSiblingBefore_39 : decode b_Tr_isSiblingBefore 39 = .ok (.iload_n 3, 1) := by decide +kernel
theorem d_Tr_isSiblingBefore_40 : decode b_Tr_isSiblingBefore 40 = .ok (.iload 4, 2) := by decide +kernel
theorem d_Tr_isSiblingBefore_42 : decode b_Tr_isSiblingBefore 42 = .ok (.if_icmp .le 7, 3) := by decide +kernel
theorem d_Tr_isSiblingBefore_45 : decode b_Tr_isSiblingBefore 45 = .ok (.iconst 1, 1) := by decide +kernel
theorem d_Tr_isSiblingBefore_46 : decode b_Tr_isSiblingBefore 46 = .ok (.goto 4, 3) := by decide +kernel
theorem d_Tr_isSiblingBefore_49 : decode b_Tr_isSiblingBefore 49 = .ok (.iconst 0, 1) := by decide +kernel
theorem d_Tr_isSiblingBefore_50 : decode b_Tr_isSiblingBefore 50 = .ok (.ireturn, 1) := by decide +kernel
theorem d_Tr_isSiblingBefore_51 : decode b_Tr_isSiblingBefore 51 = .ok (.aload_n 0, 1) := by decide +kernel
theorem d_Tr_isSiblingBefore_52 : decode b_Tr_isSiblingBefore 52 = .ok (.getfield 9, 3) := by decide +kernel
theorem d_Tr_isSiblingBefore_55 : decode b_Tr_isSiblingBefore 55 = .ok (.iload_n 1, 1) := by decide +kernel
theorem d_Tr_isSiblingBefore_56 : decode b_Tr_isSiblingBefore 56 = .ok (.iaload, 1) := by decide +kernel
theorem d_Tr_isSiblingBefore_57 : decode b_Tr_isSiblingBefore 57 = .ok (.aload_n 0, 1) := by decide +kernel
theorem d_Tr_isSiblingBefore_58 : decode b_Tr_isSiblingBefore 58 = .ok (.getfield 9, 3) := by decide +kernel
theorem d_Tr_isSiblingBefore_61 : decode b_Tr_isSiblingBefore 61 = .ok (.iload_n 2, 1) := by decide +kernel
theorem d_Tr_isSiblingBefore_62 : decode b_Tr_isSiblingBefore 62 = .ok (.iaload, 1) := by decide +kernel
theorem d_Tr_isSiblingBefore_63 : decode b_Tr_isSiblingBefore 63 = .ok (.if_icmp .eq 24, 3) := by decide +kernel
theorem d_Tr_isSiblingBefore_66 : decode b_Tr_isSiblingBefore 66 = .ok (.aload_n 0, 1) := by decide +kernel
theorem d_Tr_isSiblingBefore_67 : decode b_Tr_isSiblingBefore 67 = .ok (.getfield 9, 3) := by decide +kernel
theorem d_Tr_isSiblingBefore_70 : decode b_Tr_isSiblingBefore 70 = .ok (.iload_n 1, 1) := by decide +kernel
theorem d_Tr_isSiblingBefore_71 : decode b_Tr_isSiblingBefore 71 = .ok (.iaload, 1) := by decide +kernel
theorem d_Tr_isSiblingBefore_72 : decode b_Tr_isSiblingBefore 72 = .ok (.aload_n 0, 1) := by decide +kernel
theorem d_Tr_isSiblingBefore_73 : decode b_Tr_isSiblingBefore 73 = .ok (.getfield 9, 3) := by decide +kernel
theorem d_Tr_isSiblingBefore_76 : decode b_Tr_isSiblingBefore 76 = .ok (.iload_n 2, 1) := by decide +kernel
theorem d_Tr_isSiblingBefore_77 : decode b_Tr_isSiblingBefore 77 = .ok (.iaload, 1) := by decide +kernel
theorem d_Tr_isSiblingBefore_78 : decode b_Tr_isSiblingBefore 78 = .ok (.if_icmp .ge 7, 3) := by decide +kernel
theorem d_Tr_isSiblingBefore_81 : decode b_Tr_isSiblingBefore 81 = .ok (.iconst 1, 1) := by decide +kernel
theorem d_Tr_isSiblingBefore_82 : decode b_Tr_isSiblingBefore 82 = .ok (.goto 4, 3) := by decide +kernel
theorem d_Tr_isSiblingBefore_85 : decode b_Tr_isSiblingBefore 85 = .ok (.iconst 0, 1) := by decide +kernel
theorem d_Tr_isSiblingBefore_86 : decode b_Tr_isSiblingBefore 86 = .ok (.ireturn, 1) := by decide +kernel
theorem d_Tr_isSiblingBefore_87 : decode b_Tr_isSiblingBefore 87 = .ok (.iload_n 1, 1) := by decide +kernel
theorem d_Tr_isSiblingBefore_88 : decode b_Tr_isSiblingBefore 88 = .ok (.iload_n 2, 1) := by decide +kernel
theorem d_Tr_isSiblingBefore_89 : decode b_Tr_isSiblingBefore 89 = .ok (.if_icmp .ge 7, 3) := by decide +kernel
theorem d_Tr_isSiblingBefore_92 : decode b_Tr_isSiblingBefore 92 = .ok (.iconst 1, 1) := by decide +kernel
theorem d_Tr_isSiblingBefore_93 : decode b_Tr_isSiblingBefore 93 = .ok (.goto 4, 3) := by decide +kernel
theorem d_Tr_isSiblingBefore_96 : decode b_Tr_isSiblingBefore 96 = .ok (.iconst 0, 1) := by decide +kernel
theorem d_Tr_isSiblingBefore_97 : decode b_Tr_isSiblingBefore 97 = .ok (.ireturn, 1) := by decide +kernel
theorem d_Tr_leftPlaceFor_0 : decode b_Tr_leftPlaceFor 0 = .ok (.aload_n 0, 1) := by decide +kernel
theorem d_Tr_leftPlaceFor_1 : decode b_Tr_leftPlaceFor 1 = .ok (.aload_n 0, 1) := by decide +kernel
theorem d_Tr_leftPlaceFor_2 : decode b_Tr_leftPlaceFor 2 = .ok (.getfield 18, 3) := by decide +kernel
theorem d_Tr_leftPlaceFor_5 : decode b_Tr_leftPlaceFor 5 = .ok (.iload_n 1, 1) := by decide +kernel
theorem d_Tr_leftPlaceFor_6 : decode b_Tr_leftPlaceFor 6 = .ok (.iaload, 1) := by decide +kernel
theorem d_Tr_leftPlaceFor_7 : decode b_Tr_leftPlaceFor 7 = .ok (.invokevirtual 41, 3) := by decide +kernel
theorem d_Tr_leftPlaceFor_10 : decode b_Tr_leftPlaceFor 10 = .ok (.istore_n 2, 1) := by decide +kernel
theorem d_Tr_leftPlaceFor_11 : decode b_Tr_leftPlaceFor 11 = .ok (.iload_n 2, 1) := by decide +kernel
theorem d_Tr_leftPlaceFor_12 : decode b_Tr_leftPlaceFor 12 = .ok (.ifCond .le 25, 3) := by decide +kernel
theorem d_Tr_leftPlaceFor_15 : decode b_Tr_leftPlaceFor 15 = .ok (.aload_n 0, 1) := by decide +kernel
theorem d_Tr_leftPlaceFor_16 : decode b_Tr_leftPlaceFor 16 = .ok (.iload_n 1, 1) := by decide +kernel
theorem d_Tr_leftPlaceFor_17 : decode b_Tr_leftPlaceFor 17 = .ok (.aload_n 0, 1) := by decide +kernel
theorem d_Tr_leftPlaceFor_18 : decode b_Tr_leftPlaceFor 18 = .ok (.getfield 27, 3) := by decide +kernel
theorem d_Tr_leftPlaceFor_21 : decode b_Tr_leftPlaceFor 21 = .ok (.iload_n 2, 1) := by decide +kernel
theorem d_Tr_leftPlaceFor_22 : decode b_Tr_leftPlaceFor 22 = .ok (.iconst 1, 1) := by decide +kernel
theorem d_Tr_leftPlaceFor_23 : decode b_Tr_leftPlaceFor 23 = .ok (.isub, 1) := by decide +kernel
theorem d_Tr_leftPlaceFor_24 : decode b_Tr_leftPlaceFor 24 = .ok (.iaload, 1) := by decide +kernel
theorem d_Tr_leftPlaceFor_25 : decode b_Tr_leftPlaceFor 25 = .ok (.invokevirtual 44, 3) := by decide +kernel
theorem d_Tr_leftPlaceFor_28 : decode b_Tr_leftPlaceFor 28 = .ok (.ifCond .eq 9, 3) := by decide +kernel
theorem d_Tr_leftPlaceFor_31 : decode b_Tr_leftPlaceFor 31 = .ok (.iinc 2 (-1), 3) := by decide +kernel
theorem d_Tr_leftPlaceFor_34 : decode b_Tr_leftPlaceFor 34 = .ok (.goto (-23), 3) := by decide +kernel
theorem d_Tr_leftPlaceFor_37 : decode b_Tr_leftPlaceFor 37 = .ok (.iload_n 2, 1) := by decide +kernel
theorem d_Tr_leftPlaceFor_38 : decode b_Tr_leftPlaceFor 38 = .ok (.ireturn, 1) := by decide +kernel
theorem d_Tr_placeBehind_0 : decode b_Tr_placeBehind 0 = .ok (.iload_n 1, 1) := by decide +kernel
theorem d_Tr_placeBehind_1 : decode b_Tr_placeBehind 1 = .ok (.iconst (-1), 1) := by decide +kernel
theorem d_Tr_placeBehind_2 : decode b_Tr_placeBehind 2 = .ok (.if_icmp .ne 7, 3) := by decide +kernel
theorem d_Tr_placeBehind_5 : decode b_Tr_placeBehind 5 = .ok (.iconst 0, 1) := by decide +kernel
theorem d_Tr_placeBehind_6 : decode b_Tr_placeBehind 6 = .ok (.goto 10, 3) := by decide +kernel
theorem d_Tr_placeBehind_9 : decode b_Tr_placeBehind 9 = .ok (.aload_n 0, 1) := by decide +kernel
theorem d_Tr_placeBehind_10 : decode b_Tr_placeBehind 10 = .ok (.iload_n 1, 1) := by decide +kernel
theorem d_Tr_placeBehind_11 : decode b_Tr_placeBehind 11 = .ok (.invokevirtual 41, 3) := by decide +kernel
theorem d_Tr_placeBehind_14 : decode b_Tr_placeBehind 14 = .ok (.iconst 1, 1) := by decide +kernel
theorem d_Tr_placeBehind_15 : decode b_Tr_placeBehind 15 = .ok (.iadd, 1) := by decide +kernel
theorem d_Tr_placeBehind_16 : decode b_Tr_placeBehind 16 = .ok (.ireturn, 1) := by decide +kernel
theorem d_Tr_placeOf_0 : decode b_Tr_placeOf 0 = .ok (.iconst 0, 1) := by decide +kernel
theorem d_Tr_placeOf_1 : decode b_Tr_placeOf 1 = .ok (.istore_n 2, 1) := by decide +kernel
theorem d_Tr_placeOf_2 : decode b_Tr_placeOf 2 = .ok (.iload_n 2, 1) := by decide +kernel
theorem d_Tr_placeOf_3 : decode b_Tr_placeOf 3 = .ok (.aload_n 0, 1) := by decide +kernel
theorem d_Tr_placeOf_4 : decode b_Tr_placeOf 4 = .ok (.getfield 30, 3) := by decide +kernel
theorem d_Tr_placeOf_7 : decode b_Tr_placeOf 7 = .ok (.if_icmp .ge 21, 3) := by decide +kernel
theorem d_Tr_placeOf_10 : decode b_Tr_placeOf 10 = .ok (.aload_n 0, 1) := by decide +kernel
theorem d_Tr_placeOf_11 : decode b_Tr_placeOf 11 = .ok (.getfield 27, 3) := by decide +kernel
theorem d_Tr_placeOf_14 : decode b_Tr_placeOf 14 = .ok (.iload_n 2, 1) := by decide +kernel
theorem d_Tr_placeOf_15 : decode b_Tr_placeOf 15 = .ok (.iaload, 1) := by decide +kernel
theorem d_Tr_placeOf_16 : decode b_Tr_placeOf 16 = .ok (.iload_n 1, 1) := by decide +kernel
theorem d_Tr_placeOf_17 : decode b_Tr_placeOf 17 = .ok (.if_icmp .ne 5, 3) := by decide +kernel
theorem d_Tr_placeOf_20 : decode b_Tr_placeOf 20 = .ok (.iload_n 2, 1) := by decide +kernel
theorem d_Tr_placeOf_21 : decode b_Tr_placeOf 21 = .ok (.ireturn, 1) := by decide +kernel
theorem d_Tr_placeOf_22 : decode b_Tr_placeOf 22 = .ok (.iinc 2 1, 3) := by decide +kernel
theorem d_Tr_placeOf_25 : decode b_Tr_placeOf 25 = .ok (.goto (-23), 3) := by decide +kernel
theorem d_Tr_placeOf_28 : decode b_Tr_placeOf 28 = .ok (.aload_n 0, 1) := by decide +kernel
theorem d_Tr_placeOf_29 : decode b_Tr_placeOf 29 = .ok (.getfield 30, 3) := by decide +kernel
theorem d_Tr_placeOf_32 : decode b_Tr_placeOf 32 = .ok (.ireturn, 1) := by decide +kernel
theorem d_Tr_rightPlaceFor_0 : decode b_Tr_rightPlaceFor 0 = .ok (.aload_n 0, 1) := by decide +kernel
theorem d_Tr_rightPlaceFor_1 : decode b_Tr_rightPlaceFor 1 = .ok (.aload_n 0, 1) := by decide +kernel
theorem d_Tr_rightPlaceFor_2 : decode b_Tr_rightPlaceFor 2 = .ok (.getfield 18, 3) := by decide +kernel
theorem d_Tr_rightPlaceFor_5 : decode b_Tr_rightPlaceFor 5 = .ok (.iload_n 1, 1) := by decide +kernel
theorem d_Tr_rightPlaceFor_6 : decode b_Tr_rightPlaceFor 6 = .ok (.iaload, 1) := by decide +kernel
theorem d_Tr_rightPlaceFor_7 : decode b_Tr_rightPlaceFor 7 = .ok (.invokevirtual 48, 3) := by decide +kernel
theorem d_Tr_rightPlaceFor_10 : decode b_Tr_rightPlaceFor 10 = .ok (.istore_n 2, 1) := by decide +kernel
theorem d_Tr_rightPlaceFor_11 : decode b_Tr_rightPlaceFor 11 = .ok (.iload_n 2, 1) := by decide +kernel
theorem d_Tr_rightPlaceFor_12 : decode b_Tr_rightPlaceFor 12 = .ok (.aload_n 0, 1) := by decide +kernel
theorem d_Tr_rightPlaceFor_13 : decode b_Tr_rightPlaceFor 13 = .ok (.getfield 30, 3) := by decide +kernel
theorem d_Tr_rightPlaceFor_16 : decode b_Tr_rightPlaceFor 16 = .ok (.if_icmp .ge 23, 3) := by decide +kernel
theorem d_Tr_rightPlaceFor_19 : decode b_Tr_rightPlaceFor 19 = .ok (.aload_n 0, 1) := by decide +kernel
theorem d_Tr_rightPlaceFor_20 : decode b_Tr_rightPlaceFor 20 = .ok (.iload_n 1, 1) := by decide +kernel
theorem d_Tr_rightPlaceFor_21 : decode b_Tr_rightPlaceFor 21 = .ok (.aload_n 0, 1) := by decide +kernel
theorem d_Tr_rightPlaceFor_22 : decode b_Tr_rightPlaceFor 22 = .ok (.getfield 27, 3) := by decide +kernel
theorem d_Tr_rightPlaceFor_25 : decode b_Tr_rightPlaceFor 25 = .ok (.iload_n 2, 1) := by decide +kernel
theorem d_Tr_rightPlaceFor_26 : decode b_Tr_rightPlaceFor 26 = .ok (.iaload, 1) := by decide +kernel
theorem d_Tr_rightPlaceFor_27 : decode b_Tr_rightPlaceFor 27 = .ok (.invokevirtual 51, 3) := by decide +kernel
theorem d_Tr_rightPlaceFor_30 : decode b_Tr_rightPlaceFor 30 = .ok (.ifCond .eq 9, 3) := by decide +kernel
theorem d_Tr_rightPlaceFor_33 : decode b_Tr_rightPlaceFor 33 = .ok (.iinc 2 1, 3) := by decide +kernel
theorem d_Tr_rightPlaceFor_36 : decode b_Tr_rightPlaceFor 36 = .ok (.goto (-25), 3) := by decide +kernel
theorem d_Tr_rightPlaceFor_39 : decode b_Tr_rightPlaceFor 39 = .ok (.iload_n 2, 1) := by decide +kernel
theorem d_Tr_rightPlaceFor_40 : decode b_Tr_rightPlaceFor 40 = .ok (.ireturn, 1) := by decide +kernel
