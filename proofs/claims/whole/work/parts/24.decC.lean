-- decode rows (laid by gen/names.py)
theorem d_Mo_about_0 : decode b_Mo_about 0 = .ok (.aload_n 0, 1) := by decide +kernel
theorem d_Mo_about_1 : decode b_Mo_about 1 = .ok (.iload_n 1, 1) := by decide +kernel
theorem d_Mo_about_2 : decode b_Mo_about 2 = .ok (.invokevirtual 108, 3) := by decide +kernel
theorem d_Mo_about_5 : decode b_Mo_about 5 = .ok (.ifCond .ne 6, 3) := by decide +kernel
theorem d_Mo_about_8 : decode b_Mo_about 8 = .ok (.bipush (-3), 2) := by decide +kernel
theorem d_Mo_about_10 : decode b_Mo_about 10 = .ok (.ireturn, 1) := by decide +kernel
theorem d_Mo_about_11 : decode b_Mo_about 11 = .ok (.iload_n 2, 1) := by decide +kernel
theorem d_Mo_about_12 : decode b_Mo_about 12 = .ok (.tableswitch 71 0 4 #[36, 43, 50, 57, 64], 36) := by decide +kernel
theorem d_Mo_about_48 : decode b_Mo_about 48 = .ok (.aload_n 0, 1) := by decide +kernel
theorem d_Mo_about_49 : decode b_Mo_about 49 = .ok (.getfield 7, 3) := by decide +kernel
theorem d_Mo_about_52 : decode b_Mo_about 52 = .ok (.iload_n 1, 1) := by decide +kernel
theorem d_Mo_about_53 : decode b_Mo_about 53 = .ok (.iaload, 1) := by decide +kernel
theorem d_Mo_about_54 : decode b_Mo_about 54 = .ok (.ireturn, 1) := by decide +kernel
theorem d_Mo_about_55 : decode b_Mo_about 55 = .ok (.aload_n 0, 1) := by decide +kernel
theorem d_Mo_about_56 : decode b_Mo_about 56 = .ok (.getfield 13, 3) := by decide +kernel
theorem d_Mo_about_59 : decode b_Mo_about 59 = .ok (.iload_n 1, 1) := by decide +kernel
theorem d_Mo_about_60 : decode b_Mo_about 60 = .ok (.iaload, 1) := by decide +kernel
theorem d_Mo_about_61 : decode b_Mo_about 61 = .ok (.ireturn, 1) := by decide +kernel
theorem d_Mo_about_62 : decode b_Mo_about 62 = .ok (.aload_n 0, 1) := by decide +kernel
theorem d_Mo_about_63 : decode b_Mo_about 63 = .ok (.getfield 16, 3) := by decide +kernel
theorem d_Mo_about_66 : decode b_Mo_about 66 = .ok (.iload_n 1, 1) := by decide +kernel
theorem d_Mo_about_67 : decode b_Mo_about 67 = .ok (.iaload, 1) := by decide +kernel
theorem d_Mo_about_68 : decode b_Mo_about 68 = .ok (.ireturn, 1) := by decide +kernel
theorem d_Mo_about_69 : decode b_Mo_about 69 = .ok (.aload_n 0, 1) := by decide +kernel
theorem d_Mo_about_70 : decode b_Mo_about 70 = .ok (.getfield 19, 3) := by decide +kernel
theorem d_Mo_about_73 : decode b_Mo_about 73 = .ok (.iload_n 1, 1) := by decide +kernel
theorem d_Mo_about_74 : decode b_Mo_about 74 = .ok (.iaload, 1) := by decide +kernel
theorem d_Mo_about_75 : decode b_Mo_about 75 = .ok (.ireturn, 1) := by decide +kernel
theorem d_Mo_about_76 : decode b_Mo_about 76 = .ok (.aload_n 0, 1) := by decide +kernel
theorem d_Mo_about_77 : decode b_Mo_about 77 = .ok (.getfield 22, 3) := by decide +kernel
theorem d_Mo_about_80 : decode b_Mo_about 80 = .ok (.iload_n 1, 1) := by decide +kernel
theorem d_Mo_about_81 : decode b_Mo_about 81 = .ok (.iaload, 1) := by decide +kernel
theorem d_Mo_about_82 : decode b_Mo_about 82 = .ok (.ireturn, 1) := by decide +kernel
theorem d_Mo_about_83 : decode b_Mo_about 83 = .ok (.bipush (-3), 2) := by decide +kernel
theorem d_Mo_about_85 : decode b_Mo_about 85 = .ok (.ireturn, 1) := by decide +kernel
theorem d_Mo_ahead_0 : decode b_Mo_ahead 0 = .ok (.aload_n 0, 1) := by decide +kernel
theorem d_Mo_ahead_1 : decode b_Mo_ahead 1 = .ok (.getfield 19, 3) := by decide +kernel
theorem d_Mo_ahead_4 : decode b_Mo_ahead 4 = .ok (.iload_n 1, 1) := by decide +kernel
theorem d_Mo_ahead_5 : decode b_Mo_ahead 5 = .ok (.iaload, 1) := by decide +kernel
theorem d_Mo_ahead_6 : decode b_Mo_ahead 6 = .ok (.iconst 1, 1) := by decide +kernel
theorem d_Mo_ahead_7 : decode b_Mo_ahead 7 = .ok (.if_icmp .ne 85, 3) := by decide +kernel
theorem d_Mo_ahead_10 : decode b_Mo_ahead 10 = .ok (.aload_n 0, 1) := by decide +kernel
theorem d_Mo_ahead_11 : decode b_Mo_ahead 11 = .ok (.getfield 22, 3) := by decide +kernel
theorem d_Mo_ahead_14 : decode b_Mo_ahead 14 = .ok (.iload_n 1, 1) := by decide +kernel
theorem d_Mo_ahead_15 : decode b_Mo_ahead 15 = .ok (.iaload, 1) := by decide +kernel
theorem d_Mo_ahead_16 : decode b_Mo_ahead 16 = .ok (.aload_n 0, 1) := by decide +kernel
theorem d_Mo_ahead_17 : decode b_Mo_ahead 17 = .ok (.getfield 22, 3) := by decide +kernel
theorem d_Mo_ahead_20 : decode b_Mo_ahead 20 = .ok (.iload_n 2, 1) := by decide +kernel
theorem d_Mo_ahead_21 : decode b_Mo_ahead 21 = .ok (.iaload, 1) := by decide +kernel
theorem d_Mo_ahead_22 : decode b_Mo_ahead 22 = .ok (.if_icmp .eq 70, 3) := by decide +kernel
theorem d_Mo_ahead_25 : decode b_Mo_ahead 25 = .ok (.aload_n 0, 1) := by decide +kernel
theorem d_Mo_ahead_26 : decode b_Mo_ahead 26 = .ok (.getfield 22, 3) := by decide +kernel
theorem d_Mo_ahead_29 : decode b_Mo_ahead 29 = .ok (.iload_n 1, 1) := by decide +kernel
theorem d_Mo_ahead_30 : decode b_Mo_ahead 30 = .ok (.iaload, 1) := by decide +kernel
theorem d_Mo_ahead_31 : decode b_Mo_ahead 31 = .ok (.ifCond .ge 10, 3) := by decide +kernel
theorem d_Mo_ahead_34 : decode b_Mo_ahead 34 = .ok (.aload_n 0, 1) := by decide +kernel
theorem d_Mo_ahead_35 : decode b_Mo_ahead 35 = .ok (.getfield 43, 3) := by decide +kernel
theorem d_Mo_ahead_38 : decode b_Mo_ahead 38 = .ok (.goto 13, 3) := by decide +kernel
theorem d_Mo_ahead_41 : decode b_Mo_ahead 41 = .ok (.aload_n 0, 1) := by decide +kernel
theorem d_Mo_ahead_42 : decode b_Mo_ahead 42 = .ok (.aload_n 0, 1) := by decide +kernel
theorem d_Mo_ahead_43 : decode b_Mo_ahead 43 = .ok (.getfield 22, 3) := by decide +kernel
theorem d_Mo_ahead_46 : decode b_Mo_ahead 46 = .ok (.iload_n 1, 1) := by decide +kernel
theorem d_Mo_ahead_47 : decode b_Mo_ahead 47 = .ok (.iaload, 1) := by decide +kernel
theorem d_Mo_ahead_48 : decode b_Mo_ahead 48 = .ok (.invokevirtual 51, 3) := by decide +kernel
theorem d_Mo_ahead_51 : decode b_Mo_ahead 51 = .ok (.istore_n 3, 1) := by decide +kernel
theorem d_Mo_ahead_52 : decode b_Mo_ahead 52 = .ok (.aload_n 0, 1) := by decide +kernel
theorem d_Mo_ahead_53 : decode b_Mo_ahead 53 = .ok (.getfield 22, 3) := by decide +kernel
theorem d_Mo_ahead_56 : decode b_Mo_ahead 56 = .ok (.iload_n 2, 1) := by decide +kernel
theorem d_Mo_ahead_57 : decode b_Mo_ahead 57 = .ok (.iaload, 1) := by decide +kernel
theorem d_Mo_ahead_58 : decode b_Mo_ahead 58 = .ok (.ifCond .ge 10, 3) := by decide +kernel
theorem d_Mo_ahead_61 : decode b_Mo_ahead 61 = .ok (.aload_n 0, 1) := by decide +kernel
theorem d_Mo_ahead_62 : decode b_Mo_ahead 62 = .ok (.getfield 43, 3) := by decide +kernel
theorem d_Mo_ahead_65 : decode b_Mo_ahead 65 = .ok (.goto 13, 3) := by decide +kernel
theorem d_Mo_ahead_68 : decode b_Mo_ahead 68 = .ok (.aload_n 0, 1) := by decide +kernel
theorem d_Mo_ahead_69 : decode b_Mo_ahead 69 = .ok (.aload_n 0, 1) := by decide +kernel
theorem d_Mo_ahead_70 : decode b_Mo_ahead 70 = .ok (.getfield 22, 3) := by decide +kernel
theorem d_Mo_ahead_73 : decode b_Mo_ahead 73 = .ok (.iload_n 2, 1) := by decide +kernel
theorem d_Mo_ahead_74 : decode b_Mo_ahead 74 = .ok (.iaload, 1) := by decide +kernel
theorem d_Mo_ahead_75 : decode b_Mo_ahead 75 = .ok (.invokevirtual 51, 3) := by decide +kernel
theorem d_Mo_ahead_78 : decode b_Mo_ahead 78 = .ok (.istore 4, 2) := by decide +kernel
theorem d_Mo_ahead_80 : decode b_Mo_ahead 80 = .ok (.iload_n 3, 1) := by decide +kernel
theorem d_Mo_ahead_81 : decode b_Mo_ahead 81 = .ok (.iload 4, 2) := by decide +kernel
theorem d_Mo_ahead_83 : decode b_Mo_ahead 83 = .ok (.if_icmp .le 7, 3) := by decide +kernel
theorem d_Mo_ahead_86 : decode b_Mo_ahead 86 = .ok (.iconst 1, 1) := by decide +kernel
theorem d_Mo_ahead_87 : decode b_Mo_ahead 87 = .ok (.goto 4, 3) := by decide +kernel
theorem d_Mo_ahead_90 : decode b_Mo_ahead 90 = .ok (.iconst 0, 1) := by decide +kernel
theorem d_Mo_ahead_91 : decode b_Mo_ahead 91 = .ok (.ireturn, 1) := by decide +kernel
theorem d_Mo_ahead_92 : decode b_Mo_ahead 92 = .ok (.aload_n 0, 1) := by decide +kernel
theorem d_Mo_ahead_93 : decode b_Mo_ahead 93 = .ok (.getfield 7, 3) := by decide +kernel
theorem d_Mo_ahead_96 : decode b_Mo_ahead 96 = .ok (.iload_n 1, 1) := by decide +kernel
theorem d_Mo_ahead_97 : decode b_Mo_ahead 97 = .ok (.iaload, 1) := by decide +kernel
theorem d_Mo_ahead_98 : decode b_Mo_ahead 98 = .ok (.aload_n 0, 1) := by decide +kernel
theorem d_Mo_ahead_99 : decode b_Mo_ahead 99 = .ok (.getfield 7, 3) := by decide +kernel
theorem d_Mo_ahead_102 : decode b_Mo_ahead 102 = .ok (.iload_n 2, 1) := by decide +kernel
theorem d_Mo_ahead_103 : decode b_Mo_ahead 103 = .ok (.iaload, 1) := by decide +kernel
theorem d_Mo_ahead_104 : decode b_Mo_ahead 104 = .ok (.if_icmp .lt 23, 3) := by decide +kernel
theorem d_Mo_ahead_107 : decode b_Mo_ahead 107 = .ok (.aload_n 0, 1) := by decide +kernel
theorem d_Mo_ahead_108 : decode b_Mo_ahead 108 = .ok (.getfield 7, 3) := by decide +kernel
theorem d_Mo_ahead_111 : decode b_Mo_ahead 111 = .ok (.iload_n 1, 1) := by decide +kernel
theorem d_Mo_ahead_112 : decode b_Mo_ahead 112 = .ok (.iaload, 1) := by decide +kernel
theorem d_Mo_ahead_113 : decode b_Mo_ahead 113 = .ok (.aload_n 0, 1) := by decide +kernel
theorem d_Mo_ahead_114 : decode b_Mo_ahead 114 = .ok (.getfield 7, 3) := by decide +kernel
theorem d_Mo_ahead_117 : decode b_Mo_ahead 117 = .ok (.iload_n 2, 1) := by decide +kernel
theorem d_Mo_ahead_118 : decode b_Mo_ahead 118 = .ok (.iaload, 1) := by decide +kernel
theorem d_Mo_ahead_119 : decode b_Mo_ahead 119 = .ok (.if_icmp .ne 12, 3) := by decide +kernel
theorem d_Mo_ahead_122 : decode b_Mo_ahead 122 = .ok (.iload_n 1, 1) := by decide +kernel
theorem d_Mo_ahead_123 : decode b_Mo_ahead 123 = .ok (.iload_n 2, 1) := by decide +kernel
theorem d_Mo_ahead_124 : decode b_Mo_ahead 124 = .ok (.if_icmp .ge 7, 3) := by decide +kernel
theorem d_Mo_ahead_127 : decode b_Mo_ahead 127 = .ok (.iconst 1, 1) := by decide +kernel
theorem d_Mo_ahead_128 : decode b_Mo_ahead 128 = .ok (.goto 4, 3) := by decide +kernel
theorem d_Mo_ahead_131 : decode b_Mo_ahead 131 = .ok (.iconst 0, 1) := by decide +kernel
theorem d_Mo_ahead_132 : decode b_Mo_ahead 132 = .ok (.ireturn, 1) := by decide +kernel
theorem d_Mo_begin_0 : decode b_Mo_begin 0 = .ok (.iconst 0, 1) := by decide +kernel
theorem d_Mo_begin_1 : decode b_Mo_begin 1 = .ok (.istore_n 2, 1) := by decide +kernel
theorem d_Mo_begin_2 : decode b_Mo_begin 2 = .ok (.iload_n 2, 1) := by decide +kernel
theorem d_Mo_begin_3 : decode b_Mo_begin 3 = .ok (.aload_n 0, 1) := by decide +kernel
theorem d_Mo_begin_4 : decode b_Mo_begin 4 = .ok (.getfield 43, 3) := by decide +kernel
theorem d_Mo_begin_7 : decode b_Mo_begin 7 = .ok (.if_icmp .ge 23, 3) := by decide +kernel
theorem d_Mo_begin_10 : decode b_Mo_begin 10 = .ok (.aload_n 0, 1) := by decide +kernel
theorem d_Mo_begin_11 : decode b_Mo_begin 11 = .ok (.aload_n 0, 1) := by decide +kernel
theorem d_Mo_begin_12 : decode b_Mo_begin 12 = .ok (.getfield 25, 3) := by decide +kernel
theorem d_Mo_begin_15 : decode b_Mo_begin 15 = .ok (.iload_n 2, 1) := by decide +kernel
theorem d_Mo_begin_16 : decode b_Mo_begin 16 = .ok (.iaload, 1) := by decide +kernel
theorem d_Mo_begin_17 : decode b_Mo_begin 17 = .ok (.iload_n 1, 1) := by decide +kernel
theorem d_Mo_begin_18 : decode b_Mo_begin 18 = .ok (.invokevirtual 47, 3) := by decide +kernel
theorem d_Mo_begin_21 : decode b_Mo_begin 21 = .ok (.ifCond .ne 9, 3) := by decide +kernel
theorem d_Mo_begin_24 : decode b_Mo_begin 24 = .ok (.iinc 2 1, 3) := by decide +kernel
theorem d_Mo_begin_27 : decode b_Mo_begin 27 = .ok (.goto (-25), 3) := by decide +kernel
theorem d_Mo_begin_30 : decode b_Mo_begin 30 = .ok (.iload_n 2, 1) := by decide +kernel
theorem d_Mo_begin_31 : decode b_Mo_begin 31 = .ok (.ireturn, 1) := by decide +kernel
theorem d_Mo_below_0 : decode b_Mo_below 0 = .ok (.iload_n 1, 1) := by decide +kernel
theorem d_Mo_below_1 : decode b_Mo_below 1 = .ok (.istore_n 3, 1) := by decide +kernel
theorem d_Mo_below_2 : decode b_Mo_below 2 = .ok (.iload_n 3, 1) := by decide +kernel
theorem d_Mo_below_3 : decode b_Mo_below 3 = .ok (.ifCond .lt 18, 3) := by decide +kernel
theorem d_Mo_below_6 : decode b_Mo_below 6 = .ok (.iload_n 3, 1) := by decide +kernel
theorem d_Mo_below_7 : decode b_Mo_below 7 = .ok (.iload_n 2, 1) := by decide +kernel
theorem d_Mo_below_8 : decode b_Mo_below 8 = .ok (.if_icmp .eq 13, 3) := by decide +kernel
theorem d_Mo_below_11 : decode b_Mo_below 11 = .ok (.aload_n 0, 1) := by decide +kernel
theorem d_Mo_below_12 : decode b_Mo_below 12 = .ok (.getfield 16, 3) := by decide +kernel
theorem d_Mo_below_15 : decode b_Mo_below 15 = .ok (.iload_n 3, 1) := by decide +kernel
theorem d_Mo_below_16 : decode b_Mo_below 16 = .ok (.iaload, 1) := by decide +kernel
theorem d_Mo_below_17 : decode b_Mo_below 17 = .ok (.istore_n 3, 1) := by decide +kernel
theorem d_Mo_below_18 : decode b_Mo_below 18 = .ok (.goto (-16), 3) := by decide +kernel
theorem d_Mo_below_21 : decode b_Mo_below 21 = .ok (.iload_n 3, 1) := by decide +kernel
theorem d_Mo_below_22 : decode b_Mo_below 22 = .ok (.iload_n 2, 1) := by decide +kernel
theorem d_Mo_below_23 : decode b_Mo_below 23 = .ok (.if_icmp .ne 7, 3) := by decide +kernel
theorem d_Mo_below_26 : decode b_Mo_below 26 = .ok (.iconst 1, 1) := by decide +kernel
theorem d_Mo_below_27 : decode b_Mo_below 27 = .ok (.goto 4, 3) := by decide +kernel
theorem d_Mo_below_30 : decode b_Mo_below 30 = .ok (.iconst 0, 1) := by decide +kernel
theorem d_Mo_below_31 : decode b_Mo_below 31 = .ok (.ireturn, 1) := by decide +kernel
theorem d_Mo_deliver_0 : decode b_Mo_deliver 0 = .ok (.iload_n 1, 1) := by decide +kernel
theorem d_Mo_deliver_1 : decode b_Mo_deliver 1 = .ok (.invokestatic 78, 3) := by decide +kernel
theorem d_Mo_deliver_4 : decode b_Mo_deliver 4 = .ok (.ifCond .eq 17, 3) := by decide +kernel
theorem d_Mo_deliver_7 : decode b_Mo_deliver 7 = .ok (.iload_n 2, 1) := by decide +kernel
theorem d_Mo_deliver_8 : decode b_Mo_deliver 8 = .ok (.ifCond .lt 13, 3) := by decide +kernel
theorem d_Mo_deliver_11 : decode b_Mo_deliver 11 = .ok (.iload_n 2, 1) := by decide +kernel
theorem d_Mo_deliver_12 : decode b_Mo_deliver 12 = .ok (.aload_n 0, 1) := by decide +kernel
theorem d_Mo_deliver_13 : decode b_Mo_deliver 13 = .ok (.getfield 34, 3) := by decide +kernel
theorem d_Mo_deliver_16 : decode b_Mo_deliver 16 = .ok (.iload_n 1, 1) := by decide +kernel
theorem d_Mo_deliver_17 : decode b_Mo_deliver 17 = .ok (.iaload, 1) := by decide +kernel
theorem d_Mo_deliver_18 : decode b_Mo_deliver 18 = .ok (.if_icmp .lt 5, 3) := by decide +kernel
theorem d_Mo_deliver_21 : decode b_Mo_deliver 21 = .ok (.iconst (-1), 1) := by decide +kernel
theorem d_Mo_deliver_22 : decode b_Mo_deliver 22 = .ok (.ireturn, 1) := by decide +kernel
theorem d_Mo_deliver_23 : decode b_Mo_deliver 23 = .ok (.aload_n 0, 1) := by decide +kernel
theorem d_Mo_deliver_24 : decode b_Mo_deliver 24 = .ok (.getfield 31, 3) := by decide +kernel
theorem d_Mo_deliver_27 : decode b_Mo_deliver 27 = .ok (.bipush 90, 2) := by decide +kernel
theorem d_Mo_deliver_29 : decode b_Mo_deliver 29 = .ok (.iload_n 1, 1) := by decide +kernel
theorem d_Mo_deliver_30 : decode b_Mo_deliver 30 = .ok (.imul, 1) := by decide +kernel
theorem d_Mo_deliver_31 : decode b_Mo_deliver 31 = .ok (.iload_n 2, 1) := by decide +kernel
theorem d_Mo_deliver_32 : decode b_Mo_deliver 32 = .ok (.iadd, 1) := by decide +kernel
theorem d_Mo_deliver_33 : decode b_Mo_deliver 33 = .ok (.iaload, 1) := by decide +kernel
theorem d_Mo_deliver_34 : decode b_Mo_deliver 34 = .ok (.istore_n 3, 1) := by decide +kernel
theorem d_Mo_deliver_35 : decode b_Mo_deliver 35 = .ok (.aload_n 0, 1) := by decide +kernel
theorem d_Mo_deliver_36 : decode b_Mo_deliver 36 = .ok (.getfield 34, 3) := by decide +kernel
theorem d_Mo_deliver_39 : decode b_Mo_deliver 39 = .ok (.iload_n 1, 1) := by decide +kernel
theorem d_Mo_deliver_40 : decode b_Mo_deliver 40 = .ok (.aload_n 0, 1) := by decide +kernel
theorem d_Mo_deliver_41 : decode b_Mo_deliver 41 = .ok (.getfield 34, 3) := by decide +kernel
theorem d_Mo_deliver_44 : decode b_Mo_deliver 44 = .ok (.iload_n 1, 1) := by decide +kernel
theorem d_Mo_deliver_45 : decode b_Mo_deliver 45 = .ok (.iaload, 1) := by decide +kernel
theorem d_Mo_deliver_46 : decode b_Mo_deliver 46 = .ok (.iconst 1, 1) := by decide +kernel
theorem d_Mo_deliver_47 : decode b_Mo_deliver 47 = .ok (.isub, 1) := by decide +kernel
theorem d_Mo_deliver_48 : decode b_Mo_deliver 48 = .ok (.iastore, 1) := by decide +kernel
theorem d_Mo_deliver_49 : decode b_Mo_deliver 49 = .ok (.iload_n 2, 1) := by decide +kernel
theorem d_Mo_deliver_50 : decode b_Mo_deliver 50 = .ok (.istore 4, 2) := by decide +kernel
theorem d_Mo_deliver_52 : decode b_Mo_deliver 52 = .ok (.iload 4, 2) := by decide +kernel
theorem d_Mo_deliver_54 : decode b_Mo_deliver 54 = .ok (.aload_n 0, 1) := by decide +kernel
theorem d_Mo_deliver_55 : decode b_Mo_deliver 55 = .ok (.getfield 34, 3) := by decide +kernel
theorem d_Mo_deliver_58 : decode b_Mo_deliver 58 = .ok (.iload_n 1, 1) := by decide +kernel
theorem d_Mo_deliver_59 : decode b_Mo_deliver 59 = .ok (.iaload, 1) := by decide +kernel
theorem d_Mo_deliver_60 : decode b_Mo_deliver 60 = .ok (.if_icmp .ge 35, 3) := by decide +kernel
theorem d_Mo_deliver_63 : decode b_Mo_deliver 63 = .ok (.aload_n 0, 1) := by decide +kernel
theorem d_Mo_deliver_64 : decode b_Mo_deliver 64 = .ok (.getfield 31, 3) := by decide +kernel
theorem d_Mo_deliver_67 : decode b_Mo_deliver 67 = .ok (.bipush 90, 2) := by decide +kernel
theorem d_Mo_deliver_69 : decode b_Mo_deliver 69 = .ok (.iload_n 1, 1) := by decide +kernel
theorem d_Mo_deliver_70 : decode b_Mo_deliver 70 = .ok (.imul, 1) := by decide +kernel
theorem d_Mo_deliver_71 : decode b_Mo_deliver 71 = .ok (.iload 4, 2) := by decide +kernel
theorem d_Mo_deliver_73 : decode b_Mo_deliver 73 = .ok (.iadd, 1) := by decide +kernel
theorem d_Mo_deliver_74 : decode b_Mo_deliver 74 = .ok (.aload_n 0, 1) := by decide +kernel
theorem d_Mo_deliver_75 : decode b_Mo_deliver 75 = .ok (.getfield 31, 3) := by decide +kernel
theorem d_Mo_deliver_78 : decode b_Mo_deliver 78 = .ok (.bipush 90, 2) := by decide +kernel
theorem d_Mo_deliver_80 : decode b_Mo_deliver 80 = .ok (.iload_n 1, 1) := by decide +kernel
theorem d_Mo_deliver_81 : decode b_Mo_deliver 81 = .ok (.imul, 1) := by decide +kernel
theorem d_Mo_deliver_82 : decode b_Mo_deliver 82 = .ok (.iload 4, 2) := by decide +kernel
theorem d_Mo_deliver_84 : decode b_Mo_deliver 84 = .ok (.iadd, 1) := by decide +kernel
theorem d_Mo_deliver_85 : decode b_Mo_deliver 85 = .ok (.iconst 1, 1) := by decide +kernel
theorem d_Mo_deliver_86 : decode b_Mo_deliver 86 = .ok (.iadd, 1) := by decide +kernel
theorem d_Mo_deliver_87 : decode b_Mo_deliver 87 = .ok (.iaload, 1) := by decide +kernel
theorem d_Mo_deliver_88 : decode b_Mo_deliver 88 = .ok (.iastore, 1) := by decide +kernel
theorem d_Mo_deliver_89 : decode b_Mo_deliver 89 = .ok (.iinc 4 1, 3) := by decide +kernel
theorem d_Mo_deliver_92 : decode b_Mo_deliver 92 = .ok (.goto (-40), 3) := by decide +kernel
theorem d_Mo_deliver_95 : decode b_Mo_deliver 95 = .ok (.aload_n 0, 1) := by decide +kernel
theorem d_Mo_deliver_96 : decode b_Mo_deliver 96 = .ok (.iload_n 1, 1) := by decide +kernel
theorem d_Mo_deliver_97 : decode b_Mo_deliver 97 = .ok (.iload_n 3, 1) := by decide +kernel
theorem d_Mo_deliver_98 : decode b_Mo_deliver 98 = .ok (.invokevirtual 71, 3) := by decide +kernel
theorem d_Mo_deliver_101 : decode b_Mo_deliver 101 = .ok (.ifCond .ne 36, 3) := by decide +kernel
theorem d_Mo_deliver_104 : decode b_Mo_deliver 104 = .ok (.aload_n 0, 1) := by decide +kernel
theorem d_Mo_deliver_105 : decode b_Mo_deliver 105 = .ok (.getfield 37, 3) := by decide +kernel
theorem d_Mo_deliver_108 : decode b_Mo_deliver 108 = .ok (.bipush 90, 2) := by decide +kernel
theorem d_Mo_deliver_110 : decode b_Mo_deliver 110 = .ok (.iload_n 1, 1) := by decide +kernel
theorem d_Mo_deliver_111 : decode b_Mo_deliver 111 = .ok (.imul, 1) := by decide +kernel
theorem d_Mo_deliver_112 : decode b_Mo_deliver 112 = .ok (.aload_n 0, 1) := by decide +kernel
theorem d_Mo_deliver_113 : decode b_Mo_deliver 113 = .ok (.getfield 40, 3) := by decide +kernel
theorem d_Mo_deliver_116 : decode b_Mo_deliver 116 = .ok (.iload_n 1, 1) := by decide +kernel
theorem d_Mo_deliver_117 : decode b_Mo_deliver 117 = .ok (.iaload, 1) := by decide +kernel
theorem d_Mo_deliver_118 : decode b_Mo_deliver 118 = .ok (.iadd, 1) := by decide +kernel
theorem d_Mo_deliver_119 : decode b_Mo_deliver 119 = .ok (.iload_n 3, 1) := by decide +kernel
theorem d_Mo_deliver_120 : decode b_Mo_deliver 120 = .ok (.iastore, 1) := by decide +kernel
theorem d_Mo_deliver_121 : decode b_Mo_deliver 121 = .ok (.aload_n 0, 1) := by decide +kernel
theorem d_Mo_deliver_122 : decode b_Mo_deliver 122 = .ok (.getfield 40, 3) := by decide +kernel
theorem d_Mo_deliver_125 : decode b_Mo_deliver 125 = .ok (.iload_n 1, 1) := by decide +kernel
theorem d_Mo_deliver_126 : decode b_Mo_deliver 126 = .ok (.aload_n 0, 1) := by decide +kernel
theorem d_Mo_deliver_127 : decode b_Mo_deliver 127 = .ok (.getfield 40, 3) := by decide +kernel
theorem d_Mo_deliver_130 : decode b_Mo_deliver 130 = .ok (.iload_n 1, 1) := by decide +kernel
theorem d_Mo_deliver_131 : decode b_Mo_deliver 131 = .ok (.iaload, 1) := by decide +kernel
theorem d_Mo_deliver_132 : decode b_Mo_deliver 132 = .ok (.iconst 1, 1) := by decide +kernel
theorem d_Mo_deliver_133 : decode b_Mo_deliver 133 = .ok (.iadd, 1) := by decide +kernel
theorem d_Mo_deliver_134 : decode b_Mo_deliver 134 = .ok (.iastore, 1) := by decide +kernel
theorem d_Mo_deliver_135 : decode b_Mo_deliver 135 = .ok (.iconst 0, 1) := by decide +kernel
theorem d_Mo_deliver_136 : decode b_Mo_deliver 136 = .ok (.ireturn, 1) := by decide +kernel
theorem d_Mo_deliver_137 : decode b_Mo_deliver 137 = .ok (.aload_n 0, 1) := by decide +kernel
theorem d_Mo_deliver_138 : decode b_Mo_deliver 138 = .ok (.iload_n 1, 1) := by decide +kernel
theorem d_Mo_deliver_139 : decode b_Mo_deliver 139 = .ok (.iload_n 3, 1) := by decide +kernel
theorem d_Mo_deliver_140 : decode b_Mo_deliver 140 = .ok (.invokevirtual 74, 3) := by decide +kernel
theorem d_Mo_deliver_143 : decode b_Mo_deliver 143 = .ok (.iconst 1, 1) := by decide +kernel
theorem d_Mo_deliver_144 : decode b_Mo_deliver 144 = .ok (.istore 4, 2) := by decide +kernel
theorem d_Mo_deliver_146 : decode b_Mo_deliver 146 = .ok (.aload_n 0, 1) := by decide +kernel
theorem d_Mo_deliver_147 : decode b_Mo_deliver 147 = .ok (.iload_n 1, 1) := by decide +kernel
theorem d_Mo_deliver_148 : decode b_Mo_deliver 148 = .ok (.invokevirtual 82, 3) := by decide +kernel
theorem d_Mo_deliver_151 : decode b_Mo_deliver 151 = .ok (.ifCond .eq 9, 3) := by decide +kernel
theorem d_Mo_deliver_154 : decode b_Mo_deliver 154 = .ok (.iinc 4 1, 3) := by decide +kernel
theorem d_Mo_deliver_157 : decode b_Mo_deliver 157 = .ok (.goto (-11), 3) := by decide +kernel
theorem d_Mo_deliver_160 : decode b_Mo_deliver 160 = .ok (.iload 4, 2) := by decide +kernel
theorem d_Mo_deliver_162 : decode b_Mo_deliver 162 = .ok (.ireturn, 1) := by decide +kernel
theorem d_Mo_depth_0 : decode b_Mo_depth 0 = .ok (.aload_n 0, 1) := by decide +kernel
theorem d_Mo_depth_1 : decode b_Mo_depth 1 = .ok (.iload_n 1, 1) := by decide +kernel
theorem d_Mo_depth_2 : decode b_Mo_depth 2 = .ok (.invokevirtual 108, 3) := by decide +kernel
theorem d_Mo_depth_5 : decode b_Mo_depth 5 = .ok (.ifCond .ne 6, 3) := by decide +kernel
theorem d_Mo_depth_8 : decode b_Mo_depth 8 = .ok (.bipush (-3), 2) := by decide +kernel
theorem d_Mo_depth_10 : decode b_Mo_depth 10 = .ok (.ireturn, 1) := by decide +kernel
theorem d_Mo_depth_11 : decode b_Mo_depth 11 = .ok (.iconst 0, 1) := by decide +kernel
theorem d_Mo_depth_12 : decode b_Mo_depth 12 = .ok (.istore_n 2, 1) := by decide +kernel
theorem d_Mo_depth_13 : decode b_Mo_depth 13 = .ok (.aload_n 0, 1) := by decide +kernel
theorem d_Mo_depth_14 : decode b_Mo_depth 14 = .ok (.getfield 16, 3) := by decide +kernel
theorem d_Mo_depth_17 : decode b_Mo_depth 17 = .ok (.iload_n 1, 1) := by decide +kernel
theorem d_Mo_depth_18 : decode b_Mo_depth 18 = .ok (.iaload, 1) := by decide +kernel
theorem d_Mo_depth_19 : decode b_Mo_depth 19 = .ok (.istore_n 3, 1) := by decide +kernel
theorem d_Mo_depth_20 : decode b_Mo_depth 20 = .ok (.iload_n 3, 1) := by decide +kernel
theorem d_Mo_depth_21 : decode b_Mo_depth 21 = .ok (.ifCond .lt 16, 3) := by decide +kernel
theorem d_Mo_depth_24 : decode b_Mo_depth 24 = .ok (.iinc 2 1, 3) := by decide +kernel
theorem d_Mo_depth_27 : decode b_Mo_depth 27 = .ok (.aload_n 0, 1) := by decide +kernel
theorem d_Mo_depth_28 : decode b_Mo_depth 28 = .ok (.getfield 16, 3) := by decide +kernel
theorem d_Mo_depth_31 : decode b_Mo_depth 31 = .ok (.iload_n 3, 1) := by decide +kernel
theorem d_Mo_depth_32 : decode b_Mo_depth 32 = .ok (.iaload, 1) := by decide +kernel
theorem d_Mo_depth_33 : decode b_Mo_depth 33 = .ok (.istore_n 3, 1) := by decide +kernel
theorem d_Mo_depth_34 : decode b_Mo_depth 34 = .ok (.goto (-14), 3) := by decide +kernel
theorem d_Mo_depth_37 : decode b_Mo_depth 37 = .ok (.iload_n 2, 1) := by decide +kernel
theorem d_Mo_depth_38 : decode b_Mo_depth 38 = .ok (.ireturn, 1) := by decide +kernel
theorem d_Mo_differ_0 : decode b_Mo_differ 0 = .ok (.iload_n 1, 1) := by decide +kernel
theorem d_Mo_differ_1 : decode b_Mo_differ 1 = .ok (.invokestatic 78, 3) := by decide +kernel
theorem d_Mo_differ_4 : decode b_Mo_differ 4 = .ok (.ifCond .eq 10, 3) := by decide +kernel
theorem d_Mo_differ_7 : decode b_Mo_differ 7 = .ok (.iload_n 2, 1) := by decide +kernel
theorem d_Mo_differ_8 : decode b_Mo_differ 8 = .ok (.invokestatic 78, 3) := by decide +kernel
theorem d_Mo_differ_11 : decode b_Mo_differ 11 = .ok (.ifCond .ne 5, 3) := by decide +kernel
theorem d_Mo_differ_14 : decode b_Mo_differ 14 = .ok (.iconst (-1), 1) := by decide +kernel
theorem d_Mo_differ_15 : decode b_Mo_differ 15 = .ok (.ireturn, 1) := by decide +kernel
theorem d_Mo_differ_16 : decode b_Mo_differ 16 = .ok (.iconst 0, 1) := by decide +kernel
theorem d_Mo_differ_17 : decode b_Mo_differ 17 = .ok (.istore_n 3, 1) := by decide +kernel
theorem d_Mo_differ_18 : decode b_Mo_differ 18 = .ok (.iload_n 3, 1) := by decide +kernel
theorem d_Mo_differ_19 : decode b_Mo_differ 19 = .ok (.aload_n 0, 1) := by decide +kernel
theorem d_Mo_differ_20 : decode b_Mo_differ 20 = .ok (.getfield 43, 3) := by decide +kernel
theorem d_Mo_differ_23 : decode b_Mo_differ 23 = .ok (.if_icmp .gt 46, 3) := by decide +kernel
theorem d_Mo_differ_26 : decode b_Mo_differ 26 = .ok (.aload_n 0, 1) := by decide +kernel
theorem d_Mo_differ_27 : decode b_Mo_differ 27 = .ok (.iload_n 1, 1) := by decide +kernel
theorem d_Mo_differ_28 : decode b_Mo_differ 28 = .ok (.iload_n 3, 1) := by decide +kernel
theorem d_Mo_differ_29 : decode b_Mo_differ 29 = .ok (.iconst 1, 1) := by decide +kernel
theorem d_Mo_differ_30 : decode b_Mo_differ 30 = .ok (.invokevirtual 92, 3) := by decide +kernel
theorem d_Mo_differ_33 : decode b_Mo_differ 33 = .ok (.istore 4, 2) := by decide +kernel
theorem d_Mo_differ_35 : decode b_Mo_differ 35 = .ok (.aload_n 0, 1) := by decide +kernel
theorem d_Mo_differ_36 : decode b_Mo_differ 36 = .ok (.iload_n 2, 1) := by decide +kernel
theorem d_Mo_differ_37 : decode b_Mo_differ 37 = .ok (.iload_n 3, 1) := by decide +kernel
theorem d_Mo_differ_38 : decode b_Mo_differ 38 = .ok (.iconst 1, 1) := by decide +kernel
theorem d_Mo_differ_39 : decode b_Mo_differ 39 = .ok (.invokevirtual 92, 3) := by decide +kernel
theorem d_Mo_differ_42 : decode b_Mo_differ 42 = .ok (.istore 5, 2) := by decide +kernel
theorem d_Mo_differ_44 : decode b_Mo_differ 44 = .ok (.iload 4, 2) := by decide +kernel
theorem d_Mo_differ_46 : decode b_Mo_differ 46 = .ok (.iload 5, 2) := by decide +kernel
theorem d_Mo_differ_48 : decode b_Mo_differ 48 = .ok (.if_icmp .eq 5, 3) := by decide +kernel
theorem d_Mo_differ_51 : decode b_Mo_differ 51 = .ok (.iload_n 3, 1) := by decide +kernel
theorem d_Mo_differ_52 : decode b_Mo_differ 52 = .ok (.ireturn, 1) := by decide +kernel
theorem d_Mo_differ_53 : decode b_Mo_differ 53 = .ok (.iload 4, 2) := by decide +kernel
theorem d_Mo_differ_55 : decode b_Mo_differ 55 = .ok (.bipush (-3), 2) := by decide +kernel
theorem d_Mo_differ_57 : decode b_Mo_differ 57 = .ok (.if_icmp .ne 6, 3) := by decide +kernel
theorem d_Mo_differ_60 : decode b_Mo_differ 60 = .ok (.bipush (-3), 2) := by decide +kernel
theorem d_Mo_differ_62 : decode b_Mo_differ 62 = .ok (.ireturn, 1) := by decide +kernel
theorem d_Mo_differ_63 : decode b_Mo_differ 63 = .ok (.iinc 3 1, 3) := by decide +kernel
theorem d_Mo_differ_66 : decode b_Mo_differ 66 = .ok (.goto (-48), 3) := by decide +kernel
theorem d_Mo_differ_69 : decode b_Mo_differ 69 = .ok (.bipush (-3), 2) := by decide +kernel
theorem d_Mo_differ_71 : decode b_Mo_differ 71 = .ok (.ireturn, 1) := by decide +kernel
theorem d_Mo_effect_0 : decode b_Mo_effect 0 = .ok (.iload_n 2, 1) := by decide +kernel
theorem d_Mo_effect_1 : decode b_Mo_effect 1 = .ok (.bipush (-10), 2) := by decide +kernel
theorem d_Mo_effect_3 : decode b_Mo_effect 3 = .ok (.if_icmp .gt 10, 3) := by decide +kernel
theorem d_Mo_effect_6 : decode b_Mo_effect 6 = .ok (.bipush (-10), 2) := by decide +kernel
theorem d_Mo_effect_8 : decode b_Mo_effect 8 = .ok (.iload_n 2, 1) := by decide +kernel
theorem d_Mo_effect_9 : decode b_Mo_effect 9 = .ok (.isub, 1) := by decide +kernel
theorem d_Mo_effect_10 : decode b_Mo_effect 10 = .ok (.goto 4, 3) := by decide +kernel
theorem d_Mo_effect_13 : decode b_Mo_effect 13 = .ok (.iload_n 2, 1) := by decide +kernel
theorem d_Mo_effect_14 : decode b_Mo_effect 14 = .ok (.istore_n 3, 1) := by decide +kernel
theorem d_Mo_effect_15 : decode b_Mo_effect 15 = .ok (.aload_n 0, 1) := by decide +kernel
theorem d_Mo_effect_16 : decode b_Mo_effect 16 = .ok (.getfield 28, 3) := by decide +kernel
theorem d_Mo_effect_19 : decode b_Mo_effect 19 = .ok (.bipush 30, 2) := by decide +kernel
theorem d_Mo_effect_21 : decode b_Mo_effect 21 = .ok (.iload_n 1, 1) := by decide +kernel
theorem d_Mo_effect_22 : decode b_Mo_effect 22 = .ok (.imul, 1) := by decide +kernel
theorem d_Mo_effect_23 : decode b_Mo_effect 23 = .ok (.iload_n 3, 1) := by decide +kernel
theorem d_Mo_effect_24 : decode b_Mo_effect 24 = .ok (.iadd, 1) := by decide +kernel
theorem d_Mo_effect_25 : decode b_Mo_effect 25 = .ok (.iload_n 2, 1) := by decide +kernel
theorem d_Mo_effect_26 : decode b_Mo_effect 26 = .ok (.bipush (-10), 2) := by decide +kernel
theorem d_Mo_effect_28 : decode b_Mo_effect 28 = .ok (.if_icmp .gt 7, 3) := by decide +kernel
theorem d_Mo_effect_31 : decode b_Mo_effect 31 = .ok (.iconst 2, 1) := by decide +kernel
theorem d_Mo_effect_32 : decode b_Mo_effect 32 = .ok (.goto 4, 3) := by decide +kernel
theorem d_Mo_effect_35 : decode b_Mo_effect 35 = .ok (.iconst 1, 1) := by decide +kernel
theorem d_Mo_effect_36 : decode b_Mo_effect 36 = .ok (.iastore, 1) := by decide +kernel
theorem d_Mo_effect_37 : decode b_Mo_effect 37 = .ok (.return_, 1) := by decide +kernel
theorem d_Mo_end_0 : decode b_Mo_end 0 = .ok (.iconst 0, 1) := by decide +kernel
theorem d_Mo_end_1 : decode b_Mo_end 1 = .ok (.istore_n 2, 1) := by decide +kernel
theorem d_Mo_end_2 : decode b_Mo_end 2 = .ok (.iconst 0, 1) := by decide +kernel
theorem d_Mo_end_3 : decode b_Mo_end 3 = .ok (.istore_n 3, 1) := by decide +kernel
theorem d_Mo_end_4 : decode b_Mo_end 4 = .ok (.iload_n 3, 1) := by decide +kernel
theorem d_Mo_end_5 : decode b_Mo_end 5 = .ok (.aload_n 0, 1) := by decide +kernel
theorem d_Mo_end_6 : decode b_Mo_end 6 = .ok (.getfield 43, 3) := by decide +kernel
theorem d_Mo_end_9 : decode b_Mo_end 9 = .ok (.if_icmp .ge 31, 3) := by decide +kernel
theorem d_Mo_end_12 : decode b_Mo_end 12 = .ok (.aload_n 0, 1) := by decide +kernel
theorem d_Mo_end_13 : decode b_Mo_end 13 = .ok (.aload_n 0, 1) := by decide +kernel
theorem d_Mo_end_14 : decode b_Mo_end 14 = .ok (.getfield 25, 3) := by decide +kernel
theorem d_Mo_end_17 : decode b_Mo_end 17 = .ok (.iload_n 3, 1) := by decide +kernel
theorem d_Mo_end_18 : decode b_Mo_end 18 = .ok (.iaload, 1) := by decide +kernel
theorem d_Mo_end_19 : decode b_Mo_end 19 = .ok (.iload_n 1, 1) := by decide +kernel
theorem d_Mo_end_20 : decode b_Mo_end 20 = .ok (.invokevirtual 47, 3) := by decide +kernel
theorem d_Mo_end_23 : decode b_Mo_end 23 = .ok (.ifCond .eq 9, 3) := by decide +kernel
theorem d_Mo_end_26 : decode b_Mo_end 26 = .ok (.iload_n 3, 1) := by decide +kernel
theorem d_Mo_end_27 : decode b_Mo_end 27 = .ok (.iconst 1, 1) := by decide +kernel
theorem d_Mo_end_28 : decode b_Mo_end 28 = .ok (.iadd, 1) := by decide +kernel
theorem d_Mo_end_29 : decode b_Mo_end 29 = .ok (.goto 4, 3) := by decide +kernel
theorem d_Mo_end_32 : decode b_Mo_end 32 = .ok (.iload_n 2, 1) := by decide +kernel
theorem d_Mo_end_33 : decode b_Mo_end 33 = .ok (.istore_n 2, 1) := by decide +kernel
theorem d_Mo_end_34 : decode b_Mo_end 34 = .ok (.iinc 3 1, 3) := by decide +kernel
theorem d_Mo_end_37 : decode b_Mo_end 37 = .ok (.goto (-33), 3) := by decide +kernel
theorem d_Mo_end_40 : decode b_Mo_end 40 = .ok (.iload_n 2, 1) := by decide +kernel
theorem d_Mo_end_41 : decode b_Mo_end 41 = .ok (.ireturn, 1) := by decide +kernel
theorem d_Mo_erase_0 : decode b_Mo_erase 0 = .ok (.iload_n 1, 1) := by decide +kernel
theorem d_Mo_erase_1 : decode b_Mo_erase 1 = .ok (.invokestatic 78, 3) := by decide +kernel
theorem d_Mo_erase_4 : decode b_Mo_erase 4 = .ok (.ifCond .eq 18, 3) := by decide +kernel
theorem d_Mo_erase_7 : decode b_Mo_erase 7 = .ok (.iload_n 2, 1) := by decide +kernel
theorem d_Mo_erase_8 : decode b_Mo_erase 8 = .ok (.ifCond .lt 14, 3) := by decide +kernel
theorem d_Mo_erase_11 : decode b_Mo_erase 11 = .ok (.iload_n 2, 1) := by decide +kernel
theorem d_Mo_erase_12 : decode b_Mo_erase 12 = .ok (.aload_n 0, 1) := by decide +kernel
theorem d_Mo_erase_13 : decode b_Mo_erase 13 = .ok (.iload_n 1, 1) := by decide +kernel
theorem d_Mo_erase_14 : decode b_Mo_erase 14 = .ok (.iconst 1, 1) := by decide +kernel
theorem d_Mo_erase_15 : decode b_Mo_erase 15 = .ok (.iconst 1, 1) := by decide +kernel
theorem d_Mo_erase_16 : decode b_Mo_erase 16 = .ok (.invokevirtual 85, 3) := by decide +kernel
theorem d_Mo_erase_19 : decode b_Mo_erase 19 = .ok (.if_icmp .lt 5, 3) := by decide +kernel
theorem d_Mo_erase_22 : decode b_Mo_erase 22 = .ok (.iconst (-1), 1) := by decide +kernel
theorem d_Mo_erase_23 : decode b_Mo_erase 23 = .ok (.ireturn, 1) := by decide +kernel
theorem d_Mo_erase_24 : decode b_Mo_erase 24 = .ok (.aload_n 0, 1) := by decide +kernel
theorem d_Mo_erase_25 : decode b_Mo_erase 25 = .ok (.iload_n 1, 1) := by decide +kernel
theorem d_Mo_erase_26 : decode b_Mo_erase 26 = .ok (.invokevirtual 89, 3) := by decide +kernel
theorem d_Mo_erase_29 : decode b_Mo_erase 29 = .ok (.ifCond .eq 6, 3) := by decide +kernel
theorem d_Mo_erase_32 : decode b_Mo_erase 32 = .ok (.bipush (-2), 2) := by decide +kernel
theorem d_Mo_erase_34 : decode b_Mo_erase 34 = .ok (.ireturn, 1) := by decide +kernel
theorem d_Mo_erase_35 : decode b_Mo_erase 35 = .ok (.aload_n 0, 1) := by decide +kernel
theorem d_Mo_erase_36 : decode b_Mo_erase 36 = .ok (.iload_n 1, 1) := by decide +kernel
theorem d_Mo_erase_37 : decode b_Mo_erase 37 = .ok (.iload_n 2, 1) := by decide +kernel
theorem d_Mo_erase_38 : decode b_Mo_erase 38 = .ok (.iconst 1, 1) := by decide +kernel
theorem d_Mo_erase_39 : decode b_Mo_erase 39 = .ok (.invokevirtual 92, 3) := by decide +kernel
theorem d_Mo_erase_42 : decode b_Mo_erase 42 = .ok (.istore_n 3, 1) := by decide +kernel
theorem d_Mo_erase_43 : decode b_Mo_erase 43 = .ok (.aload_n 0, 1) := by decide +kernel
theorem d_Mo_erase_44 : decode b_Mo_erase 44 = .ok (.getfield 28, 3) := by decide +kernel
theorem d_Mo_erase_47 : decode b_Mo_erase 47 = .ok (.bipush 30, 2) := by decide +kernel
theorem d_Mo_erase_49 : decode b_Mo_erase 49 = .ok (.iload_n 1, 1) := by decide +kernel
theorem d_Mo_erase_50 : decode b_Mo_erase 50 = .ok (.imul, 1) := by decide +kernel
theorem d_Mo_erase_51 : decode b_Mo_erase 51 = .ok (.iload_n 3, 1) := by decide +kernel
theorem d_Mo_erase_52 : decode b_Mo_erase 52 = .ok (.iadd, 1) := by decide +kernel
theorem d_Mo_erase_53 : decode b_Mo_erase 53 = .ok (.iconst 2, 1) := by decide +kernel
theorem d_Mo_erase_54 : decode b_Mo_erase 54 = .ok (.iastore, 1) := by decide +kernel
theorem d_Mo_erase_55 : decode b_Mo_erase 55 = .ok (.aload_n 0, 1) := by decide +kernel
theorem d_Mo_erase_56 : decode b_Mo_erase 56 = .ok (.iload_n 1, 1) := by decide +kernel
theorem d_Mo_erase_57 : decode b_Mo_erase 57 = .ok (.bipush (-10), 2) := by decide +kernel
theorem d_Mo_erase_59 : decode b_Mo_erase 59 = .ok (.iload_n 3, 1) := by decide +kernel
theorem d_Mo_erase_60 : decode b_Mo_erase 60 = .ok (.isub, 1) := by decide +kernel
theorem d_Mo_erase_61 : decode b_Mo_erase 61 = .ok (.invokevirtual 105, 3) := by decide +kernel
theorem d_Mo_erase_64 : decode b_Mo_erase 64 = .ok (.iload_n 3, 1) := by decide +kernel
theorem d_Mo_erase_65 : decode b_Mo_erase 65 = .ok (.ireturn, 1) := by decide +kernel
theorem d_Mo_hasRight_0 : decode b_Mo_hasRight 0 = .ok (.iconst 0, 1) := by decide +kernel
theorem d_Mo_hasRight_1 : decode b_Mo_hasRight 1 = .ok (.istore_n 3, 1) := by decide +kernel
theorem d_Mo_hasRight_2 : decode b_Mo_hasRight 2 = .ok (.iconst 0, 1) := by decide +kernel
theorem d_Mo_hasRight_3 : decode b_Mo_hasRight 3 = .ok (.istore 4, 2) := by decide +kernel
theorem d_Mo_hasRight_5 : decode b_Mo_hasRight 5 = .ok (.iload 4, 2) := by decide +kernel
theorem d_Mo_hasRight_7 : decode b_Mo_hasRight 7 = .ok (.aload_n 0, 1) := by decide +kernel
theorem d_Mo_hasRight_8 : decode b_Mo_hasRight 8 = .ok (.getfield 43, 3) := by decide +kernel
theorem d_Mo_hasRight_11 : decode b_Mo_hasRight 11 = .ok (.if_icmp .ge 51, 3) := by decide +kernel
theorem d_Mo_hasRight_14 : decode b_Mo_hasRight 14 = .ok (.iload_n 3, 1) := by decide +kernel
theorem d_Mo_hasRight_15 : decode b_Mo_hasRight 15 = .ok (.ifCond .ne 35, 3) := by decide +kernel
theorem d_Mo_hasRight_18 : decode b_Mo_hasRight 18 = .ok (.aload_n 0, 1) := by decide +kernel
theorem d_Mo_hasRight_19 : decode b_Mo_hasRight 19 = .ok (.iload_n 1, 1) := by decide +kernel
theorem d_Mo_hasRight_20 : decode b_Mo_hasRight 20 = .ok (.iload 4, 2) := by decide +kernel
theorem d_Mo_hasRight_22 : decode b_Mo_hasRight 22 = .ok (.invokevirtual 64, 3) := by decide +kernel
theorem d_Mo_hasRight_25 : decode b_Mo_hasRight 25 = .ok (.ifCond .le 29, 3) := by decide +kernel
theorem d_Mo_hasRight_28 : decode b_Mo_hasRight 28 = .ok (.aload_n 0, 1) := by decide +kernel
theorem d_Mo_hasRight_29 : decode b_Mo_hasRight 29 = .ok (.getfield 16, 3) := by decide +kernel
theorem d_Mo_hasRight_32 : decode b_Mo_hasRight 32 = .ok (.iload 4, 2) := by decide +kernel
theorem d_Mo_hasRight_34 : decode b_Mo_hasRight 34 = .ok (.iaload, 1) := by decide +kernel
theorem d_Mo_hasRight_35 : decode b_Mo_hasRight 35 = .ok (.iload_n 2, 1) := by decide +kernel
theorem d_Mo_hasRight_36 : decode b_Mo_hasRight 36 = .ok (.if_icmp .ne 18, 3) := by decide +kernel
theorem d_Mo_hasRight_39 : decode b_Mo_hasRight 39 = .ok (.aload_n 0, 1) := by decide +kernel
theorem d_Mo_hasRight_40 : decode b_Mo_hasRight 40 = .ok (.getfield 19, 3) := by decide +kernel
theorem d_Mo_hasRight_43 : decode b_Mo_hasRight 43 = .ok (.iload 4, 2) := by decide +kernel
theorem d_Mo_hasRight_45 : decode b_Mo_hasRight 45 = .ok (.iaload, 1) := by decide +kernel
theorem d_Mo_hasRight_46 : decode b_Mo_hasRight 46 = .ok (.iconst 1, 1) := by decide +kernel
theorem d_Mo_hasRight_47 : decode b_Mo_hasRight 47 = .ok (.if_icmp .ne 7, 3) := by decide +kernel
theorem d_Mo_hasRight_50 : decode b_Mo_hasRight 50 = .ok (.iconst 1, 1) := by decide +kernel
theorem d_Mo_hasRight_51 : decode b_Mo_hasRight 51 = .ok (.goto 4, 3) := by decide +kernel
theorem d_Mo_hasRight_54 : decode b_Mo_hasRight 54 = .ok (.iconst 0, 1) := by decide +kernel
theorem d_Mo_hasRight_55 : decode b_Mo_hasRight 55 = .ok (.istore_n 3, 1) := by decide +kernel
theorem d_Mo_hasRight_56 : decode b_Mo_hasRight 56 = .ok (.iinc 4 1, 3) := by decide +kernel
theorem d_Mo_hasRight_59 : decode b_Mo_hasRight 59 = .ok (.goto (-54), 3) := by decide +kernel
theorem d_Mo_hasRight_62 : decode b_Mo_hasRight 62 = .ok (.iload_n 3, 1) := by decide +kernel
theorem d_Mo_hasRight_63 : decode b_Mo_hasRight 63 = .ok (.ireturn, 1) := by decide +kernel
theorem d_Mo_home_0 : decode b_Mo_home 0 = .ok (.aload_n 0, 1) := by decide +kernel
theorem d_Mo_home_1 : decode b_Mo_home 1 = .ok (.getfield 19, 3) := by decide +kernel
theorem d_Mo_home_4 : decode b_Mo_home 4 = .ok (.iload_n 1, 1) := by decide +kernel
theorem d_Mo_home_5 : decode b_Mo_home 5 = .ok (.iaload, 1) := by decide +kernel
theorem d_Mo_home_6 : decode b_Mo_home 6 = .ok (.ifCond .ne 16, 3) := by decide +kernel
theorem d_Mo_home_9 : decode b_Mo_home 9 = .ok (.aload_n 0, 1) := by decide +kernel
theorem d_Mo_home_10 : decode b_Mo_home 10 = .ok (.aload_n 0, 1) := by decide +kernel
theorem d_Mo_home_11 : decode b_Mo_home 11 = .ok (.getfield 16, 3) := by decide +kernel
theorem d_Mo_home_14 : decode b_Mo_home 14 = .ok (.iload_n 1, 1) := by decide +kernel
theorem d_Mo_home_15 : decode b_Mo_home 15 = .ok (.iaload, 1) := by decide +kernel
theorem d_Mo_home_16 : decode b_Mo_home 16 = .ok (.invokevirtual 51, 3) := by decide +kernel
theorem d_Mo_home_19 : decode b_Mo_home 19 = .ok (.goto 29, 3) := by decide +kernel
theorem d_Mo_home_22 : decode b_Mo_home 22 = .ok (.aload_n 0, 1) := by decide +kernel
theorem d_Mo_home_23 : decode b_Mo_home 23 = .ok (.getfield 16, 3) := by decide +kernel
theorem d_Mo_home_26 : decode b_Mo_home 26 = .ok (.iload_n 1, 1) := by decide +kernel
theorem d_Mo_home_27 : decode b_Mo_home 27 = .ok (.iaload, 1) := by decide +kernel
theorem d_Mo_home_28 : decode b_Mo_home 28 = .ok (.ifCond .ge 10, 3) := by decide +kernel
theorem d_Mo_home_31 : decode b_Mo_home 31 = .ok (.aload_n 0, 1) := by decide +kernel
theorem d_Mo_home_32 : decode b_Mo_home 32 = .ok (.getfield 43, 3) := by decide +kernel
theorem d_Mo_home_35 : decode b_Mo_home 35 = .ok (.goto 13, 3) := by decide +kernel
theorem d_Mo_home_38 : decode b_Mo_home 38 = .ok (.aload_n 0, 1) := by decide +kernel
theorem d_Mo_home_39 : decode b_Mo_home 39 = .ok (.aload_n 0, 1) := by decide +kernel
theorem d_Mo_home_40 : decode b_Mo_home 40 = .ok (.getfield 16, 3) := by decide +kernel
theorem d_Mo_home_43 : decode b_Mo_home 43 = .ok (.iload_n 1, 1) := by decide +kernel
theorem d_Mo_home_44 : decode b_Mo_home 44 = .ok (.iaload, 1) := by decide +kernel
theorem d_Mo_home_45 : decode b_Mo_home 45 = .ok (.invokevirtual 55, 3) := by decide +kernel
theorem d_Mo_home_48 : decode b_Mo_home 48 = .ok (.istore_n 2, 1) := by decide +kernel
theorem d_Mo_home_49 : decode b_Mo_home 49 = .ok (.aload_n 0, 1) := by decide +kernel
theorem d_Mo_home_50 : decode b_Mo_home 50 = .ok (.getfield 43, 3) := by decide +kernel
theorem d_Mo_home_53 : decode b_Mo_home 53 = .ok (.iconst 1, 1) := by decide +kernel
theorem d_Mo_home_54 : decode b_Mo_home 54 = .ok (.isub, 1) := by decide +kernel
theorem d_Mo_home_55 : decode b_Mo_home 55 = .ok (.istore_n 3, 1) := by decide +kernel
theorem d_Mo_home_56 : decode b_Mo_home 56 = .ok (.iload_n 3, 1) := by decide +kernel
theorem d_Mo_home_57 : decode b_Mo_home 57 = .ok (.ifCond .lt 92, 3) := by decide +kernel
theorem d_Mo_home_60 : decode b_Mo_home 60 = .ok (.aload_n 0, 1) := by decide +kernel
theorem d_Mo_home_61 : decode b_Mo_home 61 = .ok (.getfield 25, 3) := by decide +kernel
theorem d_Mo_home_64 : decode b_Mo_home 64 = .ok (.iload_n 3, 1) := by decide +kernel
theorem d_Mo_home_65 : decode b_Mo_home 65 = .ok (.iaload, 1) := by decide +kernel
theorem d_Mo_home_66 : decode b_Mo_home 66 = .ok (.istore 4, 2) := by decide +kernel
theorem d_Mo_home_68 : decode b_Mo_home 68 = .ok (.aload_n 0, 1) := by decide +kernel
theorem d_Mo_home_69 : decode b_Mo_home 69 = .ok (.getfield 16, 3) := by decide +kernel
theorem d_Mo_home_72 : decode b_Mo_home 72 = .ok (.iload 4, 2) := by decide +kernel
theorem d_Mo_home_74 : decode b_Mo_home 74 = .ok (.iaload, 1) := by decide +kernel
theorem d_Mo_home_75 : decode b_Mo_home 75 = .ok (.aload_n 0, 1) := by decide +kernel
theorem d_Mo_home_76 : decode b_Mo_home 76 = .ok (.getfield 16, 3) := by decide +kernel
theorem d_Mo_home_79 : decode b_Mo_home 79 = .ok (.iload_n 1, 1) := by decide +kernel
theorem d_Mo_home_80 : decode b_Mo_home 80 = .ok (.iaload, 1) := by decide +kernel
theorem d_Mo_home_81 : decode b_Mo_home 81 = .ok (.if_icmp .ne 23, 3) := by decide +kernel
theorem d_Mo_home_84 : decode b_Mo_home 84 = .ok (.aload_n 0, 1) := by decide +kernel
theorem d_Mo_home_85 : decode b_Mo_home 85 = .ok (.getfield 19, 3) := by decide +kernel
theorem d_Mo_home_88 : decode b_Mo_home 88 = .ok (.iload 4, 2) := by decide +kernel
theorem d_Mo_home_90 : decode b_Mo_home 90 = .ok (.iaload, 1) := by decide +kernel
theorem d_Mo_home_91 : decode b_Mo_home 91 = .ok (.aload_n 0, 1) := by decide +kernel
theorem d_Mo_home_92 : decode b_Mo_home 92 = .ok (.getfield 19, 3) := by decide +kernel
theorem d_Mo_home_95 : decode b_Mo_home 95 = .ok (.iload_n 1, 1) := by decide +kernel
theorem d_Mo_home_96 : decode b_Mo_home 96 = .ok (.iaload, 1) := by decide +kernel
theorem d_Mo_home_97 : decode b_Mo_home 97 = .ok (.if_icmp .ne 7, 3) := by decide +kernel
theorem d_Mo_home_100 : decode b_Mo_home 100 = .ok (.iconst 1, 1) := by decide +kernel
theorem d_Mo_home_101 : decode b_Mo_home 101 = .ok (.goto 4, 3) := by decide +kernel
theorem d_Mo_home_104 : decode b_Mo_home 104 = .ok (.iconst 0, 1) := by decide +kernel
theorem d_Mo_home_105 : decode b_Mo_home 105 = .ok (.istore 5, 2) := by decide +kernel
theorem d_Mo_home_107 : decode b_Mo_home 107 = .ok (.iload 5, 2) := by decide +kernel
theorem d_Mo_home_109 : decode b_Mo_home 109 = .ok (.ifCond .eq 32, 3) := by decide +kernel
theorem d_Mo_home_112 : decode b_Mo_home 112 = .ok (.aload_n 0, 1) := by decide +kernel
theorem d_Mo_home_113 : decode b_Mo_home 113 = .ok (.iload_n 1, 1) := by decide +kernel
theorem d_Mo_home_114 : decode b_Mo_home 114 = .ok (.iload 4, 2) := by decide +kernel
theorem d_Mo_home_116 : decode b_Mo_home 116 = .ok (.invokevirtual 58, 3) := by decide +kernel
theorem d_Mo_home_119 : decode b_Mo_home 119 = .ok (.ifCond .eq 22, 3) := by decide +kernel
theorem d_Mo_home_122 : decode b_Mo_home 122 = .ok (.aload_n 0, 1) := by decide +kernel
theorem d_Mo_home_123 : decode b_Mo_home 123 = .ok (.iload 4, 2) := by decide +kernel
theorem d_Mo_home_125 : decode b_Mo_home 125 = .ok (.invokevirtual 61, 3) := by decide +kernel
theorem d_Mo_home_128 : decode b_Mo_home 128 = .ok (.iload_n 2, 1) := by decide +kernel
theorem d_Mo_home_129 : decode b_Mo_home 129 = .ok (.if_icmp .ge 12, 3) := by decide +kernel
theorem d_Mo_home_132 : decode b_Mo_home 132 = .ok (.aload_n 0, 1) := by decide +kernel
theorem d_Mo_home_133 : decode b_Mo_home 133 = .ok (.iload 4, 2) := by decide +kernel
theorem d_Mo_home_135 : decode b_Mo_home 135 = .ok (.invokevirtual 61, 3) := by decide +kernel
theorem d_Mo_home_138 : decode b_Mo_home 138 = .ok (.goto 4, 3) := by decide +kernel
theorem d_Mo_home_141 : decode b_Mo_home 141 = .ok (.iload_n 2, 1) := by decide +kernel
theorem d_Mo_home_142 : decode b_Mo_home 142 = .ok (.istore_n 2, 1) := by decide +kernel
theorem d_Mo_home_143 : decode b_Mo_home 143 = .ok (.iinc 3 (-1), 3) := by decide +kernel
theorem d_Mo_home_146 : decode b_Mo_home 146 = .ok (.goto (-90), 3) := by decide +kernel
theorem d_Mo_home_149 : decode b_Mo_home 149 = .ok (.iload_n 2, 1) := by decide +kernel
theorem d_Mo_home_150 : decode b_Mo_home 150 = .ok (.ireturn, 1) := by decide +kernel
theorem d_Mo_init_0 : decode b_Mo_init 0 = .ok (.aload_n 0, 1) := by decide +kernel
theorem d_Mo_init_1 : decode b_Mo_init 1 = .ok (.invokespecial 1, 3) := by decide +kernel
theorem d_Mo_init_4 : decode b_Mo_init 4 = .ok (.aload_n 0, 1) := by decide +kernel
theorem d_Mo_init_5 : decode b_Mo_init 5 = .ok (.bipush 30, 2) := by decide +kernel
theorem d_Mo_init_7 : decode b_Mo_init 7 = .ok (.newarray .int, 2) := by decide +kernel
theorem d_Mo_init_9 : decode b_Mo_init 9 = .ok (.putfield 7, 3) := by decide +kernel
theorem d_Mo_init_12 : decode b_Mo_init 12 = .ok (.aload_n 0, 1) := by decide +kernel
theorem d_Mo_init_13 : decode b_Mo_init 13 = .ok (.bipush 30, 2) := by decide +kernel
theorem d_Mo_init_15 : decode b_Mo_init 15 = .ok (.newarray .int, 2) := by decide +kernel
theorem d_Mo_init_17 : decode b_Mo_init 17 = .ok (.putfield 13, 3) := by decide +kernel
theorem d_Mo_init_20 : decode b_Mo_init 20 = .ok (.aload_n 0, 1) := by decide +kernel
theorem d_Mo_init_21 : decode b_Mo_init 21 = .ok (.bipush 30, 2) := by decide +kernel
theorem d_Mo_init_23 : decode b_Mo_init 23 = .ok (.newarray .int, 2) := by decide +kernel
theorem d_Mo_init_25 : decode b_Mo_init 25 = .ok (.putfield 16, 3) := by decide +kernel
theorem d_Mo_init_28 : decode b_Mo_init 28 = .ok (.aload_n 0, 1) := by decide +kernel
theorem d_Mo_init_29 : decode b_Mo_init 29 = .ok (.bipush 30, 2) := by decide +kernel
theorem d_Mo_init_31 : decode b_Mo_init 31 = .ok (.newarray .int, 2) := by decide +kernel
theorem d_Mo_init_33 : decode b_Mo_init 33 = .ok (.putfield 19, 3) := by decide +kernel
theorem d_Mo_init_36 : decode b_Mo_init 36 = .ok (.aload_n 0, 1) := by decide +kernel
theorem d_Mo_init_37 : decode b_Mo_init 37 = .ok (.bipush 30, 2) := by decide +kernel
theorem d_Mo_init_39 : decode b_Mo_init 39 = .ok (.newarray .int, 2) := by decide +kernel
theorem d_Mo_init_41 : decode b_Mo_init 41 = .ok (.putfield 22, 3) := by decide +kernel
theorem d_Mo_init_44 : decode b_Mo_init 44 = .ok (.aload_n 0, 1) := by decide +kernel
theorem d_Mo_init_45 : decode b_Mo_init 45 = .ok (.bipush 30, 2) := by decide +kernel
theorem d_Mo_init_47 : decode b_Mo_init 47 = .ok (.newarray .int, 2) := by decide +kernel
theorem d_Mo_init_49 : decode b_Mo_init 49 = .ok (.putfield 25, 3) := by decide +kernel
theorem d_Mo_init_52 : decode b_Mo_init 52 = .ok (.aload_n 0, 1) := by decide +kernel
theorem d_Mo_init_53 : decode b_Mo_init 53 = .ok (.bipush 90, 2) := by decide +kernel
theorem d_Mo_init_55 : decode b_Mo_init 55 = .ok (.newarray .int, 2) := by decide +kernel
theorem d_Mo_init_57 : decode b_Mo_init 57 = .ok (.putfield 28, 3) := by decide +kernel
theorem d_Mo_init_60 : decode b_Mo_init 60 = .ok (.aload_n 0, 1) := by decide +kernel
theorem d_Mo_init_61 : decode b_Mo_init 61 = .ok (.sipush 270, 3) := by decide +kernel
theorem d_Mo_init_64 : decode b_Mo_init 64 = .ok (.newarray .int, 2) := by decide +kernel
theorem d_Mo_init_66 : decode b_Mo_init 66 = .ok (.putfield 31, 3) := by decide +kernel
theorem d_Mo_init_69 : decode b_Mo_init 69 = .ok (.aload_n 0, 1) := by decide +kernel
theorem d_Mo_init_70 : decode b_Mo_init 70 = .ok (.iconst 3, 1) := by decide +kernel
theorem d_Mo_init_71 : decode b_Mo_init 71 = .ok (.newarray .int, 2) := by decide +kernel
theorem d_Mo_init_73 : decode b_Mo_init 73 = .ok (.putfield 34, 3) := by decide +kernel
theorem d_Mo_init_76 : decode b_Mo_init 76 = .ok (.aload_n 0, 1) := by decide +kernel
theorem d_Mo_init_77 : decode b_Mo_init 77 = .ok (.sipush 270, 3) := by decide +kernel
theorem d_Mo_init_80 : decode b_Mo_init 80 = .ok (.newarray .int, 2) := by decide +kernel
theorem d_Mo_init_82 : decode b_Mo_init 82 = .ok (.putfield 37, 3) := by decide +kernel
theorem d_Mo_init_85 : decode b_Mo_init 85 = .ok (.aload_n 0, 1) := by decide +kernel
theorem d_Mo_init_86 : decode b_Mo_init 86 = .ok (.iconst 3, 1) := by decide +kernel
theorem d_Mo_init_87 : decode b_Mo_init 87 = .ok (.newarray .int, 2) := by decide +kernel
theorem d_Mo_init_89 : decode b_Mo_init 89 = .ok (.putfield 40, 3) := by decide +kernel
theorem d_Mo_init_92 : decode b_Mo_init 92 = .ok (.return_, 1) := by decide +kernel
theorem d_Mo_insert_0 : decode b_Mo_insert 0 = .ok (.iload_n 1, 1) := by decide +kernel
theorem d_Mo_insert_1 : decode b_Mo_insert 1 = .ok (.invokestatic 78, 3) := by decide +kernel
theorem d_Mo_insert_4 : decode b_Mo_insert 4 = .ok (.ifCond .eq 18, 3) := by decide +kernel
theorem d_Mo_insert_7 : decode b_Mo_insert 7 = .ok (.iload_n 2, 1) := by decide +kernel
theorem d_Mo_insert_8 : decode b_Mo_insert 8 = .ok (.ifCond .lt 14, 3) := by decide +kernel
theorem d_Mo_insert_11 : decode b_Mo_insert 11 = .ok (.iload_n 2, 1) := by decide +kernel
theorem d_Mo_insert_12 : decode b_Mo_insert 12 = .ok (.aload_n 0, 1) := by decide +kernel
theorem d_Mo_insert_13 : decode b_Mo_insert 13 = .ok (.iload_n 1, 1) := by decide +kernel
theorem d_Mo_insert_14 : decode b_Mo_insert 14 = .ok (.iconst 1, 1) := by decide +kernel
theorem d_Mo_insert_15 : decode b_Mo_insert 15 = .ok (.iconst 1, 1) := by decide +kernel
theorem d_Mo_insert_16 : decode b_Mo_insert 16 = .ok (.invokevirtual 85, 3) := by decide +kernel
theorem d_Mo_insert_19 : decode b_Mo_insert 19 = .ok (.if_icmp .le 5, 3) := by decide +kernel
theorem d_Mo_insert_22 : decode b_Mo_insert 22 = .ok (.iconst (-1), 1) := by decide +kernel
theorem d_Mo_insert_23 : decode b_Mo_insert 23 = .ok (.ireturn, 1) := by decide +kernel
theorem d_Mo_insert_24 : decode b_Mo_insert 24 = .ok (.aload_n 0, 1) := by decide +kernel
theorem d_Mo_insert_25 : decode b_Mo_insert 25 = .ok (.getfield 43, 3) := by decide +kernel
theorem d_Mo_insert_28 : decode b_Mo_insert 28 = .ok (.bipush 30, 2) := by decide +kernel
theorem d_Mo_insert_30 : decode b_Mo_insert 30 = .ok (.if_icmp .eq 11, 3) := by decide +kernel
theorem d_Mo_insert_33 : decode b_Mo_insert 33 = .ok (.aload_n 0, 1) := by decide +kernel
theorem d_Mo_insert_34 : decode b_Mo_insert 34 = .ok (.iload_n 1, 1) := by decide +kernel
theorem d_Mo_insert_35 : decode b_Mo_insert 35 = .ok (.invokevirtual 89, 3) := by decide +kernel
theorem d_Mo_insert_38 : decode b_Mo_insert 38 = .ok (.ifCond .eq 6, 3) := by decide +kernel
theorem d_Mo_insert_41 : decode b_Mo_insert 41 = .ok (.bipush (-2), 2) := by decide +kernel
theorem d_Mo_insert_43 : decode b_Mo_insert 43 = .ok (.ireturn, 1) := by decide +kernel
theorem d_Mo_insert_44 : decode b_Mo_insert 44 = .ok (.iload_n 2, 1) := by decide +kernel
theorem d_Mo_insert_45 : decode b_Mo_insert 45 = .ok (.ifCond .ne 7, 3) := by decide +kernel
theorem d_Mo_insert_48 : decode b_Mo_insert 48 = .ok (.iconst (-1), 1) := by decide +kernel
theorem d_Mo_insert_49 : decode b_Mo_insert 49 = .ok (.goto 12, 3) := by decide +kernel
theorem d_Mo_insert_52 : decode b_Mo_insert 52 = .ok (.aload_n 0, 1) := by decide +kernel
theorem d_Mo_insert_53 : decode b_Mo_insert 53 = .ok (.iload_n 1, 1) := by decide +kernel
theorem d_Mo_insert_54 : decode b_Mo_insert 54 = .ok (.iload_n 2, 1) := by decide +kernel
theorem d_Mo_insert_55 : decode b_Mo_insert 55 = .ok (.iconst 1, 1) := by decide +kernel
theorem d_Mo_insert_56 : decode b_Mo_insert 56 = .ok (.isub, 1) := by decide +kernel
theorem d_Mo_insert_57 : decode b_Mo_insert 57 = .ok (.iconst 1, 1) := by decide +kernel
theorem d_Mo_insert_58 : decode b_Mo_insert 58 = .ok (.invokevirtual 92, 3) := by decide +kernel
theorem d_Mo_insert_61 : decode b_Mo_insert 61 = .ok (.istore 4, 2) := by decide +kernel
theorem d_Mo_insert_63 : decode b_Mo_insert 63 = .ok (.aload_n 0, 1) := by decide +kernel
theorem d_Mo_insert_64 : decode b_Mo_insert 64 = .ok (.iload_n 1, 1) := by decide +kernel
theorem d_Mo_insert_65 : decode b_Mo_insert 65 = .ok (.iload 4, 2) := by decide +kernel
theorem d_Mo_insert_67 : decode b_Mo_insert 67 = .ok (.invokevirtual 96, 3) := by decide +kernel
theorem d_Mo_insert_70 : decode b_Mo_insert 70 = .ok (.istore 5, 2) := by decide +kernel
theorem d_Mo_insert_72 : decode b_Mo_insert 72 = .ok (.aload_n 0, 1) := by decide +kernel
theorem d_Mo_insert_73 : decode b_Mo_insert 73 = .ok (.getfield 43, 3) := by decide +kernel
theorem d_Mo_insert_76 : decode b_Mo_insert 76 = .ok (.istore 6, 2) := by decide +kernel
theorem d_Mo_insert_78 : decode b_Mo_insert 78 = .ok (.aload_n 0, 1) := by decide +kernel
theorem d_Mo_insert_79 : decode b_Mo_insert 79 = .ok (.iload_n 1, 1) := by decide +kernel
theorem d_Mo_insert_80 : decode b_Mo_insert 80 = .ok (.iload 4, 2) := by decide +kernel
theorem d_Mo_insert_82 : decode b_Mo_insert 82 = .ok (.invokevirtual 99, 3) := by decide +kernel
theorem d_Mo_insert_85 : decode b_Mo_insert 85 = .ok (.istore 7, 2) := by decide +kernel
theorem d_Mo_insert_87 : decode b_Mo_insert 87 = .ok (.aload_n 0, 1) := by decide +kernel
theorem d_Mo_insert_88 : decode b_Mo_insert 88 = .ok (.getfield 7, 3) := by decide +kernel
theorem d_Mo_insert_91 : decode b_Mo_insert 91 = .ok (.iload 6, 2) := by decide +kernel
theorem d_Mo_insert_93 : decode b_Mo_insert 93 = .ok (.iload_n 1, 1) := by decide +kernel
theorem d_Mo_insert_94 : decode b_Mo_insert 94 = .ok (.iastore, 1) := by decide +kernel
theorem d_Mo_insert_95 : decode b_Mo_insert 95 = .ok (.aload_n 0, 1) := by decide +kernel
theorem d_Mo_insert_96 : decode b_Mo_insert 96 = .ok (.getfield 13, 3) := by decide +kernel
theorem d_Mo_insert_99 : decode b_Mo_insert 99 = .ok (.iload 6, 2) := by decide +kernel
theorem d_Mo_insert_101 : decode b_Mo_insert 101 = .ok (.iload_n 3, 1) := by decide +kernel
theorem d_Mo_insert_102 : decode b_Mo_insert 102 = .ok (.iastore, 1) := by decide +kernel
theorem d_Mo_insert_103 : decode b_Mo_insert 103 = .ok (.aload_n 0, 1) := by decide +kernel
theorem d_Mo_insert_104 : decode b_Mo_insert 104 = .ok (.getfield 16, 3) := by decide +kernel
theorem d_Mo_insert_107 : decode b_Mo_insert 107 = .ok (.iload 6, 2) := by decide +kernel
theorem d_Mo_insert_109 : decode b_Mo_insert 109 = .ok (.iload 7, 2) := by decide +kernel
theorem d_Mo_insert_111 : decode b_Mo_insert 111 = .ok (.ifCond .eq 8, 3) := by decide +kernel
theorem d_Mo_insert_114 : decode b_Mo_insert 114 = .ok (.iload 5, 2) := by decide +kernel
theorem d_Mo_insert_116 : decode b_Mo_insert 116 = .ok (.goto 5, 3) := by decide +kernel
theorem d_Mo_insert_119 : decode b_Mo_insert 119 = .ok (.iload 4, 2) := by decide +kernel
theorem d_Mo_insert_121 : decode b_Mo_insert 121 = .ok (.iastore, 1) := by decide +kernel
theorem d_Mo_insert_122 : decode b_Mo_insert 122 = .ok (.aload_n 0, 1) := by decide +kernel
theorem d_Mo_insert_123 : decode b_Mo_insert 123 = .ok (.getfield 19, 3) := by decide +kernel
theorem d_Mo_insert_126 : decode b_Mo_insert 126 = .ok (.iload 6, 2) := by decide +kernel
theorem d_Mo_insert_128 : decode b_Mo_insert 128 = .ok (.iload 7, 2) := by decide +kernel
theorem d_Mo_insert_130 : decode b_Mo_insert 130 = .ok (.ifCond .eq 7, 3) := by decide +kernel
theorem d_Mo_insert_133 : decode b_Mo_insert 133 = .ok (.iconst 0, 1) := by decide +kernel
theorem d_Mo_insert_134 : decode b_Mo_insert 134 = .ok (.goto 4, 3) := by decide +kernel
theorem d_Mo_insert_137 : decode b_Mo_insert 137 = .ok (.iconst 1, 1) := by decide +kernel
theorem d_Mo_insert_138 : decode b_Mo_insert 138 = .ok (.iastore, 1) := by decide +kernel
theorem d_Mo_insert_139 : decode b_Mo_insert 139 = .ok (.aload_n 0, 1) := by decide +kernel
theorem d_Mo_insert_140 : decode b_Mo_insert 140 = .ok (.getfield 22, 3) := by decide +kernel
theorem d_Mo_insert_143 : decode b_Mo_insert 143 = .ok (.iload 6, 2) := by decide +kernel
theorem d_Mo_insert_145 : decode b_Mo_insert 145 = .ok (.iload 5, 2) := by decide +kernel
theorem d_Mo_insert_147 : decode b_Mo_insert 147 = .ok (.iastore, 1) := by decide +kernel
theorem d_Mo_insert_148 : decode b_Mo_insert 148 = .ok (.aload_n 0, 1) := by decide +kernel
theorem d_Mo_insert_149 : decode b_Mo_insert 149 = .ok (.iload 6, 2) := by decide +kernel
theorem d_Mo_insert_151 : decode b_Mo_insert 151 = .ok (.invokevirtual 102, 3) := by decide +kernel
theorem d_Mo_insert_154 : decode b_Mo_insert 154 = .ok (.istore 8, 2) := by decide +kernel
theorem d_Mo_insert_156 : decode b_Mo_insert 156 = .ok (.aload_n 0, 1) := by decide +kernel
theorem d_Mo_insert_157 : decode b_Mo_insert 157 = .ok (.getfield 43, 3) := by decide +kernel
theorem d_Mo_insert_160 : decode b_Mo_insert 160 = .ok (.istore 9, 2) := by decide +kernel
theorem d_Mo_insert_162 : decode b_Mo_insert 162 = .ok (.iload 9, 2) := by decide +kernel
theorem d_Mo_insert_164 : decode b_Mo_insert 164 = .ok (.iload 8, 2) := by decide +kernel
theorem d_Mo_insert_166 : decode b_Mo_insert 166 = .ok (.if_icmp .le 25, 3) := by decide +kernel
theorem d_Mo_insert_169 : decode b_Mo_insert 169 = .ok (.aload_n 0, 1) := by decide +kernel
theorem d_Mo_insert_170 : decode b_Mo_insert 170 = .ok (.getfield 25, 3) := by decide +kernel
theorem d_Mo_insert_173 : decode b_Mo_insert 173 = .ok (.iload 9, 2) := by decide +kernel
theorem d_Mo_insert_175 : decode b_Mo_insert 175 = .ok (.aload_n 0, 1) := by decide +kernel
theorem d_Mo_insert_176 : decode b_Mo_insert 176 = .ok (.getfield 25, 3) := by decide +kernel
theorem d_Mo_insert_179 : decode b_Mo_insert 179 = .ok (.iload 9, 2) := by decide +kernel
theorem d_Mo_insert_181 : decode b_Mo_insert 181 = .ok (.iconst 1, 1) := by decide +kernel
theorem d_Mo_insert_182 : decode b_Mo_insert 182 = .ok (.isub, 1) := by decide +kernel
theorem d_Mo_insert_183 : decode b_Mo_insert 183 = .ok (.iaload, 1) := by decide +kernel
theorem d_Mo_insert_184 : decode b_Mo_insert 184 = .ok (.iastore, 1) := by decide +kernel
theorem d_Mo_insert_185 : decode b_Mo_insert 185 = .ok (.iinc 9 (-1), 3) := by decide +kernel
theorem d_Mo_insert_188 : decode b_Mo_insert 188 = .ok (.goto (-26), 3) := by decide +kernel
theorem d_Mo_insert_191 : decode b_Mo_insert 191 = .ok (.aload_n 0, 1) := by decide +kernel
theorem d_Mo_insert_192 : decode b_Mo_insert 192 = .ok (.getfield 25, 3) := by decide +kernel
theorem d_Mo_insert_195 : decode b_Mo_insert 195 = .ok (.iload 8, 2) := by decide +kernel
theorem d_Mo_insert_197 : decode b_Mo_insert 197 = .ok (.iload 6, 2) := by decide +kernel
theorem d_Mo_insert_199 : decode b_Mo_insert 199 = .ok (.iastore, 1) := by decide +kernel
theorem d_Mo_insert_200 : decode b_Mo_insert 200 = .ok (.aload_n 0, 1) := by decide +kernel
theorem d_Mo_insert_201 : decode b_Mo_insert 201 = .ok (.dup, 1) := by decide +kernel
theorem d_Mo_insert_202 : decode b_Mo_insert 202 = .ok (.getfield 43, 3) := by decide +kernel
theorem d_Mo_insert_205 : decode b_Mo_insert 205 = .ok (.iconst 1, 1) := by decide +kernel
theorem d_Mo_insert_206 : decode b_Mo_insert 206 = .ok (.iadd, 1) := by decide +kernel
theorem d_Mo_insert_207 : decode b_Mo_insert 207 = .ok (.putfield 43, 3) := by decide +kernel
theorem d_Mo_insert_210 : decode b_Mo_insert 210 = .ok (.aload_n 0, 1) := by decide +kernel
theorem d_Mo_insert_211 : decode b_Mo_insert 211 = .ok (.getfield 28, 3) := by decide +kernel
theorem d_Mo_insert_214 : decode b_Mo_insert 214 = .ok (.bipush 30, 2) := by decide +kernel
theorem d_Mo_insert_216 : decode b_Mo_insert 216 = .ok (.iload_n 1, 1) := by decide +kernel
theorem d_Mo_insert_217 : decode b_Mo_insert 217 = .ok (.imul, 1) := by decide +kernel
theorem d_Mo_insert_218 : decode b_Mo_insert 218 = .ok (.iload 6, 2) := by decide +kernel
theorem d_Mo_insert_220 : decode b_Mo_insert 220 = .ok (.iadd, 1) := by decide +kernel
theorem d_Mo_insert_221 : decode b_Mo_insert 221 = .ok (.iconst 1, 1) := by decide +kernel
theorem d_Mo_insert_222 : decode b_Mo_insert 222 = .ok (.iastore, 1) := by decide +kernel
theorem d_Mo_insert_223 : decode b_Mo_insert 223 = .ok (.aload_n 0, 1) := by decide +kernel
theorem d_Mo_insert_224 : decode b_Mo_insert 224 = .ok (.iload_n 1, 1) := by decide +kernel
theorem d_Mo_insert_225 : decode b_Mo_insert 225 = .ok (.iload 6, 2) := by decide +kernel
theorem d_Mo_insert_227 : decode b_Mo_insert 227 = .ok (.invokevirtual 105, 3) := by decide +kernel
theorem d_Mo_insert_230 : decode b_Mo_insert 230 = .ok (.iload 6, 2) := by decide +kernel
theorem d_Mo_insert_232 : decode b_Mo_insert 232 = .ok (.ireturn, 1) := by decide +kernel
theorem d_Mo_isElement_0 : decode b_Mo_isElement 0 = .ok (.iload_n 1, 1) := by decide +kernel
theorem d_Mo_isElement_1 : decode b_Mo_isElement 1 = .ok (.ifCond .lt 15, 3) := by decide +kernel
theorem d_Mo_isElement_4 : decode b_Mo_isElement 4 = .ok (.iload_n 1, 1) := by decide +kernel
theorem d_Mo_isElement_5 : decode b_Mo_isElement 5 = .ok (.aload_n 0, 1) := by decide +kernel
theorem d_Mo_isElement_6 : decode b_Mo_isElement 6 = .ok (.getfield 43, 3) := by decide +kernel
theorem d_Mo_isElement_9 : decode b_Mo_isElement 9 = .ok (.if_icmp .ge 7, 3) := by decide +kernel
theorem d_Mo_isElement_12 : decode b_Mo_isElement 12 = .ok (.iconst 1, 1) := by decide +kernel
theorem d_Mo_isElement_13 : decode b_Mo_isElement 13 = .ok (.goto 4, 3) := by decide +kernel
theorem d_Mo_isElement_16 : decode b_Mo_isElement 16 = .ok (.iconst 0, 1) := by decide +kernel
theorem d_Mo_isElement_17 : decode b_Mo_isElement 17 = .ok (.ireturn, 1) := by decide +kernel
theorem d_Mo_isReplica_0 : decode b_Mo_isReplica 0 = .ok (.iload_n 0, 1) := by decide +kernel
theorem d_Mo_isReplica_1 : decode b_Mo_isReplica 1 = .ok (.ifCond .lt 12, 3) := by decide +kernel
theorem d_Mo_isReplica_4 : decode b_Mo_isReplica 4 = .ok (.iload_n 0, 1) := by decide +kernel
theorem d_Mo_isReplica_5 : decode b_Mo_isReplica 5 = .ok (.iconst 2, 1) := by decide +kernel
theorem d_Mo_isReplica_6 : decode b_Mo_isReplica 6 = .ok (.if_icmp .gt 7, 3) := by decide +kernel
theorem d_Mo_isReplica_9 : decode b_Mo_isReplica 9 = .ok (.iconst 1, 1) := by decide +kernel
theorem d_Mo_isReplica_10 : decode b_Mo_isReplica 10 = .ok (.goto 4, 3) := by decide +kernel
theorem d_Mo_isReplica_13 : decode b_Mo_isReplica 13 = .ok (.iconst 0, 1) := by decide +kernel
theorem d_Mo_isReplica_14 : decode b_Mo_isReplica 14 = .ok (.ireturn, 1) := by decide +kernel
theorem d_Mo_known_0 : decode b_Mo_known 0 = .ok (.iload_n 1, 1) := by decide +kernel
theorem d_Mo_known_1 : decode b_Mo_known 1 = .ok (.invokestatic 78, 3) := by decide +kernel
theorem d_Mo_known_4 : decode b_Mo_known 4 = .ok (.ifCond .eq 13, 3) := by decide +kernel
theorem d_Mo_known_7 : decode b_Mo_known 7 = .ok (.aload_n 0, 1) := by decide +kernel
theorem d_Mo_known_8 : decode b_Mo_known 8 = .ok (.iload_n 1, 1) := by decide +kernel
theorem d_Mo_known_9 : decode b_Mo_known 9 = .ok (.iconst 1, 1) := by decide +kernel
theorem d_Mo_known_10 : decode b_Mo_known 10 = .ok (.iconst 2, 1) := by decide +kernel
theorem d_Mo_known_11 : decode b_Mo_known 11 = .ok (.invokevirtual 85, 3) := by decide +kernel
theorem d_Mo_known_14 : decode b_Mo_known 14 = .ok (.goto 4, 3) := by decide +kernel
theorem d_Mo_known_17 : decode b_Mo_known 17 = .ok (.iconst (-1), 1) := by decide +kernel
theorem d_Mo_known_18 : decode b_Mo_known 18 = .ok (.ireturn, 1) := by decide +kernel
theorem d_Mo_known0_0 : decode b_Mo_known0 0 = .ok (.iload_n 2, 1) := by decide +kernel
theorem d_Mo_known0_1 : decode b_Mo_known0 1 = .ok (.ifCond .lt 12, 3) := by decide +kernel
theorem d_Mo_known0_4 : decode b_Mo_known0 4 = .ok (.aload_n 0, 1) := by decide +kernel
theorem d_Mo_known0_5 : decode b_Mo_known0 5 = .ok (.iload_n 1, 1) := by decide +kernel
theorem d_Mo_known0_6 : decode b_Mo_known0 6 = .ok (.iload_n 2, 1) := by decide +kernel
theorem d_Mo_known0_7 : decode b_Mo_known0 7 = .ok (.invokevirtual 64, 3) := by decide +kernel
theorem d_Mo_known0_10 : decode b_Mo_known0 10 = .ok (.ifCond .le 7, 3) := by decide +kernel
theorem d_Mo_known0_13 : decode b_Mo_known0 13 = .ok (.iconst 1, 1) := by decide +kernel
theorem d_Mo_known0_14 : decode b_Mo_known0 14 = .ok (.goto 4, 3) := by decide +kernel
theorem d_Mo_known0_17 : decode b_Mo_known0 17 = .ok (.iconst 0, 1) := by decide +kernel
theorem d_Mo_known0_18 : decode b_Mo_known0 18 = .ok (.ireturn, 1) := by decide +kernel
theorem d_Mo_length_0 : decode b_Mo_length 0 = .ok (.iload_n 1, 1) := by decide +kernel
theorem d_Mo_length_1 : decode b_Mo_length 1 = .ok (.invokestatic 78, 3) := by decide +kernel
theorem d_Mo_length_4 : decode b_Mo_length 4 = .ok (.ifCond .eq 13, 3) := by decide +kernel
theorem d_Mo_length_7 : decode b_Mo_length 7 = .ok (.aload_n 0, 1) := by decide +kernel
theorem d_Mo_length_8 : decode b_Mo_length 8 = .ok (.iload_n 1, 1) := by decide +kernel
theorem d_Mo_length_9 : decode b_Mo_length 9 = .ok (.iconst 1, 1) := by decide +kernel
theorem d_Mo_length_10 : decode b_Mo_length 10 = .ok (.iconst 1, 1) := by decide +kernel
theorem d_Mo_length_11 : decode b_Mo_length 11 = .ok (.invokevirtual 85, 3) := by decide +kernel
theorem d_Mo_length_14 : decode b_Mo_length 14 = .ok (.goto 4, 3) := by decide +kernel
theorem d_Mo_length_17 : decode b_Mo_length 17 = .ok (.iconst (-1), 1) := by decide +kernel
theorem d_Mo_length_18 : decode b_Mo_length 18 = .ok (.ireturn, 1) := by decide +kernel
theorem d_Mo_made_0 : decode b_Mo_made 0 = .ok (.aload_n 0, 1) := by decide +kernel
theorem d_Mo_made_1 : decode b_Mo_made 1 = .ok (.getfield 43, 3) := by decide +kernel
theorem d_Mo_made_4 : decode b_Mo_made 4 = .ok (.ireturn, 1) := by decide +kernel
theorem d_Mo_many_0 : decode b_Mo_many 0 = .ok (.iconst 0, 1) := by decide +kernel
theorem d_Mo_many_1 : decode b_Mo_many 1 = .ok (.istore 4, 2) := by decide +kernel
theorem d_Mo_many_3 : decode b_Mo_many 3 = .ok (.iconst 0, 1) := by decide +kernel
theorem d_Mo_many_4 : decode b_Mo_many 4 = .ok (.istore 5, 2) := by decide +kernel
theorem d_Mo_many_6 : decode b_Mo_many 6 = .ok (.iload 5, 2) := by decide +kernel
theorem d_Mo_many_8 : decode b_Mo_many 8 = .ok (.aload_n 0, 1) := by decide +kernel
theorem d_Mo_many_9 : decode b_Mo_many 9 = .ok (.getfield 43, 3) := by decide +kernel
theorem d_Mo_many_12 : decode b_Mo_many 12 = .ok (.if_icmp .ge 42, 3) := by decide +kernel
theorem d_Mo_many_15 : decode b_Mo_many 15 = .ok (.aload_n 0, 1) := by decide +kernel
theorem d_Mo_many_16 : decode b_Mo_many 16 = .ok (.iload_n 1, 1) := by decide +kernel
theorem d_Mo_many_17 : decode b_Mo_many 17 = .ok (.iload 5, 2) := by decide +kernel
theorem d_Mo_many_19 : decode b_Mo_many 19 = .ok (.invokevirtual 64, 3) := by decide +kernel
theorem d_Mo_many_22 : decode b_Mo_many 22 = .ok (.iload_n 2, 1) := by decide +kernel
theorem d_Mo_many_23 : decode b_Mo_many 23 = .ok (.if_icmp .lt 21, 3) := by decide +kernel
theorem d_Mo_many_26 : decode b_Mo_many 26 = .ok (.aload_n 0, 1) := by decide +kernel
theorem d_Mo_many_27 : decode b_Mo_many 27 = .ok (.iload_n 1, 1) := by decide +kernel
theorem d_Mo_many_28 : decode b_Mo_many 28 = .ok (.iload 5, 2) := by decide +kernel
theorem d_Mo_many_30 : decode b_Mo_many 30 = .ok (.invokevirtual 64, 3) := by decide +kernel
theorem d_Mo_many_33 : decode b_Mo_many 33 = .ok (.iload_n 3, 1) := by decide +kernel
theorem d_Mo_many_34 : decode b_Mo_many 34 = .ok (.if_icmp .gt 10, 3) := by decide +kernel
theorem d_Mo_many_37 : decode b_Mo_many 37 = .ok (.iload 4, 2) := by decide +kernel
theorem d_Mo_many_39 : decode b_Mo_many 39 = .ok (.iconst 1, 1) := by decide +kernel
theorem d_Mo_many_40 : decode b_Mo_many 40 = .ok (.iadd, 1) := by decide +kernel
theorem d_Mo_many_41 : decode b_Mo_many 41 = .ok (.goto 5, 3) := by decide +kernel
theorem d_Mo_many_44 : decode b_Mo_many 44 = .ok (.iload 4, 2) := by decide +kernel
theorem d_Mo_many_46 : decode b_Mo_many 46 = .ok (.istore 4, 2) := by decide +kernel
theorem d_Mo_many_48 : decode b_Mo_many 48 = .ok (.iinc 5 1, 3) := by decide +kernel
theorem d_Mo_many_51 : decode b_Mo_many 51 = .ok (.goto (-45), 3) := by decide +kernel
theorem d_Mo_many_54 : decode b_Mo_many 54 = .ok (.iload 4, 2) := by decide +kernel
theorem d_Mo_many_56 : decode b_Mo_many 56 = .ok (.ireturn, 1) := by decide +kernel
theorem d_Mo_message_0 : decode b_Mo_message 0 = .ok (.iload_n 1, 1) := by decide +kernel
theorem d_Mo_message_1 : decode b_Mo_message 1 = .ok (.invokestatic 78, 3) := by decide +kernel
theorem d_Mo_message_4 : decode b_Mo_message 4 = .ok (.ifCond .ne 7, 3) := by decide +kernel
theorem d_Mo_message_7 : decode b_Mo_message 7 = .ok (.iconst (-1), 1) := by decide +kernel
theorem d_Mo_message_8 : decode b_Mo_message 8 = .ok (.goto 33, 3) := by decide +kernel
theorem d_Mo_message_11 : decode b_Mo_message 11 = .ok (.iload_n 2, 1) := by decide +kernel
theorem d_Mo_message_12 : decode b_Mo_message 12 = .ok (.ifCond .lt 13, 3) := by decide +kernel
theorem d_Mo_message_15 : decode b_Mo_message 15 = .ok (.iload_n 2, 1) := by decide +kernel
theorem d_Mo_message_16 : decode b_Mo_message 16 = .ok (.aload_n 0, 1) := by decide +kernel
theorem d_Mo_message_17 : decode b_Mo_message 17 = .ok (.getfield 34, 3) := by decide +kernel
theorem d_Mo_message_20 : decode b_Mo_message 20 = .ok (.iload_n 1, 1) := by decide +kernel
theorem d_Mo_message_21 : decode b_Mo_message 21 = .ok (.iaload, 1) := by decide +kernel
theorem d_Mo_message_22 : decode b_Mo_message 22 = .ok (.if_icmp .lt 8, 3) := by decide +kernel
theorem d_Mo_message_25 : decode b_Mo_message 25 = .ok (.bipush (-3), 2) := by decide +kernel
theorem d_Mo_message_27 : decode b_Mo_message 27 = .ok (.goto 14, 3) := by decide +kernel
theorem d_Mo_message_30 : decode b_Mo_message 30 = .ok (.aload_n 0, 1) := by decide +kernel
theorem d_Mo_message_31 : decode b_Mo_message 31 = .ok (.getfield 31, 3) := by decide +kernel
theorem d_Mo_message_34 : decode b_Mo_message 34 = .ok (.bipush 90, 2) := by decide +kernel
theorem d_Mo_message_36 : decode b_Mo_message 36 = .ok (.iload_n 1, 1) := by decide +kernel
theorem d_Mo_message_37 : decode b_Mo_message 37 = .ok (.imul, 1) := by decide +kernel
theorem d_Mo_message_38 : decode b_Mo_message 38 = .ok (.iload_n 2, 1) := by decide +kernel
theorem d_Mo_message_39 : decode b_Mo_message 39 = .ok (.iadd, 1) := by decide +kernel
theorem d_Mo_message_40 : decode b_Mo_message 40 = .ok (.iaload, 1) := by decide +kernel
theorem d_Mo_message_41 : decode b_Mo_message 41 = .ok (.ireturn, 1) := by decide +kernel
theorem d_Mo_next_0 : decode b_Mo_next 0 = .ok (.iload_n 2, 1) := by decide +kernel
theorem d_Mo_next_1 : decode b_Mo_next 1 = .ok (.ifCond .ge 7, 3) := by decide +kernel
theorem d_Mo_next_4 : decode b_Mo_next 4 = .ok (.iconst 0, 1) := by decide +kernel
theorem d_Mo_next_5 : decode b_Mo_next 5 = .ok (.goto 10, 3) := by decide +kernel
theorem d_Mo_next_8 : decode b_Mo_next 8 = .ok (.aload_n 0, 1) := by decide +kernel
theorem d_Mo_next_9 : decode b_Mo_next 9 = .ok (.iload_n 2, 1) := by decide +kernel
theorem d_Mo_next_10 : decode b_Mo_next 10 = .ok (.invokevirtual 51, 3) := by decide +kernel
theorem d_Mo_next_13 : decode b_Mo_next 13 = .ok (.iconst 1, 1) := by decide +kernel
theorem d_Mo_next_14 : decode b_Mo_next 14 = .ok (.iadd, 1) := by decide +kernel
theorem d_Mo_next_15 : decode b_Mo_next 15 = .ok (.istore_n 3, 1) := by decide +kernel
theorem d_Mo_next_16 : decode b_Mo_next 16 = .ok (.iload_n 3, 1) := by decide +kernel
theorem d_Mo_next_17 : decode b_Mo_next 17 = .ok (.aload_n 0, 1) := by decide +kernel
theorem d_Mo_next_18 : decode b_Mo_next 18 = .ok (.getfield 43, 3) := by decide +kernel
theorem d_Mo_next_21 : decode b_Mo_next 21 = .ok (.if_icmp .ge 30, 3) := by decide +kernel
theorem d_Mo_next_24 : decode b_Mo_next 24 = .ok (.aload_n 0, 1) := by decide +kernel
theorem d_Mo_next_25 : decode b_Mo_next 25 = .ok (.iload_n 1, 1) := by decide +kernel
theorem d_Mo_next_26 : decode b_Mo_next 26 = .ok (.aload_n 0, 1) := by decide +kernel
theorem d_Mo_next_27 : decode b_Mo_next 27 = .ok (.getfield 25, 3) := by decide +kernel
theorem d_Mo_next_30 : decode b_Mo_next 30 = .ok (.iload_n 3, 1) := by decide +kernel
theorem d_Mo_next_31 : decode b_Mo_next 31 = .ok (.iaload, 1) := by decide +kernel
theorem d_Mo_next_32 : decode b_Mo_next 32 = .ok (.invokevirtual 64, 3) := by decide +kernel
theorem d_Mo_next_35 : decode b_Mo_next 35 = .ok (.ifCond .le 10, 3) := by decide +kernel
theorem d_Mo_next_38 : decode b_Mo_next 38 = .ok (.aload_n 0, 1) := by decide +kernel
theorem d_Mo_next_39 : decode b_Mo_next 39 = .ok (.getfield 25, 3) := by decide +kernel
theorem d_Mo_next_42 : decode b_Mo_next 42 = .ok (.iload_n 3, 1) := by decide +kernel
theorem d_Mo_next_43 : decode b_Mo_next 43 = .ok (.iaload, 1) := by decide +kernel
theorem d_Mo_next_44 : decode b_Mo_next 44 = .ok (.ireturn, 1) := by decide +kernel
theorem d_Mo_next_45 : decode b_Mo_next 45 = .ok (.iinc 3 1, 3) := by decide +kernel
theorem d_Mo_next_48 : decode b_Mo_next 48 = .ok (.goto (-32), 3) := by decide +kernel
theorem d_Mo_next_51 : decode b_Mo_next 51 = .ok (.iconst (-1), 1) := by decide +kernel
theorem d_Mo_next_52 : decode b_Mo_next 52 = .ok (.ireturn, 1) := by decide +kernel
theorem d_Mo_noRoom_0 : decode b_Mo_noRoom 0 = .ok (.iconst 0, 1) := by decide +kernel
theorem d_Mo_noRoom_1 : decode b_Mo_noRoom 1 = .ok (.istore_n 2, 1) := by decide +kernel
theorem d_Mo_noRoom_2 : decode b_Mo_noRoom 2 = .ok (.iconst 0, 1) := by decide +kernel
theorem d_Mo_noRoom_3 : decode b_Mo_noRoom 3 = .ok (.istore_n 3, 1) := by decide +kernel
theorem d_Mo_noRoom_4 : decode b_Mo_noRoom 4 = .ok (.iload_n 3, 1) := by decide +kernel
theorem d_Mo_noRoom_5 : decode b_Mo_noRoom 5 = .ok (.iconst 3, 1) := by decide +kernel
theorem d_Mo_noRoom_6 : decode b_Mo_noRoom 6 = .ok (.if_icmp .ge 35, 3) := by decide +kernel
theorem d_Mo_noRoom_9 : decode b_Mo_noRoom 9 = .ok (.iload_n 2, 1) := by decide +kernel
theorem d_Mo_noRoom_10 : decode b_Mo_noRoom 10 = .ok (.ifCond .ne 19, 3) := by decide +kernel
theorem d_Mo_noRoom_13 : decode b_Mo_noRoom 13 = .ok (.iload_n 3, 1) := by decide +kernel
theorem d_Mo_noRoom_14 : decode b_Mo_noRoom 14 = .ok (.iload_n 1, 1) := by decide +kernel
theorem d_Mo_noRoom_15 : decode b_Mo_noRoom 15 = .ok (.if_icmp .eq 18, 3) := by decide +kernel
theorem d_Mo_noRoom_18 : decode b_Mo_noRoom 18 = .ok (.aload_n 0, 1) := by decide +kernel
theorem d_Mo_noRoom_19 : decode b_Mo_noRoom 19 = .ok (.getfield 34, 3) := by decide +kernel
theorem d_Mo_noRoom_22 : decode b_Mo_noRoom 22 = .ok (.iload_n 3, 1) := by decide +kernel
theorem d_Mo_noRoom_23 : decode b_Mo_noRoom 23 = .ok (.iaload, 1) := by decide +kernel
theorem d_Mo_noRoom_24 : decode b_Mo_noRoom 24 = .ok (.bipush 50, 2) := by decide +kernel
theorem d_Mo_noRoom_26 : decode b_Mo_noRoom 26 = .ok (.if_icmp .ne 7, 3) := by decide +kernel
theorem d_Mo_noRoom_29 : decode b_Mo_noRoom 29 = .ok (.iconst 1, 1) := by decide +kernel
theorem d_Mo_noRoom_30 : decode b_Mo_noRoom 30 = .ok (.goto 4, 3) := by decide +kernel
theorem d_Mo_noRoom_33 : decode b_Mo_noRoom 33 = .ok (.iconst 0, 1) := by decide +kernel
theorem d_Mo_noRoom_34 : decode b_Mo_noRoom 34 = .ok (.istore_n 2, 1) := by decide +kernel
theorem d_Mo_noRoom_35 : decode b_Mo_noRoom 35 = .ok (.iinc 3 1, 3) := by decide +kernel
theorem d_Mo_noRoom_38 : decode b_Mo_noRoom 38 = .ok (.goto (-34), 3) := by decide +kernel
theorem d_Mo_noRoom_41 : decode b_Mo_noRoom 41 = .ok (.iload_n 2, 1) := by decide +kernel
theorem d_Mo_noRoom_42 : decode b_Mo_noRoom 42 = .ok (.ireturn, 1) := by decide +kernel
theorem d_Mo_nth_0 : decode b_Mo_nth 0 = .ok (.iload_n 2, 1) := by decide +kernel
theorem d_Mo_nth_1 : decode b_Mo_nth 1 = .ok (.istore 4, 2) := by decide +kernel
theorem d_Mo_nth_3 : decode b_Mo_nth 3 = .ok (.iconst 0, 1) := by decide +kernel
theorem d_Mo_nth_4 : decode b_Mo_nth 4 = .ok (.istore 5, 2) := by decide +kernel
theorem d_Mo_nth_6 : decode b_Mo_nth 6 = .ok (.iload 5, 2) := by decide +kernel
theorem d_Mo_nth_8 : decode b_Mo_nth 8 = .ok (.aload_n 0, 1) := by decide +kernel
theorem d_Mo_nth_9 : decode b_Mo_nth 9 = .ok (.getfield 43, 3) := by decide +kernel
theorem d_Mo_nth_12 : decode b_Mo_nth 12 = .ok (.if_icmp .ge 55, 3) := by decide +kernel
theorem d_Mo_nth_15 : decode b_Mo_nth 15 = .ok (.aload_n 0, 1) := by decide +kernel
theorem d_Mo_nth_16 : decode b_Mo_nth 16 = .ok (.iload_n 1, 1) := by decide +kernel
theorem d_Mo_nth_17 : decode b_Mo_nth 17 = .ok (.aload_n 0, 1) := by decide +kernel
theorem d_Mo_nth_18 : decode b_Mo_nth 18 = .ok (.getfield 25, 3) := by decide +kernel
theorem d_Mo_nth_21 : decode b_Mo_nth 21 = .ok (.iload 5, 2) := by decide +kernel
theorem d_Mo_nth_23 : decode b_Mo_nth 23 = .ok (.iaload, 1) := by decide +kernel
theorem d_Mo_nth_24 : decode b_Mo_nth 24 = .ok (.invokevirtual 64, 3) := by decide +kernel
theorem d_Mo_nth_27 : decode b_Mo_nth 27 = .ok (.istore 6, 2) := by decide +kernel
theorem d_Mo_nth_29 : decode b_Mo_nth 29 = .ok (.iload 6, 2) := by decide +kernel
theorem d_Mo_nth_31 : decode b_Mo_nth 31 = .ok (.iconst 1, 1) := by decide +kernel
theorem d_Mo_nth_32 : decode b_Mo_nth 32 = .ok (.if_icmp .eq 13, 3) := by decide +kernel
theorem d_Mo_nth_35 : decode b_Mo_nth 35 = .ok (.iload 6, 2) := by decide +kernel
theorem d_Mo_nth_37 : decode b_Mo_nth 37 = .ok (.iconst 2, 1) := by decide +kernel
theorem d_Mo_nth_38 : decode b_Mo_nth 38 = .ok (.if_icmp .ne 23, 3) := by decide +kernel
theorem d_Mo_nth_41 : decode b_Mo_nth 41 = .ok (.iload_n 3, 1) := by decide +kernel
theorem d_Mo_nth_42 : decode b_Mo_nth 42 = .ok (.ifCond .ne 19, 3) := by decide +kernel
theorem d_Mo_nth_45 : decode b_Mo_nth 45 = .ok (.iload 4, 2) := by decide +kernel
theorem d_Mo_nth_47 : decode b_Mo_nth 47 = .ok (.ifCond .ne 11, 3) := by decide +kernel
theorem d_Mo_nth_50 : decode b_Mo_nth 50 = .ok (.aload_n 0, 1) := by decide +kernel
theorem d_Mo_nth_51 : decode b_Mo_nth 51 = .ok (.getfield 25, 3) := by decide +kernel
theorem d_Mo_nth_54 : decode b_Mo_nth 54 = .ok (.iload 5, 2) := by decide +kernel
theorem d_Mo_nth_56 : decode b_Mo_nth 56 = .ok (.iaload, 1) := by decide +kernel
theorem d_Mo_nth_57 : decode b_Mo_nth 57 = .ok (.ireturn, 1) := by decide +kernel
theorem d_Mo_nth_58 : decode b_Mo_nth 58 = .ok (.iinc 4 (-1), 3) := by decide +kernel
theorem d_Mo_nth_61 : decode b_Mo_nth 61 = .ok (.iinc 5 1, 3) := by decide +kernel
theorem d_Mo_nth_64 : decode b_Mo_nth 64 = .ok (.goto (-58), 3) := by decide +kernel
theorem d_Mo_nth_67 : decode b_Mo_nth 67 = .ok (.bipush (-3), 2) := by decide +kernel
theorem d_Mo_nth_69 : decode b_Mo_nth 69 = .ok (.ireturn, 1) := by decide +kernel
theorem d_Mo_ordered_0 : decode b_Mo_ordered 0 = .ok (.iload_n 1, 1) := by decide +kernel
theorem d_Mo_ordered_1 : decode b_Mo_ordered 1 = .ok (.invokestatic 78, 3) := by decide +kernel
theorem d_Mo_ordered_4 : decode b_Mo_ordered 4 = .ok (.ifCond .eq 13, 3) := by decide +kernel
theorem d_Mo_ordered_7 : decode b_Mo_ordered 7 = .ok (.aload_n 0, 1) := by decide +kernel
theorem d_Mo_ordered_8 : decode b_Mo_ordered 8 = .ok (.iload_n 1, 1) := by decide +kernel
theorem d_Mo_ordered_9 : decode b_Mo_ordered 9 = .ok (.iload_n 2, 1) := by decide +kernel
theorem d_Mo_ordered_10 : decode b_Mo_ordered 10 = .ok (.iconst 0, 1) := by decide +kernel
theorem d_Mo_ordered_11 : decode b_Mo_ordered 11 = .ok (.invokevirtual 92, 3) := by decide +kernel
theorem d_Mo_ordered_14 : decode b_Mo_ordered 14 = .ok (.goto 4, 3) := by decide +kernel
theorem d_Mo_ordered_17 : decode b_Mo_ordered 17 = .ok (.iconst (-1), 1) := by decide +kernel
theorem d_Mo_ordered_18 : decode b_Mo_ordered 18 = .ok (.ireturn, 1) := by decide +kernel
theorem d_Mo_placeOf_0 : decode b_Mo_placeOf 0 = .ok (.iconst 0, 1) := by decide +kernel
theorem d_Mo_placeOf_1 : decode b_Mo_placeOf 1 = .ok (.istore_n 2, 1) := by decide +kernel
theorem d_Mo_placeOf_2 : decode b_Mo_placeOf 2 = .ok (.iload_n 2, 1) := by decide +kernel
theorem d_Mo_placeOf_3 : decode b_Mo_placeOf 3 = .ok (.aload_n 0, 1) := by decide +kernel
theorem d_Mo_placeOf_4 : decode b_Mo_placeOf 4 = .ok (.getfield 43, 3) := by decide +kernel
theorem d_Mo_placeOf_7 : decode b_Mo_placeOf 7 = .ok (.if_icmp .ge 19, 3) := by decide +kernel
theorem d_Mo_placeOf_10 : decode b_Mo_placeOf 10 = .ok (.aload_n 0, 1) := by decide +kernel
theorem d_Mo_placeOf_11 : decode b_Mo_placeOf 11 = .ok (.getfield 25, 3) := by decide +kernel
theorem d_Mo_placeOf_14 : decode b_Mo_placeOf 14 = .ok (.iload_n 2, 1) := by decide +kernel
theorem d_Mo_placeOf_15 : decode b_Mo_placeOf 15 = .ok (.iaload, 1) := by decide +kernel
theorem d_Mo_placeOf_16 : decode b_Mo_placeOf 16 = .ok (.iload_n 1, 1) := by decide +kernel
theorem d_Mo_placeOf_17 : decode b_Mo_placeOf 17 = .ok (.if_icmp .eq 9, 3) := by decide +kernel
theorem d_Mo_placeOf_20 : decode b_Mo_placeOf 20 = .ok (.iinc 2 1, 3) := by decide +kernel
theorem d_Mo_placeOf_23 : decode b_Mo_placeOf 23 = .ok (.goto (-21), 3) := by decide +kernel
theorem d_Mo_placeOf_26 : decode b_Mo_placeOf 26 = .ok (.iload_n 2, 1) := by decide +kernel
theorem d_Mo_placeOf_27 : decode b_Mo_placeOf 27 = .ok (.ireturn, 1) := by decide +kernel
theorem d_Mo_ready_0 : decode b_Mo_ready 0 = .ok (.iload_n 2, 1) := by decide +kernel
theorem d_Mo_ready_1 : decode b_Mo_ready 1 = .ok (.bipush (-10), 2) := by decide +kernel
theorem d_Mo_ready_3 : decode b_Mo_ready 3 = .ok (.if_icmp .gt 15, 3) := by decide +kernel
theorem d_Mo_ready_6 : decode b_Mo_ready 6 = .ok (.aload_n 0, 1) := by decide +kernel
theorem d_Mo_ready_7 : decode b_Mo_ready 7 = .ok (.iload_n 1, 1) := by decide +kernel
theorem d_Mo_ready_8 : decode b_Mo_ready 8 = .ok (.bipush (-10), 2) := by decide +kernel
theorem d_Mo_ready_10 : decode b_Mo_ready 10 = .ok (.iload_n 2, 1) := by decide +kernel
theorem d_Mo_ready_11 : decode b_Mo_ready 11 = .ok (.isub, 1) := by decide +kernel
theorem d_Mo_ready_12 : decode b_Mo_ready 12 = .ok (.invokevirtual 68, 3) := by decide +kernel
theorem d_Mo_ready_15 : decode b_Mo_ready 15 = .ok (.goto 36, 3) := by decide +kernel
theorem d_Mo_ready_18 : decode b_Mo_ready 18 = .ok (.aload_n 0, 1) := by decide +kernel
theorem d_Mo_ready_19 : decode b_Mo_ready 19 = .ok (.iload_n 1, 1) := by decide +kernel
theorem d_Mo_ready_20 : decode b_Mo_ready 20 = .ok (.aload_n 0, 1) := by decide +kernel
theorem d_Mo_ready_21 : decode b_Mo_ready 21 = .ok (.getfield 16, 3) := by decide +kernel
theorem d_Mo_ready_24 : decode b_Mo_ready 24 = .ok (.iload_n 2, 1) := by decide +kernel
theorem d_Mo_ready_25 : decode b_Mo_ready 25 = .ok (.iaload, 1) := by decide +kernel
theorem d_Mo_ready_26 : decode b_Mo_ready 26 = .ok (.invokevirtual 68, 3) := by decide +kernel
theorem d_Mo_ready_29 : decode b_Mo_ready 29 = .ok (.ifCond .eq 21, 3) := by decide +kernel
theorem d_Mo_ready_32 : decode b_Mo_ready 32 = .ok (.aload_n 0, 1) := by decide +kernel
theorem d_Mo_ready_33 : decode b_Mo_ready 33 = .ok (.iload_n 1, 1) := by decide +kernel
theorem d_Mo_ready_34 : decode b_Mo_ready 34 = .ok (.aload_n 0, 1) := by decide +kernel
theorem d_Mo_ready_35 : decode b_Mo_ready 35 = .ok (.getfield 22, 3) := by decide +kernel
theorem d_Mo_ready_38 : decode b_Mo_ready 38 = .ok (.iload_n 2, 1) := by decide +kernel
theorem d_Mo_ready_39 : decode b_Mo_ready 39 = .ok (.iaload, 1) := by decide +kernel
theorem d_Mo_ready_40 : decode b_Mo_ready 40 = .ok (.invokevirtual 68, 3) := by decide +kernel
theorem d_Mo_ready_43 : decode b_Mo_ready 43 = .ok (.ifCond .eq 7, 3) := by decide +kernel
theorem d_Mo_ready_46 : decode b_Mo_ready 46 = .ok (.iconst 1, 1) := by decide +kernel
theorem d_Mo_ready_47 : decode b_Mo_ready 47 = .ok (.goto 4, 3) := by decide +kernel
theorem d_Mo_ready_50 : decode b_Mo_ready 50 = .ok (.iconst 0, 1) := by decide +kernel
theorem d_Mo_ready_51 : decode b_Mo_ready 51 = .ok (.ireturn, 1) := by decide +kernel
theorem d_Mo_send_0 : decode b_Mo_send 0 = .ok (.iconst 0, 1) := by decide +kernel
theorem d_Mo_send_1 : decode b_Mo_send 1 = .ok (.istore_n 3, 1) := by decide +kernel
theorem d_Mo_send_2 : decode b_Mo_send 2 = .ok (.iload_n 3, 1) := by decide +kernel
theorem d_Mo_send_3 : decode b_Mo_send 3 = .ok (.iconst 3, 1) := by decide +kernel
theorem d_Mo_send_4 : decode b_Mo_send 4 = .ok (.if_icmp .ge 45, 3) := by decide +kernel
theorem d_Mo_send_7 : decode b_Mo_send 7 = .ok (.iload_n 3, 1) := by decide +kernel
theorem d_Mo_send_8 : decode b_Mo_send 8 = .ok (.iload_n 1, 1) := by decide +kernel
theorem d_Mo_send_9 : decode b_Mo_send 9 = .ok (.if_icmp .eq 34, 3) := by decide +kernel
theorem d_Mo_send_12 : decode b_Mo_send 12 = .ok (.aload_n 0, 1) := by decide +kernel
theorem d_Mo_send_13 : decode b_Mo_send 13 = .ok (.getfield 31, 3) := by decide +kernel
theorem d_Mo_send_16 : decode b_Mo_send 16 = .ok (.bipush 90, 2) := by decide +kernel
theorem d_Mo_send_18 : decode b_Mo_send 18 = .ok (.iload_n 3, 1) := by decide +kernel
theorem d_Mo_send_19 : decode b_Mo_send 19 = .ok (.imul, 1) := by decide +kernel
theorem d_Mo_send_20 : decode b_Mo_send 20 = .ok (.aload_n 0, 1) := by decide +kernel
theorem d_Mo_send_21 : decode b_Mo_send 21 = .ok (.getfield 34, 3) := by decide +kernel
theorem d_Mo_send_24 : decode b_Mo_send 24 = .ok (.iload_n 3, 1) := by decide +kernel
theorem d_Mo_send_25 : decode b_Mo_send 25 = .ok (.iaload, 1) := by decide +kernel
theorem d_Mo_send_26 : decode b_Mo_send 26 = .ok (.iadd, 1) := by decide +kernel
theorem d_Mo_send_27 : decode b_Mo_send 27 = .ok (.iload_n 2, 1) := by decide +kernel
theorem d_Mo_send_28 : decode b_Mo_send 28 = .ok (.iastore, 1) := by decide +kernel
theorem d_Mo_send_29 : decode b_Mo_send 29 = .ok (.aload_n 0, 1) := by decide +kernel
theorem d_Mo_send_30 : decode b_Mo_send 30 = .ok (.getfield 34, 3) := by decide +kernel
theorem d_Mo_send_33 : decode b_Mo_send 33 = .ok (.iload_n 3, 1) := by decide +kernel
theorem d_Mo_send_34 : decode b_Mo_send 34 = .ok (.aload_n 0, 1) := by decide +kernel
theorem d_Mo_send_35 : decode b_Mo_send 35 = .ok (.getfield 34, 3) := by decide +kernel
theorem d_Mo_send_38 : decode b_Mo_send 38 = .ok (.iload_n 3, 1) := by decide +kernel
theorem d_Mo_send_39 : decode b_Mo_send 39 = .ok (.iaload, 1) := by decide +kernel
theorem d_Mo_send_40 : decode b_Mo_send 40 = .ok (.iconst 1, 1) := by decide +kernel
theorem d_Mo_send_41 : decode b_Mo_send 41 = .ok (.iadd, 1) := by decide +kernel
theorem d_Mo_send_42 : decode b_Mo_send 42 = .ok (.iastore, 1) := by decide +kernel
theorem d_Mo_send_43 : decode b_Mo_send 43 = .ok (.iinc 3 1, 3) := by decide +kernel
theorem d_Mo_send_46 : decode b_Mo_send 46 = .ok (.goto (-44), 3) := by decide +kernel
theorem d_Mo_send_49 : decode b_Mo_send 49 = .ok (.return_, 1) := by decide +kernel
theorem d_Mo_shown_0 : decode b_Mo_shown 0 = .ok (.iload_n 1, 1) := by decide +kernel
theorem d_Mo_shown_1 : decode b_Mo_shown 1 = .ok (.invokestatic 78, 3) := by decide +kernel
theorem d_Mo_shown_4 : decode b_Mo_shown 4 = .ok (.ifCond .eq 13, 3) := by decide +kernel
theorem d_Mo_shown_7 : decode b_Mo_shown 7 = .ok (.aload_n 0, 1) := by decide +kernel
theorem d_Mo_shown_8 : decode b_Mo_shown 8 = .ok (.iload_n 1, 1) := by decide +kernel
theorem d_Mo_shown_9 : decode b_Mo_shown 9 = .ok (.iload_n 2, 1) := by decide +kernel
theorem d_Mo_shown_10 : decode b_Mo_shown 10 = .ok (.iconst 1, 1) := by decide +kernel
theorem d_Mo_shown_11 : decode b_Mo_shown 11 = .ok (.invokevirtual 92, 3) := by decide +kernel
theorem d_Mo_shown_14 : decode b_Mo_shown 14 = .ok (.goto 4, 3) := by decide +kernel
theorem d_Mo_shown_17 : decode b_Mo_shown 17 = .ok (.iconst (-1), 1) := by decide +kernel
theorem d_Mo_shown_18 : decode b_Mo_shown 18 = .ok (.ireturn, 1) := by decide +kernel
theorem d_Mo_state_0 : decode b_Mo_state 0 = .ok (.iload_n 1, 1) := by decide +kernel
theorem d_Mo_state_1 : decode b_Mo_state 1 = .ok (.invokestatic 78, 3) := by decide +kernel
theorem d_Mo_state_4 : decode b_Mo_state 4 = .ok (.ifCond .ne 7, 3) := by decide +kernel
theorem d_Mo_state_7 : decode b_Mo_state 7 = .ok (.iconst (-1), 1) := by decide +kernel
theorem d_Mo_state_8 : decode b_Mo_state 8 = .ok (.goto 21, 3) := by decide +kernel
theorem d_Mo_state_11 : decode b_Mo_state 11 = .ok (.aload_n 0, 1) := by decide +kernel
theorem d_Mo_state_12 : decode b_Mo_state 12 = .ok (.iload_n 2, 1) := by decide +kernel
theorem d_Mo_state_13 : decode b_Mo_state 13 = .ok (.invokevirtual 108, 3) := by decide +kernel
theorem d_Mo_state_16 : decode b_Mo_state 16 = .ok (.ifCond .eq 12, 3) := by decide +kernel
theorem d_Mo_state_19 : decode b_Mo_state 19 = .ok (.aload_n 0, 1) := by decide +kernel
theorem d_Mo_state_20 : decode b_Mo_state 20 = .ok (.iload_n 1, 1) := by decide +kernel
theorem d_Mo_state_21 : decode b_Mo_state 21 = .ok (.iload_n 2, 1) := by decide +kernel
theorem d_Mo_state_22 : decode b_Mo_state 22 = .ok (.invokevirtual 64, 3) := by decide +kernel
theorem d_Mo_state_25 : decode b_Mo_state 25 = .ok (.goto 4, 3) := by decide +kernel
theorem d_Mo_state_28 : decode b_Mo_state 28 = .ok (.iconst 0, 1) := by decide +kernel
theorem d_Mo_state_29 : decode b_Mo_state 29 = .ok (.ireturn, 1) := by decide +kernel
theorem d_Mo_state0_0 : decode b_Mo_state0 0 = .ok (.aload_n 0, 1) := by decide +kernel
theorem d_Mo_state0_1 : decode b_Mo_state0 1 = .ok (.getfield 28, 3) := by decide +kernel
theorem d_Mo_state0_4 : decode b_Mo_state0 4 = .ok (.bipush 30, 2) := by decide +kernel
theorem d_Mo_state0_6 : decode b_Mo_state0 6 = .ok (.iload_n 1, 1) := by decide +kernel
theorem d_Mo_state0_7 : decode b_Mo_state0 7 = .ok (.imul, 1) := by decide +kernel
theorem d_Mo_state0_8 : decode b_Mo_state0 8 = .ok (.iload_n 2, 1) := by decide +kernel
theorem d_Mo_state0_9 : decode b_Mo_state0 9 = .ok (.iadd, 1) := by decide +kernel
theorem d_Mo_state0_10 : decode b_Mo_state0 10 = .ok (.iaload, 1) := by decide +kernel
theorem d_Mo_state0_11 : decode b_Mo_state0 11 = .ok (.ireturn, 1) := by decide +kernel
theorem d_Mo_tray_0 : decode b_Mo_tray 0 = .ok (.iload_n 1, 1) := by decide +kernel
theorem d_Mo_tray_1 : decode b_Mo_tray 1 = .ok (.invokestatic 78, 3) := by decide +kernel
theorem d_Mo_tray_4 : decode b_Mo_tray 4 = .ok (.ifCond .eq 12, 3) := by decide +kernel
theorem d_Mo_tray_7 : decode b_Mo_tray 7 = .ok (.aload_n 0, 1) := by decide +kernel
theorem d_Mo_tray_8 : decode b_Mo_tray 8 = .ok (.getfield 34, 3) := by decide +kernel
theorem d_Mo_tray_11 : decode b_Mo_tray 11 = .ok (.iload_n 1, 1) := by decide +kernel
theorem d_Mo_tray_12 : decode b_Mo_tray 12 = .ok (.iaload, 1) := by decide +kernel
theorem d_Mo_tray_13 : decode b_Mo_tray 13 = .ok (.goto 4, 3) := by decide +kernel
theorem d_Mo_tray_16 : decode b_Mo_tray 16 = .ok (.iconst (-1), 1) := by decide +kernel
theorem d_Mo_tray_17 : decode b_Mo_tray 17 = .ok (.ireturn, 1) := by decide +kernel
theorem d_Mo_waiting_0 : decode b_Mo_waiting 0 = .ok (.iload_n 1, 1) := by decide +kernel
theorem d_Mo_waiting_1 : decode b_Mo_waiting 1 = .ok (.invokestatic 78, 3) := by decide +kernel
theorem d_Mo_waiting_4 : decode b_Mo_waiting 4 = .ok (.ifCond .eq 12, 3) := by decide +kernel
theorem d_Mo_waiting_7 : decode b_Mo_waiting 7 = .ok (.aload_n 0, 1) := by decide +kernel
theorem d_Mo_waiting_8 : decode b_Mo_waiting 8 = .ok (.getfield 40, 3) := by decide +kernel
theorem d_Mo_waiting_11 : decode b_Mo_waiting 11 = .ok (.iload_n 1, 1) := by decide +kernel
theorem d_Mo_waiting_12 : decode b_Mo_waiting 12 = .ok (.iaload, 1) := by decide +kernel
theorem d_Mo_waiting_13 : decode b_Mo_waiting 13 = .ok (.goto 4, 3) := by decide +kernel
theorem d_Mo_waiting_16 : decode b_Mo_waiting 16 = .ok (.iconst (-1), 1) := by decide +kernel
theorem d_Mo_waiting_17 : decode b_Mo_waiting 17 = .ok (.ireturn, 1) := by decide +kernel
theorem d_Mo_wake_0 : decode b_Mo_wake 0 = .ok (.iconst 0, 1) := by decide +kernel
theorem d_Mo_wake_1 : decode b_Mo_wake 1 = .ok (.istore_n 2, 1) := by decide +kernel
theorem d_Mo_wake_2 : decode b_Mo_wake 2 = .ok (.iload_n 2, 1) := by decide +kernel
theorem d_Mo_wake_3 : decode b_Mo_wake 3 = .ok (.aload_n 0, 1) := by decide +kernel
theorem d_Mo_wake_4 : decode b_Mo_wake 4 = .ok (.getfield 40, 3) := by decide +kernel
theorem d_Mo_wake_7 : decode b_Mo_wake 7 = .ok (.iload_n 1, 1) := by decide +kernel
theorem d_Mo_wake_8 : decode b_Mo_wake 8 = .ok (.iaload, 1) := by decide +kernel
theorem d_Mo_wake_9 : decode b_Mo_wake 9 = .ok (.if_icmp .ge 98, 3) := by decide +kernel
theorem d_Mo_wake_12 : decode b_Mo_wake 12 = .ok (.aload_n 0, 1) := by decide +kernel
theorem d_Mo_wake_13 : decode b_Mo_wake 13 = .ok (.getfield 37, 3) := by decide +kernel
theorem d_Mo_wake_16 : decode b_Mo_wake 16 = .ok (.bipush 90, 2) := by decide +kernel
theorem d_Mo_wake_18 : decode b_Mo_wake 18 = .ok (.iload_n 1, 1) := by decide +kernel
theorem d_Mo_wake_19 : decode b_Mo_wake 19 = .ok (.imul, 1) := by decide +kernel
theorem d_Mo_wake_20 : decode b_Mo_wake 20 = .ok (.iload_n 2, 1) := by decide +kernel
theorem d_Mo_wake_21 : decode b_Mo_wake 21 = .ok (.iadd, 1) := by decide +kernel
theorem d_Mo_wake_22 : decode b_Mo_wake 22 = .ok (.iaload, 1) := by decide +kernel
theorem d_Mo_wake_23 : decode b_Mo_wake 23 = .ok (.istore_n 3, 1) := by decide +kernel
theorem d_Mo_wake_24 : decode b_Mo_wake 24 = .ok (.aload_n 0, 1) := by decide +kernel
theorem d_Mo_wake_25 : decode b_Mo_wake 25 = .ok (.iload_n 1, 1) := by decide +kernel
theorem d_Mo_wake_26 : decode b_Mo_wake 26 = .ok (.iload_n 3, 1) := by decide +kernel
theorem d_Mo_wake_27 : decode b_Mo_wake 27 = .ok (.invokevirtual 71, 3) := by decide +kernel
theorem d_Mo_wake_30 : decode b_Mo_wake 30 = .ok (.ifCond .eq 71, 3) := by decide +kernel
theorem d_Mo_wake_33 : decode b_Mo_wake 33 = .ok (.aload_n 0, 1) := by decide +kernel
theorem d_Mo_wake_34 : decode b_Mo_wake 34 = .ok (.getfield 40, 3) := by decide +kernel
theorem d_Mo_wake_37 : decode b_Mo_wake 37 = .ok (.iload_n 1, 1) := by decide +kernel
theorem d_Mo_wake_38 : decode b_Mo_wake 38 = .ok (.aload_n 0, 1) := by decide +kernel
theorem d_Mo_wake_39 : decode b_Mo_wake 39 = .ok (.getfield 40, 3) := by decide +kernel
theorem d_Mo_wake_42 : decode b_Mo_wake 42 = .ok (.iload_n 1, 1) := by decide +kernel
theorem d_Mo_wake_43 : decode b_Mo_wake 43 = .ok (.iaload, 1) := by decide +kernel
theorem d_Mo_wake_44 : decode b_Mo_wake 44 = .ok (.iconst 1, 1) := by decide +kernel
theorem d_Mo_wake_45 : decode b_Mo_wake 45 = .ok (.isub, 1) := by decide +kernel
theorem d_Mo_wake_46 : decode b_Mo_wake 46 = .ok (.iastore, 1) := by decide +kernel
theorem d_Mo_wake_47 : decode b_Mo_wake 47 = .ok (.iload_n 2, 1) := by decide +kernel
theorem d_Mo_wake_48 : decode b_Mo_wake 48 = .ok (.istore 4, 2) := by decide +kernel
theorem d_Mo_wake_50 : decode b_Mo_wake 50 = .ok (.iload 4, 2) := by decide +kernel
theorem d_Mo_wake_52 : decode b_Mo_wake 52 = .ok (.aload_n 0, 1) := by decide +kernel
theorem d_Mo_wake_53 : decode b_Mo_wake 53 = .ok (.getfield 40, 3) := by decide +kernel
theorem d_Mo_wake_56 : decode b_Mo_wake 56 = .ok (.iload_n 1, 1) := by decide +kernel
theorem d_Mo_wake_57 : decode b_Mo_wake 57 = .ok (.iaload, 1) := by decide +kernel
theorem d_Mo_wake_58 : decode b_Mo_wake 58 = .ok (.if_icmp .ge 35, 3) := by decide +kernel
theorem d_Mo_wake_61 : decode b_Mo_wake 61 = .ok (.aload_n 0, 1) := by decide +kernel
theorem d_Mo_wake_62 : decode b_Mo_wake 62 = .ok (.getfield 37, 3) := by decide +kernel
theorem d_Mo_wake_65 : decode b_Mo_wake 65 = .ok (.bipush 90, 2) := by decide +kernel
theorem d_Mo_wake_67 : decode b_Mo_wake 67 = .ok (.iload_n 1, 1) := by decide +kernel
theorem d_Mo_wake_68 : decode b_Mo_wake 68 = .ok (.imul, 1) := by decide +kernel
theorem d_Mo_wake_69 : decode b_Mo_wake 69 = .ok (.iload 4, 2) := by decide +kernel
theorem d_Mo_wake_71 : decode b_Mo_wake 71 = .ok (.iadd, 1) := by decide +kernel
theorem d_Mo_wake_72 : decode b_Mo_wake 72 = .ok (.aload_n 0, 1) := by decide +kernel
theorem d_Mo_wake_73 : decode b_Mo_wake 73 = .ok (.getfield 37, 3) := by decide +kernel
theorem d_Mo_wake_76 : decode b_Mo_wake 76 = .ok (.bipush 90, 2) := by decide +kernel
theorem d_Mo_wake_78 : decode b_Mo_wake 78 = .ok (.iload_n 1, 1) := by decide +kernel
theorem d_Mo_wake_79 : decode b_Mo_wake 79 = .ok (.imul, 1) := by decide +kernel
theorem d_Mo_wake_80 : decode b_Mo_wake 80 = .ok (.iload 4, 2) := by decide +kernel
theorem d_Mo_wake_82 : decode b_Mo_wake 82 = .ok (.iadd, 1) := by decide +kernel
theorem d_Mo_wake_83 : decode b_Mo_wake 83 = .ok (.iconst 1, 1) := by decide +kernel
theorem d_Mo_wake_84 : decode b_Mo_wake 84 = .ok (.iadd, 1) := by decide +kernel
theorem d_Mo_wake_85 : decode b_Mo_wake 85 = .ok (.iaload, 1) := by decide +kernel
theorem d_Mo_wake_86 : decode b_Mo_wake 86 = .ok (.iastore, 1) := by decide +kernel
theorem d_Mo_wake_87 : decode b_Mo_wake 87 = .ok (.iinc 4 1, 3) := by decide +kernel
theorem d_Mo_wake_90 : decode b_Mo_wake 90 = .ok (.goto (-40), 3) := by decide +kernel
theorem d_Mo_wake_93 : decode b_Mo_wake 93 = .ok (.aload_n 0, 1) := by decide +kernel
theorem d_Mo_wake_94 : decode b_Mo_wake 94 = .ok (.iload_n 1, 1) := by decide +kernel
theorem d_Mo_wake_95 : decode b_Mo_wake 95 = .ok (.iload_n 3, 1) := by decide +kernel
theorem d_Mo_wake_96 : decode b_Mo_wake 96 = .ok (.invokevirtual 74, 3) := by decide +kernel
theorem d_Mo_wake_99 : decode b_Mo_wake 99 = .ok (.iconst 1, 1) := by decide +kernel
theorem d_Mo_wake_100 : decode b_Mo_wake 100 = .ok (.ireturn, 1) := by decide +kernel
theorem d_Mo_wake_101 : decode b_Mo_wake 101 = .ok (.iinc 2 1, 3) := by decide +kernel
theorem d_Mo_wake_104 : decode b_Mo_wake 104 = .ok (.goto (-102), 3) := by decide +kernel
theorem d_Mo_wake_107 : decode b_Mo_wake 107 = .ok (.iconst 0, 1) := by decide +kernel
theorem d_Mo_wake_108 : decode b_Mo_wake 108 = .ok (.ireturn, 1) := by decide +kernel
