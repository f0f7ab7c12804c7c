-- decode rows (laid by gen/names.py)
theorem d_St_about_0 : decode b_St_about 0 = .ok (.aload_n 0, 1) := by decide +kernel
theorem d_St_about_1 : decode b_St_about 1 = .ok (.getfield 12, 3) := by decide +kernel
theorem d_St_about_4 : decode b_St_about 4 = .ok (.iload_n 1, 1) := by decide +kernel
theorem d_St_about_5 : decode b_St_about 5 = .ok (.invokevirtual 88, 3) := by decide +kernel
theorem d_St_about_8 : decode b_St_about 8 = .ok (.ifCond .ne 6, 3) := by decide +kernel
theorem d_St_about_11 : decode b_St_about 11 = .ok (.bipush (-3), 2) := by decide +kernel
theorem d_St_about_13 : decode b_St_about 13 = .ok (.ireturn, 1) := by decide +kernel
theorem d_St_about_14 : decode b_St_about 14 = .ok (.iload_n 2, 1) := by decide +kernel
theorem d_St_about_15 : decode b_St_about 15 = .ok (.tableswitch 83 0 4 #[33, 43, 53, 63, 73], 33) := by decide +kernel
theorem d_St_about_48 : decode b_St_about 48 = .ok (.aload_n 0, 1) := by decide +kernel
theorem d_St_about_49 : decode b_St_about 49 = .ok (.getfield 12, 3) := by decide +kernel
theorem d_St_about_52 : decode b_St_about 52 = .ok (.getfield 97, 3) := by decide +kernel
theorem d_St_about_55 : decode b_St_about 55 = .ok (.iload_n 1, 1) := by decide +kernel
theorem d_St_about_56 : decode b_St_about 56 = .ok (.iaload, 1) := by decide +kernel
theorem d_St_about_57 : decode b_St_about 57 = .ok (.ireturn, 1) := by decide +kernel
theorem d_St_about_58 : decode b_St_about 58 = .ok (.aload_n 0, 1) := by decide +kernel
theorem d_St_about_59 : decode b_St_about 59 = .ok (.getfield 12, 3) := by decide +kernel
theorem d_St_about_62 : decode b_St_about 62 = .ok (.getfield 100, 3) := by decide +kernel
theorem d_St_about_65 : decode b_St_about 65 = .ok (.iload_n 1, 1) := by decide +kernel
theorem d_St_about_66 : decode b_St_about 66 = .ok (.iaload, 1) := by decide +kernel
theorem d_St_about_67 : decode b_St_about 67 = .ok (.ireturn, 1) := by decide +kernel
theorem d_St_about_68 : decode b_St_about 68 = .ok (.aload_n 0, 1) := by decide +kernel
theorem d_St_about_69 : decode b_St_about 69 = .ok (.getfield 12, 3) := by decide +kernel
theorem d_St_about_72 : decode b_St_about 72 = .ok (.getfield 103, 3) := by decide +kernel
theorem d_St_about_75 : decode b_St_about 75 = .ok (.iload_n 1, 1) := by decide +kernel
theorem d_St_about_76 : decode b_St_about 76 = .ok (.iaload, 1) := by decide +kernel
theorem d_St_about_77 : decode b_St_about 77 = .ok (.ireturn, 1) := by decide +kernel
theorem d_St_about_78 : decode b_St_about 78 = .ok (.aload_n 0, 1) := by decide +kernel
theorem d_St_about_79 : decode b_St_about 79 = .ok (.getfield 12, 3) := by decide +kernel
theorem d_St_about_82 : decode b_St_about 82 = .ok (.getfield 106, 3) := by decide +kernel
theorem d_St_about_85 : decode b_St_about 85 = .ok (.iload_n 1, 1) := by decide +kernel
theorem d_St_about_86 : decode b_St_about 86 = .ok (.iaload, 1) := by decide +kernel
theorem d_St_about_87 : decode b_St_about 87 = .ok (.ireturn, 1) := by decide +kernel
theorem d_St_about_88 : decode b_St_about 88 = .ok (.aload_n 0, 1) := by decide +kernel
theorem d_St_about_89 : decode b_St_about 89 = .ok (.getfield 12, 3) := by decide +kernel
theorem d_St_about_92 : decode b_St_about 92 = .ok (.getfield 109, 3) := by decide +kernel
theorem d_St_about_95 : decode b_St_about 95 = .ok (.iload_n 1, 1) := by decide +kernel
theorem d_St_about_96 : decode b_St_about 96 = .ok (.iaload, 1) := by decide +kernel
theorem d_St_about_97 : decode b_St_about 97 = .ok (.ireturn, 1) := by decide +kernel
theorem d_St_about_98 : decode b_St_about 98 = .ok (.bipush (-3), 2) := by decide +kernel
theorem d_St_about_100 : decode b_St_about 100 = .ok (.ireturn, 1) := by decide +kernel
theorem d_St_countMarked_0 : decode b_St_countMarked 0 = .ok (.iconst 0, 1) := by decide +kernel
theorem d_St_countMarked_1 : decode b_St_countMarked 1 = .ok (.istore_n 3, 1) := by decide +kernel
theorem d_St_countMarked_2 : decode b_St_countMarked 2 = .ok (.iconst 0, 1) := by decide +kernel
theorem d_St_countMarked_3 : decode b_St_countMarked 3 = .ok (.istore 4, 2) := by decide +kernel
theorem d_St_countMarked_5 : decode b_St_countMarked 5 = .ok (.iload 4, 2) := by decide +kernel
theorem d_St_countMarked_7 : decode b_St_countMarked 7 = .ok (.aload_n 0, 1) := by decide +kernel
theorem d_St_countMarked_8 : decode b_St_countMarked 8 = .ok (.getfield 12, 3) := by decide +kernel
theorem d_St_countMarked_11 : decode b_St_countMarked 11 = .ok (.getfield 96, 3) := by decide +kernel
theorem d_St_countMarked_14 : decode b_St_countMarked 14 = .ok (.if_icmp .ge 23, 3) := by decide +kernel
theorem d_St_countMarked_17 : decode b_St_countMarked 17 = .ok (.aload_n 1, 1) := by decide +kernel
theorem d_St_countMarked_18 : decode b_St_countMarked 18 = .ok (.getfield 45, 3) := by decide +kernel
theorem d_St_countMarked_21 : decode b_St_countMarked 21 = .ok (.iload 4, 2) := by decide +kernel
theorem d_St_countMarked_23 : decode b_St_countMarked 23 = .ok (.iaload, 1) := by decide +kernel
theorem d_St_countMarked_24 : decode b_St_countMarked 24 = .ok (.iload_n 2, 1) := by decide +kernel
theorem d_St_countMarked_25 : decode b_St_countMarked 25 = .ok (.if_icmp .ne 6, 3) := by decide +kernel
theorem d_St_countMarked_28 : decode b_St_countMarked 28 = .ok (.iinc 3 1, 3) := by decide +kernel
theorem d_St_countMarked_31 : decode b_St_countMarked 31 = .ok (.iinc 4 1, 3) := by decide +kernel
theorem d_St_countMarked_34 : decode b_St_countMarked 34 = .ok (.goto (-29), 3) := by decide +kernel
theorem d_St_countMarked_37 : decode b_St_countMarked 37 = .ok (.iload_n 3, 1) := by decide +kernel
theorem d_St_countMarked_38 : decode b_St_countMarked 38 = .ok (.ireturn, 1) := by decide +kernel
theorem d_St_deliver_0 : decode b_St_deliver 0 = .ok (.iload_n 1, 1) := by decide +kernel
theorem d_St_deliver_1 : decode b_St_deliver 1 = .ok (.invokestatic 23, 3) := by decide +kernel
theorem d_St_deliver_4 : decode b_St_deliver 4 = .ok (.ifCond .ne 5, 3) := by decide +kernel
theorem d_St_deliver_7 : decode b_St_deliver 7 = .ok (.iconst (-1), 1) := by decide +kernel
theorem d_St_deliver_8 : decode b_St_deliver 8 = .ok (.ireturn, 1) := by decide +kernel
theorem d_St_deliver_9 : decode b_St_deliver 9 = .ok (.aload_n 0, 1) := by decide +kernel
theorem d_St_deliver_10 : decode b_St_deliver 10 = .ok (.getfield 18, 3) := by decide +kernel
theorem d_St_deliver_13 : decode b_St_deliver 13 = .ok (.iload_n 1, 1) := by decide +kernel
theorem d_St_deliver_14 : decode b_St_deliver 14 = .ok (.aaload, 1) := by decide +kernel
theorem d_St_deliver_15 : decode b_St_deliver 15 = .ok (.astore_n 3, 1) := by decide +kernel
theorem d_St_deliver_16 : decode b_St_deliver 16 = .ok (.aload_n 3, 1) := by decide +kernel
theorem d_St_deliver_17 : decode b_St_deliver 17 = .ok (.getfield 53, 3) := by decide +kernel
theorem d_St_deliver_20 : decode b_St_deliver 20 = .ok (.iload_n 2, 1) := by decide +kernel
theorem d_St_deliver_21 : decode b_St_deliver 21 = .ok (.invokevirtual 57, 3) := by decide +kernel
theorem d_St_deliver_24 : decode b_St_deliver 24 = .ok (.ifCond .ne 5, 3) := by decide +kernel
theorem d_St_deliver_27 : decode b_St_deliver 27 = .ok (.iconst (-1), 1) := by decide +kernel
theorem d_St_deliver_28 : decode b_St_deliver 28 = .ok (.ireturn, 1) := by decide +kernel
theorem d_St_deliver_29 : decode b_St_deliver 29 = .ok (.aload_n 3, 1) := by decide +kernel
theorem d_St_deliver_30 : decode b_St_deliver 30 = .ok (.getfield 53, 3) := by decide +kernel
theorem d_St_deliver_33 : decode b_St_deliver 33 = .ok (.iload_n 2, 1) := by decide +kernel
theorem d_St_deliver_34 : decode b_St_deliver 34 = .ok (.invokevirtual 62, 3) := by decide +kernel
theorem d_St_deliver_37 : decode b_St_deliver 37 = .ok (.istore 4, 2) := by decide +kernel
theorem d_St_deliver_39 : decode b_St_deliver 39 = .ok (.aload_n 0, 1) := by decide +kernel
theorem d_St_deliver_40 : decode b_St_deliver 40 = .ok (.aload_n 3, 1) := by decide +kernel
theorem d_St_deliver_41 : decode b_St_deliver 41 = .ok (.iload 4, 2) := by decide +kernel
theorem d_St_deliver_43 : decode b_St_deliver 43 = .ok (.invokevirtual 66, 3) := by decide +kernel
theorem d_St_deliver_46 : decode b_St_deliver 46 = .ok (.ifCond .ne 14, 3) := by decide +kernel
theorem d_St_deliver_49 : decode b_St_deliver 49 = .ok (.aload_n 3, 1) := by decide +kernel
theorem d_St_deliver_50 : decode b_St_deliver 50 = .ok (.getfield 70, 3) := by decide +kernel
theorem d_St_deliver_53 : decode b_St_deliver 53 = .ok (.iload 4, 2) := by decide +kernel
theorem d_St_deliver_55 : decode b_St_deliver 55 = .ok (.invokevirtual 73, 3) := by decide +kernel
theorem d_St_deliver_58 : decode b_St_deliver 58 = .ok (.iconst 0, 1) := by decide +kernel
theorem d_St_deliver_59 : decode b_St_deliver 59 = .ok (.ireturn, 1) := by decide +kernel
theorem d_St_deliver_60 : decode b_St_deliver 60 = .ok (.aload_n 3, 1) := by decide +kernel
theorem d_St_deliver_61 : decode b_St_deliver 61 = .ok (.iload 4, 2) := by decide +kernel
theorem d_St_deliver_63 : decode b_St_deliver 63 = .ok (.invokestatic 77, 3) := by decide +kernel
theorem d_St_deliver_66 : decode b_St_deliver 66 = .ok (.iconst 1, 1) := by decide +kernel
theorem d_St_deliver_67 : decode b_St_deliver 67 = .ok (.aload_n 0, 1) := by decide +kernel
theorem d_St_deliver_68 : decode b_St_deliver 68 = .ok (.aload_n 3, 1) := by decide +kernel
theorem d_St_deliver_69 : decode b_St_deliver 69 = .ok (.invokevirtual 81, 3) := by decide +kernel
theorem d_St_deliver_72 : decode b_St_deliver 72 = .ok (.iadd, 1) := by decide +kernel
theorem d_St_deliver_73 : decode b_St_deliver 73 = .ok (.ireturn, 1) := by decide +kernel
theorem d_St_depth_0 : decode b_St_depth 0 = .ok (.aload_n 0, 1) := by decide +kernel
theorem d_St_depth_1 : decode b_St_depth 1 = .ok (.getfield 12, 3) := by decide +kernel
theorem d_St_depth_4 : decode b_St_depth 4 = .ok (.iload_n 1, 1) := by decide +kernel
theorem d_St_depth_5 : decode b_St_depth 5 = .ok (.invokevirtual 88, 3) := by decide +kernel
theorem d_St_depth_8 : decode b_St_depth 8 = .ok (.ifCond .eq 14, 3) := by decide +kernel
theorem d_St_depth_11 : decode b_St_depth 11 = .ok (.aload_n 0, 1) := by decide +kernel
theorem d_St_depth_12 : decode b_St_depth 12 = .ok (.getfield 12, 3) := by decide +kernel
theorem d_St_depth_15 : decode b_St_depth 15 = .ok (.iload_n 1, 1) := by decide +kernel
theorem d_St_depth_16 : decode b_St_depth 16 = .ok (.invokevirtual 112, 3) := by decide +kernel
theorem d_St_depth_19 : decode b_St_depth 19 = .ok (.goto 5, 3) := by decide +kernel
theorem d_St_depth_22 : decode b_St_depth 22 = .ok (.bipush (-3), 2) := by decide +kernel
theorem d_St_depth_24 : decode b_St_depth 24 = .ok (.ireturn, 1) := by decide +kernel
theorem d_St_differ_0 : decode b_St_differ 0 = .ok (.iload_n 1, 1) := by decide +kernel
theorem d_St_differ_1 : decode b_St_differ 1 = .ok (.invokestatic 23, 3) := by decide +kernel
theorem d_St_differ_4 : decode b_St_differ 4 = .ok (.ifCond .eq 10, 3) := by decide +kernel
theorem d_St_differ_7 : decode b_St_differ 7 = .ok (.iload_n 2, 1) := by decide +kernel
theorem d_St_differ_8 : decode b_St_differ 8 = .ok (.invokestatic 23, 3) := by decide +kernel
theorem d_St_differ_11 : decode b_St_differ 11 = .ok (.ifCond .ne 5, 3) := by decide +kernel
theorem d_St_differ_14 : decode b_St_differ 14 = .ok (.iconst (-1), 1) := by decide +kernel
theorem d_St_differ_15 : decode b_St_differ 15 = .ok (.ireturn, 1) := by decide +kernel
theorem d_St_differ_16 : decode b_St_differ 16 = .ok (.iconst 0, 1) := by decide +kernel
theorem d_St_differ_17 : decode b_St_differ 17 = .ok (.istore_n 3, 1) := by decide +kernel
theorem d_St_differ_18 : decode b_St_differ 18 = .ok (.iload_n 3, 1) := by decide +kernel
theorem d_St_differ_19 : decode b_St_differ 19 = .ok (.aload_n 0, 1) := by decide +kernel
theorem d_St_differ_20 : decode b_St_differ 20 = .ok (.getfield 12, 3) := by decide +kernel
theorem d_St_differ_23 : decode b_St_differ 23 = .ok (.getfield 96, 3) := by decide +kernel
theorem d_St_differ_26 : decode b_St_differ 26 = .ok (.if_icmp .ge 36, 3) := by decide +kernel
theorem d_St_differ_29 : decode b_St_differ 29 = .ok (.aload_n 0, 1) := by decide +kernel
theorem d_St_differ_30 : decode b_St_differ 30 = .ok (.aload_n 0, 1) := by decide +kernel
theorem d_St_differ_31 : decode b_St_differ 31 = .ok (.getfield 18, 3) := by decide +kernel
theorem d_St_differ_34 : decode b_St_differ 34 = .ok (.iload_n 1, 1) := by decide +kernel
theorem d_St_differ_35 : decode b_St_differ 35 = .ok (.aaload, 1) := by decide +kernel
theorem d_St_differ_36 : decode b_St_differ 36 = .ok (.iload_n 3, 1) := by decide +kernel
theorem d_St_differ_37 : decode b_St_differ 37 = .ok (.invokevirtual 38, 3) := by decide +kernel
theorem d_St_differ_40 : decode b_St_differ 40 = .ok (.aload_n 0, 1) := by decide +kernel
theorem d_St_differ_41 : decode b_St_differ 41 = .ok (.aload_n 0, 1) := by decide +kernel
theorem d_St_differ_42 : decode b_St_differ 42 = .ok (.getfield 18, 3) := by decide +kernel
theorem d_St_differ_45 : decode b_St_differ 45 = .ok (.iload_n 2, 1) := by decide +kernel
theorem d_St_differ_46 : decode b_St_differ 46 = .ok (.aaload, 1) := by decide +kernel
theorem d_St_differ_47 : decode b_St_differ 47 = .ok (.iload_n 3, 1) := by decide +kernel
theorem d_St_differ_48 : decode b_St_differ 48 = .ok (.invokevirtual 38, 3) := by decide +kernel
theorem d_St_differ_51 : decode b_St_differ 51 = .ok (.if_icmp .eq 5, 3) := by decide +kernel
theorem d_St_differ_54 : decode b_St_differ 54 = .ok (.iload_n 3, 1) := by decide +kernel
theorem d_St_differ_55 : decode b_St_differ 55 = .ok (.ireturn, 1) := by decide +kernel
theorem d_St_differ_56 : decode b_St_differ 56 = .ok (.iinc 3 1, 3) := by decide +kernel
theorem d_St_differ_59 : decode b_St_differ 59 = .ok (.goto (-41), 3) := by decide +kernel
theorem d_St_differ_62 : decode b_St_differ 62 = .ok (.bipush (-3), 2) := by decide +kernel
theorem d_St_differ_64 : decode b_St_differ 64 = .ok (.ireturn, 1) := by decide +kernel
theorem d_St_erase_0 : decode b_St_erase 0 = .ok (.iload_n 1, 1) := by decide +kernel
theorem d_St_erase_1 : decode b_St_erase 1 = .ok (.invokestatic 23, 3) := by decide +kernel
theorem d_St_erase_4 : decode b_St_erase 4 = .ok (.ifCond .ne 5, 3) := by decide +kernel
theorem d_St_erase_7 : decode b_St_erase 7 = .ok (.iconst (-1), 1) := by decide +kernel
theorem d_St_erase_8 : decode b_St_erase 8 = .ok (.ireturn, 1) := by decide +kernel
theorem d_St_erase_9 : decode b_St_erase 9 = .ok (.aload_n 0, 1) := by decide +kernel
theorem d_St_erase_10 : decode b_St_erase 10 = .ok (.getfield 18, 3) := by decide +kernel
theorem d_St_erase_13 : decode b_St_erase 13 = .ok (.iload_n 1, 1) := by decide +kernel
theorem d_St_erase_14 : decode b_St_erase 14 = .ok (.aaload, 1) := by decide +kernel
theorem d_St_erase_15 : decode b_St_erase 15 = .ok (.astore_n 3, 1) := by decide +kernel
theorem d_St_erase_16 : decode b_St_erase 16 = .ok (.aload_n 0, 1) := by decide +kernel
theorem d_St_erase_17 : decode b_St_erase 17 = .ok (.aload_n 3, 1) := by decide +kernel
theorem d_St_erase_18 : decode b_St_erase 18 = .ok (.iload_n 2, 1) := by decide +kernel
theorem d_St_erase_19 : decode b_St_erase 19 = .ok (.invokevirtual 38, 3) := by decide +kernel
theorem d_St_erase_22 : decode b_St_erase 22 = .ok (.istore 4, 2) := by decide +kernel
theorem d_St_erase_24 : decode b_St_erase 24 = .ok (.iload 4, 2) := by decide +kernel
theorem d_St_erase_26 : decode b_St_erase 26 = .ok (.bipush (-3), 2) := by decide +kernel
theorem d_St_erase_28 : decode b_St_erase 28 = .ok (.if_icmp .ne 5, 3) := by decide +kernel
theorem d_St_erase_31 : decode b_St_erase 31 = .ok (.iconst (-1), 1) := by decide +kernel
theorem d_St_erase_32 : decode b_St_erase 32 = .ok (.ireturn, 1) := by decide +kernel
theorem d_St_erase_33 : decode b_St_erase 33 = .ok (.aload_n 0, 1) := by decide +kernel
theorem d_St_erase_34 : decode b_St_erase 34 = .ok (.iload_n 1, 1) := by decide +kernel
theorem d_St_erase_35 : decode b_St_erase 35 = .ok (.invokevirtual 35, 3) := by decide +kernel
theorem d_St_erase_38 : decode b_St_erase 38 = .ok (.ifCond .eq 6, 3) := by decide +kernel
theorem d_St_erase_41 : decode b_St_erase 41 = .ok (.bipush (-2), 2) := by decide +kernel
theorem d_St_erase_43 : decode b_St_erase 43 = .ok (.ireturn, 1) := by decide +kernel
theorem d_St_erase_44 : decode b_St_erase 44 = .ok (.aload_n 3, 1) := by decide +kernel
theorem d_St_erase_45 : decode b_St_erase 45 = .ok (.getfield 45, 3) := by decide +kernel
theorem d_St_erase_48 : decode b_St_erase 48 = .ok (.iload 4, 2) := by decide +kernel
theorem d_St_erase_50 : decode b_St_erase 50 = .ok (.iconst 2, 1) := by decide +kernel
theorem d_St_erase_51 : decode b_St_erase 51 = .ok (.iastore, 1) := by decide +kernel
theorem d_St_erase_52 : decode b_St_erase 52 = .ok (.aload_n 0, 1) := by decide +kernel
theorem d_St_erase_53 : decode b_St_erase 53 = .ok (.iload_n 1, 1) := by decide +kernel
theorem d_St_erase_54 : decode b_St_erase 54 = .ok (.bipush (-10), 2) := by decide +kernel
theorem d_St_erase_56 : decode b_St_erase 56 = .ok (.iload 4, 2) := by decide +kernel
theorem d_St_erase_58 : decode b_St_erase 58 = .ok (.isub, 1) := by decide +kernel
theorem d_St_erase_59 : decode b_St_erase 59 = .ok (.invokevirtual 49, 3) := by decide +kernel
theorem d_St_erase_62 : decode b_St_erase 62 = .ok (.iload 4, 2) := by decide +kernel
theorem d_St_erase_64 : decode b_St_erase 64 = .ok (.ireturn, 1) := by decide +kernel
theorem d_St_firstReady_0 : decode b_St_firstReady 0 = .ok (.iconst 0, 1) := by decide +kernel
theorem d_St_firstReady_1 : decode b_St_firstReady 1 = .ok (.istore_n 2, 1) := by decide +kernel
theorem d_St_firstReady_2 : decode b_St_firstReady 2 = .ok (.iload_n 2, 1) := by decide +kernel
theorem d_St_firstReady_3 : decode b_St_firstReady 3 = .ok (.aload_n 1, 1) := by decide +kernel
theorem d_St_firstReady_4 : decode b_St_firstReady 4 = .ok (.getfield 70, 3) := by decide +kernel
theorem d_St_firstReady_7 : decode b_St_firstReady 7 = .ok (.getfield 89, 3) := by decide +kernel
theorem d_St_firstReady_10 : decode b_St_firstReady 10 = .ok (.if_icmp .ge 28, 3) := by decide +kernel
theorem d_St_firstReady_13 : decode b_St_firstReady 13 = .ok (.aload_n 0, 1) := by decide +kernel
theorem d_St_firstReady_14 : decode b_St_firstReady 14 = .ok (.aload_n 1, 1) := by decide +kernel
theorem d_St_firstReady_15 : decode b_St_firstReady 15 = .ok (.aload_n 1, 1) := by decide +kernel
theorem d_St_firstReady_16 : decode b_St_firstReady 16 = .ok (.getfield 70, 3) := by decide +kernel
theorem d_St_firstReady_19 : decode b_St_firstReady 19 = .ok (.getfield 93, 3) := by decide +kernel
theorem d_St_firstReady_22 : decode b_St_firstReady 22 = .ok (.iload_n 2, 1) := by decide +kernel
theorem d_St_firstReady_23 : decode b_St_firstReady 23 = .ok (.iaload, 1) := by decide +kernel
theorem d_St_firstReady_24 : decode b_St_firstReady 24 = .ok (.invokevirtual 66, 3) := by decide +kernel
theorem d_St_firstReady_27 : decode b_St_firstReady 27 = .ok (.ifCond .eq 5, 3) := by decide +kernel
theorem d_St_firstReady_30 : decode b_St_firstReady 30 = .ok (.iload_n 2, 1) := by decide +kernel
theorem d_St_firstReady_31 : decode b_St_firstReady 31 = .ok (.ireturn, 1) := by decide +kernel
theorem d_St_firstReady_32 : decode b_St_firstReady 32 = .ok (.iinc 2 1, 3) := by decide +kernel
theorem d_St_firstReady_35 : decode b_St_firstReady 35 = .ok (.goto (-33), 3) := by decide +kernel
theorem d_St_firstReady_38 : decode b_St_firstReady 38 = .ok (.bipush (-3), 2) := by decide +kernel
theorem d_St_firstReady_40 : decode b_St_firstReady 40 = .ok (.ireturn, 1) := by decide +kernel
theorem d_St_hasRightChild_0 : decode b_St_hasRightChild 0 = .ok (.iconst 0, 1) := by decide +kernel
theorem d_St_hasRightChild_1 : decode b_St_hasRightChild 1 = .ok (.istore_n 3, 1) := by decide +kernel
theorem d_St_hasRightChild_2 : decode b_St_hasRightChild 2 = .ok (.iload_n 3, 1) := by decide +kernel
theorem d_St_hasRightChild_3 : decode b_St_hasRightChild 3 = .ok (.aload_n 0, 1) := by decide +kernel
theorem d_St_hasRightChild_4 : decode b_St_hasRightChild 4 = .ok (.getfield 12, 3) := by decide +kernel
theorem d_St_hasRightChild_7 : decode b_St_hasRightChild 7 = .ok (.getfield 96, 3) := by decide +kernel
theorem d_St_hasRightChild_10 : decode b_St_hasRightChild 10 = .ok (.if_icmp .ge 46, 3) := by decide +kernel
theorem d_St_hasRightChild_13 : decode b_St_hasRightChild 13 = .ok (.aload_n 1, 1) := by decide +kernel
theorem d_St_hasRightChild_14 : decode b_St_hasRightChild 14 = .ok (.getfield 45, 3) := by decide +kernel
theorem d_St_hasRightChild_17 : decode b_St_hasRightChild 17 = .ok (.iload_n 3, 1) := by decide +kernel
theorem d_St_hasRightChild_18 : decode b_St_hasRightChild 18 = .ok (.iaload, 1) := by decide +kernel
theorem d_St_hasRightChild_19 : decode b_St_hasRightChild 19 = .ok (.ifCond .eq 31, 3) := by decide +kernel
theorem d_St_hasRightChild_22 : decode b_St_hasRightChild 22 = .ok (.aload_n 0, 1) := by decide +kernel
theorem d_St_hasRightChild_23 : decode b_St_hasRightChild 23 = .ok (.getfield 12, 3) := by decide +kernel
theorem d_St_hasRightChild_26 : decode b_St_hasRightChild 26 = .ok (.getfield 103, 3) := by decide +kernel
theorem d_St_hasRightChild_29 : decode b_St_hasRightChild 29 = .ok (.iload_n 3, 1) := by decide +kernel
theorem d_St_hasRightChild_30 : decode b_St_hasRightChild 30 = .ok (.iaload, 1) := by decide +kernel
theorem d_St_hasRightChild_31 : decode b_St_hasRightChild 31 = .ok (.iload_n 2, 1) := by decide +kernel
theorem d_St_hasRightChild_32 : decode b_St_hasRightChild 32 = .ok (.if_icmp .ne 18, 3) := by decide +kernel
theorem d_St_hasRightChild_35 : decode b_St_hasRightChild 35 = .ok (.aload_n 0, 1) := by decide +kernel
theorem d_St_hasRightChild_36 : decode b_St_hasRightChild 36 = .ok (.getfield 12, 3) := by decide +kernel
theorem d_St_hasRightChild_39 : decode b_St_hasRightChild 39 = .ok (.getfield 106, 3) := by decide +kernel
theorem d_St_hasRightChild_42 : decode b_St_hasRightChild 42 = .ok (.iload_n 3, 1) := by decide +kernel
theorem d_St_hasRightChild_43 : decode b_St_hasRightChild 43 = .ok (.iaload, 1) := by decide +kernel
theorem d_St_hasRightChild_44 : decode b_St_hasRightChild 44 = .ok (.iconst 1, 1) := by decide +kernel
theorem d_St_hasRightChild_45 : decode b_St_hasRightChild 45 = .ok (.if_icmp .ne 5, 3) := by decide +kernel
theorem d_St_hasRightChild_48 : decode b_St_hasRightChild 48 = .ok (.iconst 1, 1) := by decide +kernel
theorem d_St_hasRightChild_49 : decode b_St_hasRightChild 49 = .ok (.ireturn, 1) := by decide +kernel
theorem d_St_hasRightChild_50 : decode b_St_hasRightChild 50 = .ok (.iinc 3 1, 3) := by decide +kernel
theorem d_St_hasRightChild_53 : decode b_St_hasRightChild 53 = .ok (.goto (-51), 3) := by decide +kernel
theorem d_St_hasRightChild_56 : decode b_St_hasRightChild 56 = .ok (.iconst 0, 1) := by decide +kernel
theorem d_St_hasRightChild_57 : decode b_St_hasRightChild 57 = .ok (.ireturn, 1) := by decide +kernel
theorem d_St_init_0 : decode b_St_init 0 = .ok (.aload_n 0, 1) := by decide +kernel
theorem d_St_init_1 : decode b_St_init 1 = .ok (.invokespecial 3, 3) := by decide +kernel
theorem d_St_init_4 : decode b_St_init 4 = .ok (.aload_n 0, 1) := by decide +kernel
theorem d_St_init_5 : decode b_St_init 5 = .ok (.new 9, 3) := by decide +kernel
theorem d_St_init_8 : decode b_St_init 8 = .ok (.dup, 1) := by decide +kernel
theorem d_St_init_9 : decode b_St_init 9 = .ok (.invokespecial 11, 3) := by decide +kernel
theorem d_St_init_12 : decode b_St_init 12 = .ok (.putfield 12, 3) := by decide +kernel
theorem d_St_init_15 : decode b_St_init 15 = .ok (.aload_n 0, 1) := by decide +kernel
theorem d_St_init_16 : decode b_St_init 16 = .ok (.iconst 3, 1) := by decide +kernel
theorem d_St_init_17 : decode b_St_init 17 = .ok (.anewarray 16, 3) := by decide +kernel
theorem d_St_init_20 : decode b_St_init 20 = .ok (.putfield 18, 3) := by decide +kernel
theorem d_St_init_23 : decode b_St_init 23 = .ok (.iconst 0, 1) := by decide +kernel
theorem d_St_init_24 : decode b_St_init 24 = .ok (.istore_n 1, 1) := by decide +kernel
theorem d_St_init_25 : decode b_St_init 25 = .ok (.iload_n 1, 1) := by decide +kernel
theorem d_St_init_26 : decode b_St_init 26 = .ok (.iconst 3, 1) := by decide +kernel
theorem d_St_init_27 : decode b_St_init 27 = .ok (.if_icmp .ge 22, 3) := by decide +kernel
theorem d_St_init_30 : decode b_St_init 30 = .ok (.aload_n 0, 1) := by decide +kernel
theorem d_St_init_31 : decode b_St_init 31 = .ok (.getfield 18, 3) := by decide +kernel
theorem d_St_init_34 : decode b_St_init 34 = .ok (.iload_n 1, 1) := by decide +kernel
theorem d_St_init_35 : decode b_St_init 35 = .ok (.new 16, 3) := by decide +kernel
theorem d_St_init_38 : decode b_St_init 38 = .ok (.dup, 1) := by decide +kernel
theorem d_St_init_39 : decode b_St_init 39 = .ok (.invokespecial 22, 3) := by decide +kernel
theorem d_St_init_42 : decode b_St_init 42 = .ok (.aastore, 1) := by decide +kernel
theorem d_St_init_43 : decode b_St_init 43 = .ok (.iinc 1 1, 3) := by decide +kernel
theorem d_St_init_46 : decode b_St_init 46 = .ok (.goto (-21), 3) := by decide +kernel
theorem d_St_init_49 : decode b_St_init 49 = .ok (.return_, 1) := by decide +kernel
theorem d_St_insert_0 : decode b_St_insert 0 = .ok (.iload_n 1, 1) := by decide +kernel
theorem d_St_insert_1 : decode b_St_insert 1 = .ok (.invokestatic 23, 3) := by decide +kernel
theorem d_St_insert_4 : decode b_St_insert 4 = .ok (.ifCond .ne 5, 3) := by decide +kernel
theorem d_St_insert_7 : decode b_St_insert 7 = .ok (.iconst (-1), 1) := by decide +kernel
theorem d_St_insert_8 : decode b_St_insert 8 = .ok (.ireturn, 1) := by decide +kernel
theorem d_St_insert_9 : decode b_St_insert 9 = .ok (.aload_n 0, 1) := by decide +kernel
theorem d_St_insert_10 : decode b_St_insert 10 = .ok (.getfield 18, 3) := by decide +kernel
theorem d_St_insert_13 : decode b_St_insert 13 = .ok (.iload_n 1, 1) := by decide +kernel
theorem d_St_insert_14 : decode b_St_insert 14 = .ok (.aaload, 1) := by decide +kernel
theorem d_St_insert_15 : decode b_St_insert 15 = .ok (.astore 4, 2) := by decide +kernel
theorem d_St_insert_17 : decode b_St_insert 17 = .ok (.iload_n 2, 1) := by decide +kernel
theorem d_St_insert_18 : decode b_St_insert 18 = .ok (.ifCond .lt 14, 3) := by decide +kernel
theorem d_St_insert_21 : decode b_St_insert 21 = .ok (.iload_n 2, 1) := by decide +kernel
theorem d_St_insert_22 : decode b_St_insert 22 = .ok (.aload_n 0, 1) := by decide +kernel
theorem d_St_insert_23 : decode b_St_insert 23 = .ok (.aload 4, 2) := by decide +kernel
theorem d_St_insert_25 : decode b_St_insert 25 = .ok (.iconst 1, 1) := by decide +kernel
theorem d_St_insert_26 : decode b_St_insert 26 = .ok (.invokevirtual 27, 3) := by decide +kernel
theorem d_St_insert_29 : decode b_St_insert 29 = .ok (.if_icmp .le 5, 3) := by decide +kernel
theorem d_St_insert_32 : decode b_St_insert 32 = .ok (.iconst (-1), 1) := by decide +kernel
theorem d_St_insert_33 : decode b_St_insert 33 = .ok (.ireturn, 1) := by decide +kernel
theorem d_St_insert_34 : decode b_St_insert 34 = .ok (.aload_n 0, 1) := by decide +kernel
theorem d_St_insert_35 : decode b_St_insert 35 = .ok (.getfield 12, 3) := by decide +kernel
theorem d_St_insert_38 : decode b_St_insert 38 = .ok (.invokevirtual 31, 3) := by decide +kernel
theorem d_St_insert_41 : decode b_St_insert 41 = .ok (.ifCond .ne 11, 3) := by decide +kernel
theorem d_St_insert_44 : decode b_St_insert 44 = .ok (.aload_n 0, 1) := by decide +kernel
theorem d_St_insert_45 : decode b_St_insert 45 = .ok (.iload_n 1, 1) := by decide +kernel
theorem d_St_insert_46 : decode b_St_insert 46 = .ok (.invokevirtual 35, 3) := by decide +kernel
theorem d_St_insert_49 : decode b_St_insert 49 = .ok (.ifCond .eq 6, 3) := by decide +kernel
theorem d_St_insert_52 : decode b_St_insert 52 = .ok (.bipush (-2), 2) := by decide +kernel
theorem d_St_insert_54 : decode b_St_insert 54 = .ok (.ireturn, 1) := by decide +kernel
theorem d_St_insert_55 : decode b_St_insert 55 = .ok (.aload_n 0, 1) := by decide +kernel
theorem d_St_insert_56 : decode b_St_insert 56 = .ok (.iload_n 1, 1) := by decide +kernel
theorem d_St_insert_57 : decode b_St_insert 57 = .ok (.iload_n 2, 1) := by decide +kernel
theorem d_St_insert_58 : decode b_St_insert 58 = .ok (.ifCond .ne 7, 3) := by decide +kernel
theorem d_St_insert_61 : decode b_St_insert 61 = .ok (.iconst (-1), 1) := by decide +kernel
theorem d_St_insert_62 : decode b_St_insert 62 = .ok (.goto 12, 3) := by decide +kernel
theorem d_St_insert_65 : decode b_St_insert 65 = .ok (.aload_n 0, 1) := by decide +kernel
theorem d_St_insert_66 : decode b_St_insert 66 = .ok (.aload 4, 2) := by decide +kernel
theorem d_St_insert_68 : decode b_St_insert 68 = .ok (.iload_n 2, 1) := by decide +kernel
theorem d_St_insert_69 : decode b_St_insert 69 = .ok (.iconst 1, 1) := by decide +kernel
theorem d_St_insert_70 : decode b_St_insert 70 = .ok (.isub, 1) := by decide +kernel
theorem d_St_insert_71 : decode b_St_insert 71 = .ok (.invokevirtual 38, 3) := by decide +kernel
theorem d_St_insert_74 : decode b_St_insert 74 = .ok (.iload_n 3, 1) := by decide +kernel
theorem d_St_insert_75 : decode b_St_insert 75 = .ok (.invokevirtual 41, 3) := by decide +kernel
theorem d_St_insert_78 : decode b_St_insert 78 = .ok (.istore 5, 2) := by decide +kernel
theorem d_St_insert_80 : decode b_St_insert 80 = .ok (.aload 4, 2) := by decide +kernel
theorem d_St_insert_82 : decode b_St_insert 82 = .ok (.getfield 45, 3) := by decide +kernel
theorem d_St_insert_85 : decode b_St_insert 85 = .ok (.iload 5, 2) := by decide +kernel
theorem d_St_insert_87 : decode b_St_insert 87 = .ok (.iconst 1, 1) := by decide +kernel
theorem d_St_insert_88 : decode b_St_insert 88 = .ok (.iastore, 1) := by decide +kernel
theorem d_St_insert_89 : decode b_St_insert 89 = .ok (.aload_n 0, 1) := by decide +kernel
theorem d_St_insert_90 : decode b_St_insert 90 = .ok (.iload_n 1, 1) := by decide +kernel
theorem d_St_insert_91 : decode b_St_insert 91 = .ok (.iload 5, 2) := by decide +kernel
theorem d_St_insert_93 : decode b_St_insert 93 = .ok (.invokevirtual 49, 3) := by decide +kernel
theorem d_St_insert_96 : decode b_St_insert 96 = .ok (.iload 5, 2) := by decide +kernel
theorem d_St_insert_98 : decode b_St_insert 98 = .ok (.ireturn, 1) := by decide +kernel
theorem d_St_isErasing_0 : decode b_St_isErasing 0 = .ok (.iload_n 0, 1) := by decide +kernel
theorem d_St_isErasing_1 : decode b_St_isErasing 1 = .ok (.bipush (-10), 2) := by decide +kernel
theorem d_St_isErasing_3 : decode b_St_isErasing 3 = .ok (.if_icmp .gt 7, 3) := by decide +kernel
theorem d_St_isErasing_6 : decode b_St_isErasing 6 = .ok (.iconst 1, 1) := by decide +kernel
theorem d_St_isErasing_7 : decode b_St_isErasing 7 = .ok (.goto 4, 3) := by decide +kernel
theorem d_St_isErasing_10 : decode b_St_isErasing 10 = .ok (.iconst 0, 1) := by decide +kernel
theorem d_St_isErasing_11 : decode b_St_isErasing 11 = .ok (.ireturn, 1) := by decide +kernel
theorem d_St_isOtherTrayFull_0 : decode b_St_isOtherTrayFull 0 = .ok (.iconst 0, 1) := by decide +kernel
theorem d_St_isOtherTrayFull_1 : decode b_St_isOtherTrayFull 1 = .ok (.istore_n 2, 1) := by decide +kernel
theorem d_St_isOtherTrayFull_2 : decode b_St_isOtherTrayFull 2 = .ok (.iload_n 2, 1) := by decide +kernel
theorem d_St_isOtherTrayFull_3 : decode b_St_isOtherTrayFull 3 = .ok (.iconst 3, 1) := by decide +kernel
theorem d_St_isOtherTrayFull_4 : decode b_St_isOtherTrayFull 4 = .ok (.if_icmp .ge 31, 3) := by decide +kernel
theorem d_St_isOtherTrayFull_7 : decode b_St_isOtherTrayFull 7 = .ok (.iload_n 2, 1) := by decide +kernel
theorem d_St_isOtherTrayFull_8 : decode b_St_isOtherTrayFull 8 = .ok (.iload_n 1, 1) := by decide +kernel
theorem d_St_isOtherTrayFull_9 : decode b_St_isOtherTrayFull 9 = .ok (.if_icmp .eq 20, 3) := by decide +kernel
theorem d_St_isOtherTrayFull_12 : decode b_St_isOtherTrayFull 12 = .ok (.aload_n 0, 1) := by decide +kernel
theorem d_St_isOtherTrayFull_13 : decode b_St_isOtherTrayFull 13 = .ok (.getfield 18, 3) := by decide +kernel
theorem d_St_isOtherTrayFull_16 : decode b_St_isOtherTrayFull 16 = .ok (.iload_n 2, 1) := by decide +kernel
theorem d_St_isOtherTrayFull_17 : decode b_St_isOtherTrayFull 17 = .ok (.aaload, 1) := by decide +kernel
theorem d_St_isOtherTrayFull_18 : decode b_St_isOtherTrayFull 18 = .ok (.getfield 53, 3) := by decide +kernel
theorem d_St_isOtherTrayFull_21 : decode b_St_isOtherTrayFull 21 = .ok (.invokevirtual 130, 3) := by decide +kernel
theorem d_St_isOtherTrayFull_24 : decode b_St_isOtherTrayFull 24 = .ok (.ifCond .eq 5, 3) := by decide +kernel
theorem d_St_isOtherTrayFull_27 : decode b_St_isOtherTrayFull 27 = .ok (.iconst 1, 1) := by decide +kernel
theorem d_St_isOtherTrayFull_28 : decode b_St_isOtherTrayFull 28 = .ok (.ireturn, 1) := by decide +kernel
theorem d_St_isOtherTrayFull_29 : decode b_St_isOtherTrayFull 29 = .ok (.iinc 2 1, 3) := by decide +kernel
theorem d_St_isOtherTrayFull_32 : decode b_St_isOtherTrayFull 32 = .ok (.goto (-30), 3) := by decide +kernel
theorem d_St_isOtherTrayFull_35 : decode b_St_isOtherTrayFull 35 = .ok (.iconst 0, 1) := by decide +kernel
theorem d_St_isOtherTrayFull_36 : decode b_St_isOtherTrayFull 36 = .ok (.ireturn, 1) := by decide +kernel
theorem d_St_isReady_0 : decode b_St_isReady 0 = .ok (.iload_n 2, 1) := by decide +kernel
theorem d_St_isReady_1 : decode b_St_isReady 1 = .ok (.invokestatic 131, 3) := by decide +kernel
theorem d_St_isReady_4 : decode b_St_isReady 4 = .ok (.ifCond .eq 12, 3) := by decide +kernel
theorem d_St_isReady_7 : decode b_St_isReady 7 = .ok (.aload_n 1, 1) := by decide +kernel
theorem d_St_isReady_8 : decode b_St_isReady 8 = .ok (.bipush (-10), 2) := by decide +kernel
theorem d_St_isReady_10 : decode b_St_isReady 10 = .ok (.iload_n 2, 1) := by decide +kernel
theorem d_St_isReady_11 : decode b_St_isReady 11 = .ok (.isub, 1) := by decide +kernel
theorem d_St_isReady_12 : decode b_St_isReady 12 = .ok (.invokevirtual 134, 3) := by decide +kernel
theorem d_St_isReady_15 : decode b_St_isReady 15 = .ok (.ireturn, 1) := by decide +kernel
theorem d_St_isReady_16 : decode b_St_isReady 16 = .ok (.aload_n 1, 1) := by decide +kernel
theorem d_St_isReady_17 : decode b_St_isReady 17 = .ok (.aload_n 0, 1) := by decide +kernel
theorem d_St_isReady_18 : decode b_St_isReady 18 = .ok (.getfield 12, 3) := by decide +kernel
theorem d_St_isReady_21 : decode b_St_isReady 21 = .ok (.getfield 103, 3) := by decide +kernel
theorem d_St_isReady_24 : decode b_St_isReady 24 = .ok (.iload_n 2, 1) := by decide +kernel
theorem d_St_isReady_25 : decode b_St_isReady 25 = .ok (.iaload, 1) := by decide +kernel
theorem d_St_isReady_26 : decode b_St_isReady 26 = .ok (.invokevirtual 134, 3) := by decide +kernel
theorem d_St_isReady_29 : decode b_St_isReady 29 = .ok (.ifCond .eq 23, 3) := by decide +kernel
theorem d_St_isReady_32 : decode b_St_isReady 32 = .ok (.aload_n 1, 1) := by decide +kernel
theorem d_St_isReady_33 : decode b_St_isReady 33 = .ok (.aload_n 0, 1) := by decide +kernel
theorem d_St_isReady_34 : decode b_St_isReady 34 = .ok (.getfield 12, 3) := by decide +kernel
theorem d_St_isReady_37 : decode b_St_isReady 37 = .ok (.getfield 109, 3) := by decide +kernel
theorem d_St_isReady_40 : decode b_St_isReady 40 = .ok (.iload_n 2, 1) := by decide +kernel
theorem d_St_isReady_41 : decode b_St_isReady 41 = .ok (.iaload, 1) := by decide +kernel
theorem d_St_isReady_42 : decode b_St_isReady 42 = .ok (.invokevirtual 134, 3) := by decide +kernel
theorem d_St_isReady_45 : decode b_St_isReady 45 = .ok (.ifCond .eq 7, 3) := by decide +kernel
theorem d_St_isReady_48 : decode b_St_isReady 48 = .ok (.iconst 1, 1) := by decide +kernel
theorem d_St_isReady_49 : decode b_St_isReady 49 = .ok (.goto 4, 3) := by decide +kernel
theorem d_St_isReady_52 : decode b_St_isReady 52 = .ok (.iconst 0, 1) := by decide +kernel
theorem d_St_isReady_53 : decode b_St_isReady 53 = .ok (.ireturn, 1) := by decide +kernel
theorem d_St_isReplica_0 : decode b_St_isReplica 0 = .ok (.iload_n 0, 1) := by decide +kernel
theorem d_St_isReplica_1 : decode b_St_isReplica 1 = .ok (.ifCond .lt 12, 3) := by decide +kernel
theorem d_St_isReplica_4 : decode b_St_isReplica 4 = .ok (.iload_n 0, 1) := by decide +kernel
theorem d_St_isReplica_5 : decode b_St_isReplica 5 = .ok (.iconst 3, 1) := by decide +kernel
theorem d_St_isReplica_6 : decode b_St_isReplica 6 = .ok (.if_icmp .ge 7, 3) := by decide +kernel
theorem d_St_isReplica_9 : decode b_St_isReplica 9 = .ok (.iconst 1, 1) := by decide +kernel
theorem d_St_isReplica_10 : decode b_St_isReplica 10 = .ok (.goto 4, 3) := by decide +kernel
theorem d_St_isReplica_13 : decode b_St_isReplica 13 = .ok (.iconst 0, 1) := by decide +kernel
theorem d_St_isReplica_14 : decode b_St_isReplica 14 = .ok (.ireturn, 1) := by decide +kernel
theorem d_St_known_0 : decode b_St_known 0 = .ok (.iload_n 1, 1) := by decide +kernel
theorem d_St_known_1 : decode b_St_known 1 = .ok (.invokestatic 23, 3) := by decide +kernel
theorem d_St_known_4 : decode b_St_known 4 = .ok (.ifCond .ne 5, 3) := by decide +kernel
theorem d_St_known_7 : decode b_St_known 7 = .ok (.iconst (-1), 1) := by decide +kernel
theorem d_St_known_8 : decode b_St_known 8 = .ok (.ireturn, 1) := by decide +kernel
theorem d_St_known_9 : decode b_St_known 9 = .ok (.aload_n 0, 1) := by decide +kernel
theorem d_St_known_10 : decode b_St_known 10 = .ok (.getfield 18, 3) := by decide +kernel
theorem d_St_known_13 : decode b_St_known 13 = .ok (.iload_n 1, 1) := by decide +kernel
theorem d_St_known_14 : decode b_St_known 14 = .ok (.aaload, 1) := by decide +kernel
theorem d_St_known_15 : decode b_St_known 15 = .ok (.astore_n 2, 1) := by decide +kernel
theorem d_St_known_16 : decode b_St_known 16 = .ok (.aload_n 0, 1) := by decide +kernel
theorem d_St_known_17 : decode b_St_known 17 = .ok (.aload_n 2, 1) := by decide +kernel
theorem d_St_known_18 : decode b_St_known 18 = .ok (.iconst 1, 1) := by decide +kernel
theorem d_St_known_19 : decode b_St_known 19 = .ok (.invokevirtual 27, 3) := by decide +kernel
theorem d_St_known_22 : decode b_St_known 22 = .ok (.aload_n 0, 1) := by decide +kernel
theorem d_St_known_23 : decode b_St_known 23 = .ok (.aload_n 2, 1) := by decide +kernel
theorem d_St_known_24 : decode b_St_known 24 = .ok (.iconst 2, 1) := by decide +kernel
theorem d_St_known_25 : decode b_St_known 25 = .ok (.invokevirtual 27, 3) := by decide +kernel
theorem d_St_known_28 : decode b_St_known 28 = .ok (.iadd, 1) := by decide +kernel
theorem d_St_known_29 : decode b_St_known 29 = .ok (.ireturn, 1) := by decide +kernel
theorem d_St_length_0 : decode b_St_length 0 = .ok (.iload_n 1, 1) := by decide +kernel
theorem d_St_length_1 : decode b_St_length 1 = .ok (.invokestatic 23, 3) := by decide +kernel
theorem d_St_length_4 : decode b_St_length 4 = .ok (.ifCond .eq 17, 3) := by decide +kernel
theorem d_St_length_7 : decode b_St_length 7 = .ok (.aload_n 0, 1) := by decide +kernel
theorem d_St_length_8 : decode b_St_length 8 = .ok (.aload_n 0, 1) := by decide +kernel
theorem d_St_length_9 : decode b_St_length 9 = .ok (.getfield 18, 3) := by decide +kernel
theorem d_St_length_12 : decode b_St_length 12 = .ok (.iload_n 1, 1) := by decide +kernel
theorem d_St_length_13 : decode b_St_length 13 = .ok (.aaload, 1) := by decide +kernel
theorem d_St_length_14 : decode b_St_length 14 = .ok (.iconst 1, 1) := by decide +kernel
theorem d_St_length_15 : decode b_St_length 15 = .ok (.invokevirtual 27, 3) := by decide +kernel
theorem d_St_length_18 : decode b_St_length 18 = .ok (.goto 4, 3) := by decide +kernel
theorem d_St_length_21 : decode b_St_length 21 = .ok (.iconst (-1), 1) := by decide +kernel
theorem d_St_length_22 : decode b_St_length 22 = .ok (.ireturn, 1) := by decide +kernel
theorem d_St_made_0 : decode b_St_made 0 = .ok (.aload_n 0, 1) := by decide +kernel
theorem d_St_made_1 : decode b_St_made 1 = .ok (.getfield 12, 3) := by decide +kernel
theorem d_St_made_4 : decode b_St_made 4 = .ok (.getfield 96, 3) := by decide +kernel
theorem d_St_made_7 : decode b_St_made 7 = .ok (.ireturn, 1) := by decide +kernel
theorem d_St_makeBehind_0 : decode b_St_makeBehind 0 = .ok (.aload_n 0, 1) := by decide +kernel
theorem d_St_makeBehind_1 : decode b_St_makeBehind 1 = .ok (.getfield 18, 3) := by decide +kernel
theorem d_St_makeBehind_4 : decode b_St_makeBehind 4 = .ok (.iload_n 1, 1) := by decide +kernel
theorem d_St_makeBehind_5 : decode b_St_makeBehind 5 = .ok (.aaload, 1) := by decide +kernel
theorem d_St_makeBehind_6 : decode b_St_makeBehind 6 = .ok (.astore 4, 2) := by decide +kernel
theorem d_St_makeBehind_8 : decode b_St_makeBehind 8 = .ok (.aload_n 0, 1) := by decide +kernel
theorem d_St_makeBehind_9 : decode b_St_makeBehind 9 = .ok (.aload 4, 2) := by decide +kernel
theorem d_St_makeBehind_11 : decode b_St_makeBehind 11 = .ok (.iload_n 2, 1) := by decide +kernel
theorem d_St_makeBehind_12 : decode b_St_makeBehind 12 = .ok (.invokevirtual 118, 3) := by decide +kernel
theorem d_St_makeBehind_15 : decode b_St_makeBehind 15 = .ok (.istore 5, 2) := by decide +kernel
theorem d_St_makeBehind_17 : decode b_St_makeBehind 17 = .ok (.aload_n 0, 1) := by decide +kernel
theorem d_St_makeBehind_18 : decode b_St_makeBehind 18 = .ok (.aload 4, 2) := by decide +kernel
theorem d_St_makeBehind_20 : decode b_St_makeBehind 20 = .ok (.iload_n 2, 1) := by decide +kernel
theorem d_St_makeBehind_21 : decode b_St_makeBehind 21 = .ok (.invokevirtual 121, 3) := by decide +kernel
theorem d_St_makeBehind_24 : decode b_St_makeBehind 24 = .ok (.ifCond .eq 18, 3) := by decide +kernel
theorem d_St_makeBehind_27 : decode b_St_makeBehind 27 = .ok (.aload_n 0, 1) := by decide +kernel
theorem d_St_makeBehind_28 : decode b_St_makeBehind 28 = .ok (.getfield 12, 3) := by decide +kernel
theorem d_St_makeBehind_31 : decode b_St_makeBehind 31 = .ok (.iload_n 1, 1) := by decide +kernel
theorem d_St_makeBehind_32 : decode b_St_makeBehind 32 = .ok (.iload_n 3, 1) := by decide +kernel
theorem d_St_makeBehind_33 : decode b_St_makeBehind 33 = .ok (.iload 5, 2) := by decide +kernel
theorem d_St_makeBehind_35 : decode b_St_makeBehind 35 = .ok (.iconst 0, 1) := by decide +kernel
theorem d_St_makeBehind_36 : decode b_St_makeBehind 36 = .ok (.iload 5, 2) := by decide +kernel
theorem d_St_makeBehind_38 : decode b_St_makeBehind 38 = .ok (.invokevirtual 124, 3) := by decide +kernel
theorem d_St_makeBehind_41 : decode b_St_makeBehind 41 = .ok (.ireturn, 1) := by decide +kernel
theorem d_St_makeBehind_42 : decode b_St_makeBehind 42 = .ok (.aload_n 0, 1) := by decide +kernel
theorem d_St_makeBehind_43 : decode b_St_makeBehind 43 = .ok (.getfield 12, 3) := by decide +kernel
theorem d_St_makeBehind_46 : decode b_St_makeBehind 46 = .ok (.iload_n 1, 1) := by decide +kernel
theorem d_St_makeBehind_47 : decode b_St_makeBehind 47 = .ok (.iload_n 3, 1) := by decide +kernel
theorem d_St_makeBehind_48 : decode b_St_makeBehind 48 = .ok (.iload_n 2, 1) := by decide +kernel
theorem d_St_makeBehind_49 : decode b_St_makeBehind 49 = .ok (.iconst 1, 1) := by decide +kernel
theorem d_St_makeBehind_50 : decode b_St_makeBehind 50 = .ok (.iload 5, 2) := by decide +kernel
theorem d_St_makeBehind_52 : decode b_St_makeBehind 52 = .ok (.invokevirtual 124, 3) := by decide +kernel
theorem d_St_makeBehind_55 : decode b_St_makeBehind 55 = .ok (.ireturn, 1) := by decide +kernel
theorem d_St_message_0 : decode b_St_message 0 = .ok (.iload_n 1, 1) := by decide +kernel
theorem d_St_message_1 : decode b_St_message 1 = .ok (.invokestatic 23, 3) := by decide +kernel
theorem d_St_message_4 : decode b_St_message 4 = .ok (.ifCond .ne 5, 3) := by decide +kernel
theorem d_St_message_7 : decode b_St_message 7 = .ok (.iconst (-1), 1) := by decide +kernel
theorem d_St_message_8 : decode b_St_message 8 = .ok (.ireturn, 1) := by decide +kernel
theorem d_St_message_9 : decode b_St_message 9 = .ok (.aload_n 0, 1) := by decide +kernel
theorem d_St_message_10 : decode b_St_message 10 = .ok (.getfield 18, 3) := by decide +kernel
theorem d_St_message_13 : decode b_St_message 13 = .ok (.iload_n 1, 1) := by decide +kernel
theorem d_St_message_14 : decode b_St_message 14 = .ok (.aaload, 1) := by decide +kernel
theorem d_St_message_15 : decode b_St_message 15 = .ok (.getfield 53, 3) := by decide +kernel
theorem d_St_message_18 : decode b_St_message 18 = .ok (.astore_n 3, 1) := by decide +kernel
theorem d_St_message_19 : decode b_St_message 19 = .ok (.aload_n 3, 1) := by decide +kernel
theorem d_St_message_20 : decode b_St_message 20 = .ok (.iload_n 2, 1) := by decide +kernel
theorem d_St_message_21 : decode b_St_message 21 = .ok (.invokevirtual 57, 3) := by decide +kernel
theorem d_St_message_24 : decode b_St_message 24 = .ok (.ifCond .eq 12, 3) := by decide +kernel
theorem d_St_message_27 : decode b_St_message 27 = .ok (.aload_n 3, 1) := by decide +kernel
theorem d_St_message_28 : decode b_St_message 28 = .ok (.getfield 93, 3) := by decide +kernel
theorem d_St_message_31 : decode b_St_message 31 = .ok (.iload_n 2, 1) := by decide +kernel
theorem d_St_message_32 : decode b_St_message 32 = .ok (.iaload, 1) := by decide +kernel
theorem d_St_message_33 : decode b_St_message 33 = .ok (.goto 5, 3) := by decide +kernel
theorem d_St_message_36 : decode b_St_message 36 = .ok (.bipush (-3), 2) := by decide +kernel
theorem d_St_message_38 : decode b_St_message 38 = .ok (.ireturn, 1) := by decide +kernel
theorem d_St_nextBehind_0 : decode b_St_nextBehind 0 = .ok (.aload_n 0, 1) := by decide +kernel
theorem d_St_nextBehind_1 : decode b_St_nextBehind 1 = .ok (.getfield 12, 3) := by decide +kernel
theorem d_St_nextBehind_4 : decode b_St_nextBehind 4 = .ok (.iload_n 2, 1) := by decide +kernel
theorem d_St_nextBehind_5 : decode b_St_nextBehind 5 = .ok (.invokevirtual 127, 3) := by decide +kernel
theorem d_St_nextBehind_8 : decode b_St_nextBehind 8 = .ok (.istore_n 3, 1) := by decide +kernel
theorem d_St_nextBehind_9 : decode b_St_nextBehind 9 = .ok (.iload_n 3, 1) := by decide +kernel
theorem d_St_nextBehind_10 : decode b_St_nextBehind 10 = .ok (.aload_n 0, 1) := by decide +kernel
theorem d_St_nextBehind_11 : decode b_St_nextBehind 11 = .ok (.getfield 12, 3) := by decide +kernel
theorem d_St_nextBehind_14 : decode b_St_nextBehind 14 = .ok (.getfield 96, 3) := by decide +kernel
theorem d_St_nextBehind_17 : decode b_St_nextBehind 17 = .ok (.if_icmp .ge 36, 3) := by decide +kernel
theorem d_St_nextBehind_20 : decode b_St_nextBehind 20 = .ok (.aload_n 1, 1) := by decide +kernel
theorem d_St_nextBehind_21 : decode b_St_nextBehind 21 = .ok (.getfield 45, 3) := by decide +kernel
theorem d_St_nextBehind_24 : decode b_St_nextBehind 24 = .ok (.aload_n 0, 1) := by decide +kernel
theorem d_St_nextBehind_25 : decode b_St_nextBehind 25 = .ok (.getfield 12, 3) := by decide +kernel
theorem d_St_nextBehind_28 : decode b_St_nextBehind 28 = .ok (.getfield 115, 3) := by decide +kernel
theorem d_St_nextBehind_31 : decode b_St_nextBehind 31 = .ok (.iload_n 3, 1) := by decide +kernel
theorem d_St_nextBehind_32 : decode b_St_nextBehind 32 = .ok (.iaload, 1) := by decide +kernel
theorem d_St_nextBehind_33 : decode b_St_nextBehind 33 = .ok (.iaload, 1) := by decide +kernel
theorem d_St_nextBehind_34 : decode b_St_nextBehind 34 = .ok (.ifCond .eq 13, 3) := by decide +kernel
theorem d_St_nextBehind_37 : decode b_St_nextBehind 37 = .ok (.aload_n 0, 1) := by decide +kernel
theorem d_St_nextBehind_38 : decode b_St_nextBehind 38 = .ok (.getfield 12, 3) := by decide +kernel
theorem d_St_nextBehind_41 : decode b_St_nextBehind 41 = .ok (.getfield 115, 3) := by decide +kernel
theorem d_St_nextBehind_44 : decode b_St_nextBehind 44 = .ok (.iload_n 3, 1) := by decide +kernel
theorem d_St_nextBehind_45 : decode b_St_nextBehind 45 = .ok (.iaload, 1) := by decide +kernel
theorem d_St_nextBehind_46 : decode b_St_nextBehind 46 = .ok (.ireturn, 1) := by decide +kernel
theorem d_St_nextBehind_47 : decode b_St_nextBehind 47 = .ok (.iinc 3 1, 3) := by decide +kernel
theorem d_St_nextBehind_50 : decode b_St_nextBehind 50 = .ok (.goto (-41), 3) := by decide +kernel
theorem d_St_nextBehind_53 : decode b_St_nextBehind 53 = .ok (.iconst (-1), 1) := by decide +kernel
theorem d_St_nextBehind_54 : decode b_St_nextBehind 54 = .ok (.ireturn, 1) := by decide +kernel
theorem d_St_ordered_0 : decode b_St_ordered 0 = .ok (.iload_n 1, 1) := by decide +kernel
theorem d_St_ordered_1 : decode b_St_ordered 1 = .ok (.invokestatic 23, 3) := by decide +kernel
theorem d_St_ordered_4 : decode b_St_ordered 4 = .ok (.ifCond .eq 17, 3) := by decide +kernel
theorem d_St_ordered_7 : decode b_St_ordered 7 = .ok (.aload_n 0, 1) := by decide +kernel
theorem d_St_ordered_8 : decode b_St_ordered 8 = .ok (.aload_n 0, 1) := by decide +kernel
theorem d_St_ordered_9 : decode b_St_ordered 9 = .ok (.getfield 18, 3) := by decide +kernel
theorem d_St_ordered_12 : decode b_St_ordered 12 = .ok (.iload_n 1, 1) := by decide +kernel
theorem d_St_ordered_13 : decode b_St_ordered 13 = .ok (.aaload, 1) := by decide +kernel
theorem d_St_ordered_14 : decode b_St_ordered 14 = .ok (.iload_n 2, 1) := by decide +kernel
theorem d_St_ordered_15 : decode b_St_ordered 15 = .ok (.invokevirtual 85, 3) := by decide +kernel
theorem d_St_ordered_18 : decode b_St_ordered 18 = .ok (.goto 4, 3) := by decide +kernel
theorem d_St_ordered_21 : decode b_St_ordered 21 = .ok (.iconst (-1), 1) := by decide +kernel
theorem d_St_ordered_22 : decode b_St_ordered 22 = .ok (.ireturn, 1) := by decide +kernel
theorem d_St_orderedAt_0 : decode b_St_orderedAt 0 = .ok (.iload_n 2, 1) := by decide +kernel
theorem d_St_orderedAt_1 : decode b_St_orderedAt 1 = .ok (.istore_n 3, 1) := by decide +kernel
theorem d_St_orderedAt_2 : decode b_St_orderedAt 2 = .ok (.iconst 0, 1) := by decide +kernel
theorem d_St_orderedAt_3 : decode b_St_orderedAt 3 = .ok (.istore 4, 2) := by decide +kernel
theorem d_St_orderedAt_5 : decode b_St_orderedAt 5 = .ok (.iload 4, 2) := by decide +kernel
theorem d_St_orderedAt_7 : decode b_St_orderedAt 7 = .ok (.aload_n 0, 1) := by decide +kernel
theorem d_St_orderedAt_8 : decode b_St_orderedAt 8 = .ok (.getfield 12, 3) := by decide +kernel
theorem d_St_orderedAt_11 : decode b_St_orderedAt 11 = .ok (.getfield 96, 3) := by decide +kernel
theorem d_St_orderedAt_14 : decode b_St_orderedAt 14 = .ok (.if_icmp .ge 41, 3) := by decide +kernel
theorem d_St_orderedAt_17 : decode b_St_orderedAt 17 = .ok (.aload_n 0, 1) := by decide +kernel
theorem d_St_orderedAt_18 : decode b_St_orderedAt 18 = .ok (.getfield 12, 3) := by decide +kernel
theorem d_St_orderedAt_21 : decode b_St_orderedAt 21 = .ok (.getfield 115, 3) := by decide +kernel
theorem d_St_orderedAt_24 : decode b_St_orderedAt 24 = .ok (.iload 4, 2) := by decide +kernel
theorem d_St_orderedAt_26 : decode b_St_orderedAt 26 = .ok (.iaload, 1) := by decide +kernel
theorem d_St_orderedAt_27 : decode b_St_orderedAt 27 = .ok (.istore 5, 2) := by decide +kernel
theorem d_St_orderedAt_29 : decode b_St_orderedAt 29 = .ok (.aload_n 1, 1) := by decide +kernel
theorem d_St_orderedAt_30 : decode b_St_orderedAt 30 = .ok (.getfield 45, 3) := by decide +kernel
theorem d_St_orderedAt_33 : decode b_St_orderedAt 33 = .ok (.iload 5, 2) := by decide +kernel
theorem d_St_orderedAt_35 : decode b_St_orderedAt 35 = .ok (.iaload, 1) := by decide +kernel
theorem d_St_orderedAt_36 : decode b_St_orderedAt 36 = .ok (.ifCond .eq 13, 3) := by decide +kernel
theorem d_St_orderedAt_39 : decode b_St_orderedAt 39 = .ok (.iload_n 3, 1) := by decide +kernel
theorem d_St_orderedAt_40 : decode b_St_orderedAt 40 = .ok (.ifCond .ne 6, 3) := by decide +kernel
theorem d_St_orderedAt_43 : decode b_St_orderedAt 43 = .ok (.iload 5, 2) := by decide +kernel
theorem d_St_orderedAt_45 : decode b_St_orderedAt 45 = .ok (.ireturn, 1) := by decide +kernel
theorem d_St_orderedAt_46 : decode b_St_orderedAt 46 = .ok (.iinc 3 (-1), 3) := by decide +kernel
theorem d_St_orderedAt_49 : decode b_St_orderedAt 49 = .ok (.iinc 4 1, 3) := by decide +kernel
theorem d_St_orderedAt_52 : decode b_St_orderedAt 52 = .ok (.goto (-47), 3) := by decide +kernel
theorem d_St_orderedAt_55 : decode b_St_orderedAt 55 = .ok (.bipush (-3), 2) := by decide +kernel
theorem d_St_orderedAt_57 : decode b_St_orderedAt 57 = .ok (.ireturn, 1) := by decide +kernel
theorem d_St_send_0 : decode b_St_send 0 = .ok (.iconst 0, 1) := by decide +kernel
theorem d_St_send_1 : decode b_St_send 1 = .ok (.istore_n 3, 1) := by decide +kernel
theorem d_St_send_2 : decode b_St_send 2 = .ok (.iload_n 3, 1) := by decide +kernel
theorem d_St_send_3 : decode b_St_send 3 = .ok (.iconst 3, 1) := by decide +kernel
theorem d_St_send_4 : decode b_St_send 4 = .ok (.if_icmp .ge 27, 3) := by decide +kernel
theorem d_St_send_7 : decode b_St_send 7 = .ok (.iload_n 3, 1) := by decide +kernel
theorem d_St_send_8 : decode b_St_send 8 = .ok (.iload_n 1, 1) := by decide +kernel
theorem d_St_send_9 : decode b_St_send 9 = .ok (.if_icmp .eq 16, 3) := by decide +kernel
theorem d_St_send_12 : decode b_St_send 12 = .ok (.aload_n 0, 1) := by decide +kernel
theorem d_St_send_13 : decode b_St_send 13 = .ok (.getfield 18, 3) := by decide +kernel
theorem d_St_send_16 : decode b_St_send 16 = .ok (.iload_n 3, 1) := by decide +kernel
theorem d_St_send_17 : decode b_St_send 17 = .ok (.aaload, 1) := by decide +kernel
theorem d_St_send_18 : decode b_St_send 18 = .ok (.getfield 53, 3) := by decide +kernel
theorem d_St_send_21 : decode b_St_send 21 = .ok (.iload_n 2, 1) := by decide +kernel
theorem d_St_send_22 : decode b_St_send 22 = .ok (.invokevirtual 73, 3) := by decide +kernel
theorem d_St_send_25 : decode b_St_send 25 = .ok (.iinc 3 1, 3) := by decide +kernel
theorem d_St_send_28 : decode b_St_send 28 = .ok (.goto (-26), 3) := by decide +kernel
theorem d_St_send_31 : decode b_St_send 31 = .ok (.return_, 1) := by decide +kernel
theorem d_St_shown_0 : decode b_St_shown 0 = .ok (.iload_n 1, 1) := by decide +kernel
theorem d_St_shown_1 : decode b_St_shown 1 = .ok (.invokestatic 23, 3) := by decide +kernel
theorem d_St_shown_4 : decode b_St_shown 4 = .ok (.ifCond .eq 17, 3) := by decide +kernel
theorem d_St_shown_7 : decode b_St_shown 7 = .ok (.aload_n 0, 1) := by decide +kernel
theorem d_St_shown_8 : decode b_St_shown 8 = .ok (.aload_n 0, 1) := by decide +kernel
theorem d_St_shown_9 : decode b_St_shown 9 = .ok (.getfield 18, 3) := by decide +kernel
theorem d_St_shown_12 : decode b_St_shown 12 = .ok (.iload_n 1, 1) := by decide +kernel
theorem d_St_shown_13 : decode b_St_shown 13 = .ok (.aaload, 1) := by decide +kernel
theorem d_St_shown_14 : decode b_St_shown 14 = .ok (.iload_n 2, 1) := by decide +kernel
theorem d_St_shown_15 : decode b_St_shown 15 = .ok (.invokevirtual 38, 3) := by decide +kernel
theorem d_St_shown_18 : decode b_St_shown 18 = .ok (.goto 4, 3) := by decide +kernel
theorem d_St_shown_21 : decode b_St_shown 21 = .ok (.iconst (-1), 1) := by decide +kernel
theorem d_St_shown_22 : decode b_St_shown 22 = .ok (.ireturn, 1) := by decide +kernel
theorem d_St_shownAt_0 : decode b_St_shownAt 0 = .ok (.iload_n 2, 1) := by decide +kernel
theorem d_St_shownAt_1 : decode b_St_shownAt 1 = .ok (.istore_n 3, 1) := by decide +kernel
theorem d_St_shownAt_2 : decode b_St_shownAt 2 = .ok (.iconst 0, 1) := by decide +kernel
theorem d_St_shownAt_3 : decode b_St_shownAt 3 = .ok (.istore 4, 2) := by decide +kernel
theorem d_St_shownAt_5 : decode b_St_shownAt 5 = .ok (.iload 4, 2) := by decide +kernel
theorem d_St_shownAt_7 : decode b_St_shownAt 7 = .ok (.aload_n 0, 1) := by decide +kernel
theorem d_St_shownAt_8 : decode b_St_shownAt 8 = .ok (.getfield 12, 3) := by decide +kernel
theorem d_St_shownAt_11 : decode b_St_shownAt 11 = .ok (.getfield 96, 3) := by decide +kernel
theorem d_St_shownAt_14 : decode b_St_shownAt 14 = .ok (.if_icmp .ge 42, 3) := by decide +kernel
theorem d_St_shownAt_17 : decode b_St_shownAt 17 = .ok (.aload_n 0, 1) := by decide +kernel
theorem d_St_shownAt_18 : decode b_St_shownAt 18 = .ok (.getfield 12, 3) := by decide +kernel
theorem d_St_shownAt_21 : decode b_St_shownAt 21 = .ok (.getfield 115, 3) := by decide +kernel
theorem d_St_shownAt_24 : decode b_St_shownAt 24 = .ok (.iload 4, 2) := by decide +kernel
theorem d_St_shownAt_26 : decode b_St_shownAt 26 = .ok (.iaload, 1) := by decide +kernel
theorem d_St_shownAt_27 : decode b_St_shownAt 27 = .ok (.istore 5, 2) := by decide +kernel
theorem d_St_shownAt_29 : decode b_St_shownAt 29 = .ok (.aload_n 1, 1) := by decide +kernel
theorem d_St_shownAt_30 : decode b_St_shownAt 30 = .ok (.getfield 45, 3) := by decide +kernel
theorem d_St_shownAt_33 : decode b_St_shownAt 33 = .ok (.iload 5, 2) := by decide +kernel
theorem d_St_shownAt_35 : decode b_St_shownAt 35 = .ok (.iaload, 1) := by decide +kernel
theorem d_St_shownAt_36 : decode b_St_shownAt 36 = .ok (.iconst 1, 1) := by decide +kernel
theorem d_St_shownAt_37 : decode b_St_shownAt 37 = .ok (.if_icmp .ne 13, 3) := by decide +kernel
theorem d_St_shownAt_40 : decode b_St_shownAt 40 = .ok (.iload_n 3, 1) := by decide +kernel
theorem d_St_shownAt_41 : decode b_St_shownAt 41 = .ok (.ifCond .ne 6, 3) := by decide +kernel
theorem d_St_shownAt_44 : decode b_St_shownAt 44 = .ok (.iload 5, 2) := by decide +kernel
theorem d_St_shownAt_46 : decode b_St_shownAt 46 = .ok (.ireturn, 1) := by decide +kernel
theorem d_St_shownAt_47 : decode b_St_shownAt 47 = .ok (.iinc 3 (-1), 3) := by decide +kernel
theorem d_St_shownAt_50 : decode b_St_shownAt 50 = .ok (.iinc 4 1, 3) := by decide +kernel
theorem d_St_shownAt_53 : decode b_St_shownAt 53 = .ok (.goto (-48), 3) := by decide +kernel
theorem d_St_shownAt_56 : decode b_St_shownAt 56 = .ok (.bipush (-3), 2) := by decide +kernel
theorem d_St_shownAt_58 : decode b_St_shownAt 58 = .ok (.ireturn, 1) := by decide +kernel
theorem d_St_state_0 : decode b_St_state 0 = .ok (.iload_n 1, 1) := by decide +kernel
theorem d_St_state_1 : decode b_St_state 1 = .ok (.invokestatic 23, 3) := by decide +kernel
theorem d_St_state_4 : decode b_St_state 4 = .ok (.ifCond .ne 5, 3) := by decide +kernel
theorem d_St_state_7 : decode b_St_state 7 = .ok (.iconst (-1), 1) := by decide +kernel
theorem d_St_state_8 : decode b_St_state 8 = .ok (.ireturn, 1) := by decide +kernel
theorem d_St_state_9 : decode b_St_state 9 = .ok (.aload_n 0, 1) := by decide +kernel
theorem d_St_state_10 : decode b_St_state 10 = .ok (.getfield 12, 3) := by decide +kernel
theorem d_St_state_13 : decode b_St_state 13 = .ok (.iload_n 2, 1) := by decide +kernel
theorem d_St_state_14 : decode b_St_state 14 = .ok (.invokevirtual 88, 3) := by decide +kernel
theorem d_St_state_17 : decode b_St_state 17 = .ok (.ifCond .eq 17, 3) := by decide +kernel
theorem d_St_state_20 : decode b_St_state 20 = .ok (.aload_n 0, 1) := by decide +kernel
theorem d_St_state_21 : decode b_St_state 21 = .ok (.getfield 18, 3) := by decide +kernel
theorem d_St_state_24 : decode b_St_state 24 = .ok (.iload_n 1, 1) := by decide +kernel
theorem d_St_state_25 : decode b_St_state 25 = .ok (.aaload, 1) := by decide +kernel
theorem d_St_state_26 : decode b_St_state 26 = .ok (.getfield 45, 3) := by decide +kernel
theorem d_St_state_29 : decode b_St_state 29 = .ok (.iload_n 2, 1) := by decide +kernel
theorem d_St_state_30 : decode b_St_state 30 = .ok (.iaload, 1) := by decide +kernel
theorem d_St_state_31 : decode b_St_state 31 = .ok (.goto 4, 3) := by decide +kernel
theorem d_St_state_34 : decode b_St_state 34 = .ok (.iconst 0, 1) := by decide +kernel
theorem d_St_state_35 : decode b_St_state 35 = .ok (.ireturn, 1) := by decide +kernel
theorem d_St_takeEffect_0 : decode b_St_takeEffect 0 = .ok (.iload_n 1, 1) := by decide +kernel
theorem d_St_takeEffect_1 : decode b_St_takeEffect 1 = .ok (.invokestatic 131, 3) := by decide +kernel
theorem d_St_takeEffect_4 : decode b_St_takeEffect 4 = .ok (.ifCond .eq 16, 3) := by decide +kernel
theorem d_St_takeEffect_7 : decode b_St_takeEffect 7 = .ok (.aload_n 0, 1) := by decide +kernel
theorem d_St_takeEffect_8 : decode b_St_takeEffect 8 = .ok (.getfield 45, 3) := by decide +kernel
theorem d_St_takeEffect_11 : decode b_St_takeEffect 11 = .ok (.bipush (-10), 2) := by decide +kernel
theorem d_St_takeEffect_13 : decode b_St_takeEffect 13 = .ok (.iload_n 1, 1) := by decide +kernel
theorem d_St_takeEffect_14 : decode b_St_takeEffect 14 = .ok (.isub, 1) := by decide +kernel
theorem d_St_takeEffect_15 : decode b_St_takeEffect 15 = .ok (.iconst 2, 1) := by decide +kernel
theorem d_St_takeEffect_16 : decode b_St_takeEffect 16 = .ok (.iastore, 1) := by decide +kernel
theorem d_St_takeEffect_17 : decode b_St_takeEffect 17 = .ok (.goto 10, 3) := by decide +kernel
theorem d_St_takeEffect_20 : decode b_St_takeEffect 20 = .ok (.aload_n 0, 1) := by decide +kernel
theorem d_St_takeEffect_21 : decode b_St_takeEffect 21 = .ok (.getfield 45, 3) := by decide +kernel
theorem d_St_takeEffect_24 : decode b_St_takeEffect 24 = .ok (.iload_n 1, 1) := by decide +kernel
theorem d_St_takeEffect_25 : decode b_St_takeEffect 25 = .ok (.iconst 1, 1) := by decide +kernel
theorem d_St_takeEffect_26 : decode b_St_takeEffect 26 = .ok (.iastore, 1) := by decide +kernel
theorem d_St_takeEffect_27 : decode b_St_takeEffect 27 = .ok (.return_, 1) := by decide +kernel
theorem d_St_tray_0 : decode b_St_tray 0 = .ok (.iload_n 1, 1) := by decide +kernel
theorem d_St_tray_1 : decode b_St_tray 1 = .ok (.invokestatic 23, 3) := by decide +kernel
theorem d_St_tray_4 : decode b_St_tray 4 = .ok (.ifCond .eq 18, 3) := by decide +kernel
theorem d_St_tray_7 : decode b_St_tray 7 = .ok (.aload_n 0, 1) := by decide +kernel
theorem d_St_tray_8 : decode b_St_tray 8 = .ok (.getfield 18, 3) := by decide +kernel
theorem d_St_tray_11 : decode b_St_tray 11 = .ok (.iload_n 1, 1) := by decide +kernel
theorem d_St_tray_12 : decode b_St_tray 12 = .ok (.aaload, 1) := by decide +kernel
theorem d_St_tray_13 : decode b_St_tray 13 = .ok (.getfield 53, 3) := by decide +kernel
theorem d_St_tray_16 : decode b_St_tray 16 = .ok (.getfield 89, 3) := by decide +kernel
theorem d_St_tray_19 : decode b_St_tray 19 = .ok (.goto 4, 3) := by decide +kernel
theorem d_St_tray_22 : decode b_St_tray 22 = .ok (.iconst (-1), 1) := by decide +kernel
theorem d_St_tray_23 : decode b_St_tray 23 = .ok (.ireturn, 1) := by decide +kernel
theorem d_St_waiting_0 : decode b_St_waiting 0 = .ok (.iload_n 1, 1) := by decide +kernel
theorem d_St_waiting_1 : decode b_St_waiting 1 = .ok (.invokestatic 23, 3) := by decide +kernel
theorem d_St_waiting_4 : decode b_St_waiting 4 = .ok (.ifCond .eq 18, 3) := by decide +kernel
theorem d_St_waiting_7 : decode b_St_waiting 7 = .ok (.aload_n 0, 1) := by decide +kernel
theorem d_St_waiting_8 : decode b_St_waiting 8 = .ok (.getfield 18, 3) := by decide +kernel
theorem d_St_waiting_11 : decode b_St_waiting 11 = .ok (.iload_n 1, 1) := by decide +kernel
theorem d_St_waiting_12 : decode b_St_waiting 12 = .ok (.aaload, 1) := by decide +kernel
theorem d_St_waiting_13 : decode b_St_waiting 13 = .ok (.getfield 70, 3) := by decide +kernel
theorem d_St_waiting_16 : decode b_St_waiting 16 = .ok (.getfield 89, 3) := by decide +kernel
theorem d_St_waiting_19 : decode b_St_waiting 19 = .ok (.goto 4, 3) := by decide +kernel
theorem d_St_waiting_22 : decode b_St_waiting 22 = .ok (.iconst (-1), 1) := by decide +kernel
theorem d_St_waiting_23 : decode b_St_waiting 23 = .ok (.ireturn, 1) := by decide +kernel
theorem d_St_wakeWaiting_0 : decode b_St_wakeWaiting 0 = .ok (.aload_n 1, 1) := by decide +kernel
theorem d_St_wakeWaiting_1 : decode b_St_wakeWaiting 1 = .ok (.getfield 70, 3) := by decide +kernel
theorem d_St_wakeWaiting_4 : decode b_St_wakeWaiting 4 = .ok (.getfield 89, 3) := by decide +kernel
theorem d_St_wakeWaiting_7 : decode b_St_wakeWaiting 7 = .ok (.istore_n 2, 1) := by decide +kernel
theorem d_St_wakeWaiting_8 : decode b_St_wakeWaiting 8 = .ok (.iconst 0, 1) := by decide +kernel
theorem d_St_wakeWaiting_9 : decode b_St_wakeWaiting 9 = .ok (.istore_n 3, 1) := by decide +kernel
theorem d_St_wakeWaiting_10 : decode b_St_wakeWaiting 10 = .ok (.iload_n 3, 1) := by decide +kernel
theorem d_St_wakeWaiting_11 : decode b_St_wakeWaiting 11 = .ok (.iload_n 2, 1) := by decide +kernel
theorem d_St_wakeWaiting_12 : decode b_St_wakeWaiting 12 = .ok (.if_icmp .ge 38, 3) := by decide +kernel
theorem d_St_wakeWaiting_15 : decode b_St_wakeWaiting 15 = .ok (.aload_n 0, 1) := by decide +kernel
theorem d_St_wakeWaiting_16 : decode b_St_wakeWaiting 16 = .ok (.aload_n 1, 1) := by decide +kernel
theorem d_St_wakeWaiting_17 : decode b_St_wakeWaiting 17 = .ok (.invokevirtual 137, 3) := by decide +kernel
theorem d_St_wakeWaiting_20 : decode b_St_wakeWaiting 20 = .ok (.istore 4, 2) := by decide +kernel
theorem d_St_wakeWaiting_22 : decode b_St_wakeWaiting 22 = .ok (.iload 4, 2) := by decide +kernel
theorem d_St_wakeWaiting_24 : decode b_St_wakeWaiting 24 = .ok (.bipush (-3), 2) := by decide +kernel
theorem d_St_wakeWaiting_26 : decode b_St_wakeWaiting 26 = .ok (.if_icmp .ne 5, 3) := by decide +kernel
theorem d_St_wakeWaiting_29 : decode b_St_wakeWaiting 29 = .ok (.iload_n 3, 1) := by decide +kernel
theorem d_St_wakeWaiting_30 : decode b_St_wakeWaiting 30 = .ok (.ireturn, 1) := by decide +kernel
theorem d_St_wakeWaiting_31 : decode b_St_wakeWaiting 31 = .ok (.aload_n 1, 1) := by decide +kernel
theorem d_St_wakeWaiting_32 : decode b_St_wakeWaiting 32 = .ok (.aload_n 1, 1) := by decide +kernel
theorem d_St_wakeWaiting_33 : decode b_St_wakeWaiting 33 = .ok (.getfield 70, 3) := by decide +kernel
theorem d_St_wakeWaiting_36 : decode b_St_wakeWaiting 36 = .ok (.iload 4, 2) := by decide +kernel
theorem d_St_wakeWaiting_38 : decode b_St_wakeWaiting 38 = .ok (.invokevirtual 62, 3) := by decide +kernel
theorem d_St_wakeWaiting_41 : decode b_St_wakeWaiting 41 = .ok (.invokestatic 77, 3) := by decide +kernel
theorem d_St_wakeWaiting_44 : decode b_St_wakeWaiting 44 = .ok (.iinc 3 1, 3) := by decide +kernel
theorem d_St_wakeWaiting_47 : decode b_St_wakeWaiting 47 = .ok (.goto (-37), 3) := by decide +kernel
theorem d_St_wakeWaiting_50 : decode b_St_wakeWaiting 50 = .ok (.iload_n 2, 1) := by decide +kernel
theorem d_St_wakeWaiting_51 : decode b_St_wakeWaiting 51 = .ok (.ireturn, 1) := by decide +kernel
