theorem dX7_least_30 : decode cX7_least 30 = .ok (.istore_n 2, 1) := by decide +kernel
theorem dX7_least_31 : decode cX7_least 31 = .ok (.iload_n 2, 1) := by decide +kernel
theorem dX7_least_32 : decode cX7_least 32 = .ok (.bipush 9, 2) := by decide +kernel
theorem dX7_least_34 : decode cX7_least 34 = .ok (.if_icmp .ge 18, 3) := by decide +kernel
theorem dX7_least_37 : decode cX7_least 37 = .ok (.aload_n 0, 1) := by decide +kernel
theorem dX7_least_38 : decode cX7_least 38 = .ok (.iload_n 2, 1) := by decide +kernel
theorem dX7_least_39 : decode cX7_least 39 = .ok (.invokevirtual 233, 3) := by decide +kernel
theorem dX7_least_42 : decode cX7_least 42 = .ok (.iload_n 1, 1) := by decide +kernel
theorem dX7_least_43 : decode cX7_least 43 = .ok (.if_icmp .le 9, 3) := by decide +kernel
theorem dX7_least_46 : decode cX7_least 46 = .ok (.iinc 2 1, 3) := by decide +kernel
theorem dX7_least_49 : decode cX7_least 49 = .ok (.goto (-18), 3) := by decide +kernel
theorem dX7_least_52 : decode cX7_least 52 = .ok (.aload_n 0, 1) := by decide +kernel
theorem dX7_least_53 : decode cX7_least 53 = .ok (.iload_n 1, 1) := by decide +kernel
theorem dX7_least_54 : decode cX7_least 54 = .ok (.putfield 103, 3) := by decide +kernel
theorem dX7_least_57 : decode cX7_least 57 = .ok (.iload_n 2, 1) := by decide +kernel
theorem dX7_least_58 : decode cX7_least 58 = .ok (.ireturn, 1) := by decide +kernel
theorem dX7_soonest_0 : decode cX7_soonest 0 = .ok (.iload_n 1, 1) := by decide +kernel
theorem dX7_soonest_1 : decode cX7_soonest 1 = .ok (.invokestatic 84, 3) := by decide +kernel
theorem dX7_soonest_4 : decode cX7_soonest 4 = .ok (.ifCond .ne 5, 3) := by decide +kernel
theorem dX7_soonest_7 : decode cX7_soonest 7 = .ok (.iconst (-1), 1) := by decide +kernel
theorem dX7_soonest_8 : decode cX7_soonest 8 = .ok (.ireturn, 1) := by decide +kernel
theorem dX7_soonest_9 : decode cX7_soonest 9 = .ok (.aload_n 0, 1) := by decide +kernel
theorem dX7_soonest_10 : decode cX7_soonest 10 = .ok (.iload_n 1, 1) := by decide +kernel
theorem dX7_soonest_11 : decode cX7_soonest 11 = .ok (.invokevirtual 236, 3) := by decide +kernel
theorem dX7_soonest_14 : decode cX7_soonest 14 = .ok (.istore_n 2, 1) := by decide +kernel
theorem dX7_soonest_15 : decode cX7_soonest 15 = .ok (.iload_n 2, 1) := by decide +kernel
theorem dX7_soonest_16 : decode cX7_soonest 16 = .ok (.ifCond .eq 5, 3) := by decide +kernel
theorem dX7_soonest_19 : decode cX7_soonest 19 = .ok (.iload_n 2, 1) := by decide +kernel
theorem dX7_soonest_20 : decode cX7_soonest 20 = .ok (.ireturn, 1) := by decide +kernel
theorem dX7_soonest_21 : decode cX7_soonest 21 = .ok (.bipush (-9), 2) := by decide +kernel
theorem dX7_soonest_23 : decode cX7_soonest 23 = .ok (.istore_n 3, 1) := by decide +kernel
theorem dX7_soonest_24 : decode cX7_soonest 24 = .ok (.bipush 61, 2) := by decide +kernel
theorem dX7_soonest_26 : decode cX7_soonest 26 = .ok (.istore 4, 2) := by decide +kernel
theorem dX7_soonest_28 : decode cX7_soonest 28 = .ok (.iconst 0, 1) := by decide +kernel
theorem dX7_soonest_29 : decode cX7_soonest 29 = .ok (.istore 5, 2) := by decide +kernel
theorem dX7_soonest_31 : decode cX7_soonest 31 = .ok (.iload 5, 2) := by decide +kernel
theorem dX7_soonest_33 : decode cX7_soonest 33 = .ok (.aload_n 0, 1) := by decide +kernel
theorem dX7_soonest_34 : decode cX7_soonest 34 = .ok (.getfield 11, 3) := by decide +kernel
theorem dX7_soonest_37 : decode cX7_soonest 37 = .ok (.iload_n 1, 1) := by decide +kernel
theorem dX7_soonest_38 : decode cX7_soonest 38 = .ok (.aaload, 1) := by decide +kernel
theorem dX7_soonest_39 : decode cX7_soonest 39 = .ok (.getfield 109, 3) := by decide +kernel
theorem dX7_soonest_42 : decode cX7_soonest 42 = .ok (.if_icmp .ge 66, 3) := by decide +kernel
theorem dX7_soonest_45 : decode cX7_soonest 45 = .ok (.aload_n 0, 1) := by decide +kernel
theorem dX7_soonest_46 : decode cX7_soonest 46 = .ok (.getfield 31, 3) := by decide +kernel
theorem dX7_soonest_49 : decode cX7_soonest 49 = .ok (.aload_n 0, 1) := by decide +kernel
theorem dX7_soonest_50 : decode cX7_soonest 50 = .ok (.getfield 28, 3) := by decide +kernel
theorem dX7_soonest_53 : decode cX7_soonest 53 = .ok (.invokevirtual 142, 3) := by decide +kernel
theorem dX7_soonest_56 : decode cX7_soonest 56 = .ok (.aload_n 0, 1) := by decide +kernel
theorem dX7_soonest_57 : decode cX7_soonest 57 = .ok (.getfield 31, 3) := by decide +kernel
theorem dX7_soonest_60 : decode cX7_soonest 60 = .ok (.aload_n 0, 1) := by decide +kernel
theorem dX7_soonest_61 : decode cX7_soonest 61 = .ok (.getfield 11, 3) := by decide +kernel
theorem dX7_soonest_64 : decode cX7_soonest 64 = .ok (.iload_n 1, 1) := by decide +kernel
theorem dX7_soonest_65 : decode cX7_soonest 65 = .ok (.aaload, 1) := by decide +kernel
theorem dX7_soonest_66 : decode cX7_soonest 66 = .ok (.getfield 100, 3) := by decide +kernel
theorem dX7_soonest_69 : decode cX7_soonest 69 = .ok (.iload 5, 2) := by decide +kernel
theorem dX7_soonest_71 : decode cX7_soonest 71 = .ok (.iaload, 1) := by decide +kernel
theorem dX7_soonest_72 : decode cX7_soonest 72 = .ok (.invokevirtual 239, 3) := by decide +kernel
theorem dX7_soonest_75 : decode cX7_soonest 75 = .ok (.aload_n 0, 1) := by decide +kernel
theorem dX7_soonest_76 : decode cX7_soonest 76 = .ok (.getfield 31, 3) := by decide +kernel
theorem dX7_soonest_79 : decode cX7_soonest 79 = .ok (.iload 4, 2) := by decide +kernel
theorem dX7_soonest_81 : decode cX7_soonest 81 = .ok (.iconst 1, 1) := by decide +kernel
theorem dX7_soonest_82 : decode cX7_soonest 82 = .ok (.isub, 1) := by decide +kernel
theorem dX7_soonest_83 : decode cX7_soonest 83 = .ok (.invokevirtual 218, 3) := by decide +kernel
theorem dX7_soonest_86 : decode cX7_soonest 86 = .ok (.istore 6, 2) := by decide +kernel
theorem dX7_soonest_88 : decode cX7_soonest 88 = .ok (.iload 6, 2) := by decide +kernel
theorem dX7_soonest_90 : decode cX7_soonest 90 = .ok (.iload 4, 2) := by decide +kernel
theorem dX7_soonest_92 : decode cX7_soonest 92 = .ok (.if_icmp .ge 10, 3) := by decide +kernel
theorem dX7_soonest_95 : decode cX7_soonest 95 = .ok (.iload 6, 2) := by decide +kernel
theorem dX7_soonest_97 : decode cX7_soonest 97 = .ok (.istore 4, 2) := by decide +kernel
theorem dX7_soonest_99 : decode cX7_soonest 99 = .ok (.iload 5, 2) := by decide +kernel
theorem dX7_soonest_101 : decode cX7_soonest 101 = .ok (.istore_n 3, 1) := by decide +kernel
theorem dX7_soonest_102 : decode cX7_soonest 102 = .ok (.iinc 5 1, 3) := by decide +kernel
theorem dX7_soonest_105 : decode cX7_soonest 105 = .ok (.goto (-74), 3) := by decide +kernel
theorem dX7_soonest_108 : decode cX7_soonest 108 = .ok (.iload_n 3, 1) := by decide +kernel
theorem dX7_soonest_109 : decode cX7_soonest 109 = .ok (.bipush (-9), 2) := by decide +kernel
theorem dX7_soonest_111 : decode cX7_soonest 111 = .ok (.if_icmp .eq 9, 3) := by decide +kernel
theorem dX7_soonest_114 : decode cX7_soonest 114 = .ok (.aload_n 0, 1) := by decide +kernel
theorem dX7_soonest_115 : decode cX7_soonest 115 = .ok (.iload 4, 2) := by decide +kernel
theorem dX7_soonest_117 : decode cX7_soonest 117 = .ok (.putfield 103, 3) := by decide +kernel
theorem dX7_soonest_120 : decode cX7_soonest 120 = .ok (.iload_n 3, 1) := by decide +kernel
theorem dX7_soonest_121 : decode cX7_soonest 121 = .ok (.ireturn, 1) := by decide +kernel
theorem dX7_order_0 : decode cX7_order 0 = .ok (.iload_n 1, 1) := by decide +kernel
theorem dX7_order_1 : decode cX7_order 1 = .ok (.invokestatic 84, 3) := by decide +kernel
theorem dX7_order_4 : decode cX7_order 4 = .ok (.ifCond .eq 10, 3) := by decide +kernel
theorem dX7_order_7 : decode cX7_order 7 = .ok (.iload_n 2, 1) := by decide +kernel
theorem dX7_order_8 : decode cX7_order 8 = .ok (.invokestatic 84, 3) := by decide +kernel
theorem dX7_order_11 : decode cX7_order 11 = .ok (.ifCond .ne 5, 3) := by decide +kernel
theorem dX7_order_14 : decode cX7_order 14 = .ok (.iconst (-1), 1) := by decide +kernel
theorem dX7_order_15 : decode cX7_order 15 = .ok (.ireturn, 1) := by decide +kernel
theorem dX7_order_16 : decode cX7_order 16 = .ok (.aload_n 0, 1) := by decide +kernel
theorem dX7_order_17 : decode cX7_order 17 = .ok (.iload_n 1, 1) := by decide +kernel
theorem dX7_order_18 : decode cX7_order 18 = .ok (.invokevirtual 236, 3) := by decide +kernel
theorem dX7_order_21 : decode cX7_order 21 = .ok (.istore_n 3, 1) := by decide +kernel
theorem dX7_order_22 : decode cX7_order 22 = .ok (.iload_n 3, 1) := by decide +kernel
theorem dX7_order_23 : decode cX7_order 23 = .ok (.ifCond .eq 5, 3) := by decide +kernel
theorem dX7_order_26 : decode cX7_order 26 = .ok (.iload_n 3, 1) := by decide +kernel
theorem dX7_order_27 : decode cX7_order 27 = .ok (.ireturn, 1) := by decide +kernel
theorem dX7_order_28 : decode cX7_order 28 = .ok (.aload_n 0, 1) := by decide +kernel
theorem dX7_order_29 : decode cX7_order 29 = .ok (.getfield 11, 3) := by decide +kernel
theorem dX7_order_32 : decode cX7_order 32 = .ok (.iload_n 1, 1) := by decide +kernel
theorem dX7_order_33 : decode cX7_order 33 = .ok (.aaload, 1) := by decide +kernel
theorem dX7_order_34 : decode cX7_order 34 = .ok (.getfield 109, 3) := by decide +kernel
theorem dX7_order_37 : decode cX7_order 37 = .ok (.istore 4, 2) := by decide +kernel
theorem dX7_order_39 : decode cX7_order 39 = .ok (.aload_n 0, 1) := by decide +kernel
theorem dX7_order_40 : decode cX7_order 40 = .ok (.getfield 51, 3) := by decide +kernel
theorem dX7_order_43 : decode cX7_order 43 = .ok (.aload_n 0, 1) := by decide +kernel
theorem dX7_order_44 : decode cX7_order 44 = .ok (.getfield 28, 3) := by decide +kernel
theorem dX7_order_47 : decode cX7_order 47 = .ok (.aload_n 0, 1) := by decide +kernel
theorem dX7_order_48 : decode cX7_order 48 = .ok (.getfield 11, 3) := by decide +kernel
theorem dX7_order_51 : decode cX7_order 51 = .ok (.iload_n 1, 1) := by decide +kernel
theorem dX7_order_52 : decode cX7_order 52 = .ok (.aaload, 1) := by decide +kernel
theorem dX7_order_53 : decode cX7_order 53 = .ok (.invokevirtual 242, 3) := by decide +kernel
theorem dX7_order_56 : decode cX7_order 56 = .ok (.istore 5, 2) := by decide +kernel
theorem dX7_order_58 : decode cX7_order 58 = .ok (.iload 5, 2) := by decide +kernel
theorem dX7_order_60 : decode cX7_order 60 = .ok (.bipush (-9), 2) := by decide +kernel
theorem dX7_order_62 : decode cX7_order 62 = .ok (.if_icmp .eq 37, 3) := by decide +kernel
theorem dX7_order_65 : decode cX7_order 65 = .ok (.aload_n 0, 1) := by decide +kernel
theorem dX7_order_66 : decode cX7_order 66 = .ok (.getfield 11, 3) := by decide +kernel
theorem dX7_order_69 : decode cX7_order 69 = .ok (.iload_n 2, 1) := by decide +kernel
theorem dX7_order_70 : decode cX7_order 70 = .ok (.aaload, 1) := by decide +kernel
theorem dX7_order_71 : decode cX7_order 71 = .ok (.iload 4, 2) := by decide +kernel
theorem dX7_order_73 : decode cX7_order 73 = .ok (.invokevirtual 92, 3) := by decide +kernel
theorem dX7_order_76 : decode cX7_order 76 = .ok (.aload_n 0, 1) := by decide +kernel
theorem dX7_order_77 : decode cX7_order 77 = .ok (.getfield 51, 3) := by decide +kernel
theorem dX7_order_80 : decode cX7_order 80 = .ok (.getfield 246, 3) := by decide +kernel
theorem dX7_order_83 : decode cX7_order 83 = .ok (.iconst 0, 1) := by decide +kernel
theorem dX7_order_84 : decode cX7_order 84 = .ok (.aload_n 0, 1) := by decide +kernel
theorem dX7_order_85 : decode cX7_order 85 = .ok (.getfield 11, 3) := by decide +kernel
theorem dX7_order_88 : decode cX7_order 88 = .ok (.iload_n 2, 1) := by decide +kernel
theorem dX7_order_89 : decode cX7_order 89 = .ok (.aaload, 1) := by decide +kernel
theorem dX7_order_90 : decode cX7_order 90 = .ok (.getfield 100, 3) := by decide +kernel
theorem dX7_order_93 : decode cX7_order 93 = .ok (.iconst 0, 1) := by decide +kernel
theorem dX7_order_94 : decode cX7_order 94 = .ok (.iload 4, 2) := by decide +kernel
theorem dX7_order_96 : decode cX7_order 96 = .ok (.invokestatic 118, 3) := by decide +kernel
theorem dX7_order_99 : decode cX7_order 99 = .ok (.iload 5, 2) := by decide +kernel
theorem dX7_order_101 : decode cX7_order 101 = .ok (.ireturn, 1) := by decide +kernel
theorem dX7_kinds_0 : decode cX7_kinds 0 = .ok (.aload_n 0, 1) := by decide +kernel
theorem dX7_kinds_1 : decode cX7_kinds 1 = .ok (.iload_n 1, 1) := by decide +kernel
theorem dX7_kinds_2 : decode cX7_kinds 2 = .ok (.iload_n 2, 1) := by decide +kernel
theorem dX7_kinds_3 : decode cX7_kinds 3 = .ok (.invokevirtual 249, 3) := by decide +kernel
theorem dX7_kinds_6 : decode cX7_kinds 6 = .ok (.istore_n 3, 1) := by decide +kernel
theorem dX7_kinds_7 : decode cX7_kinds 7 = .ok (.iload_n 3, 1) := by decide +kernel
theorem dX7_kinds_8 : decode cX7_kinds 8 = .ok (.ifCond .eq 7, 3) := by decide +kernel
theorem dX7_kinds_11 : decode cX7_kinds 11 = .ok (.iload_n 3, 1) := by decide +kernel
theorem dX7_kinds_12 : decode cX7_kinds 12 = .ok (.goto 14, 3) := by decide +kernel
theorem dX7_kinds_15 : decode cX7_kinds 15 = .ok (.aload_n 0, 1) := by decide +kernel
theorem dX7_kinds_16 : decode cX7_kinds 16 = .ok (.iload_n 1, 1) := by decide +kernel
theorem dX7_kinds_17 : decode cX7_kinds 17 = .ok (.aload_n 0, 1) := by decide +kernel
theorem dX7_kinds_18 : decode cX7_kinds 18 = .ok (.getfield 11, 3) := by decide +kernel
theorem dX7_kinds_21 : decode cX7_kinds 21 = .ok (.iload_n 2, 1) := by decide +kernel
theorem dX7_kinds_22 : decode cX7_kinds 22 = .ok (.aaload, 1) := by decide +kernel
theorem dX7_kinds_23 : decode cX7_kinds 23 = .ok (.invokevirtual 252, 3) := by decide +kernel
theorem dX7_kinds_26 : decode cX7_kinds 26 = .ok (.ireturn, 1) := by decide +kernel
theorem dX7_marks_0 : decode cX7_marks 0 = .ok (.aload_n 0, 1) := by decide +kernel
theorem dX7_marks_1 : decode cX7_marks 1 = .ok (.iload_n 1, 1) := by decide +kernel
theorem dX7_marks_2 : decode cX7_marks 2 = .ok (.iload_n 2, 1) := by decide +kernel
theorem dX7_marks_3 : decode cX7_marks 3 = .ok (.invokevirtual 249, 3) := by decide +kernel
theorem dX7_marks_6 : decode cX7_marks 6 = .ok (.istore_n 3, 1) := by decide +kernel
theorem dX7_marks_7 : decode cX7_marks 7 = .ok (.iload_n 3, 1) := by decide +kernel
theorem dX7_marks_8 : decode cX7_marks 8 = .ok (.ifCond .eq 5, 3) := by decide +kernel
theorem dX7_marks_11 : decode cX7_marks 11 = .ok (.iload_n 3, 1) := by decide +kernel
theorem dX7_marks_12 : decode cX7_marks 12 = .ok (.ireturn, 1) := by decide +kernel
theorem dX7_marks_13 : decode cX7_marks 13 = .ok (.iconst 0, 1) := by decide +kernel
theorem dX7_marks_14 : decode cX7_marks 14 = .ok (.istore 4, 2) := by decide +kernel
theorem dX7_marks_16 : decode cX7_marks 16 = .ok (.iconst 0, 1) := by decide +kernel
theorem dX7_marks_17 : decode cX7_marks 17 = .ok (.istore 5, 2) := by decide +kernel
theorem dX7_marks_19 : decode cX7_marks 19 = .ok (.iload 5, 2) := by decide +kernel
theorem dX7_marks_21 : decode cX7_marks 21 = .ok (.bipush 10, 2) := by decide +kernel
theorem dX7_marks_23 : decode cX7_marks 23 = .ok (.if_icmp .ge 43, 3) := by decide +kernel
theorem dX7_marks_26 : decode cX7_marks 26 = .ok (.aload_n 0, 1) := by decide +kernel
theorem dX7_marks_27 : decode cX7_marks 27 = .ok (.iload_n 1, 1) := by decide +kernel
theorem dX7_marks_28 : decode cX7_marks 28 = .ok (.aload_n 0, 1) := by decide +kernel
theorem dX7_marks_29 : decode cX7_marks 29 = .ok (.getfield 28, 3) := by decide +kernel
theorem dX7_marks_32 : decode cX7_marks 32 = .ok (.getfield 158, 3) := by decide +kernel
theorem dX7_marks_35 : decode cX7_marks 35 = .ok (.iload_n 1, 1) := by decide +kernel
theorem dX7_marks_36 : decode cX7_marks 36 = .ok (.iaload, 1) := by decide +kernel
theorem dX7_marks_37 : decode cX7_marks 37 = .ok (.iload 5, 2) := by decide +kernel
theorem dX7_marks_39 : decode cX7_marks 39 = .ok (.aload_n 0, 1) := by decide +kernel
theorem dX7_marks_40 : decode cX7_marks 40 = .ok (.getfield 11, 3) := by decide +kernel
theorem dX7_marks_43 : decode cX7_marks 43 = .ok (.iload_n 2, 1) := by decide +kernel
theorem dX7_marks_44 : decode cX7_marks 44 = .ok (.aaload, 1) := by decide +kernel
theorem dX7_marks_45 : decode cX7_marks 45 = .ok (.invokevirtual 256, 3) := by decide +kernel
theorem dX7_marks_48 : decode cX7_marks 48 = .ok (.ifCond .eq 12, 3) := by decide +kernel
theorem dX7_marks_51 : decode cX7_marks 51 = .ok (.iload 4, 2) := by decide +kernel
theorem dX7_marks_53 : decode cX7_marks 53 = .ok (.iconst 1, 1) := by decide +kernel
theorem dX7_marks_54 : decode cX7_marks 54 = .ok (.iload 5, 2) := by decide +kernel
theorem dX7_marks_56 : decode cX7_marks 56 = .ok (.ishl, 1) := by decide +kernel
theorem dX7_marks_57 : decode cX7_marks 57 = .ok (.ior, 1) := by decide +kernel
theorem dX7_marks_58 : decode cX7_marks 58 = .ok (.istore 4, 2) := by decide +kernel
theorem dX7_marks_60 : decode cX7_marks 60 = .ok (.iinc 5 1, 3) := by decide +kernel
theorem dX7_marks_63 : decode cX7_marks 63 = .ok (.goto (-44), 3) := by decide +kernel
theorem dX7_marks_66 : decode cX7_marks 66 = .ok (.iload 4, 2) := by decide +kernel
theorem dX7_marks_68 : decode cX7_marks 68 = .ok (.ireturn, 1) := by decide +kernel
theorem dX7_test_0 : decode cX7_test 0 = .ok (.aload_n 0, 1) := by decide +kernel
theorem dX7_test_1 : decode cX7_test 1 = .ok (.iload_n 1, 1) := by decide +kernel
theorem dX7_test_2 : decode cX7_test 2 = .ok (.iload_n 2, 1) := by decide +kernel
theorem dX7_test_3 : decode cX7_test 3 = .ok (.invokevirtual 249, 3) := by decide +kernel
theorem dX7_test_6 : decode cX7_test 6 = .ok (.istore_n 3, 1) := by decide +kernel
theorem dX7_test_7 : decode cX7_test 7 = .ok (.iload_n 3, 1) := by decide +kernel
theorem dX7_test_8 : decode cX7_test 8 = .ok (.ifCond .eq 5, 3) := by decide +kernel
theorem dX7_test_11 : decode cX7_test 11 = .ok (.iload_n 3, 1) := by decide +kernel
theorem dX7_test_12 : decode cX7_test 12 = .ok (.ireturn, 1) := by decide +kernel
theorem dX7_test_13 : decode cX7_test 13 = .ok (.aload_n 0, 1) := by decide +kernel
theorem dX7_test_14 : decode cX7_test 14 = .ok (.iload_n 1, 1) := by decide +kernel
theorem dX7_test_15 : decode cX7_test 15 = .ok (.aload_n 0, 1) := by decide +kernel
theorem dX7_test_16 : decode cX7_test 16 = .ok (.getfield 11, 3) := by decide +kernel
theorem dX7_test_19 : decode cX7_test 19 = .ok (.iload_n 2, 1) := by decide +kernel
theorem dX7_test_20 : decode cX7_test 20 = .ok (.aaload, 1) := by decide +kernel
theorem dX7_test_21 : decode cX7_test 21 = .ok (.invokevirtual 252, 3) := by decide +kernel
theorem dX7_test_24 : decode cX7_test 24 = .ok (.istore 4, 2) := by decide +kernel
theorem dX7_test_26 : decode cX7_test 26 = .ok (.iload 4, 2) := by decide +kernel
theorem dX7_test_28 : decode cX7_test 28 = .ok (.ifCond .ne 6, 3) := by decide +kernel
theorem dX7_test_31 : decode cX7_test 31 = .ok (.bipush (-9), 2) := by decide +kernel
theorem dX7_test_33 : decode cX7_test 33 = .ok (.ireturn, 1) := by decide +kernel
theorem dX7_test_34 : decode cX7_test 34 = .ok (.aload_n 0, 1) := by decide +kernel
theorem dX7_test_35 : decode cX7_test 35 = .ok (.iload_n 1, 1) := by decide +kernel
theorem dX7_test_36 : decode cX7_test 36 = .ok (.iload 4, 2) := by decide +kernel
theorem dX7_test_38 : decode cX7_test 38 = .ok (.invokevirtual 260, 3) := by decide +kernel
theorem dX7_test_41 : decode cX7_test 41 = .ok (.bipush (-9), 2) := by decide +kernel
theorem dX7_test_43 : decode cX7_test 43 = .ok (.istore 5, 2) := by decide +kernel
theorem dX7_test_45 : decode cX7_test 45 = .ok (.bipush 7, 2) := by decide +kernel
theorem dX7_test_47 : decode cX7_test 47 = .ok (.istore 6, 2) := by decide +kernel
theorem dX7_test_49 : decode cX7_test 49 = .ok (.iconst 1, 1) := by decide +kernel
theorem dX7_test_50 : decode cX7_test 50 = .ok (.istore 7, 2) := by decide +kernel
theorem dX7_test_52 : decode cX7_test 52 = .ok (.iload 7, 2) := by decide +kernel
theorem dX7_test_54 : decode cX7_test 54 = .ok (.bipush 20, 2) := by decide +kernel
theorem dX7_test_56 : decode cX7_test 56 = .ok (.if_icmp .gt 34, 3) := by decide +kernel
theorem dX7_test_59 : decode cX7_test 59 = .ok (.aload_n 0, 1) := by decide +kernel
theorem dX7_test_60 : decode cX7_test 60 = .ok (.iload 4, 2) := by decide +kernel
theorem dX7_test_62 : decode cX7_test 62 = .ok (.iload 7, 2) := by decide +kernel
theorem dX7_test_64 : decode cX7_test 64 = .ok (.invokevirtual 264, 3) := by decide +kernel
theorem dX7_test_67 : decode cX7_test 67 = .ok (.istore 8, 2) := by decide +kernel
theorem dX7_test_69 : decode cX7_test 69 = .ok (.iload 8, 2) := by decide +kernel
theorem dX7_test_71 : decode cX7_test 71 = .ok (.iload 6, 2) := by decide +kernel
theorem dX7_test_73 : decode cX7_test 73 = .ok (.if_icmp .ge 11, 3) := by decide +kernel
theorem dX7_test_76 : decode cX7_test 76 = .ok (.iload 8, 2) := by decide +kernel
theorem dX7_test_78 : decode cX7_test 78 = .ok (.istore 6, 2) := by decide +kernel
theorem dX7_test_80 : decode cX7_test 80 = .ok (.iload 7, 2) := by decide +kernel
theorem dX7_test_82 : decode cX7_test 82 = .ok (.istore 5, 2) := by decide +kernel
theorem dX7_test_84 : decode cX7_test 84 = .ok (.iinc 7 1, 3) := by decide +kernel
theorem dX7_test_87 : decode cX7_test 87 = .ok (.goto (-35), 3) := by decide +kernel
theorem dX7_test_90 : decode cX7_test 90 = .ok (.aload_n 0, 1) := by decide +kernel
theorem dX7_test_91 : decode cX7_test 91 = .ok (.iload 6, 2) := by decide +kernel
theorem dX7_test_93 : decode cX7_test 93 = .ok (.putfield 103, 3) := by decide +kernel
theorem dX7_test_96 : decode cX7_test 96 = .ok (.iload 5, 2) := by decide +kernel
theorem dX7_test_98 : decode cX7_test 98 = .ok (.ireturn, 1) := by decide +kernel
theorem dX7_duel_0 : decode cX7_duel 0 = .ok (.iload_n 1, 1) := by decide +kernel
theorem dX7_duel_1 : decode cX7_duel 1 = .ok (.ifCond .lt 8, 3) := by decide +kernel
theorem dX7_duel_4 : decode cX7_duel 4 = .ok (.iload_n 1, 1) := by decide +kernel
theorem dX7_duel_5 : decode cX7_duel 5 = .ok (.iconst 2, 1) := by decide +kernel
theorem dX7_duel_6 : decode cX7_duel 6 = .ok (.if_icmp .le 5, 3) := by decide +kernel
theorem dX7_duel_9 : decode cX7_duel 9 = .ok (.iconst (-1), 1) := by decide +kernel
theorem dX7_duel_10 : decode cX7_duel 10 = .ok (.ireturn, 1) := by decide +kernel
theorem dX7_duel_11 : decode cX7_duel 11 = .ok (.aload_n 0, 1) := by decide +kernel
theorem dX7_duel_12 : decode cX7_duel 12 = .ok (.getfield 28, 3) := by decide +kernel
theorem dX7_duel_15 : decode cX7_duel 15 = .ok (.getfield 149, 3) := by decide +kernel
theorem dX7_duel_18 : decode cX7_duel 18 = .ok (.ifCond .ne 6, 3) := by decide +kernel
theorem dX7_duel_21 : decode cX7_duel 21 = .ok (.bipush (-4), 2) := by decide +kernel
theorem dX7_duel_23 : decode cX7_duel 23 = .ok (.ireturn, 1) := by decide +kernel
theorem dX7_duel_24 : decode cX7_duel 24 = .ok (.iload_n 1, 1) := by decide +kernel
theorem dX7_duel_25 : decode cX7_duel 25 = .ok (.ifCond .ne 24, 3) := by decide +kernel
theorem dX7_duel_28 : decode cX7_duel 28 = .ok (.aload_n 0, 1) := by decide +kernel
theorem dX7_duel_29 : decode cX7_duel 29 = .ok (.getfield 31, 3) := by decide +kernel
theorem dX7_duel_32 : decode cX7_duel 32 = .ok (.aload_n 0, 1) := by decide +kernel
theorem dX7_duel_33 : decode cX7_duel 33 = .ok (.getfield 28, 3) := by decide +kernel
theorem dX7_duel_36 : decode cX7_duel 36 = .ok (.invokevirtual 142, 3) := by decide +kernel
theorem dX7_duel_39 : decode cX7_duel 39 = .ok (.aload_n 0, 1) := by decide +kernel
theorem dX7_duel_40 : decode cX7_duel 40 = .ok (.getfield 31, 3) := by decide +kernel
theorem dX7_duel_43 : decode cX7_duel 43 = .ok (.bipush 60, 2) := by decide +kernel
theorem dX7_duel_45 : decode cX7_duel 45 = .ok (.invokevirtual 218, 3) := by decide +kernel
theorem dX7_duel_48 : decode cX7_duel 48 = .ok (.ireturn, 1) := by decide +kernel
theorem dX7_duel_49 : decode cX7_duel 49 = .ok (.aload_n 0, 1) := by decide +kernel
theorem dX7_duel_50 : decode cX7_duel 50 = .ok (.iload_n 1, 1) := by decide +kernel
theorem dX7_duel_51 : decode cX7_duel 51 = .ok (.iconst 2, 1) := by decide +kernel
theorem dX7_duel_52 : decode cX7_duel 52 = .ok (.if_icmp .ne 7, 3) := by decide +kernel
theorem dX7_duel_55 : decode cX7_duel 55 = .ok (.iconst 1, 1) := by decide +kernel
theorem dX7_duel_56 : decode cX7_duel 56 = .ok (.goto 4, 3) := by decide +kernel
theorem dX7_duel_59 : decode cX7_duel 59 = .ok (.iconst 0, 1) := by decide +kernel
theorem dX7_duel_60 : decode cX7_duel 60 = .ok (.invokevirtual 267, 3) := by decide +kernel
theorem dX7_duel_63 : decode cX7_duel 63 = .ok (.ireturn, 1) := by decide +kernel
theorem dX7_odds_0 : decode cX7_odds 0 = .ok (.iload_n 1, 1) := by decide +kernel
theorem dX7_odds_1 : decode cX7_odds 1 = .ok (.ifCond .lt 17, 3) := by decide +kernel
theorem dX7_odds_4 : decode cX7_odds 4 = .ok (.iload_n 1, 1) := by decide +kernel
theorem dX7_odds_5 : decode cX7_odds 5 = .ok (.bipush 7, 2) := by decide +kernel
theorem dX7_odds_7 : decode cX7_odds 7 = .ok (.if_icmp .gt 11, 3) := by decide +kernel
theorem dX7_odds_10 : decode cX7_odds 10 = .ok (.iload_n 2, 1) := by decide +kernel
theorem dX7_odds_11 : decode cX7_odds 11 = .ok (.iload_n 3, 1) := by decide +kernel
theorem dX7_odds_12 : decode cX7_odds 12 = .ok (.invokestatic 271, 3) := by decide +kernel
theorem dX7_odds_15 : decode cX7_odds 15 = .ok (.ifCond .ne 5, 3) := by decide +kernel
theorem dX7_odds_18 : decode cX7_odds 18 = .ok (.iconst (-1), 1) := by decide +kernel
theorem dX7_odds_19 : decode cX7_odds 19 = .ok (.ireturn, 1) := by decide +kernel
theorem dX7_odds_20 : decode cX7_odds 20 = .ok (.aload_n 0, 1) := by decide +kernel
theorem dX7_odds_21 : decode cX7_odds 21 = .ok (.getfield 28, 3) := by decide +kernel
theorem dX7_odds_24 : decode cX7_odds 24 = .ok (.getfield 149, 3) := by decide +kernel
theorem dX7_odds_27 : decode cX7_odds 27 = .ok (.ifCond .ne 6, 3) := by decide +kernel
theorem dX7_odds_30 : decode cX7_odds 30 = .ok (.bipush (-4), 2) := by decide +kernel
theorem dX7_odds_32 : decode cX7_odds 32 = .ok (.ireturn, 1) := by decide +kernel
theorem dX7_odds_33 : decode cX7_odds 33 = .ok (.aload_n 0, 1) := by decide +kernel
theorem dX7_odds_34 : decode cX7_odds 34 = .ok (.iload_n 2, 1) := by decide +kernel
theorem dX7_odds_35 : decode cX7_odds 35 = .ok (.iload_n 3, 1) := by decide +kernel
theorem dX7_odds_36 : decode cX7_odds 36 = .ok (.invokevirtual 274, 3) := by decide +kernel
theorem dX7_odds_39 : decode cX7_odds 39 = .ok (.lconst 0, 1) := by decide +kernel
theorem dX7_odds_40 : decode cX7_odds 40 = .ok (.lstore 4, 2) := by decide +kernel
theorem dX7_odds_42 : decode cX7_odds 42 = .ok (.iload_n 1, 1) := by decide +kernel
theorem dX7_odds_43 : decode cX7_odds 43 = .ok (.istore 6, 2) := by decide +kernel
theorem dX7_odds_45 : decode cX7_odds 45 = .ok (.iload 6, 2) := by decide +kernel
theorem dX7_odds_47 : decode cX7_odds 47 = .ok (.bipush 7, 2) := by decide +kernel
theorem dX7_odds_49 : decode cX7_odds 49 = .ok (.if_icmp .gt 21, 3) := by decide +kernel
theorem dX7_odds_52 : decode cX7_odds 52 = .ok (.lload 4, 2) := by decide +kernel
theorem dX7_odds_54 : decode cX7_odds 54 = .ok (.aload_n 0, 1) := by decide +kernel
theorem dX7_odds_55 : decode cX7_odds 55 = .ok (.getfield 64, 3) := by decide +kernel
theorem dX7_odds_58 : decode cX7_odds 58 = .ok (.iload 6, 2) := by decide +kernel
theorem dX7_odds_60 : decode cX7_odds 60 = .ok (.laload, 1) := by decide +kernel
theorem dX7_odds_61 : decode cX7_odds 61 = .ok (.ladd, 1) := by decide +kernel
theorem dX7_odds_62 : decode cX7_odds 62 = .ok (.lstore 4, 2) := by decide +kernel
theorem dX7_odds_64 : decode cX7_odds 64 = .ok (.iinc 6 1, 3) := by decide +kernel
theorem dX7_odds_67 : decode cX7_odds 67 = .ok (.goto (-22), 3) := by decide +kernel
theorem dX7_odds_70 : decode cX7_odds 70 = .ok (.aload_n 0, 1) := by decide +kernel
theorem dX7_odds_71 : decode cX7_odds 71 = .ok (.getfield 71, 3) := by decide +kernel
theorem dX7_odds_74 : decode cX7_odds 74 = .ok (.lload 4, 2) := by decide +kernel
theorem dX7_odds_76 : decode cX7_odds 76 = .ok (.aload_n 0, 1) := by decide +kernel
theorem dX7_odds_77 : decode cX7_odds 77 = .ok (.invokevirtual 277, 3) := by decide +kernel
theorem dX7_odds_80 : decode cX7_odds 80 = .ok (.invokevirtual 281, 3) := by decide +kernel
theorem dX7_odds_83 : decode cX7_odds 83 = .ok (.iconst 1, 1) := by decide +kernel
theorem dX7_odds_84 : decode cX7_odds 84 = .ok (.ireturn, 1) := by decide +kernel
theorem dX7_mid_0 : decode cX7_mid 0 = .ok (.iload_n 1, 1) := by decide +kernel
theorem dX7_mid_1 : decode cX7_mid 1 = .ok (.iload_n 2, 1) := by decide +kernel
theorem dX7_mid_2 : decode cX7_mid 2 = .ok (.invokestatic 271, 3) := by decide +kernel
theorem dX7_mid_5 : decode cX7_mid 5 = .ok (.ifCond .ne 5, 3) := by decide +kernel
theorem dX7_mid_8 : decode cX7_mid 8 = .ok (.iconst (-1), 1) := by decide +kernel
theorem dX7_mid_9 : decode cX7_mid 9 = .ok (.ireturn, 1) := by decide +kernel
theorem dX7_mid_10 : decode cX7_mid 10 = .ok (.aload_n 0, 1) := by decide +kernel
theorem dX7_mid_11 : decode cX7_mid 11 = .ok (.getfield 28, 3) := by decide +kernel
theorem dX7_mid_14 : decode cX7_mid 14 = .ok (.getfield 149, 3) := by decide +kernel
theorem dX7_mid_17 : decode cX7_mid 17 = .ok (.ifCond .ne 6, 3) := by decide +kernel
theorem dX7_mid_20 : decode cX7_mid 20 = .ok (.bipush (-4), 2) := by decide +kernel
theorem dX7_mid_22 : decode cX7_mid 22 = .ok (.ireturn, 1) := by decide +kernel
theorem dX7_mid_23 : decode cX7_mid 23 = .ok (.aload_n 0, 1) := by decide +kernel
theorem dX7_mid_24 : decode cX7_mid 24 = .ok (.iload_n 1, 1) := by decide +kernel
theorem dX7_mid_25 : decode cX7_mid 25 = .ok (.iload_n 2, 1) := by decide +kernel
theorem dX7_mid_26 : decode cX7_mid 26 = .ok (.invokevirtual 274, 3) := by decide +kernel
theorem dX7_mid_29 : decode cX7_mid 29 = .ok (.lconst 0, 1) := by decide +kernel
theorem dX7_mid_30 : decode cX7_mid 30 = .ok (.lstore_n 3, 1) := by decide +kernel
theorem dX7_mid_31 : decode cX7_mid 31 = .ok (.iconst 0, 1) := by decide +kernel
theorem dX7_mid_32 : decode cX7_mid 32 = .ok (.istore 5, 2) := by decide +kernel
theorem dX7_mid_34 : decode cX7_mid 34 = .ok (.iload 5, 2) := by decide +kernel
theorem dX7_mid_36 : decode cX7_mid 36 = .ok (.bipush 7, 2) := by decide +kernel
theorem dX7_mid_38 : decode cX7_mid 38 = .ok (.if_icmp .gt 23, 3) := by decide +kernel
theorem dX7_mid_41 : decode cX7_mid 41 = .ok (.lload_n 3, 1) := by decide +kernel
theorem dX7_mid_42 : decode cX7_mid 42 = .ok (.iload 5, 2) := by decide +kernel
theorem dX7_mid_44 : decode cX7_mid 44 = .ok (.i2l, 1) := by decide +kernel
theorem dX7_mid_45 : decode cX7_mid 45 = .ok (.aload_n 0, 1) := by decide +kernel
theorem dX7_mid_46 : decode cX7_mid 46 = .ok (.getfield 64, 3) := by decide +kernel
theorem dX7_mid_49 : decode cX7_mid 49 = .ok (.iload 5, 2) := by decide +kernel
theorem dX7_mid_51 : decode cX7_mid 51 = .ok (.laload, 1) := by decide +kernel
theorem dX7_mid_52 : decode cX7_mid 52 = .ok (.lmul, 1) := by decide +kernel
theorem dX7_mid_53 : decode cX7_mid 53 = .ok (.ladd, 1) := by decide +kernel
theorem dX7_mid_54 : decode cX7_mid 54 = .ok (.lstore_n 3, 1) := by decide +kernel
theorem dX7_mid_55 : decode cX7_mid 55 = .ok (.iinc 5 1, 3) := by decide +kernel
theorem dX7_mid_58 : decode cX7_mid 58 = .ok (.goto (-24), 3) := by decide +kernel
theorem dX7_mid_61 : decode cX7_mid 61 = .ok (.aload_n 0, 1) := by decide +kernel
theorem dX7_mid_62 : decode cX7_mid 62 = .ok (.getfield 71, 3) := by decide +kernel
theorem dX7_mid_65 : decode cX7_mid 65 = .ok (.lload_n 3, 1) := by decide +kernel
theorem dX7_mid_66 : decode cX7_mid 66 = .ok (.aload_n 0, 1) := by decide +kernel
theorem dX7_mid_67 : decode cX7_mid 67 = .ok (.invokevirtual 277, 3) := by decide +kernel
theorem dX7_mid_70 : decode cX7_mid 70 = .ok (.invokevirtual 281, 3) := by decide +kernel
theorem dX7_mid_73 : decode cX7_mid 73 = .ok (.iconst 1, 1) := by decide +kernel
theorem dX7_mid_74 : decode cX7_mid 74 = .ok (.ireturn, 1) := by decide +kernel
theorem dX7_lots_0 : decode cX7_lots 0 = .ok (.iload_n 1, 1) := by decide +kernel
theorem dX7_lots_1 : decode cX7_lots 1 = .ok (.iconst 1, 1) := by decide +kernel
theorem dX7_lots_2 : decode cX7_lots 2 = .ok (.if_icmp .lt 23, 3) := by decide +kernel
theorem dX7_lots_5 : decode cX7_lots 5 = .ok (.iload_n 1, 1) := by decide +kernel
theorem dX7_lots_6 : decode cX7_lots 6 = .ok (.bipush 20, 2) := by decide +kernel
theorem dX7_lots_8 : decode cX7_lots 8 = .ok (.if_icmp .gt 17, 3) := by decide +kernel
theorem dX7_lots_11 : decode cX7_lots 11 = .ok (.iload_n 2, 1) := by decide +kernel
theorem dX7_lots_12 : decode cX7_lots 12 = .ok (.iconst 1, 1) := by decide +kernel
theorem dX7_lots_13 : decode cX7_lots 13 = .ok (.if_icmp .lt 12, 3) := by decide +kernel
theorem dX7_lots_16 : decode cX7_lots 16 = .ok (.iload_n 2, 1) := by decide +kernel
theorem dX7_lots_17 : decode cX7_lots 17 = .ok (.i2l, 1) := by decide +kernel
theorem dX7_lots_18 : decode cX7_lots 18 = .ok (.ldc2_w 285, 3) := by decide +kernel
theorem dX7_lots_21 : decode cX7_lots 21 = .ok (.lcmp, 1) := by decide +kernel
theorem dX7_lots_22 : decode cX7_lots 22 = .ok (.ifCond .lt 5, 3) := by decide +kernel
theorem dX7_lots_25 : decode cX7_lots 25 = .ok (.iconst (-1), 1) := by decide +kernel
theorem dX7_lots_26 : decode cX7_lots 26 = .ok (.ireturn, 1) := by decide +kernel
theorem dX7_lots_27 : decode cX7_lots 27 = .ok (.aload_n 0, 1) := by decide +kernel
theorem dX7_lots_28 : decode cX7_lots 28 = .ok (.getfield 28, 3) := by decide +kernel
theorem dX7_lots_31 : decode cX7_lots 31 = .ok (.getfield 149, 3) := by decide +kernel
theorem dX7_lots_34 : decode cX7_lots 34 = .ok (.ifCond .ne 6, 3) := by decide +kernel
theorem dX7_lots_37 : decode cX7_lots 37 = .ok (.bipush (-4), 2) := by decide +kernel
theorem dX7_lots_39 : decode cX7_lots 39 = .ok (.ireturn, 1) := by decide +kernel
theorem dX7_lots_40 : decode cX7_lots 40 = .ok (.aload_n 0, 1) := by decide +kernel
theorem dX7_lots_41 : decode cX7_lots 41 = .ok (.getfield 40, 3) := by decide +kernel
theorem dX7_lots_44 : decode cX7_lots 44 = .ok (.iload_n 1, 1) := by decide +kernel
theorem dX7_lots_45 : decode cX7_lots 45 = .ok (.invokevirtual 187, 3) := by decide +kernel
theorem dX7_lots_48 : decode cX7_lots 48 = .ok (.ifCond .eq 6, 3) := by decide +kernel
theorem dX7_lots_51 : decode cX7_lots 51 = .ok (.bipush (-2), 2) := by decide +kernel
theorem dX7_lots_53 : decode cX7_lots 53 = .ok (.ireturn, 1) := by decide +kernel
theorem dX7_lots_54 : decode cX7_lots 54 = .ok (.iload_n 2, 1) := by decide +kernel
theorem dX7_lots_55 : decode cX7_lots 55 = .ok (.i2l, 1) := by decide +kernel
theorem dX7_lots_56 : decode cX7_lots 56 = .ok (.lstore_n 3, 1) := by decide +kernel
theorem dX7_lots_57 : decode cX7_lots 57 = .ok (.iconst 0, 1) := by decide +kernel
theorem dX7_lots_58 : decode cX7_lots 58 = .ok (.istore 5, 2) := by decide +kernel
theorem dX7_lots_60 : decode cX7_lots 60 = .ok (.iload 5, 2) := by decide +kernel
theorem dX7_lots_62 : decode cX7_lots 62 = .ok (.iload_n 1, 1) := by decide +kernel
theorem dX7_lots_63 : decode cX7_lots 63 = .ok (.if_icmp .ge 24, 3) := by decide +kernel
theorem dX7_lots_66 : decode cX7_lots 66 = .ok (.lload_n 3, 1) := by decide +kernel
theorem dX7_lots_67 : decode cX7_lots 67 = .ok (.ldc2_w 287, 3) := by decide +kernel
theorem dX7_lots_70 : decode cX7_lots 70 = .ok (.lmul, 1) := by decide +kernel
theorem dX7_lots_71 : decode cX7_lots 71 = .ok (.ldc2_w 285, 3) := by decide +kernel
theorem dX7_lots_74 : decode cX7_lots 74 = .ok (.lrem, 1) := by decide +kernel
theorem dX7_lots_75 : decode cX7_lots 75 = .ok (.lstore_n 3, 1) := by decide +kernel
theorem dX7_lots_76 : decode cX7_lots 76 = .ok (.aload_n 0, 1) := by decide +kernel
theorem dX7_lots_77 : decode cX7_lots 77 = .ok (.lload_n 3, 1) := by decide +kernel
theorem dX7_lots_78 : decode cX7_lots 78 = .ok (.invokevirtual 289, 3) := by decide +kernel
theorem dX7_lots_81 : decode cX7_lots 81 = .ok (.iinc 5 1, 3) := by decide +kernel
theorem dX7_lots_84 : decode cX7_lots 84 = .ok (.goto (-24), 3) := by decide +kernel
theorem dX7_lots_87 : decode cX7_lots 87 = .ok (.aload_n 0, 1) := by decide +kernel
theorem dX7_lots_88 : decode cX7_lots 88 = .ok (.getfield 28, 3) := by decide +kernel
theorem dX7_lots_91 : decode cX7_lots 91 = .ok (.invokevirtual 214, 3) := by decide +kernel
theorem dX7_lots_94 : decode cX7_lots 94 = .ok (.ireturn, 1) := by decide +kernel
theorem dX7_asked_0 : decode cX7_asked 0 = .ok (.aload_n 0, 1) := by decide +kernel
theorem dX7_asked_1 : decode cX7_asked 1 = .ok (.getfield 103, 3) := by decide +kernel
theorem dX7_asked_4 : decode cX7_asked 4 = .ok (.ireturn, 1) := by decide +kernel
theorem dX7_upper_0 : decode cX7_upper 0 = .ok (.aload_n 0, 1) := by decide +kernel
theorem dX7_upper_1 : decode cX7_upper 1 = .ok (.getfield 71, 3) := by decide +kernel
theorem dX7_upper_4 : decode cX7_upper 4 = .ok (.getfield 293, 3) := by decide +kernel
theorem dX7_upper_7 : decode cX7_upper 7 = .ok (.lreturn, 1) := by decide +kernel
theorem dX7_lower_0 : decode cX7_lower 0 = .ok (.aload_n 0, 1) := by decide +kernel
theorem dX7_lower_1 : decode cX7_lower 1 = .ok (.getfield 71, 3) := by decide +kernel
theorem dX7_lower_4 : decode cX7_lower 4 = .ok (.getfield 297, 3) := by decide +kernel
theorem dX7_lower_7 : decode cX7_lower 7 = .ok (.lreturn, 1) := by decide +kernel
theorem dX7_count_0 : decode cX7_count 0 = .ok (.iload_n 1, 1) := by decide +kernel
theorem dX7_count_1 : decode cX7_count 1 = .ok (.ifCond .lt 9, 3) := by decide +kernel
theorem dX7_count_4 : decode cX7_count 4 = .ok (.iload_n 1, 1) := by decide +kernel
theorem dX7_count_5 : decode cX7_count 5 = .ok (.bipush 13, 2) := by decide +kernel
theorem dX7_count_7 : decode cX7_count 7 = .ok (.if_icmp .lt 7, 3) := by decide +kernel
theorem dX7_count_10 : decode cX7_count 10 = .ok (.iconst (-1), 1) := by decide +kernel
theorem dX7_count_11 : decode cX7_count 11 = .ok (.goto 8, 3) := by decide +kernel
theorem dX7_count_14 : decode cX7_count 14 = .ok (.aload_n 0, 1) := by decide +kernel
theorem dX7_count_15 : decode cX7_count 15 = .ok (.iload_n 1, 1) := by decide +kernel
theorem dX7_count_16 : decode cX7_count 16 = .ok (.invokevirtual 300, 3) := by decide +kernel
theorem dX7_count_19 : decode cX7_count 19 = .ok (.ireturn, 1) := by decide +kernel
theorem dX7_finding_0 : decode cX7_finding 0 = .ok (.aload_n 0, 1) := by decide +kernel
theorem dX7_finding_1 : decode cX7_finding 1 = .ok (.getfield 303, 3) := by decide +kernel
theorem dX7_finding_4 : decode cX7_finding 4 = .ok (.ireturn, 1) := by decide +kernel
theorem dX7_findings_0 : decode cX7_findings 0 = .ok (.iload_n 1, 1) := by decide +kernel
theorem dX7_findings_1 : decode cX7_findings 1 = .ok (.iconst 1, 1) := by decide +kernel
theorem dX7_findings_2 : decode cX7_findings 2 = .ok (.if_icmp .lt 8, 3) := by decide +kernel
theorem dX7_findings_5 : decode cX7_findings 5 = .ok (.iload_n 1, 1) := by decide +kernel
theorem dX7_findings_6 : decode cX7_findings 6 = .ok (.iconst 5, 1) := by decide +kernel
theorem dX7_findings_7 : decode cX7_findings 7 = .ok (.if_icmp .le 7, 3) := by decide +kernel
theorem dX7_findings_10 : decode cX7_findings 10 = .ok (.iconst (-1), 1) := by decide +kernel
theorem dX7_findings_11 : decode cX7_findings 11 = .ok (.goto 9, 3) := by decide +kernel
theorem dX7_findings_14 : decode cX7_findings 14 = .ok (.aload_n 0, 1) := by decide +kernel
theorem dX7_findings_15 : decode cX7_findings 15 = .ok (.getfield 75, 3) := by decide +kernel
theorem dX7_findings_18 : decode cX7_findings 18 = .ok (.iload_n 1, 1) := by decide +kernel
theorem dX7_findings_19 : decode cX7_findings 19 = .ok (.iaload, 1) := by decide +kernel
theorem dX7_findings_20 : decode cX7_findings 20 = .ok (.ireturn, 1) := by decide +kernel
theorem dX7_digest_0 : decode cX7_digest 0 = .ok (.ldc2_w 306, 3) := by decide +kernel
theorem dX7_digest_3 : decode cX7_digest 3 = .ok (.lstore_n 1, 1) := by decide +kernel
theorem dX7_digest_4 : decode cX7_digest 4 = .ok (.iconst 0, 1) := by decide +kernel
theorem dX7_digest_5 : decode cX7_digest 5 = .ok (.istore_n 3, 1) := by decide +kernel
theorem dX7_digest_6 : decode cX7_digest 6 = .ok (.iload_n 3, 1) := by decide +kernel
theorem dX7_digest_7 : decode cX7_digest 7 = .ok (.bipush 13, 2) := by decide +kernel
theorem dX7_digest_9 : decode cX7_digest 9 = .ok (.if_icmp .ge 22, 3) := by decide +kernel
theorem dX7_digest_12 : decode cX7_digest 12 = .ok (.ldc2_w 308, 3) := by decide +kernel
theorem dX7_digest_15 : decode cX7_digest 15 = .ok (.lload_n 1, 1) := by decide +kernel
theorem dX7_digest_16 : decode cX7_digest 16 = .ok (.lmul, 1) := by decide +kernel
theorem dX7_digest_17 : decode cX7_digest 17 = .ok (.aload_n 0, 1) := by decide +kernel
theorem dX7_digest_18 : decode cX7_digest 18 = .ok (.iload_n 3, 1) := by decide +kernel
theorem dX7_digest_19 : decode cX7_digest 19 = .ok (.invokevirtual 300, 3) := by decide +kernel
theorem dX7_digest_22 : decode cX7_digest 22 = .ok (.i2l, 1) := by decide +kernel
theorem dX7_digest_23 : decode cX7_digest 23 = .ok (.ladd, 1) := by decide +kernel
theorem dX7_digest_24 : decode cX7_digest 24 = .ok (.lstore_n 1, 1) := by decide +kernel
theorem dX7_digest_25 : decode cX7_digest 25 = .ok (.iinc 3 1, 3) := by decide +kernel
theorem dX7_digest_28 : decode cX7_digest 28 = .ok (.goto (-22), 3) := by decide +kernel
theorem dX7_digest_31 : decode cX7_digest 31 = .ok (.iconst 0, 1) := by decide +kernel
theorem dX7_digest_32 : decode cX7_digest 32 = .ok (.istore_n 3, 1) := by decide +kernel
theorem dX7_digest_33 : decode cX7_digest 33 = .ok (.iload_n 3, 1) := by decide +kernel
theorem dX7_digest_34 : decode cX7_digest 34 = .ok (.aload_n 0, 1) := by decide +kernel
theorem dX7_digest_35 : decode cX7_digest 35 = .ok (.getfield 28, 3) := by decide +kernel
theorem dX7_digest_38 : decode cX7_digest 38 = .ok (.getfield 149, 3) := by decide +kernel
theorem dX7_digest_41 : decode cX7_digest 41 = .ok (.if_icmp .ge 40, 3) := by decide +kernel
theorem dX7_digest_44 : decode cX7_digest 44 = .ok (.iconst 0, 1) := by decide +kernel
theorem dX7_digest_45 : decode cX7_digest 45 = .ok (.istore 4, 2) := by decide +kernel
theorem dX7_digest_47 : decode cX7_digest 47 = .ok (.iload 4, 2) := by decide +kernel
theorem dX7_digest_49 : decode cX7_digest 49 = .ok (.bipush 7, 2) := by decide +kernel
theorem dX7_digest_51 : decode cX7_digest 51 = .ok (.if_icmp .ge 24, 3) := by decide +kernel
theorem dX7_digest_54 : decode cX7_digest 54 = .ok (.ldc2_w 308, 3) := by decide +kernel
theorem dX7_digest_57 : decode cX7_digest 57 = .ok (.lload_n 1, 1) := by decide +kernel
theorem dX7_digest_58 : decode cX7_digest 58 = .ok (.lmul, 1) := by decide +kernel
theorem dX7_digest_59 : decode cX7_digest 59 = .ok (.aload_n 0, 1) := by decide +kernel
theorem dX7_digest_60 : decode cX7_digest 60 = .ok (.iload_n 3, 1) := by decide +kernel
theorem dX7_digest_61 : decode cX7_digest 61 = .ok (.iload 4, 2) := by decide +kernel
theorem dX7_digest_63 : decode cX7_digest 63 = .ok (.invokevirtual 155, 3) := by decide +kernel
theorem dX7_digest_66 : decode cX7_digest 66 = .ok (.i2l, 1) := by decide +kernel
theorem dX7_digest_67 : decode cX7_digest 67 = .ok (.ladd, 1) := by decide +kernel
theorem dX7_digest_68 : decode cX7_digest 68 = .ok (.lstore_n 1, 1) := by decide +kernel
theorem dX7_digest_69 : decode cX7_digest 69 = .ok (.iinc 4 1, 3) := by decide +kernel
theorem dX7_digest_72 : decode cX7_digest 72 = .ok (.goto (-25), 3) := by decide +kernel
theorem dX7_digest_75 : decode cX7_digest 75 = .ok (.iinc 3 1, 3) := by decide +kernel
theorem dX7_digest_78 : decode cX7_digest 78 = .ok (.goto (-45), 3) := by decide +kernel
theorem dX7_digest_81 : decode cX7_digest 81 = .ok (.iconst 0, 1) := by decide +kernel
theorem dX7_digest_82 : decode cX7_digest 82 = .ok (.istore_n 3, 1) := by decide +kernel
theorem dX7_digest_83 : decode cX7_digest 83 = .ok (.iload_n 3, 1) := by decide +kernel
theorem dX7_digest_84 : decode cX7_digest 84 = .ok (.iconst 3, 1) := by decide +kernel
theorem dX7_digest_85 : decode cX7_digest 85 = .ok (.if_icmp .ge 26, 3) := by decide +kernel
theorem dX7_digest_88 : decode cX7_digest 88 = .ok (.ldc2_w 308, 3) := by decide +kernel
theorem dX7_digest_91 : decode cX7_digest 91 = .ok (.lload_n 1, 1) := by decide +kernel
theorem dX7_digest_92 : decode cX7_digest 92 = .ok (.lmul, 1) := by decide +kernel
theorem dX7_digest_93 : decode cX7_digest 93 = .ok (.aload_n 0, 1) := by decide +kernel
theorem dX7_digest_94 : decode cX7_digest 94 = .ok (.getfield 44, 3) := by decide +kernel
theorem dX7_digest_97 : decode cX7_digest 97 = .ok (.iload_n 3, 1) := by decide +kernel
theorem dX7_digest_98 : decode cX7_digest 98 = .ok (.aaload, 1) := by decide +kernel
theorem dX7_digest_99 : decode cX7_digest 99 = .ok (.getfield 80, 3) := by decide +kernel
theorem dX7_digest_102 : decode cX7_digest 102 = .ok (.i2l, 1) := by decide +kernel
theorem dX7_digest_103 : decode cX7_digest 103 = .ok (.ladd, 1) := by decide +kernel
theorem dX7_digest_104 : decode cX7_digest 104 = .ok (.lstore_n 1, 1) := by decide +kernel
theorem dX7_digest_105 : decode cX7_digest 105 = .ok (.iinc 3 1, 3) := by decide +kernel
theorem dX7_digest_108 : decode cX7_digest 108 = .ok (.goto (-25), 3) := by decide +kernel
theorem dX7_digest_111 : decode cX7_digest 111 = .ok (.iconst 0, 1) := by decide +kernel
theorem dX7_digest_112 : decode cX7_digest 112 = .ok (.istore_n 3, 1) := by decide +kernel
theorem dX7_digest_113 : decode cX7_digest 113 = .ok (.iload_n 3, 1) := by decide +kernel
theorem dX7_digest_114 : decode cX7_digest 114 = .ok (.bipush 6, 2) := by decide +kernel
theorem dX7_digest_116 : decode cX7_digest 116 = .ok (.if_icmp .ge 20, 3) := by decide +kernel
theorem dX7_digest_119 : decode cX7_digest 119 = .ok (.aload_n 0, 1) := by decide +kernel
theorem dX7_digest_120 : decode cX7_digest 120 = .ok (.getfield 11, 3) := by decide +kernel
theorem dX7_digest_123 : decode cX7_digest 123 = .ok (.iload_n 3, 1) := by decide +kernel
theorem dX7_digest_124 : decode cX7_digest 124 = .ok (.aaload, 1) := by decide +kernel
theorem dX7_digest_125 : decode cX7_digest 125 = .ok (.lload_n 1, 1) := by decide +kernel
theorem dX7_digest_126 : decode cX7_digest 126 = .ok (.invokevirtual 310, 3) := by decide +kernel
theorem dX7_digest_129 : decode cX7_digest 129 = .ok (.lstore_n 1, 1) := by decide +kernel
theorem dX7_digest_130 : decode cX7_digest 130 = .ok (.iinc 3 1, 3) := by decide +kernel
theorem dX7_digest_133 : decode cX7_digest 133 = .ok (.goto (-20), 3) := by decide +kernel
theorem dX7_digest_136 : decode cX7_digest 136 = .ok (.iconst 0, 1) := by decide +kernel
theorem dX7_digest_137 : decode cX7_digest 137 = .ok (.istore_n 3, 1) := by decide +kernel
theorem dX7_digest_138 : decode cX7_digest 138 = .ok (.iload_n 3, 1) := by decide +kernel
theorem dX7_digest_139 : decode cX7_digest 139 = .ok (.iconst 4, 1) := by decide +kernel
theorem dX7_digest_140 : decode cX7_digest 140 = .ok (.if_icmp .ge 20, 3) := by decide +kernel
theorem dX7_digest_143 : decode cX7_digest 143 = .ok (.aload_n 0, 1) := by decide +kernel
theorem dX7_digest_144 : decode cX7_digest 144 = .ok (.getfield 17, 3) := by decide +kernel
theorem dX7_digest_147 : decode cX7_digest 147 = .ok (.iload_n 3, 1) := by decide +kernel
theorem dX7_digest_148 : decode cX7_digest 148 = .ok (.aaload, 1) := by decide +kernel
theorem dX7_digest_149 : decode cX7_digest 149 = .ok (.lload_n 1, 1) := by decide +kernel
theorem dX7_digest_150 : decode cX7_digest 150 = .ok (.invokevirtual 314, 3) := by decide +kernel
theorem dX7_digest_153 : decode cX7_digest 153 = .ok (.lstore_n 1, 1) := by decide +kernel
theorem dX7_digest_154 : decode cX7_digest 154 = .ok (.iinc 3 1, 3) := by decide +kernel
theorem dX7_digest_157 : decode cX7_digest 157 = .ok (.goto (-19), 3) := by decide +kernel
theorem dX7_digest_160 : decode cX7_digest 160 = .ok (.lload_n 1, 1) := by decide +kernel
theorem dX7_digest_161 : decode cX7_digest 161 = .ok (.lreturn, 1) := by decide +kernel
theorem dX7_found_0 : decode cX7_found 0 = .ok (.aload_n 0, 1) := by decide +kernel
theorem dX7_found_1 : decode cX7_found 1 = .ok (.iload_n 1, 1) := by decide +kernel
theorem dX7_found_2 : decode cX7_found 2 = .ok (.putfield 303, 3) := by decide +kernel
theorem dX7_found_5 : decode cX7_found 5 = .ok (.aload_n 0, 1) := by decide +kernel
theorem dX7_found_6 : decode cX7_found 6 = .ok (.getfield 75, 3) := by decide +kernel
theorem dX7_found_9 : decode cX7_found 9 = .ok (.iload_n 1, 1) := by decide +kernel
theorem dX7_found_10 : decode cX7_found 10 = .ok (.dup2, 1) := by decide +kernel
theorem dX7_found_11 : decode cX7_found 11 = .ok (.iaload, 1) := by decide +kernel
theorem dX7_found_12 : decode cX7_found 12 = .ok (.iconst 1, 1) := by decide +kernel
theorem dX7_found_13 : decode cX7_found 13 = .ok (.iadd, 1) := by decide +kernel
theorem dX7_found_14 : decode cX7_found 14 = .ok (.iastore, 1) := by decide +kernel
theorem dX7_found_15 : decode cX7_found 15 = .ok (.bipush (-3), 2) := by decide +kernel
theorem dX7_found_17 : decode cX7_found 17 = .ok (.ireturn, 1) := by decide +kernel
theorem dX7_isRow_0 : decode cX7_isRow 0 = .ok (.iload_n 0, 1) := by decide +kernel
theorem dX7_isRow_1 : decode cX7_isRow 1 = .ok (.ifCond .lt 13, 3) := by decide +kernel
theorem dX7_isRow_4 : decode cX7_isRow 4 = .ok (.iload_n 0, 1) := by decide +kernel
theorem dX7_isRow_5 : decode cX7_isRow 5 = .ok (.bipush 6, 2) := by decide +kernel
theorem dX7_isRow_7 : decode cX7_isRow 7 = .ok (.if_icmp .ge 7, 3) := by decide +kernel
theorem dX7_isRow_10 : decode cX7_isRow 10 = .ok (.iconst 1, 1) := by decide +kernel
theorem dX7_isRow_11 : decode cX7_isRow 11 = .ok (.goto 4, 3) := by decide +kernel
theorem dX7_isRow_14 : decode cX7_isRow 14 = .ok (.iconst 0, 1) := by decide +kernel
theorem dX7_isRow_15 : decode cX7_isRow 15 = .ok (.ireturn, 1) := by decide +kernel
theorem dX7_isText_0 : decode cX7_isText 0 = .ok (.iload_n 0, 1) := by decide +kernel
theorem dX7_isText_1 : decode cX7_isText 1 = .ok (.ifCond .lt 12, 3) := by decide +kernel
theorem dX7_isText_4 : decode cX7_isText 4 = .ok (.iload_n 0, 1) := by decide +kernel
theorem dX7_isText_5 : decode cX7_isText 5 = .ok (.iconst 4, 1) := by decide +kernel
theorem dX7_isText_6 : decode cX7_isText 6 = .ok (.if_icmp .ge 7, 3) := by decide +kernel
theorem dX7_isText_9 : decode cX7_isText 9 = .ok (.iconst 1, 1) := by decide +kernel
theorem dX7_isText_10 : decode cX7_isText 10 = .ok (.goto 4, 3) := by decide +kernel
theorem dX7_isText_13 : decode cX7_isText 13 = .ok (.iconst 0, 1) := by decide +kernel
theorem dX7_isText_14 : decode cX7_isText 14 = .ok (.ireturn, 1) := by decide +kernel
theorem dX7_isDrum_0 : decode cX7_isDrum 0 = .ok (.iload_n 1, 1) := by decide +kernel
theorem dX7_isDrum_1 : decode cX7_isDrum 1 = .ok (.ifCond .lt 18, 3) := by decide +kernel
theorem dX7_isDrum_4 : decode cX7_isDrum 4 = .ok (.iload_n 1, 1) := by decide +kernel
theorem dX7_isDrum_5 : decode cX7_isDrum 5 = .ok (.aload_n 0, 1) := by decide +kernel
theorem dX7_isDrum_6 : decode cX7_isDrum 6 = .ok (.getfield 28, 3) := by decide +kernel
theorem dX7_isDrum_9 : decode cX7_isDrum 9 = .ok (.getfield 149, 3) := by decide +kernel
theorem dX7_isDrum_12 : decode cX7_isDrum 12 = .ok (.if_icmp .ge 7, 3) := by decide +kernel
theorem dX7_isDrum_15 : decode cX7_isDrum 15 = .ok (.iconst 1, 1) := by decide +kernel
theorem dX7_isDrum_16 : decode cX7_isDrum 16 = .ok (.goto 4, 3) := by decide +kernel
theorem dX7_isDrum_19 : decode cX7_isDrum 19 = .ok (.iconst 0, 1) := by decide +kernel
theorem dX7_isDrum_20 : decode cX7_isDrum 20 = .ok (.ireturn, 1) := by decide +kernel
theorem dX7_areChances_0 : decode cX7_areChances 0 = .ok (.iload_n 0, 1) := by decide +kernel
theorem dX7_areChances_1 : decode cX7_areChances 1 = .ok (.ifCond .lt 23, 3) := by decide +kernel
theorem dX7_areChances_4 : decode cX7_areChances 4 = .ok (.iload_n 0, 1) := by decide +kernel
theorem dX7_areChances_5 : decode cX7_areChances 5 = .ok (.bipush 20, 2) := by decide +kernel
theorem dX7_areChances_7 : decode cX7_areChances 7 = .ok (.if_icmp .gt 17, 3) := by decide +kernel
theorem dX7_areChances_10 : decode cX7_areChances 10 = .ok (.iload_n 1, 1) := by decide +kernel
theorem dX7_areChances_11 : decode cX7_areChances 11 = .ok (.ifCond .lt 13, 3) := by decide +kernel
theorem dX7_areChances_14 : decode cX7_areChances 14 = .ok (.iload_n 1, 1) := by decide +kernel
theorem dX7_areChances_15 : decode cX7_areChances 15 = .ok (.bipush 12, 2) := by decide +kernel
theorem dX7_areChances_17 : decode cX7_areChances 17 = .ok (.if_icmp .gt 7, 3) := by decide +kernel
theorem dX7_areChances_20 : decode cX7_areChances 20 = .ok (.iconst 1, 1) := by decide +kernel
theorem dX7_areChances_21 : decode cX7_areChances 21 = .ok (.goto 4, 3) := by decide +kernel
theorem dX7_areChances_24 : decode cX7_areChances 24 = .ok (.iconst 0, 1) := by decide +kernel
theorem dX7_areChances_25 : decode cX7_areChances 25 = .ok (.ireturn, 1) := by decide +kernel
theorem dX7_rowRefused_0 : decode cX7_rowRefused 0 = .ok (.iload_n 1, 1) := by decide +kernel
theorem dX7_rowRefused_1 : decode cX7_rowRefused 1 = .ok (.invokestatic 84, 3) := by decide +kernel
theorem dX7_rowRefused_4 : decode cX7_rowRefused 4 = .ok (.ifCond .ne 5, 3) := by decide +kernel
theorem dX7_rowRefused_7 : decode cX7_rowRefused 7 = .ok (.iconst (-1), 1) := by decide +kernel
theorem dX7_rowRefused_8 : decode cX7_rowRefused 8 = .ok (.ireturn, 1) := by decide +kernel
theorem dX7_rowRefused_9 : decode cX7_rowRefused 9 = .ok (.aload_n 0, 1) := by decide +kernel
theorem dX7_rowRefused_10 : decode cX7_rowRefused 10 = .ok (.getfield 11, 3) := by decide +kernel
theorem dX7_rowRefused_13 : decode cX7_rowRefused 13 = .ok (.iload_n 1, 1) := by decide +kernel
theorem dX7_rowRefused_14 : decode cX7_rowRefused 14 = .ok (.aaload, 1) := by decide +kernel
theorem dX7_rowRefused_15 : decode cX7_rowRefused 15 = .ok (.invokevirtual 110, 3) := by decide +kernel
theorem dX7_rowRefused_18 : decode cX7_rowRefused 18 = .ok (.ifCond .eq 11, 3) := by decide +kernel
theorem dX7_rowRefused_21 : decode cX7_rowRefused 21 = .ok (.aload_n 0, 1) := by decide +kernel
theorem dX7_rowRefused_22 : decode cX7_rowRefused 22 = .ok (.iconst 1, 1) := by decide +kernel
theorem dX7_rowRefused_23 : decode cX7_rowRefused 23 = .ok (.invokevirtual 88, 3) := by decide +kernel
theorem dX7_rowRefused_26 : decode cX7_rowRefused 26 = .ok (.goto 4, 3) := by decide +kernel
theorem dX7_rowRefused_29 : decode cX7_rowRefused 29 = .ok (.iconst 0, 1) := by decide +kernel
theorem dX7_rowRefused_30 : decode cX7_rowRefused 30 = .ok (.ireturn, 1) := by decide +kernel
theorem dX7_placeRefused_0 : decode cX7_placeRefused 0 = .ok (.aload_n 0, 1) := by decide +kernel
theorem dX7_placeRefused_1 : decode cX7_placeRefused 1 = .ok (.iload_n 1, 1) := by decide +kernel
theorem dX7_placeRefused_2 : decode cX7_placeRefused 2 = .ok (.invokevirtual 106, 3) := by decide +kernel
theorem dX7_placeRefused_5 : decode cX7_placeRefused 5 = .ok (.istore_n 3, 1) := by decide +kernel
theorem dX7_placeRefused_6 : decode cX7_placeRefused 6 = .ok (.iload_n 3, 1) := by decide +kernel
theorem dX7_placeRefused_7 : decode cX7_placeRefused 7 = .ok (.ifCond .eq 5, 3) := by decide +kernel
theorem dX7_placeRefused_10 : decode cX7_placeRefused 10 = .ok (.iload_n 3, 1) := by decide +kernel
theorem dX7_placeRefused_11 : decode cX7_placeRefused 11 = .ok (.ireturn, 1) := by decide +kernel
theorem dX7_placeRefused_12 : decode cX7_placeRefused 12 = .ok (.iload_n 2, 1) := by decide +kernel
theorem dX7_placeRefused_13 : decode cX7_placeRefused 13 = .ok (.ifCond .lt 16, 3) := by decide +kernel
theorem dX7_placeRefused_16 : decode cX7_placeRefused 16 = .ok (.iload_n 2, 1) := by decide +kernel
theorem dX7_placeRefused_17 : decode cX7_placeRefused 17 = .ok (.aload_n 0, 1) := by decide +kernel
theorem dX7_placeRefused_18 : decode cX7_placeRefused 18 = .ok (.getfield 11, 3) := by decide +kernel
theorem dX7_placeRefused_21 : decode cX7_placeRefused 21 = .ok (.iload_n 1, 1) := by decide +kernel
theorem dX7_placeRefused_22 : decode cX7_placeRefused 22 = .ok (.aaload, 1) := by decide +kernel
theorem dX7_placeRefused_23 : decode cX7_placeRefused 23 = .ok (.getfield 109, 3) := by decide +kernel
theorem dX7_placeRefused_26 : decode cX7_placeRefused 26 = .ok (.if_icmp .lt 11, 3) := by decide +kernel
theorem dX7_placeRefused_29 : decode cX7_placeRefused 29 = .ok (.aload_n 0, 1) := by decide +kernel
theorem dX7_placeRefused_30 : decode cX7_placeRefused 30 = .ok (.iconst 2, 1) := by decide +kernel
theorem dX7_placeRefused_31 : decode cX7_placeRefused 31 = .ok (.invokevirtual 88, 3) := by decide +kernel
theorem dX7_placeRefused_34 : decode cX7_placeRefused 34 = .ok (.goto 4, 3) := by decide +kernel
theorem dX7_placeRefused_37 : decode cX7_placeRefused 37 = .ok (.iconst 0, 1) := by decide +kernel
theorem dX7_placeRefused_38 : decode cX7_placeRefused 38 = .ok (.ireturn, 1) := by decide +kernel
theorem dX7_textRefused_0 : decode cX7_textRefused 0 = .ok (.iload_n 1, 1) := by decide +kernel
theorem dX7_textRefused_1 : decode cX7_textRefused 1 = .ok (.invokestatic 124, 3) := by decide +kernel
theorem dX7_textRefused_4 : decode cX7_textRefused 4 = .ok (.ifCond .ne 5, 3) := by decide +kernel
theorem dX7_textRefused_7 : decode cX7_textRefused 7 = .ok (.iconst (-1), 1) := by decide +kernel
theorem dX7_textRefused_8 : decode cX7_textRefused 8 = .ok (.ireturn, 1) := by decide +kernel
theorem dX7_textRefused_9 : decode cX7_textRefused 9 = .ok (.aload_n 0, 1) := by decide +kernel
theorem dX7_textRefused_10 : decode cX7_textRefused 10 = .ok (.getfield 17, 3) := by decide +kernel
theorem dX7_textRefused_13 : decode cX7_textRefused 13 = .ok (.iload_n 1, 1) := by decide +kernel
theorem dX7_textRefused_14 : decode cX7_textRefused 14 = .ok (.aaload, 1) := by decide +kernel
theorem dX7_textRefused_15 : decode cX7_textRefused 15 = .ok (.invokevirtual 315, 3) := by decide +kernel
theorem dX7_textRefused_18 : decode cX7_textRefused 18 = .ok (.ifCond .eq 11, 3) := by decide +kernel
theorem dX7_textRefused_21 : decode cX7_textRefused 21 = .ok (.aload_n 0, 1) := by decide +kernel
theorem dX7_textRefused_22 : decode cX7_textRefused 22 = .ok (.iconst 1, 1) := by decide +kernel
theorem dX7_textRefused_23 : decode cX7_textRefused 23 = .ok (.invokevirtual 88, 3) := by decide +kernel
theorem dX7_textRefused_26 : decode cX7_textRefused 26 = .ok (.goto 4, 3) := by decide +kernel
theorem dX7_textRefused_29 : decode cX7_textRefused 29 = .ok (.iconst 0, 1) := by decide +kernel
theorem dX7_textRefused_30 : decode cX7_textRefused 30 = .ok (.ireturn, 1) := by decide +kernel
theorem dX7_messagesRefused_0 : decode cX7_messagesRefused 0 = .ok (.aload_n 0, 1) := by decide +kernel
theorem dX7_messagesRefused_1 : decode cX7_messagesRefused 1 = .ok (.getfield 28, 3) := by decide +kernel
theorem dX7_messagesRefused_4 : decode cX7_messagesRefused 4 = .ok (.getfield 149, 3) := by decide +kernel
theorem dX7_messagesRefused_7 : decode cX7_messagesRefused 7 = .ok (.ifCond .ne 6, 3) := by decide +kernel
theorem dX7_messagesRefused_10 : decode cX7_messagesRefused 10 = .ok (.bipush (-4), 2) := by decide +kernel
theorem dX7_messagesRefused_12 : decode cX7_messagesRefused 12 = .ok (.ireturn, 1) := by decide +kernel
theorem dX7_messagesRefused_13 : decode cX7_messagesRefused 13 = .ok (.aload_n 0, 1) := by decide +kernel
theorem dX7_messagesRefused_14 : decode cX7_messagesRefused 14 = .ok (.getfield 11, 3) := by decide +kernel
theorem dX7_messagesRefused_17 : decode cX7_messagesRefused 17 = .ok (.iload_n 1, 1) := by decide +kernel
theorem dX7_messagesRefused_18 : decode cX7_messagesRefused 18 = .ok (.aaload, 1) := by decide +kernel
theorem dX7_messagesRefused_19 : decode cX7_messagesRefused 19 = .ok (.invokevirtual 110, 3) := by decide +kernel
theorem dX7_messagesRefused_22 : decode cX7_messagesRefused 22 = .ok (.ifCond .eq 9, 3) := by decide +kernel
theorem dX7_messagesRefused_25 : decode cX7_messagesRefused 25 = .ok (.aload_n 0, 1) := by decide +kernel
theorem dX7_messagesRefused_26 : decode cX7_messagesRefused 26 = .ok (.iconst 1, 1) := by decide +kernel
theorem dX7_messagesRefused_27 : decode cX7_messagesRefused 27 = .ok (.invokevirtual 88, 3) := by decide +kernel
theorem dX7_messagesRefused_30 : decode cX7_messagesRefused 30 = .ok (.ireturn, 1) := by decide +kernel
theorem dX7_messagesRefused_31 : decode cX7_messagesRefused 31 = .ok (.aload_n 0, 1) := by decide +kernel
theorem dX7_messagesRefused_32 : decode cX7_messagesRefused 32 = .ok (.getfield 11, 3) := by decide +kernel
theorem dX7_messagesRefused_35 : decode cX7_messagesRefused 35 = .ok (.iload_n 1, 1) := by decide +kernel
theorem dX7_messagesRefused_36 : decode cX7_messagesRefused 36 = .ok (.aaload, 1) := by decide +kernel
theorem dX7_messagesRefused_37 : decode cX7_messagesRefused 37 = .ok (.getfield 109, 3) := by decide +kernel
theorem dX7_messagesRefused_40 : decode cX7_messagesRefused 40 = .ok (.ifCond .eq 16, 3) := by decide +kernel
theorem dX7_messagesRefused_43 : decode cX7_messagesRefused 43 = .ok (.aload_n 0, 1) := by decide +kernel
theorem dX7_messagesRefused_44 : decode cX7_messagesRefused 44 = .ok (.getfield 11, 3) := by decide +kernel
theorem dX7_messagesRefused_47 : decode cX7_messagesRefused 47 = .ok (.iload_n 1, 1) := by decide +kernel
theorem dX7_messagesRefused_48 : decode cX7_messagesRefused 48 = .ok (.aaload, 1) := by decide +kernel
theorem dX7_messagesRefused_49 : decode cX7_messagesRefused 49 = .ok (.getfield 109, 3) := by decide +kernel
theorem dX7_messagesRefused_52 : decode cX7_messagesRefused 52 = .ok (.iconst 5, 1) := by decide +kernel
theorem dX7_messagesRefused_53 : decode cX7_messagesRefused 53 = .ok (.if_icmp .le 9, 3) := by decide +kernel
theorem dX7_messagesRefused_56 : decode cX7_messagesRefused 56 = .ok (.aload_n 0, 1) := by decide +kernel
theorem dX7_messagesRefused_57 : decode cX7_messagesRefused 57 = .ok (.iconst 5, 1) := by decide +kernel
theorem dX7_messagesRefused_58 : decode cX7_messagesRefused 58 = .ok (.invokevirtual 88, 3) := by decide +kernel
theorem dX7_messagesRefused_61 : decode cX7_messagesRefused 61 = .ok (.ireturn, 1) := by decide +kernel
theorem dX7_messagesRefused_62 : decode cX7_messagesRefused 62 = .ok (.aload_n 0, 1) := by decide +kernel
theorem dX7_messagesRefused_63 : decode cX7_messagesRefused 63 = .ok (.getfield 11, 3) := by decide +kernel
theorem dX7_messagesRefused_66 : decode cX7_messagesRefused 66 = .ok (.iload_n 1, 1) := by decide +kernel
theorem dX7_messagesRefused_67 : decode cX7_messagesRefused 67 = .ok (.aaload, 1) := by decide +kernel
theorem dX7_messagesRefused_68 : decode cX7_messagesRefused 68 = .ok (.bipush 10, 2) := by decide +kernel
theorem dX7_messagesRefused_70 : decode cX7_messagesRefused 70 = .ok (.aload_n 0, 1) := by decide +kernel
theorem dX7_messagesRefused_71 : decode cX7_messagesRefused 71 = .ok (.getfield 28, 3) := by decide +kernel
theorem dX7_messagesRefused_74 : decode cX7_messagesRefused 74 = .ok (.getfield 149, 3) := by decide +kernel
theorem dX7_messagesRefused_77 : decode cX7_messagesRefused 77 = .ok (.invokestatic 316, 3) := by decide +kernel
theorem dX7_messagesRefused_80 : decode cX7_messagesRefused 80 = .ok (.iconst 1, 1) := by decide +kernel
theorem dX7_messagesRefused_81 : decode cX7_messagesRefused 81 = .ok (.isub, 1) := by decide +kernel
theorem dX7_messagesRefused_82 : decode cX7_messagesRefused 82 = .ok (.invokevirtual 319, 3) := by decide +kernel
theorem dX7_messagesRefused_85 : decode cX7_messagesRefused 85 = .ok (.ifCond .eq 7, 3) := by decide +kernel
theorem dX7_messagesRefused_88 : decode cX7_messagesRefused 88 = .ok (.iconst 0, 1) := by decide +kernel
theorem dX7_messagesRefused_89 : decode cX7_messagesRefused 89 = .ok (.goto 8, 3) := by decide +kernel
theorem dX7_messagesRefused_92 : decode cX7_messagesRefused 92 = .ok (.aload_n 0, 1) := by decide +kernel
theorem dX7_messagesRefused_93 : decode cX7_messagesRefused 93 = .ok (.iconst 3, 1) := by decide +kernel
theorem dX7_messagesRefused_94 : decode cX7_messagesRefused 94 = .ok (.invokevirtual 88, 3) := by decide +kernel
theorem dX7_messagesRefused_97 : decode cX7_messagesRefused 97 = .ok (.ireturn, 1) := by decide +kernel
theorem dX7_showedRefused_0 : decode cX7_showedRefused 0 = .ok (.aload_n 0, 1) := by decide +kernel
theorem dX7_showedRefused_1 : decode cX7_showedRefused 1 = .ok (.iload_n 1, 1) := by decide +kernel
theorem dX7_showedRefused_2 : decode cX7_showedRefused 2 = .ok (.invokevirtual 152, 3) := by decide +kernel
theorem dX7_showedRefused_5 : decode cX7_showedRefused 5 = .ok (.ifCond .eq 10, 3) := by decide +kernel
theorem dX7_showedRefused_8 : decode cX7_showedRefused 8 = .ok (.iload_n 2, 1) := by decide +kernel
theorem dX7_showedRefused_9 : decode cX7_showedRefused 9 = .ok (.invokestatic 84, 3) := by decide +kernel
theorem dX7_showedRefused_12 : decode cX7_showedRefused 12 = .ok (.ifCond .ne 5, 3) := by decide +kernel
theorem dX7_showedRefused_15 : decode cX7_showedRefused 15 = .ok (.iconst (-1), 1) := by decide +kernel
theorem dX7_showedRefused_16 : decode cX7_showedRefused 16 = .ok (.ireturn, 1) := by decide +kernel
theorem dX7_showedRefused_17 : decode cX7_showedRefused 17 = .ok (.aload_n 0, 1) := by decide +kernel
theorem dX7_showedRefused_18 : decode cX7_showedRefused 18 = .ok (.getfield 11, 3) := by decide +kernel
theorem dX7_showedRefused_21 : decode cX7_showedRefused 21 = .ok (.iload_n 2, 1) := by decide +kernel
theorem dX7_showedRefused_22 : decode cX7_showedRefused 22 = .ok (.aaload, 1) := by decide +kernel
theorem dX7_showedRefused_23 : decode cX7_showedRefused 23 = .ok (.invokevirtual 110, 3) := by decide +kernel
theorem dX7_showedRefused_26 : decode cX7_showedRefused 26 = .ok (.ifCond .eq 9, 3) := by decide +kernel
theorem dX7_showedRefused_29 : decode cX7_showedRefused 29 = .ok (.aload_n 0, 1) := by decide +kernel
theorem dX7_showedRefused_30 : decode cX7_showedRefused 30 = .ok (.iconst 1, 1) := by decide +kernel
theorem dX7_showedRefused_31 : decode cX7_showedRefused 31 = .ok (.invokevirtual 88, 3) := by decide +kernel
theorem dX7_showedRefused_34 : decode cX7_showedRefused 34 = .ok (.ireturn, 1) := by decide +kernel
theorem dX7_showedRefused_35 : decode cX7_showedRefused 35 = .ok (.aload_n 0, 1) := by decide +kernel
theorem dX7_showedRefused_36 : decode cX7_showedRefused 36 = .ok (.getfield 11, 3) := by decide +kernel
theorem dX7_showedRefused_39 : decode cX7_showedRefused 39 = .ok (.iload_n 2, 1) := by decide +kernel
theorem dX7_showedRefused_40 : decode cX7_showedRefused 40 = .ok (.aaload, 1) := by decide +kernel
theorem dX7_showedRefused_41 : decode cX7_showedRefused 41 = .ok (.getfield 109, 3) := by decide +kernel
theorem dX7_showedRefused_44 : decode cX7_showedRefused 44 = .ok (.ifCond .eq 17, 3) := by decide +kernel
theorem dX7_showedRefused_47 : decode cX7_showedRefused 47 = .ok (.aload_n 0, 1) := by decide +kernel
theorem dX7_showedRefused_48 : decode cX7_showedRefused 48 = .ok (.getfield 11, 3) := by decide +kernel
theorem dX7_showedRefused_51 : decode cX7_showedRefused 51 = .ok (.iload_n 2, 1) := by decide +kernel
theorem dX7_showedRefused_52 : decode cX7_showedRefused 52 = .ok (.aaload, 1) := by decide +kernel
theorem dX7_showedRefused_53 : decode cX7_showedRefused 53 = .ok (.getfield 109, 3) := by decide +kernel
theorem dX7_showedRefused_56 : decode cX7_showedRefused 56 = .ok (.bipush 20, 2) := by decide +kernel
theorem dX7_showedRefused_58 : decode cX7_showedRefused 58 = .ok (.if_icmp .le 9, 3) := by decide +kernel
theorem dX7_showedRefused_61 : decode cX7_showedRefused 61 = .ok (.aload_n 0, 1) := by decide +kernel
theorem dX7_showedRefused_62 : decode cX7_showedRefused 62 = .ok (.iconst 5, 1) := by decide +kernel
theorem dX7_showedRefused_63 : decode cX7_showedRefused 63 = .ok (.invokevirtual 88, 3) := by decide +kernel
theorem dX7_showedRefused_66 : decode cX7_showedRefused 66 = .ok (.ireturn, 1) := by decide +kernel
theorem dX7_showedRefused_67 : decode cX7_showedRefused 67 = .ok (.aload_n 0, 1) := by decide +kernel
theorem dX7_showedRefused_68 : decode cX7_showedRefused 68 = .ok (.getfield 11, 3) := by decide +kernel
theorem dX7_showedRefused_71 : decode cX7_showedRefused 71 = .ok (.iload_n 2, 1) := by decide +kernel
theorem dX7_showedRefused_72 : decode cX7_showedRefused 72 = .ok (.aaload, 1) := by decide +kernel
theorem dX7_showedRefused_73 : decode cX7_showedRefused 73 = .ok (.bipush 9, 2) := by decide +kernel
theorem dX7_showedRefused_75 : decode cX7_showedRefused 75 = .ok (.invokevirtual 319, 3) := by decide +kernel
theorem dX7_showedRefused_78 : decode cX7_showedRefused 78 = .ok (.ifCond .eq 7, 3) := by decide +kernel
theorem dX7_showedRefused_81 : decode cX7_showedRefused 81 = .ok (.iconst 0, 1) := by decide +kernel
theorem dX7_showedRefused_82 : decode cX7_showedRefused 82 = .ok (.goto 8, 3) := by decide +kernel
theorem dX7_showedRefused_85 : decode cX7_showedRefused 85 = .ok (.aload_n 0, 1) := by decide +kernel
theorem dX7_showedRefused_86 : decode cX7_showedRefused 86 = .ok (.iconst 3, 1) := by decide +kernel
theorem dX7_showedRefused_87 : decode cX7_showedRefused 87 = .ok (.invokevirtual 88, 3) := by decide +kernel
theorem dX7_showedRefused_90 : decode cX7_showedRefused 90 = .ok (.ireturn, 1) := by decide +kernel
theorem dX7_drumFact_0 : decode cX7_drumFact 0 = .ok (.iload_n 2, 1) := by decide +kernel
theorem dX7_drumFact_1 : decode cX7_drumFact 1 = .ok (.tableswitch 113 0 5 #[39, 49, 59, 69, 79, 96], 39) := by decide +kernel
theorem dX7_drumFact_40 : decode cX7_drumFact 40 = .ok (.aload_n 0, 1) := by decide +kernel
theorem dX7_drumFact_41 : decode cX7_drumFact 41 = .ok (.getfield 28, 3) := by decide +kernel
theorem dX7_drumFact_44 : decode cX7_drumFact 44 = .ok (.getfield 158, 3) := by decide +kernel
theorem dX7_drumFact_47 : decode cX7_drumFact 47 = .ok (.iload_n 1, 1) := by decide +kernel
theorem dX7_drumFact_48 : decode cX7_drumFact 48 = .ok (.iaload, 1) := by decide +kernel
theorem dX7_drumFact_49 : decode cX7_drumFact 49 = .ok (.ireturn, 1) := by decide +kernel
theorem dX7_drumFact_50 : decode cX7_drumFact 50 = .ok (.aload_n 0, 1) := by decide +kernel
theorem dX7_drumFact_51 : decode cX7_drumFact 51 = .ok (.getfield 28, 3) := by decide +kernel
theorem dX7_drumFact_54 : decode cX7_drumFact 54 = .ok (.getfield 170, 3) := by decide +kernel
theorem dX7_drumFact_57 : decode cX7_drumFact 57 = .ok (.iload_n 1, 1) := by decide +kernel
theorem dX7_drumFact_58 : decode cX7_drumFact 58 = .ok (.iaload, 1) := by decide +kernel
theorem dX7_drumFact_59 : decode cX7_drumFact 59 = .ok (.ireturn, 1) := by decide +kernel
theorem dX7_drumFact_60 : decode cX7_drumFact 60 = .ok (.aload_n 0, 1) := by decide +kernel
theorem dX7_drumFact_61 : decode cX7_drumFact 61 = .ok (.getfield 28, 3) := by decide +kernel
theorem dX7_drumFact_64 : decode cX7_drumFact 64 = .ok (.getfield 173, 3) := by decide +kernel
theorem dX7_drumFact_67 : decode cX7_drumFact 67 = .ok (.iload_n 1, 1) := by decide +kernel
theorem dX7_drumFact_68 : decode cX7_drumFact 68 = .ok (.iaload, 1) := by decide +kernel
theorem dX7_drumFact_69 : decode cX7_drumFact 69 = .ok (.ireturn, 1) := by decide +kernel
theorem dX7_drumFact_70 : decode cX7_drumFact 70 = .ok (.aload_n 0, 1) := by decide +kernel
theorem dX7_drumFact_71 : decode cX7_drumFact 71 = .ok (.getfield 28, 3) := by decide +kernel
theorem dX7_drumFact_74 : decode cX7_drumFact 74 = .ok (.getfield 322, 3) := by decide +kernel
theorem dX7_drumFact_77 : decode cX7_drumFact 77 = .ok (.iload_n 1, 1) := by decide +kernel
theorem dX7_drumFact_78 : decode cX7_drumFact 78 = .ok (.iaload, 1) := by decide +kernel
theorem dX7_drumFact_79 : decode cX7_drumFact 79 = .ok (.ireturn, 1) := by decide +kernel
theorem dX7_drumFact_80 : decode cX7_drumFact 80 = .ok (.aload_n 0, 1) := by decide +kernel
theorem dX7_drumFact_81 : decode cX7_drumFact 81 = .ok (.getfield 28, 3) := by decide +kernel
theorem dX7_drumFact_84 : decode cX7_drumFact 84 = .ok (.iload_n 1, 1) := by decide +kernel
theorem dX7_drumFact_85 : decode cX7_drumFact 85 = .ok (.invokevirtual 325, 3) := by decide +kernel
theorem dX7_drumFact_88 : decode cX7_drumFact 88 = .ok (.ifCond .eq 7, 3) := by decide +kernel
theorem dX7_drumFact_91 : decode cX7_drumFact 91 = .ok (.iconst 1, 1) := by decide +kernel
theorem dX7_drumFact_92 : decode cX7_drumFact 92 = .ok (.goto 4, 3) := by decide +kernel
theorem dX7_drumFact_95 : decode cX7_drumFact 95 = .ok (.iconst 0, 1) := by decide +kernel
theorem dX7_drumFact_96 : decode cX7_drumFact 96 = .ok (.ireturn, 1) := by decide +kernel
theorem dX7_drumFact_97 : decode cX7_drumFact 97 = .ok (.aload_n 0, 1) := by decide +kernel
theorem dX7_drumFact_98 : decode cX7_drumFact 98 = .ok (.getfield 28, 3) := by decide +kernel
theorem dX7_drumFact_101 : decode cX7_drumFact 101 = .ok (.iload_n 1, 1) := by decide +kernel
theorem dX7_drumFact_102 : decode cX7_drumFact 102 = .ok (.invokevirtual 328, 3) := by decide +kernel
theorem dX7_drumFact_105 : decode cX7_drumFact 105 = .ok (.ifCond .eq 7, 3) := by decide +kernel
theorem dX7_drumFact_108 : decode cX7_drumFact 108 = .ok (.iconst 1, 1) := by decide +kernel
theorem dX7_drumFact_109 : decode cX7_drumFact 109 = .ok (.goto 4, 3) := by decide +kernel
theorem dX7_drumFact_112 : decode cX7_drumFact 112 = .ok (.iconst 0, 1) := by decide +kernel
theorem dX7_drumFact_113 : decode cX7_drumFact 113 = .ok (.ireturn, 1) := by decide +kernel
theorem dX7_drumFact_114 : decode cX7_drumFact 114 = .ok (.aload_n 0, 1) := by decide +kernel
theorem dX7_drumFact_115 : decode cX7_drumFact 115 = .ok (.getfield 28, 3) := by decide +kernel
theorem dX7_drumFact_118 : decode cX7_drumFact 118 = .ok (.iload_n 1, 1) := by decide +kernel
theorem dX7_drumFact_119 : decode cX7_drumFact 119 = .ok (.invokevirtual 181, 3) := by decide +kernel
theorem dX7_drumFact_122 : decode cX7_drumFact 122 = .ok (.ireturn, 1) := by decide +kernel
theorem dX7_countOf_0 : decode cX7_countOf 0 = .ok (.iload_n 1, 1) := by decide +kernel
theorem dX7_countOf_1 : decode cX7_countOf 1 = .ok (.tableswitch 151 0 11 #[63, 71, 79, 87, 95, 103, 111, 119, 127, 132, 137, 142], 63) := by decide +kernel
theorem dX7_countOf_64 : decode cX7_countOf 64 = .ok (.aload_n 0, 1) := by decide +kernel
theorem dX7_countOf_65 : decode cX7_countOf 65 = .ok (.getfield 28, 3) := by decide +kernel
theorem dX7_countOf_68 : decode cX7_countOf 68 = .ok (.getfield 149, 3) := by decide +kernel
theorem dX7_countOf_71 : decode cX7_countOf 71 = .ok (.ireturn, 1) := by decide +kernel
theorem dX7_countOf_72 : decode cX7_countOf 72 = .ok (.aload_n 0, 1) := by decide +kernel
theorem dX7_countOf_73 : decode cX7_countOf 73 = .ok (.getfield 28, 3) := by decide +kernel
theorem dX7_countOf_76 : decode cX7_countOf 76 = .ok (.getfield 184, 3) := by decide +kernel
theorem dX7_countOf_79 : decode cX7_countOf 79 = .ok (.ireturn, 1) := by decide +kernel
theorem dX7_countOf_80 : decode cX7_countOf 80 = .ok (.aload_n 0, 1) := by decide +kernel
theorem dX7_countOf_81 : decode cX7_countOf 81 = .ok (.getfield 40, 3) := by decide +kernel
theorem dX7_countOf_84 : decode cX7_countOf 84 = .ok (.getfield 80, 3) := by decide +kernel
theorem dX7_countOf_87 : decode cX7_countOf 87 = .ok (.ireturn, 1) := by decide +kernel
theorem dX7_countOf_88 : decode cX7_countOf 88 = .ok (.aload_n 0, 1) := by decide +kernel
theorem dX7_countOf_89 : decode cX7_countOf 89 = .ok (.getfield 28, 3) := by decide +kernel
theorem dX7_countOf_92 : decode cX7_countOf 92 = .ok (.invokevirtual 214, 3) := by decide +kernel
theorem dX7_countOf_95 : decode cX7_countOf 95 = .ok (.ireturn, 1) := by decide +kernel
theorem dX7_countOf_96 : decode cX7_countOf 96 = .ok (.aload_n 0, 1) := by decide +kernel
theorem dX7_countOf_97 : decode cX7_countOf 97 = .ok (.getfield 28, 3) := by decide +kernel
theorem dX7_countOf_100 : decode cX7_countOf 100 = .ok (.getfield 190, 3) := by decide +kernel
theorem dX7_countOf_103 : decode cX7_countOf 103 = .ok (.ireturn, 1) := by decide +kernel
theorem dX7_countOf_104 : decode cX7_countOf 104 = .ok (.aload_n 0, 1) := by decide +kernel
theorem dX7_countOf_105 : decode cX7_countOf 105 = .ok (.getfield 28, 3) := by decide +kernel
theorem dX7_countOf_108 : decode cX7_countOf 108 = .ok (.getfield 200, 3) := by decide +kernel
theorem dX7_countOf_111 : decode cX7_countOf 111 = .ok (.ireturn, 1) := by decide +kernel
theorem dX7_countOf_112 : decode cX7_countOf 112 = .ok (.aload_n 0, 1) := by decide +kernel
theorem dX7_countOf_113 : decode cX7_countOf 113 = .ok (.getfield 28, 3) := by decide +kernel
theorem dX7_countOf_116 : decode cX7_countOf 116 = .ok (.invokevirtual 331, 3) := by decide +kernel
theorem dX7_countOf_119 : decode cX7_countOf 119 = .ok (.ireturn, 1) := by decide +kernel
theorem dX7_countOf_120 : decode cX7_countOf 120 = .ok (.aload_n 0, 1) := by decide +kernel
theorem dX7_countOf_121 : decode cX7_countOf 121 = .ok (.getfield 28, 3) := by decide +kernel
theorem dX7_countOf_124 : decode cX7_countOf 124 = .ok (.getfield 197, 3) := by decide +kernel
theorem dX7_countOf_127 : decode cX7_countOf 127 = .ok (.ireturn, 1) := by decide +kernel
theorem dX7_countOf_128 : decode cX7_countOf 128 = .ok (.aload_n 0, 1) := by decide +kernel
theorem dX7_countOf_129 : decode cX7_countOf 129 = .ok (.invokevirtual 334, 3) := by decide +kernel
theorem dX7_countOf_132 : decode cX7_countOf 132 = .ok (.ireturn, 1) := by decide +kernel
theorem dX7_countOf_133 : decode cX7_countOf 133 = .ok (.aload_n 0, 1) := by decide +kernel
theorem dX7_countOf_134 : decode cX7_countOf 134 = .ok (.invokevirtual 337, 3) := by decide +kernel
theorem dX7_countOf_137 : decode cX7_countOf 137 = .ok (.ireturn, 1) := by decide +kernel
theorem dX7_countOf_138 : decode cX7_countOf 138 = .ok (.aload_n 0, 1) := by decide +kernel
theorem dX7_countOf_139 : decode cX7_countOf 139 = .ok (.invokevirtual 340, 3) := by decide +kernel
theorem dX7_countOf_142 : decode cX7_countOf 142 = .ok (.ireturn, 1) := by decide +kernel
theorem dX7_countOf_143 : decode cX7_countOf 143 = .ok (.aload_n 0, 1) := by decide +kernel
theorem dX7_countOf_144 : decode cX7_countOf 144 = .ok (.getfield 28, 3) := by decide +kernel
theorem dX7_countOf_147 : decode cX7_countOf 147 = .ok (.iconst 1, 1) := by decide +kernel
theorem dX7_countOf_148 : decode cX7_countOf 148 = .ok (.invokevirtual 343, 3) := by decide +kernel
theorem dX7_countOf_151 : decode cX7_countOf 151 = .ok (.ireturn, 1) := by decide +kernel
theorem dX7_countOf_152 : decode cX7_countOf 152 = .ok (.aload_n 0, 1) := by decide +kernel
theorem dX7_countOf_153 : decode cX7_countOf 153 = .ok (.getfield 28, 3) := by decide +kernel
theorem dX7_countOf_156 : decode cX7_countOf 156 = .ok (.iconst 2, 1) := by decide +kernel
theorem dX7_countOf_157 : decode cX7_countOf 157 = .ok (.invokevirtual 343, 3) := by decide +kernel
theorem dX7_countOf_160 : decode cX7_countOf 160 = .ok (.ireturn, 1) := by decide +kernel
theorem dX7_rowsThere_0 : decode cX7_rowsThere 0 = .ok (.iconst 0, 1) := by decide +kernel
theorem dX7_rowsThere_1 : decode cX7_rowsThere 1 = .ok (.istore_n 1, 1) := by decide +kernel
theorem dX7_rowsThere_2 : decode cX7_rowsThere 2 = .ok (.iconst 0, 1) := by decide +kernel
theorem dX7_rowsThere_3 : decode cX7_rowsThere 3 = .ok (.istore_n 2, 1) := by decide +kernel
theorem dX7_rowsThere_4 : decode cX7_rowsThere 4 = .ok (.iload_n 2, 1) := by decide +kernel
theorem dX7_rowsThere_5 : decode cX7_rowsThere 5 = .ok (.bipush 6, 2) := by decide +kernel
theorem dX7_rowsThere_7 : decode cX7_rowsThere 7 = .ok (.if_icmp .ge 29, 3) := by decide +kernel
theorem dX7_rowsThere_10 : decode cX7_rowsThere 10 = .ok (.iload_n 1, 1) := by decide +kernel
theorem dX7_rowsThere_11 : decode cX7_rowsThere 11 = .ok (.aload_n 0, 1) := by decide +kernel
theorem dX7_rowsThere_12 : decode cX7_rowsThere 12 = .ok (.getfield 11, 3) := by decide +kernel
theorem dX7_rowsThere_15 : decode cX7_rowsThere 15 = .ok (.iload_n 2, 1) := by decide +kernel
theorem dX7_rowsThere_16 : decode cX7_rowsThere 16 = .ok (.aaload, 1) := by decide +kernel
theorem dX7_rowsThere_17 : decode cX7_rowsThere 17 = .ok (.invokevirtual 110, 3) := by decide +kernel
theorem dX7_rowsThere_20 : decode cX7_rowsThere 20 = .ok (.ifCond .eq 7, 3) := by decide +kernel
theorem dX7_rowsThere_23 : decode cX7_rowsThere 23 = .ok (.iconst 0, 1) := by decide +kernel
theorem dX7_rowsThere_24 : decode cX7_rowsThere 24 = .ok (.goto 4, 3) := by decide +kernel
theorem dX7_rowsThere_27 : decode cX7_rowsThere 27 = .ok (.iconst 1, 1) := by decide +kernel
theorem dX7_rowsThere_28 : decode cX7_rowsThere 28 = .ok (.iadd, 1) := by decide +kernel
theorem dX7_rowsThere_29 : decode cX7_rowsThere 29 = .ok (.istore_n 1, 1) := by decide +kernel
theorem dX7_rowsThere_30 : decode cX7_rowsThere 30 = .ok (.iinc 2 1, 3) := by decide +kernel
theorem dX7_rowsThere_33 : decode cX7_rowsThere 33 = .ok (.goto (-29), 3) := by decide +kernel
theorem dX7_rowsThere_36 : decode cX7_rowsThere 36 = .ok (.iload_n 1, 1) := by decide +kernel
theorem dX7_rowsThere_37 : decode cX7_rowsThere 37 = .ok (.ireturn, 1) := by decide +kernel
theorem dX7_textsThere_0 : decode cX7_textsThere 0 = .ok (.iconst 0, 1) := by decide +kernel
theorem dX7_textsThere_1 : decode cX7_textsThere 1 = .ok (.istore_n 1, 1) := by decide +kernel
theorem dX7_textsThere_2 : decode cX7_textsThere 2 = .ok (.iconst 0, 1) := by decide +kernel
theorem dX7_textsThere_3 : decode cX7_textsThere 3 = .ok (.istore_n 2, 1) := by decide +kernel
theorem dX7_textsThere_4 : decode cX7_textsThere 4 = .ok (.iload_n 2, 1) := by decide +kernel
theorem dX7_textsThere_5 : decode cX7_textsThere 5 = .ok (.iconst 4, 1) := by decide +kernel
theorem dX7_textsThere_6 : decode cX7_textsThere 6 = .ok (.if_icmp .ge 29, 3) := by decide +kernel
theorem dX7_textsThere_9 : decode cX7_textsThere 9 = .ok (.iload_n 1, 1) := by decide +kernel
theorem dX7_textsThere_10 : decode cX7_textsThere 10 = .ok (.aload_n 0, 1) := by decide +kernel
theorem dX7_textsThere_11 : decode cX7_textsThere 11 = .ok (.getfield 17, 3) := by decide +kernel
theorem dX7_textsThere_14 : decode cX7_textsThere 14 = .ok (.iload_n 2, 1) := by decide +kernel
theorem dX7_textsThere_15 : decode cX7_textsThere 15 = .ok (.aaload, 1) := by decide +kernel
theorem dX7_textsThere_16 : decode cX7_textsThere 16 = .ok (.invokevirtual 315, 3) := by decide +kernel
theorem dX7_textsThere_19 : decode cX7_textsThere 19 = .ok (.ifCond .eq 7, 3) := by decide +kernel
theorem dX7_textsThere_22 : decode cX7_textsThere 22 = .ok (.iconst 0, 1) := by decide +kernel
theorem dX7_textsThere_23 : decode cX7_textsThere 23 = .ok (.goto 4, 3) := by decide +kernel
theorem dX7_textsThere_26 : decode cX7_textsThere 26 = .ok (.iconst 1, 1) := by decide +kernel
theorem dX7_textsThere_27 : decode cX7_textsThere 27 = .ok (.iadd, 1) := by decide +kernel
theorem dX7_textsThere_28 : decode cX7_textsThere 28 = .ok (.istore_n 1, 1) := by decide +kernel
theorem dX7_textsThere_29 : decode cX7_textsThere 29 = .ok (.iinc 2 1, 3) := by decide +kernel
theorem dX7_textsThere_32 : decode cX7_textsThere 32 = .ok (.goto (-28), 3) := by decide +kernel
theorem dX7_textsThere_35 : decode cX7_textsThere 35 = .ok (.iload_n 1, 1) := by decide +kernel
theorem dX7_textsThere_36 : decode cX7_textsThere 36 = .ok (.ireturn, 1) := by decide +kernel
theorem dX7_keptThere_0 : decode cX7_keptThere 0 = .ok (.iconst 0, 1) := by decide +kernel
theorem dX7_keptThere_1 : decode cX7_keptThere 1 = .ok (.istore_n 1, 1) := by decide +kernel
theorem dX7_keptThere_2 : decode cX7_keptThere 2 = .ok (.iconst 0, 1) := by decide +kernel
theorem dX7_keptThere_3 : decode cX7_keptThere 3 = .ok (.istore_n 2, 1) := by decide +kernel
theorem dX7_keptThere_4 : decode cX7_keptThere 4 = .ok (.iload_n 2, 1) := by decide +kernel
theorem dX7_keptThere_5 : decode cX7_keptThere 5 = .ok (.iconst 3, 1) := by decide +kernel
theorem dX7_keptThere_6 : decode cX7_keptThere 6 = .ok (.if_icmp .ge 30, 3) := by decide +kernel
theorem dX7_keptThere_9 : decode cX7_keptThere 9 = .ok (.iload_n 1, 1) := by decide +kernel
theorem dX7_keptThere_10 : decode cX7_keptThere 10 = .ok (.aload_n 0, 1) := by decide +kernel
theorem dX7_keptThere_11 : decode cX7_keptThere 11 = .ok (.getfield 44, 3) := by decide +kernel
theorem dX7_keptThere_14 : decode cX7_keptThere 14 = .ok (.iload_n 2, 1) := by decide +kernel
theorem dX7_keptThere_15 : decode cX7_keptThere 15 = .ok (.aaload, 1) := by decide +kernel
theorem dX7_keptThere_16 : decode cX7_keptThere 16 = .ok (.getfield 80, 3) := by decide +kernel
theorem dX7_keptThere_19 : decode cX7_keptThere 19 = .ok (.iconst (-1), 1) := by decide +kernel
theorem dX7_keptThere_20 : decode cX7_keptThere 20 = .ok (.if_icmp .ne 7, 3) := by decide +kernel
theorem dX7_keptThere_23 : decode cX7_keptThere 23 = .ok (.iconst 0, 1) := by decide +kernel
theorem dX7_keptThere_24 : decode cX7_keptThere 24 = .ok (.goto 4, 3) := by decide +kernel
theorem dX7_keptThere_27 : decode cX7_keptThere 27 = .ok (.iconst 1, 1) := by decide +kernel
theorem dX7_keptThere_28 : decode cX7_keptThere 28 = .ok (.iadd, 1) := by decide +kernel
theorem dX7_keptThere_29 : decode cX7_keptThere 29 = .ok (.istore_n 1, 1) := by decide +kernel
theorem dX7_keptThere_30 : decode cX7_keptThere 30 = .ok (.iinc 2 1, 3) := by decide +kernel
theorem dX7_keptThere_33 : decode cX7_keptThere 33 = .ok (.goto (-29), 3) := by decide +kernel
theorem dX7_keptThere_36 : decode cX7_keptThere 36 = .ok (.iload_n 1, 1) := by decide +kernel
theorem dX7_keptThere_37 : decode cX7_keptThere 37 = .ok (.ireturn, 1) := by decide +kernel
theorem dX7_dueTicks_0 : decode cX7_dueTicks 0 = .ok (.aload_n 0, 1) := by decide +kernel
theorem dX7_dueTicks_1 : decode cX7_dueTicks 1 = .ok (.getfield 31, 3) := by decide +kernel
theorem dX7_dueTicks_4 : decode cX7_dueTicks 4 = .ok (.aload_n 0, 1) := by decide +kernel
theorem dX7_dueTicks_5 : decode cX7_dueTicks 5 = .ok (.getfield 28, 3) := by decide +kernel
theorem dX7_dueTicks_8 : decode cX7_dueTicks 8 = .ok (.invokevirtual 142, 3) := by decide +kernel
theorem dX7_dueTicks_11 : decode cX7_dueTicks 11 = .ok (.aload_n 0, 1) := by decide +kernel
theorem dX7_dueTicks_12 : decode cX7_dueTicks 12 = .ok (.getfield 31, 3) := by decide +kernel
theorem dX7_dueTicks_15 : decode cX7_dueTicks 15 = .ok (.getfield 158, 3) := by decide +kernel
theorem dX7_dueTicks_18 : decode cX7_dueTicks 18 = .ok (.iload_n 1, 1) := by decide +kernel
theorem dX7_dueTicks_19 : decode cX7_dueTicks 19 = .ok (.iload_n 2, 1) := by decide +kernel
theorem dX7_dueTicks_20 : decode cX7_dueTicks 20 = .ok (.iastore, 1) := by decide +kernel
theorem dX7_dueTicks_21 : decode cX7_dueTicks 21 = .ok (.iconst 0, 1) := by decide +kernel
theorem dX7_dueTicks_22 : decode cX7_dueTicks 22 = .ok (.istore_n 3, 1) := by decide +kernel
theorem dX7_dueTicks_23 : decode cX7_dueTicks 23 = .ok (.iconst 0, 1) := by decide +kernel
theorem dX7_dueTicks_24 : decode cX7_dueTicks 24 = .ok (.istore 4, 2) := by decide +kernel
theorem dX7_dueTicks_26 : decode cX7_dueTicks 26 = .ok (.iload 4, 2) := by decide +kernel
theorem dX7_dueTicks_28 : decode cX7_dueTicks 28 = .ok (.bipush 8, 2) := by decide +kernel
theorem dX7_dueTicks_30 : decode cX7_dueTicks 30 = .ok (.if_icmp .ge 41, 3) := by decide +kernel
theorem dX7_dueTicks_33 : decode cX7_dueTicks 33 = .ok (.iload_n 3, 1) := by decide +kernel
theorem dX7_dueTicks_34 : decode cX7_dueTicks 34 = .ok (.aload_n 0, 1) := by decide +kernel
theorem dX7_dueTicks_35 : decode cX7_dueTicks 35 = .ok (.getfield 31, 3) := by decide +kernel
theorem dX7_dueTicks_38 : decode cX7_dueTicks 38 = .ok (.iload_n 1, 1) := by decide +kernel
theorem dX7_dueTicks_39 : decode cX7_dueTicks 39 = .ok (.invokevirtual 346, 3) := by decide +kernel
theorem dX7_dueTicks_42 : decode cX7_dueTicks 42 = .ok (.ifCond .eq 7, 3) := by decide +kernel
theorem dX7_dueTicks_45 : decode cX7_dueTicks 45 = .ok (.iconst 1, 1) := by decide +kernel
theorem dX7_dueTicks_46 : decode cX7_dueTicks 46 = .ok (.goto 4, 3) := by decide +kernel
theorem dX7_dueTicks_49 : decode cX7_dueTicks 49 = .ok (.iconst 0, 1) := by decide +kernel
theorem dX7_dueTicks_50 : decode cX7_dueTicks 50 = .ok (.iadd, 1) := by decide +kernel
theorem dX7_dueTicks_51 : decode cX7_dueTicks 51 = .ok (.istore_n 3, 1) := by decide +kernel
theorem dX7_dueTicks_52 : decode cX7_dueTicks 52 = .ok (.aload_n 0, 1) := by decide +kernel
theorem dX7_dueTicks_53 : decode cX7_dueTicks 53 = .ok (.getfield 31, 3) := by decide +kernel
theorem dX7_dueTicks_56 : decode cX7_dueTicks 56 = .ok (.dup, 1) := by decide +kernel
theorem dX7_dueTicks_57 : decode cX7_dueTicks 57 = .ok (.getfield 184, 3) := by decide +kernel
theorem dX7_dueTicks_60 : decode cX7_dueTicks 60 = .ok (.iconst 1, 1) := by decide +kernel
theorem dX7_dueTicks_61 : decode cX7_dueTicks 61 = .ok (.iadd, 1) := by decide +kernel
theorem dX7_dueTicks_62 : decode cX7_dueTicks 62 = .ok (.putfield 184, 3) := by decide +kernel
theorem dX7_dueTicks_65 : decode cX7_dueTicks 65 = .ok (.iinc 4 1, 3) := by decide +kernel
theorem dX7_dueTicks_68 : decode cX7_dueTicks 68 = .ok (.goto (-42), 3) := by decide +kernel
theorem dX7_dueTicks_71 : decode cX7_dueTicks 71 = .ok (.iload_n 3, 1) := by decide +kernel
theorem dX7_dueTicks_72 : decode cX7_dueTicks 72 = .ok (.ireturn, 1) := by decide +kernel
theorem dX7_figuresNeverShown_0 : decode cX7_figuresNeverShown 0 = .ok (.aload_n 0, 1) := by decide +kernel
theorem dX7_figuresNeverShown_1 : decode cX7_figuresNeverShown 1 = .ok (.getfield 31, 3) := by decide +kernel
theorem dX7_figuresNeverShown_4 : decode cX7_figuresNeverShown 4 = .ok (.aload_n 0, 1) := by decide +kernel
theorem dX7_figuresNeverShown_5 : decode cX7_figuresNeverShown 5 = .ok (.getfield 28, 3) := by decide +kernel
theorem dX7_figuresNeverShown_8 : decode cX7_figuresNeverShown 8 = .ok (.invokevirtual 142, 3) := by decide +kernel
theorem dX7_figuresNeverShown_11 : decode cX7_figuresNeverShown 11 = .ok (.aload_n 0, 1) := by decide +kernel
theorem dX7_figuresNeverShown_12 : decode cX7_figuresNeverShown 12 = .ok (.getfield 31, 3) := by decide +kernel
theorem dX7_figuresNeverShown_15 : decode cX7_figuresNeverShown 15 = .ok (.getfield 170, 3) := by decide +kernel
theorem dX7_figuresNeverShown_18 : decode cX7_figuresNeverShown 18 = .ok (.iload_n 1, 1) := by decide +kernel
theorem dX7_figuresNeverShown_19 : decode cX7_figuresNeverShown 19 = .ok (.iconst 0, 1) := by decide +kernel
theorem dX7_figuresNeverShown_20 : decode cX7_figuresNeverShown 20 = .ok (.iastore, 1) := by decide +kernel
theorem dX7_figuresNeverShown_21 : decode cX7_figuresNeverShown 21 = .ok (.iconst 1, 1) := by decide +kernel
theorem dX7_figuresNeverShown_22 : decode cX7_figuresNeverShown 22 = .ok (.istore_n 2, 1) := by decide +kernel
theorem dX7_figuresNeverShown_23 : decode cX7_figuresNeverShown 23 = .ok (.iconst 0, 1) := by decide +kernel
theorem dX7_figuresNeverShown_24 : decode cX7_figuresNeverShown 24 = .ok (.istore_n 3, 1) := by decide +kernel
theorem dX7_figuresNeverShown_25 : decode cX7_figuresNeverShown 25 = .ok (.iload_n 3, 1) := by decide +kernel
theorem dX7_figuresNeverShown_26 : decode cX7_figuresNeverShown 26 = .ok (.bipush 10, 2) := by decide +kernel
theorem dX7_figuresNeverShown_28 : decode cX7_figuresNeverShown 28 = .ok (.if_icmp .ge 40, 3) := by decide +kernel
theorem dX7_figuresNeverShown_31 : decode cX7_figuresNeverShown 31 = .ok (.aload_n 0, 1) := by decide +kernel
theorem dX7_figuresNeverShown_32 : decode cX7_figuresNeverShown 32 = .ok (.getfield 31, 3) := by decide +kernel
theorem dX7_figuresNeverShown_35 : decode cX7_figuresNeverShown 35 = .ok (.getfield 170, 3) := by decide +kernel
theorem dX7_figuresNeverShown_38 : decode cX7_figuresNeverShown 38 = .ok (.iload_n 1, 1) := by decide +kernel
theorem dX7_figuresNeverShown_39 : decode cX7_figuresNeverShown 39 = .ok (.aload_n 0, 1) := by decide +kernel
theorem dX7_figuresNeverShown_40 : decode cX7_figuresNeverShown 40 = .ok (.getfield 31, 3) := by decide +kernel
theorem dX7_figuresNeverShown_43 : decode cX7_figuresNeverShown 43 = .ok (.iload_n 1, 1) := by decide +kernel
theorem dX7_figuresNeverShown_44 : decode cX7_figuresNeverShown 44 = .ok (.invokevirtual 181, 3) := by decide +kernel
theorem dX7_figuresNeverShown_47 : decode cX7_figuresNeverShown 47 = .ok (.iastore, 1) := by decide +kernel
theorem dX7_figuresNeverShown_48 : decode cX7_figuresNeverShown 48 = .ok (.iload_n 2, 1) := by decide +kernel
theorem dX7_figuresNeverShown_49 : decode cX7_figuresNeverShown 49 = .ok (.iconst 1, 1) := by decide +kernel
theorem dX7_figuresNeverShown_50 : decode cX7_figuresNeverShown 50 = .ok (.aload_n 0, 1) := by decide +kernel
theorem dX7_figuresNeverShown_51 : decode cX7_figuresNeverShown 51 = .ok (.getfield 31, 3) := by decide +kernel
theorem dX7_figuresNeverShown_54 : decode cX7_figuresNeverShown 54 = .ok (.getfield 170, 3) := by decide +kernel
theorem dX7_figuresNeverShown_57 : decode cX7_figuresNeverShown 57 = .ok (.iload_n 1, 1) := by decide +kernel
theorem dX7_figuresNeverShown_58 : decode cX7_figuresNeverShown 58 = .ok (.iaload, 1) := by decide +kernel
theorem dX7_figuresNeverShown_59 : decode cX7_figuresNeverShown 59 = .ok (.ishl, 1) := by decide +kernel
theorem dX7_figuresNeverShown_60 : decode cX7_figuresNeverShown 60 = .ok (.ior, 1) := by decide +kernel
theorem dX7_figuresNeverShown_61 : decode cX7_figuresNeverShown 61 = .ok (.istore_n 2, 1) := by decide +kernel
theorem dX7_figuresNeverShown_62 : decode cX7_figuresNeverShown 62 = .ok (.iinc 3 1, 3) := by decide +kernel
theorem dX7_figuresNeverShown_65 : decode cX7_figuresNeverShown 65 = .ok (.goto (-40), 3) := by decide +kernel
theorem dX7_figuresNeverShown_68 : decode cX7_figuresNeverShown 68 = .ok (.bipush 10, 2) := by decide +kernel
theorem dX7_figuresNeverShown_70 : decode cX7_figuresNeverShown 70 = .ok (.iload_n 2, 1) := by decide +kernel
theorem dX7_figuresNeverShown_71 : decode cX7_figuresNeverShown 71 = .ok (.invokestatic 203, 3) := by decide +kernel
theorem dX7_figuresNeverShown_74 : decode cX7_figuresNeverShown 74 = .ok (.isub, 1) := by decide +kernel
theorem dX7_figuresNeverShown_75 : decode cX7_figuresNeverShown 75 = .ok (.ireturn, 1) := by decide +kernel
theorem dX7_isOf_0 : decode cX7_isOf 0 = .ok (.iload_n 0, 1) := by decide +kernel
theorem dX7_isOf_1 : decode cX7_isOf 1 = .ok (.iload_n 1, 1) := by decide +kernel
theorem dX7_isOf_2 : decode cX7_isOf 2 = .ok (.if_icmp .eq 27, 3) := by decide +kernel
theorem dX7_isOf_5 : decode cX7_isOf 5 = .ok (.iload_n 1, 1) := by decide +kernel
theorem dX7_isOf_6 : decode cX7_isOf 6 = .ok (.ifCond .eq 23, 3) := by decide +kernel
theorem dX7_isOf_9 : decode cX7_isOf 9 = .ok (.iload_n 0, 1) := by decide +kernel
theorem dX7_isOf_10 : decode cX7_isOf 10 = .ok (.iconst 4, 1) := by decide +kernel
theorem dX7_isOf_11 : decode cX7_isOf 11 = .ok (.if_icmp .ne 8, 3) := by decide +kernel
theorem dX7_isOf_14 : decode cX7_isOf 14 = .ok (.iload_n 1, 1) := by decide +kernel
theorem dX7_isOf_15 : decode cX7_isOf 15 = .ok (.iconst 1, 1) := by decide +kernel
theorem dX7_isOf_16 : decode cX7_isOf 16 = .ok (.if_icmp .eq 13, 3) := by decide +kernel
theorem dX7_isOf_19 : decode cX7_isOf 19 = .ok (.iload_n 0, 1) := by decide +kernel
theorem dX7_isOf_20 : decode cX7_isOf 20 = .ok (.iconst 5, 1) := by decide +kernel
theorem dX7_isOf_21 : decode cX7_isOf 21 = .ok (.if_icmp .ne 12, 3) := by decide +kernel
theorem dX7_isOf_24 : decode cX7_isOf 24 = .ok (.iload_n 1, 1) := by decide +kernel
theorem dX7_isOf_25 : decode cX7_isOf 25 = .ok (.iconst 2, 1) := by decide +kernel
theorem dX7_isOf_26 : decode cX7_isOf 26 = .ok (.if_icmp .ne 7, 3) := by decide +kernel
theorem dX7_isOf_29 : decode cX7_isOf 29 = .ok (.iconst 1, 1) := by decide +kernel
theorem dX7_isOf_30 : decode cX7_isOf 30 = .ok (.goto 4, 3) := by decide +kernel
theorem dX7_isOf_33 : decode cX7_isOf 33 = .ok (.iconst 0, 1) := by decide +kernel
theorem dX7_isOf_34 : decode cX7_isOf 34 = .ok (.ireturn, 1) := by decide +kernel
theorem dX7_carryOut_0 : decode cX7_carryOut 0 = .ok (.iload_n 1, 1) := by decide +kernel
theorem dX7_carryOut_1 : decode cX7_carryOut 1 = .ok (.iload_n 2, 1) := by decide +kernel
theorem dX7_carryOut_2 : decode cX7_carryOut 2 = .ok (.iload_n 3, 1) := by decide +kernel
theorem dX7_carryOut_3 : decode cX7_carryOut 3 = .ok (.invokestatic 349, 3) := by decide +kernel
theorem dX7_carryOut_6 : decode cX7_carryOut 6 = .ok (.istore 4, 2) := by decide +kernel
theorem dX7_carryOut_8 : decode cX7_carryOut 8 = .ok (.aload_n 0, 1) := by decide +kernel
theorem dX7_carryOut_9 : decode cX7_carryOut 9 = .ok (.getfield 40, 3) := by decide +kernel
theorem dX7_carryOut_12 : decode cX7_carryOut 12 = .ok (.iload 4, 2) := by decide +kernel
theorem dX7_carryOut_14 : decode cX7_carryOut 14 = .ok (.invokevirtual 353, 3) := by decide +kernel
theorem dX7_carryOut_17 : decode cX7_carryOut 17 = .ok (.aload_n 0, 1) := by decide +kernel
theorem dX7_carryOut_18 : decode cX7_carryOut 18 = .ok (.getfield 28, 3) := by decide +kernel
theorem dX7_carryOut_21 : decode cX7_carryOut 21 = .ok (.iload 4, 2) := by decide +kernel
theorem dX7_carryOut_23 : decode cX7_carryOut 23 = .ok (.invokevirtual 356, 3) := by decide +kernel
theorem dX7_carryOut_26 : decode cX7_carryOut 26 = .ok (.return_, 1) := by decide +kernel
theorem dX7_doAgain_0 : decode cX7_doAgain 0 = .ok (.aload_n 0, 1) := by decide +kernel
theorem dX7_doAgain_1 : decode cX7_doAgain 1 = .ok (.getfield 28, 3) := by decide +kernel
theorem dX7_doAgain_4 : decode cX7_doAgain 4 = .ok (.aload_n 0, 1) := by decide +kernel
theorem dX7_doAgain_5 : decode cX7_doAgain 5 = .ok (.getfield 24, 3) := by decide +kernel
theorem dX7_doAgain_8 : decode cX7_doAgain 8 = .ok (.invokevirtual 142, 3) := by decide +kernel
theorem dX7_doAgain_11 : decode cX7_doAgain 11 = .ok (.iconst 0, 1) := by decide +kernel
theorem dX7_doAgain_12 : decode cX7_doAgain 12 = .ok (.istore_n 2, 1) := by decide +kernel
theorem dX7_doAgain_13 : decode cX7_doAgain 13 = .ok (.iload_n 2, 1) := by decide +kernel
theorem dX7_doAgain_14 : decode cX7_doAgain 14 = .ok (.iload_n 1, 1) := by decide +kernel
theorem dX7_doAgain_15 : decode cX7_doAgain 15 = .ok (.if_icmp .ge 25, 3) := by decide +kernel
theorem dX7_doAgain_18 : decode cX7_doAgain 18 = .ok (.aload_n 0, 1) := by decide +kernel
theorem dX7_doAgain_19 : decode cX7_doAgain 19 = .ok (.getfield 28, 3) := by decide +kernel
theorem dX7_doAgain_22 : decode cX7_doAgain 22 = .ok (.aload_n 0, 1) := by decide +kernel
theorem dX7_doAgain_23 : decode cX7_doAgain 23 = .ok (.getfield 40, 3) := by decide +kernel
theorem dX7_doAgain_26 : decode cX7_doAgain 26 = .ok (.getfield 358, 3) := by decide +kernel
theorem dX7_doAgain_29 : decode cX7_doAgain 29 = .ok (.iload_n 2, 1) := by decide +kernel
theorem dX7_doAgain_30 : decode cX7_doAgain 30 = .ok (.iaload, 1) := by decide +kernel
theorem dX7_doAgain_31 : decode cX7_doAgain 31 = .ok (.invokevirtual 356, 3) := by decide +kernel
theorem dX7_doAgain_34 : decode cX7_doAgain 34 = .ok (.iinc 2 1, 3) := by decide +kernel
theorem dX7_doAgain_37 : decode cX7_doAgain 37 = .ok (.goto (-24), 3) := by decide +kernel
theorem dX7_doAgain_40 : decode cX7_doAgain 40 = .ok (.aload_n 0, 1) := by decide +kernel
theorem dX7_doAgain_41 : decode cX7_doAgain 41 = .ok (.getfield 40, 3) := by decide +kernel
theorem dX7_doAgain_44 : decode cX7_doAgain 44 = .ok (.iload_n 1, 1) := by decide +kernel
theorem dX7_doAgain_45 : decode cX7_doAgain 45 = .ok (.putfield 80, 3) := by decide +kernel
theorem dX7_doAgain_48 : decode cX7_doAgain 48 = .ok (.return_, 1) := by decide +kernel
theorem dX7_carryOutLot_0 : decode cX7_carryOutLot 0 = .ok (.aload_n 0, 1) := by decide +kernel
theorem dX7_carryOutLot_1 : decode cX7_carryOutLot 1 = .ok (.getfield 28, 3) := by decide +kernel
theorem dX7_carryOutLot_4 : decode cX7_carryOutLot 4 = .ok (.getfield 149, 3) := by decide +kernel
theorem dX7_carryOutLot_7 : decode cX7_carryOutLot 7 = .ok (.ifCond .ne 4, 3) := by decide +kernel
theorem dX7_carryOutLot_10 : decode cX7_carryOutLot 10 = .ok (.return_, 1) := by decide +kernel
theorem dX7_carryOutLot_11 : decode cX7_carryOutLot 11 = .ok (.lload_n 1, 1) := by decide +kernel
theorem dX7_carryOutLot_12 : decode cX7_carryOutLot 12 = .ok (.ldc2_w 361, 3) := by decide +kernel
theorem dX7_carryOutLot_15 : decode cX7_carryOutLot 15 = .ok (.ldiv, 1) := by decide +kernel
theorem dX7_carryOutLot_16 : decode cX7_carryOutLot 16 = .ok (.aload_n 0, 1) := by decide +kernel
theorem dX7_carryOutLot_17 : decode cX7_carryOutLot 17 = .ok (.getfield 28, 3) := by decide +kernel
theorem dX7_carryOutLot_20 : decode cX7_carryOutLot 20 = .ok (.getfield 149, 3) := by decide +kernel
theorem dX7_carryOutLot_23 : decode cX7_carryOutLot 23 = .ok (.i2l, 1) := by decide +kernel
theorem dX7_carryOutLot_24 : decode cX7_carryOutLot 24 = .ok (.lrem, 1) := by decide +kernel
theorem dX7_carryOutLot_25 : decode cX7_carryOutLot 25 = .ok (.l2i, 1) := by decide +kernel
theorem dX7_carryOutLot_26 : decode cX7_carryOutLot 26 = .ok (.istore_n 3, 1) := by decide +kernel
theorem dX7_carryOutLot_27 : decode cX7_carryOutLot 27 = .ok (.lload_n 1, 1) := by decide +kernel
theorem dX7_carryOutLot_28 : decode cX7_carryOutLot 28 = .ok (.ldc2_w 361, 3) := by decide +kernel
theorem dX7_carryOutLot_31 : decode cX7_carryOutLot 31 = .ok (.lrem, 1) := by decide +kernel
theorem dX7_carryOutLot_32 : decode cX7_carryOutLot 32 = .ok (.l2i, 1) := by decide +kernel
theorem dX7_carryOutLot_33 : decode cX7_carryOutLot 33 = .ok (.istore 4, 2) := by decide +kernel
theorem dX7_carryOutLot_35 : decode cX7_carryOutLot 35 = .ok (.iload 4, 2) := by decide +kernel
theorem dX7_carryOutLot_37 : decode cX7_carryOutLot 37 = .ok (.ifCond .ne 13, 3) := by decide +kernel
theorem dX7_carryOutLot_40 : decode cX7_carryOutLot 40 = .ok (.aload_n 0, 1) := by decide +kernel
theorem dX7_carryOutLot_41 : decode cX7_carryOutLot 41 = .ok (.iconst 3, 1) := by decide +kernel
theorem dX7_carryOutLot_42 : decode cX7_carryOutLot 42 = .ok (.iload_n 3, 1) := by decide +kernel
theorem dX7_carryOutLot_43 : decode cX7_carryOutLot 43 = .ok (.iconst 0, 1) := by decide +kernel
theorem dX7_carryOutLot_44 : decode cX7_carryOutLot 44 = .ok (.invokevirtual 193, 3) := by decide +kernel
theorem dX7_carryOutLot_47 : decode cX7_carryOutLot 47 = .ok (.goto 51, 3) := by decide +kernel
theorem dX7_carryOutLot_50 : decode cX7_carryOutLot 50 = .ok (.iload 4, 2) := by decide +kernel
theorem dX7_carryOutLot_52 : decode cX7_carryOutLot 52 = .ok (.iconst 2, 1) := by decide +kernel
theorem dX7_carryOutLot_53 : decode cX7_carryOutLot 53 = .ok (.if_icmp .gt 22, 3) := by decide +kernel
theorem dX7_carryOutLot_56 : decode cX7_carryOutLot 56 = .ok (.aload_n 0, 1) := by decide +kernel
theorem dX7_carryOutLot_57 : decode cX7_carryOutLot 57 = .ok (.iconst 1, 1) := by decide +kernel
theorem dX7_carryOutLot_58 : decode cX7_carryOutLot 58 = .ok (.iload_n 3, 1) := by decide +kernel
theorem dX7_carryOutLot_59 : decode cX7_carryOutLot 59 = .ok (.lload_n 1, 1) := by decide +kernel
theorem dX7_carryOutLot_60 : decode cX7_carryOutLot 60 = .ok (.ldc2_w 363, 3) := by decide +kernel
theorem dX7_carryOutLot_63 : decode cX7_carryOutLot 63 = .ok (.ldiv, 1) := by decide +kernel
theorem dX7_carryOutLot_64 : decode cX7_carryOutLot 64 = .ok (.ldc2_w 365, 3) := by decide +kernel
theorem dX7_carryOutLot_67 : decode cX7_carryOutLot 67 = .ok (.lrem, 1) := by decide +kernel
theorem dX7_carryOutLot_68 : decode cX7_carryOutLot 68 = .ok (.l2i, 1) := by decide +kernel
theorem dX7_carryOutLot_69 : decode cX7_carryOutLot 69 = .ok (.invokevirtual 193, 3) := by decide +kernel
theorem dX7_carryOutLot_72 : decode cX7_carryOutLot 72 = .ok (.goto 26, 3) := by decide +kernel
theorem dX7_carryOutLot_75 : decode cX7_carryOutLot 75 = .ok (.aload_n 0, 1) := by decide +kernel
theorem dX7_carryOutLot_76 : decode cX7_carryOutLot 76 = .ok (.aload_n 0, 1) := by decide +kernel
theorem dX7_carryOutLot_77 : decode cX7_carryOutLot 77 = .ok (.getfield 28, 3) := by decide +kernel
theorem dX7_carryOutLot_80 : decode cX7_carryOutLot 80 = .ok (.getfield 184, 3) := by decide +kernel
theorem dX7_carryOutLot_83 : decode cX7_carryOutLot 83 = .ok (.bipush 99, 2) := by decide +kernel
theorem dX7_carryOutLot_85 : decode cX7_carryOutLot 85 = .ok (.if_icmp .ge 7, 3) := by decide +kernel
theorem dX7_carryOutLot_88 : decode cX7_carryOutLot 88 = .ok (.iconst 0, 1) := by decide +kernel
theorem dX7_carryOutLot_89 : decode cX7_carryOutLot 89 = .ok (.goto 4, 3) := by decide +kernel
theorem dX7_carryOutLot_92 : decode cX7_carryOutLot 92 = .ok (.iconst 4, 1) := by decide +kernel
theorem dX7_carryOutLot_93 : decode cX7_carryOutLot 93 = .ok (.iconst 0, 1) := by decide +kernel
theorem dX7_carryOutLot_94 : decode cX7_carryOutLot 94 = .ok (.iconst 0, 1) := by decide +kernel
theorem dX7_carryOutLot_95 : decode cX7_carryOutLot 95 = .ok (.invokevirtual 193, 3) := by decide +kernel
theorem dX7_carryOutLot_98 : decode cX7_carryOutLot 98 = .ok (.return_, 1) := by decide +kernel
theorem dX7_isAmongNumbers_0 : decode cX7_isAmongNumbers 0 = .ok (.iconst 0, 1) := by decide +kernel
theorem dX7_isAmongNumbers_1 : decode cX7_isAmongNumbers 1 = .ok (.istore_n 3, 1) := by decide +kernel
theorem dX7_isAmongNumbers_2 : decode cX7_isAmongNumbers 2 = .ok (.iload_n 3, 1) := by decide +kernel
theorem dX7_isAmongNumbers_3 : decode cX7_isAmongNumbers 3 = .ok (.iload_n 2, 1) := by decide +kernel
theorem dX7_isAmongNumbers_4 : decode cX7_isAmongNumbers 4 = .ok (.if_icmp .ge 21, 3) := by decide +kernel
theorem dX7_isAmongNumbers_7 : decode cX7_isAmongNumbers 7 = .ok (.aload_n 0, 1) := by decide +kernel
theorem dX7_isAmongNumbers_8 : decode cX7_isAmongNumbers 8 = .ok (.getfield 55, 3) := by decide +kernel
theorem dX7_isAmongNumbers_11 : decode cX7_isAmongNumbers 11 = .ok (.iload_n 3, 1) := by decide +kernel
theorem dX7_isAmongNumbers_12 : decode cX7_isAmongNumbers 12 = .ok (.iaload, 1) := by decide +kernel
theorem dX7_isAmongNumbers_13 : decode cX7_isAmongNumbers 13 = .ok (.iload_n 1, 1) := by decide +kernel
theorem dX7_isAmongNumbers_14 : decode cX7_isAmongNumbers 14 = .ok (.if_icmp .ne 5, 3) := by decide +kernel
theorem dX7_isAmongNumbers_17 : decode cX7_isAmongNumbers 17 = .ok (.iconst 1, 1) := by decide +kernel
theorem dX7_isAmongNumbers_18 : decode cX7_isAmongNumbers 18 = .ok (.ireturn, 1) := by decide +kernel
theorem dX7_isAmongNumbers_19 : decode cX7_isAmongNumbers 19 = .ok (.iinc 3 1, 3) := by decide +kernel
theorem dX7_isAmongNumbers_22 : decode cX7_isAmongNumbers 22 = .ok (.goto (-20), 3) := by decide +kernel
theorem dX7_isAmongNumbers_25 : decode cX7_isAmongNumbers 25 = .ok (.iconst 0, 1) := by decide +kernel
theorem dX7_isAmongNumbers_26 : decode cX7_isAmongNumbers 26 = .ok (.ireturn, 1) := by decide +kernel
theorem dX7_ticksByPower_0 : decode cX7_ticksByPower 0 = .ok (.aload_n 0, 1) := by decide +kernel
theorem dX7_ticksByPower_1 : decode cX7_ticksByPower 1 = .ok (.getfield 31, 3) := by decide +kernel
theorem dX7_ticksByPower_4 : decode cX7_ticksByPower 4 = .ok (.aload_n 0, 1) := by decide +kernel
theorem dX7_ticksByPower_5 : decode cX7_ticksByPower 5 = .ok (.getfield 28, 3) := by decide +kernel
theorem dX7_ticksByPower_8 : decode cX7_ticksByPower 8 = .ok (.invokevirtual 142, 3) := by decide +kernel
theorem dX7_ticksByPower_11 : decode cX7_ticksByPower 11 = .ok (.aload_n 0, 1) := by decide +kernel
theorem dX7_ticksByPower_12 : decode cX7_ticksByPower 12 = .ok (.getfield 31, 3) := by decide +kernel
theorem dX7_ticksByPower_15 : decode cX7_ticksByPower 15 = .ok (.iload_n 1, 1) := by decide +kernel
theorem dX7_ticksByPower_16 : decode cX7_ticksByPower 16 = .ok (.putfield 197, 3) := by decide +kernel
theorem dX7_ticksByPower_19 : decode cX7_ticksByPower 19 = .ok (.aload_n 0, 1) := by decide +kernel
theorem dX7_ticksByPower_20 : decode cX7_ticksByPower 20 = .ok (.getfield 31, 3) := by decide +kernel
theorem dX7_ticksByPower_23 : decode cX7_ticksByPower 23 = .ok (.bipush 60, 2) := by decide +kernel
theorem dX7_ticksByPower_25 : decode cX7_ticksByPower 25 = .ok (.invokevirtual 218, 3) := by decide +kernel
theorem dX7_ticksByPower_28 : decode cX7_ticksByPower 28 = .ok (.ireturn, 1) := by decide +kernel
theorem dX7_wouldHaveShown_0 : decode cX7_wouldHaveShown 0 = .ok (.aload_n 0, 1) := by decide +kernel
theorem dX7_wouldHaveShown_1 : decode cX7_wouldHaveShown 1 = .ok (.getfield 31, 3) := by decide +kernel
theorem dX7_wouldHaveShown_4 : decode cX7_wouldHaveShown 4 = .ok (.aload_n 0, 1) := by decide +kernel
theorem dX7_wouldHaveShown_5 : decode cX7_wouldHaveShown 5 = .ok (.getfield 28, 3) := by decide +kernel
theorem dX7_wouldHaveShown_8 : decode cX7_wouldHaveShown 8 = .ok (.invokevirtual 142, 3) := by decide +kernel
theorem dX7_wouldHaveShown_11 : decode cX7_wouldHaveShown 11 = .ok (.aload_n 0, 1) := by decide +kernel
theorem dX7_wouldHaveShown_12 : decode cX7_wouldHaveShown 12 = .ok (.getfield 31, 3) := by decide +kernel
theorem dX7_wouldHaveShown_15 : decode cX7_wouldHaveShown 15 = .ok (.getfield 158, 3) := by decide +kernel
theorem dX7_wouldHaveShown_18 : decode cX7_wouldHaveShown 18 = .ok (.iload_n 1, 1) := by decide +kernel
theorem dX7_wouldHaveShown_19 : decode cX7_wouldHaveShown 19 = .ok (.iload_n 2, 1) := by decide +kernel
theorem dX7_wouldHaveShown_20 : decode cX7_wouldHaveShown 20 = .ok (.iastore, 1) := by decide +kernel
theorem dX7_wouldHaveShown_21 : decode cX7_wouldHaveShown 21 = .ok (.aload_n 0, 1) := by decide +kernel
theorem dX7_wouldHaveShown_22 : decode cX7_wouldHaveShown 22 = .ok (.getfield 31, 3) := by decide +kernel
theorem dX7_wouldHaveShown_25 : decode cX7_wouldHaveShown 25 = .ok (.getfield 322, 3) := by decide +kernel
theorem dX7_wouldHaveShown_28 : decode cX7_wouldHaveShown 28 = .ok (.iload_n 1, 1) := by decide +kernel
theorem dX7_wouldHaveShown_29 : decode cX7_wouldHaveShown 29 = .ok (.iload_n 3, 1) := by decide +kernel
theorem dX7_wouldHaveShown_30 : decode cX7_wouldHaveShown 30 = .ok (.iastore, 1) := by decide +kernel
theorem dX7_wouldHaveShown_31 : decode cX7_wouldHaveShown 31 = .ok (.iconst 0, 1) := by decide +kernel
theorem dX7_wouldHaveShown_32 : decode cX7_wouldHaveShown 32 = .ok (.istore 5, 2) := by decide +kernel
theorem dX7_wouldHaveShown_34 : decode cX7_wouldHaveShown 34 = .ok (.iload 5, 2) := by decide +kernel
theorem dX7_wouldHaveShown_36 : decode cX7_wouldHaveShown 36 = .ok (.aload 4, 2) := by decide +kernel
theorem dX7_wouldHaveShown_38 : decode cX7_wouldHaveShown 38 = .ok (.getfield 109, 3) := by decide +kernel
theorem dX7_wouldHaveShown_41 : decode cX7_wouldHaveShown 41 = .ok (.if_icmp .ge 38, 3) := by decide +kernel
theorem dX7_wouldHaveShown_44 : decode cX7_wouldHaveShown 44 = .ok (.aload_n 0, 1) := by decide +kernel
theorem dX7_wouldHaveShown_45 : decode cX7_wouldHaveShown 45 = .ok (.getfield 31, 3) := by decide +kernel
theorem dX7_wouldHaveShown_48 : decode cX7_wouldHaveShown 48 = .ok (.invokevirtual 224, 3) := by decide +kernel
theorem dX7_wouldHaveShown_51 : decode cX7_wouldHaveShown 51 = .ok (.aload_n 0, 1) := by decide +kernel
theorem dX7_wouldHaveShown_52 : decode cX7_wouldHaveShown 52 = .ok (.getfield 31, 3) := by decide +kernel
theorem dX7_wouldHaveShown_55 : decode cX7_wouldHaveShown 55 = .ok (.getfield 170, 3) := by decide +kernel
theorem dX7_wouldHaveShown_58 : decode cX7_wouldHaveShown 58 = .ok (.iload_n 1, 1) := by decide +kernel
theorem dX7_wouldHaveShown_59 : decode cX7_wouldHaveShown 59 = .ok (.iaload, 1) := by decide +kernel
theorem dX7_wouldHaveShown_60 : decode cX7_wouldHaveShown 60 = .ok (.aload 4, 2) := by decide +kernel
theorem dX7_wouldHaveShown_62 : decode cX7_wouldHaveShown 62 = .ok (.getfield 100, 3) := by decide +kernel
theorem dX7_wouldHaveShown_65 : decode cX7_wouldHaveShown 65 = .ok (.iload 5, 2) := by decide +kernel
theorem dX7_wouldHaveShown_67 : decode cX7_wouldHaveShown 67 = .ok (.iaload, 1) := by decide +kernel
theorem dX7_wouldHaveShown_68 : decode cX7_wouldHaveShown 68 = .ok (.if_icmp .eq 5, 3) := by decide +kernel
theorem dX7_wouldHaveShown_71 : decode cX7_wouldHaveShown 71 = .ok (.iconst 0, 1) := by decide +kernel
theorem dX7_wouldHaveShown_72 : decode cX7_wouldHaveShown 72 = .ok (.ireturn, 1) := by decide +kernel
theorem dX7_wouldHaveShown_73 : decode cX7_wouldHaveShown 73 = .ok (.iinc 5 1, 3) := by decide +kernel
theorem dX7_wouldHaveShown_76 : decode cX7_wouldHaveShown 76 = .ok (.goto (-42), 3) := by decide +kernel
theorem dX7_wouldHaveShown_79 : decode cX7_wouldHaveShown 79 = .ok (.iconst 1, 1) := by decide +kernel
theorem dX7_wouldHaveShown_80 : decode cX7_wouldHaveShown 80 = .ok (.ireturn, 1) := by decide +kernel
theorem dX7_kindsThatShowed_0 : decode cX7_kindsThatShowed 0 = .ok (.iconst 0, 1) := by decide +kernel
theorem dX7_kindsThatShowed_1 : decode cX7_kindsThatShowed 1 = .ok (.istore_n 3, 1) := by decide +kernel
theorem dX7_kindsThatShowed_2 : decode cX7_kindsThatShowed 2 = .ok (.iconst 0, 1) := by decide +kernel
theorem dX7_kindsThatShowed_3 : decode cX7_kindsThatShowed 3 = .ok (.istore 4, 2) := by decide +kernel
theorem dX7_kindsThatShowed_5 : decode cX7_kindsThatShowed 5 = .ok (.iload 4, 2) := by decide +kernel
theorem dX7_kindsThatShowed_7 : decode cX7_kindsThatShowed 7 = .ok (.bipush 6, 2) := by decide +kernel
theorem dX7_kindsThatShowed_9 : decode cX7_kindsThatShowed 9 = .ok (.if_icmp .ge 36, 3) := by decide +kernel
theorem dX7_kindsThatShowed_12 : decode cX7_kindsThatShowed 12 = .ok (.aload_n 0, 1) := by decide +kernel
theorem dX7_kindsThatShowed_13 : decode cX7_kindsThatShowed 13 = .ok (.iload_n 1, 1) := by decide +kernel
theorem dX7_kindsThatShowed_14 : decode cX7_kindsThatShowed 14 = .ok (.iload 4, 2) := by decide +kernel
theorem dX7_kindsThatShowed_16 : decode cX7_kindsThatShowed 16 = .ok (.aload_n 0, 1) := by decide +kernel
theorem dX7_kindsThatShowed_17 : decode cX7_kindsThatShowed 17 = .ok (.getfield 28, 3) := by decide +kernel
theorem dX7_kindsThatShowed_20 : decode cX7_kindsThatShowed 20 = .ok (.getfield 322, 3) := by decide +kernel
theorem dX7_kindsThatShowed_23 : decode cX7_kindsThatShowed 23 = .ok (.iload_n 1, 1) := by decide +kernel
theorem dX7_kindsThatShowed_24 : decode cX7_kindsThatShowed 24 = .ok (.iaload, 1) := by decide +kernel
theorem dX7_kindsThatShowed_25 : decode cX7_kindsThatShowed 25 = .ok (.aload_n 2, 1) := by decide +kernel
theorem dX7_kindsThatShowed_26 : decode cX7_kindsThatShowed 26 = .ok (.invokevirtual 256, 3) := by decide +kernel
theorem dX7_kindsThatShowed_29 : decode cX7_kindsThatShowed 29 = .ok (.ifCond .eq 10, 3) := by decide +kernel
theorem dX7_kindsThatShowed_32 : decode cX7_kindsThatShowed 32 = .ok (.iload_n 3, 1) := by decide +kernel
theorem dX7_kindsThatShowed_33 : decode cX7_kindsThatShowed 33 = .ok (.iconst 1, 1) := by decide +kernel
theorem dX7_kindsThatShowed_34 : decode cX7_kindsThatShowed 34 = .ok (.iload 4, 2) := by decide +kernel
theorem dX7_kindsThatShowed_36 : decode cX7_kindsThatShowed 36 = .ok (.ishl, 1) := by decide +kernel
theorem dX7_kindsThatShowed_37 : decode cX7_kindsThatShowed 37 = .ok (.ior, 1) := by decide +kernel
theorem dX7_kindsThatShowed_38 : decode cX7_kindsThatShowed 38 = .ok (.istore_n 3, 1) := by decide +kernel
theorem dX7_kindsThatShowed_39 : decode cX7_kindsThatShowed 39 = .ok (.iinc 4 1, 3) := by decide +kernel
theorem dX7_kindsThatShowed_42 : decode cX7_kindsThatShowed 42 = .ok (.goto (-37), 3) := by decide +kernel
theorem dX7_kindsThatShowed_45 : decode cX7_kindsThatShowed 45 = .ok (.iload_n 3, 1) := by decide +kernel
theorem dX7_kindsThatShowed_46 : decode cX7_kindsThatShowed 46 = .ok (.ireturn, 1) := by decide +kernel
theorem dX7_lookAhead_0 : decode cX7_lookAhead 0 = .ok (.iconst 0, 1) := by decide +kernel
theorem dX7_lookAhead_1 : decode cX7_lookAhead 1 = .ok (.istore_n 3, 1) := by decide +kernel
theorem dX7_lookAhead_2 : decode cX7_lookAhead 2 = .ok (.iload_n 3, 1) := by decide +kernel
theorem dX7_lookAhead_3 : decode cX7_lookAhead 3 = .ok (.bipush 6, 2) := by decide +kernel
theorem dX7_lookAhead_5 : decode cX7_lookAhead 5 = .ok (.if_icmp .ge 79, 3) := by decide +kernel
theorem dX7_lookAhead_8 : decode cX7_lookAhead 8 = .ok (.iload_n 2, 1) := by decide +kernel
theorem dX7_lookAhead_9 : decode cX7_lookAhead 9 = .ok (.iload_n 3, 1) := by decide +kernel
theorem dX7_lookAhead_10 : decode cX7_lookAhead 10 = .ok (.ishr, 1) := by decide +kernel
theorem dX7_lookAhead_11 : decode cX7_lookAhead 11 = .ok (.iconst 1, 1) := by decide +kernel
theorem dX7_lookAhead_12 : decode cX7_lookAhead 12 = .ok (.iand, 1) := by decide +kernel
theorem dX7_lookAhead_13 : decode cX7_lookAhead 13 = .ok (.ifCond .eq 65, 3) := by decide +kernel
theorem dX7_lookAhead_16 : decode cX7_lookAhead 16 = .ok (.aload_n 0, 1) := by decide +kernel
theorem dX7_lookAhead_17 : decode cX7_lookAhead 17 = .ok (.getfield 31, 3) := by decide +kernel
theorem dX7_lookAhead_20 : decode cX7_lookAhead 20 = .ok (.aload_n 0, 1) := by decide +kernel
theorem dX7_lookAhead_21 : decode cX7_lookAhead 21 = .ok (.getfield 28, 3) := by decide +kernel
theorem dX7_lookAhead_24 : decode cX7_lookAhead 24 = .ok (.invokevirtual 142, 3) := by decide +kernel
theorem dX7_lookAhead_27 : decode cX7_lookAhead 27 = .ok (.aload_n 0, 1) := by decide +kernel
theorem dX7_lookAhead_28 : decode cX7_lookAhead 28 = .ok (.getfield 31, 3) := by decide +kernel
theorem dX7_lookAhead_31 : decode cX7_lookAhead 31 = .ok (.getfield 158, 3) := by decide +kernel
theorem dX7_lookAhead_34 : decode cX7_lookAhead 34 = .ok (.iload_n 1, 1) := by decide +kernel
theorem dX7_lookAhead_35 : decode cX7_lookAhead 35 = .ok (.iload_n 3, 1) := by decide +kernel
theorem dX7_lookAhead_36 : decode cX7_lookAhead 36 = .ok (.iastore, 1) := by decide +kernel
theorem dX7_lookAhead_37 : decode cX7_lookAhead 37 = .ok (.iconst 1, 1) := by decide +kernel
theorem dX7_lookAhead_38 : decode cX7_lookAhead 38 = .ok (.istore 4, 2) := by decide +kernel
theorem dX7_lookAhead_40 : decode cX7_lookAhead 40 = .ok (.iload 4, 2) := by decide +kernel
theorem dX7_lookAhead_42 : decode cX7_lookAhead 42 = .ok (.bipush 20, 2) := by decide +kernel
theorem dX7_lookAhead_44 : decode cX7_lookAhead 44 = .ok (.if_icmp .gt 34, 3) := by decide +kernel
theorem dX7_lookAhead_47 : decode cX7_lookAhead 47 = .ok (.aload_n 0, 1) := by decide +kernel
theorem dX7_lookAhead_48 : decode cX7_lookAhead 48 = .ok (.getfield 31, 3) := by decide +kernel
theorem dX7_lookAhead_51 : decode cX7_lookAhead 51 = .ok (.invokevirtual 224, 3) := by decide +kernel
theorem dX7_lookAhead_54 : decode cX7_lookAhead 54 = .ok (.aload_n 0, 1) := by decide +kernel
theorem dX7_lookAhead_55 : decode cX7_lookAhead 55 = .ok (.getfield 61, 3) := by decide +kernel
theorem dX7_lookAhead_58 : decode cX7_lookAhead 58 = .ok (.iload_n 3, 1) := by decide +kernel
theorem dX7_lookAhead_59 : decode cX7_lookAhead 59 = .ok (.aaload, 1) := by decide +kernel
theorem dX7_lookAhead_60 : decode cX7_lookAhead 60 = .ok (.iload 4, 2) := by decide +kernel
theorem dX7_lookAhead_62 : decode cX7_lookAhead 62 = .ok (.aload_n 0, 1) := by decide +kernel
theorem dX7_lookAhead_63 : decode cX7_lookAhead 63 = .ok (.getfield 31, 3) := by decide +kernel
theorem dX7_lookAhead_66 : decode cX7_lookAhead 66 = .ok (.getfield 170, 3) := by decide +kernel
theorem dX7_lookAhead_69 : decode cX7_lookAhead 69 = .ok (.iload_n 1, 1) := by decide +kernel
theorem dX7_lookAhead_70 : decode cX7_lookAhead 70 = .ok (.iaload, 1) := by decide +kernel
theorem dX7_lookAhead_71 : decode cX7_lookAhead 71 = .ok (.iastore, 1) := by decide +kernel
theorem dX7_lookAhead_72 : decode cX7_lookAhead 72 = .ok (.iinc 4 1, 3) := by decide +kernel
theorem dX7_lookAhead_75 : decode cX7_lookAhead 75 = .ok (.goto (-35), 3) := by decide +kernel
theorem dX7_lookAhead_78 : decode cX7_lookAhead 78 = .ok (.iinc 3 1, 3) := by decide +kernel
theorem dX7_lookAhead_81 : decode cX7_lookAhead 81 = .ok (.goto (-79), 3) := by decide +kernel
theorem dX7_lookAhead_84 : decode cX7_lookAhead 84 = .ok (.return_, 1) := by decide +kernel
theorem dX7_greatestPart_0 : decode cX7_greatestPart 0 = .ok (.iconst 0, 1) := by decide +kernel
theorem dX7_greatestPart_1 : decode cX7_greatestPart 1 = .ok (.istore_n 3, 1) := by decide +kernel
theorem dX7_greatestPart_2 : decode cX7_greatestPart 2 = .ok (.iconst 0, 1) := by decide +kernel
theorem dX7_greatestPart_3 : decode cX7_greatestPart 3 = .ok (.istore 4, 2) := by decide +kernel
theorem dX7_greatestPart_5 : decode cX7_greatestPart 5 = .ok (.iload 4, 2) := by decide +kernel
theorem dX7_greatestPart_7 : decode cX7_greatestPart 7 = .ok (.bipush 10, 2) := by decide +kernel
theorem dX7_greatestPart_9 : decode cX7_greatestPart 9 = .ok (.if_icmp .ge 68, 3) := by decide +kernel
theorem dX7_greatestPart_12 : decode cX7_greatestPart 12 = .ok (.iconst 0, 1) := by decide +kernel
theorem dX7_greatestPart_13 : decode cX7_greatestPart 13 = .ok (.istore 5, 2) := by decide +kernel
theorem dX7_greatestPart_15 : decode cX7_greatestPart 15 = .ok (.iconst 0, 1) := by decide +kernel
theorem dX7_greatestPart_16 : decode cX7_greatestPart 16 = .ok (.istore 6, 2) := by decide +kernel
theorem dX7_greatestPart_18 : decode cX7_greatestPart 18 = .ok (.iload 6, 2) := by decide +kernel
theorem dX7_greatestPart_20 : decode cX7_greatestPart 20 = .ok (.bipush 6, 2) := by decide +kernel
theorem dX7_greatestPart_22 : decode cX7_greatestPart 22 = .ok (.if_icmp .ge 42, 3) := by decide +kernel
theorem dX7_greatestPart_25 : decode cX7_greatestPart 25 = .ok (.iload 5, 2) := by decide +kernel
theorem dX7_greatestPart_27 : decode cX7_greatestPart 27 = .ok (.iload_n 1, 1) := by decide +kernel
theorem dX7_greatestPart_28 : decode cX7_greatestPart 28 = .ok (.iload 6, 2) := by decide +kernel
theorem dX7_greatestPart_30 : decode cX7_greatestPart 30 = .ok (.ishr, 1) := by decide +kernel
theorem dX7_greatestPart_31 : decode cX7_greatestPart 31 = .ok (.iconst 1, 1) := by decide +kernel
theorem dX7_greatestPart_32 : decode cX7_greatestPart 32 = .ok (.iand, 1) := by decide +kernel
theorem dX7_greatestPart_33 : decode cX7_greatestPart 33 = .ok (.ifCond .eq 21, 3) := by decide +kernel
theorem dX7_greatestPart_36 : decode cX7_greatestPart 36 = .ok (.aload_n 0, 1) := by decide +kernel
theorem dX7_greatestPart_37 : decode cX7_greatestPart 37 = .ok (.getfield 61, 3) := by decide +kernel
theorem dX7_greatestPart_40 : decode cX7_greatestPart 40 = .ok (.iload 6, 2) := by decide +kernel
theorem dX7_greatestPart_42 : decode cX7_greatestPart 42 = .ok (.aaload, 1) := by decide +kernel
theorem dX7_greatestPart_43 : decode cX7_greatestPart 43 = .ok (.iload_n 2, 1) := by decide +kernel
theorem dX7_greatestPart_44 : decode cX7_greatestPart 44 = .ok (.iaload, 1) := by decide +kernel
theorem dX7_greatestPart_45 : decode cX7_greatestPart 45 = .ok (.iload 4, 2) := by decide +kernel
theorem dX7_greatestPart_47 : decode cX7_greatestPart 47 = .ok (.if_icmp .ne 7, 3) := by decide +kernel
theorem dX7_greatestPart_50 : decode cX7_greatestPart 50 = .ok (.iconst 1, 1) := by decide +kernel
theorem dX7_greatestPart_51 : decode cX7_greatestPart 51 = .ok (.goto 4, 3) := by decide +kernel
theorem dX7_greatestPart_54 : decode cX7_greatestPart 54 = .ok (.iconst 0, 1) := by decide +kernel
theorem dX7_greatestPart_55 : decode cX7_greatestPart 55 = .ok (.iadd, 1) := by decide +kernel
theorem dX7_greatestPart_56 : decode cX7_greatestPart 56 = .ok (.istore 5, 2) := by decide +kernel
theorem dX7_greatestPart_58 : decode cX7_greatestPart 58 = .ok (.iinc 6 1, 3) := by decide +kernel
theorem dX7_greatestPart_61 : decode cX7_greatestPart 61 = .ok (.goto (-43), 3) := by decide +kernel
theorem dX7_greatestPart_64 : decode cX7_greatestPart 64 = .ok (.iload_n 3, 1) := by decide +kernel
theorem dX7_greatestPart_65 : decode cX7_greatestPart 65 = .ok (.iload 5, 2) := by decide +kernel
theorem dX7_greatestPart_67 : decode cX7_greatestPart 67 = .ok (.invokestatic 227, 3) := by decide +kernel
theorem dX7_greatestPart_70 : decode cX7_greatestPart 70 = .ok (.istore_n 3, 1) := by decide +kernel
theorem dX7_greatestPart_71 : decode cX7_greatestPart 71 = .ok (.iinc 4 1, 3) := by decide +kernel
theorem dX7_greatestPart_74 : decode cX7_greatestPart 74 = .ok (.goto (-69), 3) := by decide +kernel
theorem dX7_greatestPart_77 : decode cX7_greatestPart 77 = .ok (.iload_n 3, 1) := by decide +kernel
theorem dX7_greatestPart_78 : decode cX7_greatestPart 78 = .ok (.ireturn, 1) := by decide +kernel
theorem dX7_latestByAiming_0 : decode cX7_latestByAiming 0 = .ok (.iconst (-1), 1) := by decide +kernel
theorem dX7_latestByAiming_1 : decode cX7_latestByAiming 1 = .ok (.istore_n 2, 1) := by decide +kernel
theorem dX7_latestByAiming_2 : decode cX7_latestByAiming 2 = .ok (.iconst 0, 1) := by decide +kernel
theorem dX7_latestByAiming_3 : decode cX7_latestByAiming 3 = .ok (.istore_n 3, 1) := by decide +kernel
theorem dX7_latestByAiming_4 : decode cX7_latestByAiming 4 = .ok (.iload_n 3, 1) := by decide +kernel
theorem dX7_latestByAiming_5 : decode cX7_latestByAiming 5 = .ok (.aload_n 0, 1) := by decide +kernel
theorem dX7_latestByAiming_6 : decode cX7_latestByAiming 6 = .ok (.getfield 28, 3) := by decide +kernel
theorem dX7_latestByAiming_9 : decode cX7_latestByAiming 9 = .ok (.getfield 149, 3) := by decide +kernel
theorem dX7_latestByAiming_12 : decode cX7_latestByAiming 12 = .ok (.if_icmp .ge 83, 3) := by decide +kernel
theorem dX7_latestByAiming_15 : decode cX7_latestByAiming 15 = .ok (.iconst 0, 1) := by decide +kernel
theorem dX7_latestByAiming_16 : decode cX7_latestByAiming 16 = .ok (.istore 4, 2) := by decide +kernel
theorem dX7_latestByAiming_18 : decode cX7_latestByAiming 18 = .ok (.iload 4, 2) := by decide +kernel
theorem dX7_latestByAiming_20 : decode cX7_latestByAiming 20 = .ok (.bipush 10, 2) := by decide +kernel
theorem dX7_latestByAiming_22 : decode cX7_latestByAiming 22 = .ok (.if_icmp .ge 67, 3) := by decide +kernel
theorem dX7_latestByAiming_25 : decode cX7_latestByAiming 25 = .ok (.iload_n 2, 1) := by decide +kernel
theorem dX7_latestByAiming_26 : decode cX7_latestByAiming 26 = .ok (.bipush 60, 2) := by decide +kernel
theorem dX7_latestByAiming_28 : decode cX7_latestByAiming 28 = .ok (.if_icmp .gt 61, 3) := by decide +kernel
theorem dX7_latestByAiming_31 : decode cX7_latestByAiming 31 = .ok (.aload_n 0, 1) := by decide +kernel
theorem dX7_latestByAiming_32 : decode cX7_latestByAiming 32 = .ok (.getfield 34, 3) := by decide +kernel
theorem dX7_latestByAiming_35 : decode cX7_latestByAiming 35 = .ok (.aload_n 0, 1) := by decide +kernel
theorem dX7_latestByAiming_36 : decode cX7_latestByAiming 36 = .ok (.getfield 28, 3) := by decide +kernel
theorem dX7_latestByAiming_39 : decode cX7_latestByAiming 39 = .ok (.invokevirtual 142, 3) := by decide +kernel
theorem dX7_latestByAiming_42 : decode cX7_latestByAiming 42 = .ok (.aload_n 0, 1) := by decide +kernel
theorem dX7_latestByAiming_43 : decode cX7_latestByAiming 43 = .ok (.getfield 34, 3) := by decide +kernel
theorem dX7_latestByAiming_46 : decode cX7_latestByAiming 46 = .ok (.getfield 173, 3) := by decide +kernel
theorem dX7_latestByAiming_49 : decode cX7_latestByAiming 49 = .ok (.iload_n 3, 1) := by decide +kernel
theorem dX7_latestByAiming_50 : decode cX7_latestByAiming 50 = .ok (.iload 4, 2) := by decide +kernel
theorem dX7_latestByAiming_52 : decode cX7_latestByAiming 52 = .ok (.iastore, 1) := by decide +kernel
theorem dX7_latestByAiming_53 : decode cX7_latestByAiming 53 = .ok (.iload_n 1, 1) := by decide +kernel
theorem dX7_latestByAiming_54 : decode cX7_latestByAiming 54 = .ok (.ifCond .eq 11, 3) := by decide +kernel
theorem dX7_latestByAiming_57 : decode cX7_latestByAiming 57 = .ok (.aload_n 0, 1) := by decide +kernel
theorem dX7_latestByAiming_58 : decode cX7_latestByAiming 58 = .ok (.iload_n 2, 1) := by decide +kernel
theorem dX7_latestByAiming_59 : decode cX7_latestByAiming 59 = .ok (.invokevirtual 367, 3) := by decide +kernel
theorem dX7_latestByAiming_62 : decode cX7_latestByAiming 62 = .ok (.goto 12, 3) := by decide +kernel
theorem dX7_latestByAiming_65 : decode cX7_latestByAiming 65 = .ok (.aload_n 0, 1) := by decide +kernel
theorem dX7_latestByAiming_66 : decode cX7_latestByAiming 66 = .ok (.getfield 34, 3) := by decide +kernel
theorem dX7_latestByAiming_69 : decode cX7_latestByAiming 69 = .ok (.bipush 60, 2) := by decide +kernel
theorem dX7_latestByAiming_71 : decode cX7_latestByAiming 71 = .ok (.invokevirtual 218, 3) := by decide +kernel
theorem dX7_latestByAiming_74 : decode cX7_latestByAiming 74 = .ok (.istore 5, 2) := by decide +kernel
theorem dX7_latestByAiming_76 : decode cX7_latestByAiming 76 = .ok (.iload_n 2, 1) := by decide +kernel
theorem dX7_latestByAiming_77 : decode cX7_latestByAiming 77 = .ok (.iload 5, 2) := by decide +kernel
theorem dX7_latestByAiming_79 : decode cX7_latestByAiming 79 = .ok (.invokestatic 227, 3) := by decide +kernel
theorem dX7_latestByAiming_82 : decode cX7_latestByAiming 82 = .ok (.istore_n 2, 1) := by decide +kernel
theorem dX7_latestByAiming_83 : decode cX7_latestByAiming 83 = .ok (.iinc 4 1, 3) := by decide +kernel
theorem dX7_latestByAiming_86 : decode cX7_latestByAiming 86 = .ok (.goto (-68), 3) := by decide +kernel
theorem dX7_latestByAiming_89 : decode cX7_latestByAiming 89 = .ok (.iinc 3 1, 3) := by decide +kernel
theorem dX7_latestByAiming_92 : decode cX7_latestByAiming 92 = .ok (.goto (-88), 3) := by decide +kernel
theorem dX7_latestByAiming_95 : decode cX7_latestByAiming 95 = .ok (.iload_n 2, 1) := by decide +kernel
theorem dX7_latestByAiming_96 : decode cX7_latestByAiming 96 = .ok (.ireturn, 1) := by decide +kernel
theorem dX7_soonestByAiming_0 : decode cX7_soonestByAiming 0 = .ok (.bipush 61, 2) := by decide +kernel
theorem dX7_soonestByAiming_2 : decode cX7_soonestByAiming 2 = .ok (.istore_n 2, 1) := by decide +kernel
theorem dX7_soonestByAiming_3 : decode cX7_soonestByAiming 3 = .ok (.iconst 0, 1) := by decide +kernel
theorem dX7_soonestByAiming_4 : decode cX7_soonestByAiming 4 = .ok (.istore_n 3, 1) := by decide +kernel
theorem dX7_soonestByAiming_5 : decode cX7_soonestByAiming 5 = .ok (.iload_n 3, 1) := by decide +kernel
theorem dX7_soonestByAiming_6 : decode cX7_soonestByAiming 6 = .ok (.bipush 10, 2) := by decide +kernel
theorem dX7_soonestByAiming_8 : decode cX7_soonestByAiming 8 = .ok (.if_icmp .ge 87, 3) := by decide +kernel
theorem dX7_soonestByAiming_11 : decode cX7_soonestByAiming 11 = .ok (.iload_n 2, 1) := by decide +kernel
theorem dX7_soonestByAiming_12 : decode cX7_soonestByAiming 12 = .ok (.iload_n 1, 1) := by decide +kernel
theorem dX7_soonestByAiming_13 : decode cX7_soonestByAiming 13 = .ok (.if_icmp .le 82, 3) := by decide +kernel
theorem dX7_soonestByAiming_16 : decode cX7_soonestByAiming 16 = .ok (.iconst 0, 1) := by decide +kernel
theorem dX7_soonestByAiming_17 : decode cX7_soonestByAiming 17 = .ok (.istore 4, 2) := by decide +kernel
theorem dX7_soonestByAiming_19 : decode cX7_soonestByAiming 19 = .ok (.iload 4, 2) := by decide +kernel
theorem dX7_soonestByAiming_21 : decode cX7_soonestByAiming 21 = .ok (.aload_n 0, 1) := by decide +kernel
theorem dX7_soonestByAiming_22 : decode cX7_soonestByAiming 22 = .ok (.getfield 34, 3) := by decide +kernel
theorem dX7_soonestByAiming_25 : decode cX7_soonestByAiming 25 = .ok (.getfield 149, 3) := by decide +kernel
theorem dX7_soonestByAiming_28 : decode cX7_soonestByAiming 28 = .ok (.if_icmp .ge 61, 3) := by decide +kernel
theorem dX7_soonestByAiming_31 : decode cX7_soonestByAiming 31 = .ok (.iload_n 2, 1) := by decide +kernel
theorem dX7_soonestByAiming_32 : decode cX7_soonestByAiming 32 = .ok (.iload_n 1, 1) := by decide +kernel
theorem dX7_soonestByAiming_33 : decode cX7_soonestByAiming 33 = .ok (.if_icmp .le 56, 3) := by decide +kernel
theorem dX7_soonestByAiming_36 : decode cX7_soonestByAiming 36 = .ok (.aload_n 0, 1) := by decide +kernel
theorem dX7_soonestByAiming_37 : decode cX7_soonestByAiming 37 = .ok (.getfield 31, 3) := by decide +kernel
theorem dX7_soonestByAiming_40 : decode cX7_soonestByAiming 40 = .ok (.aload_n 0, 1) := by decide +kernel
theorem dX7_soonestByAiming_41 : decode cX7_soonestByAiming 41 = .ok (.getfield 34, 3) := by decide +kernel
theorem dX7_soonestByAiming_44 : decode cX7_soonestByAiming 44 = .ok (.invokevirtual 142, 3) := by decide +kernel
theorem dX7_soonestByAiming_47 : decode cX7_soonestByAiming 47 = .ok (.aload_n 0, 1) := by decide +kernel
theorem dX7_soonestByAiming_48 : decode cX7_soonestByAiming 48 = .ok (.getfield 31, 3) := by decide +kernel
theorem dX7_soonestByAiming_51 : decode cX7_soonestByAiming 51 = .ok (.getfield 173, 3) := by decide +kernel
theorem dX7_soonestByAiming_54 : decode cX7_soonestByAiming 54 = .ok (.iload 4, 2) := by decide +kernel
theorem dX7_soonestByAiming_56 : decode cX7_soonestByAiming 56 = .ok (.aload_n 0, 1) := by decide +kernel
theorem dX7_soonestByAiming_57 : decode cX7_soonestByAiming 57 = .ok (.getfield 34, 3) := by decide +kernel
theorem dX7_soonestByAiming_60 : decode cX7_soonestByAiming 60 = .ok (.getfield 170, 3) := by decide +kernel
theorem dX7_soonestByAiming_63 : decode cX7_soonestByAiming 63 = .ok (.iload 4, 2) := by decide +kernel
theorem dX7_soonestByAiming_65 : decode cX7_soonestByAiming 65 = .ok (.iaload, 1) := by decide +kernel
theorem dX7_soonestByAiming_66 : decode cX7_soonestByAiming 66 = .ok (.iload_n 3, 1) := by decide +kernel
theorem dX7_soonestByAiming_67 : decode cX7_soonestByAiming 67 = .ok (.iadd, 1) := by decide +kernel
theorem dX7_soonestByAiming_68 : decode cX7_soonestByAiming 68 = .ok (.bipush 10, 2) := by decide +kernel
theorem dX7_soonestByAiming_70 : decode cX7_soonestByAiming 70 = .ok (.irem, 1) := by decide +kernel
theorem dX7_soonestByAiming_71 : decode cX7_soonestByAiming 71 = .ok (.iastore, 1) := by decide +kernel
theorem dX7_soonestByAiming_72 : decode cX7_soonestByAiming 72 = .ok (.aload_n 0, 1) := by decide +kernel
theorem dX7_soonestByAiming_73 : decode cX7_soonestByAiming 73 = .ok (.getfield 31, 3) := by decide +kernel
theorem dX7_soonestByAiming_76 : decode cX7_soonestByAiming 76 = .ok (.iload_n 2, 1) := by decide +kernel
theorem dX7_soonestByAiming_77 : decode cX7_soonestByAiming 77 = .ok (.iconst 1, 1) := by decide +kernel
theorem dX7_soonestByAiming_78 : decode cX7_soonestByAiming 78 = .ok (.isub, 1) := by decide +kernel
theorem dX7_soonestByAiming_79 : decode cX7_soonestByAiming 79 = .ok (.invokevirtual 218, 3) := by decide +kernel
theorem dX7_soonestByAiming_82 : decode cX7_soonestByAiming 82 = .ok (.istore_n 2, 1) := by decide +kernel
theorem dX7_soonestByAiming_83 : decode cX7_soonestByAiming 83 = .ok (.iinc 4 1, 3) := by decide +kernel
theorem dX7_soonestByAiming_86 : decode cX7_soonestByAiming 86 = .ok (.goto (-67), 3) := by decide +kernel
theorem dX7_soonestByAiming_89 : decode cX7_soonestByAiming 89 = .ok (.iinc 3 1, 3) := by decide +kernel
theorem dX7_soonestByAiming_92 : decode cX7_soonestByAiming 92 = .ok (.goto (-87), 3) := by decide +kernel
theorem dX7_soonestByAiming_95 : decode cX7_soonestByAiming 95 = .ok (.iload_n 2, 1) := by decide +kernel
theorem dX7_soonestByAiming_96 : decode cX7_soonestByAiming 96 = .ok (.ireturn, 1) := by decide +kernel
theorem dX7_weighRightOnes_0 : decode cX7_weighRightOnes 0 = .ok (.iconst 0, 1) := by decide +kernel
theorem dX7_weighRightOnes_1 : decode cX7_weighRightOnes 1 = .ok (.istore_n 3, 1) := by decide +kernel
theorem dX7_weighRightOnes_2 : decode cX7_weighRightOnes 2 = .ok (.iload_n 3, 1) := by decide +kernel
theorem dX7_weighRightOnes_3 : decode cX7_weighRightOnes 3 = .ok (.bipush 7, 2) := by decide +kernel
theorem dX7_weighRightOnes_5 : decode cX7_weighRightOnes 5 = .ok (.if_icmp .gt 16, 3) := by decide +kernel
theorem dX7_weighRightOnes_8 : decode cX7_weighRightOnes 8 = .ok (.aload_n 0, 1) := by decide +kernel
theorem dX7_weighRightOnes_9 : decode cX7_weighRightOnes 9 = .ok (.getfield 64, 3) := by decide +kernel
theorem dX7_weighRightOnes_12 : decode cX7_weighRightOnes 12 = .ok (.iload_n 3, 1) := by decide +kernel
theorem dX7_weighRightOnes_13 : decode cX7_weighRightOnes 13 = .ok (.lconst 0, 1) := by decide +kernel
theorem dX7_weighRightOnes_14 : decode cX7_weighRightOnes 14 = .ok (.lastore, 1) := by decide +kernel
theorem dX7_weighRightOnes_15 : decode cX7_weighRightOnes 15 = .ok (.iinc 3 1, 3) := by decide +kernel
theorem dX7_weighRightOnes_18 : decode cX7_weighRightOnes 18 = .ok (.goto (-16), 3) := by decide +kernel
theorem dX7_weighRightOnes_21 : decode cX7_weighRightOnes 21 = .ok (.aload_n 0, 1) := by decide +kernel
theorem dX7_weighRightOnes_22 : decode cX7_weighRightOnes 22 = .ok (.invokevirtual 370, 3) := by decide +kernel
theorem dX7_weighRightOnes_25 : decode cX7_weighRightOnes 25 = .ok (.istore_n 3, 1) := by decide +kernel
theorem dX7_weighRightOnes_26 : decode cX7_weighRightOnes 26 = .ok (.iconst 0, 1) := by decide +kernel
theorem dX7_weighRightOnes_27 : decode cX7_weighRightOnes 27 = .ok (.istore 4, 2) := by decide +kernel
theorem dX7_weighRightOnes_29 : decode cX7_weighRightOnes 29 = .ok (.iload 4, 2) := by decide +kernel
theorem dX7_weighRightOnes_31 : decode cX7_weighRightOnes 31 = .ok (.iconst 1, 1) := by decide +kernel
theorem dX7_weighRightOnes_32 : decode cX7_weighRightOnes 32 = .ok (.aload_n 0, 1) := by decide +kernel
theorem dX7_weighRightOnes_33 : decode cX7_weighRightOnes 33 = .ok (.getfield 28, 3) := by decide +kernel
theorem dX7_weighRightOnes_36 : decode cX7_weighRightOnes 36 = .ok (.getfield 149, 3) := by decide +kernel
theorem dX7_weighRightOnes_39 : decode cX7_weighRightOnes 39 = .ok (.ishl, 1) := by decide +kernel
theorem dX7_weighRightOnes_40 : decode cX7_weighRightOnes 40 = .ok (.if_icmp .ge 99, 3) := by decide +kernel
theorem dX7_weighRightOnes_43 : decode cX7_weighRightOnes 43 = .ok (.iload 4, 2) := by decide +kernel
theorem dX7_weighRightOnes_45 : decode cX7_weighRightOnes 45 = .ok (.aload_n 0, 1) := by decide +kernel
theorem dX7_weighRightOnes_46 : decode cX7_weighRightOnes 46 = .ok (.getfield 28, 3) := by decide +kernel
theorem dX7_weighRightOnes_49 : decode cX7_weighRightOnes 49 = .ok (.getfield 200, 3) := by decide +kernel
theorem dX7_weighRightOnes_52 : decode cX7_weighRightOnes 52 = .ok (.iand, 1) := by decide +kernel
theorem dX7_weighRightOnes_53 : decode cX7_weighRightOnes 53 = .ok (.ifCond .ne 80, 3) := by decide +kernel
theorem dX7_weighRightOnes_56 : decode cX7_weighRightOnes 56 = .ok (.aload_n 0, 1) := by decide +kernel
theorem dX7_weighRightOnes_57 : decode cX7_weighRightOnes 57 = .ok (.getfield 31, 3) := by decide +kernel
theorem dX7_weighRightOnes_60 : decode cX7_weighRightOnes 60 = .ok (.aload_n 0, 1) := by decide +kernel
theorem dX7_weighRightOnes_61 : decode cX7_weighRightOnes 61 = .ok (.getfield 28, 3) := by decide +kernel
theorem dX7_weighRightOnes_64 : decode cX7_weighRightOnes 64 = .ok (.invokevirtual 142, 3) := by decide +kernel
theorem dX7_weighRightOnes_67 : decode cX7_weighRightOnes 67 = .ok (.aload_n 0, 1) := by decide +kernel
theorem dX7_weighRightOnes_68 : decode cX7_weighRightOnes 68 = .ok (.getfield 31, 3) := by decide +kernel
theorem dX7_weighRightOnes_71 : decode cX7_weighRightOnes 71 = .ok (.dup, 1) := by decide +kernel
theorem dX7_weighRightOnes_72 : decode cX7_weighRightOnes 72 = .ok (.getfield 200, 3) := by decide +kernel
theorem dX7_weighRightOnes_75 : decode cX7_weighRightOnes 75 = .ok (.iload 4, 2) := by decide +kernel
theorem dX7_weighRightOnes_77 : decode cX7_weighRightOnes 77 = .ok (.ior, 1) := by decide +kernel
theorem dX7_weighRightOnes_78 : decode cX7_weighRightOnes 78 = .ok (.putfield 200, 3) := by decide +kernel
theorem dX7_weighRightOnes_81 : decode cX7_weighRightOnes 81 = .ok (.aload_n 0, 1) := by decide +kernel
theorem dX7_weighRightOnes_82 : decode cX7_weighRightOnes 82 = .ok (.getfield 31, 3) := by decide +kernel
theorem dX7_weighRightOnes_85 : decode cX7_weighRightOnes 85 = .ok (.iload_n 1, 1) := by decide +kernel
theorem dX7_weighRightOnes_86 : decode cX7_weighRightOnes 86 = .ok (.invokevirtual 211, 3) := by decide +kernel
theorem dX7_weighRightOnes_89 : decode cX7_weighRightOnes 89 = .ok (.iload 4, 2) := by decide +kernel
theorem dX7_weighRightOnes_91 : decode cX7_weighRightOnes 91 = .ok (.invokestatic 203, 3) := by decide +kernel
theorem dX7_weighRightOnes_94 : decode cX7_weighRightOnes 94 = .ok (.istore 5, 2) := by decide +kernel
theorem dX7_weighRightOnes_96 : decode cX7_weighRightOnes 96 = .ok (.aload_n 0, 1) := by decide +kernel
theorem dX7_weighRightOnes_97 : decode cX7_weighRightOnes 97 = .ok (.getfield 64, 3) := by decide +kernel
theorem dX7_weighRightOnes_100 : decode cX7_weighRightOnes 100 = .ok (.aload_n 0, 1) := by decide +kernel
theorem dX7_weighRightOnes_101 : decode cX7_weighRightOnes 101 = .ok (.getfield 31, 3) := by decide +kernel
theorem dX7_weighRightOnes_104 : decode cX7_weighRightOnes 104 = .ok (.invokevirtual 331, 3) := by decide +kernel
theorem dX7_weighRightOnes_107 : decode cX7_weighRightOnes 107 = .ok (.invokestatic 203, 3) := by decide +kernel
theorem dX7_weighRightOnes_110 : decode cX7_weighRightOnes 110 = .ok (.dup2, 1) := by decide +kernel
theorem dX7_weighRightOnes_111 : decode cX7_weighRightOnes 111 = .ok (.laload, 1) := by decide +kernel
theorem dX7_weighRightOnes_112 : decode cX7_weighRightOnes 112 = .ok (.iload_n 2, 1) := by decide +kernel
theorem dX7_weighRightOnes_113 : decode cX7_weighRightOnes 113 = .ok (.iload 5, 2) := by decide +kernel
theorem dX7_weighRightOnes_115 : decode cX7_weighRightOnes 115 = .ok (.invokestatic 316, 3) := by decide +kernel
theorem dX7_weighRightOnes_118 : decode cX7_weighRightOnes 118 = .ok (.bipush 12, 2) := by decide +kernel
theorem dX7_weighRightOnes_120 : decode cX7_weighRightOnes 120 = .ok (.iload_n 2, 1) := by decide +kernel
theorem dX7_weighRightOnes_121 : decode cX7_weighRightOnes 121 = .ok (.isub, 1) := by decide +kernel
theorem dX7_weighRightOnes_122 : decode cX7_weighRightOnes 122 = .ok (.iload_n 3, 1) := by decide +kernel
theorem dX7_weighRightOnes_123 : decode cX7_weighRightOnes 123 = .ok (.iload 5, 2) := by decide +kernel
theorem dX7_weighRightOnes_125 : decode cX7_weighRightOnes 125 = .ok (.isub, 1) := by decide +kernel
theorem dX7_weighRightOnes_126 : decode cX7_weighRightOnes 126 = .ok (.invokestatic 316, 3) := by decide +kernel
theorem dX7_weighRightOnes_129 : decode cX7_weighRightOnes 129 = .ok (.imul, 1) := by decide +kernel
theorem dX7_weighRightOnes_130 : decode cX7_weighRightOnes 130 = .ok (.i2l, 1) := by decide +kernel
theorem dX7_weighRightOnes_131 : decode cX7_weighRightOnes 131 = .ok (.ladd, 1) := by decide +kernel
theorem dX7_weighRightOnes_132 : decode cX7_weighRightOnes 132 = .ok (.lastore, 1) := by decide +kernel
theorem dX7_weighRightOnes_133 : decode cX7_weighRightOnes 133 = .ok (.iinc 4 1, 3) := by decide +kernel
theorem dX7_weighRightOnes_136 : decode cX7_weighRightOnes 136 = .ok (.goto (-107), 3) := by decide +kernel
theorem dX7_weighRightOnes_139 : decode cX7_weighRightOnes 139 = .ok (.return_, 1) := by decide +kernel
theorem dX7_freeOnes_0 : decode cX7_freeOnes 0 = .ok (.aload_n 0, 1) := by decide +kernel
theorem dX7_freeOnes_1 : decode cX7_freeOnes 1 = .ok (.getfield 28, 3) := by decide +kernel
theorem dX7_freeOnes_4 : decode cX7_freeOnes 4 = .ok (.getfield 149, 3) := by decide +kernel
theorem dX7_freeOnes_7 : decode cX7_freeOnes 7 = .ok (.aload_n 0, 1) := by decide +kernel
theorem dX7_freeOnes_8 : decode cX7_freeOnes 8 = .ok (.getfield 28, 3) := by decide +kernel
theorem dX7_freeOnes_11 : decode cX7_freeOnes 11 = .ok (.getfield 200, 3) := by decide +kernel
theorem dX7_freeOnes_14 : decode cX7_freeOnes 14 = .ok (.invokestatic 203, 3) := by decide +kernel
theorem dX7_freeOnes_17 : decode cX7_freeOnes 17 = .ok (.isub, 1) := by decide +kernel
theorem dX7_freeOnes_18 : decode cX7_freeOnes 18 = .ok (.ireturn, 1) := by decide +kernel
theorem dX7_weightOfAll_0 : decode cX7_weightOfAll 0 = .ok (.bipush 12, 2) := by decide +kernel
theorem dX7_weightOfAll_2 : decode cX7_weightOfAll 2 = .ok (.aload_n 0, 1) := by decide +kernel
theorem dX7_weightOfAll_3 : decode cX7_weightOfAll 3 = .ok (.invokevirtual 370, 3) := by decide +kernel
theorem dX7_weightOfAll_6 : decode cX7_weightOfAll 6 = .ok (.invokestatic 316, 3) := by decide +kernel
theorem dX7_weightOfAll_9 : decode cX7_weightOfAll 9 = .ok (.i2l, 1) := by decide +kernel
theorem dX7_weightOfAll_10 : decode cX7_weightOfAll 10 = .ok (.lreturn, 1) := by decide +kernel
theorem dX7_raised_0 : decode cX7_raised 0 = .ok (.iconst 1, 1) := by decide +kernel
theorem dX7_raised_1 : decode cX7_raised 1 = .ok (.istore_n 2, 1) := by decide +kernel
theorem dX7_raised_2 : decode cX7_raised 2 = .ok (.iconst 0, 1) := by decide +kernel
theorem dX7_raised_3 : decode cX7_raised 3 = .ok (.istore_n 3, 1) := by decide +kernel
theorem dX7_raised_4 : decode cX7_raised 4 = .ok (.iload_n 3, 1) := by decide +kernel
theorem dX7_raised_5 : decode cX7_raised 5 = .ok (.iload_n 1, 1) := by decide +kernel
theorem dX7_raised_6 : decode cX7_raised 6 = .ok (.if_icmp .ge 13, 3) := by decide +kernel
theorem dX7_raised_9 : decode cX7_raised 9 = .ok (.iload_n 2, 1) := by decide +kernel
theorem dX7_raised_10 : decode cX7_raised 10 = .ok (.iload_n 0, 1) := by decide +kernel
theorem dX7_raised_11 : decode cX7_raised 11 = .ok (.imul, 1) := by decide +kernel
theorem dX7_raised_12 : decode cX7_raised 12 = .ok (.istore_n 2, 1) := by decide +kernel
theorem dX7_raised_13 : decode cX7_raised 13 = .ok (.iinc 3 1, 3) := by decide +kernel
theorem dX7_raised_16 : decode cX7_raised 16 = .ok (.goto (-12), 3) := by decide +kernel
theorem dX7_raised_19 : decode cX7_raised 19 = .ok (.iload_n 2, 1) := by decide +kernel
theorem dX7_raised_20 : decode cX7_raised 20 = .ok (.ireturn, 1) := by decide +kernel
theorem dX8_init_0 : decode cX8_init 0 = .ok (.aload_n 0, 1) := by decide +kernel
theorem dX8_init_1 : decode cX8_init 1 = .ok (.invokespecial 1, 3) := by decide +kernel
theorem dX8_init_4 : decode cX8_init 4 = .ok (.aload_n 0, 1) := by decide +kernel
theorem dX8_init_5 : decode cX8_init 5 = .ok (.bipush 6, 2) := by decide +kernel
theorem dX8_init_7 : decode cX8_init 7 = .ok (.newarray .int, 2) := by decide +kernel
theorem dX8_init_9 : decode cX8_init 9 = .ok (.putfield 7, 3) := by decide +kernel
theorem dX8_init_12 : decode cX8_init 12 = .ok (.aload_n 0, 1) := by decide +kernel
theorem dX8_init_13 : decode cX8_init 13 = .ok (.sipush 240, 3) := by decide +kernel
theorem dX8_init_16 : decode cX8_init 16 = .ok (.newarray .int, 2) := by decide +kernel
theorem dX8_init_18 : decode cX8_init 18 = .ok (.putfield 13, 3) := by decide +kernel
theorem dX8_init_21 : decode cX8_init 21 = .ok (.aload_n 0, 1) := by decide +kernel
theorem dX8_init_22 : decode cX8_init 22 = .ok (.bipush 40, 2) := by decide +kernel
theorem dX8_init_24 : decode cX8_init 24 = .ok (.newarray .int, 2) := by decide +kernel
theorem dX8_init_26 : decode cX8_init 26 = .ok (.putfield 16, 3) := by decide +kernel
theorem dX8_init_29 : decode cX8_init 29 = .ok (.aload_n 0, 1) := by decide +kernel
theorem dX8_init_30 : decode cX8_init 30 = .ok (.iconst 4, 1) := by decide +kernel
theorem dX8_init_31 : decode cX8_init 31 = .ok (.newarray .int, 2) := by decide +kernel
theorem dX8_init_33 : decode cX8_init 33 = .ok (.putfield 19, 3) := by decide +kernel
theorem dX8_init_36 : decode cX8_init 36 = .ok (.aload_n 0, 1) := by decide +kernel
theorem dX8_init_37 : decode cX8_init 37 = .ok (.sipush 240, 3) := by decide +kernel
theorem dX8_init_40 : decode cX8_init 40 = .ok (.newarray .byte, 2) := by decide +kernel
theorem dX8_init_42 : decode cX8_init 42 = .ok (.putfield 22, 3) := by decide +kernel
theorem dX8_init_45 : decode cX8_init 45 = .ok (.aload_n 0, 1) := by decide +kernel
theorem dX8_init_46 : decode cX8_init 46 = .ok (.bipush 33, 2) := by decide +kernel
theorem dX8_init_48 : decode cX8_init 48 = .ok (.newarray .int, 2) := by decide +kernel
theorem dX8_init_50 : decode cX8_init 50 = .ok (.putfield 26, 3) := by decide +kernel
theorem dX8_init_53 : decode cX8_init 53 = .ok (.aload_n 0, 1) := by decide +kernel
theorem dX8_init_54 : decode cX8_init 54 = .ok (.bipush 33, 2) := by decide +kernel
theorem dX8_init_56 : decode cX8_init 56 = .ok (.newarray .int, 2) := by decide +kernel
theorem dX8_init_58 : decode cX8_init 58 = .ok (.putfield 29, 3) := by decide +kernel
theorem dX8_init_61 : decode cX8_init 61 = .ok (.aload_n 0, 1) := by decide +kernel
theorem dX8_init_62 : decode cX8_init 62 = .ok (.bipush 33, 2) := by decide +kernel
theorem dX8_init_64 : decode cX8_init 64 = .ok (.newarray .int, 2) := by decide +kernel
theorem dX8_init_66 : decode cX8_init 66 = .ok (.putfield 32, 3) := by decide +kernel
theorem dX8_init_69 : decode cX8_init 69 = .ok (.aload_n 0, 1) := by decide +kernel
theorem dX8_init_70 : decode cX8_init 70 = .ok (.bipush 33, 2) := by decide +kernel
theorem dX8_init_72 : decode cX8_init 72 = .ok (.newarray .int, 2) := by decide +kernel
theorem dX8_init_74 : decode cX8_init 74 = .ok (.putfield 35, 3) := by decide +kernel
theorem dX8_init_77 : decode cX8_init 77 = .ok (.aload_n 0, 1) := by decide +kernel
theorem dX8_init_78 : decode cX8_init 78 = .ok (.sipush 720, 3) := by decide +kernel
theorem dX8_init_81 : decode cX8_init 81 = .ok (.newarray .int, 2) := by decide +kernel
theorem dX8_init_83 : decode cX8_init 83 = .ok (.putfield 38, 3) := by decide +kernel
theorem dX8_init_86 : decode cX8_init 86 = .ok (.aload_n 0, 1) := by decide +kernel
theorem dX8_init_87 : decode cX8_init 87 = .ok (.bipush 99, 2) := by decide +kernel
theorem dX8_init_89 : decode cX8_init 89 = .ok (.newarray .int, 2) := by decide +kernel
theorem dX8_init_91 : decode cX8_init 91 = .ok (.putfield 41, 3) := by decide +kernel
theorem dX8_init_94 : decode cX8_init 94 = .ok (.aload_n 0, 1) := by decide +kernel
theorem dX8_init_95 : decode cX8_init 95 = .ok (.sipush 2160, 3) := by decide +kernel
theorem dX8_init_98 : decode cX8_init 98 = .ok (.newarray .int, 2) := by decide +kernel
theorem dX8_init_100 : decode cX8_init 100 = .ok (.putfield 44, 3) := by decide +kernel
theorem dX8_init_103 : decode cX8_init 103 = .ok (.aload_n 0, 1) := by decide +kernel
theorem dX8_init_104 : decode cX8_init 104 = .ok (.iconst 3, 1) := by decide +kernel
theorem dX8_init_105 : decode cX8_init 105 = .ok (.newarray .int, 2) := by decide +kernel
theorem dX8_init_107 : decode cX8_init 107 = .ok (.putfield 47, 3) := by decide +kernel
theorem dX8_init_110 : decode cX8_init 110 = .ok (.aload_n 0, 1) := by decide +kernel
theorem dX8_init_111 : decode cX8_init 111 = .ok (.lconst 1, 1) := by decide +kernel
theorem dX8_init_112 : decode cX8_init 112 = .ok (.putfield 50, 3) := by decide +kernel
theorem dX8_init_115 : decode cX8_init 115 = .ok (.aload_n 0, 1) := by decide +kernel
theorem dX8_init_116 : decode cX8_init 116 = .ok (.bipush 6, 2) := by decide +kernel
theorem dX8_init_118 : decode cX8_init 118 = .ok (.newarray .int, 2) := by decide +kernel
theorem dX8_init_120 : decode cX8_init 120 = .ok (.putfield 54, 3) := by decide +kernel
theorem dX8_init_123 : decode cX8_init 123 = .ok (.aload_n 0, 1) := by decide +kernel
theorem dX8_init_124 : decode cX8_init 124 = .ok (.bipush 61, 2) := by decide +kernel
theorem dX8_init_126 : decode cX8_init 126 = .ok (.newarray .int, 2) := by decide +kernel
theorem dX8_init_128 : decode cX8_init 128 = .ok (.putfield 57, 3) := by decide +kernel
theorem dX8_init_131 : decode cX8_init 131 = .ok (.aload_n 0, 1) := by decide +kernel
theorem dX8_init_132 : decode cX8_init 132 = .ok (.bipush 10, 2) := by decide +kernel
theorem dX8_init_134 : decode cX8_init 134 = .ok (.newarray .int, 2) := by decide +kernel
theorem dX8_init_136 : decode cX8_init 136 = .ok (.putfield 60, 3) := by decide +kernel
theorem dX8_init_139 : decode cX8_init 139 = .ok (.aload_n 0, 1) := by decide +kernel
theorem dX8_init_140 : decode cX8_init 140 = .ok (.bipush 126, 2) := by decide +kernel
theorem dX8_init_142 : decode cX8_init 142 = .ok (.newarray .int, 2) := by decide +kernel
theorem dX8_init_144 : decode cX8_init 144 = .ok (.putfield 63, 3) := by decide +kernel
theorem dX8_init_147 : decode cX8_init 147 = .ok (.iconst 0, 1) := by decide +kernel
theorem dX8_init_148 : decode cX8_init 148 = .ok (.istore_n 1, 1) := by decide +kernel
theorem dX8_init_149 : decode cX8_init 149 = .ok (.iload_n 1, 1) := by decide +kernel
theorem dX8_init_150 : decode cX8_init 150 = .ok (.bipush 6, 2) := by decide +kernel
theorem dX8_init_152 : decode cX8_init 152 = .ok (.if_icmp .ge 16, 3) := by decide +kernel
theorem dX8_init_155 : decode cX8_init 155 = .ok (.aload_n 0, 1) := by decide +kernel
theorem dX8_init_156 : decode cX8_init 156 = .ok (.getfield 7, 3) := by decide +kernel
theorem dX8_init_159 : decode cX8_init 159 = .ok (.iload_n 1, 1) := by decide +kernel
theorem dX8_init_160 : decode cX8_init 160 = .ok (.iconst (-1), 1) := by decide +kernel
theorem dX8_init_161 : decode cX8_init 161 = .ok (.iastore, 1) := by decide +kernel
theorem dX8_init_162 : decode cX8_init 162 = .ok (.iinc 1 1, 3) := by decide +kernel
theorem dX8_init_165 : decode cX8_init 165 = .ok (.goto (-16), 3) := by decide +kernel
theorem dX8_init_168 : decode cX8_init 168 = .ok (.iconst 0, 1) := by decide +kernel
theorem dX8_init_169 : decode cX8_init 169 = .ok (.istore_n 1, 1) := by decide +kernel
theorem dX8_init_170 : decode cX8_init 170 = .ok (.iload_n 1, 1) := by decide +kernel
theorem dX8_init_171 : decode cX8_init 171 = .ok (.iconst 4, 1) := by decide +kernel
theorem dX8_init_172 : decode cX8_init 172 = .ok (.if_icmp .ge 16, 3) := by decide +kernel
theorem dX8_init_175 : decode cX8_init 175 = .ok (.aload_n 0, 1) := by decide +kernel
theorem dX8_init_176 : decode cX8_init 176 = .ok (.getfield 19, 3) := by decide +kernel
theorem dX8_init_179 : decode cX8_init 179 = .ok (.iload_n 1, 1) := by decide +kernel
theorem dX8_init_180 : decode cX8_init 180 = .ok (.iconst (-1), 1) := by decide +kernel
theorem dX8_init_181 : decode cX8_init 181 = .ok (.iastore, 1) := by decide +kernel
theorem dX8_init_182 : decode cX8_init 182 = .ok (.iinc 1 1, 3) := by decide +kernel
theorem dX8_init_185 : decode cX8_init 185 = .ok (.goto (-15), 3) := by decide +kernel
theorem dX8_init_188 : decode cX8_init 188 = .ok (.iconst 0, 1) := by decide +kernel
theorem dX8_init_189 : decode cX8_init 189 = .ok (.istore_n 1, 1) := by decide +kernel
theorem dX8_init_190 : decode cX8_init 190 = .ok (.iload_n 1, 1) := by decide +kernel
theorem dX8_init_191 : decode cX8_init 191 = .ok (.aload_n 0, 1) := by decide +kernel
theorem dX8_init_192 : decode cX8_init 192 = .ok (.getfield 47, 3) := by decide +kernel
theorem dX8_init_195 : decode cX8_init 195 = .ok (.arraylength, 1) := by decide +kernel
theorem dX8_init_196 : decode cX8_init 196 = .ok (.if_icmp .ge 16, 3) := by decide +kernel
theorem dX8_init_199 : decode cX8_init 199 = .ok (.aload_n 0, 1) := by decide +kernel
theorem dX8_init_200 : decode cX8_init 200 = .ok (.getfield 47, 3) := by decide +kernel
theorem dX8_init_203 : decode cX8_init 203 = .ok (.iload_n 1, 1) := by decide +kernel
theorem dX8_init_204 : decode cX8_init 204 = .ok (.iconst (-1), 1) := by decide +kernel
theorem dX8_init_205 : decode cX8_init 205 = .ok (.iastore, 1) := by decide +kernel
theorem dX8_init_206 : decode cX8_init 206 = .ok (.iinc 1 1, 3) := by decide +kernel
theorem dX8_init_209 : decode cX8_init 209 = .ok (.goto (-19), 3) := by decide +kernel
theorem dX8_init_212 : decode cX8_init 212 = .ok (.return_, 1) := by decide +kernel
theorem dX8_in_0 : decode cX8_in 0 = .ok (.iload_n 0, 1) := by decide +kernel
theorem dX8_in_1 : decode cX8_in 1 = .ok (.iload_n 1, 1) := by decide +kernel
theorem dX8_in_2 : decode cX8_in 2 = .ok (.if_icmp .lt 12, 3) := by decide +kernel
theorem dX8_in_5 : decode cX8_in 5 = .ok (.iload_n 0, 1) := by decide +kernel
theorem dX8_in_6 : decode cX8_in 6 = .ok (.iload_n 2, 1) := by decide +kernel
theorem dX8_in_7 : decode cX8_in 7 = .ok (.if_icmp .gt 7, 3) := by decide +kernel
theorem dX8_in_10 : decode cX8_in 10 = .ok (.iconst 1, 1) := by decide +kernel
theorem dX8_in_11 : decode cX8_in 11 = .ok (.goto 4, 3) := by decide +kernel
theorem dX8_in_14 : decode cX8_in 14 = .ok (.iconst 0, 1) := by decide +kernel
theorem dX8_in_15 : decode cX8_in 15 = .ok (.ireturn, 1) := by decide +kernel
theorem dX8_finds_0 : decode cX8_finds 0 = .ok (.aload_n 0, 1) := by decide +kernel
theorem dX8_finds_1 : decode cX8_finds 1 = .ok (.iload_n 1, 1) := by decide +kernel
theorem dX8_finds_2 : decode cX8_finds 2 = .ok (.putfield 66, 3) := by decide +kernel
theorem dX8_finds_5 : decode cX8_finds 5 = .ok (.aload_n 0, 1) := by decide +kernel
theorem dX8_finds_6 : decode cX8_finds 6 = .ok (.getfield 54, 3) := by decide +kernel
theorem dX8_finds_9 : decode cX8_finds 9 = .ok (.iload_n 1, 1) := by decide +kernel
theorem dX8_finds_10 : decode cX8_finds 10 = .ok (.dup2, 1) := by decide +kernel
theorem dX8_finds_11 : decode cX8_finds 11 = .ok (.iaload, 1) := by decide +kernel
theorem dX8_finds_12 : decode cX8_finds 12 = .ok (.iconst 1, 1) := by decide +kernel
theorem dX8_finds_13 : decode cX8_finds 13 = .ok (.iadd, 1) := by decide +kernel
theorem dX8_finds_14 : decode cX8_finds 14 = .ok (.iastore, 1) := by decide +kernel
theorem dX8_finds_15 : decode cX8_finds 15 = .ok (.bipush (-3), 2) := by decide +kernel
theorem dX8_finds_17 : decode cX8_finds 17 = .ok (.ireturn, 1) := by decide +kernel
theorem dX8_tells_0 : decode cX8_tells 0 = .ok (.aload_n 0, 1) := by decide +kernel
theorem dX8_tells_1 : decode cX8_tells 1 = .ok (.iload_n 1, 1) := by decide +kernel
theorem dX8_tells_2 : decode cX8_tells 2 = .ok (.putfield 70, 3) := by decide +kernel
theorem dX8_tells_5 : decode cX8_tells 5 = .ok (.iconst 1, 1) := by decide +kernel
theorem dX8_tells_6 : decode cX8_tells 6 = .ok (.ireturn, 1) := by decide +kernel
theorem dX8_isRow_0 : decode cX8_isRow 0 = .ok (.iload_n 0, 1) := by decide +kernel
theorem dX8_isRow_1 : decode cX8_isRow 1 = .ok (.iconst 0, 1) := by decide +kernel
theorem dX8_isRow_2 : decode cX8_isRow 2 = .ok (.iconst 5, 1) := by decide +kernel
theorem dX8_isRow_3 : decode cX8_isRow 3 = .ok (.invokestatic 73, 3) := by decide +kernel
theorem dX8_isRow_6 : decode cX8_isRow 6 = .ok (.ireturn, 1) := by decide +kernel
theorem dX8_isText_0 : decode cX8_isText 0 = .ok (.iload_n 0, 1) := by decide +kernel
theorem dX8_isText_1 : decode cX8_isText 1 = .ok (.iconst 0, 1) := by decide +kernel
theorem dX8_isText_2 : decode cX8_isText 2 = .ok (.iconst 3, 1) := by decide +kernel
theorem dX8_isText_3 : decode cX8_isText 3 = .ok (.invokestatic 73, 3) := by decide +kernel
theorem dX8_isText_6 : decode cX8_isText 6 = .ok (.ireturn, 1) := by decide +kernel
theorem dX8_anew_0 : decode cX8_anew 0 = .ok (.aload_n 0, 1) := by decide +kernel
theorem dX8_anew_1 : decode cX8_anew 1 = .ok (.getfield 7, 3) := by decide +kernel
theorem dX8_anew_4 : decode cX8_anew 4 = .ok (.iload_n 1, 1) := by decide +kernel
theorem dX8_anew_5 : decode cX8_anew 5 = .ok (.iload_n 2, 1) := by decide +kernel
theorem dX8_anew_6 : decode cX8_anew 6 = .ok (.iastore, 1) := by decide +kernel
theorem dX8_anew_7 : decode cX8_anew 7 = .ok (.iconst 0, 1) := by decide +kernel
theorem dX8_anew_8 : decode cX8_anew 8 = .ok (.istore_n 3, 1) := by decide +kernel
theorem dX8_anew_9 : decode cX8_anew 9 = .ok (.iload_n 3, 1) := by decide +kernel
theorem dX8_anew_10 : decode cX8_anew 10 = .ok (.bipush 40, 2) := by decide +kernel
theorem dX8_anew_12 : decode cX8_anew 12 = .ok (.if_icmp .ge 21, 3) := by decide +kernel
theorem dX8_anew_15 : decode cX8_anew 15 = .ok (.aload_n 0, 1) := by decide +kernel
theorem dX8_anew_16 : decode cX8_anew 16 = .ok (.getfield 13, 3) := by decide +kernel
theorem dX8_anew_19 : decode cX8_anew 19 = .ok (.bipush 40, 2) := by decide +kernel
theorem dX8_anew_21 : decode cX8_anew 21 = .ok (.iload_n 1, 1) := by decide +kernel
theorem dX8_anew_22 : decode cX8_anew 22 = .ok (.imul, 1) := by decide +kernel
theorem dX8_anew_23 : decode cX8_anew 23 = .ok (.iload_n 3, 1) := by decide +kernel
theorem dX8_anew_24 : decode cX8_anew 24 = .ok (.iadd, 1) := by decide +kernel
theorem dX8_anew_25 : decode cX8_anew 25 = .ok (.iconst 0, 1) := by decide +kernel
theorem dX8_anew_26 : decode cX8_anew 26 = .ok (.iastore, 1) := by decide +kernel
theorem dX8_anew_27 : decode cX8_anew 27 = .ok (.iinc 3 1, 3) := by decide +kernel
theorem dX8_anew_30 : decode cX8_anew 30 = .ok (.goto (-21), 3) := by decide +kernel
theorem dX8_anew_33 : decode cX8_anew 33 = .ok (.return_, 1) := by decide +kernel
theorem dX8_row_0 : decode cX8_row 0 = .ok (.iload_n 1, 1) := by decide +kernel
theorem dX8_row_1 : decode cX8_row 1 = .ok (.invokestatic 77, 3) := by decide +kernel
theorem dX8_row_4 : decode cX8_row 4 = .ok (.ifCond .eq 9, 3) := by decide +kernel
theorem dX8_row_7 : decode cX8_row 7 = .ok (.iload_n 2, 1) := by decide +kernel
theorem dX8_row_8 : decode cX8_row 8 = .ok (.bipush 40, 2) := by decide +kernel
theorem dX8_row_10 : decode cX8_row 10 = .ok (.if_icmp .le 5, 3) := by decide +kernel
theorem dX8_row_13 : decode cX8_row 13 = .ok (.iconst (-1), 1) := by decide +kernel
theorem dX8_row_14 : decode cX8_row 14 = .ok (.ireturn, 1) := by decide +kernel
theorem dX8_row_15 : decode cX8_row 15 = .ok (.iload_n 2, 1) := by decide +kernel
theorem dX8_row_16 : decode cX8_row 16 = .ok (.ifCond .ge 9, 3) := by decide +kernel
theorem dX8_row_19 : decode cX8_row 19 = .ok (.aload_n 0, 1) := by decide +kernel
theorem dX8_row_20 : decode cX8_row 20 = .ok (.iconst 5, 1) := by decide +kernel
theorem dX8_row_21 : decode cX8_row 21 = .ok (.invokevirtual 81, 3) := by decide +kernel
theorem dX8_row_24 : decode cX8_row 24 = .ok (.ireturn, 1) := by decide +kernel
theorem dX8_row_25 : decode cX8_row 25 = .ok (.aload_n 0, 1) := by decide +kernel
theorem dX8_row_26 : decode cX8_row 26 = .ok (.iload_n 1, 1) := by decide +kernel
theorem dX8_row_27 : decode cX8_row 27 = .ok (.iload_n 2, 1) := by decide +kernel
theorem dX8_row_28 : decode cX8_row 28 = .ok (.invokevirtual 85, 3) := by decide +kernel
theorem dX8_row_31 : decode cX8_row 31 = .ok (.iload_n 2, 1) := by decide +kernel
theorem dX8_row_32 : decode cX8_row 32 = .ok (.ireturn, 1) := by decide +kernel
theorem dX8_lay_0 : decode cX8_lay 0 = .ok (.iload_n 1, 1) := by decide +kernel
theorem dX8_lay_1 : decode cX8_lay 1 = .ok (.invokestatic 77, 3) := by decide +kernel
theorem dX8_lay_4 : decode cX8_lay 4 = .ok (.ifCond .ne 5, 3) := by decide +kernel
theorem dX8_lay_7 : decode cX8_lay 7 = .ok (.iconst (-1), 1) := by decide +kernel
theorem dX8_lay_8 : decode cX8_lay 8 = .ok (.ireturn, 1) := by decide +kernel
theorem dX8_lay_9 : decode cX8_lay 9 = .ok (.aload_n 0, 1) := by decide +kernel
theorem dX8_lay_10 : decode cX8_lay 10 = .ok (.getfield 7, 3) := by decide +kernel
theorem dX8_lay_13 : decode cX8_lay 13 = .ok (.iload_n 1, 1) := by decide +kernel
theorem dX8_lay_14 : decode cX8_lay 14 = .ok (.iaload, 1) := by decide +kernel
theorem dX8_lay_15 : decode cX8_lay 15 = .ok (.ifCond .ge 9, 3) := by decide +kernel
theorem dX8_lay_18 : decode cX8_lay 18 = .ok (.aload_n 0, 1) := by decide +kernel
theorem dX8_lay_19 : decode cX8_lay 19 = .ok (.iconst 1, 1) := by decide +kernel
theorem dX8_lay_20 : decode cX8_lay 20 = .ok (.invokevirtual 81, 3) := by decide +kernel
theorem dX8_lay_23 : decode cX8_lay 23 = .ok (.ireturn, 1) := by decide +kernel
theorem dX8_lay_24 : decode cX8_lay 24 = .ok (.iload_n 2, 1) := by decide +kernel
theorem dX8_lay_25 : decode cX8_lay 25 = .ok (.iconst 0, 1) := by decide +kernel
theorem dX8_lay_26 : decode cX8_lay 26 = .ok (.aload_n 0, 1) := by decide +kernel
theorem dX8_lay_27 : decode cX8_lay 27 = .ok (.getfield 7, 3) := by decide +kernel
theorem dX8_lay_30 : decode cX8_lay 30 = .ok (.iload_n 1, 1) := by decide +kernel
theorem dX8_lay_31 : decode cX8_lay 31 = .ok (.iaload, 1) := by decide +kernel
theorem dX8_lay_32 : decode cX8_lay 32 = .ok (.iconst 1, 1) := by decide +kernel
theorem dX8_lay_33 : decode cX8_lay 33 = .ok (.isub, 1) := by decide +kernel
theorem dX8_lay_34 : decode cX8_lay 34 = .ok (.invokestatic 73, 3) := by decide +kernel
theorem dX8_lay_37 : decode cX8_lay 37 = .ok (.ifCond .ne 9, 3) := by decide +kernel
theorem dX8_lay_40 : decode cX8_lay 40 = .ok (.aload_n 0, 1) := by decide +kernel
theorem dX8_lay_41 : decode cX8_lay 41 = .ok (.iconst 2, 1) := by decide +kernel
theorem dX8_lay_42 : decode cX8_lay 42 = .ok (.invokevirtual 81, 3) := by decide +kernel
theorem dX8_lay_45 : decode cX8_lay 45 = .ok (.ireturn, 1) := by decide +kernel
theorem dX8_lay_46 : decode cX8_lay 46 = .ok (.aload_n 0, 1) := by decide +kernel
theorem dX8_lay_47 : decode cX8_lay 47 = .ok (.getfield 13, 3) := by decide +kernel
theorem dX8_lay_50 : decode cX8_lay 50 = .ok (.bipush 40, 2) := by decide +kernel
theorem dX8_lay_52 : decode cX8_lay 52 = .ok (.iload_n 1, 1) := by decide +kernel
theorem dX8_lay_53 : decode cX8_lay 53 = .ok (.imul, 1) := by decide +kernel
theorem dX8_lay_54 : decode cX8_lay 54 = .ok (.iload_n 2, 1) := by decide +kernel
theorem dX8_lay_55 : decode cX8_lay 55 = .ok (.iadd, 1) := by decide +kernel
theorem dX8_lay_56 : decode cX8_lay 56 = .ok (.iaload, 1) := by decide +kernel
theorem dX8_lay_57 : decode cX8_lay 57 = .ok (.istore 4, 2) := by decide +kernel
theorem dX8_lay_59 : decode cX8_lay 59 = .ok (.aload_n 0, 1) := by decide +kernel
theorem dX8_lay_60 : decode cX8_lay 60 = .ok (.getfield 13, 3) := by decide +kernel
theorem dX8_lay_63 : decode cX8_lay 63 = .ok (.bipush 40, 2) := by decide +kernel
theorem dX8_lay_65 : decode cX8_lay 65 = .ok (.iload_n 1, 1) := by decide +kernel
theorem dX8_lay_66 : decode cX8_lay 66 = .ok (.imul, 1) := by decide +kernel
theorem dX8_lay_67 : decode cX8_lay 67 = .ok (.iload_n 2, 1) := by decide +kernel
theorem dX8_lay_68 : decode cX8_lay 68 = .ok (.iadd, 1) := by decide +kernel
theorem dX8_lay_69 : decode cX8_lay 69 = .ok (.iload_n 3, 1) := by decide +kernel
theorem dX8_lay_70 : decode cX8_lay 70 = .ok (.iastore, 1) := by decide +kernel
theorem dX8_lay_71 : decode cX8_lay 71 = .ok (.aload_n 0, 1) := by decide +kernel
theorem dX8_lay_72 : decode cX8_lay 72 = .ok (.iload 4, 2) := by decide +kernel
theorem dX8_lay_74 : decode cX8_lay 74 = .ok (.invokevirtual 89, 3) := by decide +kernel
theorem dX8_lay_77 : decode cX8_lay 77 = .ok (.ireturn, 1) := by decide +kernel
theorem dX8_at_0 : decode cX8_at 0 = .ok (.iload_n 1, 1) := by decide +kernel
theorem dX8_at_1 : decode cX8_at 1 = .ok (.invokestatic 77, 3) := by decide +kernel
theorem dX8_at_4 : decode cX8_at 4 = .ok (.ifCond .ne 5, 3) := by decide +kernel
theorem dX8_at_7 : decode cX8_at 7 = .ok (.iconst (-1), 1) := by decide +kernel
theorem dX8_at_8 : decode cX8_at 8 = .ok (.ireturn, 1) := by decide +kernel
theorem dX8_at_9 : decode cX8_at 9 = .ok (.aload_n 0, 1) := by decide +kernel
theorem dX8_at_10 : decode cX8_at 10 = .ok (.getfield 7, 3) := by decide +kernel
theorem dX8_at_13 : decode cX8_at 13 = .ok (.iload_n 1, 1) := by decide +kernel
theorem dX8_at_14 : decode cX8_at 14 = .ok (.iaload, 1) := by decide +kernel
theorem dX8_at_15 : decode cX8_at 15 = .ok (.ifCond .ge 9, 3) := by decide +kernel
theorem dX8_at_18 : decode cX8_at 18 = .ok (.aload_n 0, 1) := by decide +kernel
theorem dX8_at_19 : decode cX8_at 19 = .ok (.iconst 1, 1) := by decide +kernel
theorem dX8_at_20 : decode cX8_at 20 = .ok (.invokevirtual 81, 3) := by decide +kernel
theorem dX8_at_23 : decode cX8_at 23 = .ok (.ireturn, 1) := by decide +kernel
theorem dX8_at_24 : decode cX8_at 24 = .ok (.iload_n 2, 1) := by decide +kernel
theorem dX8_at_25 : decode cX8_at 25 = .ok (.iconst 0, 1) := by decide +kernel
theorem dX8_at_26 : decode cX8_at 26 = .ok (.aload_n 0, 1) := by decide +kernel
theorem dX8_at_27 : decode cX8_at 27 = .ok (.getfield 7, 3) := by decide +kernel
theorem dX8_at_30 : decode cX8_at 30 = .ok (.iload_n 1, 1) := by decide +kernel
theorem dX8_at_31 : decode cX8_at 31 = .ok (.iaload, 1) := by decide +kernel
theorem dX8_at_32 : decode cX8_at 32 = .ok (.iconst 1, 1) := by decide +kernel
theorem dX8_at_33 : decode cX8_at 33 = .ok (.isub, 1) := by decide +kernel
theorem dX8_at_34 : decode cX8_at 34 = .ok (.invokestatic 73, 3) := by decide +kernel
theorem dX8_at_37 : decode cX8_at 37 = .ok (.ifCond .eq 21, 3) := by decide +kernel
theorem dX8_at_40 : decode cX8_at 40 = .ok (.aload_n 0, 1) := by decide +kernel
theorem dX8_at_41 : decode cX8_at 41 = .ok (.aload_n 0, 1) := by decide +kernel
theorem dX8_at_42 : decode cX8_at 42 = .ok (.getfield 13, 3) := by decide +kernel
theorem dX8_at_45 : decode cX8_at 45 = .ok (.bipush 40, 2) := by decide +kernel
theorem dX8_at_47 : decode cX8_at 47 = .ok (.iload_n 1, 1) := by decide +kernel
theorem dX8_at_48 : decode cX8_at 48 = .ok (.imul, 1) := by decide +kernel
theorem dX8_at_49 : decode cX8_at 49 = .ok (.iload_n 2, 1) := by decide +kernel
theorem dX8_at_50 : decode cX8_at 50 = .ok (.iadd, 1) := by decide +kernel
theorem dX8_at_51 : decode cX8_at 51 = .ok (.iaload, 1) := by decide +kernel
theorem dX8_at_52 : decode cX8_at 52 = .ok (.invokevirtual 89, 3) := by decide +kernel
theorem dX8_at_55 : decode cX8_at 55 = .ok (.goto 8, 3) := by decide +kernel
theorem dX8_at_58 : decode cX8_at 58 = .ok (.aload_n 0, 1) := by decide +kernel
theorem dX8_at_59 : decode cX8_at 59 = .ok (.iconst 2, 1) := by decide +kernel
theorem dX8_at_60 : decode cX8_at 60 = .ok (.invokevirtual 81, 3) := by decide +kernel
theorem dX8_at_63 : decode cX8_at 63 = .ok (.ireturn, 1) := by decide +kernel
theorem dX8_tear_0 : decode cX8_tear 0 = .ok (.iload_n 1, 1) := by decide +kernel
theorem dX8_tear_1 : decode cX8_tear 1 = .ok (.invokestatic 77, 3) := by decide +kernel
theorem dX8_tear_4 : decode cX8_tear 4 = .ok (.ifCond .ne 5, 3) := by decide +kernel
theorem dX8_tear_7 : decode cX8_tear 7 = .ok (.iconst (-1), 1) := by decide +kernel
theorem dX8_tear_8 : decode cX8_tear 8 = .ok (.ireturn, 1) := by decide +kernel
theorem dX8_tear_9 : decode cX8_tear 9 = .ok (.aload_n 0, 1) := by decide +kernel
theorem dX8_tear_10 : decode cX8_tear 10 = .ok (.getfield 7, 3) := by decide +kernel
theorem dX8_tear_13 : decode cX8_tear 13 = .ok (.iload_n 1, 1) := by decide +kernel
theorem dX8_tear_14 : decode cX8_tear 14 = .ok (.iaload, 1) := by decide +kernel
theorem dX8_tear_15 : decode cX8_tear 15 = .ok (.ifCond .ge 9, 3) := by decide +kernel
theorem dX8_tear_18 : decode cX8_tear 18 = .ok (.aload_n 0, 1) := by decide +kernel
theorem dX8_tear_19 : decode cX8_tear 19 = .ok (.iconst 1, 1) := by decide +kernel
theorem dX8_tear_20 : decode cX8_tear 20 = .ok (.invokevirtual 81, 3) := by decide +kernel
theorem dX8_tear_23 : decode cX8_tear 23 = .ok (.ireturn, 1) := by decide +kernel
theorem dX8_tear_24 : decode cX8_tear 24 = .ok (.aload_n 0, 1) := by decide +kernel
theorem dX8_tear_25 : decode cX8_tear 25 = .ok (.getfield 7, 3) := by decide +kernel
theorem dX8_tear_28 : decode cX8_tear 28 = .ok (.iload_n 1, 1) := by decide +kernel
theorem dX8_tear_29 : decode cX8_tear 29 = .ok (.iconst (-1), 1) := by decide +kernel
theorem dX8_tear_30 : decode cX8_tear 30 = .ok (.iastore, 1) := by decide +kernel
theorem dX8_tear_31 : decode cX8_tear 31 = .ok (.iconst 1, 1) := by decide +kernel
theorem dX8_tear_32 : decode cX8_tear 32 = .ok (.ireturn, 1) := by decide +kernel
theorem dX8_lies_0 : decode cX8_lies 0 = .ok (.iload_n 2, 1) := by decide +kernel
theorem dX8_lies_1 : decode cX8_lies 1 = .ok (.ifCond .lt 29, 3) := by decide +kernel
theorem dX8_lies_4 : decode cX8_lies 4 = .ok (.iload_n 3, 1) := by decide +kernel
theorem dX8_lies_5 : decode cX8_lies 5 = .ok (.aload_n 0, 1) := by decide +kernel
theorem dX8_lies_6 : decode cX8_lies 6 = .ok (.getfield 7, 3) := by decide +kernel
theorem dX8_lies_9 : decode cX8_lies 9 = .ok (.iload_n 1, 1) := by decide +kernel
theorem dX8_lies_10 : decode cX8_lies 10 = .ok (.iaload, 1) := by decide +kernel
theorem dX8_lies_11 : decode cX8_lies 11 = .ok (.if_icmp .gt 19, 3) := by decide +kernel
theorem dX8_lies_14 : decode cX8_lies 14 = .ok (.iload_n 2, 1) := by decide +kernel
theorem dX8_lies_15 : decode cX8_lies 15 = .ok (.aload_n 0, 1) := by decide +kernel
theorem dX8_lies_16 : decode cX8_lies 16 = .ok (.getfield 7, 3) := by decide +kernel
theorem dX8_lies_19 : decode cX8_lies 19 = .ok (.iload_n 1, 1) := by decide +kernel
theorem dX8_lies_20 : decode cX8_lies 20 = .ok (.iaload, 1) := by decide +kernel
theorem dX8_lies_21 : decode cX8_lies 21 = .ok (.iload_n 3, 1) := by decide +kernel
theorem dX8_lies_22 : decode cX8_lies 22 = .ok (.isub, 1) := by decide +kernel
theorem dX8_lies_23 : decode cX8_lies 23 = .ok (.if_icmp .gt 7, 3) := by decide +kernel
theorem dX8_lies_26 : decode cX8_lies 26 = .ok (.iconst 1, 1) := by decide +kernel
theorem dX8_lies_27 : decode cX8_lies 27 = .ok (.goto 4, 3) := by decide +kernel
theorem dX8_lies_30 : decode cX8_lies 30 = .ok (.iconst 0, 1) := by decide +kernel
theorem dX8_lies_31 : decode cX8_lies 31 = .ok (.ireturn, 1) := by decide +kernel
theorem dX8_copy_0 : decode cX8_copy 0 = .ok (.iload_n 1, 1) := by decide +kernel
theorem dX8_copy_1 : decode cX8_copy 1 = .ok (.invokestatic 77, 3) := by decide +kernel
theorem dX8_copy_4 : decode cX8_copy 4 = .ok (.ifCond .eq 10, 3) := by decide +kernel
theorem dX8_copy_7 : decode cX8_copy 7 = .ok (.iload_n 3, 1) := by decide +kernel
theorem dX8_copy_8 : decode cX8_copy 8 = .ok (.invokestatic 77, 3) := by decide +kernel
theorem dX8_copy_11 : decode cX8_copy 11 = .ok (.ifCond .ne 5, 3) := by decide +kernel
theorem dX8_copy_14 : decode cX8_copy 14 = .ok (.iconst (-1), 1) := by decide +kernel
theorem dX8_copy_15 : decode cX8_copy 15 = .ok (.ireturn, 1) := by decide +kernel
theorem dX8_copy_16 : decode cX8_copy 16 = .ok (.iload 5, 2) := by decide +kernel
theorem dX8_copy_18 : decode cX8_copy 18 = .ok (.ifCond .ge 9, 3) := by decide +kernel
theorem dX8_copy_21 : decode cX8_copy 21 = .ok (.aload_n 0, 1) := by decide +kernel
theorem dX8_copy_22 : decode cX8_copy 22 = .ok (.iconst 5, 1) := by decide +kernel
theorem dX8_copy_23 : decode cX8_copy 23 = .ok (.invokevirtual 81, 3) := by decide +kernel
theorem dX8_copy_26 : decode cX8_copy 26 = .ok (.ireturn, 1) := by decide +kernel
theorem dX8_copy_27 : decode cX8_copy 27 = .ok (.aload_n 0, 1) := by decide +kernel
theorem dX8_copy_28 : decode cX8_copy 28 = .ok (.getfield 7, 3) := by decide +kernel
theorem dX8_copy_31 : decode cX8_copy 31 = .ok (.iload_n 1, 1) := by decide +kernel
theorem dX8_copy_32 : decode cX8_copy 32 = .ok (.iaload, 1) := by decide +kernel
theorem dX8_copy_33 : decode cX8_copy 33 = .ok (.ifCond .lt 12, 3) := by decide +kernel
theorem dX8_copy_36 : decode cX8_copy 36 = .ok (.aload_n 0, 1) := by decide +kernel
theorem dX8_copy_37 : decode cX8_copy 37 = .ok (.getfield 7, 3) := by decide +kernel
theorem dX8_copy_40 : decode cX8_copy 40 = .ok (.iload_n 3, 1) := by decide +kernel
theorem dX8_copy_41 : decode cX8_copy 41 = .ok (.iaload, 1) := by decide +kernel
theorem dX8_copy_42 : decode cX8_copy 42 = .ok (.ifCond .ge 9, 3) := by decide +kernel
theorem dX8_copy_45 : decode cX8_copy 45 = .ok (.aload_n 0, 1) := by decide +kernel
theorem dX8_copy_46 : decode cX8_copy 46 = .ok (.iconst 1, 1) := by decide +kernel
theorem dX8_copy_47 : decode cX8_copy 47 = .ok (.invokevirtual 81, 3) := by decide +kernel
theorem dX8_copy_50 : decode cX8_copy 50 = .ok (.ireturn, 1) := by decide +kernel
theorem dX8_copy_51 : decode cX8_copy 51 = .ok (.aload_n 0, 1) := by decide +kernel
theorem dX8_copy_52 : decode cX8_copy 52 = .ok (.iload_n 1, 1) := by decide +kernel
theorem dX8_copy_53 : decode cX8_copy 53 = .ok (.iload_n 2, 1) := by decide +kernel
theorem dX8_copy_54 : decode cX8_copy 54 = .ok (.iload 5, 2) := by decide +kernel
theorem dX8_copy_56 : decode cX8_copy 56 = .ok (.invokevirtual 92, 3) := by decide +kernel
theorem dX8_copy_59 : decode cX8_copy 59 = .ok (.ifCond .eq 15, 3) := by decide +kernel
theorem dX8_copy_62 : decode cX8_copy 62 = .ok (.aload_n 0, 1) := by decide +kernel
theorem dX8_copy_63 : decode cX8_copy 63 = .ok (.iload_n 3, 1) := by decide +kernel
theorem dX8_copy_64 : decode cX8_copy 64 = .ok (.iload 4, 2) := by decide +kernel
theorem dX8_copy_66 : decode cX8_copy 66 = .ok (.iload 5, 2) := by decide +kernel
theorem dX8_copy_68 : decode cX8_copy 68 = .ok (.invokevirtual 92, 3) := by decide +kernel
theorem dX8_copy_71 : decode cX8_copy 71 = .ok (.ifCond .ne 9, 3) := by decide +kernel
theorem dX8_copy_74 : decode cX8_copy 74 = .ok (.aload_n 0, 1) := by decide +kernel
theorem dX8_copy_75 : decode cX8_copy 75 = .ok (.iconst 2, 1) := by decide +kernel
theorem dX8_copy_76 : decode cX8_copy 76 = .ok (.invokevirtual 81, 3) := by decide +kernel
theorem dX8_copy_79 : decode cX8_copy 79 = .ok (.ireturn, 1) := by decide +kernel
theorem dX8_copy_80 : decode cX8_copy 80 = .ok (.iconst 0, 1) := by decide +kernel
theorem dX8_copy_81 : decode cX8_copy 81 = .ok (.istore 6, 2) := by decide +kernel
theorem dX8_copy_83 : decode cX8_copy 83 = .ok (.iload 6, 2) := by decide +kernel
theorem dX8_copy_85 : decode cX8_copy 85 = .ok (.iload 5, 2) := by decide +kernel
theorem dX8_copy_87 : decode cX8_copy 87 = .ok (.if_icmp .ge 30, 3) := by decide +kernel
theorem dX8_copy_90 : decode cX8_copy 90 = .ok (.aload_n 0, 1) := by decide +kernel
theorem dX8_copy_91 : decode cX8_copy 91 = .ok (.getfield 16, 3) := by decide +kernel
theorem dX8_copy_94 : decode cX8_copy 94 = .ok (.iload 6, 2) := by decide +kernel
theorem dX8_copy_96 : decode cX8_copy 96 = .ok (.aload_n 0, 1) := by decide +kernel
theorem dX8_copy_97 : decode cX8_copy 97 = .ok (.getfield 13, 3) := by decide +kernel
theorem dX8_copy_100 : decode cX8_copy 100 = .ok (.bipush 40, 2) := by decide +kernel
theorem dX8_copy_102 : decode cX8_copy 102 = .ok (.iload_n 1, 1) := by decide +kernel
theorem dX8_copy_103 : decode cX8_copy 103 = .ok (.imul, 1) := by decide +kernel
theorem dX8_copy_104 : decode cX8_copy 104 = .ok (.iload_n 2, 1) := by decide +kernel
theorem dX8_copy_105 : decode cX8_copy 105 = .ok (.iadd, 1) := by decide +kernel
theorem dX8_copy_106 : decode cX8_copy 106 = .ok (.iload 6, 2) := by decide +kernel
theorem dX8_copy_108 : decode cX8_copy 108 = .ok (.iadd, 1) := by decide +kernel
theorem dX8_copy_109 : decode cX8_copy 109 = .ok (.iaload, 1) := by decide +kernel
theorem dX8_copy_110 : decode cX8_copy 110 = .ok (.iastore, 1) := by decide +kernel
theorem dX8_copy_111 : decode cX8_copy 111 = .ok (.iinc 6 1, 3) := by decide +kernel
theorem dX8_copy_114 : decode cX8_copy 114 = .ok (.goto (-31), 3) := by decide +kernel
theorem dX8_copy_117 : decode cX8_copy 117 = .ok (.iconst 0, 1) := by decide +kernel
theorem dX8_copy_118 : decode cX8_copy 118 = .ok (.istore 6, 2) := by decide +kernel
theorem dX8_copy_120 : decode cX8_copy 120 = .ok (.iload 6, 2) := by decide +kernel
theorem dX8_copy_122 : decode cX8_copy 122 = .ok (.iload 5, 2) := by decide +kernel
theorem dX8_copy_124 : decode cX8_copy 124 = .ok (.if_icmp .ge 31, 3) := by decide +kernel
theorem dX8_copy_127 : decode cX8_copy 127 = .ok (.aload_n 0, 1) := by decide +kernel
theorem dX8_copy_128 : decode cX8_copy 128 = .ok (.getfield 13, 3) := by decide +kernel
theorem dX8_copy_131 : decode cX8_copy 131 = .ok (.bipush 40, 2) := by decide +kernel
theorem dX8_copy_133 : decode cX8_copy 133 = .ok (.iload_n 3, 1) := by decide +kernel
theorem dX8_copy_134 : decode cX8_copy 134 = .ok (.imul, 1) := by decide +kernel
theorem dX8_copy_135 : decode cX8_copy 135 = .ok (.iload 4, 2) := by decide +kernel
theorem dX8_copy_137 : decode cX8_copy 137 = .ok (.iadd, 1) := by decide +kernel
theorem dX8_copy_138 : decode cX8_copy 138 = .ok (.iload 6, 2) := by decide +kernel
theorem dX8_copy_140 : decode cX8_copy 140 = .ok (.iadd, 1) := by decide +kernel
theorem dX8_copy_141 : decode cX8_copy 141 = .ok (.aload_n 0, 1) := by decide +kernel
theorem dX8_copy_142 : decode cX8_copy 142 = .ok (.getfield 16, 3) := by decide +kernel
theorem dX8_copy_145 : decode cX8_copy 145 = .ok (.iload 6, 2) := by decide +kernel
theorem dX8_copy_147 : decode cX8_copy 147 = .ok (.iaload, 1) := by decide +kernel
theorem dX8_copy_148 : decode cX8_copy 148 = .ok (.iastore, 1) := by decide +kernel
theorem dX8_copy_149 : decode cX8_copy 149 = .ok (.iinc 6 1, 3) := by decide +kernel
theorem dX8_copy_152 : decode cX8_copy 152 = .ok (.goto (-32), 3) := by decide +kernel
theorem dX8_copy_155 : decode cX8_copy 155 = .ok (.iconst 1, 1) := by decide +kernel
theorem dX8_copy_156 : decode cX8_copy 156 = .ok (.ireturn, 1) := by decide +kernel
theorem dX8_mean_0 : decode cX8_mean 0 = .ok (.iload_n 1, 1) := by decide +kernel
theorem dX8_mean_1 : decode cX8_mean 1 = .ok (.invokestatic 77, 3) := by decide +kernel
theorem dX8_mean_4 : decode cX8_mean 4 = .ok (.ifCond .ne 5, 3) := by decide +kernel
theorem dX8_mean_7 : decode cX8_mean 7 = .ok (.iconst (-1), 1) := by decide +kernel
theorem dX8_mean_8 : decode cX8_mean 8 = .ok (.ireturn, 1) := by decide +kernel
theorem dX8_mean_9 : decode cX8_mean 9 = .ok (.aload_n 0, 1) := by decide +kernel
theorem dX8_mean_10 : decode cX8_mean 10 = .ok (.getfield 7, 3) := by decide +kernel
theorem dX8_mean_13 : decode cX8_mean 13 = .ok (.iload_n 1, 1) := by decide +kernel
theorem dX8_mean_14 : decode cX8_mean 14 = .ok (.iaload, 1) := by decide +kernel
theorem dX8_mean_15 : decode cX8_mean 15 = .ok (.ifCond .ge 9, 3) := by decide +kernel
theorem dX8_mean_18 : decode cX8_mean 18 = .ok (.aload_n 0, 1) := by decide +kernel
theorem dX8_mean_19 : decode cX8_mean 19 = .ok (.iconst 1, 1) := by decide +kernel
theorem dX8_mean_20 : decode cX8_mean 20 = .ok (.invokevirtual 81, 3) := by decide +kernel
theorem dX8_mean_23 : decode cX8_mean 23 = .ok (.ireturn, 1) := by decide +kernel
theorem dX8_mean_24 : decode cX8_mean 24 = .ok (.aload_n 0, 1) := by decide +kernel
theorem dX8_mean_25 : decode cX8_mean 25 = .ok (.getfield 7, 3) := by decide +kernel
theorem dX8_mean_28 : decode cX8_mean 28 = .ok (.iload_n 1, 1) := by decide +kernel
theorem dX8_mean_29 : decode cX8_mean 29 = .ok (.iaload, 1) := by decide +kernel
theorem dX8_mean_30 : decode cX8_mean 30 = .ok (.ifCond .ne 9, 3) := by decide +kernel
theorem dX8_mean_33 : decode cX8_mean 33 = .ok (.aload_n 0, 1) := by decide +kernel
theorem dX8_mean_34 : decode cX8_mean 34 = .ok (.iconst 4, 1) := by decide +kernel
theorem dX8_mean_35 : decode cX8_mean 35 = .ok (.invokevirtual 81, 3) := by decide +kernel
theorem dX8_mean_38 : decode cX8_mean 38 = .ok (.ireturn, 1) := by decide +kernel
theorem dX8_mean_39 : decode cX8_mean 39 = .ok (.lconst 0, 1) := by decide +kernel
theorem dX8_mean_40 : decode cX8_mean 40 = .ok (.lstore_n 2, 1) := by decide +kernel
theorem dX8_mean_41 : decode cX8_mean 41 = .ok (.iconst 0, 1) := by decide +kernel
theorem dX8_mean_42 : decode cX8_mean 42 = .ok (.istore 4, 2) := by decide +kernel
theorem dX8_mean_44 : decode cX8_mean 44 = .ok (.iload 4, 2) := by decide +kernel
theorem dX8_mean_46 : decode cX8_mean 46 = .ok (.aload_n 0, 1) := by decide +kernel
theorem dX8_mean_47 : decode cX8_mean 47 = .ok (.getfield 7, 3) := by decide +kernel
theorem dX8_mean_50 : decode cX8_mean 50 = .ok (.iload_n 1, 1) := by decide +kernel
theorem dX8_mean_51 : decode cX8_mean 51 = .ok (.iaload, 1) := by decide +kernel
theorem dX8_mean_52 : decode cX8_mean 52 = .ok (.if_icmp .ge 25, 3) := by decide +kernel
theorem dX8_mean_55 : decode cX8_mean 55 = .ok (.lload_n 2, 1) := by decide +kernel
theorem dX8_mean_56 : decode cX8_mean 56 = .ok (.aload_n 0, 1) := by decide +kernel
theorem dX8_mean_57 : decode cX8_mean 57 = .ok (.getfield 13, 3) := by decide +kernel
theorem dX8_mean_60 : decode cX8_mean 60 = .ok (.bipush 40, 2) := by decide +kernel
theorem dX8_mean_62 : decode cX8_mean 62 = .ok (.iload_n 1, 1) := by decide +kernel
theorem dX8_mean_63 : decode cX8_mean 63 = .ok (.imul, 1) := by decide +kernel
theorem dX8_mean_64 : decode cX8_mean 64 = .ok (.iload 4, 2) := by decide +kernel
theorem dX8_mean_66 : decode cX8_mean 66 = .ok (.iadd, 1) := by decide +kernel
theorem dX8_mean_67 : decode cX8_mean 67 = .ok (.iaload, 1) := by decide +kernel
theorem dX8_mean_68 : decode cX8_mean 68 = .ok (.i2l, 1) := by decide +kernel
theorem dX8_mean_69 : decode cX8_mean 69 = .ok (.ladd, 1) := by decide +kernel
theorem dX8_mean_70 : decode cX8_mean 70 = .ok (.lstore_n 2, 1) := by decide +kernel
theorem dX8_mean_71 : decode cX8_mean 71 = .ok (.iinc 4 1, 3) := by decide +kernel
theorem dX8_mean_74 : decode cX8_mean 74 = .ok (.goto (-30), 3) := by decide +kernel
theorem dX8_mean_77 : decode cX8_mean 77 = .ok (.aload_n 0, 1) := by decide +kernel
theorem dX8_mean_78 : decode cX8_mean 78 = .ok (.lload_n 2, 1) := by decide +kernel
theorem dX8_mean_79 : decode cX8_mean 79 = .ok (.aload_n 0, 1) := by decide +kernel
theorem dX8_mean_80 : decode cX8_mean 80 = .ok (.getfield 7, 3) := by decide +kernel
theorem dX8_mean_83 : decode cX8_mean 83 = .ok (.iload_n 1, 1) := by decide +kernel
theorem dX8_mean_84 : decode cX8_mean 84 = .ok (.iaload, 1) := by decide +kernel
theorem dX8_mean_85 : decode cX8_mean 85 = .ok (.i2l, 1) := by decide +kernel
theorem dX8_mean_86 : decode cX8_mean 86 = .ok (.ldiv, 1) := by decide +kernel
theorem dX8_mean_87 : decode cX8_mean 87 = .ok (.l2i, 1) := by decide +kernel
theorem dX8_mean_88 : decode cX8_mean 88 = .ok (.invokevirtual 89, 3) := by decide +kernel
theorem dX8_mean_91 : decode cX8_mean 91 = .ok (.ireturn, 1) := by decide +kernel
theorem dX8_text_0 : decode cX8_text 0 = .ok (.iload_n 1, 1) := by decide +kernel
