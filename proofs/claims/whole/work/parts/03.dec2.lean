theorem dX8_text_1 : decode cX8_text 1 = .ok (.invokestatic 95, 3) := by decide +kernel
theorem dX8_text_4 : decode cX8_text 4 = .ok (.ifCond .eq 9, 3) := by decide +kernel
theorem dX8_text_7 : decode cX8_text 7 = .ok (.iload_n 2, 1) := by decide +kernel
theorem dX8_text_8 : decode cX8_text 8 = .ok (.bipush 60, 2) := by decide +kernel
theorem dX8_text_10 : decode cX8_text 10 = .ok (.if_icmp .le 5, 3) := by decide +kernel
theorem dX8_text_13 : decode cX8_text 13 = .ok (.iconst (-1), 1) := by decide +kernel
theorem dX8_text_14 : decode cX8_text 14 = .ok (.ireturn, 1) := by decide +kernel
theorem dX8_text_15 : decode cX8_text 15 = .ok (.iload_n 2, 1) := by decide +kernel
theorem dX8_text_16 : decode cX8_text 16 = .ok (.ifCond .ge 9, 3) := by decide +kernel
theorem dX8_text_19 : decode cX8_text 19 = .ok (.aload_n 0, 1) := by decide +kernel
theorem dX8_text_20 : decode cX8_text 20 = .ok (.iconst 5, 1) := by decide +kernel
theorem dX8_text_21 : decode cX8_text 21 = .ok (.invokevirtual 81, 3) := by decide +kernel
theorem dX8_text_24 : decode cX8_text 24 = .ok (.ireturn, 1) := by decide +kernel
theorem dX8_text_25 : decode cX8_text 25 = .ok (.aload_n 0, 1) := by decide +kernel
theorem dX8_text_26 : decode cX8_text 26 = .ok (.getfield 19, 3) := by decide +kernel
theorem dX8_text_29 : decode cX8_text 29 = .ok (.iload_n 1, 1) := by decide +kernel
theorem dX8_text_30 : decode cX8_text 30 = .ok (.iload_n 2, 1) := by decide +kernel
theorem dX8_text_31 : decode cX8_text 31 = .ok (.iastore, 1) := by decide +kernel
theorem dX8_text_32 : decode cX8_text 32 = .ok (.iconst 0, 1) := by decide +kernel
theorem dX8_text_33 : decode cX8_text 33 = .ok (.istore_n 3, 1) := by decide +kernel
theorem dX8_text_34 : decode cX8_text 34 = .ok (.iload_n 3, 1) := by decide +kernel
theorem dX8_text_35 : decode cX8_text 35 = .ok (.bipush 60, 2) := by decide +kernel
theorem dX8_text_37 : decode cX8_text 37 = .ok (.if_icmp .ge 22, 3) := by decide +kernel
theorem dX8_text_40 : decode cX8_text 40 = .ok (.aload_n 0, 1) := by decide +kernel
theorem dX8_text_41 : decode cX8_text 41 = .ok (.getfield 22, 3) := by decide +kernel
theorem dX8_text_44 : decode cX8_text 44 = .ok (.bipush 60, 2) := by decide +kernel
theorem dX8_text_46 : decode cX8_text 46 = .ok (.iload_n 1, 1) := by decide +kernel
theorem dX8_text_47 : decode cX8_text 47 = .ok (.imul, 1) := by decide +kernel
theorem dX8_text_48 : decode cX8_text 48 = .ok (.iload_n 3, 1) := by decide +kernel
theorem dX8_text_49 : decode cX8_text 49 = .ok (.iadd, 1) := by decide +kernel
theorem dX8_text_50 : decode cX8_text 50 = .ok (.bipush 32, 2) := by decide +kernel
theorem dX8_text_52 : decode cX8_text 52 = .ok (.bastore, 1) := by decide +kernel
theorem dX8_text_53 : decode cX8_text 53 = .ok (.iinc 3 1, 3) := by decide +kernel
theorem dX8_text_56 : decode cX8_text 56 = .ok (.goto (-22), 3) := by decide +kernel
theorem dX8_text_59 : decode cX8_text 59 = .ok (.iload_n 2, 1) := by decide +kernel
theorem dX8_text_60 : decode cX8_text 60 = .ok (.ireturn, 1) := by decide +kernel
theorem dX8_put_0 : decode cX8_put 0 = .ok (.iload_n 1, 1) := by decide +kernel
theorem dX8_put_1 : decode cX8_put 1 = .ok (.invokestatic 95, 3) := by decide +kernel
theorem dX8_put_4 : decode cX8_put 4 = .ok (.ifCond .ne 5, 3) := by decide +kernel
theorem dX8_put_7 : decode cX8_put 7 = .ok (.iconst (-1), 1) := by decide +kernel
theorem dX8_put_8 : decode cX8_put 8 = .ok (.ireturn, 1) := by decide +kernel
theorem dX8_put_9 : decode cX8_put 9 = .ok (.aload_n 0, 1) := by decide +kernel
theorem dX8_put_10 : decode cX8_put 10 = .ok (.getfield 19, 3) := by decide +kernel
theorem dX8_put_13 : decode cX8_put 13 = .ok (.iload_n 1, 1) := by decide +kernel
theorem dX8_put_14 : decode cX8_put 14 = .ok (.iaload, 1) := by decide +kernel
theorem dX8_put_15 : decode cX8_put 15 = .ok (.ifCond .ge 9, 3) := by decide +kernel
theorem dX8_put_18 : decode cX8_put 18 = .ok (.aload_n 0, 1) := by decide +kernel
theorem dX8_put_19 : decode cX8_put 19 = .ok (.iconst 1, 1) := by decide +kernel
theorem dX8_put_20 : decode cX8_put 20 = .ok (.invokevirtual 81, 3) := by decide +kernel
theorem dX8_put_23 : decode cX8_put 23 = .ok (.ireturn, 1) := by decide +kernel
theorem dX8_put_24 : decode cX8_put 24 = .ok (.iload_n 2, 1) := by decide +kernel
theorem dX8_put_25 : decode cX8_put 25 = .ok (.iconst 0, 1) := by decide +kernel
theorem dX8_put_26 : decode cX8_put 26 = .ok (.aload_n 0, 1) := by decide +kernel
theorem dX8_put_27 : decode cX8_put 27 = .ok (.getfield 19, 3) := by decide +kernel
theorem dX8_put_30 : decode cX8_put 30 = .ok (.iload_n 1, 1) := by decide +kernel
theorem dX8_put_31 : decode cX8_put 31 = .ok (.iaload, 1) := by decide +kernel
theorem dX8_put_32 : decode cX8_put 32 = .ok (.iconst 1, 1) := by decide +kernel
theorem dX8_put_33 : decode cX8_put 33 = .ok (.isub, 1) := by decide +kernel
theorem dX8_put_34 : decode cX8_put 34 = .ok (.invokestatic 73, 3) := by decide +kernel
theorem dX8_put_37 : decode cX8_put 37 = .ok (.ifCond .ne 9, 3) := by decide +kernel
theorem dX8_put_40 : decode cX8_put 40 = .ok (.aload_n 0, 1) := by decide +kernel
theorem dX8_put_41 : decode cX8_put 41 = .ok (.iconst 2, 1) := by decide +kernel
theorem dX8_put_42 : decode cX8_put 42 = .ok (.invokevirtual 81, 3) := by decide +kernel
theorem dX8_put_45 : decode cX8_put 45 = .ok (.ireturn, 1) := by decide +kernel
theorem dX8_put_46 : decode cX8_put 46 = .ok (.aload_n 0, 1) := by decide +kernel
theorem dX8_put_47 : decode cX8_put 47 = .ok (.getfield 22, 3) := by decide +kernel
theorem dX8_put_50 : decode cX8_put 50 = .ok (.bipush 60, 2) := by decide +kernel
theorem dX8_put_52 : decode cX8_put 52 = .ok (.iload_n 1, 1) := by decide +kernel
theorem dX8_put_53 : decode cX8_put 53 = .ok (.imul, 1) := by decide +kernel
theorem dX8_put_54 : decode cX8_put 54 = .ok (.iload_n 2, 1) := by decide +kernel
theorem dX8_put_55 : decode cX8_put 55 = .ok (.iadd, 1) := by decide +kernel
theorem dX8_put_56 : decode cX8_put 56 = .ok (.baload, 1) := by decide +kernel
theorem dX8_put_57 : decode cX8_put 57 = .ok (.istore 4, 2) := by decide +kernel
theorem dX8_put_59 : decode cX8_put 59 = .ok (.aload_n 0, 1) := by decide +kernel
theorem dX8_put_60 : decode cX8_put 60 = .ok (.getfield 22, 3) := by decide +kernel
theorem dX8_put_63 : decode cX8_put 63 = .ok (.bipush 60, 2) := by decide +kernel
theorem dX8_put_65 : decode cX8_put 65 = .ok (.iload_n 1, 1) := by decide +kernel
theorem dX8_put_66 : decode cX8_put 66 = .ok (.imul, 1) := by decide +kernel
theorem dX8_put_67 : decode cX8_put 67 = .ok (.iload_n 2, 1) := by decide +kernel
theorem dX8_put_68 : decode cX8_put 68 = .ok (.iadd, 1) := by decide +kernel
theorem dX8_put_69 : decode cX8_put 69 = .ok (.iload_n 3, 1) := by decide +kernel
theorem dX8_put_70 : decode cX8_put 70 = .ok (.i2b, 1) := by decide +kernel
theorem dX8_put_71 : decode cX8_put 71 = .ok (.bastore, 1) := by decide +kernel
theorem dX8_put_72 : decode cX8_put 72 = .ok (.iload 4, 2) := by decide +kernel
theorem dX8_put_74 : decode cX8_put 74 = .ok (.sipush 1000, 3) := by decide +kernel
theorem dX8_put_77 : decode cX8_put 77 = .ok (.iadd, 1) := by decide +kernel
theorem dX8_put_78 : decode cX8_put 78 = .ok (.ireturn, 1) := by decide +kernel
theorem dX8_byteAt_0 : decode cX8_byteAt 0 = .ok (.iload_n 2, 1) := by decide +kernel
theorem dX8_byteAt_1 : decode cX8_byteAt 1 = .ok (.aload_n 0, 1) := by decide +kernel
theorem dX8_byteAt_2 : decode cX8_byteAt 2 = .ok (.getfield 19, 3) := by decide +kernel
theorem dX8_byteAt_5 : decode cX8_byteAt 5 = .ok (.iload_n 1, 1) := by decide +kernel
theorem dX8_byteAt_6 : decode cX8_byteAt 6 = .ok (.iaload, 1) := by decide +kernel
theorem dX8_byteAt_7 : decode cX8_byteAt 7 = .ok (.if_icmp .ge 17, 3) := by decide +kernel
theorem dX8_byteAt_10 : decode cX8_byteAt 10 = .ok (.aload_n 0, 1) := by decide +kernel
theorem dX8_byteAt_11 : decode cX8_byteAt 11 = .ok (.getfield 22, 3) := by decide +kernel
theorem dX8_byteAt_14 : decode cX8_byteAt 14 = .ok (.bipush 60, 2) := by decide +kernel
theorem dX8_byteAt_16 : decode cX8_byteAt 16 = .ok (.iload_n 1, 1) := by decide +kernel
theorem dX8_byteAt_17 : decode cX8_byteAt 17 = .ok (.imul, 1) := by decide +kernel
theorem dX8_byteAt_18 : decode cX8_byteAt 18 = .ok (.iload_n 2, 1) := by decide +kernel
theorem dX8_byteAt_19 : decode cX8_byteAt 19 = .ok (.iadd, 1) := by decide +kernel
theorem dX8_byteAt_20 : decode cX8_byteAt 20 = .ok (.baload, 1) := by decide +kernel
theorem dX8_byteAt_21 : decode cX8_byteAt 21 = .ok (.goto 6, 3) := by decide +kernel
theorem dX8_byteAt_24 : decode cX8_byteAt 24 = .ok (.sipush (-1000), 3) := by decide +kernel
theorem dX8_byteAt_27 : decode cX8_byteAt 27 = .ok (.ireturn, 1) := by decide +kernel
theorem dX8_skips_0 : decode cX8_skips 0 = .ok (.iload_n 2, 1) := by decide +kernel
theorem dX8_skips_1 : decode cX8_skips 1 = .ok (.istore_n 3, 1) := by decide +kernel
theorem dX8_skips_2 : decode cX8_skips 2 = .ok (.aload_n 0, 1) := by decide +kernel
theorem dX8_skips_3 : decode cX8_skips 3 = .ok (.iload_n 1, 1) := by decide +kernel
theorem dX8_skips_4 : decode cX8_skips 4 = .ok (.iload_n 3, 1) := by decide +kernel
theorem dX8_skips_5 : decode cX8_skips 5 = .ok (.invokevirtual 98, 3) := by decide +kernel
theorem dX8_skips_8 : decode cX8_skips 8 = .ok (.bipush 32, 2) := by decide +kernel
theorem dX8_skips_10 : decode cX8_skips 10 = .ok (.if_icmp .ne 9, 3) := by decide +kernel
theorem dX8_skips_13 : decode cX8_skips 13 = .ok (.iinc 3 1, 3) := by decide +kernel
theorem dX8_skips_16 : decode cX8_skips 16 = .ok (.goto (-14), 3) := by decide +kernel
theorem dX8_skips_19 : decode cX8_skips 19 = .ok (.iload_n 3, 1) := by decide +kernel
theorem dX8_skips_20 : decode cX8_skips 20 = .ok (.ireturn, 1) := by decide +kernel
theorem dX8_kindBy_0 : decode cX8_kindBy 0 = .ok (.iload_n 0, 1) := by decide +kernel
theorem dX8_kindBy_1 : decode cX8_kindBy 1 = .ok (.bipush 102, 2) := by decide +kernel
theorem dX8_kindBy_3 : decode cX8_kindBy 3 = .ok (.if_icmp .ne 7, 3) := by decide +kernel
theorem dX8_kindBy_6 : decode cX8_kindBy 6 = .ok (.iconst 0, 1) := by decide +kernel
theorem dX8_kindBy_7 : decode cX8_kindBy 7 = .ok (.goto 55, 3) := by decide +kernel
theorem dX8_kindBy_10 : decode cX8_kindBy 10 = .ok (.iload_n 0, 1) := by decide +kernel
theorem dX8_kindBy_11 : decode cX8_kindBy 11 = .ok (.bipush 115, 2) := by decide +kernel
theorem dX8_kindBy_13 : decode cX8_kindBy 13 = .ok (.if_icmp .ne 7, 3) := by decide +kernel
theorem dX8_kindBy_16 : decode cX8_kindBy 16 = .ok (.iconst 1, 1) := by decide +kernel
theorem dX8_kindBy_17 : decode cX8_kindBy 17 = .ok (.goto 45, 3) := by decide +kernel
theorem dX8_kindBy_20 : decode cX8_kindBy 20 = .ok (.iload_n 0, 1) := by decide +kernel
theorem dX8_kindBy_21 : decode cX8_kindBy 21 = .ok (.bipush 107, 2) := by decide +kernel
theorem dX8_kindBy_23 : decode cX8_kindBy 23 = .ok (.if_icmp .ne 7, 3) := by decide +kernel
theorem dX8_kindBy_26 : decode cX8_kindBy 26 = .ok (.iconst 2, 1) := by decide +kernel
theorem dX8_kindBy_27 : decode cX8_kindBy 27 = .ok (.goto 35, 3) := by decide +kernel
theorem dX8_kindBy_30 : decode cX8_kindBy 30 = .ok (.iload_n 0, 1) := by decide +kernel
theorem dX8_kindBy_31 : decode cX8_kindBy 31 = .ok (.bipush 98, 2) := by decide +kernel
theorem dX8_kindBy_33 : decode cX8_kindBy 33 = .ok (.if_icmp .ne 7, 3) := by decide +kernel
theorem dX8_kindBy_36 : decode cX8_kindBy 36 = .ok (.iconst 3, 1) := by decide +kernel
theorem dX8_kindBy_37 : decode cX8_kindBy 37 = .ok (.goto 25, 3) := by decide +kernel
theorem dX8_kindBy_40 : decode cX8_kindBy 40 = .ok (.iload_n 0, 1) := by decide +kernel
theorem dX8_kindBy_41 : decode cX8_kindBy 41 = .ok (.bipush 116, 2) := by decide +kernel
theorem dX8_kindBy_43 : decode cX8_kindBy 43 = .ok (.if_icmp .ne 7, 3) := by decide +kernel
theorem dX8_kindBy_46 : decode cX8_kindBy 46 = .ok (.iconst 4, 1) := by decide +kernel
theorem dX8_kindBy_47 : decode cX8_kindBy 47 = .ok (.goto 15, 3) := by decide +kernel
theorem dX8_kindBy_50 : decode cX8_kindBy 50 = .ok (.iload_n 0, 1) := by decide +kernel
theorem dX8_kindBy_51 : decode cX8_kindBy 51 = .ok (.bipush 113, 2) := by decide +kernel
theorem dX8_kindBy_53 : decode cX8_kindBy 53 = .ok (.if_icmp .ne 7, 3) := by decide +kernel
theorem dX8_kindBy_56 : decode cX8_kindBy 56 = .ok (.iconst 5, 1) := by decide +kernel
theorem dX8_kindBy_57 : decode cX8_kindBy 57 = .ok (.goto 5, 3) := by decide +kernel
theorem dX8_kindBy_60 : decode cX8_kindBy 60 = .ok (.bipush (-9), 2) := by decide +kernel
theorem dX8_kindBy_62 : decode cX8_kindBy 62 = .ok (.ireturn, 1) := by decide +kernel
theorem dX8_reads_0 : decode cX8_reads 0 = .ok (.iconst 0, 1) := by decide +kernel
theorem dX8_reads_1 : decode cX8_reads 1 = .ok (.istore_n 2, 1) := by decide +kernel
theorem dX8_reads_2 : decode cX8_reads 2 = .ok (.iload_n 2, 1) := by decide +kernel
theorem dX8_reads_3 : decode cX8_reads 3 = .ok (.bipush 33, 2) := by decide +kernel
theorem dX8_reads_5 : decode cX8_reads 5 = .ok (.if_icmp .ge 16, 3) := by decide +kernel
theorem dX8_reads_8 : decode cX8_reads 8 = .ok (.aload_n 0, 1) := by decide +kernel
theorem dX8_reads_9 : decode cX8_reads 9 = .ok (.getfield 29, 3) := by decide +kernel
theorem dX8_reads_12 : decode cX8_reads 12 = .ok (.iload_n 2, 1) := by decide +kernel
theorem dX8_reads_13 : decode cX8_reads 13 = .ok (.iconst 0, 1) := by decide +kernel
theorem dX8_reads_14 : decode cX8_reads 14 = .ok (.iastore, 1) := by decide +kernel
theorem dX8_reads_15 : decode cX8_reads 15 = .ok (.iinc 2 1, 3) := by decide +kernel
theorem dX8_reads_18 : decode cX8_reads 18 = .ok (.goto (-16), 3) := by decide +kernel
theorem dX8_reads_21 : decode cX8_reads 21 = .ok (.aload_n 0, 1) := by decide +kernel
theorem dX8_reads_22 : decode cX8_reads 22 = .ok (.iload_n 1, 1) := by decide +kernel
theorem dX8_reads_23 : decode cX8_reads 23 = .ok (.iconst 0, 1) := by decide +kernel
theorem dX8_reads_24 : decode cX8_reads 24 = .ok (.invokevirtual 102, 3) := by decide +kernel
theorem dX8_reads_27 : decode cX8_reads 27 = .ok (.istore_n 2, 1) := by decide +kernel
theorem dX8_reads_28 : decode cX8_reads 28 = .ok (.aload_n 0, 1) := by decide +kernel
theorem dX8_reads_29 : decode cX8_reads 29 = .ok (.iload_n 1, 1) := by decide +kernel
theorem dX8_reads_30 : decode cX8_reads 30 = .ok (.iload_n 2, 1) := by decide +kernel
theorem dX8_reads_31 : decode cX8_reads 31 = .ok (.invokevirtual 98, 3) := by decide +kernel
theorem dX8_reads_34 : decode cX8_reads 34 = .ok (.bipush 49, 2) := by decide +kernel
theorem dX8_reads_36 : decode cX8_reads 36 = .ok (.bipush 57, 2) := by decide +kernel
theorem dX8_reads_38 : decode cX8_reads 38 = .ok (.invokestatic 73, 3) := by decide +kernel
theorem dX8_reads_41 : decode cX8_reads 41 = .ok (.ifCond .ne 5, 3) := by decide +kernel
theorem dX8_reads_44 : decode cX8_reads 44 = .ok (.iload_n 2, 1) := by decide +kernel
theorem dX8_reads_45 : decode cX8_reads 45 = .ok (.ireturn, 1) := by decide +kernel
theorem dX8_reads_46 : decode cX8_reads 46 = .ok (.aload_n 0, 1) := by decide +kernel
theorem dX8_reads_47 : decode cX8_reads 47 = .ok (.getfield 29, 3) := by decide +kernel
theorem dX8_reads_50 : decode cX8_reads 50 = .ok (.iconst 0, 1) := by decide +kernel
theorem dX8_reads_51 : decode cX8_reads 51 = .ok (.aload_n 0, 1) := by decide +kernel
theorem dX8_reads_52 : decode cX8_reads 52 = .ok (.iload_n 1, 1) := by decide +kernel
theorem dX8_reads_53 : decode cX8_reads 53 = .ok (.iload_n 2, 1) := by decide +kernel
theorem dX8_reads_54 : decode cX8_reads 54 = .ok (.invokevirtual 98, 3) := by decide +kernel
theorem dX8_reads_57 : decode cX8_reads 57 = .ok (.bipush 48, 2) := by decide +kernel
theorem dX8_reads_59 : decode cX8_reads 59 = .ok (.isub, 1) := by decide +kernel
theorem dX8_reads_60 : decode cX8_reads 60 = .ok (.iastore, 1) := by decide +kernel
theorem dX8_reads_61 : decode cX8_reads 61 = .ok (.aload_n 0, 1) := by decide +kernel
theorem dX8_reads_62 : decode cX8_reads 62 = .ok (.iload_n 1, 1) := by decide +kernel
theorem dX8_reads_63 : decode cX8_reads 63 = .ok (.iload_n 2, 1) := by decide +kernel
theorem dX8_reads_64 : decode cX8_reads 64 = .ok (.iconst 1, 1) := by decide +kernel
theorem dX8_reads_65 : decode cX8_reads 65 = .ok (.iadd, 1) := by decide +kernel
theorem dX8_reads_66 : decode cX8_reads 66 = .ok (.invokevirtual 102, 3) := by decide +kernel
theorem dX8_reads_69 : decode cX8_reads 69 = .ok (.istore_n 2, 1) := by decide +kernel
theorem dX8_reads_70 : decode cX8_reads 70 = .ok (.iload_n 2, 1) := by decide +kernel
theorem dX8_reads_71 : decode cX8_reads 71 = .ok (.aload_n 0, 1) := by decide +kernel
theorem dX8_reads_72 : decode cX8_reads 72 = .ok (.getfield 19, 3) := by decide +kernel
theorem dX8_reads_75 : decode cX8_reads 75 = .ok (.iload_n 1, 1) := by decide +kernel
theorem dX8_reads_76 : decode cX8_reads 76 = .ok (.iaload, 1) := by decide +kernel
theorem dX8_reads_77 : decode cX8_reads 77 = .ok (.if_icmp .ge 166, 3) := by decide +kernel
theorem dX8_reads_80 : decode cX8_reads 80 = .ok (.aload_n 0, 1) := by decide +kernel
theorem dX8_reads_81 : decode cX8_reads 81 = .ok (.getfield 29, 3) := by decide +kernel
theorem dX8_reads_84 : decode cX8_reads 84 = .ok (.bipush 18, 2) := by decide +kernel
theorem dX8_reads_86 : decode cX8_reads 86 = .ok (.iaload, 1) := by decide +kernel
theorem dX8_reads_87 : decode cX8_reads 87 = .ok (.istore_n 3, 1) := by decide +kernel
theorem dX8_reads_88 : decode cX8_reads 88 = .ok (.aload_n 0, 1) := by decide +kernel
theorem dX8_reads_89 : decode cX8_reads 89 = .ok (.iload_n 1, 1) := by decide +kernel
theorem dX8_reads_90 : decode cX8_reads 90 = .ok (.iload_n 2, 1) := by decide +kernel
theorem dX8_reads_91 : decode cX8_reads 91 = .ok (.invokevirtual 98, 3) := by decide +kernel
theorem dX8_reads_94 : decode cX8_reads 94 = .ok (.invokestatic 105, 3) := by decide +kernel
theorem dX8_reads_97 : decode cX8_reads 97 = .ok (.istore 4, 2) := by decide +kernel
theorem dX8_reads_99 : decode cX8_reads 99 = .ok (.iload 4, 2) := by decide +kernel
theorem dX8_reads_101 : decode cX8_reads 101 = .ok (.bipush (-9), 2) := by decide +kernel
theorem dX8_reads_103 : decode cX8_reads 103 = .ok (.if_icmp .eq 9, 3) := by decide +kernel
theorem dX8_reads_106 : decode cX8_reads 106 = .ok (.iload_n 3, 1) := by decide +kernel
theorem dX8_reads_107 : decode cX8_reads 107 = .ok (.bipush 7, 2) := by decide +kernel
theorem dX8_reads_109 : decode cX8_reads 109 = .ok (.if_icmp .ne 5, 3) := by decide +kernel
theorem dX8_reads_112 : decode cX8_reads 112 = .ok (.iload_n 2, 1) := by decide +kernel
theorem dX8_reads_113 : decode cX8_reads 113 = .ok (.ireturn, 1) := by decide +kernel
theorem dX8_reads_114 : decode cX8_reads 114 = .ok (.iconst 1, 1) := by decide +kernel
theorem dX8_reads_115 : decode cX8_reads 115 = .ok (.istore 5, 2) := by decide +kernel
theorem dX8_reads_117 : decode cX8_reads 117 = .ok (.iload 5, 2) := by decide +kernel
theorem dX8_reads_119 : decode cX8_reads 119 = .ok (.iconst 3, 1) := by decide +kernel
theorem dX8_reads_120 : decode cX8_reads 120 = .ok (.if_icmp .ge 33, 3) := by decide +kernel
theorem dX8_reads_123 : decode cX8_reads 123 = .ok (.aload_n 0, 1) := by decide +kernel
theorem dX8_reads_124 : decode cX8_reads 124 = .ok (.iload_n 1, 1) := by decide +kernel
theorem dX8_reads_125 : decode cX8_reads 125 = .ok (.iload_n 2, 1) := by decide +kernel
theorem dX8_reads_126 : decode cX8_reads 126 = .ok (.iload 5, 2) := by decide +kernel
theorem dX8_reads_128 : decode cX8_reads 128 = .ok (.iadd, 1) := by decide +kernel
theorem dX8_reads_129 : decode cX8_reads 129 = .ok (.invokevirtual 98, 3) := by decide +kernel
theorem dX8_reads_132 : decode cX8_reads 132 = .ok (.bipush 48, 2) := by decide +kernel
theorem dX8_reads_134 : decode cX8_reads 134 = .ok (.bipush 57, 2) := by decide +kernel
theorem dX8_reads_136 : decode cX8_reads 136 = .ok (.invokestatic 73, 3) := by decide +kernel
theorem dX8_reads_139 : decode cX8_reads 139 = .ok (.ifCond .ne 8, 3) := by decide +kernel
theorem dX8_reads_142 : decode cX8_reads 142 = .ok (.iload_n 2, 1) := by decide +kernel
theorem dX8_reads_143 : decode cX8_reads 143 = .ok (.iload 5, 2) := by decide +kernel
theorem dX8_reads_145 : decode cX8_reads 145 = .ok (.iadd, 1) := by decide +kernel
theorem dX8_reads_146 : decode cX8_reads 146 = .ok (.ireturn, 1) := by decide +kernel
theorem dX8_reads_147 : decode cX8_reads 147 = .ok (.iinc 5 1, 3) := by decide +kernel
theorem dX8_reads_150 : decode cX8_reads 150 = .ok (.goto (-33), 3) := by decide +kernel
theorem dX8_reads_153 : decode cX8_reads 153 = .ok (.aload_n 0, 1) := by decide +kernel
theorem dX8_reads_154 : decode cX8_reads 154 = .ok (.getfield 29, 3) := by decide +kernel
theorem dX8_reads_157 : decode cX8_reads 157 = .ok (.bipush 19, 2) := by decide +kernel
theorem dX8_reads_159 : decode cX8_reads 159 = .ok (.iload_n 3, 1) := by decide +kernel
theorem dX8_reads_160 : decode cX8_reads 160 = .ok (.iadd, 1) := by decide +kernel
theorem dX8_reads_161 : decode cX8_reads 161 = .ok (.iload 4, 2) := by decide +kernel
theorem dX8_reads_163 : decode cX8_reads 163 = .ok (.iastore, 1) := by decide +kernel
theorem dX8_reads_164 : decode cX8_reads 164 = .ok (.aload_n 0, 1) := by decide +kernel
theorem dX8_reads_165 : decode cX8_reads 165 = .ok (.getfield 29, 3) := by decide +kernel
theorem dX8_reads_168 : decode cX8_reads 168 = .ok (.iconst 4, 1) := by decide +kernel
theorem dX8_reads_169 : decode cX8_reads 169 = .ok (.iload_n 3, 1) := by decide +kernel
theorem dX8_reads_170 : decode cX8_reads 170 = .ok (.iadd, 1) := by decide +kernel
theorem dX8_reads_171 : decode cX8_reads 171 = .ok (.aload_n 0, 1) := by decide +kernel
theorem dX8_reads_172 : decode cX8_reads 172 = .ok (.iload_n 1, 1) := by decide +kernel
theorem dX8_reads_173 : decode cX8_reads 173 = .ok (.iload_n 2, 1) := by decide +kernel
theorem dX8_reads_174 : decode cX8_reads 174 = .ok (.iconst 1, 1) := by decide +kernel
theorem dX8_reads_175 : decode cX8_reads 175 = .ok (.iadd, 1) := by decide +kernel
theorem dX8_reads_176 : decode cX8_reads 176 = .ok (.invokevirtual 98, 3) := by decide +kernel
theorem dX8_reads_179 : decode cX8_reads 179 = .ok (.bipush 48, 2) := by decide +kernel
theorem dX8_reads_181 : decode cX8_reads 181 = .ok (.isub, 1) := by decide +kernel
theorem dX8_reads_182 : decode cX8_reads 182 = .ok (.iastore, 1) := by decide +kernel
theorem dX8_reads_183 : decode cX8_reads 183 = .ok (.aload_n 0, 1) := by decide +kernel
theorem dX8_reads_184 : decode cX8_reads 184 = .ok (.getfield 29, 3) := by decide +kernel
theorem dX8_reads_187 : decode cX8_reads 187 = .ok (.bipush 11, 2) := by decide +kernel
theorem dX8_reads_189 : decode cX8_reads 189 = .ok (.iload_n 3, 1) := by decide +kernel
theorem dX8_reads_190 : decode cX8_reads 190 = .ok (.iadd, 1) := by decide +kernel
theorem dX8_reads_191 : decode cX8_reads 191 = .ok (.aload_n 0, 1) := by decide +kernel
theorem dX8_reads_192 : decode cX8_reads 192 = .ok (.getfield 29, 3) := by decide +kernel
theorem dX8_reads_195 : decode cX8_reads 195 = .ok (.iconst 4, 1) := by decide +kernel
theorem dX8_reads_196 : decode cX8_reads 196 = .ok (.iload_n 3, 1) := by decide +kernel
theorem dX8_reads_197 : decode cX8_reads 197 = .ok (.iadd, 1) := by decide +kernel
theorem dX8_reads_198 : decode cX8_reads 198 = .ok (.iaload, 1) := by decide +kernel
theorem dX8_reads_199 : decode cX8_reads 199 = .ok (.iastore, 1) := by decide +kernel
theorem dX8_reads_200 : decode cX8_reads 200 = .ok (.aload_n 0, 1) := by decide +kernel
theorem dX8_reads_201 : decode cX8_reads 201 = .ok (.getfield 29, 3) := by decide +kernel
theorem dX8_reads_204 : decode cX8_reads 204 = .ok (.bipush 26, 2) := by decide +kernel
theorem dX8_reads_206 : decode cX8_reads 206 = .ok (.iload_n 3, 1) := by decide +kernel
theorem dX8_reads_207 : decode cX8_reads 207 = .ok (.iadd, 1) := by decide +kernel
theorem dX8_reads_208 : decode cX8_reads 208 = .ok (.aload_n 0, 1) := by decide +kernel
theorem dX8_reads_209 : decode cX8_reads 209 = .ok (.iload_n 1, 1) := by decide +kernel
theorem dX8_reads_210 : decode cX8_reads 210 = .ok (.iload_n 2, 1) := by decide +kernel
theorem dX8_reads_211 : decode cX8_reads 211 = .ok (.iconst 2, 1) := by decide +kernel
theorem dX8_reads_212 : decode cX8_reads 212 = .ok (.iadd, 1) := by decide +kernel
theorem dX8_reads_213 : decode cX8_reads 213 = .ok (.invokevirtual 98, 3) := by decide +kernel
theorem dX8_reads_216 : decode cX8_reads 216 = .ok (.bipush 48, 2) := by decide +kernel
theorem dX8_reads_218 : decode cX8_reads 218 = .ok (.isub, 1) := by decide +kernel
theorem dX8_reads_219 : decode cX8_reads 219 = .ok (.iastore, 1) := by decide +kernel
theorem dX8_reads_220 : decode cX8_reads 220 = .ok (.aload_n 0, 1) := by decide +kernel
theorem dX8_reads_221 : decode cX8_reads 221 = .ok (.getfield 29, 3) := by decide +kernel
theorem dX8_reads_224 : decode cX8_reads 224 = .ok (.bipush 18, 2) := by decide +kernel
theorem dX8_reads_226 : decode cX8_reads 226 = .ok (.dup2, 1) := by decide +kernel
theorem dX8_reads_227 : decode cX8_reads 227 = .ok (.iaload, 1) := by decide +kernel
theorem dX8_reads_228 : decode cX8_reads 228 = .ok (.iconst 1, 1) := by decide +kernel
theorem dX8_reads_229 : decode cX8_reads 229 = .ok (.iadd, 1) := by decide +kernel
theorem dX8_reads_230 : decode cX8_reads 230 = .ok (.iastore, 1) := by decide +kernel
theorem dX8_reads_231 : decode cX8_reads 231 = .ok (.aload_n 0, 1) := by decide +kernel
theorem dX8_reads_232 : decode cX8_reads 232 = .ok (.iload_n 1, 1) := by decide +kernel
theorem dX8_reads_233 : decode cX8_reads 233 = .ok (.iload_n 2, 1) := by decide +kernel
theorem dX8_reads_234 : decode cX8_reads 234 = .ok (.iconst 3, 1) := by decide +kernel
theorem dX8_reads_235 : decode cX8_reads 235 = .ok (.iadd, 1) := by decide +kernel
theorem dX8_reads_236 : decode cX8_reads 236 = .ok (.invokevirtual 102, 3) := by decide +kernel
theorem dX8_reads_239 : decode cX8_reads 239 = .ok (.istore_n 2, 1) := by decide +kernel
theorem dX8_reads_240 : decode cX8_reads 240 = .ok (.goto (-170), 3) := by decide +kernel
theorem dX8_reads_243 : decode cX8_reads 243 = .ok (.aload_n 0, 1) := by decide +kernel
theorem dX8_reads_244 : decode cX8_reads 244 = .ok (.getfield 29, 3) := by decide +kernel
theorem dX8_reads_247 : decode cX8_reads 247 = .ok (.bipush 18, 2) := by decide +kernel
theorem dX8_reads_249 : decode cX8_reads 249 = .ok (.iaload, 1) := by decide +kernel
theorem dX8_reads_250 : decode cX8_reads 250 = .ok (.iconst 2, 1) := by decide +kernel
theorem dX8_reads_251 : decode cX8_reads 251 = .ok (.if_icmp .ge 7, 3) := by decide +kernel
theorem dX8_reads_254 : decode cX8_reads 254 = .ok (.iload_n 2, 1) := by decide +kernel
theorem dX8_reads_255 : decode cX8_reads 255 = .ok (.goto 5, 3) := by decide +kernel
theorem dX8_reads_258 : decode cX8_reads 258 = .ok (.bipush (-9), 2) := by decide +kernel
theorem dX8_reads_260 : decode cX8_reads 260 = .ok (.ireturn, 1) := by decide +kernel
theorem dX8_fault_0 : decode cX8_fault 0 = .ok (.iload_n 1, 1) := by decide +kernel
theorem dX8_fault_1 : decode cX8_fault 1 = .ok (.invokestatic 95, 3) := by decide +kernel
theorem dX8_fault_4 : decode cX8_fault 4 = .ok (.ifCond .ne 5, 3) := by decide +kernel
theorem dX8_fault_7 : decode cX8_fault 7 = .ok (.iconst (-1), 1) := by decide +kernel
theorem dX8_fault_8 : decode cX8_fault 8 = .ok (.ireturn, 1) := by decide +kernel
theorem dX8_fault_9 : decode cX8_fault 9 = .ok (.aload_n 0, 1) := by decide +kernel
theorem dX8_fault_10 : decode cX8_fault 10 = .ok (.getfield 19, 3) := by decide +kernel
theorem dX8_fault_13 : decode cX8_fault 13 = .ok (.iload_n 1, 1) := by decide +kernel
theorem dX8_fault_14 : decode cX8_fault 14 = .ok (.iaload, 1) := by decide +kernel
theorem dX8_fault_15 : decode cX8_fault 15 = .ok (.ifCond .ge 11, 3) := by decide +kernel
theorem dX8_fault_18 : decode cX8_fault 18 = .ok (.aload_n 0, 1) := by decide +kernel
theorem dX8_fault_19 : decode cX8_fault 19 = .ok (.iconst 1, 1) := by decide +kernel
theorem dX8_fault_20 : decode cX8_fault 20 = .ok (.invokevirtual 81, 3) := by decide +kernel
theorem dX8_fault_23 : decode cX8_fault 23 = .ok (.goto 8, 3) := by decide +kernel
theorem dX8_fault_26 : decode cX8_fault 26 = .ok (.aload_n 0, 1) := by decide +kernel
theorem dX8_fault_27 : decode cX8_fault 27 = .ok (.iload_n 1, 1) := by decide +kernel
theorem dX8_fault_28 : decode cX8_fault 28 = .ok (.invokevirtual 108, 3) := by decide +kernel
theorem dX8_fault_31 : decode cX8_fault 31 = .ok (.ireturn, 1) := by decide +kernel
theorem dX8_board_0 : decode cX8_board 0 = .ok (.iload_n 1, 1) := by decide +kernel
theorem dX8_board_1 : decode cX8_board 1 = .ok (.invokestatic 95, 3) := by decide +kernel
theorem dX8_board_4 : decode cX8_board 4 = .ok (.ifCond .ne 5, 3) := by decide +kernel
theorem dX8_board_7 : decode cX8_board 7 = .ok (.iconst (-1), 1) := by decide +kernel
theorem dX8_board_8 : decode cX8_board 8 = .ok (.ireturn, 1) := by decide +kernel
theorem dX8_board_9 : decode cX8_board 9 = .ok (.aload_n 0, 1) := by decide +kernel
theorem dX8_board_10 : decode cX8_board 10 = .ok (.getfield 19, 3) := by decide +kernel
theorem dX8_board_13 : decode cX8_board 13 = .ok (.iload_n 1, 1) := by decide +kernel
theorem dX8_board_14 : decode cX8_board 14 = .ok (.iaload, 1) := by decide +kernel
theorem dX8_board_15 : decode cX8_board 15 = .ok (.ifCond .ge 9, 3) := by decide +kernel
theorem dX8_board_18 : decode cX8_board 18 = .ok (.aload_n 0, 1) := by decide +kernel
theorem dX8_board_19 : decode cX8_board 19 = .ok (.iconst 1, 1) := by decide +kernel
theorem dX8_board_20 : decode cX8_board 20 = .ok (.invokevirtual 81, 3) := by decide +kernel
theorem dX8_board_23 : decode cX8_board 23 = .ok (.ireturn, 1) := by decide +kernel
theorem dX8_board_24 : decode cX8_board 24 = .ok (.aload_n 0, 1) := by decide +kernel
theorem dX8_board_25 : decode cX8_board 25 = .ok (.iload_n 1, 1) := by decide +kernel
theorem dX8_board_26 : decode cX8_board 26 = .ok (.invokevirtual 108, 3) := by decide +kernel
theorem dX8_board_29 : decode cX8_board 29 = .ok (.bipush (-9), 2) := by decide +kernel
theorem dX8_board_31 : decode cX8_board 31 = .ok (.if_icmp .eq 6, 3) := by decide +kernel
theorem dX8_board_34 : decode cX8_board 34 = .ok (.bipush (-4), 2) := by decide +kernel
theorem dX8_board_36 : decode cX8_board 36 = .ok (.ireturn, 1) := by decide +kernel
theorem dX8_board_37 : decode cX8_board 37 = .ok (.iconst 0, 1) := by decide +kernel
theorem dX8_board_38 : decode cX8_board 38 = .ok (.istore_n 2, 1) := by decide +kernel
theorem dX8_board_39 : decode cX8_board 39 = .ok (.iload_n 2, 1) := by decide +kernel
theorem dX8_board_40 : decode cX8_board 40 = .ok (.bipush 33, 2) := by decide +kernel
theorem dX8_board_42 : decode cX8_board 42 = .ok (.if_icmp .ge 21, 3) := by decide +kernel
theorem dX8_board_45 : decode cX8_board 45 = .ok (.aload_n 0, 1) := by decide +kernel
theorem dX8_board_46 : decode cX8_board 46 = .ok (.getfield 26, 3) := by decide +kernel
theorem dX8_board_49 : decode cX8_board 49 = .ok (.iload_n 2, 1) := by decide +kernel
theorem dX8_board_50 : decode cX8_board 50 = .ok (.aload_n 0, 1) := by decide +kernel
theorem dX8_board_51 : decode cX8_board 51 = .ok (.getfield 29, 3) := by decide +kernel
theorem dX8_board_54 : decode cX8_board 54 = .ok (.iload_n 2, 1) := by decide +kernel
theorem dX8_board_55 : decode cX8_board 55 = .ok (.iaload, 1) := by decide +kernel
theorem dX8_board_56 : decode cX8_board 56 = .ok (.iastore, 1) := by decide +kernel
theorem dX8_board_57 : decode cX8_board 57 = .ok (.iinc 2 1, 3) := by decide +kernel
theorem dX8_board_60 : decode cX8_board 60 = .ok (.goto (-21), 3) := by decide +kernel
theorem dX8_board_63 : decode cX8_board 63 = .ok (.aload_n 0, 1) := by decide +kernel
theorem dX8_board_64 : decode cX8_board 64 = .ok (.iconst 0, 1) := by decide +kernel
theorem dX8_board_65 : decode cX8_board 65 = .ok (.putfield 111, 3) := by decide +kernel
theorem dX8_board_68 : decode cX8_board 68 = .ok (.iconst 0, 1) := by decide +kernel
theorem dX8_board_69 : decode cX8_board 69 = .ok (.istore_n 2, 1) := by decide +kernel
theorem dX8_board_70 : decode cX8_board 70 = .ok (.iload_n 2, 1) := by decide +kernel
theorem dX8_board_71 : decode cX8_board 71 = .ok (.aload_n 0, 1) := by decide +kernel
theorem dX8_board_72 : decode cX8_board 72 = .ok (.getfield 47, 3) := by decide +kernel
theorem dX8_board_75 : decode cX8_board 75 = .ok (.arraylength, 1) := by decide +kernel
theorem dX8_board_76 : decode cX8_board 76 = .ok (.if_icmp .ge 16, 3) := by decide +kernel
theorem dX8_board_79 : decode cX8_board 79 = .ok (.aload_n 0, 1) := by decide +kernel
theorem dX8_board_80 : decode cX8_board 80 = .ok (.getfield 47, 3) := by decide +kernel
theorem dX8_board_83 : decode cX8_board 83 = .ok (.iload_n 2, 1) := by decide +kernel
theorem dX8_board_84 : decode cX8_board 84 = .ok (.iconst (-1), 1) := by decide +kernel
theorem dX8_board_85 : decode cX8_board 85 = .ok (.iastore, 1) := by decide +kernel
theorem dX8_board_86 : decode cX8_board 86 = .ok (.iinc 2 1, 3) := by decide +kernel
theorem dX8_board_89 : decode cX8_board 89 = .ok (.goto (-19), 3) := by decide +kernel
theorem dX8_board_92 : decode cX8_board 92 = .ok (.aload_n 0, 1) := by decide +kernel
theorem dX8_board_93 : decode cX8_board 93 = .ok (.getfield 26, 3) := by decide +kernel
theorem dX8_board_96 : decode cX8_board 96 = .ok (.bipush 18, 2) := by decide +kernel
theorem dX8_board_98 : decode cX8_board 98 = .ok (.iaload, 1) := by decide +kernel
theorem dX8_board_99 : decode cX8_board 99 = .ok (.ireturn, 1) := by decide +kernel
theorem dX8_isDrum_0 : decode cX8_isDrum 0 = .ok (.iload_n 1, 1) := by decide +kernel
theorem dX8_isDrum_1 : decode cX8_isDrum 1 = .ok (.iconst 0, 1) := by decide +kernel
theorem dX8_isDrum_2 : decode cX8_isDrum 2 = .ok (.aload_n 0, 1) := by decide +kernel
theorem dX8_isDrum_3 : decode cX8_isDrum 3 = .ok (.getfield 26, 3) := by decide +kernel
theorem dX8_isDrum_6 : decode cX8_isDrum 6 = .ok (.bipush 18, 2) := by decide +kernel
theorem dX8_isDrum_8 : decode cX8_isDrum 8 = .ok (.iaload, 1) := by decide +kernel
theorem dX8_isDrum_9 : decode cX8_isDrum 9 = .ok (.iconst 1, 1) := by decide +kernel
theorem dX8_isDrum_10 : decode cX8_isDrum 10 = .ok (.isub, 1) := by decide +kernel
theorem dX8_isDrum_11 : decode cX8_isDrum 11 = .ok (.invokestatic 73, 3) := by decide +kernel
theorem dX8_isDrum_14 : decode cX8_isDrum 14 = .ok (.ireturn, 1) := by decide +kernel
theorem dX8_has_0 : decode cX8_has 0 = .ok (.iload_n 0, 1) := by decide +kernel
theorem dX8_has_1 : decode cX8_has 1 = .ok (.iload_n 1, 1) := by decide +kernel
theorem dX8_has_2 : decode cX8_has 2 = .ok (.ishr, 1) := by decide +kernel
theorem dX8_has_3 : decode cX8_has 3 = .ok (.iconst 1, 1) := by decide +kernel
theorem dX8_has_4 : decode cX8_has 4 = .ok (.iand, 1) := by decide +kernel
theorem dX8_has_5 : decode cX8_has 5 = .ok (.iconst 1, 1) := by decide +kernel
theorem dX8_has_6 : decode cX8_has 6 = .ok (.if_icmp .ne 7, 3) := by decide +kernel
theorem dX8_has_9 : decode cX8_has 9 = .ok (.iconst 1, 1) := by decide +kernel
theorem dX8_has_10 : decode cX8_has 10 = .ok (.goto 4, 3) := by decide +kernel
theorem dX8_has_13 : decode cX8_has 13 = .ok (.iconst 0, 1) := by decide +kernel
theorem dX8_has_14 : decode cX8_has 14 = .ok (.ireturn, 1) := by decide +kernel
theorem dX8_skipsOn_0 : decode cX8_skipsOn 0 = .ok (.iload_n 0, 1) := by decide +kernel
theorem dX8_skipsOn_1 : decode cX8_skipsOn 1 = .ok (.iconst 1, 1) := by decide +kernel
theorem dX8_skipsOn_2 : decode cX8_skipsOn 2 = .ok (.iadd, 1) := by decide +kernel
theorem dX8_skipsOn_3 : decode cX8_skipsOn 3 = .ok (.bipush 10, 2) := by decide +kernel
theorem dX8_skipsOn_5 : decode cX8_skipsOn 5 = .ok (.irem, 1) := by decide +kernel
theorem dX8_skipsOn_6 : decode cX8_skipsOn 6 = .ok (.istore_n 3, 1) := by decide +kernel
theorem dX8_skipsOn_7 : decode cX8_skipsOn 7 = .ok (.iload_n 3, 1) := by decide +kernel
theorem dX8_skipsOn_8 : decode cX8_skipsOn 8 = .ok (.iload_n 2, 1) := by decide +kernel
theorem dX8_skipsOn_9 : decode cX8_skipsOn 9 = .ok (.if_icmp .ne 17, 3) := by decide +kernel
theorem dX8_skipsOn_12 : decode cX8_skipsOn 12 = .ok (.iload_n 2, 1) := by decide +kernel
theorem dX8_skipsOn_13 : decode cX8_skipsOn 13 = .ok (.iload_n 1, 1) := by decide +kernel
theorem dX8_skipsOn_14 : decode cX8_skipsOn 14 = .ok (.if_icmp .eq 12, 3) := by decide +kernel
theorem dX8_skipsOn_17 : decode cX8_skipsOn 17 = .ok (.iload_n 0, 1) := by decide +kernel
theorem dX8_skipsOn_18 : decode cX8_skipsOn 18 = .ok (.iconst 2, 1) := by decide +kernel
theorem dX8_skipsOn_19 : decode cX8_skipsOn 19 = .ok (.iadd, 1) := by decide +kernel
theorem dX8_skipsOn_20 : decode cX8_skipsOn 20 = .ok (.bipush 10, 2) := by decide +kernel
theorem dX8_skipsOn_22 : decode cX8_skipsOn 22 = .ok (.irem, 1) := by decide +kernel
theorem dX8_skipsOn_23 : decode cX8_skipsOn 23 = .ok (.goto 4, 3) := by decide +kernel
theorem dX8_skipsOn_26 : decode cX8_skipsOn 26 = .ok (.iload_n 3, 1) := by decide +kernel
theorem dX8_skipsOn_27 : decode cX8_skipsOn 27 = .ok (.ireturn, 1) := by decide +kernel
theorem dX8_turned_0 : decode cX8_turned 0 = .ok (.iload_n 0, 1) := by decide +kernel
theorem dX8_turned_1 : decode cX8_turned 1 = .ok (.iconst 3, 1) := by decide +kernel
theorem dX8_turned_2 : decode cX8_turned 2 = .ok (.if_icmp .ne 11, 3) := by decide +kernel
theorem dX8_turned_5 : decode cX8_turned 5 = .ok (.iload_n 1, 1) := by decide +kernel
theorem dX8_turned_6 : decode cX8_turned 6 = .ok (.bipush 9, 2) := by decide +kernel
theorem dX8_turned_8 : decode cX8_turned 8 = .ok (.iadd, 1) := by decide +kernel
theorem dX8_turned_9 : decode cX8_turned 9 = .ok (.bipush 10, 2) := by decide +kernel
theorem dX8_turned_11 : decode cX8_turned 11 = .ok (.irem, 1) := by decide +kernel
theorem dX8_turned_12 : decode cX8_turned 12 = .ok (.ireturn, 1) := by decide +kernel
theorem dX8_turned_13 : decode cX8_turned 13 = .ok (.iload_n 0, 1) := by decide +kernel
theorem dX8_turned_14 : decode cX8_turned 14 = .ok (.iconst 2, 1) := by decide +kernel
theorem dX8_turned_15 : decode cX8_turned 15 = .ok (.if_icmp .eq 15, 3) := by decide +kernel
theorem dX8_turned_18 : decode cX8_turned 18 = .ok (.iload_n 0, 1) := by decide +kernel
theorem dX8_turned_19 : decode cX8_turned 19 = .ok (.iconst 5, 1) := by decide +kernel
theorem dX8_turned_20 : decode cX8_turned 20 = .ok (.if_icmp .eq 10, 3) := by decide +kernel
theorem dX8_turned_23 : decode cX8_turned 23 = .ok (.iload_n 1, 1) := by decide +kernel
theorem dX8_turned_24 : decode cX8_turned 24 = .ok (.iconst 1, 1) := by decide +kernel
theorem dX8_turned_25 : decode cX8_turned 25 = .ok (.iadd, 1) := by decide +kernel
theorem dX8_turned_26 : decode cX8_turned 26 = .ok (.bipush 10, 2) := by decide +kernel
theorem dX8_turned_28 : decode cX8_turned 28 = .ok (.irem, 1) := by decide +kernel
theorem dX8_turned_29 : decode cX8_turned 29 = .ok (.ireturn, 1) := by decide +kernel
theorem dX8_turned_30 : decode cX8_turned 30 = .ok (.iload_n 1, 1) := by decide +kernel
theorem dX8_turned_31 : decode cX8_turned 31 = .ok (.iload_n 2, 1) := by decide +kernel
theorem dX8_turned_32 : decode cX8_turned 32 = .ok (.iload_n 3, 1) := by decide +kernel
theorem dX8_turned_33 : decode cX8_turned 33 = .ok (.invokestatic 114, 3) := by decide +kernel
theorem dX8_turned_36 : decode cX8_turned 36 = .ok (.istore 4, 2) := by decide +kernel
theorem dX8_turned_38 : decode cX8_turned 38 = .ok (.iload_n 0, 1) := by decide +kernel
theorem dX8_turned_39 : decode cX8_turned 39 = .ok (.iconst 2, 1) := by decide +kernel
theorem dX8_turned_40 : decode cX8_turned 40 = .ok (.if_icmp .eq 9, 3) := by decide +kernel
theorem dX8_turned_43 : decode cX8_turned 43 = .ok (.iload 4, 2) := by decide +kernel
theorem dX8_turned_45 : decode cX8_turned 45 = .ok (.iload_n 2, 1) := by decide +kernel
theorem dX8_turned_46 : decode cX8_turned 46 = .ok (.if_icmp .ne 8, 3) := by decide +kernel
theorem dX8_turned_49 : decode cX8_turned 49 = .ok (.iload 4, 2) := by decide +kernel
theorem dX8_turned_51 : decode cX8_turned 51 = .ok (.goto 10, 3) := by decide +kernel
theorem dX8_turned_54 : decode cX8_turned 54 = .ok (.iload 4, 2) := by decide +kernel
theorem dX8_turned_56 : decode cX8_turned 56 = .ok (.iload_n 2, 1) := by decide +kernel
theorem dX8_turned_57 : decode cX8_turned 57 = .ok (.iload_n 3, 1) := by decide +kernel
theorem dX8_turned_58 : decode cX8_turned 58 = .ok (.invokestatic 114, 3) := by decide +kernel
theorem dX8_turned_61 : decode cX8_turned 61 = .ok (.ireturn, 1) := by decide +kernel
theorem dX8_lets_0 : decode cX8_lets 0 = .ok (.iload_n 0, 1) := by decide +kernel
theorem dX8_lets_1 : decode cX8_lets 1 = .ok (.iconst 1, 1) := by decide +kernel
theorem dX8_lets_2 : decode cX8_lets 2 = .ok (.if_icmp .ne 17, 3) := by decide +kernel
theorem dX8_lets_5 : decode cX8_lets 5 = .ok (.iload_n 1, 1) := by decide +kernel
theorem dX8_lets_6 : decode cX8_lets 6 = .ok (.iconst 2, 1) := by decide +kernel
theorem dX8_lets_7 : decode cX8_lets 7 = .ok (.irem, 1) := by decide +kernel
theorem dX8_lets_8 : decode cX8_lets 8 = .ok (.ifCond .ne 7, 3) := by decide +kernel
theorem dX8_lets_11 : decode cX8_lets 11 = .ok (.iconst 1, 1) := by decide +kernel
theorem dX8_lets_12 : decode cX8_lets 12 = .ok (.goto 31, 3) := by decide +kernel
theorem dX8_lets_15 : decode cX8_lets 15 = .ok (.iconst 0, 1) := by decide +kernel
theorem dX8_lets_16 : decode cX8_lets 16 = .ok (.goto 27, 3) := by decide +kernel
theorem dX8_lets_19 : decode cX8_lets 19 = .ok (.iload_n 0, 1) := by decide +kernel
theorem dX8_lets_20 : decode cX8_lets 20 = .ok (.iconst 4, 1) := by decide +kernel
theorem dX8_lets_21 : decode cX8_lets 21 = .ok (.if_icmp .ne 17, 3) := by decide +kernel
theorem dX8_lets_24 : decode cX8_lets 24 = .ok (.iload_n 1, 1) := by decide +kernel
theorem dX8_lets_25 : decode cX8_lets 25 = .ok (.iload_n 2, 1) := by decide +kernel
theorem dX8_lets_26 : decode cX8_lets 26 = .ok (.ifCond .eq 7, 3) := by decide +kernel
theorem dX8_lets_29 : decode cX8_lets 29 = .ok (.iconst 4, 1) := by decide +kernel
theorem dX8_lets_30 : decode cX8_lets 30 = .ok (.goto 4, 3) := by decide +kernel
theorem dX8_lets_33 : decode cX8_lets 33 = .ok (.iconst 2, 1) := by decide +kernel
theorem dX8_lets_34 : decode cX8_lets 34 = .ok (.irem, 1) := by decide +kernel
theorem dX8_lets_35 : decode cX8_lets 35 = .ok (.ifCond .ne 7, 3) := by decide +kernel
theorem dX8_lets_38 : decode cX8_lets 38 = .ok (.iconst 1, 1) := by decide +kernel
theorem dX8_lets_39 : decode cX8_lets 39 = .ok (.goto 4, 3) := by decide +kernel
theorem dX8_lets_42 : decode cX8_lets 42 = .ok (.iconst 0, 1) := by decide +kernel
theorem dX8_lets_43 : decode cX8_lets 43 = .ok (.ireturn, 1) := by decide +kernel
theorem dX8_isReady_0 : decode cX8_isReady 0 = .ok (.aload_n 0, 1) := by decide +kernel
theorem dX8_isReady_1 : decode cX8_isReady 1 = .ok (.iconst 4, 1) := by decide +kernel
theorem dX8_isReady_2 : decode cX8_isReady 2 = .ok (.iload_n 1, 1) := by decide +kernel
theorem dX8_isReady_3 : decode cX8_isReady 3 = .ok (.iadd, 1) := by decide +kernel
theorem dX8_isReady_4 : decode cX8_isReady 4 = .ok (.iaload, 1) := by decide +kernel
theorem dX8_isReady_5 : decode cX8_isReady 5 = .ok (.aload_n 0, 1) := by decide +kernel
theorem dX8_isReady_6 : decode cX8_isReady 6 = .ok (.bipush 11, 2) := by decide +kernel
theorem dX8_isReady_8 : decode cX8_isReady 8 = .ok (.iload_n 1, 1) := by decide +kernel
theorem dX8_isReady_9 : decode cX8_isReady 9 = .ok (.iadd, 1) := by decide +kernel
theorem dX8_isReady_10 : decode cX8_isReady 10 = .ok (.iaload, 1) := by decide +kernel
theorem dX8_isReady_11 : decode cX8_isReady 11 = .ok (.if_icmp .eq 41, 3) := by decide +kernel
theorem dX8_isReady_14 : decode cX8_isReady 14 = .ok (.aload_n 0, 1) := by decide +kernel
theorem dX8_isReady_15 : decode cX8_isReady 15 = .ok (.bipush 19, 2) := by decide +kernel
theorem dX8_isReady_17 : decode cX8_isReady 17 = .ok (.iload_n 1, 1) := by decide +kernel
theorem dX8_isReady_18 : decode cX8_isReady 18 = .ok (.iadd, 1) := by decide +kernel
theorem dX8_isReady_19 : decode cX8_isReady 19 = .ok (.iaload, 1) := by decide +kernel
theorem dX8_isReady_20 : decode cX8_isReady 20 = .ok (.aload_n 0, 1) := by decide +kernel
theorem dX8_isReady_21 : decode cX8_isReady 21 = .ok (.iconst 1, 1) := by decide +kernel
theorem dX8_isReady_22 : decode cX8_isReady 22 = .ok (.iaload, 1) := by decide +kernel
theorem dX8_isReady_23 : decode cX8_isReady 23 = .ok (.aload_n 0, 1) := by decide +kernel
theorem dX8_isReady_24 : decode cX8_isReady 24 = .ok (.iconst 4, 1) := by decide +kernel
theorem dX8_isReady_25 : decode cX8_isReady 25 = .ok (.iload_n 1, 1) := by decide +kernel
theorem dX8_isReady_26 : decode cX8_isReady 26 = .ok (.iadd, 1) := by decide +kernel
theorem dX8_isReady_27 : decode cX8_isReady 27 = .ok (.iaload, 1) := by decide +kernel
theorem dX8_isReady_28 : decode cX8_isReady 28 = .ok (.aload_n 0, 1) := by decide +kernel
theorem dX8_isReady_29 : decode cX8_isReady 29 = .ok (.bipush 26, 2) := by decide +kernel
theorem dX8_isReady_31 : decode cX8_isReady 31 = .ok (.iload_n 1, 1) := by decide +kernel
theorem dX8_isReady_32 : decode cX8_isReady 32 = .ok (.iadd, 1) := by decide +kernel
theorem dX8_isReady_33 : decode cX8_isReady 33 = .ok (.iaload, 1) := by decide +kernel
theorem dX8_isReady_34 : decode cX8_isReady 34 = .ok (.if_icmp .ne 7, 3) := by decide +kernel
theorem dX8_isReady_37 : decode cX8_isReady 37 = .ok (.iconst 1, 1) := by decide +kernel
theorem dX8_isReady_38 : decode cX8_isReady 38 = .ok (.goto 4, 3) := by decide +kernel
theorem dX8_isReady_41 : decode cX8_isReady 41 = .ok (.iconst 0, 1) := by decide +kernel
theorem dX8_isReady_42 : decode cX8_isReady 42 = .ok (.invokestatic 118, 3) := by decide +kernel
theorem dX8_isReady_45 : decode cX8_isReady 45 = .ok (.ifCond .eq 7, 3) := by decide +kernel
theorem dX8_isReady_48 : decode cX8_isReady 48 = .ok (.iconst 1, 1) := by decide +kernel
theorem dX8_isReady_49 : decode cX8_isReady 49 = .ok (.goto 4, 3) := by decide +kernel
theorem dX8_isReady_52 : decode cX8_isReady 52 = .ok (.iconst 0, 1) := by decide +kernel
theorem dX8_isReady_53 : decode cX8_isReady 53 = .ok (.ireturn, 1) := by decide +kernel
theorem dX8_next_0 : decode cX8_next 0 = .ok (.aload_n 0, 1) := by decide +kernel
theorem dX8_next_1 : decode cX8_next 1 = .ok (.bipush 19, 2) := by decide +kernel
theorem dX8_next_3 : decode cX8_next 3 = .ok (.iload_n 1, 1) := by decide +kernel
theorem dX8_next_4 : decode cX8_next 4 = .ok (.iadd, 1) := by decide +kernel
theorem dX8_next_5 : decode cX8_next 5 = .ok (.iaload, 1) := by decide +kernel
theorem dX8_next_6 : decode cX8_next 6 = .ok (.aload_n 0, 1) := by decide +kernel
theorem dX8_next_7 : decode cX8_next 7 = .ok (.iconst 4, 1) := by decide +kernel
theorem dX8_next_8 : decode cX8_next 8 = .ok (.iload_n 1, 1) := by decide +kernel
theorem dX8_next_9 : decode cX8_next 9 = .ok (.iadd, 1) := by decide +kernel
theorem dX8_next_10 : decode cX8_next 10 = .ok (.iaload, 1) := by decide +kernel
theorem dX8_next_11 : decode cX8_next 11 = .ok (.aload_n 0, 1) := by decide +kernel
theorem dX8_next_12 : decode cX8_next 12 = .ok (.bipush 11, 2) := by decide +kernel
theorem dX8_next_14 : decode cX8_next 14 = .ok (.iload_n 1, 1) := by decide +kernel
theorem dX8_next_15 : decode cX8_next 15 = .ok (.iadd, 1) := by decide +kernel
theorem dX8_next_16 : decode cX8_next 16 = .ok (.iaload, 1) := by decide +kernel
theorem dX8_next_17 : decode cX8_next 17 = .ok (.aload_n 0, 1) := by decide +kernel
theorem dX8_next_18 : decode cX8_next 18 = .ok (.bipush 26, 2) := by decide +kernel
theorem dX8_next_20 : decode cX8_next 20 = .ok (.iload_n 1, 1) := by decide +kernel
theorem dX8_next_21 : decode cX8_next 21 = .ok (.iadd, 1) := by decide +kernel
theorem dX8_next_22 : decode cX8_next 22 = .ok (.iaload, 1) := by decide +kernel
theorem dX8_next_23 : decode cX8_next 23 = .ok (.invokestatic 122, 3) := by decide +kernel
theorem dX8_next_26 : decode cX8_next 26 = .ok (.ireturn, 1) := by decide +kernel
theorem dX8_drum_0 : decode cX8_drum 0 = .ok (.aload_n 0, 1) := by decide +kernel
theorem dX8_drum_1 : decode cX8_drum 1 = .ok (.iload_n 1, 1) := by decide +kernel
theorem dX8_drum_2 : decode cX8_drum 2 = .ok (.invokevirtual 126, 3) := by decide +kernel
theorem dX8_drum_5 : decode cX8_drum 5 = .ok (.ifCond .ne 5, 3) := by decide +kernel
theorem dX8_drum_8 : decode cX8_drum 8 = .ok (.iconst (-1), 1) := by decide +kernel
theorem dX8_drum_9 : decode cX8_drum 9 = .ok (.ireturn, 1) := by decide +kernel
theorem dX8_drum_10 : decode cX8_drum 10 = .ok (.iload_n 2, 1) := by decide +kernel
theorem dX8_drum_11 : decode cX8_drum 11 = .ok (.tableswitch 145 0 6 #[41, 55, 68, 82, 96, 111, 132], 41) := by decide +kernel
theorem dX8_drum_52 : decode cX8_drum 52 = .ok (.aload_n 0, 1) := by decide +kernel
theorem dX8_drum_53 : decode cX8_drum 53 = .ok (.aload_n 0, 1) := by decide +kernel
theorem dX8_drum_54 : decode cX8_drum 54 = .ok (.getfield 26, 3) := by decide +kernel
theorem dX8_drum_57 : decode cX8_drum 57 = .ok (.bipush 19, 2) := by decide +kernel
theorem dX8_drum_59 : decode cX8_drum 59 = .ok (.iload_n 1, 1) := by decide +kernel
theorem dX8_drum_60 : decode cX8_drum 60 = .ok (.iadd, 1) := by decide +kernel
theorem dX8_drum_61 : decode cX8_drum 61 = .ok (.iaload, 1) := by decide +kernel
theorem dX8_drum_62 : decode cX8_drum 62 = .ok (.invokevirtual 89, 3) := by decide +kernel
theorem dX8_drum_65 : decode cX8_drum 65 = .ok (.ireturn, 1) := by decide +kernel
theorem dX8_drum_66 : decode cX8_drum 66 = .ok (.aload_n 0, 1) := by decide +kernel
theorem dX8_drum_67 : decode cX8_drum 67 = .ok (.aload_n 0, 1) := by decide +kernel
theorem dX8_drum_68 : decode cX8_drum 68 = .ok (.getfield 26, 3) := by decide +kernel
theorem dX8_drum_71 : decode cX8_drum 71 = .ok (.iconst 4, 1) := by decide +kernel
theorem dX8_drum_72 : decode cX8_drum 72 = .ok (.iload_n 1, 1) := by decide +kernel
theorem dX8_drum_73 : decode cX8_drum 73 = .ok (.iadd, 1) := by decide +kernel
theorem dX8_drum_74 : decode cX8_drum 74 = .ok (.iaload, 1) := by decide +kernel
theorem dX8_drum_75 : decode cX8_drum 75 = .ok (.invokevirtual 89, 3) := by decide +kernel
theorem dX8_drum_78 : decode cX8_drum 78 = .ok (.ireturn, 1) := by decide +kernel
theorem dX8_drum_79 : decode cX8_drum 79 = .ok (.aload_n 0, 1) := by decide +kernel
theorem dX8_drum_80 : decode cX8_drum 80 = .ok (.aload_n 0, 1) := by decide +kernel
theorem dX8_drum_81 : decode cX8_drum 81 = .ok (.getfield 26, 3) := by decide +kernel
theorem dX8_drum_84 : decode cX8_drum 84 = .ok (.bipush 11, 2) := by decide +kernel
theorem dX8_drum_86 : decode cX8_drum 86 = .ok (.iload_n 1, 1) := by decide +kernel
theorem dX8_drum_87 : decode cX8_drum 87 = .ok (.iadd, 1) := by decide +kernel
theorem dX8_drum_88 : decode cX8_drum 88 = .ok (.iaload, 1) := by decide +kernel
theorem dX8_drum_89 : decode cX8_drum 89 = .ok (.invokevirtual 89, 3) := by decide +kernel
theorem dX8_drum_92 : decode cX8_drum 92 = .ok (.ireturn, 1) := by decide +kernel
theorem dX8_drum_93 : decode cX8_drum 93 = .ok (.aload_n 0, 1) := by decide +kernel
theorem dX8_drum_94 : decode cX8_drum 94 = .ok (.aload_n 0, 1) := by decide +kernel
theorem dX8_drum_95 : decode cX8_drum 95 = .ok (.getfield 26, 3) := by decide +kernel
theorem dX8_drum_98 : decode cX8_drum 98 = .ok (.bipush 26, 2) := by decide +kernel
theorem dX8_drum_100 : decode cX8_drum 100 = .ok (.iload_n 1, 1) := by decide +kernel
theorem dX8_drum_101 : decode cX8_drum 101 = .ok (.iadd, 1) := by decide +kernel
theorem dX8_drum_102 : decode cX8_drum 102 = .ok (.iaload, 1) := by decide +kernel
theorem dX8_drum_103 : decode cX8_drum 103 = .ok (.invokevirtual 89, 3) := by decide +kernel
theorem dX8_drum_106 : decode cX8_drum 106 = .ok (.ireturn, 1) := by decide +kernel
theorem dX8_drum_107 : decode cX8_drum 107 = .ok (.aload_n 0, 1) := by decide +kernel
theorem dX8_drum_108 : decode cX8_drum 108 = .ok (.aload_n 0, 1) := by decide +kernel
theorem dX8_drum_109 : decode cX8_drum 109 = .ok (.getfield 26, 3) := by decide +kernel
theorem dX8_drum_112 : decode cX8_drum 112 = .ok (.iconst 3, 1) := by decide +kernel
theorem dX8_drum_113 : decode cX8_drum 113 = .ok (.iaload, 1) := by decide +kernel
theorem dX8_drum_114 : decode cX8_drum 114 = .ok (.iload_n 1, 1) := by decide +kernel
theorem dX8_drum_115 : decode cX8_drum 115 = .ok (.ishr, 1) := by decide +kernel
theorem dX8_drum_116 : decode cX8_drum 116 = .ok (.iconst 1, 1) := by decide +kernel
theorem dX8_drum_117 : decode cX8_drum 117 = .ok (.iand, 1) := by decide +kernel
theorem dX8_drum_118 : decode cX8_drum 118 = .ok (.invokevirtual 89, 3) := by decide +kernel
theorem dX8_drum_121 : decode cX8_drum 121 = .ok (.ireturn, 1) := by decide +kernel
theorem dX8_drum_122 : decode cX8_drum 122 = .ok (.aload_n 0, 1) := by decide +kernel
theorem dX8_drum_123 : decode cX8_drum 123 = .ok (.aload_n 0, 1) := by decide +kernel
theorem dX8_drum_124 : decode cX8_drum 124 = .ok (.getfield 26, 3) := by decide +kernel
theorem dX8_drum_127 : decode cX8_drum 127 = .ok (.iload_n 1, 1) := by decide +kernel
theorem dX8_drum_128 : decode cX8_drum 128 = .ok (.invokestatic 129, 3) := by decide +kernel
theorem dX8_drum_131 : decode cX8_drum 131 = .ok (.ifCond .eq 7, 3) := by decide +kernel
theorem dX8_drum_134 : decode cX8_drum 134 = .ok (.iconst 1, 1) := by decide +kernel
theorem dX8_drum_135 : decode cX8_drum 135 = .ok (.goto 4, 3) := by decide +kernel
theorem dX8_drum_138 : decode cX8_drum 138 = .ok (.iconst 0, 1) := by decide +kernel
theorem dX8_drum_139 : decode cX8_drum 139 = .ok (.invokevirtual 89, 3) := by decide +kernel
theorem dX8_drum_142 : decode cX8_drum 142 = .ok (.ireturn, 1) := by decide +kernel
theorem dX8_drum_143 : decode cX8_drum 143 = .ok (.aload_n 0, 1) := by decide +kernel
theorem dX8_drum_144 : decode cX8_drum 144 = .ok (.aload_n 0, 1) := by decide +kernel
theorem dX8_drum_145 : decode cX8_drum 145 = .ok (.getfield 26, 3) := by decide +kernel
theorem dX8_drum_148 : decode cX8_drum 148 = .ok (.iload_n 1, 1) := by decide +kernel
theorem dX8_drum_149 : decode cX8_drum 149 = .ok (.invokestatic 133, 3) := by decide +kernel
theorem dX8_drum_152 : decode cX8_drum 152 = .ok (.invokevirtual 89, 3) := by decide +kernel
theorem dX8_drum_155 : decode cX8_drum 155 = .ok (.ireturn, 1) := by decide +kernel
theorem dX8_drum_156 : decode cX8_drum 156 = .ok (.iconst (-1), 1) := by decide +kernel
theorem dX8_drum_157 : decode cX8_drum 157 = .ok (.ireturn, 1) := by decide +kernel
theorem dX8_is_0 : decode cX8_is 0 = .ok (.iload_n 1, 1) := by decide +kernel
theorem dX8_is_1 : decode cX8_is 1 = .ok (.ifCond .eq 28, 3) := by decide +kernel
theorem dX8_is_4 : decode cX8_is 4 = .ok (.iload_n 0, 1) := by decide +kernel
theorem dX8_is_5 : decode cX8_is 5 = .ok (.iload_n 1, 1) := by decide +kernel
theorem dX8_is_6 : decode cX8_is 6 = .ok (.if_icmp .eq 23, 3) := by decide +kernel
theorem dX8_is_9 : decode cX8_is 9 = .ok (.iload_n 0, 1) := by decide +kernel
theorem dX8_is_10 : decode cX8_is 10 = .ok (.iconst 4, 1) := by decide +kernel
theorem dX8_is_11 : decode cX8_is 11 = .ok (.if_icmp .ne 8, 3) := by decide +kernel
theorem dX8_is_14 : decode cX8_is 14 = .ok (.iload_n 1, 1) := by decide +kernel
theorem dX8_is_15 : decode cX8_is 15 = .ok (.iconst 1, 1) := by decide +kernel
theorem dX8_is_16 : decode cX8_is 16 = .ok (.if_icmp .eq 13, 3) := by decide +kernel
theorem dX8_is_19 : decode cX8_is 19 = .ok (.iload_n 0, 1) := by decide +kernel
theorem dX8_is_20 : decode cX8_is 20 = .ok (.iconst 5, 1) := by decide +kernel
theorem dX8_is_21 : decode cX8_is 21 = .ok (.if_icmp .ne 12, 3) := by decide +kernel
theorem dX8_is_24 : decode cX8_is 24 = .ok (.iload_n 1, 1) := by decide +kernel
theorem dX8_is_25 : decode cX8_is 25 = .ok (.iconst 2, 1) := by decide +kernel
theorem dX8_is_26 : decode cX8_is 26 = .ok (.if_icmp .ne 7, 3) := by decide +kernel
theorem dX8_is_29 : decode cX8_is 29 = .ok (.iconst 1, 1) := by decide +kernel
theorem dX8_is_30 : decode cX8_is 30 = .ok (.goto 4, 3) := by decide +kernel
theorem dX8_is_33 : decode cX8_is 33 = .ok (.iconst 0, 1) := by decide +kernel
theorem dX8_is_34 : decode cX8_is 34 = .ok (.ireturn, 1) := by decide +kernel
theorem dX8_readyTicks_0 : decode cX8_readyTicks 0 = .ok (.iconst 0, 1) := by decide +kernel
theorem dX8_readyTicks_1 : decode cX8_readyTicks 1 = .ok (.istore_n 3, 1) := by decide +kernel
theorem dX8_readyTicks_2 : decode cX8_readyTicks 2 = .ok (.iconst 0, 1) := by decide +kernel
theorem dX8_readyTicks_3 : decode cX8_readyTicks 3 = .ok (.istore 4, 2) := by decide +kernel
theorem dX8_readyTicks_5 : decode cX8_readyTicks 5 = .ok (.iload 4, 2) := by decide +kernel
theorem dX8_readyTicks_7 : decode cX8_readyTicks 7 = .ok (.bipush 8, 2) := by decide +kernel
theorem dX8_readyTicks_9 : decode cX8_readyTicks 9 = .ok (.if_icmp .ge 58, 3) := by decide +kernel
theorem dX8_readyTicks_12 : decode cX8_readyTicks 12 = .ok (.iload_n 3, 1) := by decide +kernel
theorem dX8_readyTicks_13 : decode cX8_readyTicks 13 = .ok (.iload_n 1, 1) := by decide +kernel
theorem dX8_readyTicks_14 : decode cX8_readyTicks 14 = .ok (.aload_n 0, 1) := by decide +kernel
theorem dX8_readyTicks_15 : decode cX8_readyTicks 15 = .ok (.getfield 26, 3) := by decide +kernel
theorem dX8_readyTicks_18 : decode cX8_readyTicks 18 = .ok (.iconst 1, 1) := by decide +kernel
theorem dX8_readyTicks_19 : decode cX8_readyTicks 19 = .ok (.iaload, 1) := by decide +kernel
theorem dX8_readyTicks_20 : decode cX8_readyTicks 20 = .ok (.iload 4, 2) := by decide +kernel
theorem dX8_readyTicks_22 : decode cX8_readyTicks 22 = .ok (.iadd, 1) := by decide +kernel
theorem dX8_readyTicks_23 : decode cX8_readyTicks 23 = .ok (.aload_n 0, 1) := by decide +kernel
theorem dX8_readyTicks_24 : decode cX8_readyTicks 24 = .ok (.getfield 26, 3) := by decide +kernel
theorem dX8_readyTicks_27 : decode cX8_readyTicks 27 = .ok (.iconst 4, 1) := by decide +kernel
theorem dX8_readyTicks_28 : decode cX8_readyTicks 28 = .ok (.iload_n 2, 1) := by decide +kernel
theorem dX8_readyTicks_29 : decode cX8_readyTicks 29 = .ok (.iadd, 1) := by decide +kernel
theorem dX8_readyTicks_30 : decode cX8_readyTicks 30 = .ok (.iaload, 1) := by decide +kernel
theorem dX8_readyTicks_31 : decode cX8_readyTicks 31 = .ok (.aload_n 0, 1) := by decide +kernel
theorem dX8_readyTicks_32 : decode cX8_readyTicks 32 = .ok (.getfield 26, 3) := by decide +kernel
theorem dX8_readyTicks_35 : decode cX8_readyTicks 35 = .ok (.bipush 26, 2) := by decide +kernel
theorem dX8_readyTicks_37 : decode cX8_readyTicks 37 = .ok (.iload_n 2, 1) := by decide +kernel
theorem dX8_readyTicks_38 : decode cX8_readyTicks 38 = .ok (.iadd, 1) := by decide +kernel
theorem dX8_readyTicks_39 : decode cX8_readyTicks 39 = .ok (.iaload, 1) := by decide +kernel
theorem dX8_readyTicks_40 : decode cX8_readyTicks 40 = .ok (.if_icmp .ne 7, 3) := by decide +kernel
theorem dX8_readyTicks_43 : decode cX8_readyTicks 43 = .ok (.iconst 1, 1) := by decide +kernel
theorem dX8_readyTicks_44 : decode cX8_readyTicks 44 = .ok (.goto 4, 3) := by decide +kernel
theorem dX8_readyTicks_47 : decode cX8_readyTicks 47 = .ok (.iconst 0, 1) := by decide +kernel
theorem dX8_readyTicks_48 : decode cX8_readyTicks 48 = .ok (.invokestatic 118, 3) := by decide +kernel
theorem dX8_readyTicks_51 : decode cX8_readyTicks 51 = .ok (.ifCond .eq 7, 3) := by decide +kernel
theorem dX8_readyTicks_54 : decode cX8_readyTicks 54 = .ok (.iconst 1, 1) := by decide +kernel
theorem dX8_readyTicks_55 : decode cX8_readyTicks 55 = .ok (.goto 4, 3) := by decide +kernel
theorem dX8_readyTicks_58 : decode cX8_readyTicks 58 = .ok (.iconst 0, 1) := by decide +kernel
theorem dX8_readyTicks_59 : decode cX8_readyTicks 59 = .ok (.iadd, 1) := by decide +kernel
theorem dX8_readyTicks_60 : decode cX8_readyTicks 60 = .ok (.istore_n 3, 1) := by decide +kernel
theorem dX8_readyTicks_61 : decode cX8_readyTicks 61 = .ok (.iinc 4 1, 3) := by decide +kernel
theorem dX8_readyTicks_64 : decode cX8_readyTicks 64 = .ok (.goto (-59), 3) := by decide +kernel
theorem dX8_readyTicks_67 : decode cX8_readyTicks 67 = .ok (.iload_n 3, 1) := by decide +kernel
theorem dX8_readyTicks_68 : decode cX8_readyTicks 68 = .ok (.ireturn, 1) := by decide +kernel
theorem dX8_neverShown_0 : decode cX8_neverShown 0 = .ok (.iconst 1, 1) := by decide +kernel
theorem dX8_neverShown_1 : decode cX8_neverShown 1 = .ok (.istore_n 2, 1) := by decide +kernel
theorem dX8_neverShown_2 : decode cX8_neverShown 2 = .ok (.iconst 0, 1) := by decide +kernel
theorem dX8_neverShown_3 : decode cX8_neverShown 3 = .ok (.istore_n 3, 1) := by decide +kernel
theorem dX8_neverShown_4 : decode cX8_neverShown 4 = .ok (.iconst 0, 1) := by decide +kernel
theorem dX8_neverShown_5 : decode cX8_neverShown 5 = .ok (.istore 4, 2) := by decide +kernel
theorem dX8_neverShown_7 : decode cX8_neverShown 7 = .ok (.iload 4, 2) := by decide +kernel
theorem dX8_neverShown_9 : decode cX8_neverShown 9 = .ok (.bipush 30, 2) := by decide +kernel
theorem dX8_neverShown_11 : decode cX8_neverShown 11 = .ok (.if_icmp .ge 47, 3) := by decide +kernel
theorem dX8_neverShown_14 : decode cX8_neverShown 14 = .ok (.aload_n 0, 1) := by decide +kernel
theorem dX8_neverShown_15 : decode cX8_neverShown 15 = .ok (.getfield 26, 3) := by decide +kernel
theorem dX8_neverShown_18 : decode cX8_neverShown 18 = .ok (.bipush 19, 2) := by decide +kernel
theorem dX8_neverShown_20 : decode cX8_neverShown 20 = .ok (.iload_n 1, 1) := by decide +kernel
theorem dX8_neverShown_21 : decode cX8_neverShown 21 = .ok (.iadd, 1) := by decide +kernel
theorem dX8_neverShown_22 : decode cX8_neverShown 22 = .ok (.iaload, 1) := by decide +kernel
theorem dX8_neverShown_23 : decode cX8_neverShown 23 = .ok (.iload_n 3, 1) := by decide +kernel
theorem dX8_neverShown_24 : decode cX8_neverShown 24 = .ok (.aload_n 0, 1) := by decide +kernel
theorem dX8_neverShown_25 : decode cX8_neverShown 25 = .ok (.getfield 26, 3) := by decide +kernel
theorem dX8_neverShown_28 : decode cX8_neverShown 28 = .ok (.bipush 11, 2) := by decide +kernel
theorem dX8_neverShown_30 : decode cX8_neverShown 30 = .ok (.iload_n 1, 1) := by decide +kernel
theorem dX8_neverShown_31 : decode cX8_neverShown 31 = .ok (.iadd, 1) := by decide +kernel
theorem dX8_neverShown_32 : decode cX8_neverShown 32 = .ok (.iaload, 1) := by decide +kernel
theorem dX8_neverShown_33 : decode cX8_neverShown 33 = .ok (.aload_n 0, 1) := by decide +kernel
theorem dX8_neverShown_34 : decode cX8_neverShown 34 = .ok (.getfield 26, 3) := by decide +kernel
theorem dX8_neverShown_37 : decode cX8_neverShown 37 = .ok (.bipush 26, 2) := by decide +kernel
theorem dX8_neverShown_39 : decode cX8_neverShown 39 = .ok (.iload_n 1, 1) := by decide +kernel
theorem dX8_neverShown_40 : decode cX8_neverShown 40 = .ok (.iadd, 1) := by decide +kernel
theorem dX8_neverShown_41 : decode cX8_neverShown 41 = .ok (.iaload, 1) := by decide +kernel
theorem dX8_neverShown_42 : decode cX8_neverShown 42 = .ok (.invokestatic 122, 3) := by decide +kernel
theorem dX8_neverShown_45 : decode cX8_neverShown 45 = .ok (.istore_n 3, 1) := by decide +kernel
theorem dX8_neverShown_46 : decode cX8_neverShown 46 = .ok (.iload_n 2, 1) := by decide +kernel
theorem dX8_neverShown_47 : decode cX8_neverShown 47 = .ok (.iconst 1, 1) := by decide +kernel
theorem dX8_neverShown_48 : decode cX8_neverShown 48 = .ok (.iload_n 3, 1) := by decide +kernel
theorem dX8_neverShown_49 : decode cX8_neverShown 49 = .ok (.ishl, 1) := by decide +kernel
theorem dX8_neverShown_50 : decode cX8_neverShown 50 = .ok (.ior, 1) := by decide +kernel
theorem dX8_neverShown_51 : decode cX8_neverShown 51 = .ok (.istore_n 2, 1) := by decide +kernel
theorem dX8_neverShown_52 : decode cX8_neverShown 52 = .ok (.iinc 4 1, 3) := by decide +kernel
theorem dX8_neverShown_55 : decode cX8_neverShown 55 = .ok (.goto (-48), 3) := by decide +kernel
theorem dX8_neverShown_58 : decode cX8_neverShown 58 = .ok (.iconst 0, 1) := by decide +kernel
theorem dX8_neverShown_59 : decode cX8_neverShown 59 = .ok (.istore 4, 2) := by decide +kernel
theorem dX8_neverShown_61 : decode cX8_neverShown 61 = .ok (.iconst 0, 1) := by decide +kernel
theorem dX8_neverShown_62 : decode cX8_neverShown 62 = .ok (.istore 5, 2) := by decide +kernel
theorem dX8_neverShown_64 : decode cX8_neverShown 64 = .ok (.iload 5, 2) := by decide +kernel
theorem dX8_neverShown_66 : decode cX8_neverShown 66 = .ok (.bipush 10, 2) := by decide +kernel
theorem dX8_neverShown_68 : decode cX8_neverShown 68 = .ok (.if_icmp .ge 28, 3) := by decide +kernel
theorem dX8_neverShown_71 : decode cX8_neverShown 71 = .ok (.iload 4, 2) := by decide +kernel
theorem dX8_neverShown_73 : decode cX8_neverShown 73 = .ok (.iload_n 2, 1) := by decide +kernel
theorem dX8_neverShown_74 : decode cX8_neverShown 74 = .ok (.iload 5, 2) := by decide +kernel
theorem dX8_neverShown_76 : decode cX8_neverShown 76 = .ok (.invokestatic 137, 3) := by decide +kernel
theorem dX8_neverShown_79 : decode cX8_neverShown 79 = .ok (.ifCond .eq 7, 3) := by decide +kernel
theorem dX8_neverShown_82 : decode cX8_neverShown 82 = .ok (.iconst 0, 1) := by decide +kernel
theorem dX8_neverShown_83 : decode cX8_neverShown 83 = .ok (.goto 4, 3) := by decide +kernel
theorem dX8_neverShown_86 : decode cX8_neverShown 86 = .ok (.iconst 1, 1) := by decide +kernel
theorem dX8_neverShown_87 : decode cX8_neverShown 87 = .ok (.iadd, 1) := by decide +kernel
theorem dX8_neverShown_88 : decode cX8_neverShown 88 = .ok (.istore 4, 2) := by decide +kernel
theorem dX8_neverShown_90 : decode cX8_neverShown 90 = .ok (.iinc 5 1, 3) := by decide +kernel
theorem dX8_neverShown_93 : decode cX8_neverShown 93 = .ok (.goto (-29), 3) := by decide +kernel
theorem dX8_neverShown_96 : decode cX8_neverShown 96 = .ok (.iload 4, 2) := by decide +kernel
theorem dX8_neverShown_98 : decode cX8_neverShown 98 = .ok (.ireturn, 1) := by decide +kernel
theorem dX8_mark_0 : decode cX8_mark 0 = .ok (.aload_n 0, 1) := by decide +kernel
theorem dX8_mark_1 : decode cX8_mark 1 = .ok (.iload_n 1, 1) := by decide +kernel
theorem dX8_mark_2 : decode cX8_mark 2 = .ok (.invokevirtual 126, 3) := by decide +kernel
theorem dX8_mark_5 : decode cX8_mark 5 = .ok (.ifCond .eq 12, 3) := by decide +kernel
theorem dX8_mark_8 : decode cX8_mark 8 = .ok (.iload_n 2, 1) := by decide +kernel
theorem dX8_mark_9 : decode cX8_mark 9 = .ok (.iconst 1, 1) := by decide +kernel
theorem dX8_mark_10 : decode cX8_mark 10 = .ok (.iconst 5, 1) := by decide +kernel
theorem dX8_mark_11 : decode cX8_mark 11 = .ok (.invokestatic 73, 3) := by decide +kernel
theorem dX8_mark_14 : decode cX8_mark 14 = .ok (.ifCond .ne 5, 3) := by decide +kernel
theorem dX8_mark_17 : decode cX8_mark 17 = .ok (.iconst (-1), 1) := by decide +kernel
theorem dX8_mark_18 : decode cX8_mark 18 = .ok (.ireturn, 1) := by decide +kernel
theorem dX8_mark_19 : decode cX8_mark 19 = .ok (.aload_n 0, 1) := by decide +kernel
theorem dX8_mark_20 : decode cX8_mark 20 = .ok (.getfield 26, 3) := by decide +kernel
theorem dX8_mark_23 : decode cX8_mark 23 = .ok (.bipush 19, 2) := by decide +kernel
theorem dX8_mark_25 : decode cX8_mark 25 = .ok (.iload_n 1, 1) := by decide +kernel
theorem dX8_mark_26 : decode cX8_mark 26 = .ok (.iadd, 1) := by decide +kernel
theorem dX8_mark_27 : decode cX8_mark 27 = .ok (.iaload, 1) := by decide +kernel
theorem dX8_mark_28 : decode cX8_mark 28 = .ok (.istore_n 3, 1) := by decide +kernel
theorem dX8_mark_29 : decode cX8_mark 29 = .ok (.iload_n 3, 1) := by decide +kernel
theorem dX8_mark_30 : decode cX8_mark 30 = .ok (.iload_n 2, 1) := by decide +kernel
theorem dX8_mark_31 : decode cX8_mark 31 = .ok (.invokestatic 141, 3) := by decide +kernel
theorem dX8_mark_34 : decode cX8_mark 34 = .ok (.ifCond .ne 9, 3) := by decide +kernel
theorem dX8_mark_37 : decode cX8_mark 37 = .ok (.aload_n 0, 1) := by decide +kernel
theorem dX8_mark_38 : decode cX8_mark 38 = .ok (.iconst 3, 1) := by decide +kernel
theorem dX8_mark_39 : decode cX8_mark 39 = .ok (.invokevirtual 81, 3) := by decide +kernel
theorem dX8_mark_42 : decode cX8_mark 42 = .ok (.ireturn, 1) := by decide +kernel
theorem dX8_mark_43 : decode cX8_mark 43 = .ok (.iload_n 2, 1) := by decide +kernel
theorem dX8_mark_44 : decode cX8_mark 44 = .ok (.tableswitch 84 1 4 #[32, 39, 45, 70], 32) := by decide +kernel
theorem dX8_mark_76 : decode cX8_mark 76 = .ok (.aload_n 0, 1) := by decide +kernel
theorem dX8_mark_77 : decode cX8_mark 77 = .ok (.iload_n 3, 1) := by decide +kernel
theorem dX8_mark_78 : decode cX8_mark 78 = .ok (.iload_n 1, 1) := by decide +kernel
theorem dX8_mark_79 : decode cX8_mark 79 = .ok (.invokevirtual 144, 3) := by decide +kernel
theorem dX8_mark_82 : decode cX8_mark 82 = .ok (.ireturn, 1) := by decide +kernel
theorem dX8_mark_83 : decode cX8_mark 83 = .ok (.aload_n 0, 1) := by decide +kernel
theorem dX8_mark_84 : decode cX8_mark 84 = .ok (.iload_n 1, 1) := by decide +kernel
theorem dX8_mark_85 : decode cX8_mark 85 = .ok (.invokevirtual 147, 3) := by decide +kernel
theorem dX8_mark_88 : decode cX8_mark 88 = .ok (.ireturn, 1) := by decide +kernel
theorem dX8_mark_89 : decode cX8_mark 89 = .ok (.aload_n 0, 1) := by decide +kernel
theorem dX8_mark_90 : decode cX8_mark 90 = .ok (.getfield 26, 3) := by decide +kernel
theorem dX8_mark_93 : decode cX8_mark 93 = .ok (.iconst 4, 1) := by decide +kernel
theorem dX8_mark_94 : decode cX8_mark 94 = .ok (.iload_n 1, 1) := by decide +kernel
theorem dX8_mark_95 : decode cX8_mark 95 = .ok (.iadd, 1) := by decide +kernel
theorem dX8_mark_96 : decode cX8_mark 96 = .ok (.iaload, 1) := by decide +kernel
theorem dX8_mark_97 : decode cX8_mark 97 = .ok (.aload_n 0, 1) := by decide +kernel
theorem dX8_mark_98 : decode cX8_mark 98 = .ok (.getfield 26, 3) := by decide +kernel
theorem dX8_mark_101 : decode cX8_mark 101 = .ok (.bipush 11, 2) := by decide +kernel
theorem dX8_mark_103 : decode cX8_mark 103 = .ok (.iload_n 1, 1) := by decide +kernel
theorem dX8_mark_104 : decode cX8_mark 104 = .ok (.iadd, 1) := by decide +kernel
theorem dX8_mark_105 : decode cX8_mark 105 = .ok (.iaload, 1) := by decide +kernel
theorem dX8_mark_106 : decode cX8_mark 106 = .ok (.isub, 1) := by decide +kernel
theorem dX8_mark_107 : decode cX8_mark 107 = .ok (.bipush 10, 2) := by decide +kernel
theorem dX8_mark_109 : decode cX8_mark 109 = .ok (.iadd, 1) := by decide +kernel
theorem dX8_mark_110 : decode cX8_mark 110 = .ok (.bipush 10, 2) := by decide +kernel
theorem dX8_mark_112 : decode cX8_mark 112 = .ok (.irem, 1) := by decide +kernel
theorem dX8_mark_113 : decode cX8_mark 113 = .ok (.ireturn, 1) := by decide +kernel
theorem dX8_mark_114 : decode cX8_mark 114 = .ok (.aload_n 0, 1) := by decide +kernel
theorem dX8_mark_115 : decode cX8_mark 115 = .ok (.iconst 1, 1) := by decide +kernel
theorem dX8_mark_116 : decode cX8_mark 116 = .ok (.iload_n 1, 1) := by decide +kernel
theorem dX8_mark_117 : decode cX8_mark 117 = .ok (.invokevirtual 144, 3) := by decide +kernel
theorem dX8_mark_120 : decode cX8_mark 120 = .ok (.aload_n 0, 1) := by decide +kernel
theorem dX8_mark_121 : decode cX8_mark 121 = .ok (.iconst 4, 1) := by decide +kernel
theorem dX8_mark_122 : decode cX8_mark 122 = .ok (.iload_n 1, 1) := by decide +kernel
theorem dX8_mark_123 : decode cX8_mark 123 = .ok (.invokevirtual 144, 3) := by decide +kernel
theorem dX8_mark_126 : decode cX8_mark 126 = .ok (.isub, 1) := by decide +kernel
theorem dX8_mark_127 : decode cX8_mark 127 = .ok (.ireturn, 1) := by decide +kernel
theorem dX8_mark_128 : decode cX8_mark 128 = .ok (.aload_n 0, 1) := by decide +kernel
theorem dX8_mark_129 : decode cX8_mark 129 = .ok (.getfield 26, 3) := by decide +kernel
theorem dX8_mark_132 : decode cX8_mark 132 = .ok (.iload_n 1, 1) := by decide +kernel
theorem dX8_mark_133 : decode cX8_mark 133 = .ok (.invokestatic 133, 3) := by decide +kernel
theorem dX8_mark_136 : decode cX8_mark 136 = .ok (.aload_n 0, 1) := by decide +kernel
theorem dX8_mark_137 : decode cX8_mark 137 = .ok (.getfield 26, 3) := by decide +kernel
theorem dX8_mark_140 : decode cX8_mark 140 = .ok (.iconst 4, 1) := by decide +kernel
theorem dX8_mark_141 : decode cX8_mark 141 = .ok (.iload_n 1, 1) := by decide +kernel
theorem dX8_mark_142 : decode cX8_mark 142 = .ok (.iadd, 1) := by decide +kernel
theorem dX8_mark_143 : decode cX8_mark 143 = .ok (.iaload, 1) := by decide +kernel
theorem dX8_mark_144 : decode cX8_mark 144 = .ok (.isub, 1) := by decide +kernel
theorem dX8_mark_145 : decode cX8_mark 145 = .ok (.bipush 10, 2) := by decide +kernel
theorem dX8_mark_147 : decode cX8_mark 147 = .ok (.iadd, 1) := by decide +kernel
theorem dX8_mark_148 : decode cX8_mark 148 = .ok (.bipush 10, 2) := by decide +kernel
theorem dX8_mark_150 : decode cX8_mark 150 = .ok (.irem, 1) := by decide +kernel
theorem dX8_mark_151 : decode cX8_mark 151 = .ok (.ireturn, 1) := by decide +kernel
theorem dX8_does_0 : decode cX8_does 0 = .ok (.iconst 0, 1) := by decide +kernel
theorem dX8_does_1 : decode cX8_does 1 = .ok (.istore_n 1, 1) := by decide +kernel
theorem dX8_does_2 : decode cX8_does 2 = .ok (.iload_n 1, 1) := by decide +kernel
theorem dX8_does_3 : decode cX8_does 3 = .ok (.bipush 18, 2) := by decide +kernel
theorem dX8_does_5 : decode cX8_does 5 = .ok (.if_icmp .ge 29, 3) := by decide +kernel
theorem dX8_does_8 : decode cX8_does 8 = .ok (.aload_n 0, 1) := by decide +kernel
theorem dX8_does_9 : decode cX8_does 9 = .ok (.getfield 38, 3) := by decide +kernel
theorem dX8_does_12 : decode cX8_does 12 = .ok (.bipush 18, 2) := by decide +kernel
theorem dX8_does_14 : decode cX8_does 14 = .ok (.aload_n 0, 1) := by decide +kernel
theorem dX8_does_15 : decode cX8_does 15 = .ok (.getfield 111, 3) := by decide +kernel
theorem dX8_does_18 : decode cX8_does 18 = .ok (.imul, 1) := by decide +kernel
theorem dX8_does_19 : decode cX8_does 19 = .ok (.iload_n 1, 1) := by decide +kernel
theorem dX8_does_20 : decode cX8_does 20 = .ok (.iadd, 1) := by decide +kernel
theorem dX8_does_21 : decode cX8_does 21 = .ok (.aload_n 0, 1) := by decide +kernel
theorem dX8_does_22 : decode cX8_does 22 = .ok (.getfield 26, 3) := by decide +kernel
theorem dX8_does_25 : decode cX8_does 25 = .ok (.iload_n 1, 1) := by decide +kernel
theorem dX8_does_26 : decode cX8_does 26 = .ok (.iaload, 1) := by decide +kernel
theorem dX8_does_27 : decode cX8_does 27 = .ok (.iastore, 1) := by decide +kernel
theorem dX8_does_28 : decode cX8_does 28 = .ok (.iinc 1 1, 3) := by decide +kernel
theorem dX8_does_31 : decode cX8_does 31 = .ok (.goto (-29), 3) := by decide +kernel
theorem dX8_does_34 : decode cX8_does 34 = .ok (.aload_n 0, 1) := by decide +kernel
theorem dX8_does_35 : decode cX8_does 35 = .ok (.dup, 1) := by decide +kernel
theorem dX8_does_36 : decode cX8_does 36 = .ok (.getfield 111, 3) := by decide +kernel
theorem dX8_does_39 : decode cX8_does 39 = .ok (.iconst 1, 1) := by decide +kernel
theorem dX8_does_40 : decode cX8_does 40 = .ok (.iadd, 1) := by decide +kernel
theorem dX8_does_41 : decode cX8_does 41 = .ok (.putfield 111, 3) := by decide +kernel
theorem dX8_does_44 : decode cX8_does 44 = .ok (.return_, 1) := by decide +kernel
theorem dX8_goes_0 : decode cX8_goes 0 = .ok (.iconst 0, 1) := by decide +kernel
theorem dX8_goes_1 : decode cX8_goes 1 = .ok (.istore_n 1, 1) := by decide +kernel
theorem dX8_goes_2 : decode cX8_goes 2 = .ok (.iconst 0, 1) := by decide +kernel
theorem dX8_goes_3 : decode cX8_goes 3 = .ok (.istore_n 2, 1) := by decide +kernel
theorem dX8_goes_4 : decode cX8_goes 4 = .ok (.iload_n 2, 1) := by decide +kernel
theorem dX8_goes_5 : decode cX8_goes 5 = .ok (.aload_n 0, 1) := by decide +kernel
theorem dX8_goes_6 : decode cX8_goes 6 = .ok (.bipush 18, 2) := by decide +kernel
theorem dX8_goes_8 : decode cX8_goes 8 = .ok (.iaload, 1) := by decide +kernel
theorem dX8_goes_9 : decode cX8_goes 9 = .ok (.if_icmp .ge 47, 3) := by decide +kernel
theorem dX8_goes_12 : decode cX8_goes 12 = .ok (.iload_n 1, 1) := by decide +kernel
theorem dX8_goes_13 : decode cX8_goes 13 = .ok (.aload_n 0, 1) := by decide +kernel
theorem dX8_goes_14 : decode cX8_goes 14 = .ok (.iconst 0, 1) := by decide +kernel
theorem dX8_goes_15 : decode cX8_goes 15 = .ok (.iaload, 1) := by decide +kernel
theorem dX8_goes_16 : decode cX8_goes 16 = .ok (.if_icmp .ge 40, 3) := by decide +kernel
theorem dX8_goes_19 : decode cX8_goes 19 = .ok (.aload_n 0, 1) := by decide +kernel
theorem dX8_goes_20 : decode cX8_goes 20 = .ok (.iload_n 2, 1) := by decide +kernel
theorem dX8_goes_21 : decode cX8_goes 21 = .ok (.invokestatic 129, 3) := by decide +kernel
theorem dX8_goes_24 : decode cX8_goes 24 = .ok (.ifCond .eq 26, 3) := by decide +kernel
theorem dX8_goes_27 : decode cX8_goes 27 = .ok (.aload_n 0, 1) := by decide +kernel
theorem dX8_goes_28 : decode cX8_goes 28 = .ok (.iconst 3, 1) := by decide +kernel
theorem dX8_goes_29 : decode cX8_goes 29 = .ok (.iaload, 1) := by decide +kernel
theorem dX8_goes_30 : decode cX8_goes 30 = .ok (.iload_n 2, 1) := by decide +kernel
theorem dX8_goes_31 : decode cX8_goes 31 = .ok (.invokestatic 137, 3) := by decide +kernel
theorem dX8_goes_34 : decode cX8_goes 34 = .ok (.ifCond .ne 16, 3) := by decide +kernel
theorem dX8_goes_37 : decode cX8_goes 37 = .ok (.aload_n 0, 1) := by decide +kernel
theorem dX8_goes_38 : decode cX8_goes 38 = .ok (.iconst 4, 1) := by decide +kernel
theorem dX8_goes_39 : decode cX8_goes 39 = .ok (.iload_n 2, 1) := by decide +kernel
theorem dX8_goes_40 : decode cX8_goes 40 = .ok (.iadd, 1) := by decide +kernel
theorem dX8_goes_41 : decode cX8_goes 41 = .ok (.aload_n 0, 1) := by decide +kernel
theorem dX8_goes_42 : decode cX8_goes 42 = .ok (.iload_n 2, 1) := by decide +kernel
theorem dX8_goes_43 : decode cX8_goes 43 = .ok (.invokestatic 133, 3) := by decide +kernel
theorem dX8_goes_46 : decode cX8_goes 46 = .ok (.iastore, 1) := by decide +kernel
theorem dX8_goes_47 : decode cX8_goes 47 = .ok (.iinc 1 1, 3) := by decide +kernel
theorem dX8_goes_50 : decode cX8_goes 50 = .ok (.iinc 2 1, 3) := by decide +kernel
theorem dX8_goes_53 : decode cX8_goes 53 = .ok (.goto (-49), 3) := by decide +kernel
theorem dX8_goes_56 : decode cX8_goes 56 = .ok (.aload_n 0, 1) := by decide +kernel
theorem dX8_goes_57 : decode cX8_goes 57 = .ok (.iconst 1, 1) := by decide +kernel
theorem dX8_goes_58 : decode cX8_goes 58 = .ok (.dup2, 1) := by decide +kernel
theorem dX8_goes_59 : decode cX8_goes 59 = .ok (.iaload, 1) := by decide +kernel
theorem dX8_goes_60 : decode cX8_goes 60 = .ok (.iconst 1, 1) := by decide +kernel
theorem dX8_goes_61 : decode cX8_goes 61 = .ok (.iadd, 1) := by decide +kernel
theorem dX8_goes_62 : decode cX8_goes 62 = .ok (.iastore, 1) := by decide +kernel
theorem dX8_goes_63 : decode cX8_goes 63 = .ok (.aload_n 0, 1) := by decide +kernel
theorem dX8_goes_64 : decode cX8_goes 64 = .ok (.iconst 2, 1) := by decide +kernel
theorem dX8_goes_65 : decode cX8_goes 65 = .ok (.dup2, 1) := by decide +kernel
theorem dX8_goes_66 : decode cX8_goes 66 = .ok (.iaload, 1) := by decide +kernel
theorem dX8_goes_67 : decode cX8_goes 67 = .ok (.iload_n 1, 1) := by decide +kernel
theorem dX8_goes_68 : decode cX8_goes 68 = .ok (.iadd, 1) := by decide +kernel
theorem dX8_goes_69 : decode cX8_goes 69 = .ok (.iastore, 1) := by decide +kernel
theorem dX8_goes_70 : decode cX8_goes 70 = .ok (.iload_n 1, 1) := by decide +kernel
theorem dX8_goes_71 : decode cX8_goes 71 = .ok (.ireturn, 1) := by decide +kernel
theorem dX8_tick_0 : decode cX8_tick 0 = .ok (.aload_n 0, 1) := by decide +kernel
theorem dX8_tick_1 : decode cX8_tick 1 = .ok (.getfield 26, 3) := by decide +kernel
theorem dX8_tick_4 : decode cX8_tick 4 = .ok (.bipush 18, 2) := by decide +kernel
theorem dX8_tick_6 : decode cX8_tick 6 = .ok (.iaload, 1) := by decide +kernel
theorem dX8_tick_7 : decode cX8_tick 7 = .ok (.ifCond .eq 14, 3) := by decide +kernel
theorem dX8_tick_10 : decode cX8_tick 10 = .ok (.aload_n 0, 1) := by decide +kernel
theorem dX8_tick_11 : decode cX8_tick 11 = .ok (.getfield 26, 3) := by decide +kernel
theorem dX8_tick_14 : decode cX8_tick 14 = .ok (.iconst 1, 1) := by decide +kernel
theorem dX8_tick_15 : decode cX8_tick 15 = .ok (.iaload, 1) := by decide +kernel
theorem dX8_tick_16 : decode cX8_tick 16 = .ok (.bipush 99, 2) := by decide +kernel
theorem dX8_tick_18 : decode cX8_tick 18 = .ok (.if_icmp .ne 6, 3) := by decide +kernel
theorem dX8_tick_21 : decode cX8_tick 21 = .ok (.bipush (-4), 2) := by decide +kernel
theorem dX8_tick_23 : decode cX8_tick 23 = .ok (.ireturn, 1) := by decide +kernel
theorem dX8_tick_24 : decode cX8_tick 24 = .ok (.aload_n 0, 1) := by decide +kernel
theorem dX8_tick_25 : decode cX8_tick 25 = .ok (.getfield 111, 3) := by decide +kernel
theorem dX8_tick_28 : decode cX8_tick 28 = .ok (.bipush 40, 2) := by decide +kernel
theorem dX8_tick_30 : decode cX8_tick 30 = .ok (.if_icmp .ne 6, 3) := by decide +kernel
theorem dX8_tick_33 : decode cX8_tick 33 = .ok (.bipush (-2), 2) := by decide +kernel
theorem dX8_tick_35 : decode cX8_tick 35 = .ok (.ireturn, 1) := by decide +kernel
theorem dX8_tick_36 : decode cX8_tick 36 = .ok (.aload_n 0, 1) := by decide +kernel
theorem dX8_tick_37 : decode cX8_tick 37 = .ok (.invokevirtual 150, 3) := by decide +kernel
theorem dX8_tick_40 : decode cX8_tick 40 = .ok (.aload_n 0, 1) := by decide +kernel
theorem dX8_tick_41 : decode cX8_tick 41 = .ok (.getfield 26, 3) := by decide +kernel
theorem dX8_tick_44 : decode cX8_tick 44 = .ok (.invokestatic 153, 3) := by decide +kernel
theorem dX8_tick_47 : decode cX8_tick 47 = .ok (.ireturn, 1) := by decide +kernel
theorem dX8_aim_0 : decode cX8_aim 0 = .ok (.aload_n 0, 1) := by decide +kernel
theorem dX8_aim_1 : decode cX8_aim 1 = .ok (.iload_n 1, 1) := by decide +kernel
theorem dX8_aim_2 : decode cX8_aim 2 = .ok (.invokevirtual 126, 3) := by decide +kernel
theorem dX8_aim_5 : decode cX8_aim 5 = .ok (.ifCond .eq 13, 3) := by decide +kernel
theorem dX8_aim_8 : decode cX8_aim 8 = .ok (.iload_n 2, 1) := by decide +kernel
theorem dX8_aim_9 : decode cX8_aim 9 = .ok (.iconst 0, 1) := by decide +kernel
theorem dX8_aim_10 : decode cX8_aim 10 = .ok (.bipush 9, 2) := by decide +kernel
theorem dX8_aim_12 : decode cX8_aim 12 = .ok (.invokestatic 73, 3) := by decide +kernel
theorem dX8_aim_15 : decode cX8_aim 15 = .ok (.ifCond .ne 5, 3) := by decide +kernel
theorem dX8_aim_18 : decode cX8_aim 18 = .ok (.iconst (-1), 1) := by decide +kernel
theorem dX8_aim_19 : decode cX8_aim 19 = .ok (.ireturn, 1) := by decide +kernel
theorem dX8_aim_20 : decode cX8_aim 20 = .ok (.aload_n 0, 1) := by decide +kernel
theorem dX8_aim_21 : decode cX8_aim 21 = .ok (.getfield 26, 3) := by decide +kernel
theorem dX8_aim_24 : decode cX8_aim 24 = .ok (.bipush 11, 2) := by decide +kernel
theorem dX8_aim_26 : decode cX8_aim 26 = .ok (.iload_n 1, 1) := by decide +kernel
theorem dX8_aim_27 : decode cX8_aim 27 = .ok (.iadd, 1) := by decide +kernel
theorem dX8_aim_28 : decode cX8_aim 28 = .ok (.iaload, 1) := by decide +kernel
theorem dX8_aim_29 : decode cX8_aim 29 = .ok (.iload_n 2, 1) := by decide +kernel
theorem dX8_aim_30 : decode cX8_aim 30 = .ok (.if_icmp .ne 6, 3) := by decide +kernel
theorem dX8_aim_33 : decode cX8_aim 33 = .ok (.bipush (-4), 2) := by decide +kernel
theorem dX8_aim_35 : decode cX8_aim 35 = .ok (.ireturn, 1) := by decide +kernel
theorem dX8_aim_36 : decode cX8_aim 36 = .ok (.aload_n 0, 1) := by decide +kernel
theorem dX8_aim_37 : decode cX8_aim 37 = .ok (.getfield 111, 3) := by decide +kernel
theorem dX8_aim_40 : decode cX8_aim 40 = .ok (.bipush 40, 2) := by decide +kernel
theorem dX8_aim_42 : decode cX8_aim 42 = .ok (.if_icmp .ne 6, 3) := by decide +kernel
theorem dX8_aim_45 : decode cX8_aim 45 = .ok (.bipush (-2), 2) := by decide +kernel
theorem dX8_aim_47 : decode cX8_aim 47 = .ok (.ireturn, 1) := by decide +kernel
theorem dX8_aim_48 : decode cX8_aim 48 = .ok (.aload_n 0, 1) := by decide +kernel
theorem dX8_aim_49 : decode cX8_aim 49 = .ok (.invokevirtual 150, 3) := by decide +kernel
theorem dX8_aim_52 : decode cX8_aim 52 = .ok (.aload_n 0, 1) := by decide +kernel
theorem dX8_aim_53 : decode cX8_aim 53 = .ok (.getfield 26, 3) := by decide +kernel
theorem dX8_aim_56 : decode cX8_aim 56 = .ok (.bipush 11, 2) := by decide +kernel
theorem dX8_aim_58 : decode cX8_aim 58 = .ok (.iload_n 1, 1) := by decide +kernel
theorem dX8_aim_59 : decode cX8_aim 59 = .ok (.iadd, 1) := by decide +kernel
theorem dX8_aim_60 : decode cX8_aim 60 = .ok (.iaload, 1) := by decide +kernel
theorem dX8_aim_61 : decode cX8_aim 61 = .ok (.istore_n 3, 1) := by decide +kernel
theorem dX8_aim_62 : decode cX8_aim 62 = .ok (.aload_n 0, 1) := by decide +kernel
theorem dX8_aim_63 : decode cX8_aim 63 = .ok (.getfield 26, 3) := by decide +kernel
theorem dX8_aim_66 : decode cX8_aim 66 = .ok (.bipush 11, 2) := by decide +kernel
theorem dX8_aim_68 : decode cX8_aim 68 = .ok (.iload_n 1, 1) := by decide +kernel
theorem dX8_aim_69 : decode cX8_aim 69 = .ok (.iadd, 1) := by decide +kernel
theorem dX8_aim_70 : decode cX8_aim 70 = .ok (.iload_n 2, 1) := by decide +kernel
theorem dX8_aim_71 : decode cX8_aim 71 = .ok (.iastore, 1) := by decide +kernel
theorem dX8_aim_72 : decode cX8_aim 72 = .ok (.iload_n 3, 1) := by decide +kernel
theorem dX8_aim_73 : decode cX8_aim 73 = .ok (.ireturn, 1) := by decide +kernel
theorem dX8_power_0 : decode cX8_power 0 = .ok (.iload_n 1, 1) := by decide +kernel
theorem dX8_power_1 : decode cX8_power 1 = .ok (.iconst 1, 1) := by decide +kernel
theorem dX8_power_2 : decode cX8_power 2 = .ok (.bipush 9, 2) := by decide +kernel
theorem dX8_power_4 : decode cX8_power 4 = .ok (.invokestatic 73, 3) := by decide +kernel
theorem dX8_power_7 : decode cX8_power 7 = .ok (.ifCond .ne 5, 3) := by decide +kernel
theorem dX8_power_10 : decode cX8_power 10 = .ok (.iconst (-1), 1) := by decide +kernel
theorem dX8_power_11 : decode cX8_power 11 = .ok (.ireturn, 1) := by decide +kernel
theorem dX8_power_12 : decode cX8_power 12 = .ok (.aload_n 0, 1) := by decide +kernel
theorem dX8_power_13 : decode cX8_power 13 = .ok (.getfield 26, 3) := by decide +kernel
theorem dX8_power_16 : decode cX8_power 16 = .ok (.bipush 18, 2) := by decide +kernel
theorem dX8_power_18 : decode cX8_power 18 = .ok (.iaload, 1) := by decide +kernel
theorem dX8_power_19 : decode cX8_power 19 = .ok (.ifCond .eq 13, 3) := by decide +kernel
theorem dX8_power_22 : decode cX8_power 22 = .ok (.aload_n 0, 1) := by decide +kernel
theorem dX8_power_23 : decode cX8_power 23 = .ok (.getfield 26, 3) := by decide +kernel
theorem dX8_power_26 : decode cX8_power 26 = .ok (.iconst 0, 1) := by decide +kernel
theorem dX8_power_27 : decode cX8_power 27 = .ok (.iaload, 1) := by decide +kernel
theorem dX8_power_28 : decode cX8_power 28 = .ok (.iload_n 1, 1) := by decide +kernel
theorem dX8_power_29 : decode cX8_power 29 = .ok (.if_icmp .ne 6, 3) := by decide +kernel
theorem dX8_power_32 : decode cX8_power 32 = .ok (.bipush (-4), 2) := by decide +kernel
theorem dX8_power_34 : decode cX8_power 34 = .ok (.ireturn, 1) := by decide +kernel
theorem dX8_power_35 : decode cX8_power 35 = .ok (.aload_n 0, 1) := by decide +kernel
theorem dX8_power_36 : decode cX8_power 36 = .ok (.getfield 111, 3) := by decide +kernel
theorem dX8_power_39 : decode cX8_power 39 = .ok (.bipush 40, 2) := by decide +kernel
theorem dX8_power_41 : decode cX8_power 41 = .ok (.if_icmp .ne 6, 3) := by decide +kernel
theorem dX8_power_44 : decode cX8_power 44 = .ok (.bipush (-2), 2) := by decide +kernel
theorem dX8_power_46 : decode cX8_power 46 = .ok (.ireturn, 1) := by decide +kernel
theorem dX8_power_47 : decode cX8_power 47 = .ok (.aload_n 0, 1) := by decide +kernel
theorem dX8_power_48 : decode cX8_power 48 = .ok (.invokevirtual 150, 3) := by decide +kernel
theorem dX8_power_51 : decode cX8_power 51 = .ok (.aload_n 0, 1) := by decide +kernel
theorem dX8_power_52 : decode cX8_power 52 = .ok (.getfield 26, 3) := by decide +kernel
theorem dX8_power_55 : decode cX8_power 55 = .ok (.iconst 0, 1) := by decide +kernel
theorem dX8_power_56 : decode cX8_power 56 = .ok (.iaload, 1) := by decide +kernel
theorem dX8_power_57 : decode cX8_power 57 = .ok (.istore_n 2, 1) := by decide +kernel
theorem dX8_power_58 : decode cX8_power 58 = .ok (.aload_n 0, 1) := by decide +kernel
theorem dX8_power_59 : decode cX8_power 59 = .ok (.getfield 26, 3) := by decide +kernel
theorem dX8_power_62 : decode cX8_power 62 = .ok (.iconst 0, 1) := by decide +kernel
theorem dX8_power_63 : decode cX8_power 63 = .ok (.iload_n 1, 1) := by decide +kernel
theorem dX8_power_64 : decode cX8_power 64 = .ok (.iastore, 1) := by decide +kernel
theorem dX8_power_65 : decode cX8_power 65 = .ok (.iload_n 2, 1) := by decide +kernel
theorem dX8_power_66 : decode cX8_power 66 = .ok (.ireturn, 1) := by decide +kernel
theorem dX8_ones_0 : decode cX8_ones 0 = .ok (.iconst 0, 1) := by decide +kernel
theorem dX8_ones_1 : decode cX8_ones 1 = .ok (.istore_n 1, 1) := by decide +kernel
theorem dX8_ones_2 : decode cX8_ones 2 = .ok (.iconst 0, 1) := by decide +kernel
theorem dX8_ones_3 : decode cX8_ones 3 = .ok (.istore_n 2, 1) := by decide +kernel
theorem dX8_ones_4 : decode cX8_ones 4 = .ok (.iload_n 2, 1) := by decide +kernel
theorem dX8_ones_5 : decode cX8_ones 5 = .ok (.bipush 7, 2) := by decide +kernel
theorem dX8_ones_7 : decode cX8_ones 7 = .ok (.if_icmp .ge 17, 3) := by decide +kernel
theorem dX8_ones_10 : decode cX8_ones 10 = .ok (.iload_n 1, 1) := by decide +kernel
theorem dX8_ones_11 : decode cX8_ones 11 = .ok (.iload_n 0, 1) := by decide +kernel
theorem dX8_ones_12 : decode cX8_ones 12 = .ok (.iload_n 2, 1) := by decide +kernel
theorem dX8_ones_13 : decode cX8_ones 13 = .ok (.ishr, 1) := by decide +kernel
theorem dX8_ones_14 : decode cX8_ones 14 = .ok (.iconst 1, 1) := by decide +kernel
theorem dX8_ones_15 : decode cX8_ones 15 = .ok (.iand, 1) := by decide +kernel
theorem dX8_ones_16 : decode cX8_ones 16 = .ok (.iadd, 1) := by decide +kernel
theorem dX8_ones_17 : decode cX8_ones 17 = .ok (.istore_n 1, 1) := by decide +kernel
theorem dX8_ones_18 : decode cX8_ones 18 = .ok (.iinc 2 1, 3) := by decide +kernel
theorem dX8_ones_21 : decode cX8_ones 21 = .ok (.goto (-17), 3) := by decide +kernel
theorem dX8_ones_24 : decode cX8_ones 24 = .ok (.iload_n 1, 1) := by decide +kernel
theorem dX8_ones_25 : decode cX8_ones 25 = .ok (.ireturn, 1) := by decide +kernel
theorem dX8_jam_0 : decode cX8_jam 0 = .ok (.aload_n 0, 1) := by decide +kernel
theorem dX8_jam_1 : decode cX8_jam 1 = .ok (.iload_n 1, 1) := by decide +kernel
theorem dX8_jam_2 : decode cX8_jam 2 = .ok (.invokevirtual 126, 3) := by decide +kernel
theorem dX8_jam_5 : decode cX8_jam 5 = .ok (.ifCond .ne 5, 3) := by decide +kernel
theorem dX8_jam_8 : decode cX8_jam 8 = .ok (.iconst (-1), 1) := by decide +kernel
theorem dX8_jam_9 : decode cX8_jam 9 = .ok (.ireturn, 1) := by decide +kernel
theorem dX8_jam_10 : decode cX8_jam 10 = .ok (.aload_n 0, 1) := by decide +kernel
theorem dX8_jam_11 : decode cX8_jam 11 = .ok (.getfield 111, 3) := by decide +kernel
theorem dX8_jam_14 : decode cX8_jam 14 = .ok (.bipush 40, 2) := by decide +kernel
theorem dX8_jam_16 : decode cX8_jam 16 = .ok (.if_icmp .ne 6, 3) := by decide +kernel
theorem dX8_jam_19 : decode cX8_jam 19 = .ok (.bipush (-2), 2) := by decide +kernel
theorem dX8_jam_21 : decode cX8_jam 21 = .ok (.ireturn, 1) := by decide +kernel
theorem dX8_jam_22 : decode cX8_jam 22 = .ok (.aload_n 0, 1) := by decide +kernel
theorem dX8_jam_23 : decode cX8_jam 23 = .ok (.invokevirtual 150, 3) := by decide +kernel
theorem dX8_jam_26 : decode cX8_jam 26 = .ok (.aload_n 0, 1) := by decide +kernel
theorem dX8_jam_27 : decode cX8_jam 27 = .ok (.getfield 26, 3) := by decide +kernel
theorem dX8_jam_30 : decode cX8_jam 30 = .ok (.iconst 3, 1) := by decide +kernel
theorem dX8_jam_31 : decode cX8_jam 31 = .ok (.dup2, 1) := by decide +kernel
theorem dX8_jam_32 : decode cX8_jam 32 = .ok (.iaload, 1) := by decide +kernel
theorem dX8_jam_33 : decode cX8_jam 33 = .ok (.iconst 1, 1) := by decide +kernel
theorem dX8_jam_34 : decode cX8_jam 34 = .ok (.iload_n 1, 1) := by decide +kernel
theorem dX8_jam_35 : decode cX8_jam 35 = .ok (.ishl, 1) := by decide +kernel
theorem dX8_jam_36 : decode cX8_jam 36 = .ok (.ixor, 1) := by decide +kernel
theorem dX8_jam_37 : decode cX8_jam 37 = .ok (.iastore, 1) := by decide +kernel
theorem dX8_jam_38 : decode cX8_jam 38 = .ok (.aload_n 0, 1) := by decide +kernel
theorem dX8_jam_39 : decode cX8_jam 39 = .ok (.getfield 26, 3) := by decide +kernel
theorem dX8_jam_42 : decode cX8_jam 42 = .ok (.iconst 3, 1) := by decide +kernel
theorem dX8_jam_43 : decode cX8_jam 43 = .ok (.iaload, 1) := by decide +kernel
theorem dX8_jam_44 : decode cX8_jam 44 = .ok (.invokestatic 157, 3) := by decide +kernel
theorem dX8_jam_47 : decode cX8_jam 47 = .ok (.ireturn, 1) := by decide +kernel
theorem dX8_undo_0 : decode cX8_undo 0 = .ok (.iload_n 1, 1) := by decide +kernel
theorem dX8_undo_1 : decode cX8_undo 1 = .ok (.iconst 0, 1) := by decide +kernel
theorem dX8_undo_2 : decode cX8_undo 2 = .ok (.aload_n 0, 1) := by decide +kernel
theorem dX8_undo_3 : decode cX8_undo 3 = .ok (.getfield 111, 3) := by decide +kernel
theorem dX8_undo_6 : decode cX8_undo 6 = .ok (.invokestatic 73, 3) := by decide +kernel
theorem dX8_undo_9 : decode cX8_undo 9 = .ok (.ifCond .ne 5, 3) := by decide +kernel
theorem dX8_undo_12 : decode cX8_undo 12 = .ok (.iconst (-1), 1) := by decide +kernel
theorem dX8_undo_13 : decode cX8_undo 13 = .ok (.ireturn, 1) := by decide +kernel
theorem dX8_undo_14 : decode cX8_undo 14 = .ok (.aload_n 0, 1) := by decide +kernel
theorem dX8_undo_15 : decode cX8_undo 15 = .ok (.getfield 111, 3) := by decide +kernel
theorem dX8_undo_18 : decode cX8_undo 18 = .ok (.iload_n 1, 1) := by decide +kernel
theorem dX8_undo_19 : decode cX8_undo 19 = .ok (.isub, 1) := by decide +kernel
theorem dX8_undo_20 : decode cX8_undo 20 = .ok (.istore_n 2, 1) := by decide +kernel
theorem dX8_undo_21 : decode cX8_undo 21 = .ok (.iload_n 2, 1) := by decide +kernel
theorem dX8_undo_22 : decode cX8_undo 22 = .ok (.ifCond .le 34, 3) := by decide +kernel
theorem dX8_undo_25 : decode cX8_undo 25 = .ok (.iconst 0, 1) := by decide +kernel
theorem dX8_undo_26 : decode cX8_undo 26 = .ok (.istore_n 3, 1) := by decide +kernel
theorem dX8_undo_27 : decode cX8_undo 27 = .ok (.iload_n 3, 1) := by decide +kernel
theorem dX8_undo_28 : decode cX8_undo 28 = .ok (.bipush 18, 2) := by decide +kernel
theorem dX8_undo_30 : decode cX8_undo 30 = .ok (.if_icmp .ge 26, 3) := by decide +kernel
theorem dX8_undo_33 : decode cX8_undo 33 = .ok (.aload_n 0, 1) := by decide +kernel
theorem dX8_undo_34 : decode cX8_undo 34 = .ok (.getfield 26, 3) := by decide +kernel
theorem dX8_undo_37 : decode cX8_undo 37 = .ok (.iload_n 3, 1) := by decide +kernel
theorem dX8_undo_38 : decode cX8_undo 38 = .ok (.aload_n 0, 1) := by decide +kernel
theorem dX8_undo_39 : decode cX8_undo 39 = .ok (.getfield 38, 3) := by decide +kernel
theorem dX8_undo_42 : decode cX8_undo 42 = .ok (.bipush 18, 2) := by decide +kernel
theorem dX8_undo_44 : decode cX8_undo 44 = .ok (.iload_n 1, 1) := by decide +kernel
theorem dX8_undo_45 : decode cX8_undo 45 = .ok (.imul, 1) := by decide +kernel
theorem dX8_undo_46 : decode cX8_undo 46 = .ok (.iload_n 3, 1) := by decide +kernel
theorem dX8_undo_47 : decode cX8_undo 47 = .ok (.iadd, 1) := by decide +kernel
theorem dX8_undo_48 : decode cX8_undo 48 = .ok (.iaload, 1) := by decide +kernel
theorem dX8_undo_49 : decode cX8_undo 49 = .ok (.iastore, 1) := by decide +kernel
theorem dX8_undo_50 : decode cX8_undo 50 = .ok (.iinc 3 1, 3) := by decide +kernel
theorem dX8_undo_53 : decode cX8_undo 53 = .ok (.goto (-26), 3) := by decide +kernel
theorem dX8_undo_56 : decode cX8_undo 56 = .ok (.aload_n 0, 1) := by decide +kernel
theorem dX8_undo_57 : decode cX8_undo 57 = .ok (.iload_n 1, 1) := by decide +kernel
theorem dX8_undo_58 : decode cX8_undo 58 = .ok (.putfield 111, 3) := by decide +kernel
theorem dX8_undo_61 : decode cX8_undo 61 = .ok (.iload_n 2, 1) := by decide +kernel
theorem dX8_undo_62 : decode cX8_undo 62 = .ok (.ireturn, 1) := by decide +kernel
theorem dX8_keep_0 : decode cX8_keep 0 = .ok (.iload_n 1, 1) := by decide +kernel
theorem dX8_keep_1 : decode cX8_keep 1 = .ok (.iconst 0, 1) := by decide +kernel
theorem dX8_keep_2 : decode cX8_keep 2 = .ok (.iconst 2, 1) := by decide +kernel
theorem dX8_keep_3 : decode cX8_keep 3 = .ok (.invokestatic 73, 3) := by decide +kernel
theorem dX8_keep_6 : decode cX8_keep 6 = .ok (.ifCond .ne 5, 3) := by decide +kernel
theorem dX8_keep_9 : decode cX8_keep 9 = .ok (.iconst (-1), 1) := by decide +kernel
theorem dX8_keep_10 : decode cX8_keep 10 = .ok (.ireturn, 1) := by decide +kernel
theorem dX8_keep_11 : decode cX8_keep 11 = .ok (.aload_n 0, 1) := by decide +kernel
theorem dX8_keep_12 : decode cX8_keep 12 = .ok (.getfield 26, 3) := by decide +kernel
theorem dX8_keep_15 : decode cX8_keep 15 = .ok (.bipush 18, 2) := by decide +kernel
theorem dX8_keep_17 : decode cX8_keep 17 = .ok (.iaload, 1) := by decide +kernel
theorem dX8_keep_18 : decode cX8_keep 18 = .ok (.ifCond .ne 6, 3) := by decide +kernel
theorem dX8_keep_21 : decode cX8_keep 21 = .ok (.bipush (-4), 2) := by decide +kernel
theorem dX8_keep_23 : decode cX8_keep 23 = .ok (.ireturn, 1) := by decide +kernel
theorem dX8_keep_24 : decode cX8_keep 24 = .ok (.iconst 0, 1) := by decide +kernel
theorem dX8_keep_25 : decode cX8_keep 25 = .ok (.istore_n 2, 1) := by decide +kernel
theorem dX8_keep_26 : decode cX8_keep 26 = .ok (.iload_n 2, 1) := by decide +kernel
theorem dX8_keep_27 : decode cX8_keep 27 = .ok (.bipush 33, 2) := by decide +kernel
theorem dX8_keep_29 : decode cX8_keep 29 = .ok (.if_icmp .ge 26, 3) := by decide +kernel
theorem dX8_keep_32 : decode cX8_keep 32 = .ok (.aload_n 0, 1) := by decide +kernel
theorem dX8_keep_33 : decode cX8_keep 33 = .ok (.getfield 41, 3) := by decide +kernel
theorem dX8_keep_36 : decode cX8_keep 36 = .ok (.bipush 33, 2) := by decide +kernel
theorem dX8_keep_38 : decode cX8_keep 38 = .ok (.iload_n 1, 1) := by decide +kernel
theorem dX8_keep_39 : decode cX8_keep 39 = .ok (.imul, 1) := by decide +kernel
theorem dX8_keep_40 : decode cX8_keep 40 = .ok (.iload_n 2, 1) := by decide +kernel
theorem dX8_keep_41 : decode cX8_keep 41 = .ok (.iadd, 1) := by decide +kernel
theorem dX8_keep_42 : decode cX8_keep 42 = .ok (.aload_n 0, 1) := by decide +kernel
theorem dX8_keep_43 : decode cX8_keep 43 = .ok (.getfield 26, 3) := by decide +kernel
theorem dX8_keep_46 : decode cX8_keep 46 = .ok (.iload_n 2, 1) := by decide +kernel
theorem dX8_keep_47 : decode cX8_keep 47 = .ok (.iaload, 1) := by decide +kernel
theorem dX8_keep_48 : decode cX8_keep 48 = .ok (.iastore, 1) := by decide +kernel
theorem dX8_keep_49 : decode cX8_keep 49 = .ok (.iinc 2 1, 3) := by decide +kernel
theorem dX8_keep_52 : decode cX8_keep 52 = .ok (.goto (-26), 3) := by decide +kernel
theorem dX8_keep_55 : decode cX8_keep 55 = .ok (.iconst 0, 1) := by decide +kernel
theorem dX8_keep_56 : decode cX8_keep 56 = .ok (.istore_n 2, 1) := by decide +kernel
theorem dX8_keep_57 : decode cX8_keep 57 = .ok (.iload_n 2, 1) := by decide +kernel
theorem dX8_keep_58 : decode cX8_keep 58 = .ok (.aload_n 0, 1) := by decide +kernel
theorem dX8_keep_59 : decode cX8_keep 59 = .ok (.getfield 38, 3) := by decide +kernel
theorem dX8_keep_62 : decode cX8_keep 62 = .ok (.arraylength, 1) := by decide +kernel
theorem dX8_keep_63 : decode cX8_keep 63 = .ok (.if_icmp .ge 29, 3) := by decide +kernel
theorem dX8_keep_66 : decode cX8_keep 66 = .ok (.aload_n 0, 1) := by decide +kernel
theorem dX8_keep_67 : decode cX8_keep 67 = .ok (.getfield 44, 3) := by decide +kernel
theorem dX8_keep_70 : decode cX8_keep 70 = .ok (.aload_n 0, 1) := by decide +kernel
theorem dX8_keep_71 : decode cX8_keep 71 = .ok (.getfield 38, 3) := by decide +kernel
theorem dX8_keep_74 : decode cX8_keep 74 = .ok (.arraylength, 1) := by decide +kernel
theorem dX8_keep_75 : decode cX8_keep 75 = .ok (.iload_n 1, 1) := by decide +kernel
theorem dX8_keep_76 : decode cX8_keep 76 = .ok (.imul, 1) := by decide +kernel
theorem dX8_keep_77 : decode cX8_keep 77 = .ok (.iload_n 2, 1) := by decide +kernel
theorem dX8_keep_78 : decode cX8_keep 78 = .ok (.iadd, 1) := by decide +kernel
theorem dX8_keep_79 : decode cX8_keep 79 = .ok (.aload_n 0, 1) := by decide +kernel
theorem dX8_keep_80 : decode cX8_keep 80 = .ok (.getfield 38, 3) := by decide +kernel
theorem dX8_keep_83 : decode cX8_keep 83 = .ok (.iload_n 2, 1) := by decide +kernel
theorem dX8_keep_84 : decode cX8_keep 84 = .ok (.iaload, 1) := by decide +kernel
theorem dX8_keep_85 : decode cX8_keep 85 = .ok (.iastore, 1) := by decide +kernel
theorem dX8_keep_86 : decode cX8_keep 86 = .ok (.iinc 2 1, 3) := by decide +kernel
theorem dX8_keep_89 : decode cX8_keep 89 = .ok (.goto (-32), 3) := by decide +kernel
theorem dX8_keep_92 : decode cX8_keep 92 = .ok (.aload_n 0, 1) := by decide +kernel
theorem dX8_keep_93 : decode cX8_keep 93 = .ok (.getfield 47, 3) := by decide +kernel
theorem dX8_keep_96 : decode cX8_keep 96 = .ok (.iload_n 1, 1) := by decide +kernel
theorem dX8_keep_97 : decode cX8_keep 97 = .ok (.aload_n 0, 1) := by decide +kernel
theorem dX8_keep_98 : decode cX8_keep 98 = .ok (.getfield 111, 3) := by decide +kernel
theorem dX8_keep_101 : decode cX8_keep 101 = .ok (.iastore, 1) := by decide +kernel
theorem dX8_keep_102 : decode cX8_keep 102 = .ok (.aload_n 0, 1) := by decide +kernel
theorem dX8_keep_103 : decode cX8_keep 103 = .ok (.getfield 111, 3) := by decide +kernel
theorem dX8_keep_106 : decode cX8_keep 106 = .ok (.ireturn, 1) := by decide +kernel
theorem dX8_on_0 : decode cX8_on 0 = .ok (.iload_n 1, 1) := by decide +kernel
theorem dX8_on_1 : decode cX8_on 1 = .ok (.iconst 0, 1) := by decide +kernel
theorem dX8_on_2 : decode cX8_on 2 = .ok (.iconst 2, 1) := by decide +kernel
theorem dX8_on_3 : decode cX8_on 3 = .ok (.invokestatic 73, 3) := by decide +kernel
theorem dX8_on_6 : decode cX8_on 6 = .ok (.ifCond .ne 5, 3) := by decide +kernel
theorem dX8_on_9 : decode cX8_on 9 = .ok (.iconst (-1), 1) := by decide +kernel
theorem dX8_on_10 : decode cX8_on 10 = .ok (.ireturn, 1) := by decide +kernel
theorem dX8_on_11 : decode cX8_on 11 = .ok (.aload_n 0, 1) := by decide +kernel
theorem dX8_on_12 : decode cX8_on 12 = .ok (.getfield 47, 3) := by decide +kernel
theorem dX8_on_15 : decode cX8_on 15 = .ok (.iload_n 1, 1) := by decide +kernel
theorem dX8_on_16 : decode cX8_on 16 = .ok (.iaload, 1) := by decide +kernel
theorem dX8_on_17 : decode cX8_on 17 = .ok (.ifCond .ge 9, 3) := by decide +kernel
theorem dX8_on_20 : decode cX8_on 20 = .ok (.aload_n 0, 1) := by decide +kernel
theorem dX8_on_21 : decode cX8_on 21 = .ok (.iconst 1, 1) := by decide +kernel
theorem dX8_on_22 : decode cX8_on 22 = .ok (.invokevirtual 81, 3) := by decide +kernel
theorem dX8_on_25 : decode cX8_on 25 = .ok (.ireturn, 1) := by decide +kernel
theorem dX8_on_26 : decode cX8_on 26 = .ok (.iconst 0, 1) := by decide +kernel
theorem dX8_on_27 : decode cX8_on 27 = .ok (.istore_n 2, 1) := by decide +kernel
theorem dX8_on_28 : decode cX8_on 28 = .ok (.iload_n 2, 1) := by decide +kernel
theorem dX8_on_29 : decode cX8_on 29 = .ok (.bipush 33, 2) := by decide +kernel
theorem dX8_on_31 : decode cX8_on 31 = .ok (.if_icmp .ge 26, 3) := by decide +kernel
theorem dX8_on_34 : decode cX8_on 34 = .ok (.aload_n 0, 1) := by decide +kernel
theorem dX8_on_35 : decode cX8_on 35 = .ok (.getfield 26, 3) := by decide +kernel
theorem dX8_on_38 : decode cX8_on 38 = .ok (.iload_n 2, 1) := by decide +kernel
theorem dX8_on_39 : decode cX8_on 39 = .ok (.aload_n 0, 1) := by decide +kernel
theorem dX8_on_40 : decode cX8_on 40 = .ok (.getfield 41, 3) := by decide +kernel
theorem dX8_on_43 : decode cX8_on 43 = .ok (.bipush 33, 2) := by decide +kernel
theorem dX8_on_45 : decode cX8_on 45 = .ok (.iload_n 1, 1) := by decide +kernel
theorem dX8_on_46 : decode cX8_on 46 = .ok (.imul, 1) := by decide +kernel
theorem dX8_on_47 : decode cX8_on 47 = .ok (.iload_n 2, 1) := by decide +kernel
theorem dX8_on_48 : decode cX8_on 48 = .ok (.iadd, 1) := by decide +kernel
theorem dX8_on_49 : decode cX8_on 49 = .ok (.iaload, 1) := by decide +kernel
theorem dX8_on_50 : decode cX8_on 50 = .ok (.iastore, 1) := by decide +kernel
theorem dX8_on_51 : decode cX8_on 51 = .ok (.iinc 2 1, 3) := by decide +kernel
theorem dX8_on_54 : decode cX8_on 54 = .ok (.goto (-26), 3) := by decide +kernel
theorem dX8_on_57 : decode cX8_on 57 = .ok (.iconst 0, 1) := by decide +kernel
theorem dX8_on_58 : decode cX8_on 58 = .ok (.istore_n 2, 1) := by decide +kernel
theorem dX8_on_59 : decode cX8_on 59 = .ok (.iload_n 2, 1) := by decide +kernel
theorem dX8_on_60 : decode cX8_on 60 = .ok (.aload_n 0, 1) := by decide +kernel
theorem dX8_on_61 : decode cX8_on 61 = .ok (.getfield 38, 3) := by decide +kernel
theorem dX8_on_64 : decode cX8_on 64 = .ok (.arraylength, 1) := by decide +kernel
theorem dX8_on_65 : decode cX8_on 65 = .ok (.if_icmp .ge 29, 3) := by decide +kernel
theorem dX8_on_68 : decode cX8_on 68 = .ok (.aload_n 0, 1) := by decide +kernel
theorem dX8_on_69 : decode cX8_on 69 = .ok (.getfield 38, 3) := by decide +kernel
theorem dX8_on_72 : decode cX8_on 72 = .ok (.iload_n 2, 1) := by decide +kernel
theorem dX8_on_73 : decode cX8_on 73 = .ok (.aload_n 0, 1) := by decide +kernel
theorem dX8_on_74 : decode cX8_on 74 = .ok (.getfield 44, 3) := by decide +kernel
theorem dX8_on_77 : decode cX8_on 77 = .ok (.aload_n 0, 1) := by decide +kernel
theorem dX8_on_78 : decode cX8_on 78 = .ok (.getfield 38, 3) := by decide +kernel
theorem dX8_on_81 : decode cX8_on 81 = .ok (.arraylength, 1) := by decide +kernel
theorem dX8_on_82 : decode cX8_on 82 = .ok (.iload_n 1, 1) := by decide +kernel
theorem dX8_on_83 : decode cX8_on 83 = .ok (.imul, 1) := by decide +kernel
theorem dX8_on_84 : decode cX8_on 84 = .ok (.iload_n 2, 1) := by decide +kernel
theorem dX8_on_85 : decode cX8_on 85 = .ok (.iadd, 1) := by decide +kernel
theorem dX8_on_86 : decode cX8_on 86 = .ok (.iaload, 1) := by decide +kernel
theorem dX8_on_87 : decode cX8_on 87 = .ok (.iastore, 1) := by decide +kernel
theorem dX8_on_88 : decode cX8_on 88 = .ok (.iinc 2 1, 3) := by decide +kernel
theorem dX8_on_91 : decode cX8_on 91 = .ok (.goto (-32), 3) := by decide +kernel
theorem dX8_on_94 : decode cX8_on 94 = .ok (.aload_n 0, 1) := by decide +kernel
theorem dX8_on_95 : decode cX8_on 95 = .ok (.aload_n 0, 1) := by decide +kernel
theorem dX8_on_96 : decode cX8_on 96 = .ok (.getfield 47, 3) := by decide +kernel
theorem dX8_on_99 : decode cX8_on 99 = .ok (.iload_n 1, 1) := by decide +kernel
theorem dX8_on_100 : decode cX8_on 100 = .ok (.iaload, 1) := by decide +kernel
theorem dX8_on_101 : decode cX8_on 101 = .ok (.putfield 111, 3) := by decide +kernel
theorem dX8_on_104 : decode cX8_on 104 = .ok (.aload_n 0, 1) := by decide +kernel
theorem dX8_on_105 : decode cX8_on 105 = .ok (.getfield 111, 3) := by decide +kernel
theorem dX8_on_108 : decode cX8_on 108 = .ok (.ireturn, 1) := by decide +kernel
theorem dX8_copies_0 : decode cX8_copies 0 = .ok (.iconst 0, 1) := by decide +kernel
theorem dX8_copies_1 : decode cX8_copies 1 = .ok (.istore_n 2, 1) := by decide +kernel
theorem dX8_copies_2 : decode cX8_copies 2 = .ok (.iload_n 2, 1) := by decide +kernel
theorem dX8_copies_3 : decode cX8_copies 3 = .ok (.bipush 33, 2) := by decide +kernel
theorem dX8_copies_5 : decode cX8_copies 5 = .ok (.if_icmp .ge 15, 3) := by decide +kernel
theorem dX8_copies_8 : decode cX8_copies 8 = .ok (.aload_n 1, 1) := by decide +kernel
theorem dX8_copies_9 : decode cX8_copies 9 = .ok (.iload_n 2, 1) := by decide +kernel
theorem dX8_copies_10 : decode cX8_copies 10 = .ok (.aload_n 0, 1) := by decide +kernel
theorem dX8_copies_11 : decode cX8_copies 11 = .ok (.iload_n 2, 1) := by decide +kernel
theorem dX8_copies_12 : decode cX8_copies 12 = .ok (.iaload, 1) := by decide +kernel
theorem dX8_copies_13 : decode cX8_copies 13 = .ok (.iastore, 1) := by decide +kernel
theorem dX8_copies_14 : decode cX8_copies 14 = .ok (.iinc 2 1, 3) := by decide +kernel
theorem dX8_copies_17 : decode cX8_copies 17 = .ok (.goto (-15), 3) := by decide +kernel
theorem dX8_copies_20 : decode cX8_copies 20 = .ok (.return_, 1) := by decide +kernel
theorem dX8_shown_0 : decode cX8_shown 0 = .ok (.iconst 0, 1) := by decide +kernel
theorem dX8_shown_1 : decode cX8_shown 1 = .ok (.istore_n 1, 1) := by decide +kernel
theorem dX8_shown_2 : decode cX8_shown 2 = .ok (.iconst 0, 1) := by decide +kernel
theorem dX8_shown_3 : decode cX8_shown 3 = .ok (.istore_n 2, 1) := by decide +kernel
theorem dX8_shown_4 : decode cX8_shown 4 = .ok (.iload_n 2, 1) := by decide +kernel
theorem dX8_shown_5 : decode cX8_shown 5 = .ok (.aload_n 0, 1) := by decide +kernel
theorem dX8_shown_6 : decode cX8_shown 6 = .ok (.bipush 18, 2) := by decide +kernel
theorem dX8_shown_8 : decode cX8_shown 8 = .ok (.iaload, 1) := by decide +kernel
theorem dX8_shown_9 : decode cX8_shown 9 = .ok (.if_icmp .ge 20, 3) := by decide +kernel
theorem dX8_shown_12 : decode cX8_shown 12 = .ok (.bipush 10, 2) := by decide +kernel
theorem dX8_shown_14 : decode cX8_shown 14 = .ok (.iload_n 1, 1) := by decide +kernel
theorem dX8_shown_15 : decode cX8_shown 15 = .ok (.imul, 1) := by decide +kernel
theorem dX8_shown_16 : decode cX8_shown 16 = .ok (.aload_n 0, 1) := by decide +kernel
theorem dX8_shown_17 : decode cX8_shown 17 = .ok (.iconst 4, 1) := by decide +kernel
theorem dX8_shown_18 : decode cX8_shown 18 = .ok (.iload_n 2, 1) := by decide +kernel
theorem dX8_shown_19 : decode cX8_shown 19 = .ok (.iadd, 1) := by decide +kernel
theorem dX8_shown_20 : decode cX8_shown 20 = .ok (.iaload, 1) := by decide +kernel
theorem dX8_shown_21 : decode cX8_shown 21 = .ok (.iadd, 1) := by decide +kernel
theorem dX8_shown_22 : decode cX8_shown 22 = .ok (.istore_n 1, 1) := by decide +kernel
theorem dX8_shown_23 : decode cX8_shown 23 = .ok (.iinc 2 1, 3) := by decide +kernel
theorem dX8_shown_26 : decode cX8_shown 26 = .ok (.goto (-22), 3) := by decide +kernel
theorem dX8_shown_29 : decode cX8_shown 29 = .ok (.iload_n 1, 1) := by decide +kernel
theorem dX8_shown_30 : decode cX8_shown 30 = .ok (.ireturn, 1) := by decide +kernel
theorem dX8_right_0 : decode cX8_right 0 = .ok (.iconst 0, 1) := by decide +kernel
theorem dX8_right_1 : decode cX8_right 1 = .ok (.istore_n 1, 1) := by decide +kernel
theorem dX8_right_2 : decode cX8_right 2 = .ok (.iconst 0, 1) := by decide +kernel
theorem dX8_right_3 : decode cX8_right 3 = .ok (.istore_n 2, 1) := by decide +kernel
theorem dX8_right_4 : decode cX8_right 4 = .ok (.iload_n 2, 1) := by decide +kernel
theorem dX8_right_5 : decode cX8_right 5 = .ok (.aload_n 0, 1) := by decide +kernel
theorem dX8_right_6 : decode cX8_right 6 = .ok (.bipush 18, 2) := by decide +kernel
theorem dX8_right_8 : decode cX8_right 8 = .ok (.iaload, 1) := by decide +kernel
theorem dX8_right_9 : decode cX8_right 9 = .ok (.if_icmp .ge 33, 3) := by decide +kernel
theorem dX8_right_12 : decode cX8_right 12 = .ok (.iload_n 1, 1) := by decide +kernel
theorem dX8_right_13 : decode cX8_right 13 = .ok (.aload_n 0, 1) := by decide +kernel
theorem dX8_right_14 : decode cX8_right 14 = .ok (.iconst 4, 1) := by decide +kernel
theorem dX8_right_15 : decode cX8_right 15 = .ok (.iload_n 2, 1) := by decide +kernel
theorem dX8_right_16 : decode cX8_right 16 = .ok (.iadd, 1) := by decide +kernel
theorem dX8_right_17 : decode cX8_right 17 = .ok (.iaload, 1) := by decide +kernel
theorem dX8_right_18 : decode cX8_right 18 = .ok (.aload_n 0, 1) := by decide +kernel
theorem dX8_right_19 : decode cX8_right 19 = .ok (.bipush 11, 2) := by decide +kernel
theorem dX8_right_21 : decode cX8_right 21 = .ok (.iload_n 2, 1) := by decide +kernel
theorem dX8_right_22 : decode cX8_right 22 = .ok (.iadd, 1) := by decide +kernel
theorem dX8_right_23 : decode cX8_right 23 = .ok (.iaload, 1) := by decide +kernel
theorem dX8_right_24 : decode cX8_right 24 = .ok (.if_icmp .ne 9, 3) := by decide +kernel
theorem dX8_right_27 : decode cX8_right 27 = .ok (.iconst 1, 1) := by decide +kernel
theorem dX8_right_28 : decode cX8_right 28 = .ok (.iload_n 2, 1) := by decide +kernel
theorem dX8_right_29 : decode cX8_right 29 = .ok (.ishl, 1) := by decide +kernel
theorem dX8_right_30 : decode cX8_right 30 = .ok (.goto 4, 3) := by decide +kernel
theorem dX8_right_33 : decode cX8_right 33 = .ok (.iconst 0, 1) := by decide +kernel
theorem dX8_right_34 : decode cX8_right 34 = .ok (.ior, 1) := by decide +kernel
theorem dX8_right_35 : decode cX8_right 35 = .ok (.istore_n 1, 1) := by decide +kernel
theorem dX8_right_36 : decode cX8_right 36 = .ok (.iinc 2 1, 3) := by decide +kernel
theorem dX8_right_39 : decode cX8_right 39 = .ok (.goto (-35), 3) := by decide +kernel
theorem dX8_right_42 : decode cX8_right 42 = .ok (.iload_n 1, 1) := by decide +kernel
theorem dX8_right_43 : decode cX8_right 43 = .ok (.ireturn, 1) := by decide +kernel
theorem dX8_isTold_0 : decode cX8_isTold 0 = .ok (.aload_n 0, 1) := by decide +kernel
theorem dX8_isTold_1 : decode cX8_isTold 1 = .ok (.invokestatic 160, 3) := by decide +kernel
theorem dX8_isTold_4 : decode cX8_isTold 4 = .ok (.iconst 1, 1) := by decide +kernel
theorem dX8_isTold_5 : decode cX8_isTold 5 = .ok (.aload_n 0, 1) := by decide +kernel
theorem dX8_isTold_6 : decode cX8_isTold 6 = .ok (.bipush 18, 2) := by decide +kernel
theorem dX8_isTold_8 : decode cX8_isTold 8 = .ok (.iaload, 1) := by decide +kernel
theorem dX8_isTold_9 : decode cX8_isTold 9 = .ok (.ishl, 1) := by decide +kernel
theorem dX8_isTold_10 : decode cX8_isTold 10 = .ok (.iconst 1, 1) := by decide +kernel
theorem dX8_isTold_11 : decode cX8_isTold 11 = .ok (.isub, 1) := by decide +kernel
theorem dX8_isTold_12 : decode cX8_isTold 12 = .ok (.if_icmp .ne 7, 3) := by decide +kernel
theorem dX8_isTold_15 : decode cX8_isTold 15 = .ok (.iconst 1, 1) := by decide +kernel
theorem dX8_isTold_16 : decode cX8_isTold 16 = .ok (.goto 4, 3) := by decide +kernel
theorem dX8_isTold_19 : decode cX8_isTold 19 = .ok (.iconst 0, 1) := by decide +kernel
theorem dX8_isTold_20 : decode cX8_isTold 20 = .ok (.ireturn, 1) := by decide +kernel
theorem dX8_later_0 : decode cX8_later 0 = .ok (.iload_n 1, 1) := by decide +kernel
theorem dX8_later_1 : decode cX8_later 1 = .ok (.iconst 0, 1) := by decide +kernel
theorem dX8_later_2 : decode cX8_later 2 = .ok (.bipush 60, 2) := by decide +kernel
theorem dX8_later_4 : decode cX8_later 4 = .ok (.invokestatic 73, 3) := by decide +kernel
theorem dX8_later_7 : decode cX8_later 7 = .ok (.ifCond .ne 5, 3) := by decide +kernel
theorem dX8_later_10 : decode cX8_later 10 = .ok (.iconst (-1), 1) := by decide +kernel
theorem dX8_later_11 : decode cX8_later 11 = .ok (.ireturn, 1) := by decide +kernel
theorem dX8_later_12 : decode cX8_later 12 = .ok (.aload_n 0, 1) := by decide +kernel
theorem dX8_later_13 : decode cX8_later 13 = .ok (.getfield 26, 3) := by decide +kernel
theorem dX8_later_16 : decode cX8_later 16 = .ok (.bipush 18, 2) := by decide +kernel
theorem dX8_later_18 : decode cX8_later 18 = .ok (.iaload, 1) := by decide +kernel
theorem dX8_later_19 : decode cX8_later 19 = .ok (.ifCond .ne 6, 3) := by decide +kernel
theorem dX8_later_22 : decode cX8_later 22 = .ok (.bipush (-4), 2) := by decide +kernel
theorem dX8_later_24 : decode cX8_later 24 = .ok (.ireturn, 1) := by decide +kernel
theorem dX8_later_25 : decode cX8_later 25 = .ok (.aload_n 0, 1) := by decide +kernel
theorem dX8_later_26 : decode cX8_later 26 = .ok (.getfield 26, 3) := by decide +kernel
theorem dX8_later_29 : decode cX8_later 29 = .ok (.aload_n 0, 1) := by decide +kernel
theorem dX8_later_30 : decode cX8_later 30 = .ok (.getfield 32, 3) := by decide +kernel
theorem dX8_later_33 : decode cX8_later 33 = .ok (.invokestatic 163, 3) := by decide +kernel
theorem dX8_later_36 : decode cX8_later 36 = .ok (.iconst 0, 1) := by decide +kernel
theorem dX8_later_37 : decode cX8_later 37 = .ok (.istore_n 2, 1) := by decide +kernel
theorem dX8_later_38 : decode cX8_later 38 = .ok (.iconst 0, 1) := by decide +kernel
theorem dX8_later_39 : decode cX8_later 39 = .ok (.istore_n 3, 1) := by decide +kernel
theorem dX8_later_40 : decode cX8_later 40 = .ok (.iload_n 3, 1) := by decide +kernel
theorem dX8_later_41 : decode cX8_later 41 = .ok (.iload_n 1, 1) := by decide +kernel
theorem dX8_later_42 : decode cX8_later 42 = .ok (.if_icmp .ge 19, 3) := by decide +kernel
theorem dX8_later_45 : decode cX8_later 45 = .ok (.iload_n 2, 1) := by decide +kernel
theorem dX8_later_46 : decode cX8_later 46 = .ok (.aload_n 0, 1) := by decide +kernel
theorem dX8_later_47 : decode cX8_later 47 = .ok (.getfield 32, 3) := by decide +kernel
theorem dX8_later_50 : decode cX8_later 50 = .ok (.invokestatic 153, 3) := by decide +kernel
theorem dX8_later_53 : decode cX8_later 53 = .ok (.iadd, 1) := by decide +kernel
theorem dX8_later_54 : decode cX8_later 54 = .ok (.istore_n 2, 1) := by decide +kernel
theorem dX8_later_55 : decode cX8_later 55 = .ok (.iinc 3 1, 3) := by decide +kernel
theorem dX8_later_58 : decode cX8_later 58 = .ok (.goto (-18), 3) := by decide +kernel
theorem dX8_later_61 : decode cX8_later 61 = .ok (.aload_n 0, 1) := by decide +kernel
theorem dX8_later_62 : decode cX8_later 62 = .ok (.iload_n 2, 1) := by decide +kernel
theorem dX8_later_63 : decode cX8_later 63 = .ok (.putfield 70, 3) := by decide +kernel
theorem dX8_later_66 : decode cX8_later 66 = .ok (.aload_n 0, 1) := by decide +kernel
theorem dX8_later_67 : decode cX8_later 67 = .ok (.getfield 32, 3) := by decide +kernel
theorem dX8_later_70 : decode cX8_later 70 = .ok (.invokestatic 167, 3) := by decide +kernel
theorem dX8_later_73 : decode cX8_later 73 = .ok (.ireturn, 1) := by decide +kernel
theorem dX8_told_0 : decode cX8_told 0 = .ok (.iconst 0, 1) := by decide +kernel
theorem dX8_told_1 : decode cX8_told 1 = .ok (.istore_n 1, 1) := by decide +kernel
theorem dX8_told_2 : decode cX8_told 2 = .ok (.iload_n 1, 1) := by decide +kernel
theorem dX8_told_3 : decode cX8_told 3 = .ok (.bipush 60, 2) := by decide +kernel
theorem dX8_told_5 : decode cX8_told 5 = .ok (.if_icmp .gt 23, 3) := by decide +kernel
theorem dX8_told_8 : decode cX8_told 8 = .ok (.aload_n 0, 1) := by decide +kernel
theorem dX8_told_9 : decode cX8_told 9 = .ok (.invokestatic 170, 3) := by decide +kernel
theorem dX8_told_12 : decode cX8_told 12 = .ok (.ifCond .eq 5, 3) := by decide +kernel
theorem dX8_told_15 : decode cX8_told 15 = .ok (.iload_n 1, 1) := by decide +kernel
theorem dX8_told_16 : decode cX8_told 16 = .ok (.ireturn, 1) := by decide +kernel
theorem dX8_told_17 : decode cX8_told 17 = .ok (.aload_n 0, 1) := by decide +kernel
theorem dX8_told_18 : decode cX8_told 18 = .ok (.invokestatic 153, 3) := by decide +kernel
theorem dX8_told_21 : decode cX8_told 21 = .ok (.pop, 1) := by decide +kernel
theorem dX8_told_22 : decode cX8_told 22 = .ok (.iinc 1 1, 3) := by decide +kernel
theorem dX8_told_25 : decode cX8_told 25 = .ok (.goto (-23), 3) := by decide +kernel
theorem dX8_told_28 : decode cX8_told 28 = .ok (.bipush (-9), 2) := by decide +kernel
theorem dX8_told_30 : decode cX8_told 30 = .ok (.ireturn, 1) := by decide +kernel
theorem dX8_ends_0 : decode cX8_ends 0 = .ok (.aload_n 0, 1) := by decide +kernel
theorem dX8_ends_1 : decode cX8_ends 1 = .ok (.getfield 26, 3) := by decide +kernel
theorem dX8_ends_4 : decode cX8_ends 4 = .ok (.bipush 18, 2) := by decide +kernel
theorem dX8_ends_6 : decode cX8_ends 6 = .ok (.iaload, 1) := by decide +kernel
theorem dX8_ends_7 : decode cX8_ends 7 = .ok (.ifCond .ne 6, 3) := by decide +kernel
theorem dX8_ends_10 : decode cX8_ends 10 = .ok (.bipush (-4), 2) := by decide +kernel
theorem dX8_ends_12 : decode cX8_ends 12 = .ok (.ireturn, 1) := by decide +kernel
theorem dX8_ends_13 : decode cX8_ends 13 = .ok (.aload_n 0, 1) := by decide +kernel
theorem dX8_ends_14 : decode cX8_ends 14 = .ok (.getfield 26, 3) := by decide +kernel
theorem dX8_ends_17 : decode cX8_ends 17 = .ok (.aload_n 0, 1) := by decide +kernel
theorem dX8_ends_18 : decode cX8_ends 18 = .ok (.getfield 32, 3) := by decide +kernel
theorem dX8_ends_21 : decode cX8_ends 21 = .ok (.invokestatic 163, 3) := by decide +kernel
theorem dX8_ends_24 : decode cX8_ends 24 = .ok (.aload_n 0, 1) := by decide +kernel
theorem dX8_ends_25 : decode cX8_ends 25 = .ok (.getfield 32, 3) := by decide +kernel
theorem dX8_ends_28 : decode cX8_ends 28 = .ok (.invokestatic 174, 3) := by decide +kernel
theorem dX8_ends_31 : decode cX8_ends 31 = .ok (.istore_n 1, 1) := by decide +kernel
theorem dX8_ends_32 : decode cX8_ends 32 = .ok (.aload_n 0, 1) := by decide +kernel
theorem dX8_ends_33 : decode cX8_ends 33 = .ok (.iload_n 1, 1) := by decide +kernel
theorem dX8_ends_34 : decode cX8_ends 34 = .ok (.bipush (-9), 2) := by decide +kernel
theorem dX8_ends_36 : decode cX8_ends 36 = .ok (.if_icmp .ne 10, 3) := by decide +kernel
theorem dX8_ends_39 : decode cX8_ends 39 = .ok (.aload_n 0, 1) := by decide +kernel
theorem dX8_ends_40 : decode cX8_ends 40 = .ok (.getfield 70, 3) := by decide +kernel
theorem dX8_ends_43 : decode cX8_ends 43 = .ok (.goto 16, 3) := by decide +kernel
theorem dX8_ends_46 : decode cX8_ends 46 = .ok (.aload_n 0, 1) := by decide +kernel
theorem dX8_ends_47 : decode cX8_ends 47 = .ok (.getfield 32, 3) := by decide +kernel
theorem dX8_ends_50 : decode cX8_ends 50 = .ok (.iconst 2, 1) := by decide +kernel
theorem dX8_ends_51 : decode cX8_ends 51 = .ok (.iaload, 1) := by decide +kernel
theorem dX8_ends_52 : decode cX8_ends 52 = .ok (.aload_n 0, 1) := by decide +kernel
theorem dX8_ends_53 : decode cX8_ends 53 = .ok (.getfield 26, 3) := by decide +kernel
theorem dX8_ends_56 : decode cX8_ends 56 = .ok (.iconst 2, 1) := by decide +kernel
theorem dX8_ends_57 : decode cX8_ends 57 = .ok (.iaload, 1) := by decide +kernel
theorem dX8_ends_58 : decode cX8_ends 58 = .ok (.isub, 1) := by decide +kernel
theorem dX8_ends_59 : decode cX8_ends 59 = .ok (.putfield 70, 3) := by decide +kernel
theorem dX8_ends_62 : decode cX8_ends 62 = .ok (.iload_n 1, 1) := by decide +kernel
theorem dX8_ends_63 : decode cX8_ends 63 = .ok (.ireturn, 1) := by decide +kernel
theorem dX8_passes_0 : decode cX8_passes 0 = .ok (.aload_n 0, 1) := by decide +kernel
theorem dX8_passes_1 : decode cX8_passes 1 = .ok (.getfield 26, 3) := by decide +kernel
theorem dX8_passes_4 : decode cX8_passes 4 = .ok (.bipush 18, 2) := by decide +kernel
theorem dX8_passes_6 : decode cX8_passes 6 = .ok (.iaload, 1) := by decide +kernel
theorem dX8_passes_7 : decode cX8_passes 7 = .ok (.ifCond .ne 6, 3) := by decide +kernel
theorem dX8_passes_10 : decode cX8_passes 10 = .ok (.bipush (-4), 2) := by decide +kernel
theorem dX8_passes_12 : decode cX8_passes 12 = .ok (.ireturn, 1) := by decide +kernel
theorem dX8_passes_13 : decode cX8_passes 13 = .ok (.aload_n 0, 1) := by decide +kernel
theorem dX8_passes_14 : decode cX8_passes 14 = .ok (.getfield 26, 3) := by decide +kernel
theorem dX8_passes_17 : decode cX8_passes 17 = .ok (.aload_n 0, 1) := by decide +kernel
theorem dX8_passes_18 : decode cX8_passes 18 = .ok (.getfield 32, 3) := by decide +kernel
theorem dX8_passes_21 : decode cX8_passes 21 = .ok (.invokestatic 163, 3) := by decide +kernel
theorem dX8_passes_24 : decode cX8_passes 24 = .ok (.iconst 0, 1) := by decide +kernel
theorem dX8_passes_25 : decode cX8_passes 25 = .ok (.istore_n 1, 1) := by decide +kernel
theorem dX8_passes_26 : decode cX8_passes 26 = .ok (.iconst 0, 1) := by decide +kernel
theorem dX8_passes_27 : decode cX8_passes 27 = .ok (.istore_n 2, 1) := by decide +kernel
theorem dX8_passes_28 : decode cX8_passes 28 = .ok (.iconst 1, 1) := by decide +kernel
theorem dX8_passes_29 : decode cX8_passes 29 = .ok (.istore_n 3, 1) := by decide +kernel
theorem dX8_passes_30 : decode cX8_passes 30 = .ok (.iconst 0, 1) := by decide +kernel
theorem dX8_passes_31 : decode cX8_passes 31 = .ok (.istore 4, 2) := by decide +kernel
theorem dX8_passes_33 : decode cX8_passes 33 = .ok (.iload 4, 2) := by decide +kernel
theorem dX8_passes_35 : decode cX8_passes 35 = .ok (.bipush 60, 2) := by decide +kernel
theorem dX8_passes_37 : decode cX8_passes 37 = .ok (.if_icmp .gt 122, 3) := by decide +kernel
theorem dX8_passes_40 : decode cX8_passes 40 = .ok (.iload_n 3, 1) := by decide +kernel
theorem dX8_passes_41 : decode cX8_passes 41 = .ok (.ifCond .eq 118, 3) := by decide +kernel
theorem dX8_passes_44 : decode cX8_passes 44 = .ok (.aload_n 0, 1) := by decide +kernel
theorem dX8_passes_45 : decode cX8_passes 45 = .ok (.getfield 32, 3) := by decide +kernel
theorem dX8_passes_48 : decode cX8_passes 48 = .ok (.invokestatic 167, 3) := by decide +kernel
theorem dX8_passes_51 : decode cX8_passes 51 = .ok (.istore 5, 2) := by decide +kernel
theorem dX8_passes_53 : decode cX8_passes 53 = .ok (.iconst 0, 1) := by decide +kernel
theorem dX8_passes_54 : decode cX8_passes 54 = .ok (.istore 6, 2) := by decide +kernel
theorem dX8_passes_56 : decode cX8_passes 56 = .ok (.iconst 0, 1) := by decide +kernel
theorem dX8_passes_57 : decode cX8_passes 57 = .ok (.istore 7, 2) := by decide +kernel
theorem dX8_passes_59 : decode cX8_passes 59 = .ok (.iload 7, 2) := by decide +kernel
theorem dX8_passes_61 : decode cX8_passes 61 = .ok (.iload_n 1, 1) := by decide +kernel
theorem dX8_passes_62 : decode cX8_passes 62 = .ok (.if_icmp .ge 33, 3) := by decide +kernel
theorem dX8_passes_65 : decode cX8_passes 65 = .ok (.iload 6, 2) := by decide +kernel
theorem dX8_passes_67 : decode cX8_passes 67 = .ok (.ifCond .ne 15, 3) := by decide +kernel
theorem dX8_passes_70 : decode cX8_passes 70 = .ok (.aload_n 0, 1) := by decide +kernel
theorem dX8_passes_71 : decode cX8_passes 71 = .ok (.getfield 57, 3) := by decide +kernel
theorem dX8_passes_74 : decode cX8_passes 74 = .ok (.iload 7, 2) := by decide +kernel
theorem dX8_passes_76 : decode cX8_passes 76 = .ok (.iaload, 1) := by decide +kernel
theorem dX8_passes_77 : decode cX8_passes 77 = .ok (.iload 5, 2) := by decide +kernel
theorem dX8_passes_79 : decode cX8_passes 79 = .ok (.if_icmp .ne 7, 3) := by decide +kernel
theorem dX8_passes_82 : decode cX8_passes 82 = .ok (.iconst 1, 1) := by decide +kernel
theorem dX8_passes_83 : decode cX8_passes 83 = .ok (.goto 4, 3) := by decide +kernel
theorem dX8_passes_86 : decode cX8_passes 86 = .ok (.iconst 0, 1) := by decide +kernel
theorem dX8_passes_87 : decode cX8_passes 87 = .ok (.istore 6, 2) := by decide +kernel
theorem dX8_passes_89 : decode cX8_passes 89 = .ok (.iinc 7 1, 3) := by decide +kernel
theorem dX8_passes_92 : decode cX8_passes 92 = .ok (.goto (-33), 3) := by decide +kernel
theorem dX8_passes_95 : decode cX8_passes 95 = .ok (.aload_n 0, 1) := by decide +kernel
theorem dX8_passes_96 : decode cX8_passes 96 = .ok (.getfield 57, 3) := by decide +kernel
theorem dX8_passes_99 : decode cX8_passes 99 = .ok (.iload_n 1, 1) := by decide +kernel
theorem dX8_passes_100 : decode cX8_passes 100 = .ok (.iload 5, 2) := by decide +kernel
theorem dX8_passes_102 : decode cX8_passes 102 = .ok (.iastore, 1) := by decide +kernel
theorem dX8_passes_103 : decode cX8_passes 103 = .ok (.iload_n 1, 1) := by decide +kernel
theorem dX8_passes_104 : decode cX8_passes 104 = .ok (.iload 6, 2) := by decide +kernel
theorem dX8_passes_106 : decode cX8_passes 106 = .ok (.ifCond .eq 7, 3) := by decide +kernel
theorem dX8_passes_109 : decode cX8_passes 109 = .ok (.iconst 0, 1) := by decide +kernel
theorem dX8_passes_110 : decode cX8_passes 110 = .ok (.goto 4, 3) := by decide +kernel
theorem dX8_passes_113 : decode cX8_passes 113 = .ok (.iconst 1, 1) := by decide +kernel
theorem dX8_passes_114 : decode cX8_passes 114 = .ok (.iadd, 1) := by decide +kernel
theorem dX8_passes_115 : decode cX8_passes 115 = .ok (.istore_n 1, 1) := by decide +kernel
theorem dX8_passes_116 : decode cX8_passes 116 = .ok (.iload 5, 2) := by decide +kernel
theorem dX8_passes_118 : decode cX8_passes 118 = .ok (.iload_n 2, 1) := by decide +kernel
theorem dX8_passes_119 : decode cX8_passes 119 = .ok (.if_icmp .le 8, 3) := by decide +kernel
theorem dX8_passes_122 : decode cX8_passes 122 = .ok (.iload 5, 2) := by decide +kernel
theorem dX8_passes_124 : decode cX8_passes 124 = .ok (.goto 4, 3) := by decide +kernel
theorem dX8_passes_127 : decode cX8_passes 127 = .ok (.iload_n 2, 1) := by decide +kernel
theorem dX8_passes_128 : decode cX8_passes 128 = .ok (.istore_n 2, 1) := by decide +kernel
theorem dX8_passes_129 : decode cX8_passes 129 = .ok (.aload_n 0, 1) := by decide +kernel
theorem dX8_passes_130 : decode cX8_passes 130 = .ok (.getfield 32, 3) := by decide +kernel
theorem dX8_passes_133 : decode cX8_passes 133 = .ok (.invokestatic 170, 3) := by decide +kernel
theorem dX8_passes_136 : decode cX8_passes 136 = .ok (.ifCond .ne 7, 3) := by decide +kernel
theorem dX8_passes_139 : decode cX8_passes 139 = .ok (.iconst 1, 1) := by decide +kernel
theorem dX8_passes_140 : decode cX8_passes 140 = .ok (.goto 4, 3) := by decide +kernel
theorem dX8_passes_143 : decode cX8_passes 143 = .ok (.iconst 0, 1) := by decide +kernel
theorem dX8_passes_144 : decode cX8_passes 144 = .ok (.istore_n 3, 1) := by decide +kernel
theorem dX8_passes_145 : decode cX8_passes 145 = .ok (.aload_n 0, 1) := by decide +kernel
theorem dX8_passes_146 : decode cX8_passes 146 = .ok (.getfield 32, 3) := by decide +kernel
theorem dX8_passes_149 : decode cX8_passes 149 = .ok (.invokestatic 153, 3) := by decide +kernel
theorem dX8_passes_152 : decode cX8_passes 152 = .ok (.pop, 1) := by decide +kernel
theorem dX8_passes_153 : decode cX8_passes 153 = .ok (.iinc 4 1, 3) := by decide +kernel
theorem dX8_passes_156 : decode cX8_passes 156 = .ok (.goto (-123), 3) := by decide +kernel
theorem dX8_passes_159 : decode cX8_passes 159 = .ok (.aload_n 0, 1) := by decide +kernel
theorem dX8_passes_160 : decode cX8_passes 160 = .ok (.iload_n 2, 1) := by decide +kernel
theorem dX8_passes_161 : decode cX8_passes 161 = .ok (.putfield 70, 3) := by decide +kernel
theorem dX8_passes_164 : decode cX8_passes 164 = .ok (.iload_n 1, 1) := by decide +kernel
theorem dX8_passes_165 : decode cX8_passes 165 = .ok (.ireturn, 1) := by decide +kernel
theorem dX8_least_0 : decode cX8_least 0 = .ok (.aload_n 0, 1) := by decide +kernel
theorem dX8_least_1 : decode cX8_least 1 = .ok (.getfield 26, 3) := by decide +kernel
theorem dX8_least_4 : decode cX8_least 4 = .ok (.bipush 18, 2) := by decide +kernel
theorem dX8_least_6 : decode cX8_least 6 = .ok (.iaload, 1) := by decide +kernel
theorem dX8_least_7 : decode cX8_least 7 = .ok (.ifCond .ne 6, 3) := by decide +kernel
theorem dX8_least_10 : decode cX8_least 10 = .ok (.bipush (-4), 2) := by decide +kernel
theorem dX8_least_12 : decode cX8_least 12 = .ok (.ireturn, 1) := by decide +kernel
theorem dX8_least_13 : decode cX8_least 13 = .ok (.aload_n 0, 1) := by decide +kernel
theorem dX8_least_14 : decode cX8_least 14 = .ok (.getfield 26, 3) := by decide +kernel
theorem dX8_least_17 : decode cX8_least 17 = .ok (.aload_n 0, 1) := by decide +kernel
theorem dX8_least_18 : decode cX8_least 18 = .ok (.getfield 32, 3) := by decide +kernel
theorem dX8_least_21 : decode cX8_least 21 = .ok (.invokestatic 163, 3) := by decide +kernel
theorem dX8_least_24 : decode cX8_least 24 = .ok (.aload_n 0, 1) := by decide +kernel
theorem dX8_least_25 : decode cX8_least 25 = .ok (.getfield 32, 3) := by decide +kernel
theorem dX8_least_28 : decode cX8_least 28 = .ok (.iconst 0, 1) := by decide +kernel
theorem dX8_least_29 : decode cX8_least 29 = .ok (.bipush 9, 2) := by decide +kernel
theorem dX8_least_31 : decode cX8_least 31 = .ok (.iastore, 1) := by decide +kernel
theorem dX8_least_32 : decode cX8_least 32 = .ok (.aload_n 0, 1) := by decide +kernel
theorem dX8_least_33 : decode cX8_least 33 = .ok (.getfield 32, 3) := by decide +kernel
theorem dX8_least_36 : decode cX8_least 36 = .ok (.invokestatic 174, 3) := by decide +kernel
theorem dX8_least_39 : decode cX8_least 39 = .ok (.istore_n 1, 1) := by decide +kernel
theorem dX8_least_40 : decode cX8_least 40 = .ok (.iconst 1, 1) := by decide +kernel
theorem dX8_least_41 : decode cX8_least 41 = .ok (.istore_n 2, 1) := by decide +kernel
theorem dX8_least_42 : decode cX8_least 42 = .ok (.iload_n 2, 1) := by decide +kernel
theorem dX8_least_43 : decode cX8_least 43 = .ok (.bipush 10, 2) := by decide +kernel
theorem dX8_least_45 : decode cX8_least 45 = .ok (.if_icmp .ge 51, 3) := by decide +kernel
theorem dX8_least_48 : decode cX8_least 48 = .ok (.iload_n 1, 1) := by decide +kernel
theorem dX8_least_49 : decode cX8_least 49 = .ok (.bipush (-9), 2) := by decide +kernel
theorem dX8_least_51 : decode cX8_least 51 = .ok (.if_icmp .eq 45, 3) := by decide +kernel
theorem dX8_least_54 : decode cX8_least 54 = .ok (.aload_n 0, 1) := by decide +kernel
theorem dX8_least_55 : decode cX8_least 55 = .ok (.getfield 26, 3) := by decide +kernel
theorem dX8_least_58 : decode cX8_least 58 = .ok (.aload_n 0, 1) := by decide +kernel
theorem dX8_least_59 : decode cX8_least 59 = .ok (.getfield 32, 3) := by decide +kernel
theorem dX8_least_62 : decode cX8_least 62 = .ok (.invokestatic 163, 3) := by decide +kernel
theorem dX8_least_65 : decode cX8_least 65 = .ok (.aload_n 0, 1) := by decide +kernel
theorem dX8_least_66 : decode cX8_least 66 = .ok (.getfield 32, 3) := by decide +kernel
theorem dX8_least_69 : decode cX8_least 69 = .ok (.iconst 0, 1) := by decide +kernel
theorem dX8_least_70 : decode cX8_least 70 = .ok (.iload_n 2, 1) := by decide +kernel
theorem dX8_least_71 : decode cX8_least 71 = .ok (.iastore, 1) := by decide +kernel
theorem dX8_least_72 : decode cX8_least 72 = .ok (.aload_n 0, 1) := by decide +kernel
theorem dX8_least_73 : decode cX8_least 73 = .ok (.getfield 32, 3) := by decide +kernel
theorem dX8_least_76 : decode cX8_least 76 = .ok (.invokestatic 174, 3) := by decide +kernel
theorem dX8_least_79 : decode cX8_least 79 = .ok (.iload_n 1, 1) := by decide +kernel
theorem dX8_least_80 : decode cX8_least 80 = .ok (.if_icmp .ne 10, 3) := by decide +kernel
theorem dX8_least_83 : decode cX8_least 83 = .ok (.aload_n 0, 1) := by decide +kernel
theorem dX8_least_84 : decode cX8_least 84 = .ok (.iload_n 1, 1) := by decide +kernel
theorem dX8_least_85 : decode cX8_least 85 = .ok (.putfield 70, 3) := by decide +kernel
theorem dX8_least_88 : decode cX8_least 88 = .ok (.iload_n 2, 1) := by decide +kernel
theorem dX8_least_89 : decode cX8_least 89 = .ok (.ireturn, 1) := by decide +kernel
theorem dX8_least_90 : decode cX8_least 90 = .ok (.iinc 2 1, 3) := by decide +kernel
theorem dX8_least_93 : decode cX8_least 93 = .ok (.goto (-51), 3) := by decide +kernel
theorem dX8_least_96 : decode cX8_least 96 = .ok (.bipush (-9), 2) := by decide +kernel
theorem dX8_least_98 : decode cX8_least 98 = .ok (.ireturn, 1) := by decide +kernel
theorem dX8_aims_0 : decode cX8_aims 0 = .ok (.iload_n 2, 1) := by decide +kernel
theorem dX8_aims_1 : decode cX8_aims 1 = .ok (.istore_n 3, 1) := by decide +kernel
theorem dX8_aims_2 : decode cX8_aims 2 = .ok (.aload_n 1, 1) := by decide +kernel
theorem dX8_aims_3 : decode cX8_aims 3 = .ok (.bipush 18, 2) := by decide +kernel
theorem dX8_aims_5 : decode cX8_aims 5 = .ok (.iaload, 1) := by decide +kernel
theorem dX8_aims_6 : decode cX8_aims 6 = .ok (.iconst 1, 1) := by decide +kernel
theorem dX8_aims_7 : decode cX8_aims 7 = .ok (.isub, 1) := by decide +kernel
theorem dX8_aims_8 : decode cX8_aims 8 = .ok (.istore 4, 2) := by decide +kernel
theorem dX8_aims_10 : decode cX8_aims 10 = .ok (.iload 4, 2) := by decide +kernel
theorem dX8_aims_12 : decode cX8_aims 12 = .ok (.ifCond .lt 25, 3) := by decide +kernel
theorem dX8_aims_15 : decode cX8_aims 15 = .ok (.aload_n 1, 1) := by decide +kernel
theorem dX8_aims_16 : decode cX8_aims 16 = .ok (.bipush 11, 2) := by decide +kernel
theorem dX8_aims_18 : decode cX8_aims 18 = .ok (.iload 4, 2) := by decide +kernel
theorem dX8_aims_20 : decode cX8_aims 20 = .ok (.iadd, 1) := by decide +kernel
theorem dX8_aims_21 : decode cX8_aims 21 = .ok (.iload_n 3, 1) := by decide +kernel
theorem dX8_aims_22 : decode cX8_aims 22 = .ok (.bipush 10, 2) := by decide +kernel
theorem dX8_aims_24 : decode cX8_aims 24 = .ok (.irem, 1) := by decide +kernel
theorem dX8_aims_25 : decode cX8_aims 25 = .ok (.iastore, 1) := by decide +kernel
theorem dX8_aims_26 : decode cX8_aims 26 = .ok (.iload_n 3, 1) := by decide +kernel
theorem dX8_aims_27 : decode cX8_aims 27 = .ok (.bipush 10, 2) := by decide +kernel
theorem dX8_aims_29 : decode cX8_aims 29 = .ok (.idiv, 1) := by decide +kernel
theorem dX8_aims_30 : decode cX8_aims 30 = .ok (.istore_n 3, 1) := by decide +kernel
theorem dX8_aims_31 : decode cX8_aims 31 = .ok (.iinc 4 (-1), 3) := by decide +kernel
theorem dX8_aims_34 : decode cX8_aims 34 = .ok (.goto (-24), 3) := by decide +kernel
theorem dX8_aims_37 : decode cX8_aims 37 = .ok (.return_, 1) := by decide +kernel
theorem dX8_amiss_0 : decode cX8_amiss 0 = .ok (.aload_n 0, 1) := by decide +kernel
theorem dX8_amiss_1 : decode cX8_amiss 1 = .ok (.getfield 7, 3) := by decide +kernel
theorem dX8_amiss_4 : decode cX8_amiss 4 = .ok (.iload_n 1, 1) := by decide +kernel
theorem dX8_amiss_5 : decode cX8_amiss 5 = .ok (.iaload, 1) := by decide +kernel
theorem dX8_amiss_6 : decode cX8_amiss 6 = .ok (.ifCond .ge 5, 3) := by decide +kernel
theorem dX8_amiss_9 : decode cX8_amiss 9 = .ok (.iconst 1, 1) := by decide +kernel
theorem dX8_amiss_10 : decode cX8_amiss 10 = .ok (.ireturn, 1) := by decide +kernel
theorem dX8_amiss_11 : decode cX8_amiss 11 = .ok (.aload_n 0, 1) := by decide +kernel
theorem dX8_amiss_12 : decode cX8_amiss 12 = .ok (.getfield 7, 3) := by decide +kernel
theorem dX8_amiss_15 : decode cX8_amiss 15 = .ok (.iload_n 1, 1) := by decide +kernel
theorem dX8_amiss_16 : decode cX8_amiss 16 = .ok (.iaload, 1) := by decide +kernel
theorem dX8_amiss_17 : decode cX8_amiss 17 = .ok (.iconst 1, 1) := by decide +kernel
theorem dX8_amiss_18 : decode cX8_amiss 18 = .ok (.iconst 5, 1) := by decide +kernel
theorem dX8_amiss_19 : decode cX8_amiss 19 = .ok (.invokestatic 73, 3) := by decide +kernel
theorem dX8_amiss_22 : decode cX8_amiss 22 = .ok (.ifCond .ne 5, 3) := by decide +kernel
theorem dX8_amiss_25 : decode cX8_amiss 25 = .ok (.iconst 5, 1) := by decide +kernel
theorem dX8_amiss_26 : decode cX8_amiss 26 = .ok (.ireturn, 1) := by decide +kernel
theorem dX8_amiss_27 : decode cX8_amiss 27 = .ok (.iconst 1, 1) := by decide +kernel
theorem dX8_amiss_28 : decode cX8_amiss 28 = .ok (.istore_n 2, 1) := by decide +kernel
theorem dX8_amiss_29 : decode cX8_amiss 29 = .ok (.iconst 0, 1) := by decide +kernel
theorem dX8_amiss_30 : decode cX8_amiss 30 = .ok (.istore_n 3, 1) := by decide +kernel
theorem dX8_amiss_31 : decode cX8_amiss 31 = .ok (.iload_n 3, 1) := by decide +kernel
theorem dX8_amiss_32 : decode cX8_amiss 32 = .ok (.aload_n 0, 1) := by decide +kernel
theorem dX8_amiss_33 : decode cX8_amiss 33 = .ok (.getfield 26, 3) := by decide +kernel
theorem dX8_amiss_36 : decode cX8_amiss 36 = .ok (.bipush 18, 2) := by decide +kernel
theorem dX8_amiss_38 : decode cX8_amiss 38 = .ok (.iaload, 1) := by decide +kernel
theorem dX8_amiss_39 : decode cX8_amiss 39 = .ok (.if_icmp .ge 14, 3) := by decide +kernel
theorem dX8_amiss_42 : decode cX8_amiss 42 = .ok (.iload_n 2, 1) := by decide +kernel
theorem dX8_amiss_43 : decode cX8_amiss 43 = .ok (.bipush 10, 2) := by decide +kernel
theorem dX8_amiss_45 : decode cX8_amiss 45 = .ok (.imul, 1) := by decide +kernel
theorem dX8_amiss_46 : decode cX8_amiss 46 = .ok (.istore_n 2, 1) := by decide +kernel
theorem dX8_amiss_47 : decode cX8_amiss 47 = .ok (.iinc 3 1, 3) := by decide +kernel
theorem dX8_amiss_50 : decode cX8_amiss 50 = .ok (.goto (-19), 3) := by decide +kernel
theorem dX8_amiss_53 : decode cX8_amiss 53 = .ok (.iconst 1, 1) := by decide +kernel
theorem dX8_amiss_54 : decode cX8_amiss 54 = .ok (.istore_n 3, 1) := by decide +kernel
theorem dX8_amiss_55 : decode cX8_amiss 55 = .ok (.iconst 0, 1) := by decide +kernel
theorem dX8_amiss_56 : decode cX8_amiss 56 = .ok (.istore 4, 2) := by decide +kernel
theorem dX8_amiss_58 : decode cX8_amiss 58 = .ok (.iload 4, 2) := by decide +kernel
theorem dX8_amiss_60 : decode cX8_amiss 60 = .ok (.aload_n 0, 1) := by decide +kernel
theorem dX8_amiss_61 : decode cX8_amiss 61 = .ok (.getfield 7, 3) := by decide +kernel
theorem dX8_amiss_64 : decode cX8_amiss 64 = .ok (.iload_n 1, 1) := by decide +kernel
theorem dX8_amiss_65 : decode cX8_amiss 65 = .ok (.iaload, 1) := by decide +kernel
theorem dX8_amiss_66 : decode cX8_amiss 66 = .ok (.if_icmp .ge 41, 3) := by decide +kernel
theorem dX8_amiss_69 : decode cX8_amiss 69 = .ok (.iload_n 3, 1) := by decide +kernel
theorem dX8_amiss_70 : decode cX8_amiss 70 = .ok (.ifCond .eq 29, 3) := by decide +kernel
theorem dX8_amiss_73 : decode cX8_amiss 73 = .ok (.aload_n 0, 1) := by decide +kernel
theorem dX8_amiss_74 : decode cX8_amiss 74 = .ok (.getfield 13, 3) := by decide +kernel
theorem dX8_amiss_77 : decode cX8_amiss 77 = .ok (.bipush 40, 2) := by decide +kernel
theorem dX8_amiss_79 : decode cX8_amiss 79 = .ok (.iload_n 1, 1) := by decide +kernel
theorem dX8_amiss_80 : decode cX8_amiss 80 = .ok (.imul, 1) := by decide +kernel
theorem dX8_amiss_81 : decode cX8_amiss 81 = .ok (.iload 4, 2) := by decide +kernel
theorem dX8_amiss_83 : decode cX8_amiss 83 = .ok (.iadd, 1) := by decide +kernel
theorem dX8_amiss_84 : decode cX8_amiss 84 = .ok (.iaload, 1) := by decide +kernel
theorem dX8_amiss_85 : decode cX8_amiss 85 = .ok (.iconst 0, 1) := by decide +kernel
theorem dX8_amiss_86 : decode cX8_amiss 86 = .ok (.iload_n 2, 1) := by decide +kernel
theorem dX8_amiss_87 : decode cX8_amiss 87 = .ok (.iconst 1, 1) := by decide +kernel
theorem dX8_amiss_88 : decode cX8_amiss 88 = .ok (.isub, 1) := by decide +kernel
theorem dX8_amiss_89 : decode cX8_amiss 89 = .ok (.invokestatic 73, 3) := by decide +kernel
theorem dX8_amiss_92 : decode cX8_amiss 92 = .ok (.ifCond .eq 7, 3) := by decide +kernel
theorem dX8_amiss_95 : decode cX8_amiss 95 = .ok (.iconst 1, 1) := by decide +kernel
theorem dX8_amiss_96 : decode cX8_amiss 96 = .ok (.goto 4, 3) := by decide +kernel
theorem dX8_amiss_99 : decode cX8_amiss 99 = .ok (.iconst 0, 1) := by decide +kernel
theorem dX8_amiss_100 : decode cX8_amiss 100 = .ok (.istore_n 3, 1) := by decide +kernel
theorem dX8_amiss_101 : decode cX8_amiss 101 = .ok (.iinc 4 1, 3) := by decide +kernel
theorem dX8_amiss_104 : decode cX8_amiss 104 = .ok (.goto (-46), 3) := by decide +kernel
theorem dX8_amiss_107 : decode cX8_amiss 107 = .ok (.iload_n 3, 1) := by decide +kernel
theorem dX8_amiss_108 : decode cX8_amiss 108 = .ok (.ifCond .eq 7, 3) := by decide +kernel
theorem dX8_amiss_111 : decode cX8_amiss 111 = .ok (.iconst 0, 1) := by decide +kernel
theorem dX8_amiss_112 : decode cX8_amiss 112 = .ok (.goto 4, 3) := by decide +kernel
theorem dX8_amiss_115 : decode cX8_amiss 115 = .ok (.iconst 3, 1) := by decide +kernel
theorem dX8_amiss_116 : decode cX8_amiss 116 = .ok (.ireturn, 1) := by decide +kernel
theorem dX8_soonest_0 : decode cX8_soonest 0 = .ok (.iload_n 1, 1) := by decide +kernel
theorem dX8_soonest_1 : decode cX8_soonest 1 = .ok (.invokestatic 77, 3) := by decide +kernel
theorem dX8_soonest_4 : decode cX8_soonest 4 = .ok (.ifCond .ne 5, 3) := by decide +kernel
theorem dX8_soonest_7 : decode cX8_soonest 7 = .ok (.iconst (-1), 1) := by decide +kernel
theorem dX8_soonest_8 : decode cX8_soonest 8 = .ok (.ireturn, 1) := by decide +kernel
theorem dX8_soonest_9 : decode cX8_soonest 9 = .ok (.aload_n 0, 1) := by decide +kernel
theorem dX8_soonest_10 : decode cX8_soonest 10 = .ok (.getfield 26, 3) := by decide +kernel
theorem dX8_soonest_13 : decode cX8_soonest 13 = .ok (.bipush 18, 2) := by decide +kernel
theorem dX8_soonest_15 : decode cX8_soonest 15 = .ok (.iaload, 1) := by decide +kernel
theorem dX8_soonest_16 : decode cX8_soonest 16 = .ok (.ifCond .ne 6, 3) := by decide +kernel
theorem dX8_soonest_19 : decode cX8_soonest 19 = .ok (.bipush (-4), 2) := by decide +kernel
theorem dX8_soonest_21 : decode cX8_soonest 21 = .ok (.ireturn, 1) := by decide +kernel
theorem dX8_soonest_22 : decode cX8_soonest 22 = .ok (.aload_n 0, 1) := by decide +kernel
theorem dX8_soonest_23 : decode cX8_soonest 23 = .ok (.iload_n 1, 1) := by decide +kernel
theorem dX8_soonest_24 : decode cX8_soonest 24 = .ok (.invokevirtual 177, 3) := by decide +kernel
theorem dX8_soonest_27 : decode cX8_soonest 27 = .ok (.istore_n 2, 1) := by decide +kernel
theorem dX8_soonest_28 : decode cX8_soonest 28 = .ok (.iload_n 2, 1) := by decide +kernel
theorem dX8_soonest_29 : decode cX8_soonest 29 = .ok (.ifCond .eq 9, 3) := by decide +kernel
theorem dX8_soonest_32 : decode cX8_soonest 32 = .ok (.aload_n 0, 1) := by decide +kernel
theorem dX8_soonest_33 : decode cX8_soonest 33 = .ok (.iload_n 2, 1) := by decide +kernel
theorem dX8_soonest_34 : decode cX8_soonest 34 = .ok (.invokevirtual 81, 3) := by decide +kernel
theorem dX8_soonest_37 : decode cX8_soonest 37 = .ok (.ireturn, 1) := by decide +kernel
theorem dX8_soonest_38 : decode cX8_soonest 38 = .ok (.bipush (-9), 2) := by decide +kernel
theorem dX8_soonest_40 : decode cX8_soonest 40 = .ok (.istore_n 3, 1) := by decide +kernel
theorem dX8_soonest_41 : decode cX8_soonest 41 = .ok (.bipush 61, 2) := by decide +kernel
theorem dX8_soonest_43 : decode cX8_soonest 43 = .ok (.istore 4, 2) := by decide +kernel
theorem dX8_soonest_45 : decode cX8_soonest 45 = .ok (.iconst 0, 1) := by decide +kernel
theorem dX8_soonest_46 : decode cX8_soonest 46 = .ok (.istore 5, 2) := by decide +kernel
theorem dX8_soonest_48 : decode cX8_soonest 48 = .ok (.iload 5, 2) := by decide +kernel
theorem dX8_soonest_50 : decode cX8_soonest 50 = .ok (.aload_n 0, 1) := by decide +kernel
theorem dX8_soonest_51 : decode cX8_soonest 51 = .ok (.getfield 7, 3) := by decide +kernel
theorem dX8_soonest_54 : decode cX8_soonest 54 = .ok (.iload_n 1, 1) := by decide +kernel
theorem dX8_soonest_55 : decode cX8_soonest 55 = .ok (.iaload, 1) := by decide +kernel
theorem dX8_soonest_56 : decode cX8_soonest 56 = .ok (.if_icmp .ge 96, 3) := by decide +kernel
theorem dX8_soonest_59 : decode cX8_soonest 59 = .ok (.aload_n 0, 1) := by decide +kernel
theorem dX8_soonest_60 : decode cX8_soonest 60 = .ok (.getfield 26, 3) := by decide +kernel
theorem dX8_soonest_63 : decode cX8_soonest 63 = .ok (.aload_n 0, 1) := by decide +kernel
theorem dX8_soonest_64 : decode cX8_soonest 64 = .ok (.getfield 32, 3) := by decide +kernel
theorem dX8_soonest_67 : decode cX8_soonest 67 = .ok (.invokestatic 163, 3) := by decide +kernel
theorem dX8_soonest_70 : decode cX8_soonest 70 = .ok (.aload_n 0, 1) := by decide +kernel
theorem dX8_soonest_71 : decode cX8_soonest 71 = .ok (.aload_n 0, 1) := by decide +kernel
theorem dX8_soonest_72 : decode cX8_soonest 72 = .ok (.getfield 32, 3) := by decide +kernel
theorem dX8_soonest_75 : decode cX8_soonest 75 = .ok (.aload_n 0, 1) := by decide +kernel
theorem dX8_soonest_76 : decode cX8_soonest 76 = .ok (.getfield 13, 3) := by decide +kernel
theorem dX8_soonest_79 : decode cX8_soonest 79 = .ok (.bipush 40, 2) := by decide +kernel
theorem dX8_soonest_81 : decode cX8_soonest 81 = .ok (.iload_n 1, 1) := by decide +kernel
theorem dX8_soonest_82 : decode cX8_soonest 82 = .ok (.imul, 1) := by decide +kernel
theorem dX8_soonest_83 : decode cX8_soonest 83 = .ok (.iload 5, 2) := by decide +kernel
theorem dX8_soonest_85 : decode cX8_soonest 85 = .ok (.iadd, 1) := by decide +kernel
theorem dX8_soonest_86 : decode cX8_soonest 86 = .ok (.iaload, 1) := by decide +kernel
theorem dX8_soonest_87 : decode cX8_soonest 87 = .ok (.invokevirtual 180, 3) := by decide +kernel
theorem dX8_soonest_90 : decode cX8_soonest 90 = .ok (.aload_n 0, 1) := by decide +kernel
theorem dX8_soonest_91 : decode cX8_soonest 91 = .ok (.getfield 32, 3) := by decide +kernel
theorem dX8_soonest_94 : decode cX8_soonest 94 = .ok (.invokestatic 174, 3) := by decide +kernel
theorem dX8_soonest_97 : decode cX8_soonest 97 = .ok (.istore 6, 2) := by decide +kernel
theorem dX8_soonest_99 : decode cX8_soonest 99 = .ok (.iload 6, 2) := by decide +kernel
theorem dX8_soonest_101 : decode cX8_soonest 101 = .ok (.bipush (-9), 2) := by decide +kernel
theorem dX8_soonest_103 : decode cX8_soonest 103 = .ok (.if_icmp .eq 14, 3) := by decide +kernel
theorem dX8_soonest_106 : decode cX8_soonest 106 = .ok (.iload 6, 2) := by decide +kernel
theorem dX8_soonest_108 : decode cX8_soonest 108 = .ok (.iload 4, 2) := by decide +kernel
theorem dX8_soonest_110 : decode cX8_soonest 110 = .ok (.if_icmp .ge 7, 3) := by decide +kernel
theorem dX8_soonest_113 : decode cX8_soonest 113 = .ok (.iconst 1, 1) := by decide +kernel
theorem dX8_soonest_114 : decode cX8_soonest 114 = .ok (.goto 4, 3) := by decide +kernel
theorem dX8_soonest_117 : decode cX8_soonest 117 = .ok (.iconst 0, 1) := by decide +kernel
theorem dX8_soonest_118 : decode cX8_soonest 118 = .ok (.istore 7, 2) := by decide +kernel
theorem dX8_soonest_120 : decode cX8_soonest 120 = .ok (.iload 7, 2) := by decide +kernel
theorem dX8_soonest_122 : decode cX8_soonest 122 = .ok (.ifCond .eq 8, 3) := by decide +kernel
theorem dX8_soonest_125 : decode cX8_soonest 125 = .ok (.iload 5, 2) := by decide +kernel
theorem dX8_soonest_127 : decode cX8_soonest 127 = .ok (.goto 4, 3) := by decide +kernel
theorem dX8_soonest_130 : decode cX8_soonest 130 = .ok (.iload_n 3, 1) := by decide +kernel
theorem dX8_soonest_131 : decode cX8_soonest 131 = .ok (.istore_n 3, 1) := by decide +kernel
theorem dX8_soonest_132 : decode cX8_soonest 132 = .ok (.iload 7, 2) := by decide +kernel
theorem dX8_soonest_134 : decode cX8_soonest 134 = .ok (.ifCond .eq 8, 3) := by decide +kernel
theorem dX8_soonest_137 : decode cX8_soonest 137 = .ok (.iload 6, 2) := by decide +kernel
theorem dX8_soonest_139 : decode cX8_soonest 139 = .ok (.goto 5, 3) := by decide +kernel
theorem dX8_soonest_142 : decode cX8_soonest 142 = .ok (.iload 4, 2) := by decide +kernel
theorem dX8_soonest_144 : decode cX8_soonest 144 = .ok (.istore 4, 2) := by decide +kernel
theorem dX8_soonest_146 : decode cX8_soonest 146 = .ok (.iinc 5 1, 3) := by decide +kernel
theorem dX8_soonest_149 : decode cX8_soonest 149 = .ok (.goto (-101), 3) := by decide +kernel
theorem dX8_soonest_152 : decode cX8_soonest 152 = .ok (.aload_n 0, 1) := by decide +kernel
theorem dX8_soonest_153 : decode cX8_soonest 153 = .ok (.iload_n 3, 1) := by decide +kernel
theorem dX8_soonest_154 : decode cX8_soonest 154 = .ok (.bipush (-9), 2) := by decide +kernel
theorem dX8_soonest_156 : decode cX8_soonest 156 = .ok (.if_icmp .ne 10, 3) := by decide +kernel
theorem dX8_soonest_159 : decode cX8_soonest 159 = .ok (.aload_n 0, 1) := by decide +kernel
theorem dX8_soonest_160 : decode cX8_soonest 160 = .ok (.getfield 70, 3) := by decide +kernel
theorem dX8_soonest_163 : decode cX8_soonest 163 = .ok (.goto 5, 3) := by decide +kernel
theorem dX8_soonest_166 : decode cX8_soonest 166 = .ok (.iload 4, 2) := by decide +kernel
theorem dX8_soonest_168 : decode cX8_soonest 168 = .ok (.putfield 70, 3) := by decide +kernel
theorem dX8_soonest_171 : decode cX8_soonest 171 = .ok (.iload_n 3, 1) := by decide +kernel
theorem dX8_soonest_172 : decode cX8_soonest 172 = .ok (.ireturn, 1) := by decide +kernel
theorem dX8_order_0 : decode cX8_order 0 = .ok (.iload_n 1, 1) := by decide +kernel
theorem dX8_order_1 : decode cX8_order 1 = .ok (.invokestatic 77, 3) := by decide +kernel
theorem dX8_order_4 : decode cX8_order 4 = .ok (.ifCond .eq 10, 3) := by decide +kernel
theorem dX8_order_7 : decode cX8_order 7 = .ok (.iload_n 2, 1) := by decide +kernel
theorem dX8_order_8 : decode cX8_order 8 = .ok (.invokestatic 77, 3) := by decide +kernel
theorem dX8_order_11 : decode cX8_order 11 = .ok (.ifCond .ne 5, 3) := by decide +kernel
theorem dX8_order_14 : decode cX8_order 14 = .ok (.iconst (-1), 1) := by decide +kernel
theorem dX8_order_15 : decode cX8_order 15 = .ok (.ireturn, 1) := by decide +kernel
theorem dX8_order_16 : decode cX8_order 16 = .ok (.aload_n 0, 1) := by decide +kernel
theorem dX8_order_17 : decode cX8_order 17 = .ok (.getfield 26, 3) := by decide +kernel
theorem dX8_order_20 : decode cX8_order 20 = .ok (.bipush 18, 2) := by decide +kernel
theorem dX8_order_22 : decode cX8_order 22 = .ok (.iaload, 1) := by decide +kernel
theorem dX8_order_23 : decode cX8_order 23 = .ok (.ifCond .ne 6, 3) := by decide +kernel
theorem dX8_order_26 : decode cX8_order 26 = .ok (.bipush (-4), 2) := by decide +kernel
theorem dX8_order_28 : decode cX8_order 28 = .ok (.ireturn, 1) := by decide +kernel
theorem dX8_order_29 : decode cX8_order 29 = .ok (.aload_n 0, 1) := by decide +kernel
theorem dX8_order_30 : decode cX8_order 30 = .ok (.iload_n 1, 1) := by decide +kernel
theorem dX8_order_31 : decode cX8_order 31 = .ok (.invokevirtual 177, 3) := by decide +kernel
theorem dX8_order_34 : decode cX8_order 34 = .ok (.istore_n 3, 1) := by decide +kernel
theorem dX8_order_35 : decode cX8_order 35 = .ok (.iload_n 3, 1) := by decide +kernel
theorem dX8_order_36 : decode cX8_order 36 = .ok (.ifCond .eq 9, 3) := by decide +kernel
theorem dX8_order_39 : decode cX8_order 39 = .ok (.aload_n 0, 1) := by decide +kernel
theorem dX8_order_40 : decode cX8_order 40 = .ok (.iload_n 3, 1) := by decide +kernel
theorem dX8_order_41 : decode cX8_order 41 = .ok (.invokevirtual 81, 3) := by decide +kernel
theorem dX8_order_44 : decode cX8_order 44 = .ok (.ireturn, 1) := by decide +kernel
theorem dX8_order_45 : decode cX8_order 45 = .ok (.aload_n 0, 1) := by decide +kernel
theorem dX8_order_46 : decode cX8_order 46 = .ok (.getfield 7, 3) := by decide +kernel
theorem dX8_order_49 : decode cX8_order 49 = .ok (.iload_n 1, 1) := by decide +kernel
theorem dX8_order_50 : decode cX8_order 50 = .ok (.iaload, 1) := by decide +kernel
theorem dX8_order_51 : decode cX8_order 51 = .ok (.istore 4, 2) := by decide +kernel
theorem dX8_order_53 : decode cX8_order 53 = .ok (.iconst 1, 1) := by decide +kernel
theorem dX8_order_54 : decode cX8_order 54 = .ok (.istore 5, 2) := by decide +kernel
theorem dX8_order_56 : decode cX8_order 56 = .ok (.iconst 0, 1) := by decide +kernel
theorem dX8_order_57 : decode cX8_order 57 = .ok (.istore 6, 2) := by decide +kernel
theorem dX8_order_59 : decode cX8_order 59 = .ok (.iload 6, 2) := by decide +kernel
theorem dX8_order_61 : decode cX8_order 61 = .ok (.iload 4, 2) := by decide +kernel
theorem dX8_order_63 : decode cX8_order 63 = .ok (.if_icmp .ge 16, 3) := by decide +kernel
theorem dX8_order_66 : decode cX8_order 66 = .ok (.iload 5, 2) := by decide +kernel
theorem dX8_order_68 : decode cX8_order 68 = .ok (.iload 4, 2) := by decide +kernel
theorem dX8_order_70 : decode cX8_order 70 = .ok (.imul, 1) := by decide +kernel
theorem dX8_order_71 : decode cX8_order 71 = .ok (.istore 5, 2) := by decide +kernel
theorem dX8_order_73 : decode cX8_order 73 = .ok (.iinc 6 1, 3) := by decide +kernel
theorem dX8_order_76 : decode cX8_order 76 = .ok (.goto (-17), 3) := by decide +kernel
theorem dX8_order_79 : decode cX8_order 79 = .ok (.bipush (-9), 2) := by decide +kernel
theorem dX8_order_81 : decode cX8_order 81 = .ok (.istore 6, 2) := by decide +kernel
theorem dX8_order_83 : decode cX8_order 83 = .ok (.sipush 9999, 3) := by decide +kernel
theorem dX8_order_86 : decode cX8_order 86 = .ok (.istore 7, 2) := by decide +kernel
theorem dX8_order_88 : decode cX8_order 88 = .ok (.iconst 0, 1) := by decide +kernel
theorem dX8_order_89 : decode cX8_order 89 = .ok (.istore 8, 2) := by decide +kernel
theorem dX8_order_91 : decode cX8_order 91 = .ok (.iload 8, 2) := by decide +kernel
theorem dX8_order_93 : decode cX8_order 93 = .ok (.iload 5, 2) := by decide +kernel
theorem dX8_order_95 : decode cX8_order 95 = .ok (.if_icmp .ge 190, 3) := by decide +kernel
theorem dX8_order_98 : decode cX8_order 98 = .ok (.iload 5, 2) := by decide +kernel
theorem dX8_order_100 : decode cX8_order 100 = .ok (.istore 9, 2) := by decide +kernel
theorem dX8_order_102 : decode cX8_order 102 = .ok (.iconst 0, 1) := by decide +kernel
theorem dX8_order_103 : decode cX8_order 103 = .ok (.istore 10, 2) := by decide +kernel
theorem dX8_order_105 : decode cX8_order 105 = .ok (.iconst 0, 1) := by decide +kernel
theorem dX8_order_106 : decode cX8_order 106 = .ok (.istore 11, 2) := by decide +kernel
theorem dX8_order_108 : decode cX8_order 108 = .ok (.aload_n 0, 1) := by decide +kernel
theorem dX8_order_109 : decode cX8_order 109 = .ok (.getfield 26, 3) := by decide +kernel
theorem dX8_order_112 : decode cX8_order 112 = .ok (.aload_n 0, 1) := by decide +kernel
theorem dX8_order_113 : decode cX8_order 113 = .ok (.getfield 32, 3) := by decide +kernel
theorem dX8_order_116 : decode cX8_order 116 = .ok (.invokestatic 163, 3) := by decide +kernel
theorem dX8_order_119 : decode cX8_order 119 = .ok (.iconst 0, 1) := by decide +kernel
theorem dX8_order_120 : decode cX8_order 120 = .ok (.istore 12, 2) := by decide +kernel
theorem dX8_order_122 : decode cX8_order 122 = .ok (.iload 12, 2) := by decide +kernel
theorem dX8_order_124 : decode cX8_order 124 = .ok (.iload 4, 2) := by decide +kernel
theorem dX8_order_126 : decode cX8_order 126 = .ok (.if_icmp .ge 106, 3) := by decide +kernel
theorem dX8_order_129 : decode cX8_order 129 = .ok (.iload 11, 2) := by decide +kernel
theorem dX8_order_131 : decode cX8_order 131 = .ok (.ifCond .lt 101, 3) := by decide +kernel
theorem dX8_order_134 : decode cX8_order 134 = .ok (.iload 9, 2) := by decide +kernel
theorem dX8_order_136 : decode cX8_order 136 = .ok (.iload 4, 2) := by decide +kernel
theorem dX8_order_138 : decode cX8_order 138 = .ok (.idiv, 1) := by decide +kernel
theorem dX8_order_139 : decode cX8_order 139 = .ok (.istore 9, 2) := by decide +kernel
theorem dX8_order_141 : decode cX8_order 141 = .ok (.iload 8, 2) := by decide +kernel
theorem dX8_order_143 : decode cX8_order 143 = .ok (.iload 9, 2) := by decide +kernel
theorem dX8_order_145 : decode cX8_order 145 = .ok (.idiv, 1) := by decide +kernel
theorem dX8_order_146 : decode cX8_order 146 = .ok (.iload 4, 2) := by decide +kernel
theorem dX8_order_148 : decode cX8_order 148 = .ok (.irem, 1) := by decide +kernel
theorem dX8_order_149 : decode cX8_order 149 = .ok (.istore 13, 2) := by decide +kernel
theorem dX8_order_151 : decode cX8_order 151 = .ok (.iload 10, 2) := by decide +kernel
theorem dX8_order_153 : decode cX8_order 153 = .ok (.iload 13, 2) := by decide +kernel
theorem dX8_order_155 : decode cX8_order 155 = .ok (.invokestatic 137, 3) := by decide +kernel
theorem dX8_order_158 : decode cX8_order 158 = .ok (.istore 14, 2) := by decide +kernel
theorem dX8_order_160 : decode cX8_order 160 = .ok (.iload 10, 2) := by decide +kernel
theorem dX8_order_162 : decode cX8_order 162 = .ok (.iconst 1, 1) := by decide +kernel
theorem dX8_order_163 : decode cX8_order 163 = .ok (.iload 13, 2) := by decide +kernel
theorem dX8_order_165 : decode cX8_order 165 = .ok (.ishl, 1) := by decide +kernel
theorem dX8_order_166 : decode cX8_order 166 = .ok (.ior, 1) := by decide +kernel
theorem dX8_order_167 : decode cX8_order 167 = .ok (.istore 10, 2) := by decide +kernel
theorem dX8_order_169 : decode cX8_order 169 = .ok (.aload_n 0, 1) := by decide +kernel
theorem dX8_order_170 : decode cX8_order 170 = .ok (.aload_n 0, 1) := by decide +kernel
theorem dX8_order_171 : decode cX8_order 171 = .ok (.getfield 32, 3) := by decide +kernel
theorem dX8_order_174 : decode cX8_order 174 = .ok (.aload_n 0, 1) := by decide +kernel
theorem dX8_order_175 : decode cX8_order 175 = .ok (.getfield 13, 3) := by decide +kernel
theorem dX8_order_178 : decode cX8_order 178 = .ok (.bipush 40, 2) := by decide +kernel
theorem dX8_order_180 : decode cX8_order 180 = .ok (.iload_n 1, 1) := by decide +kernel
theorem dX8_order_181 : decode cX8_order 181 = .ok (.imul, 1) := by decide +kernel
theorem dX8_order_182 : decode cX8_order 182 = .ok (.iload 13, 2) := by decide +kernel
theorem dX8_order_184 : decode cX8_order 184 = .ok (.iadd, 1) := by decide +kernel
theorem dX8_order_185 : decode cX8_order 185 = .ok (.iaload, 1) := by decide +kernel
theorem dX8_order_186 : decode cX8_order 186 = .ok (.invokevirtual 180, 3) := by decide +kernel
theorem dX8_order_189 : decode cX8_order 189 = .ok (.iload 14, 2) := by decide +kernel
theorem dX8_order_191 : decode cX8_order 191 = .ok (.ifCond .eq 8, 3) := by decide +kernel
theorem dX8_order_194 : decode cX8_order 194 = .ok (.bipush (-9), 2) := by decide +kernel
theorem dX8_order_196 : decode cX8_order 196 = .ok (.goto 10, 3) := by decide +kernel
theorem dX8_order_199 : decode cX8_order 199 = .ok (.aload_n 0, 1) := by decide +kernel
theorem dX8_order_200 : decode cX8_order 200 = .ok (.getfield 32, 3) := by decide +kernel
theorem dX8_order_203 : decode cX8_order 203 = .ok (.invokestatic 174, 3) := by decide +kernel
theorem dX8_order_206 : decode cX8_order 206 = .ok (.istore 15, 2) := by decide +kernel
theorem dX8_order_208 : decode cX8_order 208 = .ok (.iload 15, 2) := by decide +kernel
theorem dX8_order_210 : decode cX8_order 210 = .ok (.bipush (-9), 2) := by decide +kernel
theorem dX8_order_212 : decode cX8_order 212 = .ok (.if_icmp .ne 7, 3) := by decide +kernel
theorem dX8_order_215 : decode cX8_order 215 = .ok (.iconst (-1), 1) := by decide +kernel
theorem dX8_order_216 : decode cX8_order 216 = .ok (.goto 8, 3) := by decide +kernel
theorem dX8_order_219 : decode cX8_order 219 = .ok (.iload 11, 2) := by decide +kernel
theorem dX8_order_221 : decode cX8_order 221 = .ok (.iload 15, 2) := by decide +kernel
theorem dX8_order_223 : decode cX8_order 223 = .ok (.iadd, 1) := by decide +kernel
theorem dX8_order_224 : decode cX8_order 224 = .ok (.istore 11, 2) := by decide +kernel
theorem dX8_order_226 : decode cX8_order 226 = .ok (.iinc 12 1, 3) := by decide +kernel
theorem dX8_order_229 : decode cX8_order 229 = .ok (.goto (-107), 3) := by decide +kernel
theorem dX8_order_232 : decode cX8_order 232 = .ok (.iload 11, 2) := by decide +kernel
theorem dX8_order_234 : decode cX8_order 234 = .ok (.ifCond .lt 14, 3) := by decide +kernel
theorem dX8_order_237 : decode cX8_order 237 = .ok (.iload 11, 2) := by decide +kernel
theorem dX8_order_239 : decode cX8_order 239 = .ok (.iload 7, 2) := by decide +kernel
theorem dX8_order_241 : decode cX8_order 241 = .ok (.if_icmp .ge 7, 3) := by decide +kernel
theorem dX8_order_244 : decode cX8_order 244 = .ok (.iconst 1, 1) := by decide +kernel
theorem dX8_order_245 : decode cX8_order 245 = .ok (.goto 4, 3) := by decide +kernel
theorem dX8_order_248 : decode cX8_order 248 = .ok (.iconst 0, 1) := by decide +kernel
theorem dX8_order_249 : decode cX8_order 249 = .ok (.istore 12, 2) := by decide +kernel
theorem dX8_order_251 : decode cX8_order 251 = .ok (.iload 12, 2) := by decide +kernel
theorem dX8_order_253 : decode cX8_order 253 = .ok (.ifCond .eq 8, 3) := by decide +kernel
theorem dX8_order_256 : decode cX8_order 256 = .ok (.iload 8, 2) := by decide +kernel
theorem dX8_order_258 : decode cX8_order 258 = .ok (.goto 5, 3) := by decide +kernel
theorem dX8_order_261 : decode cX8_order 261 = .ok (.iload 6, 2) := by decide +kernel
theorem dX8_order_263 : decode cX8_order 263 = .ok (.istore 6, 2) := by decide +kernel
theorem dX8_order_265 : decode cX8_order 265 = .ok (.iload 12, 2) := by decide +kernel
theorem dX8_order_267 : decode cX8_order 267 = .ok (.ifCond .eq 8, 3) := by decide +kernel
theorem dX8_order_270 : decode cX8_order 270 = .ok (.iload 11, 2) := by decide +kernel
theorem dX8_order_272 : decode cX8_order 272 = .ok (.goto 5, 3) := by decide +kernel
theorem dX8_order_275 : decode cX8_order 275 = .ok (.iload 7, 2) := by decide +kernel
theorem dX8_order_277 : decode cX8_order 277 = .ok (.istore 7, 2) := by decide +kernel
theorem dX8_order_279 : decode cX8_order 279 = .ok (.iinc 8 1, 3) := by decide +kernel
theorem dX8_order_282 : decode cX8_order 282 = .ok (.goto (-191), 3) := by decide +kernel
theorem dX8_order_285 : decode cX8_order 285 = .ok (.iload 6, 2) := by decide +kernel
theorem dX8_order_287 : decode cX8_order 287 = .ok (.bipush (-9), 2) := by decide +kernel
theorem dX8_order_289 : decode cX8_order 289 = .ok (.if_icmp .ne 6, 3) := by decide +kernel
theorem dX8_order_292 : decode cX8_order 292 = .ok (.bipush (-9), 2) := by decide +kernel
theorem dX8_order_294 : decode cX8_order 294 = .ok (.ireturn, 1) := by decide +kernel
theorem dX8_order_295 : decode cX8_order 295 = .ok (.aload_n 0, 1) := by decide +kernel
theorem dX8_order_296 : decode cX8_order 296 = .ok (.iload_n 2, 1) := by decide +kernel
theorem dX8_order_297 : decode cX8_order 297 = .ok (.iload 4, 2) := by decide +kernel
theorem dX8_order_299 : decode cX8_order 299 = .ok (.invokevirtual 85, 3) := by decide +kernel
theorem dX8_order_302 : decode cX8_order 302 = .ok (.iload 4, 2) := by decide +kernel
theorem dX8_order_304 : decode cX8_order 304 = .ok (.iconst 1, 1) := by decide +kernel
theorem dX8_order_305 : decode cX8_order 305 = .ok (.isub, 1) := by decide +kernel
theorem dX8_order_306 : decode cX8_order 306 = .ok (.istore 8, 2) := by decide +kernel
theorem dX8_order_308 : decode cX8_order 308 = .ok (.iload 8, 2) := by decide +kernel
theorem dX8_order_310 : decode cX8_order 310 = .ok (.ifCond .lt 33, 3) := by decide +kernel
theorem dX8_order_313 : decode cX8_order 313 = .ok (.aload_n 0, 1) := by decide +kernel
theorem dX8_order_314 : decode cX8_order 314 = .ok (.getfield 13, 3) := by decide +kernel
theorem dX8_order_317 : decode cX8_order 317 = .ok (.bipush 40, 2) := by decide +kernel
theorem dX8_order_319 : decode cX8_order 319 = .ok (.iload_n 2, 1) := by decide +kernel
theorem dX8_order_320 : decode cX8_order 320 = .ok (.imul, 1) := by decide +kernel
theorem dX8_order_321 : decode cX8_order 321 = .ok (.iload 8, 2) := by decide +kernel
theorem dX8_order_323 : decode cX8_order 323 = .ok (.iadd, 1) := by decide +kernel
theorem dX8_order_324 : decode cX8_order 324 = .ok (.iload 6, 2) := by decide +kernel
theorem dX8_order_326 : decode cX8_order 326 = .ok (.iload 4, 2) := by decide +kernel
theorem dX8_order_328 : decode cX8_order 328 = .ok (.irem, 1) := by decide +kernel
theorem dX8_order_329 : decode cX8_order 329 = .ok (.iastore, 1) := by decide +kernel
theorem dX8_order_330 : decode cX8_order 330 = .ok (.iload 6, 2) := by decide +kernel
theorem dX8_order_332 : decode cX8_order 332 = .ok (.iload 4, 2) := by decide +kernel
theorem dX8_order_334 : decode cX8_order 334 = .ok (.idiv, 1) := by decide +kernel
theorem dX8_order_335 : decode cX8_order 335 = .ok (.istore 6, 2) := by decide +kernel
theorem dX8_order_337 : decode cX8_order 337 = .ok (.iinc 8 (-1), 3) := by decide +kernel
theorem dX8_order_340 : decode cX8_order 340 = .ok (.goto (-32), 3) := by decide +kernel
theorem dX8_order_343 : decode cX8_order 343 = .ok (.iload 7, 2) := by decide +kernel
theorem dX8_order_345 : decode cX8_order 345 = .ok (.ireturn, 1) := by decide +kernel
theorem dX8_unfit_0 : decode cX8_unfit 0 = .ok (.aload_n 0, 1) := by decide +kernel
theorem dX8_unfit_1 : decode cX8_unfit 1 = .ok (.getfield 7, 3) := by decide +kernel
theorem dX8_unfit_4 : decode cX8_unfit 4 = .ok (.iload_n 1, 1) := by decide +kernel
theorem dX8_unfit_5 : decode cX8_unfit 5 = .ok (.iaload, 1) := by decide +kernel
theorem dX8_unfit_6 : decode cX8_unfit 6 = .ok (.ifCond .ge 5, 3) := by decide +kernel
theorem dX8_unfit_9 : decode cX8_unfit 9 = .ok (.iconst 1, 1) := by decide +kernel
theorem dX8_unfit_10 : decode cX8_unfit 10 = .ok (.ireturn, 1) := by decide +kernel
theorem dX8_unfit_11 : decode cX8_unfit 11 = .ok (.aload_n 0, 1) := by decide +kernel
theorem dX8_unfit_12 : decode cX8_unfit 12 = .ok (.getfield 7, 3) := by decide +kernel
theorem dX8_unfit_15 : decode cX8_unfit 15 = .ok (.iload_n 1, 1) := by decide +kernel
theorem dX8_unfit_16 : decode cX8_unfit 16 = .ok (.iaload, 1) := by decide +kernel
theorem dX8_unfit_17 : decode cX8_unfit 17 = .ok (.iconst 1, 1) := by decide +kernel
theorem dX8_unfit_18 : decode cX8_unfit 18 = .ok (.bipush 20, 2) := by decide +kernel
theorem dX8_unfit_20 : decode cX8_unfit 20 = .ok (.invokestatic 73, 3) := by decide +kernel
theorem dX8_unfit_23 : decode cX8_unfit 23 = .ok (.ifCond .ne 5, 3) := by decide +kernel
theorem dX8_unfit_26 : decode cX8_unfit 26 = .ok (.iconst 5, 1) := by decide +kernel
theorem dX8_unfit_27 : decode cX8_unfit 27 = .ok (.ireturn, 1) := by decide +kernel
theorem dX8_unfit_28 : decode cX8_unfit 28 = .ok (.iconst 1, 1) := by decide +kernel
theorem dX8_unfit_29 : decode cX8_unfit 29 = .ok (.istore_n 2, 1) := by decide +kernel
theorem dX8_unfit_30 : decode cX8_unfit 30 = .ok (.iconst 0, 1) := by decide +kernel
theorem dX8_unfit_31 : decode cX8_unfit 31 = .ok (.istore_n 3, 1) := by decide +kernel
theorem dX8_unfit_32 : decode cX8_unfit 32 = .ok (.iload_n 3, 1) := by decide +kernel
theorem dX8_unfit_33 : decode cX8_unfit 33 = .ok (.aload_n 0, 1) := by decide +kernel
theorem dX8_unfit_34 : decode cX8_unfit 34 = .ok (.getfield 7, 3) := by decide +kernel
theorem dX8_unfit_37 : decode cX8_unfit 37 = .ok (.iload_n 1, 1) := by decide +kernel
theorem dX8_unfit_38 : decode cX8_unfit 38 = .ok (.iaload, 1) := by decide +kernel
theorem dX8_unfit_39 : decode cX8_unfit 39 = .ok (.if_icmp .ge 39, 3) := by decide +kernel
theorem dX8_unfit_42 : decode cX8_unfit 42 = .ok (.iload_n 2, 1) := by decide +kernel
theorem dX8_unfit_43 : decode cX8_unfit 43 = .ok (.ifCond .eq 27, 3) := by decide +kernel
theorem dX8_unfit_46 : decode cX8_unfit 46 = .ok (.aload_n 0, 1) := by decide +kernel
theorem dX8_unfit_47 : decode cX8_unfit 47 = .ok (.getfield 13, 3) := by decide +kernel
theorem dX8_unfit_50 : decode cX8_unfit 50 = .ok (.bipush 40, 2) := by decide +kernel
theorem dX8_unfit_52 : decode cX8_unfit 52 = .ok (.iload_n 1, 1) := by decide +kernel
theorem dX8_unfit_53 : decode cX8_unfit 53 = .ok (.imul, 1) := by decide +kernel
theorem dX8_unfit_54 : decode cX8_unfit 54 = .ok (.iload_n 3, 1) := by decide +kernel
theorem dX8_unfit_55 : decode cX8_unfit 55 = .ok (.iadd, 1) := by decide +kernel
theorem dX8_unfit_56 : decode cX8_unfit 56 = .ok (.iaload, 1) := by decide +kernel
theorem dX8_unfit_57 : decode cX8_unfit 57 = .ok (.iconst 0, 1) := by decide +kernel
theorem dX8_unfit_58 : decode cX8_unfit 58 = .ok (.bipush 9, 2) := by decide +kernel
theorem dX8_unfit_60 : decode cX8_unfit 60 = .ok (.invokestatic 73, 3) := by decide +kernel
theorem dX8_unfit_63 : decode cX8_unfit 63 = .ok (.ifCond .eq 7, 3) := by decide +kernel
theorem dX8_unfit_66 : decode cX8_unfit 66 = .ok (.iconst 1, 1) := by decide +kernel
theorem dX8_unfit_67 : decode cX8_unfit 67 = .ok (.goto 4, 3) := by decide +kernel
theorem dX8_unfit_70 : decode cX8_unfit 70 = .ok (.iconst 0, 1) := by decide +kernel
theorem dX8_unfit_71 : decode cX8_unfit 71 = .ok (.istore_n 2, 1) := by decide +kernel
theorem dX8_unfit_72 : decode cX8_unfit 72 = .ok (.iinc 3 1, 3) := by decide +kernel
theorem dX8_unfit_75 : decode cX8_unfit 75 = .ok (.goto (-43), 3) := by decide +kernel
theorem dX8_unfit_78 : decode cX8_unfit 78 = .ok (.iload_n 2, 1) := by decide +kernel
theorem dX8_unfit_79 : decode cX8_unfit 79 = .ok (.ifCond .eq 7, 3) := by decide +kernel
theorem dX8_unfit_82 : decode cX8_unfit 82 = .ok (.iconst 0, 1) := by decide +kernel
theorem dX8_unfit_83 : decode cX8_unfit 83 = .ok (.goto 4, 3) := by decide +kernel
theorem dX8_unfit_86 : decode cX8_unfit 86 = .ok (.iconst 3, 1) := by decide +kernel
theorem dX8_unfit_87 : decode cX8_unfit 87 = .ok (.ireturn, 1) := by decide +kernel
theorem dX8_fitting_0 : decode cX8_fitting 0 = .ok (.iconst 0, 1) := by decide +kernel
theorem dX8_fitting_1 : decode cX8_fitting 1 = .ok (.istore 5, 2) := by decide +kernel
theorem dX8_fitting_3 : decode cX8_fitting 3 = .ok (.iconst 0, 1) := by decide +kernel
theorem dX8_fitting_4 : decode cX8_fitting 4 = .ok (.istore 6, 2) := by decide +kernel
theorem dX8_fitting_6 : decode cX8_fitting 6 = .ok (.iload 6, 2) := by decide +kernel
theorem dX8_fitting_8 : decode cX8_fitting 8 = .ok (.iload_n 2, 1) := by decide +kernel
theorem dX8_fitting_9 : decode cX8_fitting 9 = .ok (.if_icmp .gt 116, 3) := by decide +kernel
theorem dX8_fitting_12 : decode cX8_fitting 12 = .ok (.aload_n 0, 1) := by decide +kernel
theorem dX8_fitting_13 : decode cX8_fitting 13 = .ok (.getfield 26, 3) := by decide +kernel
theorem dX8_fitting_16 : decode cX8_fitting 16 = .ok (.aload_n 0, 1) := by decide +kernel
theorem dX8_fitting_17 : decode cX8_fitting 17 = .ok (.getfield 32, 3) := by decide +kernel
theorem dX8_fitting_20 : decode cX8_fitting 20 = .ok (.invokestatic 163, 3) := by decide +kernel
theorem dX8_fitting_23 : decode cX8_fitting 23 = .ok (.aload_n 0, 1) := by decide +kernel
theorem dX8_fitting_24 : decode cX8_fitting 24 = .ok (.getfield 32, 3) := by decide +kernel
theorem dX8_fitting_27 : decode cX8_fitting 27 = .ok (.iload_n 1, 1) := by decide +kernel
theorem dX8_fitting_28 : decode cX8_fitting 28 = .ok (.iload_n 3, 1) := by decide +kernel
theorem dX8_fitting_29 : decode cX8_fitting 29 = .ok (.iadd, 1) := by decide +kernel
theorem dX8_fitting_30 : decode cX8_fitting 30 = .ok (.iload 6, 2) := by decide +kernel
theorem dX8_fitting_32 : decode cX8_fitting 32 = .ok (.iastore, 1) := by decide +kernel
theorem dX8_fitting_33 : decode cX8_fitting 33 = .ok (.iconst 1, 1) := by decide +kernel
theorem dX8_fitting_34 : decode cX8_fitting 34 = .ok (.istore 7, 2) := by decide +kernel
theorem dX8_fitting_36 : decode cX8_fitting 36 = .ok (.iconst 0, 1) := by decide +kernel
theorem dX8_fitting_37 : decode cX8_fitting 37 = .ok (.istore 8, 2) := by decide +kernel
theorem dX8_fitting_39 : decode cX8_fitting 39 = .ok (.iload 8, 2) := by decide +kernel
theorem dX8_fitting_41 : decode cX8_fitting 41 = .ok (.aload_n 0, 1) := by decide +kernel
