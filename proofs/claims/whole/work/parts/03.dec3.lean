theorem dX8_fitting_42 : decode cX8_fitting 42 = .ok (.getfield 7, 3) := by decide +kernel
theorem dX8_fitting_45 : decode cX8_fitting 45 = .ok (.iload 4, 2) := by decide +kernel
theorem dX8_fitting_47 : decode cX8_fitting 47 = .ok (.iaload, 1) := by decide +kernel
theorem dX8_fitting_48 : decode cX8_fitting 48 = .ok (.if_icmp .ge 53, 3) := by decide +kernel
theorem dX8_fitting_51 : decode cX8_fitting 51 = .ok (.aload_n 0, 1) := by decide +kernel
theorem dX8_fitting_52 : decode cX8_fitting 52 = .ok (.getfield 32, 3) := by decide +kernel
theorem dX8_fitting_55 : decode cX8_fitting 55 = .ok (.invokestatic 153, 3) := by decide +kernel
theorem dX8_fitting_58 : decode cX8_fitting 58 = .ok (.pop, 1) := by decide +kernel
theorem dX8_fitting_59 : decode cX8_fitting 59 = .ok (.iload 7, 2) := by decide +kernel
theorem dX8_fitting_61 : decode cX8_fitting 61 = .ok (.ifCond .eq 31, 3) := by decide +kernel
theorem dX8_fitting_64 : decode cX8_fitting 64 = .ok (.aload_n 0, 1) := by decide +kernel
theorem dX8_fitting_65 : decode cX8_fitting 65 = .ok (.getfield 32, 3) := by decide +kernel
theorem dX8_fitting_68 : decode cX8_fitting 68 = .ok (.iconst 4, 1) := by decide +kernel
theorem dX8_fitting_69 : decode cX8_fitting 69 = .ok (.iload_n 3, 1) := by decide +kernel
theorem dX8_fitting_70 : decode cX8_fitting 70 = .ok (.iadd, 1) := by decide +kernel
theorem dX8_fitting_71 : decode cX8_fitting 71 = .ok (.iaload, 1) := by decide +kernel
theorem dX8_fitting_72 : decode cX8_fitting 72 = .ok (.aload_n 0, 1) := by decide +kernel
theorem dX8_fitting_73 : decode cX8_fitting 73 = .ok (.getfield 13, 3) := by decide +kernel
theorem dX8_fitting_76 : decode cX8_fitting 76 = .ok (.bipush 40, 2) := by decide +kernel
theorem dX8_fitting_78 : decode cX8_fitting 78 = .ok (.iload 4, 2) := by decide +kernel
theorem dX8_fitting_80 : decode cX8_fitting 80 = .ok (.imul, 1) := by decide +kernel
theorem dX8_fitting_81 : decode cX8_fitting 81 = .ok (.iload 8, 2) := by decide +kernel
theorem dX8_fitting_83 : decode cX8_fitting 83 = .ok (.iadd, 1) := by decide +kernel
theorem dX8_fitting_84 : decode cX8_fitting 84 = .ok (.iaload, 1) := by decide +kernel
theorem dX8_fitting_85 : decode cX8_fitting 85 = .ok (.if_icmp .ne 7, 3) := by decide +kernel
theorem dX8_fitting_88 : decode cX8_fitting 88 = .ok (.iconst 1, 1) := by decide +kernel
theorem dX8_fitting_89 : decode cX8_fitting 89 = .ok (.goto 4, 3) := by decide +kernel
theorem dX8_fitting_92 : decode cX8_fitting 92 = .ok (.iconst 0, 1) := by decide +kernel
theorem dX8_fitting_93 : decode cX8_fitting 93 = .ok (.istore 7, 2) := by decide +kernel
theorem dX8_fitting_95 : decode cX8_fitting 95 = .ok (.iinc 8 1, 3) := by decide +kernel
theorem dX8_fitting_98 : decode cX8_fitting 98 = .ok (.goto (-59), 3) := by decide +kernel
theorem dX8_fitting_101 : decode cX8_fitting 101 = .ok (.iload 5, 2) := by decide +kernel
theorem dX8_fitting_103 : decode cX8_fitting 103 = .ok (.iload 7, 2) := by decide +kernel
theorem dX8_fitting_105 : decode cX8_fitting 105 = .ok (.ifCond .eq 10, 3) := by decide +kernel
theorem dX8_fitting_108 : decode cX8_fitting 108 = .ok (.iconst 1, 1) := by decide +kernel
theorem dX8_fitting_109 : decode cX8_fitting 109 = .ok (.iload 6, 2) := by decide +kernel
theorem dX8_fitting_111 : decode cX8_fitting 111 = .ok (.ishl, 1) := by decide +kernel
theorem dX8_fitting_112 : decode cX8_fitting 112 = .ok (.goto 4, 3) := by decide +kernel
theorem dX8_fitting_115 : decode cX8_fitting 115 = .ok (.iconst 0, 1) := by decide +kernel
theorem dX8_fitting_116 : decode cX8_fitting 116 = .ok (.ior, 1) := by decide +kernel
theorem dX8_fitting_117 : decode cX8_fitting 117 = .ok (.istore 5, 2) := by decide +kernel
theorem dX8_fitting_119 : decode cX8_fitting 119 = .ok (.iinc 6 1, 3) := by decide +kernel
theorem dX8_fitting_122 : decode cX8_fitting 122 = .ok (.goto (-116), 3) := by decide +kernel
theorem dX8_fitting_125 : decode cX8_fitting 125 = .ok (.iload 5, 2) := by decide +kernel
theorem dX8_fitting_127 : decode cX8_fitting 127 = .ok (.ireturn, 1) := by decide +kernel
theorem dX8_kinds_0 : decode cX8_kinds 0 = .ok (.aload_n 0, 1) := by decide +kernel
theorem dX8_kinds_1 : decode cX8_kinds 1 = .ok (.iload_n 1, 1) := by decide +kernel
theorem dX8_kinds_2 : decode cX8_kinds 2 = .ok (.invokevirtual 126, 3) := by decide +kernel
theorem dX8_kinds_5 : decode cX8_kinds 5 = .ok (.ifCond .eq 10, 3) := by decide +kernel
theorem dX8_kinds_8 : decode cX8_kinds 8 = .ok (.iload_n 2, 1) := by decide +kernel
theorem dX8_kinds_9 : decode cX8_kinds 9 = .ok (.invokestatic 77, 3) := by decide +kernel
theorem dX8_kinds_12 : decode cX8_kinds 12 = .ok (.ifCond .ne 5, 3) := by decide +kernel
theorem dX8_kinds_15 : decode cX8_kinds 15 = .ok (.iconst (-1), 1) := by decide +kernel
theorem dX8_kinds_16 : decode cX8_kinds 16 = .ok (.ireturn, 1) := by decide +kernel
theorem dX8_kinds_17 : decode cX8_kinds 17 = .ok (.aload_n 0, 1) := by decide +kernel
theorem dX8_kinds_18 : decode cX8_kinds 18 = .ok (.iload_n 2, 1) := by decide +kernel
theorem dX8_kinds_19 : decode cX8_kinds 19 = .ok (.invokevirtual 184, 3) := by decide +kernel
theorem dX8_kinds_22 : decode cX8_kinds 22 = .ok (.istore_n 3, 1) := by decide +kernel
theorem dX8_kinds_23 : decode cX8_kinds 23 = .ok (.iload_n 3, 1) := by decide +kernel
theorem dX8_kinds_24 : decode cX8_kinds 24 = .ok (.ifCond .eq 11, 3) := by decide +kernel
theorem dX8_kinds_27 : decode cX8_kinds 27 = .ok (.aload_n 0, 1) := by decide +kernel
theorem dX8_kinds_28 : decode cX8_kinds 28 = .ok (.iload_n 3, 1) := by decide +kernel
theorem dX8_kinds_29 : decode cX8_kinds 29 = .ok (.invokevirtual 81, 3) := by decide +kernel
theorem dX8_kinds_32 : decode cX8_kinds 32 = .ok (.goto 12, 3) := by decide +kernel
theorem dX8_kinds_35 : decode cX8_kinds 35 = .ok (.aload_n 0, 1) := by decide +kernel
theorem dX8_kinds_36 : decode cX8_kinds 36 = .ok (.bipush 19, 2) := by decide +kernel
theorem dX8_kinds_38 : decode cX8_kinds 38 = .ok (.iconst 5, 1) := by decide +kernel
theorem dX8_kinds_39 : decode cX8_kinds 39 = .ok (.iload_n 1, 1) := by decide +kernel
theorem dX8_kinds_40 : decode cX8_kinds 40 = .ok (.iload_n 2, 1) := by decide +kernel
theorem dX8_kinds_41 : decode cX8_kinds 41 = .ok (.invokevirtual 187, 3) := by decide +kernel
theorem dX8_kinds_44 : decode cX8_kinds 44 = .ok (.ireturn, 1) := by decide +kernel
theorem dX8_marks_0 : decode cX8_marks 0 = .ok (.aload_n 0, 1) := by decide +kernel
theorem dX8_marks_1 : decode cX8_marks 1 = .ok (.iload_n 1, 1) := by decide +kernel
theorem dX8_marks_2 : decode cX8_marks 2 = .ok (.invokevirtual 126, 3) := by decide +kernel
theorem dX8_marks_5 : decode cX8_marks 5 = .ok (.ifCond .eq 10, 3) := by decide +kernel
theorem dX8_marks_8 : decode cX8_marks 8 = .ok (.iload_n 2, 1) := by decide +kernel
theorem dX8_marks_9 : decode cX8_marks 9 = .ok (.invokestatic 77, 3) := by decide +kernel
theorem dX8_marks_12 : decode cX8_marks 12 = .ok (.ifCond .ne 5, 3) := by decide +kernel
theorem dX8_marks_15 : decode cX8_marks 15 = .ok (.iconst (-1), 1) := by decide +kernel
theorem dX8_marks_16 : decode cX8_marks 16 = .ok (.ireturn, 1) := by decide +kernel
theorem dX8_marks_17 : decode cX8_marks 17 = .ok (.aload_n 0, 1) := by decide +kernel
theorem dX8_marks_18 : decode cX8_marks 18 = .ok (.iload_n 2, 1) := by decide +kernel
theorem dX8_marks_19 : decode cX8_marks 19 = .ok (.invokevirtual 184, 3) := by decide +kernel
theorem dX8_marks_22 : decode cX8_marks 22 = .ok (.istore_n 3, 1) := by decide +kernel
theorem dX8_marks_23 : decode cX8_marks 23 = .ok (.iload_n 3, 1) := by decide +kernel
theorem dX8_marks_24 : decode cX8_marks 24 = .ok (.ifCond .eq 11, 3) := by decide +kernel
theorem dX8_marks_27 : decode cX8_marks 27 = .ok (.aload_n 0, 1) := by decide +kernel
theorem dX8_marks_28 : decode cX8_marks 28 = .ok (.iload_n 3, 1) := by decide +kernel
theorem dX8_marks_29 : decode cX8_marks 29 = .ok (.invokevirtual 81, 3) := by decide +kernel
theorem dX8_marks_32 : decode cX8_marks 32 = .ok (.goto 13, 3) := by decide +kernel
theorem dX8_marks_35 : decode cX8_marks 35 = .ok (.aload_n 0, 1) := by decide +kernel
theorem dX8_marks_36 : decode cX8_marks 36 = .ok (.bipush 26, 2) := by decide +kernel
theorem dX8_marks_38 : decode cX8_marks 38 = .ok (.bipush 9, 2) := by decide +kernel
theorem dX8_marks_40 : decode cX8_marks 40 = .ok (.iload_n 1, 1) := by decide +kernel
theorem dX8_marks_41 : decode cX8_marks 41 = .ok (.iload_n 2, 1) := by decide +kernel
theorem dX8_marks_42 : decode cX8_marks 42 = .ok (.invokevirtual 187, 3) := by decide +kernel
theorem dX8_marks_45 : decode cX8_marks 45 = .ok (.ireturn, 1) := by decide +kernel
theorem dX8_test_0 : decode cX8_test 0 = .ok (.aload_n 0, 1) := by decide +kernel
theorem dX8_test_1 : decode cX8_test 1 = .ok (.iload_n 1, 1) := by decide +kernel
theorem dX8_test_2 : decode cX8_test 2 = .ok (.invokevirtual 126, 3) := by decide +kernel
theorem dX8_test_5 : decode cX8_test 5 = .ok (.ifCond .eq 10, 3) := by decide +kernel
theorem dX8_test_8 : decode cX8_test 8 = .ok (.iload_n 2, 1) := by decide +kernel
theorem dX8_test_9 : decode cX8_test 9 = .ok (.invokestatic 77, 3) := by decide +kernel
theorem dX8_test_12 : decode cX8_test 12 = .ok (.ifCond .ne 5, 3) := by decide +kernel
theorem dX8_test_15 : decode cX8_test 15 = .ok (.iconst (-1), 1) := by decide +kernel
theorem dX8_test_16 : decode cX8_test 16 = .ok (.ireturn, 1) := by decide +kernel
theorem dX8_test_17 : decode cX8_test 17 = .ok (.aload_n 0, 1) := by decide +kernel
theorem dX8_test_18 : decode cX8_test 18 = .ok (.iload_n 2, 1) := by decide +kernel
theorem dX8_test_19 : decode cX8_test 19 = .ok (.invokevirtual 184, 3) := by decide +kernel
theorem dX8_test_22 : decode cX8_test 22 = .ok (.istore_n 3, 1) := by decide +kernel
theorem dX8_test_23 : decode cX8_test 23 = .ok (.iload_n 3, 1) := by decide +kernel
theorem dX8_test_24 : decode cX8_test 24 = .ok (.ifCond .eq 9, 3) := by decide +kernel
theorem dX8_test_27 : decode cX8_test 27 = .ok (.aload_n 0, 1) := by decide +kernel
theorem dX8_test_28 : decode cX8_test 28 = .ok (.iload_n 3, 1) := by decide +kernel
theorem dX8_test_29 : decode cX8_test 29 = .ok (.invokevirtual 81, 3) := by decide +kernel
theorem dX8_test_32 : decode cX8_test 32 = .ok (.ireturn, 1) := by decide +kernel
theorem dX8_test_33 : decode cX8_test 33 = .ok (.aload_n 0, 1) := by decide +kernel
theorem dX8_test_34 : decode cX8_test 34 = .ok (.bipush 19, 2) := by decide +kernel
theorem dX8_test_36 : decode cX8_test 36 = .ok (.iconst 5, 1) := by decide +kernel
theorem dX8_test_37 : decode cX8_test 37 = .ok (.iload_n 1, 1) := by decide +kernel
theorem dX8_test_38 : decode cX8_test 38 = .ok (.iload_n 2, 1) := by decide +kernel
theorem dX8_test_39 : decode cX8_test 39 = .ok (.invokevirtual 187, 3) := by decide +kernel
theorem dX8_test_42 : decode cX8_test 42 = .ok (.istore 4, 2) := by decide +kernel
theorem dX8_test_44 : decode cX8_test 44 = .ok (.iconst 0, 1) := by decide +kernel
theorem dX8_test_45 : decode cX8_test 45 = .ok (.istore 5, 2) := by decide +kernel
theorem dX8_test_47 : decode cX8_test 47 = .ok (.iload 5, 2) := by decide +kernel
theorem dX8_test_49 : decode cX8_test 49 = .ok (.iconst 5, 1) := by decide +kernel
theorem dX8_test_50 : decode cX8_test 50 = .ok (.if_icmp .gt 76, 3) := by decide +kernel
theorem dX8_test_53 : decode cX8_test 53 = .ok (.aload_n 0, 1) := by decide +kernel
theorem dX8_test_54 : decode cX8_test 54 = .ok (.getfield 26, 3) := by decide +kernel
theorem dX8_test_57 : decode cX8_test 57 = .ok (.aload_n 0, 1) := by decide +kernel
theorem dX8_test_58 : decode cX8_test 58 = .ok (.getfield 32, 3) := by decide +kernel
theorem dX8_test_61 : decode cX8_test 61 = .ok (.invokestatic 163, 3) := by decide +kernel
theorem dX8_test_64 : decode cX8_test 64 = .ok (.aload_n 0, 1) := by decide +kernel
theorem dX8_test_65 : decode cX8_test 65 = .ok (.getfield 32, 3) := by decide +kernel
theorem dX8_test_68 : decode cX8_test 68 = .ok (.bipush 19, 2) := by decide +kernel
theorem dX8_test_70 : decode cX8_test 70 = .ok (.iload_n 1, 1) := by decide +kernel
theorem dX8_test_71 : decode cX8_test 71 = .ok (.iadd, 1) := by decide +kernel
theorem dX8_test_72 : decode cX8_test 72 = .ok (.iload 5, 2) := by decide +kernel
theorem dX8_test_74 : decode cX8_test 74 = .ok (.iastore, 1) := by decide +kernel
theorem dX8_test_75 : decode cX8_test 75 = .ok (.iconst 1, 1) := by decide +kernel
theorem dX8_test_76 : decode cX8_test 76 = .ok (.istore 6, 2) := by decide +kernel
theorem dX8_test_78 : decode cX8_test 78 = .ok (.iload 6, 2) := by decide +kernel
theorem dX8_test_80 : decode cX8_test 80 = .ok (.bipush 21, 2) := by decide +kernel
theorem dX8_test_82 : decode cX8_test 82 = .ok (.if_icmp .ge 38, 3) := by decide +kernel
theorem dX8_test_85 : decode cX8_test 85 = .ok (.aload_n 0, 1) := by decide +kernel
theorem dX8_test_86 : decode cX8_test 86 = .ok (.getfield 32, 3) := by decide +kernel
theorem dX8_test_89 : decode cX8_test 89 = .ok (.invokestatic 153, 3) := by decide +kernel
theorem dX8_test_92 : decode cX8_test 92 = .ok (.pop, 1) := by decide +kernel
theorem dX8_test_93 : decode cX8_test 93 = .ok (.aload_n 0, 1) := by decide +kernel
theorem dX8_test_94 : decode cX8_test 94 = .ok (.getfield 63, 3) := by decide +kernel
theorem dX8_test_97 : decode cX8_test 97 = .ok (.bipush 21, 2) := by decide +kernel
theorem dX8_test_99 : decode cX8_test 99 = .ok (.iload 5, 2) := by decide +kernel
theorem dX8_test_101 : decode cX8_test 101 = .ok (.imul, 1) := by decide +kernel
theorem dX8_test_102 : decode cX8_test 102 = .ok (.iload 6, 2) := by decide +kernel
theorem dX8_test_104 : decode cX8_test 104 = .ok (.iadd, 1) := by decide +kernel
theorem dX8_test_105 : decode cX8_test 105 = .ok (.aload_n 0, 1) := by decide +kernel
theorem dX8_test_106 : decode cX8_test 106 = .ok (.getfield 32, 3) := by decide +kernel
theorem dX8_test_109 : decode cX8_test 109 = .ok (.iconst 4, 1) := by decide +kernel
theorem dX8_test_110 : decode cX8_test 110 = .ok (.iload_n 1, 1) := by decide +kernel
theorem dX8_test_111 : decode cX8_test 111 = .ok (.iadd, 1) := by decide +kernel
theorem dX8_test_112 : decode cX8_test 112 = .ok (.iaload, 1) := by decide +kernel
theorem dX8_test_113 : decode cX8_test 113 = .ok (.iastore, 1) := by decide +kernel
theorem dX8_test_114 : decode cX8_test 114 = .ok (.iinc 6 1, 3) := by decide +kernel
theorem dX8_test_117 : decode cX8_test 117 = .ok (.goto (-39), 3) := by decide +kernel
theorem dX8_test_120 : decode cX8_test 120 = .ok (.iinc 5 1, 3) := by decide +kernel
theorem dX8_test_123 : decode cX8_test 123 = .ok (.goto (-76), 3) := by decide +kernel
theorem dX8_test_126 : decode cX8_test 126 = .ok (.bipush (-9), 2) := by decide +kernel
theorem dX8_test_128 : decode cX8_test 128 = .ok (.istore 5, 2) := by decide +kernel
theorem dX8_test_130 : decode cX8_test 130 = .ok (.bipush 99, 2) := by decide +kernel
theorem dX8_test_132 : decode cX8_test 132 = .ok (.istore 6, 2) := by decide +kernel
theorem dX8_test_134 : decode cX8_test 134 = .ok (.iconst 1, 1) := by decide +kernel
theorem dX8_test_135 : decode cX8_test 135 = .ok (.istore 7, 2) := by decide +kernel
theorem dX8_test_137 : decode cX8_test 137 = .ok (.iload 7, 2) := by decide +kernel
theorem dX8_test_139 : decode cX8_test 139 = .ok (.bipush 21, 2) := by decide +kernel
theorem dX8_test_141 : decode cX8_test 141 = .ok (.if_icmp .ge 154, 3) := by decide +kernel
theorem dX8_test_144 : decode cX8_test 144 = .ok (.iload 4, 2) := by decide +kernel
theorem dX8_test_146 : decode cX8_test 146 = .ok (.ifCond .eq 149, 3) := by decide +kernel
theorem dX8_test_149 : decode cX8_test 149 = .ok (.iconst 0, 1) := by decide +kernel
theorem dX8_test_150 : decode cX8_test 150 = .ok (.istore 8, 2) := by decide +kernel
theorem dX8_test_152 : decode cX8_test 152 = .ok (.iload 8, 2) := by decide +kernel
theorem dX8_test_154 : decode cX8_test 154 = .ok (.bipush 10, 2) := by decide +kernel
theorem dX8_test_156 : decode cX8_test 156 = .ok (.if_icmp .ge 17, 3) := by decide +kernel
theorem dX8_test_159 : decode cX8_test 159 = .ok (.aload_n 0, 1) := by decide +kernel
theorem dX8_test_160 : decode cX8_test 160 = .ok (.getfield 60, 3) := by decide +kernel
theorem dX8_test_163 : decode cX8_test 163 = .ok (.iload 8, 2) := by decide +kernel
theorem dX8_test_165 : decode cX8_test 165 = .ok (.iconst 0, 1) := by decide +kernel
theorem dX8_test_166 : decode cX8_test 166 = .ok (.iastore, 1) := by decide +kernel
theorem dX8_test_167 : decode cX8_test 167 = .ok (.iinc 8 1, 3) := by decide +kernel
theorem dX8_test_170 : decode cX8_test 170 = .ok (.goto (-18), 3) := by decide +kernel
theorem dX8_test_173 : decode cX8_test 173 = .ok (.iconst 0, 1) := by decide +kernel
theorem dX8_test_174 : decode cX8_test 174 = .ok (.istore 8, 2) := by decide +kernel
theorem dX8_test_176 : decode cX8_test 176 = .ok (.iconst 0, 1) := by decide +kernel
theorem dX8_test_177 : decode cX8_test 177 = .ok (.istore 9, 2) := by decide +kernel
theorem dX8_test_179 : decode cX8_test 179 = .ok (.iload 9, 2) := by decide +kernel
theorem dX8_test_181 : decode cX8_test 181 = .ok (.iconst 5, 1) := by decide +kernel
theorem dX8_test_182 : decode cX8_test 182 = .ok (.if_icmp .gt 75, 3) := by decide +kernel
theorem dX8_test_185 : decode cX8_test 185 = .ok (.aload_n 0, 1) := by decide +kernel
theorem dX8_test_186 : decode cX8_test 186 = .ok (.getfield 63, 3) := by decide +kernel
theorem dX8_test_189 : decode cX8_test 189 = .ok (.bipush 21, 2) := by decide +kernel
theorem dX8_test_191 : decode cX8_test 191 = .ok (.iload 9, 2) := by decide +kernel
theorem dX8_test_193 : decode cX8_test 193 = .ok (.imul, 1) := by decide +kernel
theorem dX8_test_194 : decode cX8_test 194 = .ok (.iload 7, 2) := by decide +kernel
theorem dX8_test_196 : decode cX8_test 196 = .ok (.iadd, 1) := by decide +kernel
theorem dX8_test_197 : decode cX8_test 197 = .ok (.iaload, 1) := by decide +kernel
theorem dX8_test_198 : decode cX8_test 198 = .ok (.istore 10, 2) := by decide +kernel
theorem dX8_test_200 : decode cX8_test 200 = .ok (.aload_n 0, 1) := by decide +kernel
theorem dX8_test_201 : decode cX8_test 201 = .ok (.getfield 60, 3) := by decide +kernel
theorem dX8_test_204 : decode cX8_test 204 = .ok (.iload 10, 2) := by decide +kernel
theorem dX8_test_206 : decode cX8_test 206 = .ok (.dup2, 1) := by decide +kernel
theorem dX8_test_207 : decode cX8_test 207 = .ok (.iaload, 1) := by decide +kernel
theorem dX8_test_208 : decode cX8_test 208 = .ok (.iload 4, 2) := by decide +kernel
theorem dX8_test_210 : decode cX8_test 210 = .ok (.iload 9, 2) := by decide +kernel
theorem dX8_test_212 : decode cX8_test 212 = .ok (.invokestatic 137, 3) := by decide +kernel
theorem dX8_test_215 : decode cX8_test 215 = .ok (.ifCond .eq 7, 3) := by decide +kernel
theorem dX8_test_218 : decode cX8_test 218 = .ok (.iconst 1, 1) := by decide +kernel
theorem dX8_test_219 : decode cX8_test 219 = .ok (.goto 4, 3) := by decide +kernel
theorem dX8_test_222 : decode cX8_test 222 = .ok (.iconst 0, 1) := by decide +kernel
theorem dX8_test_223 : decode cX8_test 223 = .ok (.iadd, 1) := by decide +kernel
theorem dX8_test_224 : decode cX8_test 224 = .ok (.iastore, 1) := by decide +kernel
theorem dX8_test_225 : decode cX8_test 225 = .ok (.aload_n 0, 1) := by decide +kernel
theorem dX8_test_226 : decode cX8_test 226 = .ok (.getfield 60, 3) := by decide +kernel
theorem dX8_test_229 : decode cX8_test 229 = .ok (.iload 10, 2) := by decide +kernel
theorem dX8_test_231 : decode cX8_test 231 = .ok (.iaload, 1) := by decide +kernel
theorem dX8_test_232 : decode cX8_test 232 = .ok (.iload 8, 2) := by decide +kernel
theorem dX8_test_234 : decode cX8_test 234 = .ok (.if_icmp .le 13, 3) := by decide +kernel
theorem dX8_test_237 : decode cX8_test 237 = .ok (.aload_n 0, 1) := by decide +kernel
theorem dX8_test_238 : decode cX8_test 238 = .ok (.getfield 60, 3) := by decide +kernel
theorem dX8_test_241 : decode cX8_test 241 = .ok (.iload 10, 2) := by decide +kernel
theorem dX8_test_243 : decode cX8_test 243 = .ok (.iaload, 1) := by decide +kernel
theorem dX8_test_244 : decode cX8_test 244 = .ok (.goto 5, 3) := by decide +kernel
theorem dX8_test_247 : decode cX8_test 247 = .ok (.iload 8, 2) := by decide +kernel
theorem dX8_test_249 : decode cX8_test 249 = .ok (.istore 8, 2) := by decide +kernel
theorem dX8_test_251 : decode cX8_test 251 = .ok (.iinc 9 1, 3) := by decide +kernel
theorem dX8_test_254 : decode cX8_test 254 = .ok (.goto (-75), 3) := by decide +kernel
theorem dX8_test_257 : decode cX8_test 257 = .ok (.iload 8, 2) := by decide +kernel
theorem dX8_test_259 : decode cX8_test 259 = .ok (.iload 6, 2) := by decide +kernel
theorem dX8_test_261 : decode cX8_test 261 = .ok (.if_icmp .ge 8, 3) := by decide +kernel
theorem dX8_test_264 : decode cX8_test 264 = .ok (.iload 7, 2) := by decide +kernel
theorem dX8_test_266 : decode cX8_test 266 = .ok (.goto 5, 3) := by decide +kernel
theorem dX8_test_269 : decode cX8_test 269 = .ok (.iload 5, 2) := by decide +kernel
theorem dX8_test_271 : decode cX8_test 271 = .ok (.istore 5, 2) := by decide +kernel
theorem dX8_test_273 : decode cX8_test 273 = .ok (.iload 8, 2) := by decide +kernel
theorem dX8_test_275 : decode cX8_test 275 = .ok (.iload 6, 2) := by decide +kernel
theorem dX8_test_277 : decode cX8_test 277 = .ok (.if_icmp .ge 8, 3) := by decide +kernel
theorem dX8_test_280 : decode cX8_test 280 = .ok (.iload 8, 2) := by decide +kernel
theorem dX8_test_282 : decode cX8_test 282 = .ok (.goto 5, 3) := by decide +kernel
theorem dX8_test_285 : decode cX8_test 285 = .ok (.iload 6, 2) := by decide +kernel
theorem dX8_test_287 : decode cX8_test 287 = .ok (.istore 6, 2) := by decide +kernel
theorem dX8_test_289 : decode cX8_test 289 = .ok (.iinc 7 1, 3) := by decide +kernel
theorem dX8_test_292 : decode cX8_test 292 = .ok (.goto (-155), 3) := by decide +kernel
theorem dX8_test_295 : decode cX8_test 295 = .ok (.aload_n 0, 1) := by decide +kernel
theorem dX8_test_296 : decode cX8_test 296 = .ok (.iload 5, 2) := by decide +kernel
theorem dX8_test_298 : decode cX8_test 298 = .ok (.bipush (-9), 2) := by decide +kernel
theorem dX8_test_300 : decode cX8_test 300 = .ok (.if_icmp .ne 10, 3) := by decide +kernel
theorem dX8_test_303 : decode cX8_test 303 = .ok (.aload_n 0, 1) := by decide +kernel
theorem dX8_test_304 : decode cX8_test 304 = .ok (.getfield 70, 3) := by decide +kernel
theorem dX8_test_307 : decode cX8_test 307 = .ok (.goto 5, 3) := by decide +kernel
theorem dX8_test_310 : decode cX8_test 310 = .ok (.iload 6, 2) := by decide +kernel
theorem dX8_test_312 : decode cX8_test 312 = .ok (.putfield 70, 3) := by decide +kernel
theorem dX8_test_315 : decode cX8_test 315 = .ok (.iload 5, 2) := by decide +kernel
theorem dX8_test_317 : decode cX8_test 317 = .ok (.ireturn, 1) := by decide +kernel
theorem dX8_late_0 : decode cX8_late 0 = .ok (.aload_n 1, 1) := by decide +kernel
theorem dX8_late_1 : decode cX8_late 1 = .ok (.aload_n 0, 1) := by decide +kernel
theorem dX8_late_2 : decode cX8_late 2 = .ok (.getfield 32, 3) := by decide +kernel
theorem dX8_late_5 : decode cX8_late 5 = .ok (.invokestatic 163, 3) := by decide +kernel
theorem dX8_late_8 : decode cX8_late 8 = .ok (.aload_n 0, 1) := by decide +kernel
theorem dX8_late_9 : decode cX8_late 9 = .ok (.getfield 32, 3) := by decide +kernel
theorem dX8_late_12 : decode cX8_late 12 = .ok (.invokestatic 174, 3) := by decide +kernel
theorem dX8_late_15 : decode cX8_late 15 = .ok (.istore_n 2, 1) := by decide +kernel
theorem dX8_late_16 : decode cX8_late 16 = .ok (.iload_n 2, 1) := by decide +kernel
theorem dX8_late_17 : decode cX8_late 17 = .ok (.bipush (-9), 2) := by decide +kernel
theorem dX8_late_19 : decode cX8_late 19 = .ok (.if_icmp .ne 8, 3) := by decide +kernel
theorem dX8_late_22 : decode cX8_late 22 = .ok (.bipush 61, 2) := by decide +kernel
theorem dX8_late_24 : decode cX8_late 24 = .ok (.goto 4, 3) := by decide +kernel
theorem dX8_late_27 : decode cX8_late 27 = .ok (.iload_n 2, 1) := by decide +kernel
theorem dX8_late_28 : decode cX8_late 28 = .ok (.ireturn, 1) := by decide +kernel
theorem dX8_duel_0 : decode cX8_duel 0 = .ok (.iload_n 1, 1) := by decide +kernel
theorem dX8_duel_1 : decode cX8_duel 1 = .ok (.iconst 0, 1) := by decide +kernel
theorem dX8_duel_2 : decode cX8_duel 2 = .ok (.iconst 2, 1) := by decide +kernel
theorem dX8_duel_3 : decode cX8_duel 3 = .ok (.invokestatic 73, 3) := by decide +kernel
theorem dX8_duel_6 : decode cX8_duel 6 = .ok (.ifCond .ne 5, 3) := by decide +kernel
theorem dX8_duel_9 : decode cX8_duel 9 = .ok (.iconst (-1), 1) := by decide +kernel
theorem dX8_duel_10 : decode cX8_duel 10 = .ok (.ireturn, 1) := by decide +kernel
theorem dX8_duel_11 : decode cX8_duel 11 = .ok (.aload_n 0, 1) := by decide +kernel
theorem dX8_duel_12 : decode cX8_duel 12 = .ok (.getfield 26, 3) := by decide +kernel
theorem dX8_duel_15 : decode cX8_duel 15 = .ok (.bipush 18, 2) := by decide +kernel
theorem dX8_duel_17 : decode cX8_duel 17 = .ok (.iaload, 1) := by decide +kernel
theorem dX8_duel_18 : decode cX8_duel 18 = .ok (.ifCond .ne 6, 3) := by decide +kernel
theorem dX8_duel_21 : decode cX8_duel 21 = .ok (.bipush (-4), 2) := by decide +kernel
theorem dX8_duel_23 : decode cX8_duel 23 = .ok (.ireturn, 1) := by decide +kernel
theorem dX8_duel_24 : decode cX8_duel 24 = .ok (.aload_n 0, 1) := by decide +kernel
theorem dX8_duel_25 : decode cX8_duel 25 = .ok (.getfield 26, 3) := by decide +kernel
theorem dX8_duel_28 : decode cX8_duel 28 = .ok (.aload_n 0, 1) := by decide +kernel
theorem dX8_duel_29 : decode cX8_duel 29 = .ok (.getfield 35, 3) := by decide +kernel
theorem dX8_duel_32 : decode cX8_duel 32 = .ok (.invokestatic 163, 3) := by decide +kernel
theorem dX8_duel_35 : decode cX8_duel 35 = .ok (.iload_n 1, 1) := by decide +kernel
theorem dX8_duel_36 : decode cX8_duel 36 = .ok (.ifCond .ne 12, 3) := by decide +kernel
theorem dX8_duel_39 : decode cX8_duel 39 = .ok (.aload_n 0, 1) := by decide +kernel
theorem dX8_duel_40 : decode cX8_duel 40 = .ok (.aload_n 0, 1) := by decide +kernel
theorem dX8_duel_41 : decode cX8_duel 41 = .ok (.getfield 35, 3) := by decide +kernel
theorem dX8_duel_44 : decode cX8_duel 44 = .ok (.invokevirtual 190, 3) := by decide +kernel
theorem dX8_duel_47 : decode cX8_duel 47 = .ok (.ireturn, 1) := by decide +kernel
theorem dX8_duel_48 : decode cX8_duel 48 = .ok (.iconst (-1), 1) := by decide +kernel
theorem dX8_duel_49 : decode cX8_duel 49 = .ok (.istore_n 2, 1) := by decide +kernel
theorem dX8_duel_50 : decode cX8_duel 50 = .ok (.iconst 0, 1) := by decide +kernel
theorem dX8_duel_51 : decode cX8_duel 51 = .ok (.istore_n 3, 1) := by decide +kernel
theorem dX8_duel_52 : decode cX8_duel 52 = .ok (.iload_n 3, 1) := by decide +kernel
theorem dX8_duel_53 : decode cX8_duel 53 = .ok (.bipush 10, 2) := by decide +kernel
theorem dX8_duel_55 : decode cX8_duel 55 = .ok (.aload_n 0, 1) := by decide +kernel
theorem dX8_duel_56 : decode cX8_duel 56 = .ok (.getfield 26, 3) := by decide +kernel
theorem dX8_duel_59 : decode cX8_duel 59 = .ok (.bipush 18, 2) := by decide +kernel
theorem dX8_duel_61 : decode cX8_duel 61 = .ok (.iaload, 1) := by decide +kernel
theorem dX8_duel_62 : decode cX8_duel 62 = .ok (.imul, 1) := by decide +kernel
theorem dX8_duel_63 : decode cX8_duel 63 = .ok (.if_icmp .ge 84, 3) := by decide +kernel
theorem dX8_duel_66 : decode cX8_duel 66 = .ok (.iload_n 3, 1) := by decide +kernel
theorem dX8_duel_67 : decode cX8_duel 67 = .ok (.bipush 10, 2) := by decide +kernel
theorem dX8_duel_69 : decode cX8_duel 69 = .ok (.idiv, 1) := by decide +kernel
theorem dX8_duel_70 : decode cX8_duel 70 = .ok (.istore 4, 2) := by decide +kernel
theorem dX8_duel_72 : decode cX8_duel 72 = .ok (.aload_n 0, 1) := by decide +kernel
theorem dX8_duel_73 : decode cX8_duel 73 = .ok (.getfield 35, 3) := by decide +kernel
theorem dX8_duel_76 : decode cX8_duel 76 = .ok (.bipush 11, 2) := by decide +kernel
theorem dX8_duel_78 : decode cX8_duel 78 = .ok (.iload 4, 2) := by decide +kernel
theorem dX8_duel_80 : decode cX8_duel 80 = .ok (.iadd, 1) := by decide +kernel
theorem dX8_duel_81 : decode cX8_duel 81 = .ok (.iload_n 3, 1) := by decide +kernel
theorem dX8_duel_82 : decode cX8_duel 82 = .ok (.bipush 10, 2) := by decide +kernel
theorem dX8_duel_84 : decode cX8_duel 84 = .ok (.irem, 1) := by decide +kernel
theorem dX8_duel_85 : decode cX8_duel 85 = .ok (.iastore, 1) := by decide +kernel
theorem dX8_duel_86 : decode cX8_duel 86 = .ok (.iload_n 1, 1) := by decide +kernel
theorem dX8_duel_87 : decode cX8_duel 87 = .ok (.iconst 1, 1) := by decide +kernel
theorem dX8_duel_88 : decode cX8_duel 88 = .ok (.if_icmp .ne 14, 3) := by decide +kernel
theorem dX8_duel_91 : decode cX8_duel 91 = .ok (.aload_n 0, 1) := by decide +kernel
theorem dX8_duel_92 : decode cX8_duel 92 = .ok (.aload_n 0, 1) := by decide +kernel
theorem dX8_duel_93 : decode cX8_duel 93 = .ok (.getfield 35, 3) := by decide +kernel
theorem dX8_duel_96 : decode cX8_duel 96 = .ok (.invokevirtual 190, 3) := by decide +kernel
theorem dX8_duel_99 : decode cX8_duel 99 = .ok (.goto 7, 3) := by decide +kernel
theorem dX8_duel_102 : decode cX8_duel 102 = .ok (.aload_n 0, 1) := by decide +kernel
theorem dX8_duel_103 : decode cX8_duel 103 = .ok (.invokevirtual 193, 3) := by decide +kernel
theorem dX8_duel_106 : decode cX8_duel 106 = .ok (.istore 5, 2) := by decide +kernel
theorem dX8_duel_108 : decode cX8_duel 108 = .ok (.iload 5, 2) := by decide +kernel
theorem dX8_duel_110 : decode cX8_duel 110 = .ok (.iload_n 2, 1) := by decide +kernel
theorem dX8_duel_111 : decode cX8_duel 111 = .ok (.if_icmp .le 8, 3) := by decide +kernel
theorem dX8_duel_114 : decode cX8_duel 114 = .ok (.iload 5, 2) := by decide +kernel
theorem dX8_duel_116 : decode cX8_duel 116 = .ok (.goto 4, 3) := by decide +kernel
theorem dX8_duel_119 : decode cX8_duel 119 = .ok (.iload_n 2, 1) := by decide +kernel
theorem dX8_duel_120 : decode cX8_duel 120 = .ok (.istore_n 2, 1) := by decide +kernel
theorem dX8_duel_121 : decode cX8_duel 121 = .ok (.aload_n 0, 1) := by decide +kernel
theorem dX8_duel_122 : decode cX8_duel 122 = .ok (.getfield 35, 3) := by decide +kernel
theorem dX8_duel_125 : decode cX8_duel 125 = .ok (.bipush 11, 2) := by decide +kernel
theorem dX8_duel_127 : decode cX8_duel 127 = .ok (.iload 4, 2) := by decide +kernel
theorem dX8_duel_129 : decode cX8_duel 129 = .ok (.iadd, 1) := by decide +kernel
theorem dX8_duel_130 : decode cX8_duel 130 = .ok (.aload_n 0, 1) := by decide +kernel
theorem dX8_duel_131 : decode cX8_duel 131 = .ok (.getfield 26, 3) := by decide +kernel
theorem dX8_duel_134 : decode cX8_duel 134 = .ok (.bipush 11, 2) := by decide +kernel
theorem dX8_duel_136 : decode cX8_duel 136 = .ok (.iload 4, 2) := by decide +kernel
theorem dX8_duel_138 : decode cX8_duel 138 = .ok (.iadd, 1) := by decide +kernel
theorem dX8_duel_139 : decode cX8_duel 139 = .ok (.iaload, 1) := by decide +kernel
theorem dX8_duel_140 : decode cX8_duel 140 = .ok (.iastore, 1) := by decide +kernel
theorem dX8_duel_141 : decode cX8_duel 141 = .ok (.iinc 3 1, 3) := by decide +kernel
theorem dX8_duel_144 : decode cX8_duel 144 = .ok (.goto (-92), 3) := by decide +kernel
theorem dX8_duel_147 : decode cX8_duel 147 = .ok (.iload_n 2, 1) := by decide +kernel
theorem dX8_duel_148 : decode cX8_duel 148 = .ok (.ireturn, 1) := by decide +kernel
theorem dX8_answered_0 : decode cX8_answered 0 = .ok (.bipush 99, 2) := by decide +kernel
theorem dX8_answered_2 : decode cX8_answered 2 = .ok (.istore_n 1, 1) := by decide +kernel
theorem dX8_answered_3 : decode cX8_answered 3 = .ok (.iconst 0, 1) := by decide +kernel
theorem dX8_answered_4 : decode cX8_answered 4 = .ok (.istore_n 2, 1) := by decide +kernel
theorem dX8_answered_5 : decode cX8_answered 5 = .ok (.iload_n 2, 1) := by decide +kernel
theorem dX8_answered_6 : decode cX8_answered 6 = .ok (.bipush 10, 2) := by decide +kernel
theorem dX8_answered_8 : decode cX8_answered 8 = .ok (.aload_n 0, 1) := by decide +kernel
theorem dX8_answered_9 : decode cX8_answered 9 = .ok (.getfield 26, 3) := by decide +kernel
theorem dX8_answered_12 : decode cX8_answered 12 = .ok (.bipush 18, 2) := by decide +kernel
theorem dX8_answered_14 : decode cX8_answered 14 = .ok (.iaload, 1) := by decide +kernel
theorem dX8_answered_15 : decode cX8_answered 15 = .ok (.imul, 1) := by decide +kernel
theorem dX8_answered_16 : decode cX8_answered 16 = .ok (.if_icmp .ge 72, 3) := by decide +kernel
theorem dX8_answered_19 : decode cX8_answered 19 = .ok (.iload_n 2, 1) := by decide +kernel
theorem dX8_answered_20 : decode cX8_answered 20 = .ok (.bipush 10, 2) := by decide +kernel
theorem dX8_answered_22 : decode cX8_answered 22 = .ok (.idiv, 1) := by decide +kernel
theorem dX8_answered_23 : decode cX8_answered 23 = .ok (.istore_n 3, 1) := by decide +kernel
theorem dX8_answered_24 : decode cX8_answered 24 = .ok (.aload_n 0, 1) := by decide +kernel
theorem dX8_answered_25 : decode cX8_answered 25 = .ok (.getfield 35, 3) := by decide +kernel
theorem dX8_answered_28 : decode cX8_answered 28 = .ok (.bipush 11, 2) := by decide +kernel
theorem dX8_answered_30 : decode cX8_answered 30 = .ok (.iload_n 3, 1) := by decide +kernel
theorem dX8_answered_31 : decode cX8_answered 31 = .ok (.iadd, 1) := by decide +kernel
theorem dX8_answered_32 : decode cX8_answered 32 = .ok (.iaload, 1) := by decide +kernel
theorem dX8_answered_33 : decode cX8_answered 33 = .ok (.istore 4, 2) := by decide +kernel
theorem dX8_answered_35 : decode cX8_answered 35 = .ok (.aload_n 0, 1) := by decide +kernel
theorem dX8_answered_36 : decode cX8_answered 36 = .ok (.getfield 35, 3) := by decide +kernel
theorem dX8_answered_39 : decode cX8_answered 39 = .ok (.bipush 11, 2) := by decide +kernel
theorem dX8_answered_41 : decode cX8_answered 41 = .ok (.iload_n 3, 1) := by decide +kernel
theorem dX8_answered_42 : decode cX8_answered 42 = .ok (.iadd, 1) := by decide +kernel
theorem dX8_answered_43 : decode cX8_answered 43 = .ok (.iload_n 2, 1) := by decide +kernel
theorem dX8_answered_44 : decode cX8_answered 44 = .ok (.bipush 10, 2) := by decide +kernel
theorem dX8_answered_46 : decode cX8_answered 46 = .ok (.irem, 1) := by decide +kernel
theorem dX8_answered_47 : decode cX8_answered 47 = .ok (.iastore, 1) := by decide +kernel
theorem dX8_answered_48 : decode cX8_answered 48 = .ok (.aload_n 0, 1) := by decide +kernel
theorem dX8_answered_49 : decode cX8_answered 49 = .ok (.aload_n 0, 1) := by decide +kernel
theorem dX8_answered_50 : decode cX8_answered 50 = .ok (.getfield 35, 3) := by decide +kernel
theorem dX8_answered_53 : decode cX8_answered 53 = .ok (.invokevirtual 190, 3) := by decide +kernel
theorem dX8_answered_56 : decode cX8_answered 56 = .ok (.istore 5, 2) := by decide +kernel
theorem dX8_answered_58 : decode cX8_answered 58 = .ok (.iload 5, 2) := by decide +kernel
theorem dX8_answered_60 : decode cX8_answered 60 = .ok (.iload_n 1, 1) := by decide +kernel
theorem dX8_answered_61 : decode cX8_answered 61 = .ok (.if_icmp .ge 8, 3) := by decide +kernel
theorem dX8_answered_64 : decode cX8_answered 64 = .ok (.iload 5, 2) := by decide +kernel
theorem dX8_answered_66 : decode cX8_answered 66 = .ok (.goto 4, 3) := by decide +kernel
theorem dX8_answered_69 : decode cX8_answered 69 = .ok (.iload_n 1, 1) := by decide +kernel
theorem dX8_answered_70 : decode cX8_answered 70 = .ok (.istore_n 1, 1) := by decide +kernel
theorem dX8_answered_71 : decode cX8_answered 71 = .ok (.aload_n 0, 1) := by decide +kernel
theorem dX8_answered_72 : decode cX8_answered 72 = .ok (.getfield 35, 3) := by decide +kernel
theorem dX8_answered_75 : decode cX8_answered 75 = .ok (.bipush 11, 2) := by decide +kernel
theorem dX8_answered_77 : decode cX8_answered 77 = .ok (.iload_n 3, 1) := by decide +kernel
theorem dX8_answered_78 : decode cX8_answered 78 = .ok (.iadd, 1) := by decide +kernel
theorem dX8_answered_79 : decode cX8_answered 79 = .ok (.iload 4, 2) := by decide +kernel
theorem dX8_answered_81 : decode cX8_answered 81 = .ok (.iastore, 1) := by decide +kernel
theorem dX8_answered_82 : decode cX8_answered 82 = .ok (.iinc 2 1, 3) := by decide +kernel
theorem dX8_answered_85 : decode cX8_answered 85 = .ok (.goto (-80), 3) := by decide +kernel
theorem dX8_answered_88 : decode cX8_answered 88 = .ok (.iload_n 1, 1) := by decide +kernel
theorem dX8_answered_89 : decode cX8_answered 89 = .ok (.ireturn, 1) := by decide +kernel
theorem dX8_lowest_0 : decode cX8_lowest 0 = .ok (.lload_n 1, 1) := by decide +kernel
theorem dX8_lowest_1 : decode cX8_lowest 1 = .ok (.lstore 5, 2) := by decide +kernel
theorem dX8_lowest_3 : decode cX8_lowest 3 = .ok (.lload_n 3, 1) := by decide +kernel
theorem dX8_lowest_4 : decode cX8_lowest 4 = .ok (.lstore 7, 2) := by decide +kernel
theorem dX8_lowest_6 : decode cX8_lowest 6 = .ok (.lload 7, 2) := by decide +kernel
theorem dX8_lowest_8 : decode cX8_lowest 8 = .ok (.lconst 0, 1) := by decide +kernel
theorem dX8_lowest_9 : decode cX8_lowest 9 = .ok (.lcmp, 1) := by decide +kernel
theorem dX8_lowest_10 : decode cX8_lowest 10 = .ok (.ifCond .le 21, 3) := by decide +kernel
theorem dX8_lowest_13 : decode cX8_lowest 13 = .ok (.lload 5, 2) := by decide +kernel
theorem dX8_lowest_15 : decode cX8_lowest 15 = .ok (.lload 7, 2) := by decide +kernel
theorem dX8_lowest_17 : decode cX8_lowest 17 = .ok (.lrem, 1) := by decide +kernel
theorem dX8_lowest_18 : decode cX8_lowest 18 = .ok (.lstore 9, 2) := by decide +kernel
theorem dX8_lowest_20 : decode cX8_lowest 20 = .ok (.lload 7, 2) := by decide +kernel
theorem dX8_lowest_22 : decode cX8_lowest 22 = .ok (.lstore 5, 2) := by decide +kernel
theorem dX8_lowest_24 : decode cX8_lowest 24 = .ok (.lload 9, 2) := by decide +kernel
theorem dX8_lowest_26 : decode cX8_lowest 26 = .ok (.lstore 7, 2) := by decide +kernel
theorem dX8_lowest_28 : decode cX8_lowest 28 = .ok (.goto (-22), 3) := by decide +kernel
theorem dX8_lowest_31 : decode cX8_lowest 31 = .ok (.aload_n 0, 1) := by decide +kernel
theorem dX8_lowest_32 : decode cX8_lowest 32 = .ok (.lload_n 1, 1) := by decide +kernel
theorem dX8_lowest_33 : decode cX8_lowest 33 = .ok (.lload 5, 2) := by decide +kernel
theorem dX8_lowest_35 : decode cX8_lowest 35 = .ok (.ldiv, 1) := by decide +kernel
theorem dX8_lowest_36 : decode cX8_lowest 36 = .ok (.putfield 197, 3) := by decide +kernel
theorem dX8_lowest_39 : decode cX8_lowest 39 = .ok (.aload_n 0, 1) := by decide +kernel
theorem dX8_lowest_40 : decode cX8_lowest 40 = .ok (.lload_n 3, 1) := by decide +kernel
theorem dX8_lowest_41 : decode cX8_lowest 41 = .ok (.lload 5, 2) := by decide +kernel
theorem dX8_lowest_43 : decode cX8_lowest 43 = .ok (.ldiv, 1) := by decide +kernel
theorem dX8_lowest_44 : decode cX8_lowest 44 = .ok (.putfield 50, 3) := by decide +kernel
theorem dX8_lowest_47 : decode cX8_lowest 47 = .ok (.return_, 1) := by decide +kernel
theorem dX8_chances_0 : decode cX8_chances 0 = .ok (.lconst 0, 1) := by decide +kernel
theorem dX8_chances_1 : decode cX8_chances 1 = .ok (.lstore 4, 2) := by decide +kernel
theorem dX8_chances_3 : decode cX8_chances 3 = .ok (.lconst 1, 1) := by decide +kernel
theorem dX8_chances_4 : decode cX8_chances 4 = .ok (.lstore 6, 2) := by decide +kernel
theorem dX8_chances_6 : decode cX8_chances 6 = .ok (.iconst 0, 1) := by decide +kernel
theorem dX8_chances_7 : decode cX8_chances 7 = .ok (.istore 8, 2) := by decide +kernel
theorem dX8_chances_9 : decode cX8_chances 9 = .ok (.iload 8, 2) := by decide +kernel
theorem dX8_chances_11 : decode cX8_chances 11 = .ok (.aload_n 0, 1) := by decide +kernel
theorem dX8_chances_12 : decode cX8_chances 12 = .ok (.getfield 26, 3) := by decide +kernel
theorem dX8_chances_15 : decode cX8_chances 15 = .ok (.bipush 18, 2) := by decide +kernel
theorem dX8_chances_17 : decode cX8_chances 17 = .ok (.iaload, 1) := by decide +kernel
theorem dX8_chances_18 : decode cX8_chances 18 = .ok (.if_icmp .ge 35, 3) := by decide +kernel
theorem dX8_chances_21 : decode cX8_chances 21 = .ok (.lload 6, 2) := by decide +kernel
theorem dX8_chances_23 : decode cX8_chances 23 = .ok (.aload_n 0, 1) := by decide +kernel
theorem dX8_chances_24 : decode cX8_chances 24 = .ok (.getfield 26, 3) := by decide +kernel
theorem dX8_chances_27 : decode cX8_chances 27 = .ok (.iconst 3, 1) := by decide +kernel
theorem dX8_chances_28 : decode cX8_chances 28 = .ok (.iaload, 1) := by decide +kernel
theorem dX8_chances_29 : decode cX8_chances 29 = .ok (.iload 8, 2) := by decide +kernel
theorem dX8_chances_31 : decode cX8_chances 31 = .ok (.invokestatic 137, 3) := by decide +kernel
theorem dX8_chances_34 : decode cX8_chances 34 = .ok (.ifCond .eq 7, 3) := by decide +kernel
theorem dX8_chances_37 : decode cX8_chances 37 = .ok (.lconst 1, 1) := by decide +kernel
theorem dX8_chances_38 : decode cX8_chances 38 = .ok (.goto 6, 3) := by decide +kernel
theorem dX8_chances_41 : decode cX8_chances 41 = .ok (.ldc2_w 200, 3) := by decide +kernel
theorem dX8_chances_44 : decode cX8_chances 44 = .ok (.lmul, 1) := by decide +kernel
theorem dX8_chances_45 : decode cX8_chances 45 = .ok (.lstore 6, 2) := by decide +kernel
theorem dX8_chances_47 : decode cX8_chances 47 = .ok (.iinc 8 1, 3) := by decide +kernel
theorem dX8_chances_50 : decode cX8_chances 50 = .ok (.goto (-41), 3) := by decide +kernel
theorem dX8_chances_53 : decode cX8_chances 53 = .ok (.iconst 0, 1) := by decide +kernel
theorem dX8_chances_54 : decode cX8_chances 54 = .ok (.istore 8, 2) := by decide +kernel
theorem dX8_chances_56 : decode cX8_chances 56 = .ok (.iload 8, 2) := by decide +kernel
theorem dX8_chances_58 : decode cX8_chances 58 = .ok (.iconst 1, 1) := by decide +kernel
theorem dX8_chances_59 : decode cX8_chances 59 = .ok (.aload_n 0, 1) := by decide +kernel
theorem dX8_chances_60 : decode cX8_chances 60 = .ok (.getfield 26, 3) := by decide +kernel
theorem dX8_chances_63 : decode cX8_chances 63 = .ok (.bipush 18, 2) := by decide +kernel
theorem dX8_chances_65 : decode cX8_chances 65 = .ok (.iaload, 1) := by decide +kernel
theorem dX8_chances_66 : decode cX8_chances 66 = .ok (.ishl, 1) := by decide +kernel
theorem dX8_chances_67 : decode cX8_chances 67 = .ok (.if_icmp .ge 175, 3) := by decide +kernel
theorem dX8_chances_70 : decode cX8_chances 70 = .ok (.iload 8, 2) := by decide +kernel
theorem dX8_chances_72 : decode cX8_chances 72 = .ok (.aload_n 0, 1) := by decide +kernel
theorem dX8_chances_73 : decode cX8_chances 73 = .ok (.getfield 26, 3) := by decide +kernel
theorem dX8_chances_76 : decode cX8_chances 76 = .ok (.iconst 3, 1) := by decide +kernel
theorem dX8_chances_77 : decode cX8_chances 77 = .ok (.iaload, 1) := by decide +kernel
theorem dX8_chances_78 : decode cX8_chances 78 = .ok (.iand, 1) := by decide +kernel
theorem dX8_chances_79 : decode cX8_chances 79 = .ok (.ifCond .ne 157, 3) := by decide +kernel
theorem dX8_chances_82 : decode cX8_chances 82 = .ok (.lconst 1, 1) := by decide +kernel
theorem dX8_chances_83 : decode cX8_chances 83 = .ok (.lstore 9, 2) := by decide +kernel
theorem dX8_chances_85 : decode cX8_chances 85 = .ok (.iconst 0, 1) := by decide +kernel
theorem dX8_chances_86 : decode cX8_chances 86 = .ok (.istore 11, 2) := by decide +kernel
theorem dX8_chances_88 : decode cX8_chances 88 = .ok (.iload 11, 2) := by decide +kernel
theorem dX8_chances_90 : decode cX8_chances 90 = .ok (.aload_n 0, 1) := by decide +kernel
theorem dX8_chances_91 : decode cX8_chances 91 = .ok (.getfield 26, 3) := by decide +kernel
theorem dX8_chances_94 : decode cX8_chances 94 = .ok (.bipush 18, 2) := by decide +kernel
theorem dX8_chances_96 : decode cX8_chances 96 = .ok (.iaload, 1) := by decide +kernel
theorem dX8_chances_97 : decode cX8_chances 97 = .ok (.if_icmp .ge 52, 3) := by decide +kernel
theorem dX8_chances_100 : decode cX8_chances 100 = .ok (.lload 9, 2) := by decide +kernel
theorem dX8_chances_102 : decode cX8_chances 102 = .ok (.aload_n 0, 1) := by decide +kernel
theorem dX8_chances_103 : decode cX8_chances 103 = .ok (.getfield 26, 3) := by decide +kernel
theorem dX8_chances_106 : decode cX8_chances 106 = .ok (.iconst 3, 1) := by decide +kernel
theorem dX8_chances_107 : decode cX8_chances 107 = .ok (.iaload, 1) := by decide +kernel
theorem dX8_chances_108 : decode cX8_chances 108 = .ok (.iload 11, 2) := by decide +kernel
theorem dX8_chances_110 : decode cX8_chances 110 = .ok (.invokestatic 137, 3) := by decide +kernel
theorem dX8_chances_113 : decode cX8_chances 113 = .ok (.ifCond .eq 7, 3) := by decide +kernel
theorem dX8_chances_116 : decode cX8_chances 116 = .ok (.lconst 1, 1) := by decide +kernel
theorem dX8_chances_117 : decode cX8_chances 117 = .ok (.goto 23, 3) := by decide +kernel
theorem dX8_chances_120 : decode cX8_chances 120 = .ok (.iload 8, 2) := by decide +kernel
theorem dX8_chances_122 : decode cX8_chances 122 = .ok (.iload 11, 2) := by decide +kernel
theorem dX8_chances_124 : decode cX8_chances 124 = .ok (.invokestatic 137, 3) := by decide +kernel
theorem dX8_chances_127 : decode cX8_chances 127 = .ok (.ifCond .eq 8, 3) := by decide +kernel
theorem dX8_chances_130 : decode cX8_chances 130 = .ok (.iload_n 3, 1) := by decide +kernel
theorem dX8_chances_131 : decode cX8_chances 131 = .ok (.i2l, 1) := by decide +kernel
theorem dX8_chances_132 : decode cX8_chances 132 = .ok (.goto 8, 3) := by decide +kernel
theorem dX8_chances_135 : decode cX8_chances 135 = .ok (.bipush 12, 2) := by decide +kernel
theorem dX8_chances_137 : decode cX8_chances 137 = .ok (.iload_n 3, 1) := by decide +kernel
theorem dX8_chances_138 : decode cX8_chances 138 = .ok (.isub, 1) := by decide +kernel
theorem dX8_chances_139 : decode cX8_chances 139 = .ok (.i2l, 1) := by decide +kernel
theorem dX8_chances_140 : decode cX8_chances 140 = .ok (.lmul, 1) := by decide +kernel
theorem dX8_chances_141 : decode cX8_chances 141 = .ok (.lstore 9, 2) := by decide +kernel
theorem dX8_chances_143 : decode cX8_chances 143 = .ok (.iinc 11 1, 3) := by decide +kernel
theorem dX8_chances_146 : decode cX8_chances 146 = .ok (.goto (-58), 3) := by decide +kernel
theorem dX8_chances_149 : decode cX8_chances 149 = .ok (.aload_n 0, 1) := by decide +kernel
theorem dX8_chances_150 : decode cX8_chances 150 = .ok (.getfield 26, 3) := by decide +kernel
theorem dX8_chances_153 : decode cX8_chances 153 = .ok (.aload_n 0, 1) := by decide +kernel
theorem dX8_chances_154 : decode cX8_chances 154 = .ok (.getfield 32, 3) := by decide +kernel
theorem dX8_chances_157 : decode cX8_chances 157 = .ok (.invokestatic 163, 3) := by decide +kernel
theorem dX8_chances_160 : decode cX8_chances 160 = .ok (.aload_n 0, 1) := by decide +kernel
theorem dX8_chances_161 : decode cX8_chances 161 = .ok (.getfield 32, 3) := by decide +kernel
theorem dX8_chances_164 : decode cX8_chances 164 = .ok (.iconst 3, 1) := by decide +kernel
theorem dX8_chances_165 : decode cX8_chances 165 = .ok (.dup2, 1) := by decide +kernel
theorem dX8_chances_166 : decode cX8_chances 166 = .ok (.iaload, 1) := by decide +kernel
theorem dX8_chances_167 : decode cX8_chances 167 = .ok (.iload 8, 2) := by decide +kernel
theorem dX8_chances_169 : decode cX8_chances 169 = .ok (.ior, 1) := by decide +kernel
theorem dX8_chances_170 : decode cX8_chances 170 = .ok (.iastore, 1) := by decide +kernel
theorem dX8_chances_171 : decode cX8_chances 171 = .ok (.iconst 0, 1) := by decide +kernel
theorem dX8_chances_172 : decode cX8_chances 172 = .ok (.istore 11, 2) := by decide +kernel
theorem dX8_chances_174 : decode cX8_chances 174 = .ok (.iload 11, 2) := by decide +kernel
theorem dX8_chances_176 : decode cX8_chances 176 = .ok (.iload_n 2, 1) := by decide +kernel
theorem dX8_chances_177 : decode cX8_chances 177 = .ok (.if_icmp .ge 17, 3) := by decide +kernel
theorem dX8_chances_180 : decode cX8_chances 180 = .ok (.aload_n 0, 1) := by decide +kernel
theorem dX8_chances_181 : decode cX8_chances 181 = .ok (.getfield 32, 3) := by decide +kernel
theorem dX8_chances_184 : decode cX8_chances 184 = .ok (.invokestatic 153, 3) := by decide +kernel
theorem dX8_chances_187 : decode cX8_chances 187 = .ok (.pop, 1) := by decide +kernel
theorem dX8_chances_188 : decode cX8_chances 188 = .ok (.iinc 11 1, 3) := by decide +kernel
theorem dX8_chances_191 : decode cX8_chances 191 = .ok (.goto (-17), 3) := by decide +kernel
theorem dX8_chances_194 : decode cX8_chances 194 = .ok (.aload_n 0, 1) := by decide +kernel
theorem dX8_chances_195 : decode cX8_chances 195 = .ok (.getfield 32, 3) := by decide +kernel
theorem dX8_chances_198 : decode cX8_chances 198 = .ok (.invokestatic 160, 3) := by decide +kernel
theorem dX8_chances_201 : decode cX8_chances 201 = .ok (.invokestatic 157, 3) := by decide +kernel
theorem dX8_chances_204 : decode cX8_chances 204 = .ok (.istore 11, 2) := by decide +kernel
theorem dX8_chances_206 : decode cX8_chances 206 = .ok (.lload 4, 2) := by decide +kernel
theorem dX8_chances_208 : decode cX8_chances 208 = .ok (.iload_n 1, 1) := by decide +kernel
theorem dX8_chances_209 : decode cX8_chances 209 = .ok (.ifCond .ge 12, 3) := by decide +kernel
theorem dX8_chances_212 : decode cX8_chances 212 = .ok (.lload 9, 2) := by decide +kernel
theorem dX8_chances_214 : decode cX8_chances 214 = .ok (.iload 11, 2) := by decide +kernel
theorem dX8_chances_216 : decode cX8_chances 216 = .ok (.i2l, 1) := by decide +kernel
theorem dX8_chances_217 : decode cX8_chances 217 = .ok (.lmul, 1) := by decide +kernel
theorem dX8_chances_218 : decode cX8_chances 218 = .ok (.goto 15, 3) := by decide +kernel
theorem dX8_chances_221 : decode cX8_chances 221 = .ok (.iload 11, 2) := by decide +kernel
theorem dX8_chances_223 : decode cX8_chances 223 = .ok (.iload_n 1, 1) := by decide +kernel
theorem dX8_chances_224 : decode cX8_chances 224 = .ok (.if_icmp .lt 8, 3) := by decide +kernel
theorem dX8_chances_227 : decode cX8_chances 227 = .ok (.lload 9, 2) := by decide +kernel
theorem dX8_chances_229 : decode cX8_chances 229 = .ok (.goto 4, 3) := by decide +kernel
theorem dX8_chances_232 : decode cX8_chances 232 = .ok (.lconst 0, 1) := by decide +kernel
theorem dX8_chances_233 : decode cX8_chances 233 = .ok (.ladd, 1) := by decide +kernel
theorem dX8_chances_234 : decode cX8_chances 234 = .ok (.lstore 4, 2) := by decide +kernel
theorem dX8_chances_236 : decode cX8_chances 236 = .ok (.iinc 8 1, 3) := by decide +kernel
theorem dX8_chances_239 : decode cX8_chances 239 = .ok (.goto (-183), 3) := by decide +kernel
theorem dX8_chances_242 : decode cX8_chances 242 = .ok (.aload_n 0, 1) := by decide +kernel
theorem dX8_chances_243 : decode cX8_chances 243 = .ok (.lload 4, 2) := by decide +kernel
theorem dX8_chances_245 : decode cX8_chances 245 = .ok (.lload 6, 2) := by decide +kernel
theorem dX8_chances_247 : decode cX8_chances 247 = .ok (.invokevirtual 202, 3) := by decide +kernel
theorem dX8_chances_250 : decode cX8_chances 250 = .ok (.return_, 1) := by decide +kernel
theorem dX8_odds_0 : decode cX8_odds 0 = .ok (.iload_n 1, 1) := by decide +kernel
theorem dX8_odds_1 : decode cX8_odds 1 = .ok (.iconst 0, 1) := by decide +kernel
theorem dX8_odds_2 : decode cX8_odds 2 = .ok (.bipush 7, 2) := by decide +kernel
theorem dX8_odds_4 : decode cX8_odds 4 = .ok (.invokestatic 73, 3) := by decide +kernel
theorem dX8_odds_7 : decode cX8_odds 7 = .ok (.ifCond .eq 23, 3) := by decide +kernel
theorem dX8_odds_10 : decode cX8_odds 10 = .ok (.iload_n 2, 1) := by decide +kernel
theorem dX8_odds_11 : decode cX8_odds 11 = .ok (.iconst 0, 1) := by decide +kernel
theorem dX8_odds_12 : decode cX8_odds 12 = .ok (.bipush 20, 2) := by decide +kernel
theorem dX8_odds_14 : decode cX8_odds 14 = .ok (.invokestatic 73, 3) := by decide +kernel
theorem dX8_odds_17 : decode cX8_odds 17 = .ok (.ifCond .eq 13, 3) := by decide +kernel
theorem dX8_odds_20 : decode cX8_odds 20 = .ok (.iload_n 3, 1) := by decide +kernel
theorem dX8_odds_21 : decode cX8_odds 21 = .ok (.iconst 0, 1) := by decide +kernel
theorem dX8_odds_22 : decode cX8_odds 22 = .ok (.bipush 12, 2) := by decide +kernel
theorem dX8_odds_24 : decode cX8_odds 24 = .ok (.invokestatic 73, 3) := by decide +kernel
theorem dX8_odds_27 : decode cX8_odds 27 = .ok (.ifCond .ne 5, 3) := by decide +kernel
theorem dX8_odds_30 : decode cX8_odds 30 = .ok (.iconst (-1), 1) := by decide +kernel
theorem dX8_odds_31 : decode cX8_odds 31 = .ok (.ireturn, 1) := by decide +kernel
theorem dX8_odds_32 : decode cX8_odds 32 = .ok (.aload_n 0, 1) := by decide +kernel
theorem dX8_odds_33 : decode cX8_odds 33 = .ok (.getfield 26, 3) := by decide +kernel
theorem dX8_odds_36 : decode cX8_odds 36 = .ok (.bipush 18, 2) := by decide +kernel
theorem dX8_odds_38 : decode cX8_odds 38 = .ok (.iaload, 1) := by decide +kernel
theorem dX8_odds_39 : decode cX8_odds 39 = .ok (.ifCond .ne 6, 3) := by decide +kernel
theorem dX8_odds_42 : decode cX8_odds 42 = .ok (.bipush (-4), 2) := by decide +kernel
theorem dX8_odds_44 : decode cX8_odds 44 = .ok (.ireturn, 1) := by decide +kernel
theorem dX8_odds_45 : decode cX8_odds 45 = .ok (.aload_n 0, 1) := by decide +kernel
theorem dX8_odds_46 : decode cX8_odds 46 = .ok (.iload_n 1, 1) := by decide +kernel
theorem dX8_odds_47 : decode cX8_odds 47 = .ok (.iload_n 2, 1) := by decide +kernel
theorem dX8_odds_48 : decode cX8_odds 48 = .ok (.iload_n 3, 1) := by decide +kernel
theorem dX8_odds_49 : decode cX8_odds 49 = .ok (.invokevirtual 206, 3) := by decide +kernel
theorem dX8_odds_52 : decode cX8_odds 52 = .ok (.iconst 1, 1) := by decide +kernel
theorem dX8_odds_53 : decode cX8_odds 53 = .ok (.ireturn, 1) := by decide +kernel
theorem dX8_mid_0 : decode cX8_mid 0 = .ok (.iload_n 1, 1) := by decide +kernel
theorem dX8_mid_1 : decode cX8_mid 1 = .ok (.iconst 0, 1) := by decide +kernel
theorem dX8_mid_2 : decode cX8_mid 2 = .ok (.bipush 20, 2) := by decide +kernel
theorem dX8_mid_4 : decode cX8_mid 4 = .ok (.invokestatic 73, 3) := by decide +kernel
theorem dX8_mid_7 : decode cX8_mid 7 = .ok (.ifCond .eq 13, 3) := by decide +kernel
theorem dX8_mid_10 : decode cX8_mid 10 = .ok (.iload_n 2, 1) := by decide +kernel
theorem dX8_mid_11 : decode cX8_mid 11 = .ok (.iconst 0, 1) := by decide +kernel
theorem dX8_mid_12 : decode cX8_mid 12 = .ok (.bipush 12, 2) := by decide +kernel
theorem dX8_mid_14 : decode cX8_mid 14 = .ok (.invokestatic 73, 3) := by decide +kernel
theorem dX8_mid_17 : decode cX8_mid 17 = .ok (.ifCond .ne 5, 3) := by decide +kernel
theorem dX8_mid_20 : decode cX8_mid 20 = .ok (.iconst (-1), 1) := by decide +kernel
theorem dX8_mid_21 : decode cX8_mid 21 = .ok (.ireturn, 1) := by decide +kernel
theorem dX8_mid_22 : decode cX8_mid 22 = .ok (.aload_n 0, 1) := by decide +kernel
theorem dX8_mid_23 : decode cX8_mid 23 = .ok (.getfield 26, 3) := by decide +kernel
theorem dX8_mid_26 : decode cX8_mid 26 = .ok (.bipush 18, 2) := by decide +kernel
theorem dX8_mid_28 : decode cX8_mid 28 = .ok (.iaload, 1) := by decide +kernel
theorem dX8_mid_29 : decode cX8_mid 29 = .ok (.ifCond .ne 6, 3) := by decide +kernel
theorem dX8_mid_32 : decode cX8_mid 32 = .ok (.bipush (-4), 2) := by decide +kernel
theorem dX8_mid_34 : decode cX8_mid 34 = .ok (.ireturn, 1) := by decide +kernel
theorem dX8_mid_35 : decode cX8_mid 35 = .ok (.aload_n 0, 1) := by decide +kernel
theorem dX8_mid_36 : decode cX8_mid 36 = .ok (.iconst (-1), 1) := by decide +kernel
theorem dX8_mid_37 : decode cX8_mid 37 = .ok (.iload_n 1, 1) := by decide +kernel
theorem dX8_mid_38 : decode cX8_mid 38 = .ok (.iload_n 2, 1) := by decide +kernel
theorem dX8_mid_39 : decode cX8_mid 39 = .ok (.invokevirtual 206, 3) := by decide +kernel
theorem dX8_mid_42 : decode cX8_mid 42 = .ok (.iconst 1, 1) := by decide +kernel
theorem dX8_mid_43 : decode cX8_mid 43 = .ok (.ireturn, 1) := by decide +kernel
theorem dX8_lots_0 : decode cX8_lots 0 = .ok (.iload_n 1, 1) := by decide +kernel
theorem dX8_lots_1 : decode cX8_lots 1 = .ok (.iconst 1, 1) := by decide +kernel
theorem dX8_lots_2 : decode cX8_lots 2 = .ok (.bipush 20, 2) := by decide +kernel
theorem dX8_lots_4 : decode cX8_lots 4 = .ok (.invokestatic 73, 3) := by decide +kernel
theorem dX8_lots_7 : decode cX8_lots 7 = .ok (.ifCond .eq 13, 3) := by decide +kernel
theorem dX8_lots_10 : decode cX8_lots 10 = .ok (.iload_n 2, 1) := by decide +kernel
theorem dX8_lots_11 : decode cX8_lots 11 = .ok (.iconst 1, 1) := by decide +kernel
theorem dX8_lots_12 : decode cX8_lots 12 = .ok (.ldc 210, 2) := by decide +kernel
theorem dX8_lots_14 : decode cX8_lots 14 = .ok (.invokestatic 73, 3) := by decide +kernel
theorem dX8_lots_17 : decode cX8_lots 17 = .ok (.ifCond .ne 5, 3) := by decide +kernel
theorem dX8_lots_20 : decode cX8_lots 20 = .ok (.iconst (-1), 1) := by decide +kernel
theorem dX8_lots_21 : decode cX8_lots 21 = .ok (.ireturn, 1) := by decide +kernel
theorem dX8_lots_22 : decode cX8_lots 22 = .ok (.aload_n 0, 1) := by decide +kernel
theorem dX8_lots_23 : decode cX8_lots 23 = .ok (.getfield 26, 3) := by decide +kernel
theorem dX8_lots_26 : decode cX8_lots 26 = .ok (.bipush 18, 2) := by decide +kernel
theorem dX8_lots_28 : decode cX8_lots 28 = .ok (.iaload, 1) := by decide +kernel
theorem dX8_lots_29 : decode cX8_lots 29 = .ok (.ifCond .ne 6, 3) := by decide +kernel
theorem dX8_lots_32 : decode cX8_lots 32 = .ok (.bipush (-4), 2) := by decide +kernel
theorem dX8_lots_34 : decode cX8_lots 34 = .ok (.ireturn, 1) := by decide +kernel
theorem dX8_lots_35 : decode cX8_lots 35 = .ok (.aload_n 0, 1) := by decide +kernel
theorem dX8_lots_36 : decode cX8_lots 36 = .ok (.getfield 111, 3) := by decide +kernel
theorem dX8_lots_39 : decode cX8_lots 39 = .ok (.iload_n 1, 1) := by decide +kernel
theorem dX8_lots_40 : decode cX8_lots 40 = .ok (.iadd, 1) := by decide +kernel
theorem dX8_lots_41 : decode cX8_lots 41 = .ok (.bipush 40, 2) := by decide +kernel
theorem dX8_lots_43 : decode cX8_lots 43 = .ok (.if_icmp .le 6, 3) := by decide +kernel
theorem dX8_lots_46 : decode cX8_lots 46 = .ok (.bipush (-2), 2) := by decide +kernel
theorem dX8_lots_48 : decode cX8_lots 48 = .ok (.ireturn, 1) := by decide +kernel
theorem dX8_lots_49 : decode cX8_lots 49 = .ok (.iload_n 2, 1) := by decide +kernel
theorem dX8_lots_50 : decode cX8_lots 50 = .ok (.i2l, 1) := by decide +kernel
theorem dX8_lots_51 : decode cX8_lots 51 = .ok (.lstore_n 3, 1) := by decide +kernel
theorem dX8_lots_52 : decode cX8_lots 52 = .ok (.iconst 0, 1) := by decide +kernel
theorem dX8_lots_53 : decode cX8_lots 53 = .ok (.istore 5, 2) := by decide +kernel
theorem dX8_lots_55 : decode cX8_lots 55 = .ok (.iload 5, 2) := by decide +kernel
theorem dX8_lots_57 : decode cX8_lots 57 = .ok (.iload_n 1, 1) := by decide +kernel
theorem dX8_lots_58 : decode cX8_lots 58 = .ok (.if_icmp .ge 117, 3) := by decide +kernel
theorem dX8_lots_61 : decode cX8_lots 61 = .ok (.lload_n 3, 1) := by decide +kernel
theorem dX8_lots_62 : decode cX8_lots 62 = .ok (.ldc2_w 211, 3) := by decide +kernel
theorem dX8_lots_65 : decode cX8_lots 65 = .ok (.lmul, 1) := by decide +kernel
theorem dX8_lots_66 : decode cX8_lots 66 = .ok (.ldc2_w 213, 3) := by decide +kernel
theorem dX8_lots_69 : decode cX8_lots 69 = .ok (.lrem, 1) := by decide +kernel
theorem dX8_lots_70 : decode cX8_lots 70 = .ok (.lstore_n 3, 1) := by decide +kernel
theorem dX8_lots_71 : decode cX8_lots 71 = .ok (.lload_n 3, 1) := by decide +kernel
theorem dX8_lots_72 : decode cX8_lots 72 = .ok (.ldc2_w 215, 3) := by decide +kernel
theorem dX8_lots_75 : decode cX8_lots 75 = .ok (.ldiv, 1) := by decide +kernel
theorem dX8_lots_76 : decode cX8_lots 76 = .ok (.aload_n 0, 1) := by decide +kernel
theorem dX8_lots_77 : decode cX8_lots 77 = .ok (.getfield 26, 3) := by decide +kernel
theorem dX8_lots_80 : decode cX8_lots 80 = .ok (.bipush 18, 2) := by decide +kernel
theorem dX8_lots_82 : decode cX8_lots 82 = .ok (.iaload, 1) := by decide +kernel
theorem dX8_lots_83 : decode cX8_lots 83 = .ok (.i2l, 1) := by decide +kernel
theorem dX8_lots_84 : decode cX8_lots 84 = .ok (.lrem, 1) := by decide +kernel
theorem dX8_lots_85 : decode cX8_lots 85 = .ok (.l2i, 1) := by decide +kernel
theorem dX8_lots_86 : decode cX8_lots 86 = .ok (.istore 6, 2) := by decide +kernel
theorem dX8_lots_88 : decode cX8_lots 88 = .ok (.lload_n 3, 1) := by decide +kernel
theorem dX8_lots_89 : decode cX8_lots 89 = .ok (.ldc2_w 215, 3) := by decide +kernel
theorem dX8_lots_92 : decode cX8_lots 92 = .ok (.lrem, 1) := by decide +kernel
theorem dX8_lots_93 : decode cX8_lots 93 = .ok (.l2i, 1) := by decide +kernel
theorem dX8_lots_94 : decode cX8_lots 94 = .ok (.istore 7, 2) := by decide +kernel
theorem dX8_lots_96 : decode cX8_lots 96 = .ok (.aload_n 0, 1) := by decide +kernel
theorem dX8_lots_97 : decode cX8_lots 97 = .ok (.invokevirtual 150, 3) := by decide +kernel
theorem dX8_lots_100 : decode cX8_lots 100 = .ok (.iload 7, 2) := by decide +kernel
theorem dX8_lots_102 : decode cX8_lots 102 = .ok (.ifCond .ne 19, 3) := by decide +kernel
theorem dX8_lots_105 : decode cX8_lots 105 = .ok (.aload_n 0, 1) := by decide +kernel
theorem dX8_lots_106 : decode cX8_lots 106 = .ok (.getfield 26, 3) := by decide +kernel
theorem dX8_lots_109 : decode cX8_lots 109 = .ok (.iconst 3, 1) := by decide +kernel
theorem dX8_lots_110 : decode cX8_lots 110 = .ok (.dup2, 1) := by decide +kernel
theorem dX8_lots_111 : decode cX8_lots 111 = .ok (.iaload, 1) := by decide +kernel
theorem dX8_lots_112 : decode cX8_lots 112 = .ok (.iconst 1, 1) := by decide +kernel
theorem dX8_lots_113 : decode cX8_lots 113 = .ok (.iload 6, 2) := by decide +kernel
theorem dX8_lots_115 : decode cX8_lots 115 = .ok (.ishl, 1) := by decide +kernel
theorem dX8_lots_116 : decode cX8_lots 116 = .ok (.ixor, 1) := by decide +kernel
theorem dX8_lots_117 : decode cX8_lots 117 = .ok (.iastore, 1) := by decide +kernel
theorem dX8_lots_118 : decode cX8_lots 118 = .ok (.goto 51, 3) := by decide +kernel
theorem dX8_lots_121 : decode cX8_lots 121 = .ok (.iload 7, 2) := by decide +kernel
theorem dX8_lots_123 : decode cX8_lots 123 = .ok (.iconst 3, 1) := by decide +kernel
theorem dX8_lots_124 : decode cX8_lots 124 = .ok (.if_icmp .ge 26, 3) := by decide +kernel
theorem dX8_lots_127 : decode cX8_lots 127 = .ok (.aload_n 0, 1) := by decide +kernel
theorem dX8_lots_128 : decode cX8_lots 128 = .ok (.getfield 26, 3) := by decide +kernel
theorem dX8_lots_131 : decode cX8_lots 131 = .ok (.bipush 11, 2) := by decide +kernel
theorem dX8_lots_133 : decode cX8_lots 133 = .ok (.iload 6, 2) := by decide +kernel
theorem dX8_lots_135 : decode cX8_lots 135 = .ok (.iadd, 1) := by decide +kernel
theorem dX8_lots_136 : decode cX8_lots 136 = .ok (.lload_n 3, 1) := by decide +kernel
theorem dX8_lots_137 : decode cX8_lots 137 = .ok (.ldc2_w 217, 3) := by decide +kernel
theorem dX8_lots_140 : decode cX8_lots 140 = .ok (.ldiv, 1) := by decide +kernel
theorem dX8_lots_141 : decode cX8_lots 141 = .ok (.ldc2_w 219, 3) := by decide +kernel
theorem dX8_lots_144 : decode cX8_lots 144 = .ok (.lrem, 1) := by decide +kernel
theorem dX8_lots_145 : decode cX8_lots 145 = .ok (.l2i, 1) := by decide +kernel
theorem dX8_lots_146 : decode cX8_lots 146 = .ok (.iastore, 1) := by decide +kernel
theorem dX8_lots_147 : decode cX8_lots 147 = .ok (.goto 22, 3) := by decide +kernel
theorem dX8_lots_150 : decode cX8_lots 150 = .ok (.aload_n 0, 1) := by decide +kernel
theorem dX8_lots_151 : decode cX8_lots 151 = .ok (.getfield 26, 3) := by decide +kernel
theorem dX8_lots_154 : decode cX8_lots 154 = .ok (.iconst 1, 1) := by decide +kernel
theorem dX8_lots_155 : decode cX8_lots 155 = .ok (.iaload, 1) := by decide +kernel
theorem dX8_lots_156 : decode cX8_lots 156 = .ok (.bipush 99, 2) := by decide +kernel
theorem dX8_lots_158 : decode cX8_lots 158 = .ok (.if_icmp .ge 11, 3) := by decide +kernel
theorem dX8_lots_161 : decode cX8_lots 161 = .ok (.aload_n 0, 1) := by decide +kernel
theorem dX8_lots_162 : decode cX8_lots 162 = .ok (.getfield 26, 3) := by decide +kernel
theorem dX8_lots_165 : decode cX8_lots 165 = .ok (.invokestatic 153, 3) := by decide +kernel
theorem dX8_lots_168 : decode cX8_lots 168 = .ok (.pop, 1) := by decide +kernel
theorem dX8_lots_169 : decode cX8_lots 169 = .ok (.iinc 5 1, 3) := by decide +kernel
theorem dX8_lots_172 : decode cX8_lots 172 = .ok (.goto (-117), 3) := by decide +kernel
theorem dX8_lots_175 : decode cX8_lots 175 = .ok (.aload_n 0, 1) := by decide +kernel
theorem dX8_lots_176 : decode cX8_lots 176 = .ok (.getfield 26, 3) := by decide +kernel
theorem dX8_lots_179 : decode cX8_lots 179 = .ok (.invokestatic 167, 3) := by decide +kernel
theorem dX8_lots_182 : decode cX8_lots 182 = .ok (.ireturn, 1) := by decide +kernel
theorem dX8_asked_0 : decode cX8_asked 0 = .ok (.aload_n 0, 1) := by decide +kernel
theorem dX8_asked_1 : decode cX8_asked 1 = .ok (.getfield 70, 3) := by decide +kernel
theorem dX8_asked_4 : decode cX8_asked 4 = .ok (.ireturn, 1) := by decide +kernel
theorem dX8_upper_0 : decode cX8_upper 0 = .ok (.aload_n 0, 1) := by decide +kernel
theorem dX8_upper_1 : decode cX8_upper 1 = .ok (.getfield 197, 3) := by decide +kernel
theorem dX8_upper_4 : decode cX8_upper 4 = .ok (.lreturn, 1) := by decide +kernel
theorem dX8_lower_0 : decode cX8_lower 0 = .ok (.aload_n 0, 1) := by decide +kernel
theorem dX8_lower_1 : decode cX8_lower 1 = .ok (.getfield 50, 3) := by decide +kernel
theorem dX8_lower_4 : decode cX8_lower 4 = .ok (.lreturn, 1) := by decide +kernel
theorem dX8_ofKind_0 : decode cX8_ofKind 0 = .ok (.iconst 0, 1) := by decide +kernel
theorem dX8_ofKind_1 : decode cX8_ofKind 1 = .ok (.istore_n 2, 1) := by decide +kernel
theorem dX8_ofKind_2 : decode cX8_ofKind 2 = .ok (.iconst 0, 1) := by decide +kernel
theorem dX8_ofKind_3 : decode cX8_ofKind 3 = .ok (.istore_n 3, 1) := by decide +kernel
theorem dX8_ofKind_4 : decode cX8_ofKind 4 = .ok (.iload_n 3, 1) := by decide +kernel
theorem dX8_ofKind_5 : decode cX8_ofKind 5 = .ok (.aload_n 0, 1) := by decide +kernel
theorem dX8_ofKind_6 : decode cX8_ofKind 6 = .ok (.getfield 26, 3) := by decide +kernel
theorem dX8_ofKind_9 : decode cX8_ofKind 9 = .ok (.bipush 18, 2) := by decide +kernel
theorem dX8_ofKind_11 : decode cX8_ofKind 11 = .ok (.iaload, 1) := by decide +kernel
theorem dX8_ofKind_12 : decode cX8_ofKind 12 = .ok (.if_icmp .ge 33, 3) := by decide +kernel
theorem dX8_ofKind_15 : decode cX8_ofKind 15 = .ok (.iload_n 2, 1) := by decide +kernel
theorem dX8_ofKind_16 : decode cX8_ofKind 16 = .ok (.aload_n 0, 1) := by decide +kernel
theorem dX8_ofKind_17 : decode cX8_ofKind 17 = .ok (.getfield 26, 3) := by decide +kernel
theorem dX8_ofKind_20 : decode cX8_ofKind 20 = .ok (.bipush 19, 2) := by decide +kernel
theorem dX8_ofKind_22 : decode cX8_ofKind 22 = .ok (.iload_n 3, 1) := by decide +kernel
theorem dX8_ofKind_23 : decode cX8_ofKind 23 = .ok (.iadd, 1) := by decide +kernel
theorem dX8_ofKind_24 : decode cX8_ofKind 24 = .ok (.iaload, 1) := by decide +kernel
theorem dX8_ofKind_25 : decode cX8_ofKind 25 = .ok (.iload_n 1, 1) := by decide +kernel
theorem dX8_ofKind_26 : decode cX8_ofKind 26 = .ok (.invokestatic 141, 3) := by decide +kernel
theorem dX8_ofKind_29 : decode cX8_ofKind 29 = .ok (.ifCond .eq 7, 3) := by decide +kernel
theorem dX8_ofKind_32 : decode cX8_ofKind 32 = .ok (.iconst 1, 1) := by decide +kernel
theorem dX8_ofKind_33 : decode cX8_ofKind 33 = .ok (.goto 4, 3) := by decide +kernel
theorem dX8_ofKind_36 : decode cX8_ofKind 36 = .ok (.iconst 0, 1) := by decide +kernel
theorem dX8_ofKind_37 : decode cX8_ofKind 37 = .ok (.iadd, 1) := by decide +kernel
theorem dX8_ofKind_38 : decode cX8_ofKind 38 = .ok (.istore_n 2, 1) := by decide +kernel
theorem dX8_ofKind_39 : decode cX8_ofKind 39 = .ok (.iinc 3 1, 3) := by decide +kernel
theorem dX8_ofKind_42 : decode cX8_ofKind 42 = .ok (.goto (-38), 3) := by decide +kernel
theorem dX8_ofKind_45 : decode cX8_ofKind 45 = .ok (.iload_n 2, 1) := by decide +kernel
theorem dX8_ofKind_46 : decode cX8_ofKind 46 = .ok (.ireturn, 1) := by decide +kernel
theorem dX8_count_0 : decode cX8_count 0 = .ok (.iconst 0, 1) := by decide +kernel
theorem dX8_count_1 : decode cX8_count 1 = .ok (.istore_n 2, 1) := by decide +kernel
theorem dX8_count_2 : decode cX8_count 2 = .ok (.iload_n 1, 1) := by decide +kernel
theorem dX8_count_3 : decode cX8_count 3 = .ok (.tableswitch 235 0 12 #[65, 73, 80, 85, 93, 100, 107, 115, 122, 155, 187, 223, 229], 65) := by decide +kernel
theorem dX8_count_68 : decode cX8_count 68 = .ok (.aload_n 0, 1) := by decide +kernel
theorem dX8_count_69 : decode cX8_count 69 = .ok (.getfield 26, 3) := by decide +kernel
theorem dX8_count_72 : decode cX8_count 72 = .ok (.bipush 18, 2) := by decide +kernel
theorem dX8_count_74 : decode cX8_count 74 = .ok (.iaload, 1) := by decide +kernel
theorem dX8_count_75 : decode cX8_count 75 = .ok (.ireturn, 1) := by decide +kernel
theorem dX8_count_76 : decode cX8_count 76 = .ok (.aload_n 0, 1) := by decide +kernel
theorem dX8_count_77 : decode cX8_count 77 = .ok (.getfield 26, 3) := by decide +kernel
theorem dX8_count_80 : decode cX8_count 80 = .ok (.iconst 1, 1) := by decide +kernel
theorem dX8_count_81 : decode cX8_count 81 = .ok (.iaload, 1) := by decide +kernel
theorem dX8_count_82 : decode cX8_count 82 = .ok (.ireturn, 1) := by decide +kernel
theorem dX8_count_83 : decode cX8_count 83 = .ok (.aload_n 0, 1) := by decide +kernel
theorem dX8_count_84 : decode cX8_count 84 = .ok (.getfield 111, 3) := by decide +kernel
theorem dX8_count_87 : decode cX8_count 87 = .ok (.ireturn, 1) := by decide +kernel
theorem dX8_count_88 : decode cX8_count 88 = .ok (.aload_n 0, 1) := by decide +kernel
theorem dX8_count_89 : decode cX8_count 89 = .ok (.getfield 26, 3) := by decide +kernel
theorem dX8_count_92 : decode cX8_count 92 = .ok (.invokestatic 167, 3) := by decide +kernel
theorem dX8_count_95 : decode cX8_count 95 = .ok (.ireturn, 1) := by decide +kernel
theorem dX8_count_96 : decode cX8_count 96 = .ok (.aload_n 0, 1) := by decide +kernel
theorem dX8_count_97 : decode cX8_count 97 = .ok (.getfield 26, 3) := by decide +kernel
theorem dX8_count_100 : decode cX8_count 100 = .ok (.iconst 2, 1) := by decide +kernel
theorem dX8_count_101 : decode cX8_count 101 = .ok (.iaload, 1) := by decide +kernel
theorem dX8_count_102 : decode cX8_count 102 = .ok (.ireturn, 1) := by decide +kernel
theorem dX8_count_103 : decode cX8_count 103 = .ok (.aload_n 0, 1) := by decide +kernel
theorem dX8_count_104 : decode cX8_count 104 = .ok (.getfield 26, 3) := by decide +kernel
theorem dX8_count_107 : decode cX8_count 107 = .ok (.iconst 3, 1) := by decide +kernel
theorem dX8_count_108 : decode cX8_count 108 = .ok (.iaload, 1) := by decide +kernel
theorem dX8_count_109 : decode cX8_count 109 = .ok (.ireturn, 1) := by decide +kernel
theorem dX8_count_110 : decode cX8_count 110 = .ok (.aload_n 0, 1) := by decide +kernel
theorem dX8_count_111 : decode cX8_count 111 = .ok (.getfield 26, 3) := by decide +kernel
theorem dX8_count_114 : decode cX8_count 114 = .ok (.invokestatic 160, 3) := by decide +kernel
theorem dX8_count_117 : decode cX8_count 117 = .ok (.ireturn, 1) := by decide +kernel
theorem dX8_count_118 : decode cX8_count 118 = .ok (.aload_n 0, 1) := by decide +kernel
theorem dX8_count_119 : decode cX8_count 119 = .ok (.getfield 26, 3) := by decide +kernel
theorem dX8_count_122 : decode cX8_count 122 = .ok (.iconst 0, 1) := by decide +kernel
theorem dX8_count_123 : decode cX8_count 123 = .ok (.iaload, 1) := by decide +kernel
theorem dX8_count_124 : decode cX8_count 124 = .ok (.ireturn, 1) := by decide +kernel
theorem dX8_count_125 : decode cX8_count 125 = .ok (.iconst 0, 1) := by decide +kernel
theorem dX8_count_126 : decode cX8_count 126 = .ok (.istore_n 3, 1) := by decide +kernel
theorem dX8_count_127 : decode cX8_count 127 = .ok (.iload_n 3, 1) := by decide +kernel
theorem dX8_count_128 : decode cX8_count 128 = .ok (.bipush 6, 2) := by decide +kernel
theorem dX8_count_130 : decode cX8_count 130 = .ok (.if_icmp .ge 26, 3) := by decide +kernel
theorem dX8_count_133 : decode cX8_count 133 = .ok (.iload_n 2, 1) := by decide +kernel
theorem dX8_count_134 : decode cX8_count 134 = .ok (.aload_n 0, 1) := by decide +kernel
theorem dX8_count_135 : decode cX8_count 135 = .ok (.getfield 7, 3) := by decide +kernel
theorem dX8_count_138 : decode cX8_count 138 = .ok (.iload_n 3, 1) := by decide +kernel
theorem dX8_count_139 : decode cX8_count 139 = .ok (.iaload, 1) := by decide +kernel
theorem dX8_count_140 : decode cX8_count 140 = .ok (.ifCond .ge 7, 3) := by decide +kernel
theorem dX8_count_143 : decode cX8_count 143 = .ok (.iconst 0, 1) := by decide +kernel
theorem dX8_count_144 : decode cX8_count 144 = .ok (.goto 4, 3) := by decide +kernel
theorem dX8_count_147 : decode cX8_count 147 = .ok (.iconst 1, 1) := by decide +kernel
theorem dX8_count_148 : decode cX8_count 148 = .ok (.iadd, 1) := by decide +kernel
theorem dX8_count_149 : decode cX8_count 149 = .ok (.istore_n 2, 1) := by decide +kernel
theorem dX8_count_150 : decode cX8_count 150 = .ok (.iinc 3 1, 3) := by decide +kernel
theorem dX8_count_153 : decode cX8_count 153 = .ok (.goto (-26), 3) := by decide +kernel
theorem dX8_count_156 : decode cX8_count 156 = .ok (.iload_n 2, 1) := by decide +kernel
theorem dX8_count_157 : decode cX8_count 157 = .ok (.ireturn, 1) := by decide +kernel
theorem dX8_count_158 : decode cX8_count 158 = .ok (.iconst 0, 1) := by decide +kernel
theorem dX8_count_159 : decode cX8_count 159 = .ok (.istore_n 3, 1) := by decide +kernel
theorem dX8_count_160 : decode cX8_count 160 = .ok (.iload_n 3, 1) := by decide +kernel
theorem dX8_count_161 : decode cX8_count 161 = .ok (.iconst 4, 1) := by decide +kernel
theorem dX8_count_162 : decode cX8_count 162 = .ok (.if_icmp .ge 26, 3) := by decide +kernel
theorem dX8_count_165 : decode cX8_count 165 = .ok (.iload_n 2, 1) := by decide +kernel
theorem dX8_count_166 : decode cX8_count 166 = .ok (.aload_n 0, 1) := by decide +kernel
theorem dX8_count_167 : decode cX8_count 167 = .ok (.getfield 19, 3) := by decide +kernel
theorem dX8_count_170 : decode cX8_count 170 = .ok (.iload_n 3, 1) := by decide +kernel
theorem dX8_count_171 : decode cX8_count 171 = .ok (.iaload, 1) := by decide +kernel
theorem dX8_count_172 : decode cX8_count 172 = .ok (.ifCond .ge 7, 3) := by decide +kernel
theorem dX8_count_175 : decode cX8_count 175 = .ok (.iconst 0, 1) := by decide +kernel
theorem dX8_count_176 : decode cX8_count 176 = .ok (.goto 4, 3) := by decide +kernel
theorem dX8_count_179 : decode cX8_count 179 = .ok (.iconst 1, 1) := by decide +kernel
theorem dX8_count_180 : decode cX8_count 180 = .ok (.iadd, 1) := by decide +kernel
theorem dX8_count_181 : decode cX8_count 181 = .ok (.istore_n 2, 1) := by decide +kernel
theorem dX8_count_182 : decode cX8_count 182 = .ok (.iinc 3 1, 3) := by decide +kernel
theorem dX8_count_185 : decode cX8_count 185 = .ok (.goto (-25), 3) := by decide +kernel
theorem dX8_count_188 : decode cX8_count 188 = .ok (.iload_n 2, 1) := by decide +kernel
theorem dX8_count_189 : decode cX8_count 189 = .ok (.ireturn, 1) := by decide +kernel
theorem dX8_count_190 : decode cX8_count 190 = .ok (.iconst 0, 1) := by decide +kernel
theorem dX8_count_191 : decode cX8_count 191 = .ok (.istore_n 3, 1) := by decide +kernel
theorem dX8_count_192 : decode cX8_count 192 = .ok (.iload_n 3, 1) := by decide +kernel
theorem dX8_count_193 : decode cX8_count 193 = .ok (.aload_n 0, 1) := by decide +kernel
theorem dX8_count_194 : decode cX8_count 194 = .ok (.getfield 47, 3) := by decide +kernel
theorem dX8_count_197 : decode cX8_count 197 = .ok (.arraylength, 1) := by decide +kernel
theorem dX8_count_198 : decode cX8_count 198 = .ok (.if_icmp .ge 26, 3) := by decide +kernel
theorem dX8_count_201 : decode cX8_count 201 = .ok (.iload_n 2, 1) := by decide +kernel
theorem dX8_count_202 : decode cX8_count 202 = .ok (.aload_n 0, 1) := by decide +kernel
theorem dX8_count_203 : decode cX8_count 203 = .ok (.getfield 47, 3) := by decide +kernel
theorem dX8_count_206 : decode cX8_count 206 = .ok (.iload_n 3, 1) := by decide +kernel
theorem dX8_count_207 : decode cX8_count 207 = .ok (.iaload, 1) := by decide +kernel
theorem dX8_count_208 : decode cX8_count 208 = .ok (.ifCond .ge 7, 3) := by decide +kernel
theorem dX8_count_211 : decode cX8_count 211 = .ok (.iconst 0, 1) := by decide +kernel
theorem dX8_count_212 : decode cX8_count 212 = .ok (.goto 4, 3) := by decide +kernel
theorem dX8_count_215 : decode cX8_count 215 = .ok (.iconst 1, 1) := by decide +kernel
theorem dX8_count_216 : decode cX8_count 216 = .ok (.iadd, 1) := by decide +kernel
theorem dX8_count_217 : decode cX8_count 217 = .ok (.istore_n 2, 1) := by decide +kernel
theorem dX8_count_218 : decode cX8_count 218 = .ok (.iinc 3 1, 3) := by decide +kernel
theorem dX8_count_221 : decode cX8_count 221 = .ok (.goto (-29), 3) := by decide +kernel
theorem dX8_count_224 : decode cX8_count 224 = .ok (.iload_n 2, 1) := by decide +kernel
theorem dX8_count_225 : decode cX8_count 225 = .ok (.ireturn, 1) := by decide +kernel
theorem dX8_count_226 : decode cX8_count 226 = .ok (.aload_n 0, 1) := by decide +kernel
theorem dX8_count_227 : decode cX8_count 227 = .ok (.iconst 1, 1) := by decide +kernel
theorem dX8_count_228 : decode cX8_count 228 = .ok (.invokevirtual 221, 3) := by decide +kernel
theorem dX8_count_231 : decode cX8_count 231 = .ok (.ireturn, 1) := by decide +kernel
theorem dX8_count_232 : decode cX8_count 232 = .ok (.aload_n 0, 1) := by decide +kernel
theorem dX8_count_233 : decode cX8_count 233 = .ok (.iconst 2, 1) := by decide +kernel
theorem dX8_count_234 : decode cX8_count 234 = .ok (.invokevirtual 221, 3) := by decide +kernel
theorem dX8_count_237 : decode cX8_count 237 = .ok (.ireturn, 1) := by decide +kernel
theorem dX8_count_238 : decode cX8_count 238 = .ok (.iconst (-1), 1) := by decide +kernel
theorem dX8_count_239 : decode cX8_count 239 = .ok (.ireturn, 1) := by decide +kernel
theorem dX8_finding_0 : decode cX8_finding 0 = .ok (.aload_n 0, 1) := by decide +kernel
theorem dX8_finding_1 : decode cX8_finding 1 = .ok (.getfield 66, 3) := by decide +kernel
theorem dX8_finding_4 : decode cX8_finding 4 = .ok (.ireturn, 1) := by decide +kernel
theorem dX8_findings_0 : decode cX8_findings 0 = .ok (.iload_n 1, 1) := by decide +kernel
theorem dX8_findings_1 : decode cX8_findings 1 = .ok (.iconst 1, 1) := by decide +kernel
theorem dX8_findings_2 : decode cX8_findings 2 = .ok (.iconst 5, 1) := by decide +kernel
theorem dX8_findings_3 : decode cX8_findings 3 = .ok (.invokestatic 73, 3) := by decide +kernel
theorem dX8_findings_6 : decode cX8_findings 6 = .ok (.ifCond .eq 12, 3) := by decide +kernel
theorem dX8_findings_9 : decode cX8_findings 9 = .ok (.aload_n 0, 1) := by decide +kernel
theorem dX8_findings_10 : decode cX8_findings 10 = .ok (.getfield 54, 3) := by decide +kernel
theorem dX8_findings_13 : decode cX8_findings 13 = .ok (.iload_n 1, 1) := by decide +kernel
theorem dX8_findings_14 : decode cX8_findings 14 = .ok (.iaload, 1) := by decide +kernel
theorem dX8_findings_15 : decode cX8_findings 15 = .ok (.goto 4, 3) := by decide +kernel
theorem dX8_findings_18 : decode cX8_findings 18 = .ok (.iconst (-1), 1) := by decide +kernel
theorem dX8_findings_19 : decode cX8_findings 19 = .ok (.ireturn, 1) := by decide +kernel
theorem dX8_of_0 : decode cX8_of 0 = .ok (.iload_n 2, 1) := by decide +kernel
theorem dX8_of_1 : decode cX8_of 1 = .ok (.ifCond .ne 15, 3) := by decide +kernel
theorem dX8_of_4 : decode cX8_of 4 = .ok (.aload_n 0, 1) := by decide +kernel
theorem dX8_of_5 : decode cX8_of 5 = .ok (.getfield 26, 3) := by decide +kernel
theorem dX8_of_8 : decode cX8_of 8 = .ok (.bipush 19, 2) := by decide +kernel
theorem dX8_of_10 : decode cX8_of 10 = .ok (.iload_n 1, 1) := by decide +kernel
theorem dX8_of_11 : decode cX8_of 11 = .ok (.iadd, 1) := by decide +kernel
theorem dX8_of_12 : decode cX8_of 12 = .ok (.iaload, 1) := by decide +kernel
theorem dX8_of_13 : decode cX8_of 13 = .ok (.goto 103, 3) := by decide +kernel
theorem dX8_of_16 : decode cX8_of 16 = .ok (.iload_n 2, 1) := by decide +kernel
theorem dX8_of_17 : decode cX8_of 17 = .ok (.iconst 1, 1) := by decide +kernel
theorem dX8_of_18 : decode cX8_of 18 = .ok (.if_icmp .ne 14, 3) := by decide +kernel
theorem dX8_of_21 : decode cX8_of 21 = .ok (.aload_n 0, 1) := by decide +kernel
theorem dX8_of_22 : decode cX8_of 22 = .ok (.getfield 26, 3) := by decide +kernel
theorem dX8_of_25 : decode cX8_of 25 = .ok (.iconst 4, 1) := by decide +kernel
theorem dX8_of_26 : decode cX8_of 26 = .ok (.iload_n 1, 1) := by decide +kernel
theorem dX8_of_27 : decode cX8_of 27 = .ok (.iadd, 1) := by decide +kernel
theorem dX8_of_28 : decode cX8_of 28 = .ok (.iaload, 1) := by decide +kernel
theorem dX8_of_29 : decode cX8_of 29 = .ok (.goto 87, 3) := by decide +kernel
theorem dX8_of_32 : decode cX8_of 32 = .ok (.iload_n 2, 1) := by decide +kernel
theorem dX8_of_33 : decode cX8_of 33 = .ok (.iconst 2, 1) := by decide +kernel
theorem dX8_of_34 : decode cX8_of 34 = .ok (.if_icmp .ne 15, 3) := by decide +kernel
theorem dX8_of_37 : decode cX8_of 37 = .ok (.aload_n 0, 1) := by decide +kernel
theorem dX8_of_38 : decode cX8_of 38 = .ok (.getfield 26, 3) := by decide +kernel
theorem dX8_of_41 : decode cX8_of 41 = .ok (.bipush 11, 2) := by decide +kernel
theorem dX8_of_43 : decode cX8_of 43 = .ok (.iload_n 1, 1) := by decide +kernel
theorem dX8_of_44 : decode cX8_of 44 = .ok (.iadd, 1) := by decide +kernel
theorem dX8_of_45 : decode cX8_of 45 = .ok (.iaload, 1) := by decide +kernel
theorem dX8_of_46 : decode cX8_of 46 = .ok (.goto 70, 3) := by decide +kernel
theorem dX8_of_49 : decode cX8_of 49 = .ok (.iload_n 2, 1) := by decide +kernel
theorem dX8_of_50 : decode cX8_of 50 = .ok (.iconst 3, 1) := by decide +kernel
theorem dX8_of_51 : decode cX8_of 51 = .ok (.if_icmp .ne 15, 3) := by decide +kernel
theorem dX8_of_54 : decode cX8_of 54 = .ok (.aload_n 0, 1) := by decide +kernel
theorem dX8_of_55 : decode cX8_of 55 = .ok (.getfield 26, 3) := by decide +kernel
theorem dX8_of_58 : decode cX8_of 58 = .ok (.bipush 26, 2) := by decide +kernel
theorem dX8_of_60 : decode cX8_of 60 = .ok (.iload_n 1, 1) := by decide +kernel
theorem dX8_of_61 : decode cX8_of 61 = .ok (.iadd, 1) := by decide +kernel
theorem dX8_of_62 : decode cX8_of 62 = .ok (.iaload, 1) := by decide +kernel
theorem dX8_of_63 : decode cX8_of 63 = .ok (.goto 53, 3) := by decide +kernel
theorem dX8_of_66 : decode cX8_of 66 = .ok (.iload_n 2, 1) := by decide +kernel
theorem dX8_of_67 : decode cX8_of 67 = .ok (.iconst 4, 1) := by decide +kernel
theorem dX8_of_68 : decode cX8_of 68 = .ok (.if_icmp .ne 16, 3) := by decide +kernel
theorem dX8_of_71 : decode cX8_of 71 = .ok (.aload_n 0, 1) := by decide +kernel
theorem dX8_of_72 : decode cX8_of 72 = .ok (.getfield 26, 3) := by decide +kernel
theorem dX8_of_75 : decode cX8_of 75 = .ok (.iconst 3, 1) := by decide +kernel
theorem dX8_of_76 : decode cX8_of 76 = .ok (.iaload, 1) := by decide +kernel
theorem dX8_of_77 : decode cX8_of 77 = .ok (.iload_n 1, 1) := by decide +kernel
theorem dX8_of_78 : decode cX8_of 78 = .ok (.ishr, 1) := by decide +kernel
theorem dX8_of_79 : decode cX8_of 79 = .ok (.iconst 1, 1) := by decide +kernel
theorem dX8_of_80 : decode cX8_of 80 = .ok (.iand, 1) := by decide +kernel
theorem dX8_of_81 : decode cX8_of 81 = .ok (.goto 35, 3) := by decide +kernel
theorem dX8_of_84 : decode cX8_of 84 = .ok (.iload_n 2, 1) := by decide +kernel
theorem dX8_of_85 : decode cX8_of 85 = .ok (.iconst 5, 1) := by decide +kernel
theorem dX8_of_86 : decode cX8_of 86 = .ok (.if_icmp .ne 22, 3) := by decide +kernel
theorem dX8_of_89 : decode cX8_of 89 = .ok (.aload_n 0, 1) := by decide +kernel
theorem dX8_of_90 : decode cX8_of 90 = .ok (.getfield 26, 3) := by decide +kernel
theorem dX8_of_93 : decode cX8_of 93 = .ok (.iload_n 1, 1) := by decide +kernel
theorem dX8_of_94 : decode cX8_of 94 = .ok (.invokestatic 129, 3) := by decide +kernel
theorem dX8_of_97 : decode cX8_of 97 = .ok (.ifCond .eq 7, 3) := by decide +kernel
theorem dX8_of_100 : decode cX8_of 100 = .ok (.iconst 1, 1) := by decide +kernel
theorem dX8_of_101 : decode cX8_of 101 = .ok (.goto 15, 3) := by decide +kernel
theorem dX8_of_104 : decode cX8_of 104 = .ok (.iconst 0, 1) := by decide +kernel
theorem dX8_of_105 : decode cX8_of 105 = .ok (.goto 11, 3) := by decide +kernel
theorem dX8_of_108 : decode cX8_of 108 = .ok (.aload_n 0, 1) := by decide +kernel
theorem dX8_of_109 : decode cX8_of 109 = .ok (.getfield 26, 3) := by decide +kernel
theorem dX8_of_112 : decode cX8_of 112 = .ok (.iload_n 1, 1) := by decide +kernel
theorem dX8_of_113 : decode cX8_of 113 = .ok (.invokestatic 133, 3) := by decide +kernel
theorem dX8_of_116 : decode cX8_of 116 = .ok (.ireturn, 1) := by decide +kernel
theorem dX8_digest_0 : decode cX8_digest 0 = .ok (.ldc2_w 224, 3) := by decide +kernel
theorem dX8_digest_3 : decode cX8_digest 3 = .ok (.lstore_n 1, 1) := by decide +kernel
theorem dX8_digest_4 : decode cX8_digest 4 = .ok (.iconst 0, 1) := by decide +kernel
theorem dX8_digest_5 : decode cX8_digest 5 = .ok (.istore_n 3, 1) := by decide +kernel
theorem dX8_digest_6 : decode cX8_digest 6 = .ok (.iload_n 3, 1) := by decide +kernel
theorem dX8_digest_7 : decode cX8_digest 7 = .ok (.bipush 13, 2) := by decide +kernel
theorem dX8_digest_9 : decode cX8_digest 9 = .ok (.if_icmp .ge 22, 3) := by decide +kernel
theorem dX8_digest_12 : decode cX8_digest 12 = .ok (.ldc2_w 226, 3) := by decide +kernel
theorem dX8_digest_15 : decode cX8_digest 15 = .ok (.lload_n 1, 1) := by decide +kernel
theorem dX8_digest_16 : decode cX8_digest 16 = .ok (.lmul, 1) := by decide +kernel
theorem dX8_digest_17 : decode cX8_digest 17 = .ok (.aload_n 0, 1) := by decide +kernel
theorem dX8_digest_18 : decode cX8_digest 18 = .ok (.iload_n 3, 1) := by decide +kernel
theorem dX8_digest_19 : decode cX8_digest 19 = .ok (.invokevirtual 228, 3) := by decide +kernel
theorem dX8_digest_22 : decode cX8_digest 22 = .ok (.i2l, 1) := by decide +kernel
theorem dX8_digest_23 : decode cX8_digest 23 = .ok (.ladd, 1) := by decide +kernel
theorem dX8_digest_24 : decode cX8_digest 24 = .ok (.lstore_n 1, 1) := by decide +kernel
theorem dX8_digest_25 : decode cX8_digest 25 = .ok (.iinc 3 1, 3) := by decide +kernel
theorem dX8_digest_28 : decode cX8_digest 28 = .ok (.goto (-22), 3) := by decide +kernel
theorem dX8_digest_31 : decode cX8_digest 31 = .ok (.iconst 0, 1) := by decide +kernel
theorem dX8_digest_32 : decode cX8_digest 32 = .ok (.istore_n 3, 1) := by decide +kernel
theorem dX8_digest_33 : decode cX8_digest 33 = .ok (.iload_n 3, 1) := by decide +kernel
theorem dX8_digest_34 : decode cX8_digest 34 = .ok (.aload_n 0, 1) := by decide +kernel
theorem dX8_digest_35 : decode cX8_digest 35 = .ok (.getfield 26, 3) := by decide +kernel
theorem dX8_digest_38 : decode cX8_digest 38 = .ok (.bipush 18, 2) := by decide +kernel
theorem dX8_digest_40 : decode cX8_digest 40 = .ok (.iaload, 1) := by decide +kernel
theorem dX8_digest_41 : decode cX8_digest 41 = .ok (.if_icmp .ge 40, 3) := by decide +kernel
theorem dX8_digest_44 : decode cX8_digest 44 = .ok (.iconst 0, 1) := by decide +kernel
theorem dX8_digest_45 : decode cX8_digest 45 = .ok (.istore 4, 2) := by decide +kernel
theorem dX8_digest_47 : decode cX8_digest 47 = .ok (.iload 4, 2) := by decide +kernel
theorem dX8_digest_49 : decode cX8_digest 49 = .ok (.bipush 7, 2) := by decide +kernel
theorem dX8_digest_51 : decode cX8_digest 51 = .ok (.if_icmp .ge 24, 3) := by decide +kernel
theorem dX8_digest_54 : decode cX8_digest 54 = .ok (.ldc2_w 226, 3) := by decide +kernel
theorem dX8_digest_57 : decode cX8_digest 57 = .ok (.lload_n 1, 1) := by decide +kernel
theorem dX8_digest_58 : decode cX8_digest 58 = .ok (.lmul, 1) := by decide +kernel
theorem dX8_digest_59 : decode cX8_digest 59 = .ok (.aload_n 0, 1) := by decide +kernel
theorem dX8_digest_60 : decode cX8_digest 60 = .ok (.iload_n 3, 1) := by decide +kernel
theorem dX8_digest_61 : decode cX8_digest 61 = .ok (.iload 4, 2) := by decide +kernel
theorem dX8_digest_63 : decode cX8_digest 63 = .ok (.invokevirtual 231, 3) := by decide +kernel
theorem dX8_digest_66 : decode cX8_digest 66 = .ok (.i2l, 1) := by decide +kernel
theorem dX8_digest_67 : decode cX8_digest 67 = .ok (.ladd, 1) := by decide +kernel
theorem dX8_digest_68 : decode cX8_digest 68 = .ok (.lstore_n 1, 1) := by decide +kernel
theorem dX8_digest_69 : decode cX8_digest 69 = .ok (.iinc 4 1, 3) := by decide +kernel
theorem dX8_digest_72 : decode cX8_digest 72 = .ok (.goto (-25), 3) := by decide +kernel
theorem dX8_digest_75 : decode cX8_digest 75 = .ok (.iinc 3 1, 3) := by decide +kernel
theorem dX8_digest_78 : decode cX8_digest 78 = .ok (.goto (-45), 3) := by decide +kernel
theorem dX8_digest_81 : decode cX8_digest 81 = .ok (.iconst 0, 1) := by decide +kernel
theorem dX8_digest_82 : decode cX8_digest 82 = .ok (.istore_n 3, 1) := by decide +kernel
theorem dX8_digest_83 : decode cX8_digest 83 = .ok (.iload_n 3, 1) := by decide +kernel
theorem dX8_digest_84 : decode cX8_digest 84 = .ok (.aload_n 0, 1) := by decide +kernel
theorem dX8_digest_85 : decode cX8_digest 85 = .ok (.getfield 47, 3) := by decide +kernel
theorem dX8_digest_88 : decode cX8_digest 88 = .ok (.arraylength, 1) := by decide +kernel
theorem dX8_digest_89 : decode cX8_digest 89 = .ok (.if_icmp .ge 23, 3) := by decide +kernel
theorem dX8_digest_92 : decode cX8_digest 92 = .ok (.ldc2_w 226, 3) := by decide +kernel
theorem dX8_digest_95 : decode cX8_digest 95 = .ok (.lload_n 1, 1) := by decide +kernel
theorem dX8_digest_96 : decode cX8_digest 96 = .ok (.lmul, 1) := by decide +kernel
theorem dX8_digest_97 : decode cX8_digest 97 = .ok (.aload_n 0, 1) := by decide +kernel
theorem dX8_digest_98 : decode cX8_digest 98 = .ok (.getfield 47, 3) := by decide +kernel
theorem dX8_digest_101 : decode cX8_digest 101 = .ok (.iload_n 3, 1) := by decide +kernel
theorem dX8_digest_102 : decode cX8_digest 102 = .ok (.iaload, 1) := by decide +kernel
theorem dX8_digest_103 : decode cX8_digest 103 = .ok (.i2l, 1) := by decide +kernel
theorem dX8_digest_104 : decode cX8_digest 104 = .ok (.ladd, 1) := by decide +kernel
theorem dX8_digest_105 : decode cX8_digest 105 = .ok (.lstore_n 1, 1) := by decide +kernel
theorem dX8_digest_106 : decode cX8_digest 106 = .ok (.iinc 3 1, 3) := by decide +kernel
theorem dX8_digest_109 : decode cX8_digest 109 = .ok (.goto (-26), 3) := by decide +kernel
theorem dX8_digest_112 : decode cX8_digest 112 = .ok (.iconst 0, 1) := by decide +kernel
theorem dX8_digest_113 : decode cX8_digest 113 = .ok (.istore_n 3, 1) := by decide +kernel
theorem dX8_digest_114 : decode cX8_digest 114 = .ok (.iload_n 3, 1) := by decide +kernel
theorem dX8_digest_115 : decode cX8_digest 115 = .ok (.bipush 6, 2) := by decide +kernel
theorem dX8_digest_117 : decode cX8_digest 117 = .ok (.if_icmp .ge 63, 3) := by decide +kernel
theorem dX8_digest_120 : decode cX8_digest 120 = .ok (.ldc2_w 226, 3) := by decide +kernel
theorem dX8_digest_123 : decode cX8_digest 123 = .ok (.lload_n 1, 1) := by decide +kernel
theorem dX8_digest_124 : decode cX8_digest 124 = .ok (.lmul, 1) := by decide +kernel
theorem dX8_digest_125 : decode cX8_digest 125 = .ok (.aload_n 0, 1) := by decide +kernel
theorem dX8_digest_126 : decode cX8_digest 126 = .ok (.getfield 7, 3) := by decide +kernel
theorem dX8_digest_129 : decode cX8_digest 129 = .ok (.iload_n 3, 1) := by decide +kernel
theorem dX8_digest_130 : decode cX8_digest 130 = .ok (.iaload, 1) := by decide +kernel
theorem dX8_digest_131 : decode cX8_digest 131 = .ok (.i2l, 1) := by decide +kernel
theorem dX8_digest_132 : decode cX8_digest 132 = .ok (.ladd, 1) := by decide +kernel
theorem dX8_digest_133 : decode cX8_digest 133 = .ok (.lstore_n 1, 1) := by decide +kernel
theorem dX8_digest_134 : decode cX8_digest 134 = .ok (.iconst 0, 1) := by decide +kernel
theorem dX8_digest_135 : decode cX8_digest 135 = .ok (.istore 4, 2) := by decide +kernel
theorem dX8_digest_137 : decode cX8_digest 137 = .ok (.iload 4, 2) := by decide +kernel
theorem dX8_digest_139 : decode cX8_digest 139 = .ok (.aload_n 0, 1) := by decide +kernel
theorem dX8_digest_140 : decode cX8_digest 140 = .ok (.getfield 7, 3) := by decide +kernel
theorem dX8_digest_143 : decode cX8_digest 143 = .ok (.iload_n 3, 1) := by decide +kernel
theorem dX8_digest_144 : decode cX8_digest 144 = .ok (.iaload, 1) := by decide +kernel
theorem dX8_digest_145 : decode cX8_digest 145 = .ok (.if_icmp .ge 29, 3) := by decide +kernel
theorem dX8_digest_148 : decode cX8_digest 148 = .ok (.ldc2_w 226, 3) := by decide +kernel
theorem dX8_digest_151 : decode cX8_digest 151 = .ok (.lload_n 1, 1) := by decide +kernel
theorem dX8_digest_152 : decode cX8_digest 152 = .ok (.lmul, 1) := by decide +kernel
theorem dX8_digest_153 : decode cX8_digest 153 = .ok (.aload_n 0, 1) := by decide +kernel
theorem dX8_digest_154 : decode cX8_digest 154 = .ok (.getfield 13, 3) := by decide +kernel
theorem dX8_digest_157 : decode cX8_digest 157 = .ok (.bipush 40, 2) := by decide +kernel
theorem dX8_digest_159 : decode cX8_digest 159 = .ok (.iload_n 3, 1) := by decide +kernel
theorem dX8_digest_160 : decode cX8_digest 160 = .ok (.imul, 1) := by decide +kernel
theorem dX8_digest_161 : decode cX8_digest 161 = .ok (.iload 4, 2) := by decide +kernel
theorem dX8_digest_163 : decode cX8_digest 163 = .ok (.iadd, 1) := by decide +kernel
theorem dX8_digest_164 : decode cX8_digest 164 = .ok (.iaload, 1) := by decide +kernel
theorem dX8_digest_165 : decode cX8_digest 165 = .ok (.i2l, 1) := by decide +kernel
theorem dX8_digest_166 : decode cX8_digest 166 = .ok (.ladd, 1) := by decide +kernel
theorem dX8_digest_167 : decode cX8_digest 167 = .ok (.lstore_n 1, 1) := by decide +kernel
theorem dX8_digest_168 : decode cX8_digest 168 = .ok (.iinc 4 1, 3) := by decide +kernel
theorem dX8_digest_171 : decode cX8_digest 171 = .ok (.goto (-34), 3) := by decide +kernel
theorem dX8_digest_174 : decode cX8_digest 174 = .ok (.iinc 3 1, 3) := by decide +kernel
theorem dX8_digest_177 : decode cX8_digest 177 = .ok (.goto (-63), 3) := by decide +kernel
theorem dX8_digest_180 : decode cX8_digest 180 = .ok (.iconst 0, 1) := by decide +kernel
theorem dX8_digest_181 : decode cX8_digest 181 = .ok (.istore_n 3, 1) := by decide +kernel
theorem dX8_digest_182 : decode cX8_digest 182 = .ok (.iload_n 3, 1) := by decide +kernel
theorem dX8_digest_183 : decode cX8_digest 183 = .ok (.iconst 4, 1) := by decide +kernel
theorem dX8_digest_184 : decode cX8_digest 184 = .ok (.if_icmp .ge 63, 3) := by decide +kernel
theorem dX8_digest_187 : decode cX8_digest 187 = .ok (.ldc2_w 226, 3) := by decide +kernel
theorem dX8_digest_190 : decode cX8_digest 190 = .ok (.lload_n 1, 1) := by decide +kernel
theorem dX8_digest_191 : decode cX8_digest 191 = .ok (.lmul, 1) := by decide +kernel
theorem dX8_digest_192 : decode cX8_digest 192 = .ok (.aload_n 0, 1) := by decide +kernel
theorem dX8_digest_193 : decode cX8_digest 193 = .ok (.getfield 19, 3) := by decide +kernel
theorem dX8_digest_196 : decode cX8_digest 196 = .ok (.iload_n 3, 1) := by decide +kernel
theorem dX8_digest_197 : decode cX8_digest 197 = .ok (.iaload, 1) := by decide +kernel
theorem dX8_digest_198 : decode cX8_digest 198 = .ok (.i2l, 1) := by decide +kernel
theorem dX8_digest_199 : decode cX8_digest 199 = .ok (.ladd, 1) := by decide +kernel
theorem dX8_digest_200 : decode cX8_digest 200 = .ok (.lstore_n 1, 1) := by decide +kernel
theorem dX8_digest_201 : decode cX8_digest 201 = .ok (.iconst 0, 1) := by decide +kernel
theorem dX8_digest_202 : decode cX8_digest 202 = .ok (.istore 4, 2) := by decide +kernel
theorem dX8_digest_204 : decode cX8_digest 204 = .ok (.iload 4, 2) := by decide +kernel
theorem dX8_digest_206 : decode cX8_digest 206 = .ok (.aload_n 0, 1) := by decide +kernel
theorem dX8_digest_207 : decode cX8_digest 207 = .ok (.getfield 19, 3) := by decide +kernel
theorem dX8_digest_210 : decode cX8_digest 210 = .ok (.iload_n 3, 1) := by decide +kernel
theorem dX8_digest_211 : decode cX8_digest 211 = .ok (.iaload, 1) := by decide +kernel
theorem dX8_digest_212 : decode cX8_digest 212 = .ok (.if_icmp .ge 29, 3) := by decide +kernel
theorem dX8_digest_215 : decode cX8_digest 215 = .ok (.ldc2_w 226, 3) := by decide +kernel
theorem dX8_digest_218 : decode cX8_digest 218 = .ok (.lload_n 1, 1) := by decide +kernel
theorem dX8_digest_219 : decode cX8_digest 219 = .ok (.lmul, 1) := by decide +kernel
theorem dX8_digest_220 : decode cX8_digest 220 = .ok (.aload_n 0, 1) := by decide +kernel
theorem dX8_digest_221 : decode cX8_digest 221 = .ok (.getfield 22, 3) := by decide +kernel
theorem dX8_digest_224 : decode cX8_digest 224 = .ok (.bipush 60, 2) := by decide +kernel
theorem dX8_digest_226 : decode cX8_digest 226 = .ok (.iload_n 3, 1) := by decide +kernel
theorem dX8_digest_227 : decode cX8_digest 227 = .ok (.imul, 1) := by decide +kernel
theorem dX8_digest_228 : decode cX8_digest 228 = .ok (.iload 4, 2) := by decide +kernel
theorem dX8_digest_230 : decode cX8_digest 230 = .ok (.iadd, 1) := by decide +kernel
theorem dX8_digest_231 : decode cX8_digest 231 = .ok (.baload, 1) := by decide +kernel
theorem dX8_digest_232 : decode cX8_digest 232 = .ok (.i2l, 1) := by decide +kernel
theorem dX8_digest_233 : decode cX8_digest 233 = .ok (.ladd, 1) := by decide +kernel
theorem dX8_digest_234 : decode cX8_digest 234 = .ok (.lstore_n 1, 1) := by decide +kernel
theorem dX8_digest_235 : decode cX8_digest 235 = .ok (.iinc 4 1, 3) := by decide +kernel
theorem dX8_digest_238 : decode cX8_digest 238 = .ok (.goto (-34), 3) := by decide +kernel
theorem dX8_digest_241 : decode cX8_digest 241 = .ok (.iinc 3 1, 3) := by decide +kernel
theorem dX8_digest_244 : decode cX8_digest 244 = .ok (.goto (-62), 3) := by decide +kernel
theorem dX8_digest_247 : decode cX8_digest 247 = .ok (.lload_n 1, 1) := by decide +kernel
theorem dX8_digest_248 : decode cX8_digest 248 = .ok (.lreturn, 1) := by decide +kernel
theorem dJ6_bitCount_0f7a4_0 : decode cJ6_bitCount_0f7a4 0 = .ok (.iload_n 0, 1) := by decide +kernel
theorem dJ6_bitCount_0f7a4_1 : decode cJ6_bitCount_0f7a4 1 = .ok (.iload_n 0, 1) := by decide +kernel
theorem dJ6_bitCount_0f7a4_2 : decode cJ6_bitCount_0f7a4 2 = .ok (.iconst 1, 1) := by decide +kernel
theorem dJ6_bitCount_0f7a4_3 : decode cJ6_bitCount_0f7a4 3 = .ok (.iushr, 1) := by decide +kernel
theorem dJ6_bitCount_0f7a4_4 : decode cJ6_bitCount_0f7a4 4 = .ok (.ldc_w 265, 3) := by decide +kernel
theorem dJ6_bitCount_0f7a4_7 : decode cJ6_bitCount_0f7a4 7 = .ok (.iand, 1) := by decide +kernel
theorem dJ6_bitCount_0f7a4_8 : decode cJ6_bitCount_0f7a4 8 = .ok (.isub, 1) := by decide +kernel
theorem dJ6_bitCount_0f7a4_9 : decode cJ6_bitCount_0f7a4 9 = .ok (.istore_n 0, 1) := by decide +kernel
theorem dJ6_bitCount_0f7a4_10 : decode cJ6_bitCount_0f7a4 10 = .ok (.iload_n 0, 1) := by decide +kernel
theorem dJ6_bitCount_0f7a4_11 : decode cJ6_bitCount_0f7a4 11 = .ok (.ldc_w 266, 3) := by decide +kernel
theorem dJ6_bitCount_0f7a4_14 : decode cJ6_bitCount_0f7a4 14 = .ok (.iand, 1) := by decide +kernel
theorem dJ6_bitCount_0f7a4_15 : decode cJ6_bitCount_0f7a4 15 = .ok (.iload_n 0, 1) := by decide +kernel
theorem dJ6_bitCount_0f7a4_16 : decode cJ6_bitCount_0f7a4 16 = .ok (.iconst 2, 1) := by decide +kernel
theorem dJ6_bitCount_0f7a4_17 : decode cJ6_bitCount_0f7a4 17 = .ok (.iushr, 1) := by decide +kernel
theorem dJ6_bitCount_0f7a4_18 : decode cJ6_bitCount_0f7a4 18 = .ok (.ldc_w 266, 3) := by decide +kernel
theorem dJ6_bitCount_0f7a4_21 : decode cJ6_bitCount_0f7a4 21 = .ok (.iand, 1) := by decide +kernel
theorem dJ6_bitCount_0f7a4_22 : decode cJ6_bitCount_0f7a4 22 = .ok (.iadd, 1) := by decide +kernel
theorem dJ6_bitCount_0f7a4_23 : decode cJ6_bitCount_0f7a4 23 = .ok (.istore_n 0, 1) := by decide +kernel
theorem dJ6_bitCount_0f7a4_24 : decode cJ6_bitCount_0f7a4 24 = .ok (.iload_n 0, 1) := by decide +kernel
theorem dJ6_bitCount_0f7a4_25 : decode cJ6_bitCount_0f7a4 25 = .ok (.iload_n 0, 1) := by decide +kernel
theorem dJ6_bitCount_0f7a4_26 : decode cJ6_bitCount_0f7a4 26 = .ok (.iconst 4, 1) := by decide +kernel
theorem dJ6_bitCount_0f7a4_27 : decode cJ6_bitCount_0f7a4 27 = .ok (.iushr, 1) := by decide +kernel
theorem dJ6_bitCount_0f7a4_28 : decode cJ6_bitCount_0f7a4 28 = .ok (.iadd, 1) := by decide +kernel
theorem dJ6_bitCount_0f7a4_29 : decode cJ6_bitCount_0f7a4 29 = .ok (.ldc_w 267, 3) := by decide +kernel
theorem dJ6_bitCount_0f7a4_32 : decode cJ6_bitCount_0f7a4 32 = .ok (.iand, 1) := by decide +kernel
theorem dJ6_bitCount_0f7a4_33 : decode cJ6_bitCount_0f7a4 33 = .ok (.istore_n 0, 1) := by decide +kernel
theorem dJ6_bitCount_0f7a4_34 : decode cJ6_bitCount_0f7a4 34 = .ok (.iload_n 0, 1) := by decide +kernel
theorem dJ6_bitCount_0f7a4_35 : decode cJ6_bitCount_0f7a4 35 = .ok (.iload_n 0, 1) := by decide +kernel
theorem dJ6_bitCount_0f7a4_36 : decode cJ6_bitCount_0f7a4 36 = .ok (.bipush 8, 2) := by decide +kernel
theorem dJ6_bitCount_0f7a4_38 : decode cJ6_bitCount_0f7a4 38 = .ok (.iushr, 1) := by decide +kernel
theorem dJ6_bitCount_0f7a4_39 : decode cJ6_bitCount_0f7a4 39 = .ok (.iadd, 1) := by decide +kernel
theorem dJ6_bitCount_0f7a4_40 : decode cJ6_bitCount_0f7a4 40 = .ok (.istore_n 0, 1) := by decide +kernel
theorem dJ6_bitCount_0f7a4_41 : decode cJ6_bitCount_0f7a4 41 = .ok (.iload_n 0, 1) := by decide +kernel
theorem dJ6_bitCount_0f7a4_42 : decode cJ6_bitCount_0f7a4 42 = .ok (.iload_n 0, 1) := by decide +kernel
theorem dJ6_bitCount_0f7a4_43 : decode cJ6_bitCount_0f7a4 43 = .ok (.bipush 16, 2) := by decide +kernel
theorem dJ6_bitCount_0f7a4_45 : decode cJ6_bitCount_0f7a4 45 = .ok (.iushr, 1) := by decide +kernel
theorem dJ6_bitCount_0f7a4_46 : decode cJ6_bitCount_0f7a4 46 = .ok (.iadd, 1) := by decide +kernel
theorem dJ6_bitCount_0f7a4_47 : decode cJ6_bitCount_0f7a4 47 = .ok (.istore_n 0, 1) := by decide +kernel
theorem dJ6_bitCount_0f7a4_48 : decode cJ6_bitCount_0f7a4 48 = .ok (.iload_n 0, 1) := by decide +kernel
theorem dJ6_bitCount_0f7a4_49 : decode cJ6_bitCount_0f7a4 49 = .ok (.bipush 63, 2) := by decide +kernel
theorem dJ6_bitCount_0f7a4_51 : decode cJ6_bitCount_0f7a4 51 = .ok (.iand, 1) := by decide +kernel
theorem dJ6_bitCount_0f7a4_52 : decode cJ6_bitCount_0f7a4 52 = .ok (.ireturn, 1) := by decide +kernel
theorem dJ9_floorMod_7cf53_0 : decode cJ9_floorMod_7cf53 0 = .ok (.iload_n 0, 1) := by decide +kernel
theorem dJ9_floorMod_7cf53_1 : decode cJ9_floorMod_7cf53 1 = .ok (.iload_n 1, 1) := by decide +kernel
theorem dJ9_floorMod_7cf53_2 : decode cJ9_floorMod_7cf53 2 = .ok (.irem, 1) := by decide +kernel
theorem dJ9_floorMod_7cf53_3 : decode cJ9_floorMod_7cf53 3 = .ok (.istore_n 2, 1) := by decide +kernel
theorem dJ9_floorMod_7cf53_4 : decode cJ9_floorMod_7cf53 4 = .ok (.iload_n 0, 1) := by decide +kernel
theorem dJ9_floorMod_7cf53_5 : decode cJ9_floorMod_7cf53 5 = .ok (.iload_n 1, 1) := by decide +kernel
theorem dJ9_floorMod_7cf53_6 : decode cJ9_floorMod_7cf53 6 = .ok (.ixor, 1) := by decide +kernel
theorem dJ9_floorMod_7cf53_7 : decode cJ9_floorMod_7cf53 7 = .ok (.ifCond .ge 11, 3) := by decide +kernel
theorem dJ9_floorMod_7cf53_10 : decode cJ9_floorMod_7cf53 10 = .ok (.iload_n 2, 1) := by decide +kernel
theorem dJ9_floorMod_7cf53_11 : decode cJ9_floorMod_7cf53 11 = .ok (.ifCond .eq 7, 3) := by decide +kernel
theorem dJ9_floorMod_7cf53_14 : decode cJ9_floorMod_7cf53 14 = .ok (.iload_n 2, 1) := by decide +kernel
theorem dJ9_floorMod_7cf53_15 : decode cJ9_floorMod_7cf53 15 = .ok (.iload_n 1, 1) := by decide +kernel
theorem dJ9_floorMod_7cf53_16 : decode cJ9_floorMod_7cf53 16 = .ok (.iadd, 1) := by decide +kernel
theorem dJ9_floorMod_7cf53_17 : decode cJ9_floorMod_7cf53 17 = .ok (.ireturn, 1) := by decide +kernel
theorem dJ9_floorMod_7cf53_18 : decode cJ9_floorMod_7cf53 18 = .ok (.iload_n 2, 1) := by decide +kernel
theorem dJ9_floorMod_7cf53_19 : decode cJ9_floorMod_7cf53 19 = .ok (.ireturn, 1) := by decide +kernel
theorem dJ9_max_7cf53_0 : decode cJ9_max_7cf53 0 = .ok (.iload_n 0, 1) := by decide +kernel
theorem dJ9_max_7cf53_1 : decode cJ9_max_7cf53 1 = .ok (.iload_n 1, 1) := by decide +kernel
theorem dJ9_max_7cf53_2 : decode cJ9_max_7cf53 2 = .ok (.if_icmp .lt 7, 3) := by decide +kernel
theorem dJ9_max_7cf53_5 : decode cJ9_max_7cf53 5 = .ok (.iload_n 0, 1) := by decide +kernel
theorem dJ9_max_7cf53_6 : decode cJ9_max_7cf53 6 = .ok (.goto 4, 3) := by decide +kernel
theorem dJ9_max_7cf53_9 : decode cJ9_max_7cf53 9 = .ok (.iload_n 1, 1) := by decide +kernel
theorem dJ9_max_7cf53_10 : decode cJ9_max_7cf53 10 = .ok (.ireturn, 1) := by decide +kernel
theorem dL_law_0 : decode cL_law 0 = .ok (.new 7, 3) := by decide +kernel
theorem dL_law_3 : decode cL_law 3 = .ok (.dup, 1) := by decide +kernel
theorem dL_law_4 : decode cL_law 4 = .ok (.invokespecial 9, 3) := by decide +kernel
theorem dL_law_7 : decode cL_law 7 = .ok (.astore_n 1, 1) := by decide +kernel
theorem dL_law_8 : decode cL_law 8 = .ok (.new 10, 3) := by decide +kernel
theorem dL_law_11 : decode cL_law 11 = .ok (.dup, 1) := by decide +kernel
theorem dL_law_12 : decode cL_law 12 = .ok (.invokespecial 12, 3) := by decide +kernel
theorem dL_law_15 : decode cL_law 15 = .ok (.astore_n 2, 1) := by decide +kernel
theorem dL_law_16 : decode cL_law 16 = .ok (.iconst 0, 1) := by decide +kernel
theorem dL_law_17 : decode cL_law 17 = .ok (.istore_n 3, 1) := by decide +kernel
theorem dL_law_18 : decode cL_law 18 = .ok (.iload_n 3, 1) := by decide +kernel
theorem dL_law_19 : decode cL_law 19 = .ok (.aload_n 0, 1) := by decide +kernel
theorem dL_law_20 : decode cL_law 20 = .ok (.arraylength, 1) := by decide +kernel
theorem dL_law_21 : decode cL_law 21 = .ok (.bipush 6, 2) := by decide +kernel
theorem dL_law_23 : decode cL_law 23 = .ok (.isub, 1) := by decide +kernel
theorem dL_law_24 : decode cL_law 24 = .ok (.if_icmp .gt 1216, 3) := by decide +kernel
theorem dL_law_27 : decode cL_law 27 = .ok (.aload_n 0, 1) := by decide +kernel
theorem dL_law_28 : decode cL_law 28 = .ok (.iload_n 3, 1) := by decide +kernel
theorem dL_law_29 : decode cL_law 29 = .ok (.iaload, 1) := by decide +kernel
theorem dL_law_30 : decode cL_law 30 = .ok (.bipush 63, 2) := by decide +kernel
theorem dL_law_32 : decode cL_law 32 = .ok (.iand, 1) := by decide +kernel
theorem dL_law_33 : decode cL_law 33 = .ok (.tableswitch 1201 0 38 #[171, 204, 247, 280, 303, 366, 389, 422, 465, 488, 511, 544, 577, 590, 623, 646, 669, 692, 715, 738, 761, 774, 787, 800, 823, 856, 889, 922, 955, 978, 1021, 1054, 1087, 1100, 1114, 1128, 1151, 1164, 1187], 171) := by decide +kernel
theorem dL_law_204 : decode cL_law 204 = .ok (.aload_n 1, 1) := by decide +kernel
theorem dL_law_205 : decode cL_law 205 = .ok (.aload_n 0, 1) := by decide +kernel
theorem dL_law_206 : decode cL_law 206 = .ok (.iload_n 3, 1) := by decide +kernel
theorem dL_law_207 : decode cL_law 207 = .ok (.iconst 1, 1) := by decide +kernel
theorem dL_law_208 : decode cL_law 208 = .ok (.iadd, 1) := by decide +kernel
theorem dL_law_209 : decode cL_law 209 = .ok (.iaload, 1) := by decide +kernel
theorem dL_law_210 : decode cL_law 210 = .ok (.aload_n 0, 1) := by decide +kernel
theorem dL_law_211 : decode cL_law 211 = .ok (.iload_n 3, 1) := by decide +kernel
theorem dL_law_212 : decode cL_law 212 = .ok (.iconst 2, 1) := by decide +kernel
theorem dL_law_213 : decode cL_law 213 = .ok (.iadd, 1) := by decide +kernel
theorem dL_law_214 : decode cL_law 214 = .ok (.iaload, 1) := by decide +kernel
theorem dL_law_215 : decode cL_law 215 = .ok (.invokevirtual 13, 3) := by decide +kernel
theorem dL_law_218 : decode cL_law 218 = .ok (.aload_n 2, 1) := by decide +kernel
theorem dL_law_219 : decode cL_law 219 = .ok (.aload_n 0, 1) := by decide +kernel
theorem dL_law_220 : decode cL_law 220 = .ok (.iload_n 3, 1) := by decide +kernel
theorem dL_law_221 : decode cL_law 221 = .ok (.iconst 1, 1) := by decide +kernel
theorem dL_law_222 : decode cL_law 222 = .ok (.iadd, 1) := by decide +kernel
theorem dL_law_223 : decode cL_law 223 = .ok (.iaload, 1) := by decide +kernel
theorem dL_law_224 : decode cL_law 224 = .ok (.aload_n 0, 1) := by decide +kernel
theorem dL_law_225 : decode cL_law 225 = .ok (.iload_n 3, 1) := by decide +kernel
theorem dL_law_226 : decode cL_law 226 = .ok (.iconst 2, 1) := by decide +kernel
theorem dL_law_227 : decode cL_law 227 = .ok (.iadd, 1) := by decide +kernel
theorem dL_law_228 : decode cL_law 228 = .ok (.iaload, 1) := by decide +kernel
theorem dL_law_229 : decode cL_law 229 = .ok (.invokevirtual 17, 3) := by decide +kernel
theorem dL_law_232 : decode cL_law 232 = .ok (.if_icmp .eq 1002, 3) := by decide +kernel
theorem dL_law_235 : decode cL_law 235 = .ok (.iconst 0, 1) := by decide +kernel
theorem dL_law_236 : decode cL_law 236 = .ok (.ireturn, 1) := by decide +kernel
theorem dL_law_237 : decode cL_law 237 = .ok (.aload_n 1, 1) := by decide +kernel
theorem dL_law_238 : decode cL_law 238 = .ok (.aload_n 0, 1) := by decide +kernel
theorem dL_law_239 : decode cL_law 239 = .ok (.iload_n 3, 1) := by decide +kernel
theorem dL_law_240 : decode cL_law 240 = .ok (.iconst 1, 1) := by decide +kernel
theorem dL_law_241 : decode cL_law 241 = .ok (.iadd, 1) := by decide +kernel
theorem dL_law_242 : decode cL_law 242 = .ok (.iaload, 1) := by decide +kernel
theorem dL_law_243 : decode cL_law 243 = .ok (.aload_n 0, 1) := by decide +kernel
theorem dL_law_244 : decode cL_law 244 = .ok (.iload_n 3, 1) := by decide +kernel
theorem dL_law_245 : decode cL_law 245 = .ok (.iconst 2, 1) := by decide +kernel
theorem dL_law_246 : decode cL_law 246 = .ok (.iadd, 1) := by decide +kernel
theorem dL_law_247 : decode cL_law 247 = .ok (.iaload, 1) := by decide +kernel
theorem dL_law_248 : decode cL_law 248 = .ok (.aload_n 0, 1) := by decide +kernel
theorem dL_law_249 : decode cL_law 249 = .ok (.iload_n 3, 1) := by decide +kernel
theorem dL_law_250 : decode cL_law 250 = .ok (.iconst 3, 1) := by decide +kernel
theorem dL_law_251 : decode cL_law 251 = .ok (.iadd, 1) := by decide +kernel
theorem dL_law_252 : decode cL_law 252 = .ok (.iaload, 1) := by decide +kernel
theorem dL_law_253 : decode cL_law 253 = .ok (.invokevirtual 18, 3) := by decide +kernel
theorem dL_law_256 : decode cL_law 256 = .ok (.aload_n 2, 1) := by decide +kernel
theorem dL_law_257 : decode cL_law 257 = .ok (.aload_n 0, 1) := by decide +kernel
theorem dL_law_258 : decode cL_law 258 = .ok (.iload_n 3, 1) := by decide +kernel
theorem dL_law_259 : decode cL_law 259 = .ok (.iconst 1, 1) := by decide +kernel
theorem dL_law_260 : decode cL_law 260 = .ok (.iadd, 1) := by decide +kernel
theorem dL_law_261 : decode cL_law 261 = .ok (.iaload, 1) := by decide +kernel
theorem dL_law_262 : decode cL_law 262 = .ok (.aload_n 0, 1) := by decide +kernel
theorem dL_law_263 : decode cL_law 263 = .ok (.iload_n 3, 1) := by decide +kernel
theorem dL_law_264 : decode cL_law 264 = .ok (.iconst 2, 1) := by decide +kernel
theorem dL_law_265 : decode cL_law 265 = .ok (.iadd, 1) := by decide +kernel
theorem dL_law_266 : decode cL_law 266 = .ok (.iaload, 1) := by decide +kernel
theorem dL_law_267 : decode cL_law 267 = .ok (.aload_n 0, 1) := by decide +kernel
theorem dL_law_268 : decode cL_law 268 = .ok (.iload_n 3, 1) := by decide +kernel
theorem dL_law_269 : decode cL_law 269 = .ok (.iconst 3, 1) := by decide +kernel
theorem dL_law_270 : decode cL_law 270 = .ok (.iadd, 1) := by decide +kernel
theorem dL_law_271 : decode cL_law 271 = .ok (.iaload, 1) := by decide +kernel
theorem dL_law_272 : decode cL_law 272 = .ok (.invokevirtual 22, 3) := by decide +kernel
theorem dL_law_275 : decode cL_law 275 = .ok (.if_icmp .eq 959, 3) := by decide +kernel
theorem dL_law_278 : decode cL_law 278 = .ok (.iconst 0, 1) := by decide +kernel
theorem dL_law_279 : decode cL_law 279 = .ok (.ireturn, 1) := by decide +kernel
theorem dL_law_280 : decode cL_law 280 = .ok (.aload_n 1, 1) := by decide +kernel
theorem dL_law_281 : decode cL_law 281 = .ok (.aload_n 0, 1) := by decide +kernel
theorem dL_law_282 : decode cL_law 282 = .ok (.iload_n 3, 1) := by decide +kernel
theorem dL_law_283 : decode cL_law 283 = .ok (.iconst 1, 1) := by decide +kernel
theorem dL_law_284 : decode cL_law 284 = .ok (.iadd, 1) := by decide +kernel
theorem dL_law_285 : decode cL_law 285 = .ok (.iaload, 1) := by decide +kernel
theorem dL_law_286 : decode cL_law 286 = .ok (.aload_n 0, 1) := by decide +kernel
theorem dL_law_287 : decode cL_law 287 = .ok (.iload_n 3, 1) := by decide +kernel
theorem dL_law_288 : decode cL_law 288 = .ok (.iconst 2, 1) := by decide +kernel
theorem dL_law_289 : decode cL_law 289 = .ok (.iadd, 1) := by decide +kernel
theorem dL_law_290 : decode cL_law 290 = .ok (.iaload, 1) := by decide +kernel
theorem dL_law_291 : decode cL_law 291 = .ok (.invokevirtual 23, 3) := by decide +kernel
theorem dL_law_294 : decode cL_law 294 = .ok (.aload_n 2, 1) := by decide +kernel
theorem dL_law_295 : decode cL_law 295 = .ok (.aload_n 0, 1) := by decide +kernel
theorem dL_law_296 : decode cL_law 296 = .ok (.iload_n 3, 1) := by decide +kernel
theorem dL_law_297 : decode cL_law 297 = .ok (.iconst 1, 1) := by decide +kernel
theorem dL_law_298 : decode cL_law 298 = .ok (.iadd, 1) := by decide +kernel
theorem dL_law_299 : decode cL_law 299 = .ok (.iaload, 1) := by decide +kernel
theorem dL_law_300 : decode cL_law 300 = .ok (.aload_n 0, 1) := by decide +kernel
theorem dL_law_301 : decode cL_law 301 = .ok (.iload_n 3, 1) := by decide +kernel
theorem dL_law_302 : decode cL_law 302 = .ok (.iconst 2, 1) := by decide +kernel
theorem dL_law_303 : decode cL_law 303 = .ok (.iadd, 1) := by decide +kernel
theorem dL_law_304 : decode cL_law 304 = .ok (.iaload, 1) := by decide +kernel
theorem dL_law_305 : decode cL_law 305 = .ok (.invokevirtual 26, 3) := by decide +kernel
theorem dL_law_308 : decode cL_law 308 = .ok (.if_icmp .eq 926, 3) := by decide +kernel
theorem dL_law_311 : decode cL_law 311 = .ok (.iconst 0, 1) := by decide +kernel
theorem dL_law_312 : decode cL_law 312 = .ok (.ireturn, 1) := by decide +kernel
theorem dL_law_313 : decode cL_law 313 = .ok (.aload_n 1, 1) := by decide +kernel
theorem dL_law_314 : decode cL_law 314 = .ok (.aload_n 0, 1) := by decide +kernel
theorem dL_law_315 : decode cL_law 315 = .ok (.iload_n 3, 1) := by decide +kernel
theorem dL_law_316 : decode cL_law 316 = .ok (.iconst 1, 1) := by decide +kernel
theorem dL_law_317 : decode cL_law 317 = .ok (.iadd, 1) := by decide +kernel
theorem dL_law_318 : decode cL_law 318 = .ok (.iaload, 1) := by decide +kernel
theorem dL_law_319 : decode cL_law 319 = .ok (.invokevirtual 27, 3) := by decide +kernel
theorem dL_law_322 : decode cL_law 322 = .ok (.aload_n 2, 1) := by decide +kernel
theorem dL_law_323 : decode cL_law 323 = .ok (.aload_n 0, 1) := by decide +kernel
theorem dL_law_324 : decode cL_law 324 = .ok (.iload_n 3, 1) := by decide +kernel
theorem dL_law_325 : decode cL_law 325 = .ok (.iconst 1, 1) := by decide +kernel
theorem dL_law_326 : decode cL_law 326 = .ok (.iadd, 1) := by decide +kernel
theorem dL_law_327 : decode cL_law 327 = .ok (.iaload, 1) := by decide +kernel
theorem dL_law_328 : decode cL_law 328 = .ok (.invokevirtual 31, 3) := by decide +kernel
theorem dL_law_331 : decode cL_law 331 = .ok (.if_icmp .eq 903, 3) := by decide +kernel
theorem dL_law_334 : decode cL_law 334 = .ok (.iconst 0, 1) := by decide +kernel
theorem dL_law_335 : decode cL_law 335 = .ok (.ireturn, 1) := by decide +kernel
theorem dL_law_336 : decode cL_law 336 = .ok (.aload_n 1, 1) := by decide +kernel
theorem dL_law_337 : decode cL_law 337 = .ok (.aload_n 0, 1) := by decide +kernel
theorem dL_law_338 : decode cL_law 338 = .ok (.iload_n 3, 1) := by decide +kernel
theorem dL_law_339 : decode cL_law 339 = .ok (.iconst 1, 1) := by decide +kernel
theorem dL_law_340 : decode cL_law 340 = .ok (.iadd, 1) := by decide +kernel
theorem dL_law_341 : decode cL_law 341 = .ok (.iaload, 1) := by decide +kernel
theorem dL_law_342 : decode cL_law 342 = .ok (.aload_n 0, 1) := by decide +kernel
theorem dL_law_343 : decode cL_law 343 = .ok (.iload_n 3, 1) := by decide +kernel
theorem dL_law_344 : decode cL_law 344 = .ok (.iconst 2, 1) := by decide +kernel
theorem dL_law_345 : decode cL_law 345 = .ok (.iadd, 1) := by decide +kernel
theorem dL_law_346 : decode cL_law 346 = .ok (.iaload, 1) := by decide +kernel
theorem dL_law_347 : decode cL_law 347 = .ok (.aload_n 0, 1) := by decide +kernel
theorem dL_law_348 : decode cL_law 348 = .ok (.iload_n 3, 1) := by decide +kernel
theorem dL_law_349 : decode cL_law 349 = .ok (.iconst 3, 1) := by decide +kernel
theorem dL_law_350 : decode cL_law 350 = .ok (.iadd, 1) := by decide +kernel
theorem dL_law_351 : decode cL_law 351 = .ok (.iaload, 1) := by decide +kernel
theorem dL_law_352 : decode cL_law 352 = .ok (.aload_n 0, 1) := by decide +kernel
theorem dL_law_353 : decode cL_law 353 = .ok (.iload_n 3, 1) := by decide +kernel
theorem dL_law_354 : decode cL_law 354 = .ok (.iconst 4, 1) := by decide +kernel
theorem dL_law_355 : decode cL_law 355 = .ok (.iadd, 1) := by decide +kernel
theorem dL_law_356 : decode cL_law 356 = .ok (.iaload, 1) := by decide +kernel
theorem dL_law_357 : decode cL_law 357 = .ok (.aload_n 0, 1) := by decide +kernel
theorem dL_law_358 : decode cL_law 358 = .ok (.iload_n 3, 1) := by decide +kernel
theorem dL_law_359 : decode cL_law 359 = .ok (.iconst 5, 1) := by decide +kernel
theorem dL_law_360 : decode cL_law 360 = .ok (.iadd, 1) := by decide +kernel
theorem dL_law_361 : decode cL_law 361 = .ok (.iaload, 1) := by decide +kernel
theorem dL_law_362 : decode cL_law 362 = .ok (.invokevirtual 32, 3) := by decide +kernel
theorem dL_law_365 : decode cL_law 365 = .ok (.aload_n 2, 1) := by decide +kernel
theorem dL_law_366 : decode cL_law 366 = .ok (.aload_n 0, 1) := by decide +kernel
theorem dL_law_367 : decode cL_law 367 = .ok (.iload_n 3, 1) := by decide +kernel
theorem dL_law_368 : decode cL_law 368 = .ok (.iconst 1, 1) := by decide +kernel
theorem dL_law_369 : decode cL_law 369 = .ok (.iadd, 1) := by decide +kernel
theorem dL_law_370 : decode cL_law 370 = .ok (.iaload, 1) := by decide +kernel
theorem dL_law_371 : decode cL_law 371 = .ok (.aload_n 0, 1) := by decide +kernel
theorem dL_law_372 : decode cL_law 372 = .ok (.iload_n 3, 1) := by decide +kernel
theorem dL_law_373 : decode cL_law 373 = .ok (.iconst 2, 1) := by decide +kernel
theorem dL_law_374 : decode cL_law 374 = .ok (.iadd, 1) := by decide +kernel
theorem dL_law_375 : decode cL_law 375 = .ok (.iaload, 1) := by decide +kernel
theorem dL_law_376 : decode cL_law 376 = .ok (.aload_n 0, 1) := by decide +kernel
theorem dL_law_377 : decode cL_law 377 = .ok (.iload_n 3, 1) := by decide +kernel
theorem dL_law_378 : decode cL_law 378 = .ok (.iconst 3, 1) := by decide +kernel
theorem dL_law_379 : decode cL_law 379 = .ok (.iadd, 1) := by decide +kernel
theorem dL_law_380 : decode cL_law 380 = .ok (.iaload, 1) := by decide +kernel
theorem dL_law_381 : decode cL_law 381 = .ok (.aload_n 0, 1) := by decide +kernel
theorem dL_law_382 : decode cL_law 382 = .ok (.iload_n 3, 1) := by decide +kernel
theorem dL_law_383 : decode cL_law 383 = .ok (.iconst 4, 1) := by decide +kernel
theorem dL_law_384 : decode cL_law 384 = .ok (.iadd, 1) := by decide +kernel
theorem dL_law_385 : decode cL_law 385 = .ok (.iaload, 1) := by decide +kernel
theorem dL_law_386 : decode cL_law 386 = .ok (.aload_n 0, 1) := by decide +kernel
theorem dL_law_387 : decode cL_law 387 = .ok (.iload_n 3, 1) := by decide +kernel
theorem dL_law_388 : decode cL_law 388 = .ok (.iconst 5, 1) := by decide +kernel
theorem dL_law_389 : decode cL_law 389 = .ok (.iadd, 1) := by decide +kernel
theorem dL_law_390 : decode cL_law 390 = .ok (.iaload, 1) := by decide +kernel
theorem dL_law_391 : decode cL_law 391 = .ok (.invokevirtual 36, 3) := by decide +kernel
theorem dL_law_394 : decode cL_law 394 = .ok (.if_icmp .eq 840, 3) := by decide +kernel
theorem dL_law_397 : decode cL_law 397 = .ok (.iconst 0, 1) := by decide +kernel
theorem dL_law_398 : decode cL_law 398 = .ok (.ireturn, 1) := by decide +kernel
theorem dL_law_399 : decode cL_law 399 = .ok (.aload_n 1, 1) := by decide +kernel
theorem dL_law_400 : decode cL_law 400 = .ok (.aload_n 0, 1) := by decide +kernel
theorem dL_law_401 : decode cL_law 401 = .ok (.iload_n 3, 1) := by decide +kernel
theorem dL_law_402 : decode cL_law 402 = .ok (.iconst 1, 1) := by decide +kernel
theorem dL_law_403 : decode cL_law 403 = .ok (.iadd, 1) := by decide +kernel
theorem dL_law_404 : decode cL_law 404 = .ok (.iaload, 1) := by decide +kernel
theorem dL_law_405 : decode cL_law 405 = .ok (.invokevirtual 37, 3) := by decide +kernel
theorem dL_law_408 : decode cL_law 408 = .ok (.aload_n 2, 1) := by decide +kernel
theorem dL_law_409 : decode cL_law 409 = .ok (.aload_n 0, 1) := by decide +kernel
theorem dL_law_410 : decode cL_law 410 = .ok (.iload_n 3, 1) := by decide +kernel
theorem dL_law_411 : decode cL_law 411 = .ok (.iconst 1, 1) := by decide +kernel
theorem dL_law_412 : decode cL_law 412 = .ok (.iadd, 1) := by decide +kernel
theorem dL_law_413 : decode cL_law 413 = .ok (.iaload, 1) := by decide +kernel
theorem dL_law_414 : decode cL_law 414 = .ok (.invokevirtual 40, 3) := by decide +kernel
theorem dL_law_417 : decode cL_law 417 = .ok (.if_icmp .eq 817, 3) := by decide +kernel
theorem dL_law_420 : decode cL_law 420 = .ok (.iconst 0, 1) := by decide +kernel
theorem dL_law_421 : decode cL_law 421 = .ok (.ireturn, 1) := by decide +kernel
theorem dL_law_422 : decode cL_law 422 = .ok (.aload_n 1, 1) := by decide +kernel
theorem dL_law_423 : decode cL_law 423 = .ok (.aload_n 0, 1) := by decide +kernel
theorem dL_law_424 : decode cL_law 424 = .ok (.iload_n 3, 1) := by decide +kernel
theorem dL_law_425 : decode cL_law 425 = .ok (.iconst 1, 1) := by decide +kernel
theorem dL_law_426 : decode cL_law 426 = .ok (.iadd, 1) := by decide +kernel
theorem dL_law_427 : decode cL_law 427 = .ok (.iaload, 1) := by decide +kernel
theorem dL_law_428 : decode cL_law 428 = .ok (.aload_n 0, 1) := by decide +kernel
theorem dL_law_429 : decode cL_law 429 = .ok (.iload_n 3, 1) := by decide +kernel
theorem dL_law_430 : decode cL_law 430 = .ok (.iconst 2, 1) := by decide +kernel
theorem dL_law_431 : decode cL_law 431 = .ok (.iadd, 1) := by decide +kernel
theorem dL_law_432 : decode cL_law 432 = .ok (.iaload, 1) := by decide +kernel
theorem dL_law_433 : decode cL_law 433 = .ok (.invokevirtual 41, 3) := by decide +kernel
theorem dL_law_436 : decode cL_law 436 = .ok (.aload_n 2, 1) := by decide +kernel
theorem dL_law_437 : decode cL_law 437 = .ok (.aload_n 0, 1) := by decide +kernel
theorem dL_law_438 : decode cL_law 438 = .ok (.iload_n 3, 1) := by decide +kernel
theorem dL_law_439 : decode cL_law 439 = .ok (.iconst 1, 1) := by decide +kernel
theorem dL_law_440 : decode cL_law 440 = .ok (.iadd, 1) := by decide +kernel
theorem dL_law_441 : decode cL_law 441 = .ok (.iaload, 1) := by decide +kernel
theorem dL_law_442 : decode cL_law 442 = .ok (.aload_n 0, 1) := by decide +kernel
theorem dL_law_443 : decode cL_law 443 = .ok (.iload_n 3, 1) := by decide +kernel
theorem dL_law_444 : decode cL_law 444 = .ok (.iconst 2, 1) := by decide +kernel
theorem dL_law_445 : decode cL_law 445 = .ok (.iadd, 1) := by decide +kernel
theorem dL_law_446 : decode cL_law 446 = .ok (.iaload, 1) := by decide +kernel
theorem dL_law_447 : decode cL_law 447 = .ok (.invokevirtual 44, 3) := by decide +kernel
theorem dL_law_450 : decode cL_law 450 = .ok (.if_icmp .eq 784, 3) := by decide +kernel
theorem dL_law_453 : decode cL_law 453 = .ok (.iconst 0, 1) := by decide +kernel
theorem dL_law_454 : decode cL_law 454 = .ok (.ireturn, 1) := by decide +kernel
theorem dL_law_455 : decode cL_law 455 = .ok (.aload_n 1, 1) := by decide +kernel
theorem dL_law_456 : decode cL_law 456 = .ok (.aload_n 0, 1) := by decide +kernel
theorem dL_law_457 : decode cL_law 457 = .ok (.iload_n 3, 1) := by decide +kernel
theorem dL_law_458 : decode cL_law 458 = .ok (.iconst 1, 1) := by decide +kernel
theorem dL_law_459 : decode cL_law 459 = .ok (.iadd, 1) := by decide +kernel
theorem dL_law_460 : decode cL_law 460 = .ok (.iaload, 1) := by decide +kernel
theorem dL_law_461 : decode cL_law 461 = .ok (.aload_n 0, 1) := by decide +kernel
theorem dL_law_462 : decode cL_law 462 = .ok (.iload_n 3, 1) := by decide +kernel
theorem dL_law_463 : decode cL_law 463 = .ok (.iconst 2, 1) := by decide +kernel
theorem dL_law_464 : decode cL_law 464 = .ok (.iadd, 1) := by decide +kernel
theorem dL_law_465 : decode cL_law 465 = .ok (.iaload, 1) := by decide +kernel
theorem dL_law_466 : decode cL_law 466 = .ok (.aload_n 0, 1) := by decide +kernel
theorem dL_law_467 : decode cL_law 467 = .ok (.iload_n 3, 1) := by decide +kernel
theorem dL_law_468 : decode cL_law 468 = .ok (.iconst 3, 1) := by decide +kernel
theorem dL_law_469 : decode cL_law 469 = .ok (.iadd, 1) := by decide +kernel
theorem dL_law_470 : decode cL_law 470 = .ok (.iaload, 1) := by decide +kernel
theorem dL_law_471 : decode cL_law 471 = .ok (.invokevirtual 45, 3) := by decide +kernel
theorem dL_law_474 : decode cL_law 474 = .ok (.aload_n 2, 1) := by decide +kernel
theorem dL_law_475 : decode cL_law 475 = .ok (.aload_n 0, 1) := by decide +kernel
theorem dL_law_476 : decode cL_law 476 = .ok (.iload_n 3, 1) := by decide +kernel
theorem dL_law_477 : decode cL_law 477 = .ok (.iconst 1, 1) := by decide +kernel
theorem dL_law_478 : decode cL_law 478 = .ok (.iadd, 1) := by decide +kernel
theorem dL_law_479 : decode cL_law 479 = .ok (.iaload, 1) := by decide +kernel
theorem dL_law_480 : decode cL_law 480 = .ok (.aload_n 0, 1) := by decide +kernel
theorem dL_law_481 : decode cL_law 481 = .ok (.iload_n 3, 1) := by decide +kernel
theorem dL_law_482 : decode cL_law 482 = .ok (.iconst 2, 1) := by decide +kernel
theorem dL_law_483 : decode cL_law 483 = .ok (.iadd, 1) := by decide +kernel
theorem dL_law_484 : decode cL_law 484 = .ok (.iaload, 1) := by decide +kernel
theorem dL_law_485 : decode cL_law 485 = .ok (.aload_n 0, 1) := by decide +kernel
theorem dL_law_486 : decode cL_law 486 = .ok (.iload_n 3, 1) := by decide +kernel
theorem dL_law_487 : decode cL_law 487 = .ok (.iconst 3, 1) := by decide +kernel
theorem dL_law_488 : decode cL_law 488 = .ok (.iadd, 1) := by decide +kernel
theorem dL_law_489 : decode cL_law 489 = .ok (.iaload, 1) := by decide +kernel
theorem dL_law_490 : decode cL_law 490 = .ok (.invokevirtual 48, 3) := by decide +kernel
theorem dL_law_493 : decode cL_law 493 = .ok (.if_icmp .eq 741, 3) := by decide +kernel
theorem dL_law_496 : decode cL_law 496 = .ok (.iconst 0, 1) := by decide +kernel
theorem dL_law_497 : decode cL_law 497 = .ok (.ireturn, 1) := by decide +kernel
theorem dL_law_498 : decode cL_law 498 = .ok (.aload_n 1, 1) := by decide +kernel
theorem dL_law_499 : decode cL_law 499 = .ok (.aload_n 0, 1) := by decide +kernel
theorem dL_law_500 : decode cL_law 500 = .ok (.iload_n 3, 1) := by decide +kernel
theorem dL_law_501 : decode cL_law 501 = .ok (.iconst 1, 1) := by decide +kernel
theorem dL_law_502 : decode cL_law 502 = .ok (.iadd, 1) := by decide +kernel
theorem dL_law_503 : decode cL_law 503 = .ok (.iaload, 1) := by decide +kernel
theorem dL_law_504 : decode cL_law 504 = .ok (.invokevirtual 49, 3) := by decide +kernel
theorem dL_law_507 : decode cL_law 507 = .ok (.aload_n 2, 1) := by decide +kernel
theorem dL_law_508 : decode cL_law 508 = .ok (.aload_n 0, 1) := by decide +kernel
theorem dL_law_509 : decode cL_law 509 = .ok (.iload_n 3, 1) := by decide +kernel
theorem dL_law_510 : decode cL_law 510 = .ok (.iconst 1, 1) := by decide +kernel
theorem dL_law_511 : decode cL_law 511 = .ok (.iadd, 1) := by decide +kernel
theorem dL_law_512 : decode cL_law 512 = .ok (.iaload, 1) := by decide +kernel
theorem dL_law_513 : decode cL_law 513 = .ok (.invokevirtual 52, 3) := by decide +kernel
theorem dL_law_516 : decode cL_law 516 = .ok (.if_icmp .eq 718, 3) := by decide +kernel
theorem dL_law_519 : decode cL_law 519 = .ok (.iconst 0, 1) := by decide +kernel
theorem dL_law_520 : decode cL_law 520 = .ok (.ireturn, 1) := by decide +kernel
theorem dL_law_521 : decode cL_law 521 = .ok (.aload_n 1, 1) := by decide +kernel
theorem dL_law_522 : decode cL_law 522 = .ok (.aload_n 0, 1) := by decide +kernel
theorem dL_law_523 : decode cL_law 523 = .ok (.iload_n 3, 1) := by decide +kernel
theorem dL_law_524 : decode cL_law 524 = .ok (.iconst 1, 1) := by decide +kernel
theorem dL_law_525 : decode cL_law 525 = .ok (.iadd, 1) := by decide +kernel
theorem dL_law_526 : decode cL_law 526 = .ok (.iaload, 1) := by decide +kernel
theorem dL_law_527 : decode cL_law 527 = .ok (.invokevirtual 53, 3) := by decide +kernel
theorem dL_law_530 : decode cL_law 530 = .ok (.aload_n 2, 1) := by decide +kernel
theorem dL_law_531 : decode cL_law 531 = .ok (.aload_n 0, 1) := by decide +kernel
theorem dL_law_532 : decode cL_law 532 = .ok (.iload_n 3, 1) := by decide +kernel
theorem dL_law_533 : decode cL_law 533 = .ok (.iconst 1, 1) := by decide +kernel
theorem dL_law_534 : decode cL_law 534 = .ok (.iadd, 1) := by decide +kernel
theorem dL_law_535 : decode cL_law 535 = .ok (.iaload, 1) := by decide +kernel
theorem dL_law_536 : decode cL_law 536 = .ok (.invokevirtual 56, 3) := by decide +kernel
theorem dL_law_539 : decode cL_law 539 = .ok (.if_icmp .eq 695, 3) := by decide +kernel
theorem dL_law_542 : decode cL_law 542 = .ok (.iconst 0, 1) := by decide +kernel
theorem dL_law_543 : decode cL_law 543 = .ok (.ireturn, 1) := by decide +kernel
theorem dL_law_544 : decode cL_law 544 = .ok (.aload_n 1, 1) := by decide +kernel
theorem dL_law_545 : decode cL_law 545 = .ok (.aload_n 0, 1) := by decide +kernel
theorem dL_law_546 : decode cL_law 546 = .ok (.iload_n 3, 1) := by decide +kernel
theorem dL_law_547 : decode cL_law 547 = .ok (.iconst 1, 1) := by decide +kernel
theorem dL_law_548 : decode cL_law 548 = .ok (.iadd, 1) := by decide +kernel
theorem dL_law_549 : decode cL_law 549 = .ok (.iaload, 1) := by decide +kernel
theorem dL_law_550 : decode cL_law 550 = .ok (.aload_n 0, 1) := by decide +kernel
theorem dL_law_551 : decode cL_law 551 = .ok (.iload_n 3, 1) := by decide +kernel
theorem dL_law_552 : decode cL_law 552 = .ok (.iconst 2, 1) := by decide +kernel
theorem dL_law_553 : decode cL_law 553 = .ok (.iadd, 1) := by decide +kernel
theorem dL_law_554 : decode cL_law 554 = .ok (.iaload, 1) := by decide +kernel
theorem dL_law_555 : decode cL_law 555 = .ok (.invokevirtual 57, 3) := by decide +kernel
theorem dL_law_558 : decode cL_law 558 = .ok (.aload_n 2, 1) := by decide +kernel
theorem dL_law_559 : decode cL_law 559 = .ok (.aload_n 0, 1) := by decide +kernel
theorem dL_law_560 : decode cL_law 560 = .ok (.iload_n 3, 1) := by decide +kernel
theorem dL_law_561 : decode cL_law 561 = .ok (.iconst 1, 1) := by decide +kernel
theorem dL_law_562 : decode cL_law 562 = .ok (.iadd, 1) := by decide +kernel
theorem dL_law_563 : decode cL_law 563 = .ok (.iaload, 1) := by decide +kernel
theorem dL_law_564 : decode cL_law 564 = .ok (.aload_n 0, 1) := by decide +kernel
theorem dL_law_565 : decode cL_law 565 = .ok (.iload_n 3, 1) := by decide +kernel
theorem dL_law_566 : decode cL_law 566 = .ok (.iconst 2, 1) := by decide +kernel
theorem dL_law_567 : decode cL_law 567 = .ok (.iadd, 1) := by decide +kernel
theorem dL_law_568 : decode cL_law 568 = .ok (.iaload, 1) := by decide +kernel
theorem dL_law_569 : decode cL_law 569 = .ok (.invokevirtual 60, 3) := by decide +kernel
theorem dL_law_572 : decode cL_law 572 = .ok (.if_icmp .eq 662, 3) := by decide +kernel
theorem dL_law_575 : decode cL_law 575 = .ok (.iconst 0, 1) := by decide +kernel
theorem dL_law_576 : decode cL_law 576 = .ok (.ireturn, 1) := by decide +kernel
theorem dL_law_577 : decode cL_law 577 = .ok (.aload_n 1, 1) := by decide +kernel
theorem dL_law_578 : decode cL_law 578 = .ok (.aload_n 0, 1) := by decide +kernel
theorem dL_law_579 : decode cL_law 579 = .ok (.iload_n 3, 1) := by decide +kernel
theorem dL_law_580 : decode cL_law 580 = .ok (.iconst 1, 1) := by decide +kernel
theorem dL_law_581 : decode cL_law 581 = .ok (.iadd, 1) := by decide +kernel
theorem dL_law_582 : decode cL_law 582 = .ok (.iaload, 1) := by decide +kernel
theorem dL_law_583 : decode cL_law 583 = .ok (.aload_n 0, 1) := by decide +kernel
theorem dL_law_584 : decode cL_law 584 = .ok (.iload_n 3, 1) := by decide +kernel
theorem dL_law_585 : decode cL_law 585 = .ok (.iconst 2, 1) := by decide +kernel
theorem dL_law_586 : decode cL_law 586 = .ok (.iadd, 1) := by decide +kernel
theorem dL_law_587 : decode cL_law 587 = .ok (.iaload, 1) := by decide +kernel
theorem dL_law_588 : decode cL_law 588 = .ok (.invokevirtual 61, 3) := by decide +kernel
theorem dL_law_591 : decode cL_law 591 = .ok (.aload_n 2, 1) := by decide +kernel
theorem dL_law_592 : decode cL_law 592 = .ok (.aload_n 0, 1) := by decide +kernel
theorem dL_law_593 : decode cL_law 593 = .ok (.iload_n 3, 1) := by decide +kernel
theorem dL_law_594 : decode cL_law 594 = .ok (.iconst 1, 1) := by decide +kernel
theorem dL_law_595 : decode cL_law 595 = .ok (.iadd, 1) := by decide +kernel
theorem dL_law_596 : decode cL_law 596 = .ok (.iaload, 1) := by decide +kernel
theorem dL_law_597 : decode cL_law 597 = .ok (.aload_n 0, 1) := by decide +kernel
theorem dL_law_598 : decode cL_law 598 = .ok (.iload_n 3, 1) := by decide +kernel
theorem dL_law_599 : decode cL_law 599 = .ok (.iconst 2, 1) := by decide +kernel
theorem dL_law_600 : decode cL_law 600 = .ok (.iadd, 1) := by decide +kernel
theorem dL_law_601 : decode cL_law 601 = .ok (.iaload, 1) := by decide +kernel
theorem dL_law_602 : decode cL_law 602 = .ok (.invokevirtual 64, 3) := by decide +kernel
theorem dL_law_605 : decode cL_law 605 = .ok (.if_icmp .eq 629, 3) := by decide +kernel
theorem dL_law_608 : decode cL_law 608 = .ok (.iconst 0, 1) := by decide +kernel
theorem dL_law_609 : decode cL_law 609 = .ok (.ireturn, 1) := by decide +kernel
theorem dL_law_610 : decode cL_law 610 = .ok (.aload_n 1, 1) := by decide +kernel
theorem dL_law_611 : decode cL_law 611 = .ok (.invokevirtual 65, 3) := by decide +kernel
theorem dL_law_614 : decode cL_law 614 = .ok (.aload_n 2, 1) := by decide +kernel
theorem dL_law_615 : decode cL_law 615 = .ok (.invokevirtual 69, 3) := by decide +kernel
theorem dL_law_618 : decode cL_law 618 = .ok (.if_icmp .eq 616, 3) := by decide +kernel
theorem dL_law_621 : decode cL_law 621 = .ok (.iconst 0, 1) := by decide +kernel
theorem dL_law_622 : decode cL_law 622 = .ok (.ireturn, 1) := by decide +kernel
theorem dL_law_623 : decode cL_law 623 = .ok (.aload_n 1, 1) := by decide +kernel
theorem dL_law_624 : decode cL_law 624 = .ok (.aload_n 0, 1) := by decide +kernel
theorem dL_law_625 : decode cL_law 625 = .ok (.iload_n 3, 1) := by decide +kernel
theorem dL_law_626 : decode cL_law 626 = .ok (.iconst 1, 1) := by decide +kernel
theorem dL_law_627 : decode cL_law 627 = .ok (.iadd, 1) := by decide +kernel
theorem dL_law_628 : decode cL_law 628 = .ok (.iaload, 1) := by decide +kernel
theorem dL_law_629 : decode cL_law 629 = .ok (.aload_n 0, 1) := by decide +kernel
theorem dL_law_630 : decode cL_law 630 = .ok (.iload_n 3, 1) := by decide +kernel
theorem dL_law_631 : decode cL_law 631 = .ok (.iconst 2, 1) := by decide +kernel
theorem dL_law_632 : decode cL_law 632 = .ok (.iadd, 1) := by decide +kernel
theorem dL_law_633 : decode cL_law 633 = .ok (.iaload, 1) := by decide +kernel
theorem dL_law_634 : decode cL_law 634 = .ok (.invokevirtual 70, 3) := by decide +kernel
theorem dL_law_637 : decode cL_law 637 = .ok (.aload_n 2, 1) := by decide +kernel
theorem dL_law_638 : decode cL_law 638 = .ok (.aload_n 0, 1) := by decide +kernel
theorem dL_law_639 : decode cL_law 639 = .ok (.iload_n 3, 1) := by decide +kernel
theorem dL_law_640 : decode cL_law 640 = .ok (.iconst 1, 1) := by decide +kernel
theorem dL_law_641 : decode cL_law 641 = .ok (.iadd, 1) := by decide +kernel
theorem dL_law_642 : decode cL_law 642 = .ok (.iaload, 1) := by decide +kernel
theorem dL_law_643 : decode cL_law 643 = .ok (.aload_n 0, 1) := by decide +kernel
theorem dL_law_644 : decode cL_law 644 = .ok (.iload_n 3, 1) := by decide +kernel
theorem dL_law_645 : decode cL_law 645 = .ok (.iconst 2, 1) := by decide +kernel
theorem dL_law_646 : decode cL_law 646 = .ok (.iadd, 1) := by decide +kernel
theorem dL_law_647 : decode cL_law 647 = .ok (.iaload, 1) := by decide +kernel
theorem dL_law_648 : decode cL_law 648 = .ok (.invokevirtual 73, 3) := by decide +kernel
theorem dL_law_651 : decode cL_law 651 = .ok (.if_icmp .eq 583, 3) := by decide +kernel
theorem dL_law_654 : decode cL_law 654 = .ok (.iconst 0, 1) := by decide +kernel
theorem dL_law_655 : decode cL_law 655 = .ok (.ireturn, 1) := by decide +kernel
theorem dL_law_656 : decode cL_law 656 = .ok (.aload_n 1, 1) := by decide +kernel
theorem dL_law_657 : decode cL_law 657 = .ok (.aload_n 0, 1) := by decide +kernel
theorem dL_law_658 : decode cL_law 658 = .ok (.iload_n 3, 1) := by decide +kernel
theorem dL_law_659 : decode cL_law 659 = .ok (.iconst 1, 1) := by decide +kernel
theorem dL_law_660 : decode cL_law 660 = .ok (.iadd, 1) := by decide +kernel
theorem dL_law_661 : decode cL_law 661 = .ok (.iaload, 1) := by decide +kernel
theorem dL_law_662 : decode cL_law 662 = .ok (.invokevirtual 74, 3) := by decide +kernel
theorem dL_law_665 : decode cL_law 665 = .ok (.aload_n 2, 1) := by decide +kernel
theorem dL_law_666 : decode cL_law 666 = .ok (.aload_n 0, 1) := by decide +kernel
theorem dL_law_667 : decode cL_law 667 = .ok (.iload_n 3, 1) := by decide +kernel
theorem dL_law_668 : decode cL_law 668 = .ok (.iconst 1, 1) := by decide +kernel
theorem dL_law_669 : decode cL_law 669 = .ok (.iadd, 1) := by decide +kernel
theorem dL_law_670 : decode cL_law 670 = .ok (.iaload, 1) := by decide +kernel
theorem dL_law_671 : decode cL_law 671 = .ok (.invokevirtual 77, 3) := by decide +kernel
theorem dL_law_674 : decode cL_law 674 = .ok (.if_icmp .eq 560, 3) := by decide +kernel
theorem dL_law_677 : decode cL_law 677 = .ok (.iconst 0, 1) := by decide +kernel
theorem dL_law_678 : decode cL_law 678 = .ok (.ireturn, 1) := by decide +kernel
theorem dL_law_679 : decode cL_law 679 = .ok (.aload_n 1, 1) := by decide +kernel
theorem dL_law_680 : decode cL_law 680 = .ok (.aload_n 0, 1) := by decide +kernel
theorem dL_law_681 : decode cL_law 681 = .ok (.iload_n 3, 1) := by decide +kernel
theorem dL_law_682 : decode cL_law 682 = .ok (.iconst 1, 1) := by decide +kernel
theorem dL_law_683 : decode cL_law 683 = .ok (.iadd, 1) := by decide +kernel
theorem dL_law_684 : decode cL_law 684 = .ok (.iaload, 1) := by decide +kernel
theorem dL_law_685 : decode cL_law 685 = .ok (.invokevirtual 78, 3) := by decide +kernel
theorem dL_law_688 : decode cL_law 688 = .ok (.aload_n 2, 1) := by decide +kernel
theorem dL_law_689 : decode cL_law 689 = .ok (.aload_n 0, 1) := by decide +kernel
theorem dL_law_690 : decode cL_law 690 = .ok (.iload_n 3, 1) := by decide +kernel
theorem dL_law_691 : decode cL_law 691 = .ok (.iconst 1, 1) := by decide +kernel
theorem dL_law_692 : decode cL_law 692 = .ok (.iadd, 1) := by decide +kernel
theorem dL_law_693 : decode cL_law 693 = .ok (.iaload, 1) := by decide +kernel
theorem dL_law_694 : decode cL_law 694 = .ok (.invokevirtual 81, 3) := by decide +kernel
theorem dL_law_697 : decode cL_law 697 = .ok (.if_icmp .eq 537, 3) := by decide +kernel
theorem dL_law_700 : decode cL_law 700 = .ok (.iconst 0, 1) := by decide +kernel
theorem dL_law_701 : decode cL_law 701 = .ok (.ireturn, 1) := by decide +kernel
theorem dL_law_702 : decode cL_law 702 = .ok (.aload_n 1, 1) := by decide +kernel
theorem dL_law_703 : decode cL_law 703 = .ok (.aload_n 0, 1) := by decide +kernel
theorem dL_law_704 : decode cL_law 704 = .ok (.iload_n 3, 1) := by decide +kernel
theorem dL_law_705 : decode cL_law 705 = .ok (.iconst 1, 1) := by decide +kernel
theorem dL_law_706 : decode cL_law 706 = .ok (.iadd, 1) := by decide +kernel
theorem dL_law_707 : decode cL_law 707 = .ok (.iaload, 1) := by decide +kernel
theorem dL_law_708 : decode cL_law 708 = .ok (.invokevirtual 82, 3) := by decide +kernel
theorem dL_law_711 : decode cL_law 711 = .ok (.aload_n 2, 1) := by decide +kernel
theorem dL_law_712 : decode cL_law 712 = .ok (.aload_n 0, 1) := by decide +kernel
theorem dL_law_713 : decode cL_law 713 = .ok (.iload_n 3, 1) := by decide +kernel
theorem dL_law_714 : decode cL_law 714 = .ok (.iconst 1, 1) := by decide +kernel
theorem dL_law_715 : decode cL_law 715 = .ok (.iadd, 1) := by decide +kernel
theorem dL_law_716 : decode cL_law 716 = .ok (.iaload, 1) := by decide +kernel
theorem dL_law_717 : decode cL_law 717 = .ok (.invokevirtual 85, 3) := by decide +kernel
theorem dL_law_720 : decode cL_law 720 = .ok (.if_icmp .eq 514, 3) := by decide +kernel
theorem dL_law_723 : decode cL_law 723 = .ok (.iconst 0, 1) := by decide +kernel
theorem dL_law_724 : decode cL_law 724 = .ok (.ireturn, 1) := by decide +kernel
theorem dL_law_725 : decode cL_law 725 = .ok (.aload_n 1, 1) := by decide +kernel
theorem dL_law_726 : decode cL_law 726 = .ok (.aload_n 0, 1) := by decide +kernel
theorem dL_law_727 : decode cL_law 727 = .ok (.iload_n 3, 1) := by decide +kernel
theorem dL_law_728 : decode cL_law 728 = .ok (.iconst 1, 1) := by decide +kernel
theorem dL_law_729 : decode cL_law 729 = .ok (.iadd, 1) := by decide +kernel
theorem dL_law_730 : decode cL_law 730 = .ok (.iaload, 1) := by decide +kernel
theorem dL_law_731 : decode cL_law 731 = .ok (.invokevirtual 86, 3) := by decide +kernel
theorem dL_law_734 : decode cL_law 734 = .ok (.aload_n 2, 1) := by decide +kernel
theorem dL_law_735 : decode cL_law 735 = .ok (.aload_n 0, 1) := by decide +kernel
theorem dL_law_736 : decode cL_law 736 = .ok (.iload_n 3, 1) := by decide +kernel
theorem dL_law_737 : decode cL_law 737 = .ok (.iconst 1, 1) := by decide +kernel
theorem dL_law_738 : decode cL_law 738 = .ok (.iadd, 1) := by decide +kernel
theorem dL_law_739 : decode cL_law 739 = .ok (.iaload, 1) := by decide +kernel
theorem dL_law_740 : decode cL_law 740 = .ok (.invokevirtual 89, 3) := by decide +kernel
theorem dL_law_743 : decode cL_law 743 = .ok (.if_icmp .eq 491, 3) := by decide +kernel
theorem dL_law_746 : decode cL_law 746 = .ok (.iconst 0, 1) := by decide +kernel
theorem dL_law_747 : decode cL_law 747 = .ok (.ireturn, 1) := by decide +kernel
theorem dL_law_748 : decode cL_law 748 = .ok (.aload_n 1, 1) := by decide +kernel
theorem dL_law_749 : decode cL_law 749 = .ok (.aload_n 0, 1) := by decide +kernel
theorem dL_law_750 : decode cL_law 750 = .ok (.iload_n 3, 1) := by decide +kernel
theorem dL_law_751 : decode cL_law 751 = .ok (.iconst 1, 1) := by decide +kernel
theorem dL_law_752 : decode cL_law 752 = .ok (.iadd, 1) := by decide +kernel
theorem dL_law_753 : decode cL_law 753 = .ok (.iaload, 1) := by decide +kernel
theorem dL_law_754 : decode cL_law 754 = .ok (.invokevirtual 90, 3) := by decide +kernel
theorem dL_law_757 : decode cL_law 757 = .ok (.aload_n 2, 1) := by decide +kernel
theorem dL_law_758 : decode cL_law 758 = .ok (.aload_n 0, 1) := by decide +kernel
theorem dL_law_759 : decode cL_law 759 = .ok (.iload_n 3, 1) := by decide +kernel
theorem dL_law_760 : decode cL_law 760 = .ok (.iconst 1, 1) := by decide +kernel
theorem dL_law_761 : decode cL_law 761 = .ok (.iadd, 1) := by decide +kernel
theorem dL_law_762 : decode cL_law 762 = .ok (.iaload, 1) := by decide +kernel
theorem dL_law_763 : decode cL_law 763 = .ok (.invokevirtual 93, 3) := by decide +kernel
theorem dL_law_766 : decode cL_law 766 = .ok (.if_icmp .eq 468, 3) := by decide +kernel
theorem dL_law_769 : decode cL_law 769 = .ok (.iconst 0, 1) := by decide +kernel
theorem dL_law_770 : decode cL_law 770 = .ok (.ireturn, 1) := by decide +kernel
theorem dL_law_771 : decode cL_law 771 = .ok (.aload_n 1, 1) := by decide +kernel
theorem dL_law_772 : decode cL_law 772 = .ok (.aload_n 0, 1) := by decide +kernel
theorem dL_law_773 : decode cL_law 773 = .ok (.iload_n 3, 1) := by decide +kernel
theorem dL_law_774 : decode cL_law 774 = .ok (.iconst 1, 1) := by decide +kernel
theorem dL_law_775 : decode cL_law 775 = .ok (.iadd, 1) := by decide +kernel
theorem dL_law_776 : decode cL_law 776 = .ok (.iaload, 1) := by decide +kernel
theorem dL_law_777 : decode cL_law 777 = .ok (.invokevirtual 94, 3) := by decide +kernel
theorem dL_law_780 : decode cL_law 780 = .ok (.aload_n 2, 1) := by decide +kernel
theorem dL_law_781 : decode cL_law 781 = .ok (.aload_n 0, 1) := by decide +kernel
theorem dL_law_782 : decode cL_law 782 = .ok (.iload_n 3, 1) := by decide +kernel
theorem dL_law_783 : decode cL_law 783 = .ok (.iconst 1, 1) := by decide +kernel
theorem dL_law_784 : decode cL_law 784 = .ok (.iadd, 1) := by decide +kernel
theorem dL_law_785 : decode cL_law 785 = .ok (.iaload, 1) := by decide +kernel
theorem dL_law_786 : decode cL_law 786 = .ok (.invokevirtual 97, 3) := by decide +kernel
theorem dL_law_789 : decode cL_law 789 = .ok (.if_icmp .eq 445, 3) := by decide +kernel
theorem dL_law_792 : decode cL_law 792 = .ok (.iconst 0, 1) := by decide +kernel
theorem dL_law_793 : decode cL_law 793 = .ok (.ireturn, 1) := by decide +kernel
theorem dL_law_794 : decode cL_law 794 = .ok (.aload_n 1, 1) := by decide +kernel
theorem dL_law_795 : decode cL_law 795 = .ok (.invokevirtual 98, 3) := by decide +kernel
theorem dL_law_798 : decode cL_law 798 = .ok (.aload_n 2, 1) := by decide +kernel
theorem dL_law_799 : decode cL_law 799 = .ok (.invokevirtual 101, 3) := by decide +kernel
theorem dL_law_802 : decode cL_law 802 = .ok (.if_icmp .eq 432, 3) := by decide +kernel
theorem dL_law_805 : decode cL_law 805 = .ok (.iconst 0, 1) := by decide +kernel
theorem dL_law_806 : decode cL_law 806 = .ok (.ireturn, 1) := by decide +kernel
theorem dL_law_807 : decode cL_law 807 = .ok (.aload_n 1, 1) := by decide +kernel
theorem dL_law_808 : decode cL_law 808 = .ok (.invokevirtual 102, 3) := by decide +kernel
theorem dL_law_811 : decode cL_law 811 = .ok (.aload_n 2, 1) := by decide +kernel
theorem dL_law_812 : decode cL_law 812 = .ok (.invokevirtual 105, 3) := by decide +kernel
theorem dL_law_815 : decode cL_law 815 = .ok (.if_icmp .eq 419, 3) := by decide +kernel
theorem dL_law_818 : decode cL_law 818 = .ok (.iconst 0, 1) := by decide +kernel
theorem dL_law_819 : decode cL_law 819 = .ok (.ireturn, 1) := by decide +kernel
theorem dL_law_820 : decode cL_law 820 = .ok (.aload_n 1, 1) := by decide +kernel
theorem dL_law_821 : decode cL_law 821 = .ok (.invokevirtual 106, 3) := by decide +kernel
theorem dL_law_824 : decode cL_law 824 = .ok (.aload_n 2, 1) := by decide +kernel
theorem dL_law_825 : decode cL_law 825 = .ok (.invokevirtual 109, 3) := by decide +kernel
theorem dL_law_828 : decode cL_law 828 = .ok (.if_icmp .eq 406, 3) := by decide +kernel
theorem dL_law_831 : decode cL_law 831 = .ok (.iconst 0, 1) := by decide +kernel
theorem dL_law_832 : decode cL_law 832 = .ok (.ireturn, 1) := by decide +kernel
theorem dL_law_833 : decode cL_law 833 = .ok (.aload_n 1, 1) := by decide +kernel
theorem dL_law_834 : decode cL_law 834 = .ok (.aload_n 0, 1) := by decide +kernel
theorem dL_law_835 : decode cL_law 835 = .ok (.iload_n 3, 1) := by decide +kernel
theorem dL_law_836 : decode cL_law 836 = .ok (.iconst 1, 1) := by decide +kernel
theorem dL_law_837 : decode cL_law 837 = .ok (.iadd, 1) := by decide +kernel
theorem dL_law_838 : decode cL_law 838 = .ok (.iaload, 1) := by decide +kernel
theorem dL_law_839 : decode cL_law 839 = .ok (.invokevirtual 110, 3) := by decide +kernel
theorem dL_law_842 : decode cL_law 842 = .ok (.aload_n 2, 1) := by decide +kernel
theorem dL_law_843 : decode cL_law 843 = .ok (.aload_n 0, 1) := by decide +kernel
theorem dL_law_844 : decode cL_law 844 = .ok (.iload_n 3, 1) := by decide +kernel
theorem dL_law_845 : decode cL_law 845 = .ok (.iconst 1, 1) := by decide +kernel
theorem dL_law_846 : decode cL_law 846 = .ok (.iadd, 1) := by decide +kernel
theorem dL_law_847 : decode cL_law 847 = .ok (.iaload, 1) := by decide +kernel
theorem dL_law_848 : decode cL_law 848 = .ok (.invokevirtual 113, 3) := by decide +kernel
theorem dL_law_851 : decode cL_law 851 = .ok (.if_icmp .eq 383, 3) := by decide +kernel
theorem dL_law_854 : decode cL_law 854 = .ok (.iconst 0, 1) := by decide +kernel
theorem dL_law_855 : decode cL_law 855 = .ok (.ireturn, 1) := by decide +kernel
theorem dL_law_856 : decode cL_law 856 = .ok (.aload_n 1, 1) := by decide +kernel
theorem dL_law_857 : decode cL_law 857 = .ok (.aload_n 0, 1) := by decide +kernel
theorem dL_law_858 : decode cL_law 858 = .ok (.iload_n 3, 1) := by decide +kernel
theorem dL_law_859 : decode cL_law 859 = .ok (.iconst 1, 1) := by decide +kernel
theorem dL_law_860 : decode cL_law 860 = .ok (.iadd, 1) := by decide +kernel
theorem dL_law_861 : decode cL_law 861 = .ok (.iaload, 1) := by decide +kernel
theorem dL_law_862 : decode cL_law 862 = .ok (.aload_n 0, 1) := by decide +kernel
theorem dL_law_863 : decode cL_law 863 = .ok (.iload_n 3, 1) := by decide +kernel
theorem dL_law_864 : decode cL_law 864 = .ok (.iconst 2, 1) := by decide +kernel
theorem dL_law_865 : decode cL_law 865 = .ok (.iadd, 1) := by decide +kernel
theorem dL_law_866 : decode cL_law 866 = .ok (.iaload, 1) := by decide +kernel
theorem dL_law_867 : decode cL_law 867 = .ok (.invokevirtual 114, 3) := by decide +kernel
theorem dL_law_870 : decode cL_law 870 = .ok (.aload_n 2, 1) := by decide +kernel
theorem dL_law_871 : decode cL_law 871 = .ok (.aload_n 0, 1) := by decide +kernel
theorem dL_law_872 : decode cL_law 872 = .ok (.iload_n 3, 1) := by decide +kernel
theorem dL_law_873 : decode cL_law 873 = .ok (.iconst 1, 1) := by decide +kernel
theorem dL_law_874 : decode cL_law 874 = .ok (.iadd, 1) := by decide +kernel
theorem dL_law_875 : decode cL_law 875 = .ok (.iaload, 1) := by decide +kernel
theorem dL_law_876 : decode cL_law 876 = .ok (.aload_n 0, 1) := by decide +kernel
theorem dL_law_877 : decode cL_law 877 = .ok (.iload_n 3, 1) := by decide +kernel
theorem dL_law_878 : decode cL_law 878 = .ok (.iconst 2, 1) := by decide +kernel
theorem dL_law_879 : decode cL_law 879 = .ok (.iadd, 1) := by decide +kernel
theorem dL_law_880 : decode cL_law 880 = .ok (.iaload, 1) := by decide +kernel
theorem dL_law_881 : decode cL_law 881 = .ok (.invokevirtual 117, 3) := by decide +kernel
theorem dL_law_884 : decode cL_law 884 = .ok (.if_icmp .eq 350, 3) := by decide +kernel
theorem dL_law_887 : decode cL_law 887 = .ok (.iconst 0, 1) := by decide +kernel
theorem dL_law_888 : decode cL_law 888 = .ok (.ireturn, 1) := by decide +kernel
theorem dL_law_889 : decode cL_law 889 = .ok (.aload_n 1, 1) := by decide +kernel
theorem dL_law_890 : decode cL_law 890 = .ok (.aload_n 0, 1) := by decide +kernel
theorem dL_law_891 : decode cL_law 891 = .ok (.iload_n 3, 1) := by decide +kernel
theorem dL_law_892 : decode cL_law 892 = .ok (.iconst 1, 1) := by decide +kernel
theorem dL_law_893 : decode cL_law 893 = .ok (.iadd, 1) := by decide +kernel
theorem dL_law_894 : decode cL_law 894 = .ok (.iaload, 1) := by decide +kernel
theorem dL_law_895 : decode cL_law 895 = .ok (.aload_n 0, 1) := by decide +kernel
theorem dL_law_896 : decode cL_law 896 = .ok (.iload_n 3, 1) := by decide +kernel
theorem dL_law_897 : decode cL_law 897 = .ok (.iconst 2, 1) := by decide +kernel
theorem dL_law_898 : decode cL_law 898 = .ok (.iadd, 1) := by decide +kernel
theorem dL_law_899 : decode cL_law 899 = .ok (.iaload, 1) := by decide +kernel
theorem dL_law_900 : decode cL_law 900 = .ok (.invokevirtual 118, 3) := by decide +kernel
theorem dL_law_903 : decode cL_law 903 = .ok (.aload_n 2, 1) := by decide +kernel
theorem dL_law_904 : decode cL_law 904 = .ok (.aload_n 0, 1) := by decide +kernel
theorem dL_law_905 : decode cL_law 905 = .ok (.iload_n 3, 1) := by decide +kernel
theorem dL_law_906 : decode cL_law 906 = .ok (.iconst 1, 1) := by decide +kernel
theorem dL_law_907 : decode cL_law 907 = .ok (.iadd, 1) := by decide +kernel
theorem dL_law_908 : decode cL_law 908 = .ok (.iaload, 1) := by decide +kernel
theorem dL_law_909 : decode cL_law 909 = .ok (.aload_n 0, 1) := by decide +kernel
theorem dL_law_910 : decode cL_law 910 = .ok (.iload_n 3, 1) := by decide +kernel
theorem dL_law_911 : decode cL_law 911 = .ok (.iconst 2, 1) := by decide +kernel
theorem dL_law_912 : decode cL_law 912 = .ok (.iadd, 1) := by decide +kernel
theorem dL_law_913 : decode cL_law 913 = .ok (.iaload, 1) := by decide +kernel
theorem dL_law_914 : decode cL_law 914 = .ok (.invokevirtual 121, 3) := by decide +kernel
theorem dL_law_917 : decode cL_law 917 = .ok (.if_icmp .eq 317, 3) := by decide +kernel
theorem dL_law_920 : decode cL_law 920 = .ok (.iconst 0, 1) := by decide +kernel
theorem dL_law_921 : decode cL_law 921 = .ok (.ireturn, 1) := by decide +kernel
theorem dL_law_922 : decode cL_law 922 = .ok (.aload_n 1, 1) := by decide +kernel
theorem dL_law_923 : decode cL_law 923 = .ok (.aload_n 0, 1) := by decide +kernel
theorem dL_law_924 : decode cL_law 924 = .ok (.iload_n 3, 1) := by decide +kernel
theorem dL_law_925 : decode cL_law 925 = .ok (.iconst 1, 1) := by decide +kernel
theorem dL_law_926 : decode cL_law 926 = .ok (.iadd, 1) := by decide +kernel
theorem dL_law_927 : decode cL_law 927 = .ok (.iaload, 1) := by decide +kernel
theorem dL_law_928 : decode cL_law 928 = .ok (.aload_n 0, 1) := by decide +kernel
theorem dL_law_929 : decode cL_law 929 = .ok (.iload_n 3, 1) := by decide +kernel
theorem dL_law_930 : decode cL_law 930 = .ok (.iconst 2, 1) := by decide +kernel
theorem dL_law_931 : decode cL_law 931 = .ok (.iadd, 1) := by decide +kernel
theorem dL_law_932 : decode cL_law 932 = .ok (.iaload, 1) := by decide +kernel
theorem dL_law_933 : decode cL_law 933 = .ok (.invokevirtual 122, 3) := by decide +kernel
theorem dL_law_936 : decode cL_law 936 = .ok (.aload_n 2, 1) := by decide +kernel
theorem dL_law_937 : decode cL_law 937 = .ok (.aload_n 0, 1) := by decide +kernel
theorem dL_law_938 : decode cL_law 938 = .ok (.iload_n 3, 1) := by decide +kernel
theorem dL_law_939 : decode cL_law 939 = .ok (.iconst 1, 1) := by decide +kernel
theorem dL_law_940 : decode cL_law 940 = .ok (.iadd, 1) := by decide +kernel
theorem dL_law_941 : decode cL_law 941 = .ok (.iaload, 1) := by decide +kernel
theorem dL_law_942 : decode cL_law 942 = .ok (.aload_n 0, 1) := by decide +kernel
theorem dL_law_943 : decode cL_law 943 = .ok (.iload_n 3, 1) := by decide +kernel
theorem dL_law_944 : decode cL_law 944 = .ok (.iconst 2, 1) := by decide +kernel
theorem dL_law_945 : decode cL_law 945 = .ok (.iadd, 1) := by decide +kernel
theorem dL_law_946 : decode cL_law 946 = .ok (.iaload, 1) := by decide +kernel
theorem dL_law_947 : decode cL_law 947 = .ok (.invokevirtual 125, 3) := by decide +kernel
theorem dL_law_950 : decode cL_law 950 = .ok (.if_icmp .eq 284, 3) := by decide +kernel
theorem dL_law_953 : decode cL_law 953 = .ok (.iconst 0, 1) := by decide +kernel
theorem dL_law_954 : decode cL_law 954 = .ok (.ireturn, 1) := by decide +kernel
theorem dL_law_955 : decode cL_law 955 = .ok (.aload_n 1, 1) := by decide +kernel
theorem dL_law_956 : decode cL_law 956 = .ok (.aload_n 0, 1) := by decide +kernel
theorem dL_law_957 : decode cL_law 957 = .ok (.iload_n 3, 1) := by decide +kernel
theorem dL_law_958 : decode cL_law 958 = .ok (.iconst 1, 1) := by decide +kernel
theorem dL_law_959 : decode cL_law 959 = .ok (.iadd, 1) := by decide +kernel
theorem dL_law_960 : decode cL_law 960 = .ok (.iaload, 1) := by decide +kernel
theorem dL_law_961 : decode cL_law 961 = .ok (.aload_n 0, 1) := by decide +kernel
theorem dL_law_962 : decode cL_law 962 = .ok (.iload_n 3, 1) := by decide +kernel
theorem dL_law_963 : decode cL_law 963 = .ok (.iconst 2, 1) := by decide +kernel
theorem dL_law_964 : decode cL_law 964 = .ok (.iadd, 1) := by decide +kernel
theorem dL_law_965 : decode cL_law 965 = .ok (.iaload, 1) := by decide +kernel
theorem dL_law_966 : decode cL_law 966 = .ok (.invokevirtual 126, 3) := by decide +kernel
theorem dL_law_969 : decode cL_law 969 = .ok (.aload_n 2, 1) := by decide +kernel
theorem dL_law_970 : decode cL_law 970 = .ok (.aload_n 0, 1) := by decide +kernel
theorem dL_law_971 : decode cL_law 971 = .ok (.iload_n 3, 1) := by decide +kernel
theorem dL_law_972 : decode cL_law 972 = .ok (.iconst 1, 1) := by decide +kernel
theorem dL_law_973 : decode cL_law 973 = .ok (.iadd, 1) := by decide +kernel
theorem dL_law_974 : decode cL_law 974 = .ok (.iaload, 1) := by decide +kernel
theorem dL_law_975 : decode cL_law 975 = .ok (.aload_n 0, 1) := by decide +kernel
theorem dL_law_976 : decode cL_law 976 = .ok (.iload_n 3, 1) := by decide +kernel
theorem dL_law_977 : decode cL_law 977 = .ok (.iconst 2, 1) := by decide +kernel
theorem dL_law_978 : decode cL_law 978 = .ok (.iadd, 1) := by decide +kernel
theorem dL_law_979 : decode cL_law 979 = .ok (.iaload, 1) := by decide +kernel
theorem dL_law_980 : decode cL_law 980 = .ok (.invokevirtual 129, 3) := by decide +kernel
theorem dL_law_983 : decode cL_law 983 = .ok (.if_icmp .eq 251, 3) := by decide +kernel
theorem dL_law_986 : decode cL_law 986 = .ok (.iconst 0, 1) := by decide +kernel
theorem dL_law_987 : decode cL_law 987 = .ok (.ireturn, 1) := by decide +kernel
theorem dL_law_988 : decode cL_law 988 = .ok (.aload_n 1, 1) := by decide +kernel
theorem dL_law_989 : decode cL_law 989 = .ok (.aload_n 0, 1) := by decide +kernel
theorem dL_law_990 : decode cL_law 990 = .ok (.iload_n 3, 1) := by decide +kernel
theorem dL_law_991 : decode cL_law 991 = .ok (.iconst 1, 1) := by decide +kernel
theorem dL_law_992 : decode cL_law 992 = .ok (.iadd, 1) := by decide +kernel
theorem dL_law_993 : decode cL_law 993 = .ok (.iaload, 1) := by decide +kernel
theorem dL_law_994 : decode cL_law 994 = .ok (.invokevirtual 130, 3) := by decide +kernel
theorem dL_law_997 : decode cL_law 997 = .ok (.aload_n 2, 1) := by decide +kernel
theorem dL_law_998 : decode cL_law 998 = .ok (.aload_n 0, 1) := by decide +kernel
theorem dL_law_999 : decode cL_law 999 = .ok (.iload_n 3, 1) := by decide +kernel
theorem dL_law_1000 : decode cL_law 1000 = .ok (.iconst 1, 1) := by decide +kernel
theorem dL_law_1001 : decode cL_law 1001 = .ok (.iadd, 1) := by decide +kernel
theorem dL_law_1002 : decode cL_law 1002 = .ok (.iaload, 1) := by decide +kernel
theorem dL_law_1003 : decode cL_law 1003 = .ok (.invokevirtual 133, 3) := by decide +kernel
theorem dL_law_1006 : decode cL_law 1006 = .ok (.if_icmp .eq 228, 3) := by decide +kernel
theorem dL_law_1009 : decode cL_law 1009 = .ok (.iconst 0, 1) := by decide +kernel
theorem dL_law_1010 : decode cL_law 1010 = .ok (.ireturn, 1) := by decide +kernel
theorem dL_law_1011 : decode cL_law 1011 = .ok (.aload_n 1, 1) := by decide +kernel
theorem dL_law_1012 : decode cL_law 1012 = .ok (.aload_n 0, 1) := by decide +kernel
theorem dL_law_1013 : decode cL_law 1013 = .ok (.iload_n 3, 1) := by decide +kernel
theorem dL_law_1014 : decode cL_law 1014 = .ok (.iconst 1, 1) := by decide +kernel
theorem dL_law_1015 : decode cL_law 1015 = .ok (.iadd, 1) := by decide +kernel
theorem dL_law_1016 : decode cL_law 1016 = .ok (.iaload, 1) := by decide +kernel
theorem dL_law_1017 : decode cL_law 1017 = .ok (.aload_n 0, 1) := by decide +kernel
theorem dL_law_1018 : decode cL_law 1018 = .ok (.iload_n 3, 1) := by decide +kernel
theorem dL_law_1019 : decode cL_law 1019 = .ok (.iconst 2, 1) := by decide +kernel
theorem dL_law_1020 : decode cL_law 1020 = .ok (.iadd, 1) := by decide +kernel
theorem dL_law_1021 : decode cL_law 1021 = .ok (.iaload, 1) := by decide +kernel
theorem dL_law_1022 : decode cL_law 1022 = .ok (.aload_n 0, 1) := by decide +kernel
theorem dL_law_1023 : decode cL_law 1023 = .ok (.iload_n 3, 1) := by decide +kernel
theorem dL_law_1024 : decode cL_law 1024 = .ok (.iconst 3, 1) := by decide +kernel
theorem dL_law_1025 : decode cL_law 1025 = .ok (.iadd, 1) := by decide +kernel
theorem dL_law_1026 : decode cL_law 1026 = .ok (.iaload, 1) := by decide +kernel
theorem dL_law_1027 : decode cL_law 1027 = .ok (.invokevirtual 134, 3) := by decide +kernel
theorem dL_law_1030 : decode cL_law 1030 = .ok (.aload_n 2, 1) := by decide +kernel
theorem dL_law_1031 : decode cL_law 1031 = .ok (.aload_n 0, 1) := by decide +kernel
theorem dL_law_1032 : decode cL_law 1032 = .ok (.iload_n 3, 1) := by decide +kernel
theorem dL_law_1033 : decode cL_law 1033 = .ok (.iconst 1, 1) := by decide +kernel
theorem dL_law_1034 : decode cL_law 1034 = .ok (.iadd, 1) := by decide +kernel
theorem dL_law_1035 : decode cL_law 1035 = .ok (.iaload, 1) := by decide +kernel
theorem dL_law_1036 : decode cL_law 1036 = .ok (.aload_n 0, 1) := by decide +kernel
theorem dL_law_1037 : decode cL_law 1037 = .ok (.iload_n 3, 1) := by decide +kernel
theorem dL_law_1038 : decode cL_law 1038 = .ok (.iconst 2, 1) := by decide +kernel
theorem dL_law_1039 : decode cL_law 1039 = .ok (.iadd, 1) := by decide +kernel
theorem dL_law_1040 : decode cL_law 1040 = .ok (.iaload, 1) := by decide +kernel
theorem dL_law_1041 : decode cL_law 1041 = .ok (.aload_n 0, 1) := by decide +kernel
theorem dL_law_1042 : decode cL_law 1042 = .ok (.iload_n 3, 1) := by decide +kernel
theorem dL_law_1043 : decode cL_law 1043 = .ok (.iconst 3, 1) := by decide +kernel
theorem dL_law_1044 : decode cL_law 1044 = .ok (.iadd, 1) := by decide +kernel
theorem dL_law_1045 : decode cL_law 1045 = .ok (.iaload, 1) := by decide +kernel
theorem dL_law_1046 : decode cL_law 1046 = .ok (.invokevirtual 137, 3) := by decide +kernel
theorem dL_law_1049 : decode cL_law 1049 = .ok (.if_icmp .eq 185, 3) := by decide +kernel
theorem dL_law_1052 : decode cL_law 1052 = .ok (.iconst 0, 1) := by decide +kernel
theorem dL_law_1053 : decode cL_law 1053 = .ok (.ireturn, 1) := by decide +kernel
theorem dL_law_1054 : decode cL_law 1054 = .ok (.aload_n 1, 1) := by decide +kernel
theorem dL_law_1055 : decode cL_law 1055 = .ok (.aload_n 0, 1) := by decide +kernel
theorem dL_law_1056 : decode cL_law 1056 = .ok (.iload_n 3, 1) := by decide +kernel
theorem dL_law_1057 : decode cL_law 1057 = .ok (.iconst 1, 1) := by decide +kernel
theorem dL_law_1058 : decode cL_law 1058 = .ok (.iadd, 1) := by decide +kernel
theorem dL_law_1059 : decode cL_law 1059 = .ok (.iaload, 1) := by decide +kernel
theorem dL_law_1060 : decode cL_law 1060 = .ok (.aload_n 0, 1) := by decide +kernel
theorem dL_law_1061 : decode cL_law 1061 = .ok (.iload_n 3, 1) := by decide +kernel
theorem dL_law_1062 : decode cL_law 1062 = .ok (.iconst 2, 1) := by decide +kernel
theorem dL_law_1063 : decode cL_law 1063 = .ok (.iadd, 1) := by decide +kernel
theorem dL_law_1064 : decode cL_law 1064 = .ok (.iaload, 1) := by decide +kernel
theorem dL_law_1065 : decode cL_law 1065 = .ok (.invokevirtual 138, 3) := by decide +kernel
theorem dL_law_1068 : decode cL_law 1068 = .ok (.aload_n 2, 1) := by decide +kernel
theorem dL_law_1069 : decode cL_law 1069 = .ok (.aload_n 0, 1) := by decide +kernel
theorem dL_law_1070 : decode cL_law 1070 = .ok (.iload_n 3, 1) := by decide +kernel
theorem dL_law_1071 : decode cL_law 1071 = .ok (.iconst 1, 1) := by decide +kernel
theorem dL_law_1072 : decode cL_law 1072 = .ok (.iadd, 1) := by decide +kernel
theorem dL_law_1073 : decode cL_law 1073 = .ok (.iaload, 1) := by decide +kernel
theorem dL_law_1074 : decode cL_law 1074 = .ok (.aload_n 0, 1) := by decide +kernel
theorem dL_law_1075 : decode cL_law 1075 = .ok (.iload_n 3, 1) := by decide +kernel
theorem dL_law_1076 : decode cL_law 1076 = .ok (.iconst 2, 1) := by decide +kernel
theorem dL_law_1077 : decode cL_law 1077 = .ok (.iadd, 1) := by decide +kernel
theorem dL_law_1078 : decode cL_law 1078 = .ok (.iaload, 1) := by decide +kernel
theorem dL_law_1079 : decode cL_law 1079 = .ok (.invokevirtual 141, 3) := by decide +kernel
theorem dL_law_1082 : decode cL_law 1082 = .ok (.if_icmp .eq 152, 3) := by decide +kernel
theorem dL_law_1085 : decode cL_law 1085 = .ok (.iconst 0, 1) := by decide +kernel
theorem dL_law_1086 : decode cL_law 1086 = .ok (.ireturn, 1) := by decide +kernel
theorem dL_law_1087 : decode cL_law 1087 = .ok (.aload_n 1, 1) := by decide +kernel
theorem dL_law_1088 : decode cL_law 1088 = .ok (.aload_n 0, 1) := by decide +kernel
theorem dL_law_1089 : decode cL_law 1089 = .ok (.iload_n 3, 1) := by decide +kernel
theorem dL_law_1090 : decode cL_law 1090 = .ok (.iconst 1, 1) := by decide +kernel
theorem dL_law_1091 : decode cL_law 1091 = .ok (.iadd, 1) := by decide +kernel
theorem dL_law_1092 : decode cL_law 1092 = .ok (.iaload, 1) := by decide +kernel
theorem dL_law_1093 : decode cL_law 1093 = .ok (.aload_n 0, 1) := by decide +kernel
theorem dL_law_1094 : decode cL_law 1094 = .ok (.iload_n 3, 1) := by decide +kernel
theorem dL_law_1095 : decode cL_law 1095 = .ok (.iconst 2, 1) := by decide +kernel
theorem dL_law_1096 : decode cL_law 1096 = .ok (.iadd, 1) := by decide +kernel
theorem dL_law_1097 : decode cL_law 1097 = .ok (.iaload, 1) := by decide +kernel
theorem dL_law_1098 : decode cL_law 1098 = .ok (.invokevirtual 142, 3) := by decide +kernel
theorem dL_law_1101 : decode cL_law 1101 = .ok (.aload_n 2, 1) := by decide +kernel
theorem dL_law_1102 : decode cL_law 1102 = .ok (.aload_n 0, 1) := by decide +kernel
theorem dL_law_1103 : decode cL_law 1103 = .ok (.iload_n 3, 1) := by decide +kernel
theorem dL_law_1104 : decode cL_law 1104 = .ok (.iconst 1, 1) := by decide +kernel
theorem dL_law_1105 : decode cL_law 1105 = .ok (.iadd, 1) := by decide +kernel
theorem dL_law_1106 : decode cL_law 1106 = .ok (.iaload, 1) := by decide +kernel
theorem dL_law_1107 : decode cL_law 1107 = .ok (.aload_n 0, 1) := by decide +kernel
theorem dL_law_1108 : decode cL_law 1108 = .ok (.iload_n 3, 1) := by decide +kernel
theorem dL_law_1109 : decode cL_law 1109 = .ok (.iconst 2, 1) := by decide +kernel
theorem dL_law_1110 : decode cL_law 1110 = .ok (.iadd, 1) := by decide +kernel
theorem dL_law_1111 : decode cL_law 1111 = .ok (.iaload, 1) := by decide +kernel
theorem dL_law_1112 : decode cL_law 1112 = .ok (.invokevirtual 145, 3) := by decide +kernel
theorem dL_law_1115 : decode cL_law 1115 = .ok (.if_icmp .eq 119, 3) := by decide +kernel
theorem dL_law_1118 : decode cL_law 1118 = .ok (.iconst 0, 1) := by decide +kernel
theorem dL_law_1119 : decode cL_law 1119 = .ok (.ireturn, 1) := by decide +kernel
theorem dL_law_1120 : decode cL_law 1120 = .ok (.aload_n 1, 1) := by decide +kernel
theorem dL_law_1121 : decode cL_law 1121 = .ok (.invokevirtual 146, 3) := by decide +kernel
theorem dL_law_1124 : decode cL_law 1124 = .ok (.aload_n 2, 1) := by decide +kernel
theorem dL_law_1125 : decode cL_law 1125 = .ok (.invokevirtual 149, 3) := by decide +kernel
theorem dL_law_1128 : decode cL_law 1128 = .ok (.if_icmp .eq 106, 3) := by decide +kernel
theorem dL_law_1131 : decode cL_law 1131 = .ok (.iconst 0, 1) := by decide +kernel
theorem dL_law_1132 : decode cL_law 1132 = .ok (.ireturn, 1) := by decide +kernel
theorem dL_law_1133 : decode cL_law 1133 = .ok (.aload_n 1, 1) := by decide +kernel
theorem dL_law_1134 : decode cL_law 1134 = .ok (.invokevirtual 150, 3) := by decide +kernel
theorem dL_law_1137 : decode cL_law 1137 = .ok (.aload_n 2, 1) := by decide +kernel
theorem dL_law_1138 : decode cL_law 1138 = .ok (.invokevirtual 154, 3) := by decide +kernel
theorem dL_law_1141 : decode cL_law 1141 = .ok (.lcmp, 1) := by decide +kernel
theorem dL_law_1142 : decode cL_law 1142 = .ok (.ifCond .eq 92, 3) := by decide +kernel
theorem dL_law_1145 : decode cL_law 1145 = .ok (.iconst 0, 1) := by decide +kernel
theorem dL_law_1146 : decode cL_law 1146 = .ok (.ireturn, 1) := by decide +kernel
theorem dL_law_1147 : decode cL_law 1147 = .ok (.aload_n 1, 1) := by decide +kernel
theorem dL_law_1148 : decode cL_law 1148 = .ok (.invokevirtual 155, 3) := by decide +kernel
theorem dL_law_1151 : decode cL_law 1151 = .ok (.aload_n 2, 1) := by decide +kernel
theorem dL_law_1152 : decode cL_law 1152 = .ok (.invokevirtual 158, 3) := by decide +kernel
theorem dL_law_1155 : decode cL_law 1155 = .ok (.lcmp, 1) := by decide +kernel
theorem dL_law_1156 : decode cL_law 1156 = .ok (.ifCond .eq 78, 3) := by decide +kernel
theorem dL_law_1159 : decode cL_law 1159 = .ok (.iconst 0, 1) := by decide +kernel
theorem dL_law_1160 : decode cL_law 1160 = .ok (.ireturn, 1) := by decide +kernel
theorem dL_law_1161 : decode cL_law 1161 = .ok (.aload_n 1, 1) := by decide +kernel
theorem dL_law_1162 : decode cL_law 1162 = .ok (.aload_n 0, 1) := by decide +kernel
theorem dL_law_1163 : decode cL_law 1163 = .ok (.iload_n 3, 1) := by decide +kernel
theorem dL_law_1164 : decode cL_law 1164 = .ok (.iconst 1, 1) := by decide +kernel
theorem dL_law_1165 : decode cL_law 1165 = .ok (.iadd, 1) := by decide +kernel
theorem dL_law_1166 : decode cL_law 1166 = .ok (.iaload, 1) := by decide +kernel
theorem dL_law_1167 : decode cL_law 1167 = .ok (.invokevirtual 159, 3) := by decide +kernel
theorem dL_law_1170 : decode cL_law 1170 = .ok (.aload_n 2, 1) := by decide +kernel
theorem dL_law_1171 : decode cL_law 1171 = .ok (.aload_n 0, 1) := by decide +kernel
theorem dL_law_1172 : decode cL_law 1172 = .ok (.iload_n 3, 1) := by decide +kernel
theorem dL_law_1173 : decode cL_law 1173 = .ok (.iconst 1, 1) := by decide +kernel
theorem dL_law_1174 : decode cL_law 1174 = .ok (.iadd, 1) := by decide +kernel
theorem dL_law_1175 : decode cL_law 1175 = .ok (.iaload, 1) := by decide +kernel
theorem dL_law_1176 : decode cL_law 1176 = .ok (.invokevirtual 162, 3) := by decide +kernel
theorem dL_law_1179 : decode cL_law 1179 = .ok (.if_icmp .eq 55, 3) := by decide +kernel
theorem dL_law_1182 : decode cL_law 1182 = .ok (.iconst 0, 1) := by decide +kernel
theorem dL_law_1183 : decode cL_law 1183 = .ok (.ireturn, 1) := by decide +kernel
theorem dL_law_1184 : decode cL_law 1184 = .ok (.aload_n 1, 1) := by decide +kernel
theorem dL_law_1185 : decode cL_law 1185 = .ok (.invokevirtual 163, 3) := by decide +kernel
theorem dL_law_1188 : decode cL_law 1188 = .ok (.aload_n 2, 1) := by decide +kernel
theorem dL_law_1189 : decode cL_law 1189 = .ok (.invokevirtual 166, 3) := by decide +kernel
theorem dL_law_1192 : decode cL_law 1192 = .ok (.if_icmp .eq 42, 3) := by decide +kernel
theorem dL_law_1195 : decode cL_law 1195 = .ok (.iconst 0, 1) := by decide +kernel
theorem dL_law_1196 : decode cL_law 1196 = .ok (.ireturn, 1) := by decide +kernel
theorem dL_law_1197 : decode cL_law 1197 = .ok (.aload_n 1, 1) := by decide +kernel
theorem dL_law_1198 : decode cL_law 1198 = .ok (.aload_n 0, 1) := by decide +kernel
theorem dL_law_1199 : decode cL_law 1199 = .ok (.iload_n 3, 1) := by decide +kernel
theorem dL_law_1200 : decode cL_law 1200 = .ok (.iconst 1, 1) := by decide +kernel
theorem dL_law_1201 : decode cL_law 1201 = .ok (.iadd, 1) := by decide +kernel
theorem dL_law_1202 : decode cL_law 1202 = .ok (.iaload, 1) := by decide +kernel
theorem dL_law_1203 : decode cL_law 1203 = .ok (.invokevirtual 167, 3) := by decide +kernel
theorem dL_law_1206 : decode cL_law 1206 = .ok (.aload_n 2, 1) := by decide +kernel
theorem dL_law_1207 : decode cL_law 1207 = .ok (.aload_n 0, 1) := by decide +kernel
theorem dL_law_1208 : decode cL_law 1208 = .ok (.iload_n 3, 1) := by decide +kernel
theorem dL_law_1209 : decode cL_law 1209 = .ok (.iconst 1, 1) := by decide +kernel
theorem dL_law_1210 : decode cL_law 1210 = .ok (.iadd, 1) := by decide +kernel
theorem dL_law_1211 : decode cL_law 1211 = .ok (.iaload, 1) := by decide +kernel
theorem dL_law_1212 : decode cL_law 1212 = .ok (.invokevirtual 170, 3) := by decide +kernel
theorem dL_law_1215 : decode cL_law 1215 = .ok (.if_icmp .eq 19, 3) := by decide +kernel
theorem dL_law_1218 : decode cL_law 1218 = .ok (.iconst 0, 1) := by decide +kernel
theorem dL_law_1219 : decode cL_law 1219 = .ok (.ireturn, 1) := by decide +kernel
theorem dL_law_1220 : decode cL_law 1220 = .ok (.aload_n 1, 1) := by decide +kernel
theorem dL_law_1221 : decode cL_law 1221 = .ok (.invokevirtual 171, 3) := by decide +kernel
theorem dL_law_1224 : decode cL_law 1224 = .ok (.aload_n 2, 1) := by decide +kernel
theorem dL_law_1225 : decode cL_law 1225 = .ok (.invokevirtual 174, 3) := by decide +kernel
theorem dL_law_1228 : decode cL_law 1228 = .ok (.lcmp, 1) := by decide +kernel
theorem dL_law_1229 : decode cL_law 1229 = .ok (.ifCond .eq 5, 3) := by decide +kernel
theorem dL_law_1232 : decode cL_law 1232 = .ok (.iconst 0, 1) := by decide +kernel
