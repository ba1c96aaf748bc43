theorem dL_below_0 : decode cL_below 0 = .ok (.iload_n 0, 1) := by decide +kernel
theorem dL_below_1 : decode cL_below 1 = .ok (.ldc 7, 2) := by decide +kernel
theorem dL_below_3 : decode cL_below 3 = .ok (.iand, 1) := by decide +kernel
theorem dL_below_4 : decode cL_below 4 = .ok (.iload_n 1, 1) := by decide +kernel
theorem dL_below_5 : decode cL_below 5 = .ok (.irem, 1) := by decide +kernel
theorem dL_below_6 : decode cL_below 6 = .ok (.ireturn, 1) := by decide +kernel
theorem dL_build_0 : decode cL_build 0 = .ok (.iconst 2, 1) := by decide +kernel
theorem dL_build_1 : decode cL_build 1 = .ok (.aload_n 1, 1) := by decide +kernel
theorem dL_build_2 : decode cL_build 2 = .ok (.iload_n 2, 1) := by decide +kernel
theorem dL_build_3 : decode cL_build 3 = .ok (.invokestatic 9, 3) := by decide +kernel
theorem dL_build_6 : decode cL_build 6 = .ok (.iconst 5, 1) := by decide +kernel
theorem dL_build_7 : decode cL_build 7 = .ok (.invokestatic 15, 3) := by decide +kernel
theorem dL_build_10 : decode cL_build 10 = .ok (.iadd, 1) := by decide +kernel
theorem dL_build_11 : decode cL_build 11 = .ok (.istore 4, 2) := by decide +kernel
theorem dL_build_13 : decode cL_build 13 = .ok (.iconst 0, 1) := by decide +kernel
theorem dL_build_14 : decode cL_build 14 = .ok (.istore 5, 2) := by decide +kernel
theorem dL_build_16 : decode cL_build 16 = .ok (.iload 5, 2) := by decide +kernel
theorem dL_build_18 : decode cL_build 18 = .ok (.iload 4, 2) := by decide +kernel
theorem dL_build_20 : decode cL_build 20 = .ok (.if_icmp .ge 99, 3) := by decide +kernel
theorem dL_build_23 : decode cL_build 23 = .ok (.aload_n 0, 1) := by decide +kernel
theorem dL_build_24 : decode cL_build 24 = .ok (.invokevirtual 19, 3) := by decide +kernel
theorem dL_build_27 : decode cL_build 27 = .ok (.iload 5, 2) := by decide +kernel
theorem dL_build_29 : decode cL_build 29 = .ok (.if_icmp .eq 5, 3) := by decide +kernel
theorem dL_build_32 : decode cL_build 32 = .ok (.iconst (-1), 1) := by decide +kernel
theorem dL_build_33 : decode cL_build 33 = .ok (.ireturn, 1) := by decide +kernel
theorem dL_build_34 : decode cL_build 34 = .ok (.aload_n 1, 1) := by decide +kernel
theorem dL_build_35 : decode cL_build 35 = .ok (.iload_n 2, 1) := by decide +kernel
theorem dL_build_36 : decode cL_build 36 = .ok (.invokestatic 9, 3) := by decide +kernel
theorem dL_build_39 : decode cL_build 39 = .ok (.iconst 3, 1) := by decide +kernel
theorem dL_build_40 : decode cL_build 40 = .ok (.iconst 4, 1) := by decide +kernel
theorem dL_build_41 : decode cL_build 41 = .ok (.iload 5, 2) := by decide +kernel
theorem dL_build_43 : decode cL_build 43 = .ok (.imul, 1) := by decide +kernel
theorem dL_build_44 : decode cL_build 44 = .ok (.iadd, 1) := by decide +kernel
theorem dL_build_45 : decode cL_build 45 = .ok (.ishr, 1) := by decide +kernel
theorem dL_build_46 : decode cL_build 46 = .ok (.istore 6, 2) := by decide +kernel
theorem dL_build_48 : decode cL_build 48 = .ok (.aload_n 3, 1) := by decide +kernel
theorem dL_build_49 : decode cL_build 49 = .ok (.iload 5, 2) := by decide +kernel
theorem dL_build_51 : decode cL_build 51 = .ok (.iload 6, 2) := by decide +kernel
theorem dL_build_53 : decode cL_build 53 = .ok (.iconst 4, 1) := by decide +kernel
theorem dL_build_54 : decode cL_build 54 = .ok (.invokestatic 15, 3) := by decide +kernel
theorem dL_build_57 : decode cL_build 57 = .ok (.ifCond .ne 7, 3) := by decide +kernel
theorem dL_build_60 : decode cL_build 60 = .ok (.iconst 0, 1) := by decide +kernel
theorem dL_build_61 : decode cL_build 61 = .ok (.goto 12, 3) := by decide +kernel
theorem dL_build_64 : decode cL_build 64 = .ok (.iload 6, 2) := by decide +kernel
theorem dL_build_66 : decode cL_build 66 = .ok (.iconst 1, 1) := by decide +kernel
theorem dL_build_67 : decode cL_build 67 = .ok (.ishr, 1) := by decide +kernel
theorem dL_build_68 : decode cL_build 68 = .ok (.bipush 12, 2) := by decide +kernel
theorem dL_build_70 : decode cL_build 70 = .ok (.invokestatic 15, 3) := by decide +kernel
theorem dL_build_73 : decode cL_build 73 = .ok (.iastore, 1) := by decide +kernel
theorem dL_build_74 : decode cL_build 74 = .ok (.aload_n 3, 1) := by decide +kernel
theorem dL_build_75 : decode cL_build 75 = .ok (.bipush 6, 2) := by decide +kernel
theorem dL_build_77 : decode cL_build 77 = .ok (.iload 5, 2) := by decide +kernel
theorem dL_build_79 : decode cL_build 79 = .ok (.iadd, 1) := by decide +kernel
theorem dL_build_80 : decode cL_build 80 = .ok (.iload 6, 2) := by decide +kernel
theorem dL_build_82 : decode cL_build 82 = .ok (.iconst 2, 1) := by decide +kernel
theorem dL_build_83 : decode cL_build 83 = .ok (.ishr, 1) := by decide +kernel
theorem dL_build_84 : decode cL_build 84 = .ok (.iconst 4, 1) := by decide +kernel
theorem dL_build_85 : decode cL_build 85 = .ok (.invokestatic 15, 3) := by decide +kernel
theorem dL_build_88 : decode cL_build 88 = .ok (.iastore, 1) := by decide +kernel
theorem dL_build_89 : decode cL_build 89 = .ok (.aload_n 0, 1) := by decide +kernel
theorem dL_build_90 : decode cL_build 90 = .ok (.iload 5, 2) := by decide +kernel
theorem dL_build_92 : decode cL_build 92 = .ok (.aload_n 3, 1) := by decide +kernel
theorem dL_build_93 : decode cL_build 93 = .ok (.iload 5, 2) := by decide +kernel
theorem dL_build_95 : decode cL_build 95 = .ok (.iaload, 1) := by decide +kernel
theorem dL_build_96 : decode cL_build 96 = .ok (.aload_n 3, 1) := by decide +kernel
theorem dL_build_97 : decode cL_build 97 = .ok (.bipush 6, 2) := by decide +kernel
theorem dL_build_99 : decode cL_build 99 = .ok (.iload 5, 2) := by decide +kernel
theorem dL_build_101 : decode cL_build 101 = .ok (.iadd, 1) := by decide +kernel
theorem dL_build_102 : decode cL_build 102 = .ok (.iaload, 1) := by decide +kernel
theorem dL_build_103 : decode cL_build 103 = .ok (.invokevirtual 25, 3) := by decide +kernel
theorem dL_build_106 : decode cL_build 106 = .ok (.bipush 10, 2) := by decide +kernel
theorem dL_build_108 : decode cL_build 108 = .ok (.if_icmp .eq 5, 3) := by decide +kernel
theorem dL_build_111 : decode cL_build 111 = .ok (.iconst (-1), 1) := by decide +kernel
theorem dL_build_112 : decode cL_build 112 = .ok (.ireturn, 1) := by decide +kernel
theorem dL_build_113 : decode cL_build 113 = .ok (.iinc 5 1, 3) := by decide +kernel
theorem dL_build_116 : decode cL_build 116 = .ok (.goto (-100), 3) := by decide +kernel
theorem dL_build_119 : decode cL_build 119 = .ok (.aload_n 0, 1) := by decide +kernel
theorem dL_build_120 : decode cL_build 120 = .ok (.aload_n 1, 1) := by decide +kernel
theorem dL_build_121 : decode cL_build 121 = .ok (.iload_n 2, 1) := by decide +kernel
theorem dL_build_122 : decode cL_build 122 = .ok (.iconst 1, 1) := by decide +kernel
theorem dL_build_123 : decode cL_build 123 = .ok (.iadd, 1) := by decide +kernel
theorem dL_build_124 : decode cL_build 124 = .ok (.invokestatic 9, 3) := by decide +kernel
theorem dL_build_127 : decode cL_build 127 = .ok (.aload_n 3, 1) := by decide +kernel
theorem dL_build_128 : decode cL_build 128 = .ok (.invokestatic 29, 3) := by decide +kernel
theorem dL_build_131 : decode cL_build 131 = .ok (.iload 4, 2) := by decide +kernel
theorem dL_build_133 : decode cL_build 133 = .ok (.ireturn, 1) := by decide +kernel
theorem dL_cell_0 : decode cL_cell 0 = .ok (.iload_n 1, 1) := by decide +kernel
theorem dL_cell_1 : decode cL_cell 1 = .ok (.aload_n 0, 1) := by decide +kernel
theorem dL_cell_2 : decode cL_cell 2 = .ok (.arraylength, 1) := by decide +kernel
theorem dL_cell_3 : decode cL_cell 3 = .ok (.if_icmp .ge 9, 3) := by decide +kernel
theorem dL_cell_6 : decode cL_cell 6 = .ok (.aload_n 0, 1) := by decide +kernel
theorem dL_cell_7 : decode cL_cell 7 = .ok (.iload_n 1, 1) := by decide +kernel
theorem dL_cell_8 : decode cL_cell 8 = .ok (.iaload, 1) := by decide +kernel
theorem dL_cell_9 : decode cL_cell 9 = .ok (.goto 9, 3) := by decide +kernel
theorem dL_cell_12 : decode cL_cell 12 = .ok (.ldc 8, 2) := by decide +kernel
theorem dL_cell_14 : decode cL_cell 14 = .ok (.iload_n 1, 1) := by decide +kernel
theorem dL_cell_15 : decode cL_cell 15 = .ok (.iconst 3, 1) := by decide +kernel
theorem dL_cell_16 : decode cL_cell 16 = .ok (.iadd, 1) := by decide +kernel
theorem dL_cell_17 : decode cL_cell 17 = .ok (.imul, 1) := by decide +kernel
theorem dL_cell_18 : decode cL_cell 18 = .ok (.ireturn, 1) := by decide +kernel
theorem dL_generated_0 : decode cL_generated 0 = .ok (.iload_n 0, 1) := by decide +kernel
theorem dL_generated_1 : decode cL_generated 1 = .ok (.iconst 3, 1) := by decide +kernel
theorem dL_generated_2 : decode cL_generated 2 = .ok (.invokestatic 15, 3) := by decide +kernel
theorem dL_generated_5 : decode cL_generated 5 = .ok (.ifCond .ne 7, 3) := by decide +kernel
theorem dL_generated_8 : decode cL_generated 8 = .ok (.iconst 0, 1) := by decide +kernel
theorem dL_generated_9 : decode cL_generated 9 = .ok (.goto 11, 3) := by decide +kernel
theorem dL_generated_12 : decode cL_generated 12 = .ok (.iload_n 0, 1) := by decide +kernel
theorem dL_generated_13 : decode cL_generated 13 = .ok (.iconst 2, 1) := by decide +kernel
theorem dL_generated_14 : decode cL_generated 14 = .ok (.ishr, 1) := by decide +kernel
theorem dL_generated_15 : decode cL_generated 15 = .ok (.bipush 40, 2) := by decide +kernel
theorem dL_generated_17 : decode cL_generated 17 = .ok (.invokestatic 15, 3) := by decide +kernel
theorem dL_generated_20 : decode cL_generated 20 = .ok (.ireturn, 1) := by decide +kernel
theorem dL_law_0 : decode cL_law 0 = .ok (.new 20, 3) := by decide +kernel
theorem dL_law_3 : decode cL_law 3 = .ok (.dup, 1) := by decide +kernel
theorem dL_law_4 : decode cL_law 4 = .ok (.invokespecial 43, 3) := by decide +kernel
theorem dL_law_7 : decode cL_law 7 = .ok (.astore_n 1, 1) := by decide +kernel
theorem dL_law_8 : decode cL_law 8 = .ok (.bipush 19, 2) := by decide +kernel
theorem dL_law_10 : decode cL_law 10 = .ok (.newarray .int, 2) := by decide +kernel
theorem dL_law_12 : decode cL_law 12 = .ok (.astore_n 2, 1) := by decide +kernel
theorem dL_law_13 : decode cL_law 13 = .ok (.aload_n 1, 1) := by decide +kernel
theorem dL_law_14 : decode cL_law 14 = .ok (.aload_n 0, 1) := by decide +kernel
theorem dL_law_15 : decode cL_law 15 = .ok (.iconst 0, 1) := by decide +kernel
theorem dL_law_16 : decode cL_law 16 = .ok (.aload_n 2, 1) := by decide +kernel
theorem dL_law_17 : decode cL_law 17 = .ok (.invokestatic 44, 3) := by decide +kernel
theorem dL_law_20 : decode cL_law 20 = .ok (.istore_n 3, 1) := by decide +kernel
theorem dL_law_21 : decode cL_law 21 = .ok (.iload_n 3, 1) := by decide +kernel
theorem dL_law_22 : decode cL_law 22 = .ok (.ifCond .ge 5, 3) := by decide +kernel
theorem dL_law_25 : decode cL_law 25 = .ok (.iconst 0, 1) := by decide +kernel
theorem dL_law_26 : decode cL_law 26 = .ok (.ireturn, 1) := by decide +kernel
theorem dL_law_27 : decode cL_law 27 = .ok (.bipush 48, 2) := by decide +kernel
theorem dL_law_29 : decode cL_law 29 = .ok (.newarray .int, 2) := by decide +kernel
theorem dL_law_31 : decode cL_law 31 = .ok (.astore 4, 2) := by decide +kernel
theorem dL_law_33 : decode cL_law 33 = .ok (.bipush 48, 2) := by decide +kernel
theorem dL_law_35 : decode cL_law 35 = .ok (.newarray .int, 2) := by decide +kernel
theorem dL_law_37 : decode cL_law 37 = .ok (.astore 5, 2) := by decide +kernel
theorem dL_law_39 : decode cL_law 39 = .ok (.iconst 0, 1) := by decide +kernel
theorem dL_law_40 : decode cL_law 40 = .ok (.istore 6, 2) := by decide +kernel
theorem dL_law_42 : decode cL_law 42 = .ok (.iload 6, 2) := by decide +kernel
theorem dL_law_44 : decode cL_law 44 = .ok (.bipush 14, 2) := by decide +kernel
theorem dL_law_46 : decode cL_law 46 = .ok (.if_icmp .ge 580, 3) := by decide +kernel
theorem dL_law_49 : decode cL_law 49 = .ok (.aload_n 0, 1) := by decide +kernel
theorem dL_law_50 : decode cL_law 50 = .ok (.iconst 2, 1) := by decide +kernel
theorem dL_law_51 : decode cL_law 51 = .ok (.iload 6, 2) := by decide +kernel
theorem dL_law_53 : decode cL_law 53 = .ok (.bipush 9, 2) := by decide +kernel
theorem dL_law_55 : decode cL_law 55 = .ok (.irem, 1) := by decide +kernel
theorem dL_law_56 : decode cL_law 56 = .ok (.iadd, 1) := by decide +kernel
theorem dL_law_57 : decode cL_law 57 = .ok (.invokestatic 9, 3) := by decide +kernel
theorem dL_law_60 : decode cL_law 60 = .ok (.iload 6, 2) := by decide +kernel
theorem dL_law_62 : decode cL_law 62 = .ok (.sipush 2741, 3) := by decide +kernel
theorem dL_law_65 : decode cL_law 65 = .ok (.imul, 1) := by decide +kernel
theorem dL_law_66 : decode cL_law 66 = .ok (.ixor, 1) := by decide +kernel
theorem dL_law_67 : decode cL_law 67 = .ok (.istore 7, 2) := by decide +kernel
theorem dL_law_69 : decode cL_law 69 = .ok (.aload_n 1, 1) := by decide +kernel
theorem dL_law_70 : decode cL_law 70 = .ok (.invokevirtual 48, 3) := by decide +kernel
theorem dL_law_73 : decode cL_law 73 = .ok (.istore 8, 2) := by decide +kernel
theorem dL_law_75 : decode cL_law 75 = .ok (.iconst 0, 1) := by decide +kernel
theorem dL_law_76 : decode cL_law 76 = .ok (.istore 9, 2) := by decide +kernel
theorem dL_law_78 : decode cL_law 78 = .ok (.iload 9, 2) := by decide +kernel
theorem dL_law_80 : decode cL_law 80 = .ok (.iload_n 3, 1) := by decide +kernel
theorem dL_law_81 : decode cL_law 81 = .ok (.if_icmp .ge 38, 3) := by decide +kernel
theorem dL_law_84 : decode cL_law 84 = .ok (.aload_n 1, 1) := by decide +kernel
theorem dL_law_85 : decode cL_law 85 = .ok (.iload 9, 2) := by decide +kernel
theorem dL_law_87 : decode cL_law 87 = .ok (.iload 8, 2) := by decide +kernel
theorem dL_law_89 : decode cL_law 89 = .ok (.iload 7, 2) := by decide +kernel
theorem dL_law_91 : decode cL_law 91 = .ok (.iload 9, 2) := by decide +kernel
theorem dL_law_93 : decode cL_law 93 = .ok (.iconst 2, 1) := by decide +kernel
theorem dL_law_94 : decode cL_law 94 = .ok (.imul, 1) := by decide +kernel
theorem dL_law_95 : decode cL_law 95 = .ok (.ishr, 1) := by decide +kernel
theorem dL_law_96 : decode cL_law 96 = .ok (.invokestatic 51, 3) := by decide +kernel
theorem dL_law_99 : decode cL_law 99 = .ok (.iload 7, 2) := by decide +kernel
theorem dL_law_101 : decode cL_law 101 = .ok (.iload 9, 2) := by decide +kernel
theorem dL_law_103 : decode cL_law 103 = .ok (.iconst 2, 1) := by decide +kernel
theorem dL_law_104 : decode cL_law 104 = .ok (.imul, 1) := by decide +kernel
theorem dL_law_105 : decode cL_law 105 = .ok (.ishr, 1) := by decide +kernel
theorem dL_law_106 : decode cL_law 106 = .ok (.invokestatic 54, 3) := by decide +kernel
theorem dL_law_109 : decode cL_law 109 = .ok (.invokevirtual 57, 3) := by decide +kernel
theorem dL_law_112 : decode cL_law 112 = .ok (.pop, 1) := by decide +kernel
theorem dL_law_113 : decode cL_law 113 = .ok (.iinc 9 1, 3) := by decide +kernel
theorem dL_law_116 : decode cL_law 116 = .ok (.goto (-38), 3) := by decide +kernel
theorem dL_law_119 : decode cL_law 119 = .ok (.iload 7, 2) := by decide +kernel
theorem dL_law_121 : decode cL_law 121 = .ok (.iconst 4, 1) := by decide +kernel
theorem dL_law_122 : decode cL_law 122 = .ok (.invokestatic 15, 3) := by decide +kernel
theorem dL_law_125 : decode cL_law 125 = .ok (.ifCond .ne 12, 3) := by decide +kernel
theorem dL_law_128 : decode cL_law 128 = .ok (.aload_n 1, 1) := by decide +kernel
theorem dL_law_129 : decode cL_law 129 = .ok (.iload 7, 2) := by decide +kernel
theorem dL_law_131 : decode cL_law 131 = .ok (.iconst 1, 1) := by decide +kernel
theorem dL_law_132 : decode cL_law 132 = .ok (.ishr, 1) := by decide +kernel
theorem dL_law_133 : decode cL_law 133 = .ok (.aload_n 2, 1) := by decide +kernel
theorem dL_law_134 : decode cL_law 134 = .ok (.invokestatic 29, 3) := by decide +kernel
theorem dL_law_137 : decode cL_law 137 = .ok (.aload 4, 2) := by decide +kernel
theorem dL_law_139 : decode cL_law 139 = .ok (.iload 8, 2) := by decide +kernel
theorem dL_law_141 : decode cL_law 141 = .ok (.aload_n 2, 1) := by decide +kernel
theorem dL_law_142 : decode cL_law 142 = .ok (.bipush 17, 2) := by decide +kernel
theorem dL_law_144 : decode cL_law 144 = .ok (.iaload, 1) := by decide +kernel
theorem dL_law_145 : decode cL_law 145 = .ok (.iastore, 1) := by decide +kernel
theorem dL_law_146 : decode cL_law 146 = .ok (.aload 5, 2) := by decide +kernel
theorem dL_law_148 : decode cL_law 148 = .ok (.iload 8, 2) := by decide +kernel
theorem dL_law_150 : decode cL_law 150 = .ok (.aload_n 2, 1) := by decide +kernel
theorem dL_law_151 : decode cL_law 151 = .ok (.bipush 15, 2) := by decide +kernel
theorem dL_law_153 : decode cL_law 153 = .ok (.iaload, 1) := by decide +kernel
theorem dL_law_154 : decode cL_law 154 = .ok (.iastore, 1) := by decide +kernel
theorem dL_law_155 : decode cL_law 155 = .ok (.aload_n 1, 1) := by decide +kernel
theorem dL_law_156 : decode cL_law 156 = .ok (.invokevirtual 61, 3) := by decide +kernel
theorem dL_law_159 : decode cL_law 159 = .ok (.pop, 1) := by decide +kernel
theorem dL_law_160 : decode cL_law 160 = .ok (.iload 7, 2) := by decide +kernel
theorem dL_law_162 : decode cL_law 162 = .ok (.iconst 3, 1) := by decide +kernel
theorem dL_law_163 : decode cL_law 163 = .ok (.ishr, 1) := by decide +kernel
theorem dL_law_164 : decode cL_law 164 = .ok (.iconst 3, 1) := by decide +kernel
theorem dL_law_165 : decode cL_law 165 = .ok (.invokestatic 15, 3) := by decide +kernel
theorem dL_law_168 : decode cL_law 168 = .ok (.ifCond .ne 44, 3) := by decide +kernel
theorem dL_law_171 : decode cL_law 171 = .ok (.aload_n 1, 1) := by decide +kernel
theorem dL_law_172 : decode cL_law 172 = .ok (.iload 7, 2) := by decide +kernel
theorem dL_law_174 : decode cL_law 174 = .ok (.iconst 5, 1) := by decide +kernel
theorem dL_law_175 : decode cL_law 175 = .ok (.ishr, 1) := by decide +kernel
theorem dL_law_176 : decode cL_law 176 = .ok (.iload_n 3, 1) := by decide +kernel
theorem dL_law_177 : decode cL_law 177 = .ok (.invokestatic 15, 3) := by decide +kernel
theorem dL_law_180 : decode cL_law 180 = .ok (.iload 7, 2) := by decide +kernel
theorem dL_law_182 : decode cL_law 182 = .ok (.bipush 6, 2) := by decide +kernel
theorem dL_law_184 : decode cL_law 184 = .ok (.ishr, 1) := by decide +kernel
theorem dL_law_185 : decode cL_law 185 = .ok (.iload 8, 2) := by decide +kernel
theorem dL_law_187 : decode cL_law 187 = .ok (.iconst 1, 1) := by decide +kernel
theorem dL_law_188 : decode cL_law 188 = .ok (.iadd, 1) := by decide +kernel
theorem dL_law_189 : decode cL_law 189 = .ok (.invokestatic 15, 3) := by decide +kernel
theorem dL_law_192 : decode cL_law 192 = .ok (.iload 7, 2) := by decide +kernel
theorem dL_law_194 : decode cL_law 194 = .ok (.bipush 8, 2) := by decide +kernel
theorem dL_law_196 : decode cL_law 196 = .ok (.ishr, 1) := by decide +kernel
theorem dL_law_197 : decode cL_law 197 = .ok (.invokestatic 51, 3) := by decide +kernel
theorem dL_law_200 : decode cL_law 200 = .ok (.iload 7, 2) := by decide +kernel
theorem dL_law_202 : decode cL_law 202 = .ok (.bipush 8, 2) := by decide +kernel
theorem dL_law_204 : decode cL_law 204 = .ok (.ishr, 1) := by decide +kernel
theorem dL_law_205 : decode cL_law 205 = .ok (.invokestatic 54, 3) := by decide +kernel
theorem dL_law_208 : decode cL_law 208 = .ok (.invokevirtual 64, 3) := by decide +kernel
theorem dL_law_211 : decode cL_law 211 = .ok (.pop2, 1) := by decide +kernel
theorem dL_law_212 : decode cL_law 212 = .ok (.iconst 0, 1) := by decide +kernel
theorem dL_law_213 : decode cL_law 213 = .ok (.istore 9, 2) := by decide +kernel
theorem dL_law_215 : decode cL_law 215 = .ok (.iconst 0, 1) := by decide +kernel
theorem dL_law_216 : decode cL_law 216 = .ok (.istore 10, 2) := by decide +kernel
theorem dL_law_218 : decode cL_law 218 = .ok (.iload 10, 2) := by decide +kernel
theorem dL_law_220 : decode cL_law 220 = .ok (.iload 8, 2) := by decide +kernel
theorem dL_law_222 : decode cL_law 222 = .ok (.if_icmp .gt 299, 3) := by decide +kernel
theorem dL_law_225 : decode cL_law 225 = .ok (.iload 9, 2) := by decide +kernel
theorem dL_law_227 : decode cL_law 227 = .ok (.aload 5, 2) := by decide +kernel
theorem dL_law_229 : decode cL_law 229 = .ok (.iload 10, 2) := by decide +kernel
theorem dL_law_231 : decode cL_law 231 = .ok (.iaload, 1) := by decide +kernel
theorem dL_law_232 : decode cL_law 232 = .ok (.invokestatic 68, 3) := by decide +kernel
theorem dL_law_235 : decode cL_law 235 = .ok (.istore 9, 2) := by decide +kernel
theorem dL_law_237 : decode cL_law 237 = .ok (.aload_n 1, 1) := by decide +kernel
theorem dL_law_238 : decode cL_law 238 = .ok (.iload 10, 2) := by decide +kernel
theorem dL_law_240 : decode cL_law 240 = .ok (.invokevirtual 73, 3) := by decide +kernel
theorem dL_law_243 : decode cL_law 243 = .ok (.iload 9, 2) := by decide +kernel
theorem dL_law_245 : decode cL_law 245 = .ok (.if_icmp .eq 5, 3) := by decide +kernel
theorem dL_law_248 : decode cL_law 248 = .ok (.iconst 0, 1) := by decide +kernel
theorem dL_law_249 : decode cL_law 249 = .ok (.ireturn, 1) := by decide +kernel
theorem dL_law_250 : decode cL_law 250 = .ok (.iconst 0, 1) := by decide +kernel
theorem dL_law_251 : decode cL_law 251 = .ok (.istore 11, 2) := by decide +kernel
theorem dL_law_253 : decode cL_law 253 = .ok (.iconst 0, 1) := by decide +kernel
theorem dL_law_254 : decode cL_law 254 = .ok (.istore 12, 2) := by decide +kernel
theorem dL_law_256 : decode cL_law 256 = .ok (.iconst 0, 1) := by decide +kernel
theorem dL_law_257 : decode cL_law 257 = .ok (.istore 13, 2) := by decide +kernel
theorem dL_law_259 : decode cL_law 259 = .ok (.iconst 0, 1) := by decide +kernel
theorem dL_law_260 : decode cL_law 260 = .ok (.istore 14, 2) := by decide +kernel
theorem dL_law_262 : decode cL_law 262 = .ok (.iconst 0, 1) := by decide +kernel
theorem dL_law_263 : decode cL_law 263 = .ok (.istore 15, 2) := by decide +kernel
theorem dL_law_265 : decode cL_law 265 = .ok (.iload 15, 2) := by decide +kernel
theorem dL_law_267 : decode cL_law 267 = .ok (.iload_n 3, 1) := by decide +kernel
theorem dL_law_268 : decode cL_law 268 = .ok (.if_icmp .ge 192, 3) := by decide +kernel
theorem dL_law_271 : decode cL_law 271 = .ok (.bipush 8, 2) := by decide +kernel
theorem dL_law_273 : decode cL_law 273 = .ok (.newarray .int, 2) := by decide +kernel
theorem dL_law_275 : decode cL_law 275 = .ok (.astore 16, 2) := by decide +kernel
theorem dL_law_277 : decode cL_law 277 = .ok (.iconst 0, 1) := by decide +kernel
theorem dL_law_278 : decode cL_law 278 = .ok (.istore 17, 2) := by decide +kernel
theorem dL_law_280 : decode cL_law 280 = .ok (.iload 17, 2) := by decide +kernel
theorem dL_law_282 : decode cL_law 282 = .ok (.bipush 8, 2) := by decide +kernel
theorem dL_law_284 : decode cL_law 284 = .ok (.if_icmp .ge 41, 3) := by decide +kernel
theorem dL_law_287 : decode cL_law 287 = .ok (.aload 16, 2) := by decide +kernel
theorem dL_law_289 : decode cL_law 289 = .ok (.iload 17, 2) := by decide +kernel
theorem dL_law_291 : decode cL_law 291 = .ok (.aload_n 1, 1) := by decide +kernel
theorem dL_law_292 : decode cL_law 292 = .ok (.iload 10, 2) := by decide +kernel
theorem dL_law_294 : decode cL_law 294 = .ok (.iload 15, 2) := by decide +kernel
theorem dL_law_296 : decode cL_law 296 = .ok (.iload 17, 2) := by decide +kernel
theorem dL_law_298 : decode cL_law 298 = .ok (.invokevirtual 76, 3) := by decide +kernel
theorem dL_law_301 : decode cL_law 301 = .ok (.iastore, 1) := by decide +kernel
theorem dL_law_302 : decode cL_law 302 = .ok (.iload 17, 2) := by decide +kernel
theorem dL_law_304 : decode cL_law 304 = .ok (.bipush 7, 2) := by decide +kernel
theorem dL_law_306 : decode cL_law 306 = .ok (.if_icmp .ge 13, 3) := by decide +kernel
theorem dL_law_309 : decode cL_law 309 = .ok (.aload 16, 2) := by decide +kernel
theorem dL_law_311 : decode cL_law 311 = .ok (.iload 17, 2) := by decide +kernel
theorem dL_law_313 : decode cL_law 313 = .ok (.iaload, 1) := by decide +kernel
theorem dL_law_314 : decode cL_law 314 = .ok (.ifCond .ge 5, 3) := by decide +kernel
theorem dL_law_317 : decode cL_law 317 = .ok (.iconst 0, 1) := by decide +kernel
theorem dL_law_318 : decode cL_law 318 = .ok (.ireturn, 1) := by decide +kernel
theorem dL_law_319 : decode cL_law 319 = .ok (.iinc 17 1, 3) := by decide +kernel
theorem dL_law_322 : decode cL_law 322 = .ok (.goto (-42), 3) := by decide +kernel
theorem dL_law_325 : decode cL_law 325 = .ok (.aload 16, 2) := by decide +kernel
theorem dL_law_327 : decode cL_law 327 = .ok (.iconst 0, 1) := by decide +kernel
theorem dL_law_328 : decode cL_law 328 = .ok (.iaload, 1) := by decide +kernel
theorem dL_law_329 : decode cL_law 329 = .ok (.aload 16, 2) := by decide +kernel
theorem dL_law_331 : decode cL_law 331 = .ok (.iconst 1, 1) := by decide +kernel
theorem dL_law_332 : decode cL_law 332 = .ok (.iaload, 1) := by decide +kernel
theorem dL_law_333 : decode cL_law 333 = .ok (.iadd, 1) := by decide +kernel
theorem dL_law_334 : decode cL_law 334 = .ok (.aload 16, 2) := by decide +kernel
theorem dL_law_336 : decode cL_law 336 = .ok (.iconst 2, 1) := by decide +kernel
theorem dL_law_337 : decode cL_law 337 = .ok (.iaload, 1) := by decide +kernel
theorem dL_law_338 : decode cL_law 338 = .ok (.iadd, 1) := by decide +kernel
theorem dL_law_339 : decode cL_law 339 = .ok (.aload 16, 2) := by decide +kernel
theorem dL_law_341 : decode cL_law 341 = .ok (.iconst 3, 1) := by decide +kernel
theorem dL_law_342 : decode cL_law 342 = .ok (.iaload, 1) := by decide +kernel
theorem dL_law_343 : decode cL_law 343 = .ok (.iadd, 1) := by decide +kernel
theorem dL_law_344 : decode cL_law 344 = .ok (.aload_n 1, 1) := by decide +kernel
theorem dL_law_345 : decode cL_law 345 = .ok (.iload 15, 2) := by decide +kernel
theorem dL_law_347 : decode cL_law 347 = .ok (.iload 10, 2) := by decide +kernel
theorem dL_law_349 : decode cL_law 349 = .ok (.iconst 1, 1) := by decide +kernel
theorem dL_law_350 : decode cL_law 350 = .ok (.invokevirtual 79, 3) := by decide +kernel
theorem dL_law_353 : decode cL_law 353 = .ok (.if_icmp .ne 63, 3) := by decide +kernel
theorem dL_law_356 : decode cL_law 356 = .ok (.aload 16, 2) := by decide +kernel
theorem dL_law_358 : decode cL_law 358 = .ok (.iconst 0, 1) := by decide +kernel
theorem dL_law_359 : decode cL_law 359 = .ok (.iaload, 1) := by decide +kernel
theorem dL_law_360 : decode cL_law 360 = .ok (.aload 16, 2) := by decide +kernel
theorem dL_law_362 : decode cL_law 362 = .ok (.iconst 4, 1) := by decide +kernel
theorem dL_law_363 : decode cL_law 363 = .ok (.iaload, 1) := by decide +kernel
theorem dL_law_364 : decode cL_law 364 = .ok (.iadd, 1) := by decide +kernel
theorem dL_law_365 : decode cL_law 365 = .ok (.aload 16, 2) := by decide +kernel
theorem dL_law_367 : decode cL_law 367 = .ok (.iconst 5, 1) := by decide +kernel
theorem dL_law_368 : decode cL_law 368 = .ok (.iaload, 1) := by decide +kernel
theorem dL_law_369 : decode cL_law 369 = .ok (.iadd, 1) := by decide +kernel
theorem dL_law_370 : decode cL_law 370 = .ok (.aload 16, 2) := by decide +kernel
theorem dL_law_372 : decode cL_law 372 = .ok (.bipush 6, 2) := by decide +kernel
theorem dL_law_374 : decode cL_law 374 = .ok (.iaload, 1) := by decide +kernel
theorem dL_law_375 : decode cL_law 375 = .ok (.iadd, 1) := by decide +kernel
theorem dL_law_376 : decode cL_law 376 = .ok (.aload_n 1, 1) := by decide +kernel
theorem dL_law_377 : decode cL_law 377 = .ok (.iload 15, 2) := by decide +kernel
theorem dL_law_379 : decode cL_law 379 = .ok (.iload 10, 2) := by decide +kernel
theorem dL_law_381 : decode cL_law 381 = .ok (.iconst 0, 1) := by decide +kernel
theorem dL_law_382 : decode cL_law 382 = .ok (.invokevirtual 79, 3) := by decide +kernel
theorem dL_law_385 : decode cL_law 385 = .ok (.if_icmp .ne 31, 3) := by decide +kernel
theorem dL_law_388 : decode cL_law 388 = .ok (.aload 16, 2) := by decide +kernel
theorem dL_law_390 : decode cL_law 390 = .ok (.iconst 0, 1) := by decide +kernel
theorem dL_law_391 : decode cL_law 391 = .ok (.iaload, 1) := by decide +kernel
theorem dL_law_392 : decode cL_law 392 = .ok (.aload_n 1, 1) := by decide +kernel
theorem dL_law_393 : decode cL_law 393 = .ok (.iload 15, 2) := by decide +kernel
theorem dL_law_395 : decode cL_law 395 = .ok (.iload 10, 2) := by decide +kernel
theorem dL_law_397 : decode cL_law 397 = .ok (.iconst 1, 1) := by decide +kernel
theorem dL_law_398 : decode cL_law 398 = .ok (.invokevirtual 79, 3) := by decide +kernel
theorem dL_law_401 : decode cL_law 401 = .ok (.aload_n 1, 1) := by decide +kernel
theorem dL_law_402 : decode cL_law 402 = .ok (.iload 15, 2) := by decide +kernel
theorem dL_law_404 : decode cL_law 404 = .ok (.iload 10, 2) := by decide +kernel
theorem dL_law_406 : decode cL_law 406 = .ok (.iconst 0, 1) := by decide +kernel
theorem dL_law_407 : decode cL_law 407 = .ok (.invokevirtual 79, 3) := by decide +kernel
theorem dL_law_410 : decode cL_law 410 = .ok (.invokestatic 68, 3) := by decide +kernel
theorem dL_law_413 : decode cL_law 413 = .ok (.if_icmp .eq 5, 3) := by decide +kernel
theorem dL_law_416 : decode cL_law 416 = .ok (.iconst 0, 1) := by decide +kernel
theorem dL_law_417 : decode cL_law 417 = .ok (.ireturn, 1) := by decide +kernel
theorem dL_law_418 : decode cL_law 418 = .ok (.iload 11, 2) := by decide +kernel
theorem dL_law_420 : decode cL_law 420 = .ok (.aload 16, 2) := by decide +kernel
theorem dL_law_422 : decode cL_law 422 = .ok (.iconst 1, 1) := by decide +kernel
theorem dL_law_423 : decode cL_law 423 = .ok (.iaload, 1) := by decide +kernel
theorem dL_law_424 : decode cL_law 424 = .ok (.iadd, 1) := by decide +kernel
theorem dL_law_425 : decode cL_law 425 = .ok (.istore 11, 2) := by decide +kernel
theorem dL_law_427 : decode cL_law 427 = .ok (.iload 12, 2) := by decide +kernel
theorem dL_law_429 : decode cL_law 429 = .ok (.aload 16, 2) := by decide +kernel
theorem dL_law_431 : decode cL_law 431 = .ok (.iconst 4, 1) := by decide +kernel
theorem dL_law_432 : decode cL_law 432 = .ok (.iaload, 1) := by decide +kernel
theorem dL_law_433 : decode cL_law 433 = .ok (.iadd, 1) := by decide +kernel
theorem dL_law_434 : decode cL_law 434 = .ok (.istore 12, 2) := by decide +kernel
theorem dL_law_436 : decode cL_law 436 = .ok (.iload 13, 2) := by decide +kernel
theorem dL_law_438 : decode cL_law 438 = .ok (.aload 16, 2) := by decide +kernel
theorem dL_law_440 : decode cL_law 440 = .ok (.iconst 5, 1) := by decide +kernel
theorem dL_law_441 : decode cL_law 441 = .ok (.iaload, 1) := by decide +kernel
theorem dL_law_442 : decode cL_law 442 = .ok (.iadd, 1) := by decide +kernel
theorem dL_law_443 : decode cL_law 443 = .ok (.istore 13, 2) := by decide +kernel
theorem dL_law_445 : decode cL_law 445 = .ok (.iload 14, 2) := by decide +kernel
theorem dL_law_447 : decode cL_law 447 = .ok (.aload 16, 2) := by decide +kernel
theorem dL_law_449 : decode cL_law 449 = .ok (.iconst 2, 1) := by decide +kernel
theorem dL_law_450 : decode cL_law 450 = .ok (.iaload, 1) := by decide +kernel
theorem dL_law_451 : decode cL_law 451 = .ok (.iadd, 1) := by decide +kernel
theorem dL_law_452 : decode cL_law 452 = .ok (.istore 14, 2) := by decide +kernel
theorem dL_law_454 : decode cL_law 454 = .ok (.iinc 15 1, 3) := by decide +kernel
theorem dL_law_457 : decode cL_law 457 = .ok (.goto (-192), 3) := by decide +kernel
theorem dL_law_460 : decode cL_law 460 = .ok (.iload 11, 2) := by decide +kernel
theorem dL_law_462 : decode cL_law 462 = .ok (.iload 12, 2) := by decide +kernel
theorem dL_law_464 : decode cL_law 464 = .ok (.if_icmp .ne 13, 3) := by decide +kernel
theorem dL_law_467 : decode cL_law 467 = .ok (.iload 13, 2) := by decide +kernel
theorem dL_law_469 : decode cL_law 469 = .ok (.ifCond .le 10, 3) := by decide +kernel
theorem dL_law_472 : decode cL_law 472 = .ok (.iload 14, 2) := by decide +kernel
theorem dL_law_474 : decode cL_law 474 = .ok (.ifCond .le 5, 3) := by decide +kernel
theorem dL_law_477 : decode cL_law 477 = .ok (.iconst 0, 1) := by decide +kernel
theorem dL_law_478 : decode cL_law 478 = .ok (.ireturn, 1) := by decide +kernel
theorem dL_law_479 : decode cL_law 479 = .ok (.iload 9, 2) := by decide +kernel
theorem dL_law_481 : decode cL_law 481 = .ok (.iload 13, 2) := by decide +kernel
theorem dL_law_483 : decode cL_law 483 = .ok (.aload 4, 2) := by decide +kernel
theorem dL_law_485 : decode cL_law 485 = .ok (.iload 10, 2) := by decide +kernel
theorem dL_law_487 : decode cL_law 487 = .ok (.iaload, 1) := by decide +kernel
theorem dL_law_488 : decode cL_law 488 = .ok (.imul, 1) := by decide +kernel
theorem dL_law_489 : decode cL_law 489 = .ok (.bipush 100, 2) := by decide +kernel
theorem dL_law_491 : decode cL_law 491 = .ok (.idiv, 1) := by decide +kernel
theorem dL_law_492 : decode cL_law 492 = .ok (.iload 14, 2) := by decide +kernel
theorem dL_law_494 : decode cL_law 494 = .ok (.isub, 1) := by decide +kernel
theorem dL_law_495 : decode cL_law 495 = .ok (.iadd, 1) := by decide +kernel
theorem dL_law_496 : decode cL_law 496 = .ok (.istore 9, 2) := by decide +kernel
theorem dL_law_498 : decode cL_law 498 = .ok (.iload 9, 2) := by decide +kernel
theorem dL_law_500 : decode cL_law 500 = .ok (.ifCond .lt 13, 3) := by decide +kernel
theorem dL_law_503 : decode cL_law 503 = .ok (.iload 9, 2) := by decide +kernel
theorem dL_law_505 : decode cL_law 505 = .ok (.aload 5, 2) := by decide +kernel
theorem dL_law_507 : decode cL_law 507 = .ok (.iload 10, 2) := by decide +kernel
theorem dL_law_509 : decode cL_law 509 = .ok (.iaload, 1) := by decide +kernel
theorem dL_law_510 : decode cL_law 510 = .ok (.if_icmp .le 5, 3) := by decide +kernel
theorem dL_law_513 : decode cL_law 513 = .ok (.iconst 0, 1) := by decide +kernel
theorem dL_law_514 : decode cL_law 514 = .ok (.ireturn, 1) := by decide +kernel
theorem dL_law_515 : decode cL_law 515 = .ok (.iinc 10 1, 3) := by decide +kernel
theorem dL_law_518 : decode cL_law 518 = .ok (.goto (-300), 3) := by decide +kernel
theorem dL_law_521 : decode cL_law 521 = .ok (.aload_n 1, 1) := by decide +kernel
theorem dL_law_522 : decode cL_law 522 = .ok (.invokevirtual 83, 3) := by decide +kernel
theorem dL_law_525 : decode cL_law 525 = .ok (.iload 9, 2) := by decide +kernel
theorem dL_law_527 : decode cL_law 527 = .ok (.aload_n 2, 1) := by decide +kernel
theorem dL_law_528 : decode cL_law 528 = .ok (.bipush 15, 2) := by decide +kernel
theorem dL_law_530 : decode cL_law 530 = .ok (.iaload, 1) := by decide +kernel
theorem dL_law_531 : decode cL_law 531 = .ok (.invokestatic 68, 3) := by decide +kernel
theorem dL_law_534 : decode cL_law 534 = .ok (.if_icmp .eq 5, 3) := by decide +kernel
theorem dL_law_537 : decode cL_law 537 = .ok (.iconst 0, 1) := by decide +kernel
theorem dL_law_538 : decode cL_law 538 = .ok (.ireturn, 1) := by decide +kernel
theorem dL_law_539 : decode cL_law 539 = .ok (.aload_n 1, 1) := by decide +kernel
theorem dL_law_540 : decode cL_law 540 = .ok (.iconst 0, 1) := by decide +kernel
theorem dL_law_541 : decode cL_law 541 = .ok (.invokevirtual 86, 3) := by decide +kernel
theorem dL_law_544 : decode cL_law 544 = .ok (.aload_n 1, 1) := by decide +kernel
theorem dL_law_545 : decode cL_law 545 = .ok (.iconst 1, 1) := by decide +kernel
theorem dL_law_546 : decode cL_law 546 = .ok (.invokevirtual 86, 3) := by decide +kernel
theorem dL_law_549 : decode cL_law 549 = .ok (.ladd, 1) := by decide +kernel
theorem dL_law_550 : decode cL_law 550 = .ok (.aload_n 1, 1) := by decide +kernel
theorem dL_law_551 : decode cL_law 551 = .ok (.iconst 2, 1) := by decide +kernel
theorem dL_law_552 : decode cL_law 552 = .ok (.invokevirtual 86, 3) := by decide +kernel
theorem dL_law_555 : decode cL_law 555 = .ok (.ladd, 1) := by decide +kernel
theorem dL_law_556 : decode cL_law 556 = .ok (.lstore 10, 2) := by decide +kernel
theorem dL_law_558 : decode cL_law 558 = .ok (.iconst 0, 1) := by decide +kernel
theorem dL_law_559 : decode cL_law 559 = .ok (.istore 12, 2) := by decide +kernel
theorem dL_law_561 : decode cL_law 561 = .ok (.iload 12, 2) := by decide +kernel
theorem dL_law_563 : decode cL_law 563 = .ok (.iload_n 3, 1) := by decide +kernel
theorem dL_law_564 : decode cL_law 564 = .ok (.if_icmp .ge 29, 3) := by decide +kernel
theorem dL_law_567 : decode cL_law 567 = .ok (.lload 10, 2) := by decide +kernel
theorem dL_law_569 : decode cL_law 569 = .ok (.aload_n 1, 1) := by decide +kernel
theorem dL_law_570 : decode cL_law 570 = .ok (.iload 12, 2) := by decide +kernel
theorem dL_law_572 : decode cL_law 572 = .ok (.iconst 0, 1) := by decide +kernel
theorem dL_law_573 : decode cL_law 573 = .ok (.invokevirtual 90, 3) := by decide +kernel
theorem dL_law_576 : decode cL_law 576 = .ok (.aload_n 1, 1) := by decide +kernel
theorem dL_law_577 : decode cL_law 577 = .ok (.iload 12, 2) := by decide +kernel
theorem dL_law_579 : decode cL_law 579 = .ok (.iconst 1, 1) := by decide +kernel
theorem dL_law_580 : decode cL_law 580 = .ok (.invokevirtual 90, 3) := by decide +kernel
theorem dL_law_583 : decode cL_law 583 = .ok (.ladd, 1) := by decide +kernel
theorem dL_law_584 : decode cL_law 584 = .ok (.ladd, 1) := by decide +kernel
theorem dL_law_585 : decode cL_law 585 = .ok (.lstore 10, 2) := by decide +kernel
theorem dL_law_587 : decode cL_law 587 = .ok (.iinc 12 1, 3) := by decide +kernel
theorem dL_law_590 : decode cL_law 590 = .ok (.goto (-29), 3) := by decide +kernel
theorem dL_law_593 : decode cL_law 593 = .ok (.lload 10, 2) := by decide +kernel
theorem dL_law_595 : decode cL_law 595 = .ok (.lconst 0, 1) := by decide +kernel
theorem dL_law_596 : decode cL_law 596 = .ok (.lcmp, 1) := by decide +kernel
theorem dL_law_597 : decode cL_law 597 = .ok (.ifCond .ne 21, 3) := by decide +kernel
theorem dL_law_600 : decode cL_law 600 = .ok (.aload_n 1, 1) := by decide +kernel
theorem dL_law_601 : decode cL_law 601 = .ok (.invokevirtual 94, 3) := by decide +kernel
theorem dL_law_604 : decode cL_law 604 = .ok (.dconst 0, 1) := by decide +kernel
theorem dL_law_605 : decode cL_law 605 = .ok (.dcmp .g, 1) := by decide +kernel
theorem dL_law_606 : decode cL_law 606 = .ok (.ifCond .lt 12, 3) := by decide +kernel
theorem dL_law_609 : decode cL_law 609 = .ok (.aload_n 1, 1) := by decide +kernel
theorem dL_law_610 : decode cL_law 610 = .ok (.invokevirtual 94, 3) := by decide +kernel
theorem dL_law_613 : decode cL_law 613 = .ok (.dconst 1, 1) := by decide +kernel
theorem dL_law_614 : decode cL_law 614 = .ok (.dcmp .l, 1) := by decide +kernel
theorem dL_law_615 : decode cL_law 615 = .ok (.ifCond .le 5, 3) := by decide +kernel
theorem dL_law_618 : decode cL_law 618 = .ok (.iconst 0, 1) := by decide +kernel
theorem dL_law_619 : decode cL_law 619 = .ok (.ireturn, 1) := by decide +kernel
theorem dL_law_620 : decode cL_law 620 = .ok (.iinc 6 1, 3) := by decide +kernel
theorem dL_law_623 : decode cL_law 623 = .ok (.goto (-581), 3) := by decide +kernel
theorem dL_law_626 : decode cL_law 626 = .ok (.iconst 1, 1) := by decide +kernel
theorem dL_law_627 : decode cL_law 627 = .ok (.ireturn, 1) := by decide +kernel
theorem dL_set_0 : decode cL_set 0 = .ok (.aload_n 2, 1) := by decide +kernel
theorem dL_set_1 : decode cL_set 1 = .ok (.bipush 12, 2) := by decide +kernel
theorem dL_set_3 : decode cL_set 3 = .ok (.iload_n 1, 1) := by decide +kernel
theorem dL_set_4 : decode cL_set 4 = .ok (.bipush 40, 2) := by decide +kernel
theorem dL_set_6 : decode cL_set 6 = .ok (.invokestatic 15, 3) := by decide +kernel
theorem dL_set_9 : decode cL_set 9 = .ok (.iastore, 1) := by decide +kernel
theorem dL_set_10 : decode cL_set 10 = .ok (.aload_n 2, 1) := by decide +kernel
theorem dL_set_11 : decode cL_set 11 = .ok (.bipush 13, 2) := by decide +kernel
theorem dL_set_13 : decode cL_set 13 = .ok (.iload_n 1, 1) := by decide +kernel
theorem dL_set_14 : decode cL_set 14 = .ok (.iconst 3, 1) := by decide +kernel
theorem dL_set_15 : decode cL_set 15 = .ok (.ishr, 1) := by decide +kernel
theorem dL_set_16 : decode cL_set 16 = .ok (.bipush 20, 2) := by decide +kernel
theorem dL_set_18 : decode cL_set 18 = .ok (.invokestatic 15, 3) := by decide +kernel
theorem dL_set_21 : decode cL_set 21 = .ok (.iastore, 1) := by decide +kernel
theorem dL_set_22 : decode cL_set 22 = .ok (.aload_n 2, 1) := by decide +kernel
theorem dL_set_23 : decode cL_set 23 = .ok (.bipush 14, 2) := by decide +kernel
theorem dL_set_25 : decode cL_set 25 = .ok (.iload_n 1, 1) := by decide +kernel
theorem dL_set_26 : decode cL_set 26 = .ok (.bipush 6, 2) := by decide +kernel
theorem dL_set_28 : decode cL_set 28 = .ok (.ishr, 1) := by decide +kernel
theorem dL_set_29 : decode cL_set 29 = .ok (.bipush 30, 2) := by decide +kernel
theorem dL_set_31 : decode cL_set 31 = .ok (.invokestatic 15, 3) := by decide +kernel
theorem dL_set_34 : decode cL_set 34 = .ok (.iastore, 1) := by decide +kernel
theorem dL_set_35 : decode cL_set 35 = .ok (.aload_n 2, 1) := by decide +kernel
theorem dL_set_36 : decode cL_set 36 = .ok (.bipush 15, 2) := by decide +kernel
theorem dL_set_38 : decode cL_set 38 = .ok (.iload_n 1, 1) := by decide +kernel
theorem dL_set_39 : decode cL_set 39 = .ok (.bipush 9, 2) := by decide +kernel
theorem dL_set_41 : decode cL_set 41 = .ok (.ishr, 1) := by decide +kernel
theorem dL_set_42 : decode cL_set 42 = .ok (.iconst 4, 1) := by decide +kernel
theorem dL_set_43 : decode cL_set 43 = .ok (.invokestatic 15, 3) := by decide +kernel
theorem dL_set_46 : decode cL_set 46 = .ok (.ifCond .ne 7, 3) := by decide +kernel
theorem dL_set_49 : decode cL_set 49 = .ok (.iconst 0, 1) := by decide +kernel
theorem dL_set_50 : decode cL_set 50 = .ok (.goto 12, 3) := by decide +kernel
theorem dL_set_53 : decode cL_set 53 = .ok (.iload_n 1, 1) := by decide +kernel
theorem dL_set_54 : decode cL_set 54 = .ok (.bipush 10, 2) := by decide +kernel
theorem dL_set_56 : decode cL_set 56 = .ok (.ishr, 1) := by decide +kernel
theorem dL_set_57 : decode cL_set 57 = .ok (.bipush 60, 2) := by decide +kernel
theorem dL_set_59 : decode cL_set 59 = .ok (.invokestatic 15, 3) := by decide +kernel
theorem dL_set_62 : decode cL_set 62 = .ok (.iastore, 1) := by decide +kernel
theorem dL_set_63 : decode cL_set 63 = .ok (.aload_n 2, 1) := by decide +kernel
theorem dL_set_64 : decode cL_set 64 = .ok (.bipush 16, 2) := by decide +kernel
theorem dL_set_66 : decode cL_set 66 = .ok (.iload_n 1, 1) := by decide +kernel
theorem dL_set_67 : decode cL_set 67 = .ok (.bipush 13, 2) := by decide +kernel
theorem dL_set_69 : decode cL_set 69 = .ok (.ishr, 1) := by decide +kernel
theorem dL_set_70 : decode cL_set 70 = .ok (.bipush 30, 2) := by decide +kernel
theorem dL_set_72 : decode cL_set 72 = .ok (.invokestatic 15, 3) := by decide +kernel
theorem dL_set_75 : decode cL_set 75 = .ok (.iastore, 1) := by decide +kernel
theorem dL_set_76 : decode cL_set 76 = .ok (.aload_n 2, 1) := by decide +kernel
theorem dL_set_77 : decode cL_set 77 = .ok (.bipush 17, 2) := by decide +kernel
theorem dL_set_79 : decode cL_set 79 = .ok (.iload_n 1, 1) := by decide +kernel
theorem dL_set_80 : decode cL_set 80 = .ok (.bipush 16, 2) := by decide +kernel
theorem dL_set_82 : decode cL_set 82 = .ok (.ishr, 1) := by decide +kernel
theorem dL_set_83 : decode cL_set 83 = .ok (.iconst 3, 1) := by decide +kernel
theorem dL_set_84 : decode cL_set 84 = .ok (.invokestatic 15, 3) := by decide +kernel
theorem dL_set_87 : decode cL_set 87 = .ok (.ifCond .ne 8, 3) := by decide +kernel
theorem dL_set_90 : decode cL_set 90 = .ok (.bipush 100, 2) := by decide +kernel
theorem dL_set_92 : decode cL_set 92 = .ok (.goto 14, 3) := by decide +kernel
theorem dL_set_95 : decode cL_set 95 = .ok (.iconst 1, 1) := by decide +kernel
theorem dL_set_96 : decode cL_set 96 = .ok (.iload_n 1, 1) := by decide +kernel
theorem dL_set_97 : decode cL_set 97 = .ok (.bipush 17, 2) := by decide +kernel
theorem dL_set_99 : decode cL_set 99 = .ok (.ishr, 1) := by decide +kernel
theorem dL_set_100 : decode cL_set 100 = .ok (.bipush 100, 2) := by decide +kernel
theorem dL_set_102 : decode cL_set 102 = .ok (.invokestatic 15, 3) := by decide +kernel
theorem dL_set_105 : decode cL_set 105 = .ok (.iadd, 1) := by decide +kernel
theorem dL_set_106 : decode cL_set 106 = .ok (.iastore, 1) := by decide +kernel
theorem dL_set_107 : decode cL_set 107 = .ok (.aload_n 2, 1) := by decide +kernel
theorem dL_set_108 : decode cL_set 108 = .ok (.bipush 18, 2) := by decide +kernel
theorem dL_set_110 : decode cL_set 110 = .ok (.iload_n 1, 1) := by decide +kernel
theorem dL_set_111 : decode cL_set 111 = .ok (.bipush 21, 2) := by decide +kernel
theorem dL_set_113 : decode cL_set 113 = .ok (.ishr, 1) := by decide +kernel
theorem dL_set_114 : decode cL_set 114 = .ok (.iconst 4, 1) := by decide +kernel
theorem dL_set_115 : decode cL_set 115 = .ok (.invokestatic 15, 3) := by decide +kernel
theorem dL_set_118 : decode cL_set 118 = .ok (.iastore, 1) := by decide +kernel
theorem dL_set_119 : decode cL_set 119 = .ok (.aload_n 0, 1) := by decide +kernel
theorem dL_set_120 : decode cL_set 120 = .ok (.aload_n 2, 1) := by decide +kernel
theorem dL_set_121 : decode cL_set 121 = .ok (.bipush 12, 2) := by decide +kernel
theorem dL_set_123 : decode cL_set 123 = .ok (.iaload, 1) := by decide +kernel
theorem dL_set_124 : decode cL_set 124 = .ok (.aload_n 2, 1) := by decide +kernel
theorem dL_set_125 : decode cL_set 125 = .ok (.bipush 13, 2) := by decide +kernel
theorem dL_set_127 : decode cL_set 127 = .ok (.iaload, 1) := by decide +kernel
theorem dL_set_128 : decode cL_set 128 = .ok (.aload_n 2, 1) := by decide +kernel
theorem dL_set_129 : decode cL_set 129 = .ok (.bipush 14, 2) := by decide +kernel
theorem dL_set_131 : decode cL_set 131 = .ok (.iaload, 1) := by decide +kernel
theorem dL_set_132 : decode cL_set 132 = .ok (.invokevirtual 33, 3) := by decide +kernel
theorem dL_set_135 : decode cL_set 135 = .ok (.pop, 1) := by decide +kernel
theorem dL_set_136 : decode cL_set 136 = .ok (.aload_n 0, 1) := by decide +kernel
theorem dL_set_137 : decode cL_set 137 = .ok (.aload_n 2, 1) := by decide +kernel
theorem dL_set_138 : decode cL_set 138 = .ok (.bipush 15, 2) := by decide +kernel
theorem dL_set_140 : decode cL_set 140 = .ok (.iaload, 1) := by decide +kernel
theorem dL_set_141 : decode cL_set 141 = .ok (.aload_n 2, 1) := by decide +kernel
theorem dL_set_142 : decode cL_set 142 = .ok (.bipush 16, 2) := by decide +kernel
theorem dL_set_144 : decode cL_set 144 = .ok (.iaload, 1) := by decide +kernel
theorem dL_set_145 : decode cL_set 145 = .ok (.aload_n 2, 1) := by decide +kernel
theorem dL_set_146 : decode cL_set 146 = .ok (.bipush 17, 2) := by decide +kernel
theorem dL_set_148 : decode cL_set 148 = .ok (.iaload, 1) := by decide +kernel
theorem dL_set_149 : decode cL_set 149 = .ok (.invokevirtual 36, 3) := by decide +kernel
theorem dL_set_152 : decode cL_set 152 = .ok (.pop, 1) := by decide +kernel
theorem dL_set_153 : decode cL_set 153 = .ok (.aload_n 0, 1) := by decide +kernel
theorem dL_set_154 : decode cL_set 154 = .ok (.aload_n 2, 1) := by decide +kernel
theorem dL_set_155 : decode cL_set 155 = .ok (.bipush 18, 2) := by decide +kernel
theorem dL_set_157 : decode cL_set 157 = .ok (.iaload, 1) := by decide +kernel
theorem dL_set_158 : decode cL_set 158 = .ok (.invokevirtual 39, 3) := by decide +kernel
theorem dL_set_161 : decode cL_set 161 = .ok (.pop, 1) := by decide +kernel
theorem dL_set_162 : decode cL_set 162 = .ok (.return_, 1) := by decide +kernel
theorem dL_used_0 : decode cL_used 0 = .ok (.iload_n 0, 1) := by decide +kernel
theorem dL_used_1 : decode cL_used 1 = .ok (.iconst 5, 1) := by decide +kernel
theorem dL_used_2 : decode cL_used 2 = .ok (.ishr, 1) := by decide +kernel
theorem dL_used_3 : decode cL_used 3 = .ok (.iconst 4, 1) := by decide +kernel
theorem dL_used_4 : decode cL_used 4 = .ok (.invokestatic 15, 3) := by decide +kernel
theorem dL_used_7 : decode cL_used 7 = .ok (.ifCond .ne 7, 3) := by decide +kernel
theorem dL_used_10 : decode cL_used 10 = .ok (.iconst 0, 1) := by decide +kernel
theorem dL_used_11 : decode cL_used 11 = .ok (.goto 12, 3) := by decide +kernel
theorem dL_used_14 : decode cL_used 14 = .ok (.iload_n 0, 1) := by decide +kernel
theorem dL_used_15 : decode cL_used 15 = .ok (.bipush 8, 2) := by decide +kernel
theorem dL_used_17 : decode cL_used 17 = .ok (.ishr, 1) := by decide +kernel
theorem dL_used_18 : decode cL_used 18 = .ok (.bipush 40, 2) := by decide +kernel
theorem dL_used_20 : decode cL_used 20 = .ok (.invokestatic 15, 3) := by decide +kernel
theorem dL_used_23 : decode cL_used 23 = .ok (.ireturn, 1) := by decide +kernel
theorem dX0_init_0 : decode cX0_init 0 = .ok (.aload_n 0, 1) := by decide +kernel
theorem dX0_init_1 : decode cX0_init 1 = .ok (.invokespecial 3, 3) := by decide +kernel
theorem dX0_init_4 : decode cX0_init 4 = .ok (.aload_n 0, 1) := by decide +kernel
theorem dX0_init_5 : decode cX0_init 5 = .ok (.new 9, 3) := by decide +kernel
theorem dX0_init_8 : decode cX0_init 8 = .ok (.dup, 1) := by decide +kernel
theorem dX0_init_9 : decode cX0_init 9 = .ok (.invokespecial 11, 3) := by decide +kernel
theorem dX0_init_12 : decode cX0_init 12 = .ok (.putfield 12, 3) := by decide +kernel
theorem dX0_init_15 : decode cX0_init 15 = .ok (.aload_n 0, 1) := by decide +kernel
theorem dX0_init_16 : decode cX0_init 16 = .ok (.new 9, 3) := by decide +kernel
theorem dX0_init_19 : decode cX0_init 19 = .ok (.dup, 1) := by decide +kernel
theorem dX0_init_20 : decode cX0_init 20 = .ok (.invokespecial 11, 3) := by decide +kernel
theorem dX0_init_23 : decode cX0_init 23 = .ok (.putfield 18, 3) := by decide +kernel
theorem dX0_init_26 : decode cX0_init 26 = .ok (.return_, 1) := by decide +kernel
theorem dX0_keepParts_0 : decode cX0_keepParts 0 = .ok (.iconst 0, 1) := by decide +kernel
theorem dX0_keepParts_1 : decode cX0_keepParts 1 = .ok (.istore 4, 2) := by decide +kernel
theorem dX0_keepParts_3 : decode cX0_keepParts 3 = .ok (.iload 4, 2) := by decide +kernel
theorem dX0_keepParts_5 : decode cX0_keepParts 5 = .ok (.bipush 6, 2) := by decide +kernel
theorem dX0_keepParts_7 : decode cX0_keepParts 7 = .ok (.if_icmp .ge 41, 3) := by decide +kernel
theorem dX0_keepParts_10 : decode cX0_keepParts 10 = .ok (.aload_n 1, 1) := by decide +kernel
theorem dX0_keepParts_11 : decode cX0_keepParts 11 = .ok (.iload 4, 2) := by decide +kernel
theorem dX0_keepParts_13 : decode cX0_keepParts 13 = .ok (.iload_n 2, 1) := by decide +kernel
theorem dX0_keepParts_14 : decode cX0_keepParts 14 = .ok (.aload_n 0, 1) := by decide +kernel
theorem dX0_keepParts_15 : decode cX0_keepParts 15 = .ok (.getfield 12, 3) := by decide +kernel
theorem dX0_keepParts_18 : decode cX0_keepParts 18 = .ok (.iload 4, 2) := by decide +kernel
theorem dX0_keepParts_20 : decode cX0_keepParts 20 = .ok (.invokevirtual 109, 3) := by decide +kernel
theorem dX0_keepParts_23 : decode cX0_keepParts 23 = .ok (.invokevirtual 53, 3) := by decide +kernel
theorem dX0_keepParts_26 : decode cX0_keepParts 26 = .ok (.aload_n 1, 1) := by decide +kernel
theorem dX0_keepParts_27 : decode cX0_keepParts 27 = .ok (.iload 4, 2) := by decide +kernel
theorem dX0_keepParts_29 : decode cX0_keepParts 29 = .ok (.iload_n 3, 1) := by decide +kernel
theorem dX0_keepParts_30 : decode cX0_keepParts 30 = .ok (.aload_n 0, 1) := by decide +kernel
theorem dX0_keepParts_31 : decode cX0_keepParts 31 = .ok (.getfield 18, 3) := by decide +kernel
theorem dX0_keepParts_34 : decode cX0_keepParts 34 = .ok (.iload 4, 2) := by decide +kernel
theorem dX0_keepParts_36 : decode cX0_keepParts 36 = .ok (.invokevirtual 109, 3) := by decide +kernel
theorem dX0_keepParts_39 : decode cX0_keepParts 39 = .ok (.invokevirtual 53, 3) := by decide +kernel
theorem dX0_keepParts_42 : decode cX0_keepParts 42 = .ok (.iinc 4 1, 3) := by decide +kernel
theorem dX0_keepParts_45 : decode cX0_keepParts 45 = .ok (.goto (-42), 3) := by decide +kernel
theorem dX0_keepParts_48 : decode cX0_keepParts 48 = .ok (.return_, 1) := by decide +kernel
theorem dX0_mostCharge_0 : decode cX0_mostCharge 0 = .ok (.aload_n 0, 1) := by decide +kernel
theorem dX0_mostCharge_1 : decode cX0_mostCharge 1 = .ok (.getfield 65, 3) := by decide +kernel
theorem dX0_mostCharge_4 : decode cX0_mostCharge 4 = .ok (.getfield 93, 3) := by decide +kernel
theorem dX0_mostCharge_7 : decode cX0_mostCharge 7 = .ok (.istore_n 1, 1) := by decide +kernel
theorem dX0_mostCharge_8 : decode cX0_mostCharge 8 = .ok (.iload_n 1, 1) := by decide +kernel
theorem dX0_mostCharge_9 : decode cX0_mostCharge 9 = .ok (.ifCond .gt 5, 3) := by decide +kernel
theorem dX0_mostCharge_12 : decode cX0_mostCharge 12 = .ok (.iconst 0, 1) := by decide +kernel
theorem dX0_mostCharge_13 : decode cX0_mostCharge 13 = .ok (.ireturn, 1) := by decide +kernel
theorem dX0_mostCharge_14 : decode cX0_mostCharge 14 = .ok (.aload_n 0, 1) := by decide +kernel
theorem dX0_mostCharge_15 : decode cX0_mostCharge 15 = .ok (.getfield 65, 3) := by decide +kernel
theorem dX0_mostCharge_18 : decode cX0_mostCharge 18 = .ok (.getfield 99, 3) := by decide +kernel
theorem dX0_mostCharge_21 : decode cX0_mostCharge 21 = .ok (.aload_n 0, 1) := by decide +kernel
theorem dX0_mostCharge_22 : decode cX0_mostCharge 22 = .ok (.getfield 90, 3) := by decide +kernel
theorem dX0_mostCharge_25 : decode cX0_mostCharge 25 = .ok (.isub, 1) := by decide +kernel
theorem dX0_mostCharge_26 : decode cX0_mostCharge 26 = .ok (.istore_n 2, 1) := by decide +kernel
theorem dX0_mostCharge_27 : decode cX0_mostCharge 27 = .ok (.aload_n 0, 1) := by decide +kernel
theorem dX0_mostCharge_28 : decode cX0_mostCharge 28 = .ok (.getfield 65, 3) := by decide +kernel
theorem dX0_mostCharge_31 : decode cX0_mostCharge 31 = .ok (.getfield 87, 3) := by decide +kernel
theorem dX0_mostCharge_34 : decode cX0_mostCharge 34 = .ok (.iload_n 2, 1) := by decide +kernel
theorem dX0_mostCharge_35 : decode cX0_mostCharge 35 = .ok (.bipush 100, 2) := by decide +kernel
theorem dX0_mostCharge_37 : decode cX0_mostCharge 37 = .ok (.imul, 1) := by decide +kernel
theorem dX0_mostCharge_38 : decode cX0_mostCharge 38 = .ok (.bipush 99, 2) := by decide +kernel
theorem dX0_mostCharge_40 : decode cX0_mostCharge 40 = .ok (.iadd, 1) := by decide +kernel
theorem dX0_mostCharge_41 : decode cX0_mostCharge 41 = .ok (.iload_n 1, 1) := by decide +kernel
theorem dX0_mostCharge_42 : decode cX0_mostCharge 42 = .ok (.idiv, 1) := by decide +kernel
theorem dX0_mostCharge_43 : decode cX0_mostCharge 43 = .ok (.invokestatic 47, 3) := by decide +kernel
theorem dX0_mostCharge_46 : decode cX0_mostCharge 46 = .ok (.ireturn, 1) := by decide +kernel
theorem dX0_run_0 : decode cX0_run 0 = .ok (.aload_n 0, 1) := by decide +kernel
theorem dX0_run_1 : decode cX0_run 1 = .ok (.aload_n 1, 1) := by decide +kernel
theorem dX0_run_2 : decode cX0_run 2 = .ok (.invokevirtual 21, 3) := by decide +kernel
theorem dX0_run_5 : decode cX0_run 5 = .ok (.aload_n 0, 1) := by decide +kernel
theorem dX0_run_6 : decode cX0_run 6 = .ok (.aload_n 1, 1) := by decide +kernel
theorem dX0_run_7 : decode cX0_run 7 = .ok (.invokevirtual 25, 3) := by decide +kernel
theorem dX0_run_10 : decode cX0_run 10 = .ok (.aload_n 0, 1) := by decide +kernel
theorem dX0_run_11 : decode cX0_run 11 = .ok (.aload_n 1, 1) := by decide +kernel
theorem dX0_run_12 : decode cX0_run 12 = .ok (.invokevirtual 28, 3) := by decide +kernel
theorem dX0_run_15 : decode cX0_run 15 = .ok (.aload_n 0, 1) := by decide +kernel
theorem dX0_run_16 : decode cX0_run 16 = .ok (.aload_n 1, 1) := by decide +kernel
theorem dX0_run_17 : decode cX0_run 17 = .ok (.invokevirtual 31, 3) := by decide +kernel
theorem dX0_run_20 : decode cX0_run 20 = .ok (.return_, 1) := by decide +kernel
theorem dX0_useBattery_0 : decode cX0_useBattery 0 = .ok (.aload_n 1, 1) := by decide +kernel
theorem dX0_useBattery_1 : decode cX0_useBattery 1 = .ok (.getfield 65, 3) := by decide +kernel
theorem dX0_useBattery_4 : decode cX0_useBattery 4 = .ok (.astore_n 2, 1) := by decide +kernel
theorem dX0_useBattery_5 : decode cX0_useBattery 5 = .ok (.aload_n 0, 1) := by decide +kernel
theorem dX0_useBattery_6 : decode cX0_useBattery 6 = .ok (.getfield 12, 3) := by decide +kernel
theorem dX0_useBattery_9 : decode cX0_useBattery 9 = .ok (.invokevirtual 61, 3) := by decide +kernel
theorem dX0_useBattery_12 : decode cX0_useBattery 12 = .ok (.aload_n 1, 1) := by decide +kernel
theorem dX0_useBattery_13 : decode cX0_useBattery 13 = .ok (.invokestatic 83, 3) := by decide +kernel
theorem dX0_useBattery_16 : decode cX0_useBattery 16 = .ok (.invokestatic 47, 3) := by decide +kernel
theorem dX0_useBattery_19 : decode cX0_useBattery 19 = .ok (.istore_n 3, 1) := by decide +kernel
theorem dX0_useBattery_20 : decode cX0_useBattery 20 = .ok (.aload_n 0, 1) := by decide +kernel
theorem dX0_useBattery_21 : decode cX0_useBattery 21 = .ok (.getfield 18, 3) := by decide +kernel
theorem dX0_useBattery_24 : decode cX0_useBattery 24 = .ok (.invokevirtual 61, 3) := by decide +kernel
theorem dX0_useBattery_27 : decode cX0_useBattery 27 = .ok (.aload_n 2, 1) := by decide +kernel
theorem dX0_useBattery_28 : decode cX0_useBattery 28 = .ok (.getfield 87, 3) := by decide +kernel
theorem dX0_useBattery_31 : decode cX0_useBattery 31 = .ok (.aload_n 1, 1) := by decide +kernel
theorem dX0_useBattery_32 : decode cX0_useBattery 32 = .ok (.getfield 90, 3) := by decide +kernel
theorem dX0_useBattery_35 : decode cX0_useBattery 35 = .ok (.invokestatic 47, 3) := by decide +kernel
theorem dX0_useBattery_38 : decode cX0_useBattery 38 = .ok (.invokestatic 47, 3) := by decide +kernel
theorem dX0_useBattery_41 : decode cX0_useBattery 41 = .ok (.istore 4, 2) := by decide +kernel
theorem dX0_useBattery_43 : decode cX0_useBattery 43 = .ok (.aload_n 0, 1) := by decide +kernel
theorem dX0_useBattery_44 : decode cX0_useBattery 44 = .ok (.getfield 12, 3) := by decide +kernel
theorem dX0_useBattery_47 : decode cX0_useBattery 47 = .ok (.iload_n 3, 1) := by decide +kernel
theorem dX0_useBattery_48 : decode cX0_useBattery 48 = .ok (.iconst 2, 1) := by decide +kernel
theorem dX0_useBattery_49 : decode cX0_useBattery 49 = .ok (.aload_n 2, 1) := by decide +kernel
theorem dX0_useBattery_50 : decode cX0_useBattery 50 = .ok (.invokevirtual 69, 3) := by decide +kernel
theorem dX0_useBattery_53 : decode cX0_useBattery 53 = .ok (.aload_n 0, 1) := by decide +kernel
theorem dX0_useBattery_54 : decode cX0_useBattery 54 = .ok (.getfield 18, 3) := by decide +kernel
theorem dX0_useBattery_57 : decode cX0_useBattery 57 = .ok (.iload 4, 2) := by decide +kernel
theorem dX0_useBattery_59 : decode cX0_useBattery 59 = .ok (.aload_n 2, 1) := by decide +kernel
theorem dX0_useBattery_60 : decode cX0_useBattery 60 = .ok (.getfield 73, 3) := by decide +kernel
theorem dX0_useBattery_63 : decode cX0_useBattery 63 = .ok (.aload_n 2, 1) := by decide +kernel
theorem dX0_useBattery_64 : decode cX0_useBattery 64 = .ok (.invokevirtual 69, 3) := by decide +kernel
theorem dX0_useBattery_67 : decode cX0_useBattery 67 = .ok (.aload_n 0, 1) := by decide +kernel
theorem dX0_useBattery_68 : decode cX0_useBattery 68 = .ok (.aload_n 1, 1) := by decide +kernel
theorem dX0_useBattery_69 : decode cX0_useBattery 69 = .ok (.iconst 5, 1) := by decide +kernel
theorem dX0_useBattery_70 : decode cX0_useBattery 70 = .ok (.iconst 2, 1) := by decide +kernel
theorem dX0_useBattery_71 : decode cX0_useBattery 71 = .ok (.invokevirtual 79, 3) := by decide +kernel
theorem dX0_useBattery_74 : decode cX0_useBattery 74 = .ok (.aload_n 1, 1) := by decide +kernel
theorem dX0_useBattery_75 : decode cX0_useBattery 75 = .ok (.aload_n 1, 1) := by decide +kernel
theorem dX0_useBattery_76 : decode cX0_useBattery 76 = .ok (.getfield 90, 3) := by decide +kernel
theorem dX0_useBattery_79 : decode cX0_useBattery 79 = .ok (.iload_n 3, 1) := by decide +kernel
theorem dX0_useBattery_80 : decode cX0_useBattery 80 = .ok (.aload_n 2, 1) := by decide +kernel
theorem dX0_useBattery_81 : decode cX0_useBattery 81 = .ok (.getfield 93, 3) := by decide +kernel
theorem dX0_useBattery_84 : decode cX0_useBattery 84 = .ok (.imul, 1) := by decide +kernel
theorem dX0_useBattery_85 : decode cX0_useBattery 85 = .ok (.bipush 100, 2) := by decide +kernel
theorem dX0_useBattery_87 : decode cX0_useBattery 87 = .ok (.idiv, 1) := by decide +kernel
theorem dX0_useBattery_88 : decode cX0_useBattery 88 = .ok (.iadd, 1) := by decide +kernel
theorem dX0_useBattery_89 : decode cX0_useBattery 89 = .ok (.iload 4, 2) := by decide +kernel
theorem dX0_useBattery_91 : decode cX0_useBattery 91 = .ok (.isub, 1) := by decide +kernel
theorem dX0_useBattery_92 : decode cX0_useBattery 92 = .ok (.putfield 96, 3) := by decide +kernel
theorem dX0_useBattery_95 : decode cX0_useBattery 95 = .ok (.return_, 1) := by decide +kernel
theorem dX0_useGrid_0 : decode cX0_useGrid 0 = .ok (.iconst 0, 1) := by decide +kernel
theorem dX0_useGrid_1 : decode cX0_useGrid 1 = .ok (.istore_n 2, 1) := by decide +kernel
theorem dX0_useGrid_2 : decode cX0_useGrid 2 = .ok (.iload_n 2, 1) := by decide +kernel
theorem dX0_useGrid_3 : decode cX0_useGrid 3 = .ok (.bipush 6, 2) := by decide +kernel
theorem dX0_useGrid_5 : decode cX0_useGrid 5 = .ok (.if_icmp .ge 50, 3) := by decide +kernel
theorem dX0_useGrid_8 : decode cX0_useGrid 8 = .ok (.aload_n 1, 1) := by decide +kernel
theorem dX0_useGrid_9 : decode cX0_useGrid 9 = .ok (.iload_n 2, 1) := by decide +kernel
theorem dX0_useGrid_10 : decode cX0_useGrid 10 = .ok (.bipush 6, 2) := by decide +kernel
theorem dX0_useGrid_12 : decode cX0_useGrid 12 = .ok (.aload_n 0, 1) := by decide +kernel
theorem dX0_useGrid_13 : decode cX0_useGrid 13 = .ok (.getfield 12, 3) := by decide +kernel
theorem dX0_useGrid_16 : decode cX0_useGrid 16 = .ok (.iload_n 2, 1) := by decide +kernel
theorem dX0_useGrid_17 : decode cX0_useGrid 17 = .ok (.invokevirtual 102, 3) := by decide +kernel
theorem dX0_useGrid_20 : decode cX0_useGrid 20 = .ok (.invokevirtual 53, 3) := by decide +kernel
theorem dX0_useGrid_23 : decode cX0_useGrid 23 = .ok (.aload_n 1, 1) := by decide +kernel
theorem dX0_useGrid_24 : decode cX0_useGrid 24 = .ok (.iload_n 2, 1) := by decide +kernel
theorem dX0_useGrid_25 : decode cX0_useGrid 25 = .ok (.iconst 3, 1) := by decide +kernel
theorem dX0_useGrid_26 : decode cX0_useGrid 26 = .ok (.aload_n 0, 1) := by decide +kernel
theorem dX0_useGrid_27 : decode cX0_useGrid 27 = .ok (.getfield 18, 3) := by decide +kernel
theorem dX0_useGrid_30 : decode cX0_useGrid 30 = .ok (.iload_n 2, 1) := by decide +kernel
theorem dX0_useGrid_31 : decode cX0_useGrid 31 = .ok (.invokevirtual 102, 3) := by decide +kernel
theorem dX0_useGrid_34 : decode cX0_useGrid 34 = .ok (.invokevirtual 53, 3) := by decide +kernel
theorem dX0_useGrid_37 : decode cX0_useGrid 37 = .ok (.aload_n 1, 1) := by decide +kernel
theorem dX0_useGrid_38 : decode cX0_useGrid 38 = .ok (.iload_n 2, 1) := by decide +kernel
theorem dX0_useGrid_39 : decode cX0_useGrid 39 = .ok (.bipush 7, 2) := by decide +kernel
theorem dX0_useGrid_41 : decode cX0_useGrid 41 = .ok (.aload_n 1, 1) := by decide +kernel
theorem dX0_useGrid_42 : decode cX0_useGrid 42 = .ok (.iload_n 2, 1) := by decide +kernel
theorem dX0_useGrid_43 : decode cX0_useGrid 43 = .ok (.invokevirtual 106, 3) := by decide +kernel
theorem dX0_useGrid_46 : decode cX0_useGrid 46 = .ok (.invokevirtual 53, 3) := by decide +kernel
theorem dX0_useGrid_49 : decode cX0_useGrid 49 = .ok (.iinc 2 1, 3) := by decide +kernel
theorem dX0_useGrid_52 : decode cX0_useGrid 52 = .ok (.goto (-50), 3) := by decide +kernel
theorem dX0_useGrid_55 : decode cX0_useGrid 55 = .ok (.return_, 1) := by decide +kernel
theorem dX0_useMembers_0 : decode cX0_useMembers 0 = .ok (.aload_n 0, 1) := by decide +kernel
theorem dX0_useMembers_1 : decode cX0_useMembers 1 = .ok (.getfield 12, 3) := by decide +kernel
theorem dX0_useMembers_4 : decode cX0_useMembers 4 = .ok (.invokevirtual 61, 3) := by decide +kernel
theorem dX0_useMembers_7 : decode cX0_useMembers 7 = .ok (.aload_n 0, 1) := by decide +kernel
theorem dX0_useMembers_8 : decode cX0_useMembers 8 = .ok (.getfield 18, 3) := by decide +kernel
theorem dX0_useMembers_11 : decode cX0_useMembers 11 = .ok (.invokevirtual 61, 3) := by decide +kernel
theorem dX0_useMembers_14 : decode cX0_useMembers 14 = .ok (.invokestatic 47, 3) := by decide +kernel
theorem dX0_useMembers_17 : decode cX0_useMembers 17 = .ok (.istore_n 2, 1) := by decide +kernel
theorem dX0_useMembers_18 : decode cX0_useMembers 18 = .ok (.aload_n 0, 1) := by decide +kernel
theorem dX0_useMembers_19 : decode cX0_useMembers 19 = .ok (.getfield 12, 3) := by decide +kernel
theorem dX0_useMembers_22 : decode cX0_useMembers 22 = .ok (.iload_n 2, 1) := by decide +kernel
theorem dX0_useMembers_23 : decode cX0_useMembers 23 = .ok (.iconst 2, 1) := by decide +kernel
theorem dX0_useMembers_24 : decode cX0_useMembers 24 = .ok (.aload_n 1, 1) := by decide +kernel
theorem dX0_useMembers_25 : decode cX0_useMembers 25 = .ok (.getfield 65, 3) := by decide +kernel
theorem dX0_useMembers_28 : decode cX0_useMembers 28 = .ok (.invokevirtual 69, 3) := by decide +kernel
theorem dX0_useMembers_31 : decode cX0_useMembers 31 = .ok (.aload_n 0, 1) := by decide +kernel
theorem dX0_useMembers_32 : decode cX0_useMembers 32 = .ok (.getfield 18, 3) := by decide +kernel
theorem dX0_useMembers_35 : decode cX0_useMembers 35 = .ok (.iload_n 2, 1) := by decide +kernel
theorem dX0_useMembers_36 : decode cX0_useMembers 36 = .ok (.aload_n 1, 1) := by decide +kernel
theorem dX0_useMembers_37 : decode cX0_useMembers 37 = .ok (.getfield 65, 3) := by decide +kernel
theorem dX0_useMembers_40 : decode cX0_useMembers 40 = .ok (.getfield 73, 3) := by decide +kernel
theorem dX0_useMembers_43 : decode cX0_useMembers 43 = .ok (.aload_n 1, 1) := by decide +kernel
theorem dX0_useMembers_44 : decode cX0_useMembers 44 = .ok (.getfield 65, 3) := by decide +kernel
theorem dX0_useMembers_47 : decode cX0_useMembers 47 = .ok (.invokevirtual 69, 3) := by decide +kernel
theorem dX0_useMembers_50 : decode cX0_useMembers 50 = .ok (.aload_n 0, 1) := by decide +kernel
theorem dX0_useMembers_51 : decode cX0_useMembers 51 = .ok (.aload_n 1, 1) := by decide +kernel
theorem dX0_useMembers_52 : decode cX0_useMembers 52 = .ok (.iconst 4, 1) := by decide +kernel
theorem dX0_useMembers_53 : decode cX0_useMembers 53 = .ok (.iconst 1, 1) := by decide +kernel
theorem dX0_useMembers_54 : decode cX0_useMembers 54 = .ok (.invokevirtual 79, 3) := by decide +kernel
theorem dX0_useMembers_57 : decode cX0_useMembers 57 = .ok (.return_, 1) := by decide +kernel
theorem dX0_useOwn_0 : decode cX0_useOwn 0 = .ok (.iconst 0, 1) := by decide +kernel
theorem dX0_useOwn_1 : decode cX0_useOwn 1 = .ok (.istore_n 2, 1) := by decide +kernel
theorem dX0_useOwn_2 : decode cX0_useOwn 2 = .ok (.iload_n 2, 1) := by decide +kernel
theorem dX0_useOwn_3 : decode cX0_useOwn 3 = .ok (.bipush 6, 2) := by decide +kernel
theorem dX0_useOwn_5 : decode cX0_useOwn 5 = .ok (.if_icmp .ge 69, 3) := by decide +kernel
theorem dX0_useOwn_8 : decode cX0_useOwn 8 = .ok (.aload_n 1, 1) := by decide +kernel
theorem dX0_useOwn_9 : decode cX0_useOwn 9 = .ok (.getfield 34, 3) := by decide +kernel
theorem dX0_useOwn_12 : decode cX0_useOwn 12 = .ok (.iload_n 2, 1) := by decide +kernel
theorem dX0_useOwn_13 : decode cX0_useOwn 13 = .ok (.invokestatic 40, 3) := by decide +kernel
theorem dX0_useOwn_16 : decode cX0_useOwn 16 = .ok (.istore_n 3, 1) := by decide +kernel
theorem dX0_useOwn_17 : decode cX0_useOwn 17 = .ok (.aload_n 1, 1) := by decide +kernel
theorem dX0_useOwn_18 : decode cX0_useOwn 18 = .ok (.getfield 44, 3) := by decide +kernel
theorem dX0_useOwn_21 : decode cX0_useOwn 21 = .ok (.iload_n 2, 1) := by decide +kernel
theorem dX0_useOwn_22 : decode cX0_useOwn 22 = .ok (.invokestatic 40, 3) := by decide +kernel
theorem dX0_useOwn_25 : decode cX0_useOwn 25 = .ok (.istore 4, 2) := by decide +kernel
theorem dX0_useOwn_27 : decode cX0_useOwn 27 = .ok (.iload_n 3, 1) := by decide +kernel
theorem dX0_useOwn_28 : decode cX0_useOwn 28 = .ok (.iload 4, 2) := by decide +kernel
theorem dX0_useOwn_30 : decode cX0_useOwn 30 = .ok (.invokestatic 47, 3) := by decide +kernel
theorem dX0_useOwn_33 : decode cX0_useOwn 33 = .ok (.istore 5, 2) := by decide +kernel
theorem dX0_useOwn_35 : decode cX0_useOwn 35 = .ok (.aload_n 1, 1) := by decide +kernel
theorem dX0_useOwn_36 : decode cX0_useOwn 36 = .ok (.iload_n 2, 1) := by decide +kernel
theorem dX0_useOwn_37 : decode cX0_useOwn 37 = .ok (.iconst 0, 1) := by decide +kernel
theorem dX0_useOwn_38 : decode cX0_useOwn 38 = .ok (.iload 5, 2) := by decide +kernel
theorem dX0_useOwn_40 : decode cX0_useOwn 40 = .ok (.invokevirtual 53, 3) := by decide +kernel
theorem dX0_useOwn_43 : decode cX0_useOwn 43 = .ok (.aload_n 0, 1) := by decide +kernel
theorem dX0_useOwn_44 : decode cX0_useOwn 44 = .ok (.getfield 12, 3) := by decide +kernel
theorem dX0_useOwn_47 : decode cX0_useOwn 47 = .ok (.iload_n 2, 1) := by decide +kernel
theorem dX0_useOwn_48 : decode cX0_useOwn 48 = .ok (.iload_n 3, 1) := by decide +kernel
theorem dX0_useOwn_49 : decode cX0_useOwn 49 = .ok (.iload 5, 2) := by decide +kernel
theorem dX0_useOwn_51 : decode cX0_useOwn 51 = .ok (.isub, 1) := by decide +kernel
theorem dX0_useOwn_52 : decode cX0_useOwn 52 = .ok (.invokevirtual 57, 3) := by decide +kernel
theorem dX0_useOwn_55 : decode cX0_useOwn 55 = .ok (.aload_n 0, 1) := by decide +kernel
theorem dX0_useOwn_56 : decode cX0_useOwn 56 = .ok (.getfield 18, 3) := by decide +kernel
theorem dX0_useOwn_59 : decode cX0_useOwn 59 = .ok (.iload_n 2, 1) := by decide +kernel
theorem dX0_useOwn_60 : decode cX0_useOwn 60 = .ok (.iload 4, 2) := by decide +kernel
theorem dX0_useOwn_62 : decode cX0_useOwn 62 = .ok (.iload 5, 2) := by decide +kernel
theorem dX0_useOwn_64 : decode cX0_useOwn 64 = .ok (.isub, 1) := by decide +kernel
theorem dX0_useOwn_65 : decode cX0_useOwn 65 = .ok (.invokevirtual 57, 3) := by decide +kernel
theorem dX0_useOwn_68 : decode cX0_useOwn 68 = .ok (.iinc 2 1, 3) := by decide +kernel
theorem dX0_useOwn_71 : decode cX0_useOwn 71 = .ok (.goto (-69), 3) := by decide +kernel
theorem dX0_useOwn_74 : decode cX0_useOwn 74 = .ok (.return_, 1) := by decide +kernel
theorem dX1_countSharers_0 : decode cX1_countSharers 0 = .ok (.iconst 0, 1) := by decide +kernel
theorem dX1_countSharers_1 : decode cX1_countSharers 1 = .ok (.istore_n 1, 1) := by decide +kernel
theorem dX1_countSharers_2 : decode cX1_countSharers 2 = .ok (.iconst 0, 1) := by decide +kernel
theorem dX1_countSharers_3 : decode cX1_countSharers 3 = .ok (.istore_n 2, 1) := by decide +kernel
theorem dX1_countSharers_4 : decode cX1_countSharers 4 = .ok (.iload_n 2, 1) := by decide +kernel
theorem dX1_countSharers_5 : decode cX1_countSharers 5 = .ok (.bipush 6, 2) := by decide +kernel
theorem dX1_countSharers_7 : decode cX1_countSharers 7 = .ok (.if_icmp .ge 23, 3) := by decide +kernel
theorem dX1_countSharers_10 : decode cX1_countSharers 10 = .ok (.aload_n 0, 1) := by decide +kernel
theorem dX1_countSharers_11 : decode cX1_countSharers 11 = .ok (.getfield 9, 3) := by decide +kernel
theorem dX1_countSharers_14 : decode cX1_countSharers 14 = .ok (.iload_n 2, 1) := by decide +kernel
theorem dX1_countSharers_15 : decode cX1_countSharers 15 = .ok (.invokestatic 18, 3) := by decide +kernel
theorem dX1_countSharers_18 : decode cX1_countSharers 18 = .ok (.ifCond .le 6, 3) := by decide +kernel
theorem dX1_countSharers_21 : decode cX1_countSharers 21 = .ok (.iinc 1 1, 3) := by decide +kernel
theorem dX1_countSharers_24 : decode cX1_countSharers 24 = .ok (.iinc 2 1, 3) := by decide +kernel
theorem dX1_countSharers_27 : decode cX1_countSharers 27 = .ok (.goto (-23), 3) := by decide +kernel
theorem dX1_countSharers_30 : decode cX1_countSharers 30 = .ok (.iload_n 1, 1) := by decide +kernel
theorem dX1_countSharers_31 : decode cX1_countSharers 31 = .ok (.ireturn, 1) := by decide +kernel
theorem dX1_give_0 : decode cX1_give 0 = .ok (.iload_n 1, 1) := by decide +kernel
theorem dX1_give_1 : decode cX1_give 1 = .ok (.ifCond .lt 21, 3) := by decide +kernel
theorem dX1_give_4 : decode cX1_give 4 = .ok (.iload_n 1, 1) := by decide +kernel
theorem dX1_give_5 : decode cX1_give 5 = .ok (.aload_n 0, 1) := by decide +kernel
theorem dX1_give_6 : decode cX1_give 6 = .ok (.getfield 9, 3) := by decide +kernel
theorem dX1_give_9 : decode cX1_give 9 = .ok (.arraylength, 1) := by decide +kernel
theorem dX1_give_10 : decode cX1_give 10 = .ok (.if_icmp .ge 12, 3) := by decide +kernel
theorem dX1_give_13 : decode cX1_give 13 = .ok (.iload_n 1, 1) := by decide +kernel
theorem dX1_give_14 : decode cX1_give 14 = .ok (.aload_n 0, 1) := by decide +kernel
theorem dX1_give_15 : decode cX1_give 15 = .ok (.getfield 15, 3) := by decide +kernel
theorem dX1_give_18 : decode cX1_give 18 = .ok (.arraylength, 1) := by decide +kernel
theorem dX1_give_19 : decode cX1_give 19 = .ok (.if_icmp .lt 4, 3) := by decide +kernel
theorem dX1_give_22 : decode cX1_give 22 = .ok (.return_, 1) := by decide +kernel
theorem dX1_give_23 : decode cX1_give 23 = .ok (.iload_n 2, 1) := by decide +kernel
theorem dX1_give_24 : decode cX1_give 24 = .ok (.aload_n 0, 1) := by decide +kernel
theorem dX1_give_25 : decode cX1_give 25 = .ok (.getfield 9, 3) := by decide +kernel
theorem dX1_give_28 : decode cX1_give 28 = .ok (.iload_n 1, 1) := by decide +kernel
theorem dX1_give_29 : decode cX1_give 29 = .ok (.iaload, 1) := by decide +kernel
theorem dX1_give_30 : decode cX1_give 30 = .ok (.aload_n 0, 1) := by decide +kernel
theorem dX1_give_31 : decode cX1_give 31 = .ok (.getfield 26, 3) := by decide +kernel
theorem dX1_give_34 : decode cX1_give 34 = .ok (.invokestatic 82, 3) := by decide +kernel
theorem dX1_give_37 : decode cX1_give 37 = .ok (.invokestatic 82, 3) := by decide +kernel
theorem dX1_give_40 : decode cX1_give 40 = .ok (.istore_n 3, 1) := by decide +kernel
theorem dX1_give_41 : decode cX1_give 41 = .ok (.aload_n 0, 1) := by decide +kernel
theorem dX1_give_42 : decode cX1_give 42 = .ok (.getfield 9, 3) := by decide +kernel
theorem dX1_give_45 : decode cX1_give 45 = .ok (.iload_n 1, 1) := by decide +kernel
theorem dX1_give_46 : decode cX1_give 46 = .ok (.dup2, 1) := by decide +kernel
theorem dX1_give_47 : decode cX1_give 47 = .ok (.iaload, 1) := by decide +kernel
theorem dX1_give_48 : decode cX1_give 48 = .ok (.iload_n 3, 1) := by decide +kernel
theorem dX1_give_49 : decode cX1_give 49 = .ok (.isub, 1) := by decide +kernel
theorem dX1_give_50 : decode cX1_give 50 = .ok (.iastore, 1) := by decide +kernel
theorem dX1_give_51 : decode cX1_give 51 = .ok (.aload_n 0, 1) := by decide +kernel
theorem dX1_give_52 : decode cX1_give 52 = .ok (.getfield 15, 3) := by decide +kernel
theorem dX1_give_55 : decode cX1_give 55 = .ok (.iload_n 1, 1) := by decide +kernel
theorem dX1_give_56 : decode cX1_give 56 = .ok (.dup2, 1) := by decide +kernel
theorem dX1_give_57 : decode cX1_give 57 = .ok (.iaload, 1) := by decide +kernel
theorem dX1_give_58 : decode cX1_give 58 = .ok (.iload_n 3, 1) := by decide +kernel
theorem dX1_give_59 : decode cX1_give 59 = .ok (.iadd, 1) := by decide +kernel
theorem dX1_give_60 : decode cX1_give 60 = .ok (.iastore, 1) := by decide +kernel
theorem dX1_give_61 : decode cX1_give 61 = .ok (.aload_n 0, 1) := by decide +kernel
theorem dX1_give_62 : decode cX1_give 62 = .ok (.dup, 1) := by decide +kernel
theorem dX1_give_63 : decode cX1_give 63 = .ok (.getfield 26, 3) := by decide +kernel
theorem dX1_give_66 : decode cX1_give 66 = .ok (.iload_n 3, 1) := by decide +kernel
theorem dX1_give_67 : decode cX1_give 67 = .ok (.isub, 1) := by decide +kernel
theorem dX1_give_68 : decode cX1_give 68 = .ok (.putfield 26, 3) := by decide +kernel
theorem dX1_give_71 : decode cX1_give 71 = .ok (.return_, 1) := by decide +kernel
theorem dX1_giveEach_0 : decode cX1_giveEach 0 = .ok (.iconst 0, 1) := by decide +kernel
theorem dX1_giveEach_1 : decode cX1_giveEach 1 = .ok (.istore_n 2, 1) := by decide +kernel
theorem dX1_giveEach_2 : decode cX1_giveEach 2 = .ok (.iload_n 2, 1) := by decide +kernel
theorem dX1_giveEach_3 : decode cX1_giveEach 3 = .ok (.bipush 6, 2) := by decide +kernel
theorem dX1_giveEach_5 : decode cX1_giveEach 5 = .ok (.if_icmp .ge 15, 3) := by decide +kernel
theorem dX1_giveEach_8 : decode cX1_giveEach 8 = .ok (.aload_n 0, 1) := by decide +kernel
theorem dX1_giveEach_9 : decode cX1_giveEach 9 = .ok (.iload_n 2, 1) := by decide +kernel
theorem dX1_giveEach_10 : decode cX1_giveEach 10 = .ok (.iload_n 1, 1) := by decide +kernel
theorem dX1_giveEach_11 : decode cX1_giveEach 11 = .ok (.invokevirtual 69, 3) := by decide +kernel
theorem dX1_giveEach_14 : decode cX1_giveEach 14 = .ok (.iinc 2 1, 3) := by decide +kernel
theorem dX1_giveEach_17 : decode cX1_giveEach 17 = .ok (.goto (-15), 3) := by decide +kernel
theorem dX1_giveEach_20 : decode cX1_giveEach 20 = .ok (.return_, 1) := by decide +kernel
theorem dX1_giveOneByShares_0 : decode cX1_giveOneByShares 0 = .ok (.iconst 0, 1) := by decide +kernel
theorem dX1_giveOneByShares_1 : decode cX1_giveOneByShares 1 = .ok (.istore_n 2, 1) := by decide +kernel
theorem dX1_giveOneByShares_2 : decode cX1_giveOneByShares 2 = .ok (.iload_n 2, 1) := by decide +kernel
theorem dX1_giveOneByShares_3 : decode cX1_giveOneByShares 3 = .ok (.bipush 6, 2) := by decide +kernel
theorem dX1_giveOneByShares_5 : decode cX1_giveOneByShares 5 = .ok (.if_icmp .ge 23, 3) := by decide +kernel
theorem dX1_giveOneByShares_8 : decode cX1_giveOneByShares 8 = .ok (.aload_n 1, 1) := by decide +kernel
theorem dX1_giveOneByShares_9 : decode cX1_giveOneByShares 9 = .ok (.iload_n 2, 1) := by decide +kernel
theorem dX1_giveOneByShares_10 : decode cX1_giveOneByShares 10 = .ok (.invokestatic 18, 3) := by decide +kernel
theorem dX1_giveOneByShares_13 : decode cX1_giveOneByShares 13 = .ok (.ifCond .le 9, 3) := by decide +kernel
theorem dX1_giveOneByShares_16 : decode cX1_giveOneByShares 16 = .ok (.aload_n 0, 1) := by decide +kernel
theorem dX1_giveOneByShares_17 : decode cX1_giveOneByShares 17 = .ok (.iload_n 2, 1) := by decide +kernel
theorem dX1_giveOneByShares_18 : decode cX1_giveOneByShares 18 = .ok (.iconst 1, 1) := by decide +kernel
theorem dX1_giveOneByShares_19 : decode cX1_giveOneByShares 19 = .ok (.invokevirtual 69, 3) := by decide +kernel
theorem dX1_giveOneByShares_22 : decode cX1_giveOneByShares 22 = .ok (.iinc 2 1, 3) := by decide +kernel
theorem dX1_giveOneByShares_25 : decode cX1_giveOneByShares 25 = .ok (.goto (-23), 3) := by decide +kernel
theorem dX1_giveOneByShares_28 : decode cX1_giveOneByShares 28 = .ok (.return_, 1) := by decide +kernel
theorem dX1_init_0 : decode cX1_init 0 = .ok (.aload_n 0, 1) := by decide +kernel
theorem dX1_init_1 : decode cX1_init 1 = .ok (.invokespecial 3, 3) := by decide +kernel
theorem dX1_init_4 : decode cX1_init 4 = .ok (.aload_n 0, 1) := by decide +kernel
theorem dX1_init_5 : decode cX1_init 5 = .ok (.bipush 6, 2) := by decide +kernel
theorem dX1_init_7 : decode cX1_init 7 = .ok (.newarray .int, 2) := by decide +kernel
theorem dX1_init_9 : decode cX1_init 9 = .ok (.putfield 9, 3) := by decide +kernel
theorem dX1_init_12 : decode cX1_init 12 = .ok (.aload_n 0, 1) := by decide +kernel
theorem dX1_init_13 : decode cX1_init 13 = .ok (.bipush 6, 2) := by decide +kernel
theorem dX1_init_15 : decode cX1_init 15 = .ok (.newarray .int, 2) := by decide +kernel
theorem dX1_init_17 : decode cX1_init 17 = .ok (.putfield 15, 3) := by decide +kernel
theorem dX1_init_20 : decode cX1_init 20 = .ok (.return_, 1) := by decide +kernel
theorem dX1_nextPlace_0 : decode cX1_nextPlace 0 = .ok (.sipush 600, 3) := by decide +kernel
theorem dX1_nextPlace_3 : decode cX1_nextPlace 3 = .ok (.istore_n 2, 1) := by decide +kernel
theorem dX1_nextPlace_4 : decode cX1_nextPlace 4 = .ok (.iconst 0, 1) := by decide +kernel
theorem dX1_nextPlace_5 : decode cX1_nextPlace 5 = .ok (.istore_n 3, 1) := by decide +kernel
theorem dX1_nextPlace_6 : decode cX1_nextPlace 6 = .ok (.iload_n 3, 1) := by decide +kernel
theorem dX1_nextPlace_7 : decode cX1_nextPlace 7 = .ok (.bipush 6, 2) := by decide +kernel
theorem dX1_nextPlace_9 : decode cX1_nextPlace 9 = .ok (.if_icmp .ge 36, 3) := by decide +kernel
theorem dX1_nextPlace_12 : decode cX1_nextPlace 12 = .ok (.aload_n 0, 1) := by decide +kernel
theorem dX1_nextPlace_13 : decode cX1_nextPlace 13 = .ok (.iload_n 3, 1) := by decide +kernel
theorem dX1_nextPlace_14 : decode cX1_nextPlace 14 = .ok (.invokestatic 18, 3) := by decide +kernel
theorem dX1_nextPlace_17 : decode cX1_nextPlace 17 = .ok (.bipush 6, 2) := by decide +kernel
theorem dX1_nextPlace_19 : decode cX1_nextPlace 19 = .ok (.imul, 1) := by decide +kernel
theorem dX1_nextPlace_20 : decode cX1_nextPlace 20 = .ok (.iload_n 3, 1) := by decide +kernel
theorem dX1_nextPlace_21 : decode cX1_nextPlace 21 = .ok (.iadd, 1) := by decide +kernel
theorem dX1_nextPlace_22 : decode cX1_nextPlace 22 = .ok (.istore 4, 2) := by decide +kernel
theorem dX1_nextPlace_24 : decode cX1_nextPlace 24 = .ok (.iload 4, 2) := by decide +kernel
theorem dX1_nextPlace_26 : decode cX1_nextPlace 26 = .ok (.iload_n 1, 1) := by decide +kernel
theorem dX1_nextPlace_27 : decode cX1_nextPlace 27 = .ok (.if_icmp .le 12, 3) := by decide +kernel
theorem dX1_nextPlace_30 : decode cX1_nextPlace 30 = .ok (.iload 4, 2) := by decide +kernel
theorem dX1_nextPlace_32 : decode cX1_nextPlace 32 = .ok (.iload_n 2, 1) := by decide +kernel
theorem dX1_nextPlace_33 : decode cX1_nextPlace 33 = .ok (.if_icmp .ge 6, 3) := by decide +kernel
theorem dX1_nextPlace_36 : decode cX1_nextPlace 36 = .ok (.iload 4, 2) := by decide +kernel
theorem dX1_nextPlace_38 : decode cX1_nextPlace 38 = .ok (.istore_n 2, 1) := by decide +kernel
theorem dX1_nextPlace_39 : decode cX1_nextPlace 39 = .ok (.iinc 3 1, 3) := by decide +kernel
theorem dX1_nextPlace_42 : decode cX1_nextPlace 42 = .ok (.goto (-36), 3) := by decide +kernel
theorem dX1_nextPlace_45 : decode cX1_nextPlace 45 = .ok (.iload_n 2, 1) := by decide +kernel
theorem dX1_nextPlace_46 : decode cX1_nextPlace 46 = .ok (.ireturn, 1) := by decide +kernel
theorem dX1_part_0 : decode cX1_part 0 = .ok (.aload_n 0, 1) := by decide +kernel
theorem dX1_part_1 : decode cX1_part 1 = .ok (.getfield 15, 3) := by decide +kernel
theorem dX1_part_4 : decode cX1_part 4 = .ok (.iload_n 1, 1) := by decide +kernel
theorem dX1_part_5 : decode cX1_part 5 = .ok (.invokestatic 18, 3) := by decide +kernel
theorem dX1_part_8 : decode cX1_part 8 = .ok (.ireturn, 1) := by decide +kernel
theorem dX1_room_0 : decode cX1_room 0 = .ok (.aload_n 0, 1) := by decide +kernel
theorem dX1_room_1 : decode cX1_room 1 = .ok (.getfield 9, 3) := by decide +kernel
theorem dX1_room_4 : decode cX1_room 4 = .ok (.iload_n 1, 1) := by decide +kernel
theorem dX1_room_5 : decode cX1_room 5 = .ok (.invokestatic 18, 3) := by decide +kernel
theorem dX1_room_8 : decode cX1_room 8 = .ok (.ireturn, 1) := by decide +kernel
theorem dX1_setRoom_0 : decode cX1_setRoom 0 = .ok (.aload_n 0, 1) := by decide +kernel
theorem dX1_setRoom_1 : decode cX1_setRoom 1 = .ok (.getfield 9, 3) := by decide +kernel
theorem dX1_setRoom_4 : decode cX1_setRoom 4 = .ok (.iload_n 1, 1) := by decide +kernel
theorem dX1_setRoom_5 : decode cX1_setRoom 5 = .ok (.iload_n 2, 1) := by decide +kernel
theorem dX1_setRoom_6 : decode cX1_setRoom 6 = .ok (.invokestatic 22, 3) := by decide +kernel
theorem dX1_setRoom_9 : decode cX1_setRoom 9 = .ok (.return_, 1) := by decide +kernel
theorem dX1_share_0 : decode cX1_share 0 = .ok (.iconst 0, 1) := by decide +kernel
theorem dX1_share_1 : decode cX1_share 1 = .ok (.istore 4, 2) := by decide +kernel
theorem dX1_share_3 : decode cX1_share 3 = .ok (.iload 4, 2) := by decide +kernel
theorem dX1_share_5 : decode cX1_share 5 = .ok (.bipush 6, 2) := by decide +kernel
theorem dX1_share_7 : decode cX1_share 7 = .ok (.if_icmp .ge 19, 3) := by decide +kernel
theorem dX1_share_10 : decode cX1_share 10 = .ok (.aload_n 0, 1) := by decide +kernel
theorem dX1_share_11 : decode cX1_share 11 = .ok (.getfield 15, 3) := by decide +kernel
theorem dX1_share_14 : decode cX1_share 14 = .ok (.iload 4, 2) := by decide +kernel
theorem dX1_share_16 : decode cX1_share 16 = .ok (.iconst 0, 1) := by decide +kernel
theorem dX1_share_17 : decode cX1_share 17 = .ok (.invokestatic 22, 3) := by decide +kernel
theorem dX1_share_20 : decode cX1_share 20 = .ok (.iinc 4 1, 3) := by decide +kernel
theorem dX1_share_23 : decode cX1_share 23 = .ok (.goto (-20), 3) := by decide +kernel
theorem dX1_share_26 : decode cX1_share 26 = .ok (.aload_n 0, 1) := by decide +kernel
theorem dX1_share_27 : decode cX1_share 27 = .ok (.iload_n 1, 1) := by decide +kernel
theorem dX1_share_28 : decode cX1_share 28 = .ok (.putfield 26, 3) := by decide +kernel
theorem dX1_share_31 : decode cX1_share 31 = .ok (.iload_n 2, 1) := by decide +kernel
theorem dX1_share_32 : decode cX1_share 32 = .ok (.tableswitch 61 1 3 #[28, 43, 50], 28) := by decide +kernel
theorem dX1_share_60 : decode cX1_share 60 = .ok (.aload_n 0, 1) := by decide +kernel
theorem dX1_share_61 : decode cX1_share 61 = .ok (.aload_n 3, 1) := by decide +kernel
theorem dX1_share_62 : decode cX1_share 62 = .ok (.getfield 30, 3) := by decide +kernel
theorem dX1_share_65 : decode cX1_share 65 = .ok (.invokevirtual 35, 3) := by decide +kernel
theorem dX1_share_68 : decode cX1_share 68 = .ok (.aload_n 0, 1) := by decide +kernel
theorem dX1_share_69 : decode cX1_share 69 = .ok (.invokevirtual 39, 3) := by decide +kernel
theorem dX1_share_72 : decode cX1_share 72 = .ok (.goto 25, 3) := by decide +kernel
theorem dX1_share_75 : decode cX1_share 75 = .ok (.aload_n 0, 1) := by decide +kernel
theorem dX1_share_76 : decode cX1_share 76 = .ok (.invokevirtual 42, 3) := by decide +kernel
theorem dX1_share_79 : decode cX1_share 79 = .ok (.goto 18, 3) := by decide +kernel
theorem dX1_share_82 : decode cX1_share 82 = .ok (.aload_n 0, 1) := by decide +kernel
theorem dX1_share_83 : decode cX1_share 83 = .ok (.aload_n 3, 1) := by decide +kernel
theorem dX1_share_84 : decode cX1_share 84 = .ok (.getfield 45, 3) := by decide +kernel
theorem dX1_share_87 : decode cX1_share 87 = .ok (.invokevirtual 48, 3) := by decide +kernel
theorem dX1_share_90 : decode cX1_share 90 = .ok (.goto 7, 3) := by decide +kernel
theorem dX1_share_93 : decode cX1_share 93 = .ok (.aload_n 0, 1) := by decide +kernel
theorem dX1_share_94 : decode cX1_share 94 = .ok (.invokevirtual 39, 3) := by decide +kernel
theorem dX1_share_97 : decode cX1_share 97 = .ok (.return_, 1) := by decide +kernel
theorem dX1_shareByRank_0 : decode cX1_shareByRank 0 = .ok (.iconst (-1), 1) := by decide +kernel
theorem dX1_shareByRank_1 : decode cX1_shareByRank 1 = .ok (.istore_n 2, 1) := by decide +kernel
theorem dX1_shareByRank_2 : decode cX1_shareByRank 2 = .ok (.iconst 0, 1) := by decide +kernel
theorem dX1_shareByRank_3 : decode cX1_shareByRank 3 = .ok (.istore_n 3, 1) := by decide +kernel
theorem dX1_shareByRank_4 : decode cX1_shareByRank 4 = .ok (.iload_n 3, 1) := by decide +kernel
theorem dX1_shareByRank_5 : decode cX1_shareByRank 5 = .ok (.bipush 6, 2) := by decide +kernel
theorem dX1_shareByRank_7 : decode cX1_shareByRank 7 = .ok (.if_icmp .ge 27, 3) := by decide +kernel
theorem dX1_shareByRank_10 : decode cX1_shareByRank 10 = .ok (.aload_n 1, 1) := by decide +kernel
theorem dX1_shareByRank_11 : decode cX1_shareByRank 11 = .ok (.iload_n 2, 1) := by decide +kernel
theorem dX1_shareByRank_12 : decode cX1_shareByRank 12 = .ok (.invokestatic 79, 3) := by decide +kernel
theorem dX1_shareByRank_15 : decode cX1_shareByRank 15 = .ok (.istore_n 2, 1) := by decide +kernel
theorem dX1_shareByRank_16 : decode cX1_shareByRank 16 = .ok (.aload_n 0, 1) := by decide +kernel
theorem dX1_shareByRank_17 : decode cX1_shareByRank 17 = .ok (.iload_n 2, 1) := by decide +kernel
theorem dX1_shareByRank_18 : decode cX1_shareByRank 18 = .ok (.bipush 6, 2) := by decide +kernel
theorem dX1_shareByRank_20 : decode cX1_shareByRank 20 = .ok (.irem, 1) := by decide +kernel
theorem dX1_shareByRank_21 : decode cX1_shareByRank 21 = .ok (.aload_n 0, 1) := by decide +kernel
theorem dX1_shareByRank_22 : decode cX1_shareByRank 22 = .ok (.getfield 26, 3) := by decide +kernel
theorem dX1_shareByRank_25 : decode cX1_shareByRank 25 = .ok (.invokevirtual 69, 3) := by decide +kernel
theorem dX1_shareByRank_28 : decode cX1_shareByRank 28 = .ok (.iinc 3 1, 3) := by decide +kernel
theorem dX1_shareByRank_31 : decode cX1_shareByRank 31 = .ok (.goto (-27), 3) := by decide +kernel
theorem dX1_shareByRank_34 : decode cX1_shareByRank 34 = .ok (.return_, 1) := by decide +kernel
theorem dX1_shareByRoom_0 : decode cX1_shareByRoom 0 = .ok (.aload_n 0, 1) := by decide +kernel
theorem dX1_shareByRoom_1 : decode cX1_shareByRoom 1 = .ok (.getfield 26, 3) := by decide +kernel
theorem dX1_shareByRoom_4 : decode cX1_shareByRoom 4 = .ok (.istore_n 1, 1) := by decide +kernel
theorem dX1_shareByRoom_5 : decode cX1_shareByRoom 5 = .ok (.aload_n 0, 1) := by decide +kernel
theorem dX1_shareByRoom_6 : decode cX1_shareByRoom 6 = .ok (.invokevirtual 76, 3) := by decide +kernel
theorem dX1_shareByRoom_9 : decode cX1_shareByRoom 9 = .ok (.istore_n 2, 1) := by decide +kernel
theorem dX1_shareByRoom_10 : decode cX1_shareByRoom 10 = .ok (.iload_n 2, 1) := by decide +kernel
theorem dX1_shareByRoom_11 : decode cX1_shareByRoom 11 = .ok (.ifCond .gt 4, 3) := by decide +kernel
theorem dX1_shareByRoom_14 : decode cX1_shareByRoom 14 = .ok (.return_, 1) := by decide +kernel
theorem dX1_shareByRoom_15 : decode cX1_shareByRoom 15 = .ok (.iconst 0, 1) := by decide +kernel
theorem dX1_shareByRoom_16 : decode cX1_shareByRoom 16 = .ok (.istore_n 3, 1) := by decide +kernel
theorem dX1_shareByRoom_17 : decode cX1_shareByRoom 17 = .ok (.iload_n 3, 1) := by decide +kernel
theorem dX1_shareByRoom_18 : decode cX1_shareByRoom 18 = .ok (.bipush 6, 2) := by decide +kernel
theorem dX1_shareByRoom_20 : decode cX1_shareByRoom 20 = .ok (.if_icmp .ge 26, 3) := by decide +kernel
theorem dX1_shareByRoom_23 : decode cX1_shareByRoom 23 = .ok (.aload_n 0, 1) := by decide +kernel
theorem dX1_shareByRoom_24 : decode cX1_shareByRoom 24 = .ok (.iload_n 3, 1) := by decide +kernel
theorem dX1_shareByRoom_25 : decode cX1_shareByRoom 25 = .ok (.iload_n 1, 1) := by decide +kernel
theorem dX1_shareByRoom_26 : decode cX1_shareByRoom 26 = .ok (.aload_n 0, 1) := by decide +kernel
theorem dX1_shareByRoom_27 : decode cX1_shareByRoom 27 = .ok (.getfield 9, 3) := by decide +kernel
theorem dX1_shareByRoom_30 : decode cX1_shareByRoom 30 = .ok (.iload_n 3, 1) := by decide +kernel
theorem dX1_shareByRoom_31 : decode cX1_shareByRoom 31 = .ok (.invokestatic 18, 3) := by decide +kernel
theorem dX1_shareByRoom_34 : decode cX1_shareByRoom 34 = .ok (.imul, 1) := by decide +kernel
theorem dX1_shareByRoom_35 : decode cX1_shareByRoom 35 = .ok (.iload_n 2, 1) := by decide +kernel
theorem dX1_shareByRoom_36 : decode cX1_shareByRoom 36 = .ok (.idiv, 1) := by decide +kernel
theorem dX1_shareByRoom_37 : decode cX1_shareByRoom 37 = .ok (.invokevirtual 69, 3) := by decide +kernel
theorem dX1_shareByRoom_40 : decode cX1_shareByRoom 40 = .ok (.iinc 3 1, 3) := by decide +kernel
theorem dX1_shareByRoom_43 : decode cX1_shareByRoom 43 = .ok (.goto (-26), 3) := by decide +kernel
theorem dX1_shareByRoom_46 : decode cX1_shareByRoom 46 = .ok (.aload_n 0, 1) := by decide +kernel
theorem dX1_shareByRoom_47 : decode cX1_shareByRoom 47 = .ok (.iconst 1, 1) := by decide +kernel
theorem dX1_shareByRoom_48 : decode cX1_shareByRoom 48 = .ok (.invokevirtual 61, 3) := by decide +kernel
theorem dX1_shareByRoom_51 : decode cX1_shareByRoom 51 = .ok (.return_, 1) := by decide +kernel
theorem dX1_shareByShares_0 : decode cX1_shareByShares 0 = .ok (.iconst 0, 1) := by decide +kernel
theorem dX1_shareByShares_1 : decode cX1_shareByShares 1 = .ok (.istore_n 2, 1) := by decide +kernel
theorem dX1_shareByShares_2 : decode cX1_shareByShares 2 = .ok (.aload_n 0, 1) := by decide +kernel
theorem dX1_shareByShares_3 : decode cX1_shareByShares 3 = .ok (.getfield 26, 3) := by decide +kernel
theorem dX1_shareByShares_6 : decode cX1_shareByShares 6 = .ok (.ifCond .le 80, 3) := by decide +kernel
theorem dX1_shareByShares_9 : decode cX1_shareByShares 9 = .ok (.iload_n 2, 1) := by decide +kernel
theorem dX1_shareByShares_10 : decode cX1_shareByShares 10 = .ok (.sipush 1000, 3) := by decide +kernel
theorem dX1_shareByShares_13 : decode cX1_shareByShares 13 = .ok (.if_icmp .ge 73, 3) := by decide +kernel
theorem dX1_shareByShares_16 : decode cX1_shareByShares 16 = .ok (.aload_n 0, 1) := by decide +kernel
theorem dX1_shareByShares_17 : decode cX1_shareByShares 17 = .ok (.aload_n 1, 1) := by decide +kernel
theorem dX1_shareByShares_18 : decode cX1_shareByShares 18 = .ok (.invokevirtual 65, 3) := by decide +kernel
theorem dX1_shareByShares_21 : decode cX1_shareByShares 21 = .ok (.istore_n 3, 1) := by decide +kernel
theorem dX1_shareByShares_22 : decode cX1_shareByShares 22 = .ok (.iload_n 3, 1) := by decide +kernel
theorem dX1_shareByShares_23 : decode cX1_shareByShares 23 = .ok (.ifCond .gt 4, 3) := by decide +kernel
theorem dX1_shareByShares_26 : decode cX1_shareByShares 26 = .ok (.return_, 1) := by decide +kernel
theorem dX1_shareByShares_27 : decode cX1_shareByShares 27 = .ok (.aload_n 0, 1) := by decide +kernel
theorem dX1_shareByShares_28 : decode cX1_shareByShares 28 = .ok (.getfield 26, 3) := by decide +kernel
theorem dX1_shareByShares_31 : decode cX1_shareByShares 31 = .ok (.istore 4, 2) := by decide +kernel
theorem dX1_shareByShares_33 : decode cX1_shareByShares 33 = .ok (.iconst 0, 1) := by decide +kernel
theorem dX1_shareByShares_34 : decode cX1_shareByShares 34 = .ok (.istore 5, 2) := by decide +kernel
theorem dX1_shareByShares_36 : decode cX1_shareByShares 36 = .ok (.iload 5, 2) := by decide +kernel
theorem dX1_shareByShares_38 : decode cX1_shareByShares 38 = .ok (.bipush 6, 2) := by decide +kernel
theorem dX1_shareByShares_40 : decode cX1_shareByShares 40 = .ok (.if_icmp .ge 26, 3) := by decide +kernel
theorem dX1_shareByShares_43 : decode cX1_shareByShares 43 = .ok (.aload_n 0, 1) := by decide +kernel
theorem dX1_shareByShares_44 : decode cX1_shareByShares 44 = .ok (.iload 5, 2) := by decide +kernel
theorem dX1_shareByShares_46 : decode cX1_shareByShares 46 = .ok (.iload 4, 2) := by decide +kernel
theorem dX1_shareByShares_48 : decode cX1_shareByShares 48 = .ok (.aload_n 1, 1) := by decide +kernel
theorem dX1_shareByShares_49 : decode cX1_shareByShares 49 = .ok (.iload 5, 2) := by decide +kernel
theorem dX1_shareByShares_51 : decode cX1_shareByShares 51 = .ok (.invokestatic 18, 3) := by decide +kernel
theorem dX1_shareByShares_54 : decode cX1_shareByShares 54 = .ok (.imul, 1) := by decide +kernel
theorem dX1_shareByShares_55 : decode cX1_shareByShares 55 = .ok (.iload_n 3, 1) := by decide +kernel
theorem dX1_shareByShares_56 : decode cX1_shareByShares 56 = .ok (.idiv, 1) := by decide +kernel
theorem dX1_shareByShares_57 : decode cX1_shareByShares 57 = .ok (.invokevirtual 69, 3) := by decide +kernel
theorem dX1_shareByShares_60 : decode cX1_shareByShares 60 = .ok (.iinc 5 1, 3) := by decide +kernel
theorem dX1_shareByShares_63 : decode cX1_shareByShares 63 = .ok (.goto (-27), 3) := by decide +kernel
theorem dX1_shareByShares_66 : decode cX1_shareByShares 66 = .ok (.aload_n 0, 1) := by decide +kernel
theorem dX1_shareByShares_67 : decode cX1_shareByShares 67 = .ok (.getfield 26, 3) := by decide +kernel
theorem dX1_shareByShares_70 : decode cX1_shareByShares 70 = .ok (.iload 4, 2) := by decide +kernel
theorem dX1_shareByShares_72 : decode cX1_shareByShares 72 = .ok (.if_icmp .ne 8, 3) := by decide +kernel
theorem dX1_shareByShares_75 : decode cX1_shareByShares 75 = .ok (.aload_n 0, 1) := by decide +kernel
theorem dX1_shareByShares_76 : decode cX1_shareByShares 76 = .ok (.aload_n 1, 1) := by decide +kernel
theorem dX1_shareByShares_77 : decode cX1_shareByShares 77 = .ok (.invokevirtual 73, 3) := by decide +kernel
theorem dX1_shareByShares_80 : decode cX1_shareByShares 80 = .ok (.iinc 2 1, 3) := by decide +kernel
theorem dX1_shareByShares_83 : decode cX1_shareByShares 83 = .ok (.goto (-81), 3) := by decide +kernel
theorem dX1_shareByShares_86 : decode cX1_shareByShares 86 = .ok (.return_, 1) := by decide +kernel
theorem dX1_shareEqually_0 : decode cX1_shareEqually 0 = .ok (.iconst 0, 1) := by decide +kernel
theorem dX1_shareEqually_1 : decode cX1_shareEqually 1 = .ok (.istore_n 1, 1) := by decide +kernel
theorem dX1_shareEqually_2 : decode cX1_shareEqually 2 = .ok (.aload_n 0, 1) := by decide +kernel
theorem dX1_shareEqually_3 : decode cX1_shareEqually 3 = .ok (.getfield 26, 3) := by decide +kernel
theorem dX1_shareEqually_6 : decode cX1_shareEqually 6 = .ok (.ifCond .le 40, 3) := by decide +kernel
theorem dX1_shareEqually_9 : decode cX1_shareEqually 9 = .ok (.iload_n 1, 1) := by decide +kernel
theorem dX1_shareEqually_10 : decode cX1_shareEqually 10 = .ok (.sipush 1000, 3) := by decide +kernel
theorem dX1_shareEqually_13 : decode cX1_shareEqually 13 = .ok (.if_icmp .ge 33, 3) := by decide +kernel
theorem dX1_shareEqually_16 : decode cX1_shareEqually 16 = .ok (.aload_n 0, 1) := by decide +kernel
theorem dX1_shareEqually_17 : decode cX1_shareEqually 17 = .ok (.invokevirtual 51, 3) := by decide +kernel
theorem dX1_shareEqually_20 : decode cX1_shareEqually 20 = .ok (.istore_n 2, 1) := by decide +kernel
theorem dX1_shareEqually_21 : decode cX1_shareEqually 21 = .ok (.iload_n 2, 1) := by decide +kernel
theorem dX1_shareEqually_22 : decode cX1_shareEqually 22 = .ok (.ifCond .gt 4, 3) := by decide +kernel
theorem dX1_shareEqually_25 : decode cX1_shareEqually 25 = .ok (.return_, 1) := by decide +kernel
theorem dX1_shareEqually_26 : decode cX1_shareEqually 26 = .ok (.aload_n 0, 1) := by decide +kernel
theorem dX1_shareEqually_27 : decode cX1_shareEqually 27 = .ok (.iconst 1, 1) := by decide +kernel
theorem dX1_shareEqually_28 : decode cX1_shareEqually 28 = .ok (.aload_n 0, 1) := by decide +kernel
theorem dX1_shareEqually_29 : decode cX1_shareEqually 29 = .ok (.getfield 26, 3) := by decide +kernel
theorem dX1_shareEqually_32 : decode cX1_shareEqually 32 = .ok (.iload_n 2, 1) := by decide +kernel
theorem dX1_shareEqually_33 : decode cX1_shareEqually 33 = .ok (.idiv, 1) := by decide +kernel
theorem dX1_shareEqually_34 : decode cX1_shareEqually 34 = .ok (.invokestatic 55, 3) := by decide +kernel
theorem dX1_shareEqually_37 : decode cX1_shareEqually 37 = .ok (.invokevirtual 61, 3) := by decide +kernel
theorem dX1_shareEqually_40 : decode cX1_shareEqually 40 = .ok (.iinc 1 1, 3) := by decide +kernel
theorem dX1_shareEqually_43 : decode cX1_shareEqually 43 = .ok (.goto (-41), 3) := by decide +kernel
theorem dX1_shareEqually_46 : decode cX1_shareEqually 46 = .ok (.return_, 1) := by decide +kernel
theorem dX1_sumOfRooms_0 : decode cX1_sumOfRooms 0 = .ok (.iconst 0, 1) := by decide +kernel
theorem dX1_sumOfRooms_1 : decode cX1_sumOfRooms 1 = .ok (.istore_n 1, 1) := by decide +kernel
theorem dX1_sumOfRooms_2 : decode cX1_sumOfRooms 2 = .ok (.iconst 0, 1) := by decide +kernel
theorem dX1_sumOfRooms_3 : decode cX1_sumOfRooms 3 = .ok (.istore_n 2, 1) := by decide +kernel
theorem dX1_sumOfRooms_4 : decode cX1_sumOfRooms 4 = .ok (.iload_n 2, 1) := by decide +kernel
theorem dX1_sumOfRooms_5 : decode cX1_sumOfRooms 5 = .ok (.bipush 6, 2) := by decide +kernel
theorem dX1_sumOfRooms_7 : decode cX1_sumOfRooms 7 = .ok (.if_icmp .ge 20, 3) := by decide +kernel
theorem dX1_sumOfRooms_10 : decode cX1_sumOfRooms 10 = .ok (.iload_n 1, 1) := by decide +kernel
theorem dX1_sumOfRooms_11 : decode cX1_sumOfRooms 11 = .ok (.aload_n 0, 1) := by decide +kernel
theorem dX1_sumOfRooms_12 : decode cX1_sumOfRooms 12 = .ok (.getfield 9, 3) := by decide +kernel
theorem dX1_sumOfRooms_15 : decode cX1_sumOfRooms 15 = .ok (.iload_n 2, 1) := by decide +kernel
theorem dX1_sumOfRooms_16 : decode cX1_sumOfRooms 16 = .ok (.invokestatic 18, 3) := by decide +kernel
theorem dX1_sumOfRooms_19 : decode cX1_sumOfRooms 19 = .ok (.iadd, 1) := by decide +kernel
theorem dX1_sumOfRooms_20 : decode cX1_sumOfRooms 20 = .ok (.istore_n 1, 1) := by decide +kernel
theorem dX1_sumOfRooms_21 : decode cX1_sumOfRooms 21 = .ok (.iinc 2 1, 3) := by decide +kernel
theorem dX1_sumOfRooms_24 : decode cX1_sumOfRooms 24 = .ok (.goto (-20), 3) := by decide +kernel
theorem dX1_sumOfRooms_27 : decode cX1_sumOfRooms 27 = .ok (.iload_n 1, 1) := by decide +kernel
theorem dX1_sumOfRooms_28 : decode cX1_sumOfRooms 28 = .ok (.ireturn, 1) := by decide +kernel
theorem dX1_sumOfShares_0 : decode cX1_sumOfShares 0 = .ok (.iconst 0, 1) := by decide +kernel
theorem dX1_sumOfShares_1 : decode cX1_sumOfShares 1 = .ok (.istore_n 2, 1) := by decide +kernel
theorem dX1_sumOfShares_2 : decode cX1_sumOfShares 2 = .ok (.iconst 0, 1) := by decide +kernel
theorem dX1_sumOfShares_3 : decode cX1_sumOfShares 3 = .ok (.istore_n 3, 1) := by decide +kernel
theorem dX1_sumOfShares_4 : decode cX1_sumOfShares 4 = .ok (.iload_n 3, 1) := by decide +kernel
theorem dX1_sumOfShares_5 : decode cX1_sumOfShares 5 = .ok (.bipush 6, 2) := by decide +kernel
theorem dX1_sumOfShares_7 : decode cX1_sumOfShares 7 = .ok (.if_icmp .ge 28, 3) := by decide +kernel
theorem dX1_sumOfShares_10 : decode cX1_sumOfShares 10 = .ok (.aload_n 0, 1) := by decide +kernel
theorem dX1_sumOfShares_11 : decode cX1_sumOfShares 11 = .ok (.getfield 9, 3) := by decide +kernel
theorem dX1_sumOfShares_14 : decode cX1_sumOfShares 14 = .ok (.iload_n 3, 1) := by decide +kernel
theorem dX1_sumOfShares_15 : decode cX1_sumOfShares 15 = .ok (.invokestatic 18, 3) := by decide +kernel
theorem dX1_sumOfShares_18 : decode cX1_sumOfShares 18 = .ok (.ifCond .le 11, 3) := by decide +kernel
theorem dX1_sumOfShares_21 : decode cX1_sumOfShares 21 = .ok (.iload_n 2, 1) := by decide +kernel
theorem dX1_sumOfShares_22 : decode cX1_sumOfShares 22 = .ok (.aload_n 1, 1) := by decide +kernel
theorem dX1_sumOfShares_23 : decode cX1_sumOfShares 23 = .ok (.iload_n 3, 1) := by decide +kernel
theorem dX1_sumOfShares_24 : decode cX1_sumOfShares 24 = .ok (.invokestatic 18, 3) := by decide +kernel
theorem dX1_sumOfShares_27 : decode cX1_sumOfShares 27 = .ok (.iadd, 1) := by decide +kernel
theorem dX1_sumOfShares_28 : decode cX1_sumOfShares 28 = .ok (.istore_n 2, 1) := by decide +kernel
theorem dX1_sumOfShares_29 : decode cX1_sumOfShares 29 = .ok (.iinc 3 1, 3) := by decide +kernel
theorem dX1_sumOfShares_32 : decode cX1_sumOfShares 32 = .ok (.goto (-28), 3) := by decide +kernel
theorem dX1_sumOfShares_35 : decode cX1_sumOfShares 35 = .ok (.iload_n 2, 1) := by decide +kernel
theorem dX1_sumOfShares_36 : decode cX1_sumOfShares 36 = .ok (.ireturn, 1) := by decide +kernel
theorem dX2_amount_0 : decode cX2_amount 0 = .ok (.aload_n 0, 1) := by decide +kernel
theorem dX2_amount_1 : decode cX2_amount 1 = .ok (.getfield 25, 3) := by decide +kernel
theorem dX2_amount_4 : decode cX2_amount 4 = .ok (.iload_n 1, 1) := by decide +kernel
theorem dX2_amount_5 : decode cX2_amount 5 = .ok (.bipush 8, 2) := by decide +kernel
theorem dX2_amount_7 : decode cX2_amount 7 = .ok (.imul, 1) := by decide +kernel
theorem dX2_amount_8 : decode cX2_amount 8 = .ok (.iload_n 2, 1) := by decide +kernel
theorem dX2_amount_9 : decode cX2_amount 9 = .ok (.iadd, 1) := by decide +kernel
theorem dX2_amount_10 : decode cX2_amount 10 = .ok (.invokestatic 28, 3) := by decide +kernel
theorem dX2_amount_13 : decode cX2_amount 13 = .ok (.ireturn, 1) := by decide +kernel
theorem dX2_init_0 : decode cX2_init 0 = .ok (.aload_n 0, 1) := by decide +kernel
theorem dX2_init_1 : decode cX2_init 1 = .ok (.invokespecial 3, 3) := by decide +kernel
theorem dX2_init_4 : decode cX2_init 4 = .ok (.aload_n 0, 1) := by decide +kernel
theorem dX2_init_5 : decode cX2_init 5 = .ok (.new 9, 3) := by decide +kernel
theorem dX2_init_8 : decode cX2_init 8 = .ok (.dup, 1) := by decide +kernel
theorem dX2_init_9 : decode cX2_init 9 = .ok (.invokespecial 11, 3) := by decide +kernel
theorem dX2_init_12 : decode cX2_init 12 = .ok (.putfield 12, 3) := by decide +kernel
theorem dX2_init_15 : decode cX2_init 15 = .ok (.aload_n 0, 1) := by decide +kernel
theorem dX2_init_16 : decode cX2_init 16 = .ok (.bipush 6, 2) := by decide +kernel
theorem dX2_init_18 : decode cX2_init 18 = .ok (.newarray .int, 2) := by decide +kernel
theorem dX2_init_20 : decode cX2_init 20 = .ok (.putfield 18, 3) := by decide +kernel
theorem dX2_init_23 : decode cX2_init 23 = .ok (.aload_n 0, 1) := by decide +kernel
theorem dX2_init_24 : decode cX2_init 24 = .ok (.bipush 6, 2) := by decide +kernel
theorem dX2_init_26 : decode cX2_init 26 = .ok (.newarray .int, 2) := by decide +kernel
theorem dX2_init_28 : decode cX2_init 28 = .ok (.putfield 22, 3) := by decide +kernel
theorem dX2_init_31 : decode cX2_init 31 = .ok (.aload_n 0, 1) := by decide +kernel
theorem dX2_init_32 : decode cX2_init 32 = .ok (.bipush 48, 2) := by decide +kernel
theorem dX2_init_34 : decode cX2_init 34 = .ok (.newarray .int, 2) := by decide +kernel
theorem dX2_init_36 : decode cX2_init 36 = .ok (.putfield 25, 3) := by decide +kernel
theorem dX2_init_39 : decode cX2_init 39 = .ok (.return_, 1) := by decide +kernel
theorem dX2_moneyOf_0 : decode cX2_moneyOf 0 = .ok (.aload_n 0, 1) := by decide +kernel
theorem dX2_moneyOf_1 : decode cX2_moneyOf 1 = .ok (.iload_n 1, 1) := by decide +kernel
theorem dX2_moneyOf_2 : decode cX2_moneyOf 2 = .ok (.iconst 4, 1) := by decide +kernel
theorem dX2_moneyOf_3 : decode cX2_moneyOf 3 = .ok (.invokevirtual 40, 3) := by decide +kernel
theorem dX2_moneyOf_6 : decode cX2_moneyOf 6 = .ok (.aload_n 0, 1) := by decide +kernel
theorem dX2_moneyOf_7 : decode cX2_moneyOf 7 = .ok (.iload_n 1, 1) := by decide +kernel
theorem dX2_moneyOf_8 : decode cX2_moneyOf 8 = .ok (.iconst 5, 1) := by decide +kernel
theorem dX2_moneyOf_9 : decode cX2_moneyOf 9 = .ok (.invokevirtual 40, 3) := by decide +kernel
theorem dX2_moneyOf_12 : decode cX2_moneyOf 12 = .ok (.iadd, 1) := by decide +kernel
theorem dX2_moneyOf_13 : decode cX2_moneyOf 13 = .ok (.istore_n 2, 1) := by decide +kernel
theorem dX2_moneyOf_14 : decode cX2_moneyOf 14 = .ok (.aload_n 0, 1) := by decide +kernel
theorem dX2_moneyOf_15 : decode cX2_moneyOf 15 = .ok (.iload_n 1, 1) := by decide +kernel
theorem dX2_moneyOf_16 : decode cX2_moneyOf 16 = .ok (.iconst 1, 1) := by decide +kernel
theorem dX2_moneyOf_17 : decode cX2_moneyOf 17 = .ok (.invokevirtual 40, 3) := by decide +kernel
theorem dX2_moneyOf_20 : decode cX2_moneyOf 20 = .ok (.aload_n 0, 1) := by decide +kernel
theorem dX2_moneyOf_21 : decode cX2_moneyOf 21 = .ok (.iload_n 1, 1) := by decide +kernel
theorem dX2_moneyOf_22 : decode cX2_moneyOf 22 = .ok (.iconst 2, 1) := by decide +kernel
theorem dX2_moneyOf_23 : decode cX2_moneyOf 23 = .ok (.invokevirtual 40, 3) := by decide +kernel
theorem dX2_moneyOf_26 : decode cX2_moneyOf 26 = .ok (.iadd, 1) := by decide +kernel
theorem dX2_moneyOf_27 : decode cX2_moneyOf 27 = .ok (.istore_n 3, 1) := by decide +kernel
theorem dX2_moneyOf_28 : decode cX2_moneyOf 28 = .ok (.aload_n 0, 1) := by decide +kernel
theorem dX2_moneyOf_29 : decode cX2_moneyOf 29 = .ok (.getfield 12, 3) := by decide +kernel
theorem dX2_moneyOf_32 : decode cX2_moneyOf 32 = .ok (.getfield 44, 3) := by decide +kernel
theorem dX2_moneyOf_35 : decode cX2_moneyOf 35 = .ok (.iload_n 2, 1) := by decide +kernel
theorem dX2_moneyOf_36 : decode cX2_moneyOf 36 = .ok (.iload_n 3, 1) := by decide +kernel
theorem dX2_moneyOf_37 : decode cX2_moneyOf 37 = .ok (.isub, 1) := by decide +kernel
theorem dX2_moneyOf_38 : decode cX2_moneyOf 38 = .ok (.imul, 1) := by decide +kernel
theorem dX2_moneyOf_39 : decode cX2_moneyOf 39 = .ok (.aload_n 0, 1) := by decide +kernel
theorem dX2_moneyOf_40 : decode cX2_moneyOf 40 = .ok (.getfield 12, 3) := by decide +kernel
theorem dX2_moneyOf_43 : decode cX2_moneyOf 43 = .ok (.getfield 48, 3) := by decide +kernel
theorem dX2_moneyOf_46 : decode cX2_moneyOf 46 = .ok (.aload_n 0, 1) := by decide +kernel
theorem dX2_moneyOf_47 : decode cX2_moneyOf 47 = .ok (.iload_n 1, 1) := by decide +kernel
theorem dX2_moneyOf_48 : decode cX2_moneyOf 48 = .ok (.bipush 6, 2) := by decide +kernel
theorem dX2_moneyOf_50 : decode cX2_moneyOf 50 = .ok (.invokevirtual 40, 3) := by decide +kernel
theorem dX2_moneyOf_53 : decode cX2_moneyOf 53 = .ok (.imul, 1) := by decide +kernel
theorem dX2_moneyOf_54 : decode cX2_moneyOf 54 = .ok (.iadd, 1) := by decide +kernel
theorem dX2_moneyOf_55 : decode cX2_moneyOf 55 = .ok (.aload_n 0, 1) := by decide +kernel
theorem dX2_moneyOf_56 : decode cX2_moneyOf 56 = .ok (.getfield 12, 3) := by decide +kernel
theorem dX2_moneyOf_59 : decode cX2_moneyOf 59 = .ok (.getfield 51, 3) := by decide +kernel
theorem dX2_moneyOf_62 : decode cX2_moneyOf 62 = .ok (.aload_n 0, 1) := by decide +kernel
theorem dX2_moneyOf_63 : decode cX2_moneyOf 63 = .ok (.iload_n 1, 1) := by decide +kernel
theorem dX2_moneyOf_64 : decode cX2_moneyOf 64 = .ok (.iconst 3, 1) := by decide +kernel
theorem dX2_moneyOf_65 : decode cX2_moneyOf 65 = .ok (.invokevirtual 40, 3) := by decide +kernel
theorem dX2_moneyOf_68 : decode cX2_moneyOf 68 = .ok (.imul, 1) := by decide +kernel
theorem dX2_moneyOf_69 : decode cX2_moneyOf 69 = .ok (.isub, 1) := by decide +kernel
theorem dX2_moneyOf_70 : decode cX2_moneyOf 70 = .ok (.ireturn, 1) := by decide +kernel
theorem dX2_setAmount_0 : decode cX2_setAmount 0 = .ok (.aload_n 0, 1) := by decide +kernel
theorem dX2_setAmount_1 : decode cX2_setAmount 1 = .ok (.getfield 25, 3) := by decide +kernel
theorem dX2_setAmount_4 : decode cX2_setAmount 4 = .ok (.iload_n 1, 1) := by decide +kernel
theorem dX2_setAmount_5 : decode cX2_setAmount 5 = .ok (.bipush 8, 2) := by decide +kernel
theorem dX2_setAmount_7 : decode cX2_setAmount 7 = .ok (.imul, 1) := by decide +kernel
theorem dX2_setAmount_8 : decode cX2_setAmount 8 = .ok (.iload_n 2, 1) := by decide +kernel
theorem dX2_setAmount_9 : decode cX2_setAmount 9 = .ok (.iadd, 1) := by decide +kernel
theorem dX2_setAmount_10 : decode cX2_setAmount 10 = .ok (.iload_n 3, 1) := by decide +kernel
theorem dX2_setAmount_11 : decode cX2_setAmount 11 = .ok (.invokestatic 32, 3) := by decide +kernel
theorem dX2_setAmount_14 : decode cX2_setAmount 14 = .ok (.return_, 1) := by decide +kernel
theorem dX2_setReading_0 : decode cX2_setReading 0 = .ok (.aload_n 0, 1) := by decide +kernel
theorem dX2_setReading_1 : decode cX2_setReading 1 = .ok (.getfield 18, 3) := by decide +kernel
theorem dX2_setReading_4 : decode cX2_setReading 4 = .ok (.iload_n 1, 1) := by decide +kernel
theorem dX2_setReading_5 : decode cX2_setReading 5 = .ok (.invokestatic 28, 3) := by decide +kernel
theorem dX2_setReading_8 : decode cX2_setReading 8 = .ok (.iload_n 2, 1) := by decide +kernel
theorem dX2_setReading_9 : decode cX2_setReading 9 = .ok (.if_icmp .ne 15, 3) := by decide +kernel
theorem dX2_setReading_12 : decode cX2_setReading 12 = .ok (.aload_n 0, 1) := by decide +kernel
theorem dX2_setReading_13 : decode cX2_setReading 13 = .ok (.getfield 22, 3) := by decide +kernel
theorem dX2_setReading_16 : decode cX2_setReading 16 = .ok (.iload_n 1, 1) := by decide +kernel
theorem dX2_setReading_17 : decode cX2_setReading 17 = .ok (.invokestatic 28, 3) := by decide +kernel
theorem dX2_setReading_20 : decode cX2_setReading 20 = .ok (.iload_n 3, 1) := by decide +kernel
theorem dX2_setReading_21 : decode cX2_setReading 21 = .ok (.if_icmp .eq 7, 3) := by decide +kernel
theorem dX2_setReading_24 : decode cX2_setReading 24 = .ok (.iconst 1, 1) := by decide +kernel
theorem dX2_setReading_25 : decode cX2_setReading 25 = .ok (.goto 4, 3) := by decide +kernel
theorem dX2_setReading_28 : decode cX2_setReading 28 = .ok (.iconst 0, 1) := by decide +kernel
theorem dX2_setReading_29 : decode cX2_setReading 29 = .ok (.istore 4, 2) := by decide +kernel
theorem dX2_setReading_31 : decode cX2_setReading 31 = .ok (.aload_n 0, 1) := by decide +kernel
theorem dX2_setReading_32 : decode cX2_setReading 32 = .ok (.getfield 18, 3) := by decide +kernel
theorem dX2_setReading_35 : decode cX2_setReading 35 = .ok (.iload_n 1, 1) := by decide +kernel
theorem dX2_setReading_36 : decode cX2_setReading 36 = .ok (.iload_n 2, 1) := by decide +kernel
theorem dX2_setReading_37 : decode cX2_setReading 37 = .ok (.invokestatic 32, 3) := by decide +kernel
theorem dX2_setReading_40 : decode cX2_setReading 40 = .ok (.aload_n 0, 1) := by decide +kernel
theorem dX2_setReading_41 : decode cX2_setReading 41 = .ok (.getfield 22, 3) := by decide +kernel
theorem dX2_setReading_44 : decode cX2_setReading 44 = .ok (.iload_n 1, 1) := by decide +kernel
theorem dX2_setReading_45 : decode cX2_setReading 45 = .ok (.iload_n 3, 1) := by decide +kernel
theorem dX2_setReading_46 : decode cX2_setReading 46 = .ok (.invokestatic 32, 3) := by decide +kernel
theorem dX2_setReading_49 : decode cX2_setReading 49 = .ok (.iload 4, 2) := by decide +kernel
theorem dX2_setReading_51 : decode cX2_setReading 51 = .ok (.ireturn, 1) := by decide +kernel
theorem dX2_sum_0 : decode cX2_sum 0 = .ok (.iconst 0, 1) := by decide +kernel
theorem dX2_sum_1 : decode cX2_sum 1 = .ok (.istore_n 2, 1) := by decide +kernel
theorem dX2_sum_2 : decode cX2_sum 2 = .ok (.iconst 0, 1) := by decide +kernel
theorem dX2_sum_3 : decode cX2_sum 3 = .ok (.istore_n 3, 1) := by decide +kernel
theorem dX2_sum_4 : decode cX2_sum 4 = .ok (.iload_n 3, 1) := by decide +kernel
theorem dX2_sum_5 : decode cX2_sum 5 = .ok (.bipush 6, 2) := by decide +kernel
theorem dX2_sum_7 : decode cX2_sum 7 = .ok (.if_icmp .ge 18, 3) := by decide +kernel
theorem dX2_sum_10 : decode cX2_sum 10 = .ok (.iload_n 2, 1) := by decide +kernel
theorem dX2_sum_11 : decode cX2_sum 11 = .ok (.aload_n 0, 1) := by decide +kernel
theorem dX2_sum_12 : decode cX2_sum 12 = .ok (.iload_n 3, 1) := by decide +kernel
theorem dX2_sum_13 : decode cX2_sum 13 = .ok (.iload_n 1, 1) := by decide +kernel
theorem dX2_sum_14 : decode cX2_sum 14 = .ok (.invokevirtual 40, 3) := by decide +kernel
theorem dX2_sum_17 : decode cX2_sum 17 = .ok (.iadd, 1) := by decide +kernel
theorem dX2_sum_18 : decode cX2_sum 18 = .ok (.istore_n 2, 1) := by decide +kernel
theorem dX2_sum_19 : decode cX2_sum 19 = .ok (.iinc 3 1, 3) := by decide +kernel
theorem dX2_sum_22 : decode cX2_sum 22 = .ok (.goto (-18), 3) := by decide +kernel
theorem dX2_sum_25 : decode cX2_sum 25 = .ok (.iload_n 2, 1) := by decide +kernel
theorem dX2_sum_26 : decode cX2_sum 26 = .ok (.ireturn, 1) := by decide +kernel
