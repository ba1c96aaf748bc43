theorem dX5_close__0 : decode cX5_close_ 0 = .ok (.aload_n 0, 1) := by decide +kernel
theorem dX5_close__1 : decode cX5_close_ 1 = .ok (.iconst 0, 1) := by decide +kernel
theorem dX5_close__2 : decode cX5_close_ 2 = .ok (.putfield 35, 3) := by decide +kernel
theorem dX5_close__5 : decode cX5_close_ 5 = .ok (.aload_n 0, 1) := by decide +kernel
theorem dX5_close__6 : decode cX5_close_ 6 = .ok (.getfield 48, 3) := by decide +kernel
theorem dX5_close__9 : decode cX5_close_ 9 = .ok (.bipush 48, 2) := by decide +kernel
theorem dX5_close__11 : decode cX5_close_ 11 = .ok (.if_icmp .eq 10, 3) := by decide +kernel
theorem dX5_close__14 : decode cX5_close_ 14 = .ok (.aload_n 0, 1) := by decide +kernel
theorem dX5_close__15 : decode cX5_close_ 15 = .ok (.getfield 39, 3) := by decide +kernel
theorem dX5_close__18 : decode cX5_close_ 18 = .ok (.ifCond .ne 9, 3) := by decide +kernel
theorem dX5_close__21 : decode cX5_close_ 21 = .ok (.aload_n 0, 1) := by decide +kernel
theorem dX5_close__22 : decode cX5_close_ 22 = .ok (.iconst 1, 1) := by decide +kernel
theorem dX5_close__23 : decode cX5_close_ 23 = .ok (.invokevirtual 51, 3) := by decide +kernel
theorem dX5_close__26 : decode cX5_close_ 26 = .ok (.ireturn, 1) := by decide +kernel
theorem dX5_close__27 : decode cX5_close_ 27 = .ok (.aload_n 0, 1) := by decide +kernel
theorem dX5_close__28 : decode cX5_close_ 28 = .ok (.getfield 9, 3) := by decide +kernel
theorem dX5_close__31 : decode cX5_close_ 31 = .ok (.iconst 0, 1) := by decide +kernel
theorem dX5_close__32 : decode cX5_close_ 32 = .ok (.aload_n 0, 1) := by decide +kernel
theorem dX5_close__33 : decode cX5_close_ 33 = .ok (.getfield 13, 3) := by decide +kernel
theorem dX5_close__36 : decode cX5_close_ 36 = .ok (.bipush 19, 2) := by decide +kernel
theorem dX5_close__38 : decode cX5_close_ 38 = .ok (.aload_n 0, 1) := by decide +kernel
theorem dX5_close__39 : decode cX5_close_ 39 = .ok (.getfield 48, 3) := by decide +kernel
theorem dX5_close__42 : decode cX5_close_ 42 = .ok (.imul, 1) := by decide +kernel
theorem dX5_close__43 : decode cX5_close_ 43 = .ok (.bipush 19, 2) := by decide +kernel
theorem dX5_close__45 : decode cX5_close_ 45 = .ok (.invokestatic 122, 3) := by decide +kernel
theorem dX5_close__48 : decode cX5_close_ 48 = .ok (.aload_n 0, 1) := by decide +kernel
theorem dX5_close__49 : decode cX5_close_ 49 = .ok (.aload_n 0, 1) := by decide +kernel
theorem dX5_close__50 : decode cX5_close_ 50 = .ok (.getfield 48, 3) := by decide +kernel
theorem dX5_close__53 : decode cX5_close_ 53 = .ok (.aload_n 0, 1) := by decide +kernel
theorem dX5_close__54 : decode cX5_close_ 54 = .ok (.getfield 69, 3) := by decide +kernel
theorem dX5_close__57 : decode cX5_close_ 57 = .ok (.invokevirtual 150, 3) := by decide +kernel
theorem dX5_close__60 : decode cX5_close_ 60 = .ok (.aload_n 0, 1) := by decide +kernel
theorem dX5_close__61 : decode cX5_close_ 61 = .ok (.aload_n 0, 1) := by decide +kernel
theorem dX5_close__62 : decode cX5_close_ 62 = .ok (.getfield 111, 3) := by decide +kernel
theorem dX5_close__65 : decode cX5_close_ 65 = .ok (.putfield 69, 3) := by decide +kernel
theorem dX5_close__68 : decode cX5_close_ 68 = .ok (.aload_n 0, 1) := by decide +kernel
theorem dX5_close__69 : decode cX5_close_ 69 = .ok (.dup, 1) := by decide +kernel
theorem dX5_close__70 : decode cX5_close_ 70 = .ok (.getfield 48, 3) := by decide +kernel
theorem dX5_close__73 : decode cX5_close_ 73 = .ok (.iconst 1, 1) := by decide +kernel
theorem dX5_close__74 : decode cX5_close_ 74 = .ok (.iadd, 1) := by decide +kernel
theorem dX5_close__75 : decode cX5_close_ 75 = .ok (.putfield 48, 3) := by decide +kernel
theorem dX5_close__78 : decode cX5_close_ 78 = .ok (.aload_n 0, 1) := by decide +kernel
theorem dX5_close__79 : decode cX5_close_ 79 = .ok (.getfield 108, 3) := by decide +kernel
theorem dX5_close__82 : decode cX5_close_ 82 = .ok (.ireturn, 1) := by decide +kernel
theorem dX5_common_0 : decode cX5_common 0 = .ok (.aload_n 0, 1) := by decide +kernel
theorem dX5_common_1 : decode cX5_common 1 = .ok (.iload_n 1, 1) := by decide +kernel
theorem dX5_common_2 : decode cX5_common 2 = .ok (.i2l, 1) := by decide +kernel
theorem dX5_common_3 : decode cX5_common 3 = .ok (.lconst 0, 1) := by decide +kernel
theorem dX5_common_4 : decode cX5_common 4 = .ok (.ldc2_w 169, 3) := by decide +kernel
theorem dX5_common_7 : decode cX5_common 7 = .ok (.invokestatic 42, 3) := by decide +kernel
theorem dX5_common_10 : decode cX5_common 10 = .ok (.ifCond .eq 7, 3) := by decide +kernel
theorem dX5_common_13 : decode cX5_common 13 = .ok (.iconst 0, 1) := by decide +kernel
theorem dX5_common_14 : decode cX5_common 14 = .ok (.goto 4, 3) := by decide +kernel
theorem dX5_common_17 : decode cX5_common 17 = .ok (.iconst 1, 1) := by decide +kernel
theorem dX5_common_18 : decode cX5_common 18 = .ok (.putfield 35, 3) := by decide +kernel
theorem dX5_common_21 : decode cX5_common 21 = .ok (.aload_n 0, 1) := by decide +kernel
theorem dX5_common_22 : decode cX5_common 22 = .ok (.getfield 35, 3) := by decide +kernel
theorem dX5_common_25 : decode cX5_common 25 = .ok (.ifCond .eq 7, 3) := by decide +kernel
theorem dX5_common_28 : decode cX5_common 28 = .ok (.lconst 0, 1) := by decide +kernel
theorem dX5_common_29 : decode cX5_common 29 = .ok (.goto 30, 3) := by decide +kernel
theorem dX5_common_32 : decode cX5_common 32 = .ok (.iload_n 1, 1) := by decide +kernel
theorem dX5_common_33 : decode cX5_common 33 = .ok (.ifCond .ne 10, 3) := by decide +kernel
theorem dX5_common_36 : decode cX5_common 36 = .ok (.aload_n 0, 1) := by decide +kernel
theorem dX5_common_37 : decode cX5_common 37 = .ok (.getfield 132, 3) := by decide +kernel
theorem dX5_common_40 : decode cX5_common 40 = .ok (.goto 19, 3) := by decide +kernel
theorem dX5_common_43 : decode cX5_common 43 = .ok (.iload_n 1, 1) := by decide +kernel
theorem dX5_common_44 : decode cX5_common 44 = .ok (.iconst 1, 1) := by decide +kernel
theorem dX5_common_45 : decode cX5_common 45 = .ok (.if_icmp .ne 10, 3) := by decide +kernel
theorem dX5_common_48 : decode cX5_common 48 = .ok (.aload_n 0, 1) := by decide +kernel
theorem dX5_common_49 : decode cX5_common 49 = .ok (.getfield 136, 3) := by decide +kernel
theorem dX5_common_52 : decode cX5_common 52 = .ok (.goto 7, 3) := by decide +kernel
theorem dX5_common_55 : decode cX5_common 55 = .ok (.aload_n 0, 1) := by decide +kernel
theorem dX5_common_56 : decode cX5_common 56 = .ok (.getfield 171, 3) := by decide +kernel
theorem dX5_common_59 : decode cX5_common 59 = .ok (.lreturn, 1) := by decide +kernel
theorem dX5_content_0 : decode cX5_content 0 = .ok (.aload_n 0, 1) := by decide +kernel
theorem dX5_content_1 : decode cX5_content 1 = .ok (.iconst 0, 1) := by decide +kernel
theorem dX5_content_2 : decode cX5_content 2 = .ok (.putfield 35, 3) := by decide +kernel
theorem dX5_content_5 : decode cX5_content 5 = .ok (.aload_n 0, 1) := by decide +kernel
theorem dX5_content_6 : decode cX5_content 6 = .ok (.getfield 69, 3) := by decide +kernel
theorem dX5_content_9 : decode cX5_content 9 = .ok (.ireturn, 1) := by decide +kernel
theorem dX5_contentAt_0 : decode cX5_contentAt 0 = .ok (.aload_n 0, 1) := by decide +kernel
theorem dX5_contentAt_1 : decode cX5_contentAt 1 = .ok (.iconst 0, 1) := by decide +kernel
theorem dX5_contentAt_2 : decode cX5_contentAt 2 = .ok (.putfield 35, 3) := by decide +kernel
theorem dX5_contentAt_5 : decode cX5_contentAt 5 = .ok (.iload_n 1, 1) := by decide +kernel
theorem dX5_contentAt_6 : decode cX5_contentAt 6 = .ok (.invokestatic 147, 3) := by decide +kernel
theorem dX5_contentAt_9 : decode cX5_contentAt 9 = .ok (.ifCond .ne 9, 3) := by decide +kernel
theorem dX5_contentAt_12 : decode cX5_contentAt 12 = .ok (.aload_n 0, 1) := by decide +kernel
theorem dX5_contentAt_13 : decode cX5_contentAt 13 = .ok (.iconst 1, 1) := by decide +kernel
theorem dX5_contentAt_14 : decode cX5_contentAt 14 = .ok (.invokevirtual 51, 3) := by decide +kernel
theorem dX5_contentAt_17 : decode cX5_contentAt 17 = .ok (.ireturn, 1) := by decide +kernel
theorem dX5_contentAt_18 : decode cX5_contentAt 18 = .ok (.iload_n 1, 1) := by decide +kernel
theorem dX5_contentAt_19 : decode cX5_contentAt 19 = .ok (.aload_n 0, 1) := by decide +kernel
theorem dX5_contentAt_20 : decode cX5_contentAt 20 = .ok (.getfield 48, 3) := by decide +kernel
theorem dX5_contentAt_23 : decode cX5_contentAt 23 = .ok (.if_icmp .ge 12, 3) := by decide +kernel
theorem dX5_contentAt_26 : decode cX5_contentAt 26 = .ok (.aload_n 0, 1) := by decide +kernel
theorem dX5_contentAt_27 : decode cX5_contentAt 27 = .ok (.getfield 22, 3) := by decide +kernel
theorem dX5_contentAt_30 : decode cX5_contentAt 30 = .ok (.iload_n 1, 1) := by decide +kernel
theorem dX5_contentAt_31 : decode cX5_contentAt 31 = .ok (.iaload, 1) := by decide +kernel
theorem dX5_contentAt_32 : decode cX5_contentAt 32 = .ok (.goto 4, 3) := by decide +kernel
theorem dX5_contentAt_35 : decode cX5_contentAt 35 = .ok (.iconst (-1), 1) := by decide +kernel
theorem dX5_contentAt_36 : decode cX5_contentAt 36 = .ok (.ireturn, 1) := by decide +kernel
theorem dX5_correct_0 : decode cX5_correct 0 = .ok (.aload_n 0, 1) := by decide +kernel
theorem dX5_correct_1 : decode cX5_correct 1 = .ok (.aload_n 0, 1) := by decide +kernel
theorem dX5_correct_2 : decode cX5_correct 2 = .ok (.iload_n 1, 1) := by decide +kernel
theorem dX5_correct_3 : decode cX5_correct 3 = .ok (.invokevirtual 55, 3) := by decide +kernel
theorem dX5_correct_6 : decode cX5_correct 6 = .ok (.ifCond .eq 10, 3) := by decide +kernel
theorem dX5_correct_9 : decode cX5_correct 9 = .ok (.iload_n 2, 1) := by decide +kernel
theorem dX5_correct_10 : decode cX5_correct 10 = .ok (.invokestatic 147, 3) := by decide +kernel
theorem dX5_correct_13 : decode cX5_correct 13 = .ok (.ifCond .ne 7, 3) := by decide +kernel
theorem dX5_correct_16 : decode cX5_correct 16 = .ok (.iconst 1, 1) := by decide +kernel
theorem dX5_correct_17 : decode cX5_correct 17 = .ok (.goto 53, 3) := by decide +kernel
theorem dX5_correct_20 : decode cX5_correct 20 = .ok (.iload_n 3, 1) := by decide +kernel
theorem dX5_correct_21 : decode cX5_correct 21 = .ok (.i2l, 1) := by decide +kernel
theorem dX5_correct_22 : decode cX5_correct 22 = .ok (.lconst 0, 1) := by decide +kernel
theorem dX5_correct_23 : decode cX5_correct 23 = .ok (.ldc2_w 67, 3) := by decide +kernel
theorem dX5_correct_26 : decode cX5_correct 26 = .ok (.invokestatic 42, 3) := by decide +kernel
theorem dX5_correct_29 : decode cX5_correct 29 = .ok (.ifCond .eq 16, 3) := by decide +kernel
theorem dX5_correct_32 : decode cX5_correct 32 = .ok (.iload 4, 2) := by decide +kernel
theorem dX5_correct_34 : decode cX5_correct 34 = .ok (.i2l, 1) := by decide +kernel
theorem dX5_correct_35 : decode cX5_correct 35 = .ok (.lconst 0, 1) := by decide +kernel
theorem dX5_correct_36 : decode cX5_correct 36 = .ok (.ldc2_w 67, 3) := by decide +kernel
theorem dX5_correct_39 : decode cX5_correct 39 = .ok (.invokestatic 42, 3) := by decide +kernel
theorem dX5_correct_42 : decode cX5_correct 42 = .ok (.ifCond .ne 7, 3) := by decide +kernel
theorem dX5_correct_45 : decode cX5_correct 45 = .ok (.iconst 2, 1) := by decide +kernel
theorem dX5_correct_46 : decode cX5_correct 46 = .ok (.goto 24, 3) := by decide +kernel
theorem dX5_correct_49 : decode cX5_correct 49 = .ok (.iload_n 2, 1) := by decide +kernel
theorem dX5_correct_50 : decode cX5_correct 50 = .ok (.aload_n 0, 1) := by decide +kernel
theorem dX5_correct_51 : decode cX5_correct 51 = .ok (.getfield 48, 3) := by decide +kernel
theorem dX5_correct_54 : decode cX5_correct 54 = .ok (.if_icmp .ge 11, 3) := by decide +kernel
theorem dX5_correct_57 : decode cX5_correct 57 = .ok (.iload_n 2, 1) := by decide +kernel
theorem dX5_correct_58 : decode cX5_correct 58 = .ok (.aload_n 0, 1) := by decide +kernel
theorem dX5_correct_59 : decode cX5_correct 59 = .ok (.getfield 153, 3) := by decide +kernel
theorem dX5_correct_62 : decode cX5_correct 62 = .ok (.if_icmp .ge 7, 3) := by decide +kernel
theorem dX5_correct_65 : decode cX5_correct 65 = .ok (.iconst 3, 1) := by decide +kernel
theorem dX5_correct_66 : decode cX5_correct 66 = .ok (.goto 4, 3) := by decide +kernel
theorem dX5_correct_69 : decode cX5_correct 69 = .ok (.iconst 0, 1) := by decide +kernel
theorem dX5_correct_70 : decode cX5_correct 70 = .ok (.putfield 35, 3) := by decide +kernel
theorem dX5_correct_73 : decode cX5_correct 73 = .ok (.aload_n 0, 1) := by decide +kernel
theorem dX5_correct_74 : decode cX5_correct 74 = .ok (.getfield 35, 3) := by decide +kernel
theorem dX5_correct_77 : decode cX5_correct 77 = .ok (.ifCond .eq 5, 3) := by decide +kernel
theorem dX5_correct_80 : decode cX5_correct 80 = .ok (.lconst 0, 1) := by decide +kernel
theorem dX5_correct_81 : decode cX5_correct 81 = .ok (.lreturn, 1) := by decide +kernel
theorem dX5_correct_82 : decode cX5_correct 82 = .ok (.aload_n 0, 1) := by decide +kernel
theorem dX5_correct_83 : decode cX5_correct 83 = .ok (.getfield 28, 3) := by decide +kernel
theorem dX5_correct_86 : decode cX5_correct 86 = .ok (.iload_n 1, 1) := by decide +kernel
theorem dX5_correct_87 : decode cX5_correct 87 = .ok (.laload, 1) := by decide +kernel
theorem dX5_correct_88 : decode cX5_correct 88 = .ok (.lstore 5, 2) := by decide +kernel
theorem dX5_correct_90 : decode cX5_correct 90 = .ok (.aload_n 0, 1) := by decide +kernel
theorem dX5_correct_91 : decode cX5_correct 91 = .ok (.getfield 16, 3) := by decide +kernel
theorem dX5_correct_94 : decode cX5_correct 94 = .ok (.bipush 48, 2) := by decide +kernel
theorem dX5_correct_96 : decode cX5_correct 96 = .ok (.iload_n 1, 1) := by decide +kernel
theorem dX5_correct_97 : decode cX5_correct 97 = .ok (.imul, 1) := by decide +kernel
theorem dX5_correct_98 : decode cX5_correct 98 = .ok (.iload_n 2, 1) := by decide +kernel
theorem dX5_correct_99 : decode cX5_correct 99 = .ok (.iadd, 1) := by decide +kernel
theorem dX5_correct_100 : decode cX5_correct 100 = .ok (.iload_n 3, 1) := by decide +kernel
theorem dX5_correct_101 : decode cX5_correct 101 = .ok (.iastore, 1) := by decide +kernel
theorem dX5_correct_102 : decode cX5_correct 102 = .ok (.aload_n 0, 1) := by decide +kernel
theorem dX5_correct_103 : decode cX5_correct 103 = .ok (.getfield 19, 3) := by decide +kernel
theorem dX5_correct_106 : decode cX5_correct 106 = .ok (.bipush 48, 2) := by decide +kernel
theorem dX5_correct_108 : decode cX5_correct 108 = .ok (.iload_n 1, 1) := by decide +kernel
theorem dX5_correct_109 : decode cX5_correct 109 = .ok (.imul, 1) := by decide +kernel
theorem dX5_correct_110 : decode cX5_correct 110 = .ok (.iload_n 2, 1) := by decide +kernel
theorem dX5_correct_111 : decode cX5_correct 111 = .ok (.iadd, 1) := by decide +kernel
theorem dX5_correct_112 : decode cX5_correct 112 = .ok (.iload 4, 2) := by decide +kernel
theorem dX5_correct_114 : decode cX5_correct 114 = .ok (.iastore, 1) := by decide +kernel
theorem dX5_correct_115 : decode cX5_correct 115 = .ok (.aload_n 0, 1) := by decide +kernel
theorem dX5_correct_116 : decode cX5_correct 116 = .ok (.getfield 22, 3) := by decide +kernel
theorem dX5_correct_119 : decode cX5_correct 119 = .ok (.iload_n 2, 1) := by decide +kernel
theorem dX5_correct_120 : decode cX5_correct 120 = .ok (.iaload, 1) := by decide +kernel
theorem dX5_correct_121 : decode cX5_correct 121 = .ok (.istore 7, 2) := by decide +kernel
theorem dX5_correct_123 : decode cX5_correct 123 = .ok (.iload_n 2, 1) := by decide +kernel
theorem dX5_correct_124 : decode cX5_correct 124 = .ok (.istore 8, 2) := by decide +kernel
theorem dX5_correct_126 : decode cX5_correct 126 = .ok (.iload 8, 2) := by decide +kernel
theorem dX5_correct_128 : decode cX5_correct 128 = .ok (.aload_n 0, 1) := by decide +kernel
theorem dX5_correct_129 : decode cX5_correct 129 = .ok (.getfield 48, 3) := by decide +kernel
theorem dX5_correct_132 : decode cX5_correct 132 = .ok (.if_icmp .ge 30, 3) := by decide +kernel
theorem dX5_correct_135 : decode cX5_correct 135 = .ok (.aload_n 0, 1) := by decide +kernel
theorem dX5_correct_136 : decode cX5_correct 136 = .ok (.iload 8, 2) := by decide +kernel
theorem dX5_correct_138 : decode cX5_correct 138 = .ok (.iconst (-1), 1) := by decide +kernel
theorem dX5_correct_139 : decode cX5_correct 139 = .ok (.invokevirtual 143, 3) := by decide +kernel
theorem dX5_correct_142 : decode cX5_correct 142 = .ok (.aload_n 0, 1) := by decide +kernel
theorem dX5_correct_143 : decode cX5_correct 143 = .ok (.iload 8, 2) := by decide +kernel
theorem dX5_correct_145 : decode cX5_correct 145 = .ok (.iload 7, 2) := by decide +kernel
theorem dX5_correct_147 : decode cX5_correct 147 = .ok (.invokevirtual 150, 3) := by decide +kernel
theorem dX5_correct_150 : decode cX5_correct 150 = .ok (.aload_n 0, 1) := by decide +kernel
theorem dX5_correct_151 : decode cX5_correct 151 = .ok (.getfield 111, 3) := by decide +kernel
theorem dX5_correct_154 : decode cX5_correct 154 = .ok (.istore 7, 2) := by decide +kernel
theorem dX5_correct_156 : decode cX5_correct 156 = .ok (.iinc 8 1, 3) := by decide +kernel
theorem dX5_correct_159 : decode cX5_correct 159 = .ok (.goto (-33), 3) := by decide +kernel
theorem dX5_correct_162 : decode cX5_correct 162 = .ok (.aload_n 0, 1) := by decide +kernel
theorem dX5_correct_163 : decode cX5_correct 163 = .ok (.iload 7, 2) := by decide +kernel
theorem dX5_correct_165 : decode cX5_correct 165 = .ok (.aload_n 0, 1) := by decide +kernel
theorem dX5_correct_166 : decode cX5_correct 166 = .ok (.getfield 9, 3) := by decide +kernel
theorem dX5_correct_169 : decode cX5_correct 169 = .ok (.iconst 4, 1) := by decide +kernel
theorem dX5_correct_170 : decode cX5_correct 170 = .ok (.iaload, 1) := by decide +kernel
theorem dX5_correct_171 : decode cX5_correct 171 = .ok (.invokestatic 86, 3) := by decide +kernel
theorem dX5_correct_174 : decode cX5_correct 174 = .ok (.putfield 69, 3) := by decide +kernel
theorem dX5_correct_177 : decode cX5_correct 177 = .ok (.aload_n 0, 1) := by decide +kernel
theorem dX5_correct_178 : decode cX5_correct 178 = .ok (.dup, 1) := by decide +kernel
theorem dX5_correct_179 : decode cX5_correct 179 = .ok (.getfield 156, 3) := by decide +kernel
theorem dX5_correct_182 : decode cX5_correct 182 = .ok (.iconst 1, 1) := by decide +kernel
theorem dX5_correct_183 : decode cX5_correct 183 = .ok (.iadd, 1) := by decide +kernel
theorem dX5_correct_184 : decode cX5_correct 184 = .ok (.putfield 156, 3) := by decide +kernel
theorem dX5_correct_187 : decode cX5_correct 187 = .ok (.aload_n 0, 1) := by decide +kernel
theorem dX5_correct_188 : decode cX5_correct 188 = .ok (.getfield 28, 3) := by decide +kernel
theorem dX5_correct_191 : decode cX5_correct 191 = .ok (.iload_n 1, 1) := by decide +kernel
theorem dX5_correct_192 : decode cX5_correct 192 = .ok (.laload, 1) := by decide +kernel
theorem dX5_correct_193 : decode cX5_correct 193 = .ok (.lload 5, 2) := by decide +kernel
theorem dX5_correct_195 : decode cX5_correct 195 = .ok (.lsub, 1) := by decide +kernel
theorem dX5_correct_196 : decode cX5_correct 196 = .ok (.lreturn, 1) := by decide +kernel
theorem dX5_corrections_0 : decode cX5_corrections 0 = .ok (.aload_n 0, 1) := by decide +kernel
theorem dX5_corrections_1 : decode cX5_corrections 1 = .ok (.iconst 0, 1) := by decide +kernel
theorem dX5_corrections_2 : decode cX5_corrections 2 = .ok (.putfield 35, 3) := by decide +kernel
theorem dX5_corrections_5 : decode cX5_corrections 5 = .ok (.aload_n 0, 1) := by decide +kernel
theorem dX5_corrections_6 : decode cX5_corrections 6 = .ok (.getfield 156, 3) := by decide +kernel
theorem dX5_corrections_9 : decode cX5_corrections 9 = .ok (.ireturn, 1) := by decide +kernel
theorem dX5_digest_0 : decode cX5_digest 0 = .ok (.aload_n 0, 1) := by decide +kernel
theorem dX5_digest_1 : decode cX5_digest 1 = .ok (.iconst 0, 1) := by decide +kernel
theorem dX5_digest_2 : decode cX5_digest 2 = .ok (.putfield 35, 3) := by decide +kernel
theorem dX5_digest_5 : decode cX5_digest 5 = .ok (.ldc2_w 180, 3) := by decide +kernel
theorem dX5_digest_8 : decode cX5_digest 8 = .ok (.aload_n 0, 1) := by decide +kernel
theorem dX5_digest_9 : decode cX5_digest 9 = .ok (.getfield 39, 3) := by decide +kernel
theorem dX5_digest_12 : decode cX5_digest 12 = .ok (.i2l, 1) := by decide +kernel
theorem dX5_digest_13 : decode cX5_digest 13 = .ok (.ladd, 1) := by decide +kernel
theorem dX5_digest_14 : decode cX5_digest 14 = .ok (.ldc2_w 182, 3) := by decide +kernel
theorem dX5_digest_17 : decode cX5_digest 17 = .ok (.lmul, 1) := by decide +kernel
theorem dX5_digest_18 : decode cX5_digest 18 = .ok (.aload_n 0, 1) := by decide +kernel
theorem dX5_digest_19 : decode cX5_digest 19 = .ok (.getfield 48, 3) := by decide +kernel
theorem dX5_digest_22 : decode cX5_digest 22 = .ok (.i2l, 1) := by decide +kernel
theorem dX5_digest_23 : decode cX5_digest 23 = .ok (.ladd, 1) := by decide +kernel
theorem dX5_digest_24 : decode cX5_digest 24 = .ok (.ldc2_w 182, 3) := by decide +kernel
theorem dX5_digest_27 : decode cX5_digest 27 = .ok (.lmul, 1) := by decide +kernel
theorem dX5_digest_28 : decode cX5_digest 28 = .ok (.aload_n 0, 1) := by decide +kernel
theorem dX5_digest_29 : decode cX5_digest 29 = .ok (.getfield 69, 3) := by decide +kernel
theorem dX5_digest_32 : decode cX5_digest 32 = .ok (.i2l, 1) := by decide +kernel
theorem dX5_digest_33 : decode cX5_digest 33 = .ok (.ladd, 1) := by decide +kernel
theorem dX5_digest_34 : decode cX5_digest 34 = .ok (.ldc2_w 182, 3) := by decide +kernel
theorem dX5_digest_37 : decode cX5_digest 37 = .ok (.lmul, 1) := by decide +kernel
theorem dX5_digest_38 : decode cX5_digest 38 = .ok (.aload_n 0, 1) := by decide +kernel
theorem dX5_digest_39 : decode cX5_digest 39 = .ok (.getfield 9, 3) := by decide +kernel
theorem dX5_digest_42 : decode cX5_digest 42 = .ok (.iconst 0, 1) := by decide +kernel
theorem dX5_digest_43 : decode cX5_digest 43 = .ok (.iaload, 1) := by decide +kernel
theorem dX5_digest_44 : decode cX5_digest 44 = .ok (.i2l, 1) := by decide +kernel
theorem dX5_digest_45 : decode cX5_digest 45 = .ok (.ladd, 1) := by decide +kernel
theorem dX5_digest_46 : decode cX5_digest 46 = .ok (.lstore_n 1, 1) := by decide +kernel
theorem dX5_digest_47 : decode cX5_digest 47 = .ok (.iconst 0, 1) := by decide +kernel
theorem dX5_digest_48 : decode cX5_digest 48 = .ok (.istore_n 3, 1) := by decide +kernel
theorem dX5_digest_49 : decode cX5_digest 49 = .ok (.iload_n 3, 1) := by decide +kernel
theorem dX5_digest_50 : decode cX5_digest 50 = .ok (.aload_n 0, 1) := by decide +kernel
theorem dX5_digest_51 : decode cX5_digest 51 = .ok (.getfield 39, 3) := by decide +kernel
theorem dX5_digest_54 : decode cX5_digest 54 = .ok (.if_icmp .ge 63, 3) := by decide +kernel
theorem dX5_digest_57 : decode cX5_digest 57 = .ok (.lload_n 1, 1) := by decide +kernel
theorem dX5_digest_58 : decode cX5_digest 58 = .ok (.ldc2_w 182, 3) := by decide +kernel
theorem dX5_digest_61 : decode cX5_digest 61 = .ok (.lmul, 1) := by decide +kernel
theorem dX5_digest_62 : decode cX5_digest 62 = .ok (.aload_n 0, 1) := by decide +kernel
theorem dX5_digest_63 : decode cX5_digest 63 = .ok (.getfield 9, 3) := by decide +kernel
theorem dX5_digest_66 : decode cX5_digest 66 = .ok (.bipush 7, 2) := by decide +kernel
theorem dX5_digest_68 : decode cX5_digest 68 = .ok (.iload_n 3, 1) := by decide +kernel
theorem dX5_digest_69 : decode cX5_digest 69 = .ok (.iadd, 1) := by decide +kernel
theorem dX5_digest_70 : decode cX5_digest 70 = .ok (.iaload, 1) := by decide +kernel
theorem dX5_digest_71 : decode cX5_digest 71 = .ok (.i2l, 1) := by decide +kernel
theorem dX5_digest_72 : decode cX5_digest 72 = .ok (.ladd, 1) := by decide +kernel
theorem dX5_digest_73 : decode cX5_digest 73 = .ok (.ldc2_w 182, 3) := by decide +kernel
theorem dX5_digest_76 : decode cX5_digest 76 = .ok (.lmul, 1) := by decide +kernel
theorem dX5_digest_77 : decode cX5_digest 77 = .ok (.aload_n 0, 1) := by decide +kernel
theorem dX5_digest_78 : decode cX5_digest 78 = .ok (.getfield 9, 3) := by decide +kernel
theorem dX5_digest_81 : decode cX5_digest 81 = .ok (.bipush 13, 2) := by decide +kernel
theorem dX5_digest_83 : decode cX5_digest 83 = .ok (.iload_n 3, 1) := by decide +kernel
theorem dX5_digest_84 : decode cX5_digest 84 = .ok (.iadd, 1) := by decide +kernel
theorem dX5_digest_85 : decode cX5_digest 85 = .ok (.iaload, 1) := by decide +kernel
theorem dX5_digest_86 : decode cX5_digest 86 = .ok (.i2l, 1) := by decide +kernel
theorem dX5_digest_87 : decode cX5_digest 87 = .ok (.ladd, 1) := by decide +kernel
theorem dX5_digest_88 : decode cX5_digest 88 = .ok (.ldc2_w 182, 3) := by decide +kernel
theorem dX5_digest_91 : decode cX5_digest 91 = .ok (.lmul, 1) := by decide +kernel
theorem dX5_digest_92 : decode cX5_digest 92 = .ok (.aload_n 0, 1) := by decide +kernel
theorem dX5_digest_93 : decode cX5_digest 93 = .ok (.getfield 28, 3) := by decide +kernel
theorem dX5_digest_96 : decode cX5_digest 96 = .ok (.iload_n 3, 1) := by decide +kernel
theorem dX5_digest_97 : decode cX5_digest 97 = .ok (.laload, 1) := by decide +kernel
theorem dX5_digest_98 : decode cX5_digest 98 = .ok (.ladd, 1) := by decide +kernel
theorem dX5_digest_99 : decode cX5_digest 99 = .ok (.ldc2_w 182, 3) := by decide +kernel
theorem dX5_digest_102 : decode cX5_digest 102 = .ok (.lmul, 1) := by decide +kernel
theorem dX5_digest_103 : decode cX5_digest 103 = .ok (.aload_n 0, 1) := by decide +kernel
theorem dX5_digest_104 : decode cX5_digest 104 = .ok (.getfield 32, 3) := by decide +kernel
theorem dX5_digest_107 : decode cX5_digest 107 = .ok (.iload_n 3, 1) := by decide +kernel
theorem dX5_digest_108 : decode cX5_digest 108 = .ok (.laload, 1) := by decide +kernel
theorem dX5_digest_109 : decode cX5_digest 109 = .ok (.ladd, 1) := by decide +kernel
theorem dX5_digest_110 : decode cX5_digest 110 = .ok (.lstore_n 1, 1) := by decide +kernel
theorem dX5_digest_111 : decode cX5_digest 111 = .ok (.iinc 3 1, 3) := by decide +kernel
theorem dX5_digest_114 : decode cX5_digest 114 = .ok (.goto (-65), 3) := by decide +kernel
theorem dX5_digest_117 : decode cX5_digest 117 = .ok (.lload_n 1, 1) := by decide +kernel
theorem dX5_digest_118 : decode cX5_digest 118 = .ok (.ldc2_w 182, 3) := by decide +kernel
theorem dX5_digest_121 : decode cX5_digest 121 = .ok (.lmul, 1) := by decide +kernel
theorem dX5_digest_122 : decode cX5_digest 122 = .ok (.aload_n 0, 1) := by decide +kernel
theorem dX5_digest_123 : decode cX5_digest 123 = .ok (.getfield 132, 3) := by decide +kernel
theorem dX5_digest_126 : decode cX5_digest 126 = .ok (.ladd, 1) := by decide +kernel
theorem dX5_digest_127 : decode cX5_digest 127 = .ok (.ldc2_w 182, 3) := by decide +kernel
theorem dX5_digest_130 : decode cX5_digest 130 = .ok (.lmul, 1) := by decide +kernel
theorem dX5_digest_131 : decode cX5_digest 131 = .ok (.aload_n 0, 1) := by decide +kernel
theorem dX5_digest_132 : decode cX5_digest 132 = .ok (.getfield 136, 3) := by decide +kernel
theorem dX5_digest_135 : decode cX5_digest 135 = .ok (.ladd, 1) := by decide +kernel
theorem dX5_digest_136 : decode cX5_digest 136 = .ok (.ldc2_w 182, 3) := by decide +kernel
theorem dX5_digest_139 : decode cX5_digest 139 = .ok (.lmul, 1) := by decide +kernel
theorem dX5_digest_140 : decode cX5_digest 140 = .ok (.aload_n 0, 1) := by decide +kernel
theorem dX5_digest_141 : decode cX5_digest 141 = .ok (.getfield 171, 3) := by decide +kernel
theorem dX5_digest_144 : decode cX5_digest 144 = .ok (.ladd, 1) := by decide +kernel
theorem dX5_digest_145 : decode cX5_digest 145 = .ok (.lstore_n 1, 1) := by decide +kernel
theorem dX5_digest_146 : decode cX5_digest 146 = .ok (.iconst 0, 1) := by decide +kernel
theorem dX5_digest_147 : decode cX5_digest 147 = .ok (.istore_n 3, 1) := by decide +kernel
theorem dX5_digest_148 : decode cX5_digest 148 = .ok (.iload_n 3, 1) := by decide +kernel
theorem dX5_digest_149 : decode cX5_digest 149 = .ok (.aload_n 0, 1) := by decide +kernel
theorem dX5_digest_150 : decode cX5_digest 150 = .ok (.getfield 48, 3) := by decide +kernel
theorem dX5_digest_153 : decode cX5_digest 153 = .ok (.if_icmp .ge 121, 3) := by decide +kernel
theorem dX5_digest_156 : decode cX5_digest 156 = .ok (.lload_n 1, 1) := by decide +kernel
theorem dX5_digest_157 : decode cX5_digest 157 = .ok (.ldc2_w 182, 3) := by decide +kernel
theorem dX5_digest_160 : decode cX5_digest 160 = .ok (.lmul, 1) := by decide +kernel
theorem dX5_digest_161 : decode cX5_digest 161 = .ok (.aload_n 0, 1) := by decide +kernel
theorem dX5_digest_162 : decode cX5_digest 162 = .ok (.getfield 22, 3) := by decide +kernel
theorem dX5_digest_165 : decode cX5_digest 165 = .ok (.iload_n 3, 1) := by decide +kernel
theorem dX5_digest_166 : decode cX5_digest 166 = .ok (.iaload, 1) := by decide +kernel
theorem dX5_digest_167 : decode cX5_digest 167 = .ok (.i2l, 1) := by decide +kernel
theorem dX5_digest_168 : decode cX5_digest 168 = .ok (.ladd, 1) := by decide +kernel
theorem dX5_digest_169 : decode cX5_digest 169 = .ok (.lstore_n 1, 1) := by decide +kernel
theorem dX5_digest_170 : decode cX5_digest 170 = .ok (.iconst 0, 1) := by decide +kernel
theorem dX5_digest_171 : decode cX5_digest 171 = .ok (.istore 4, 2) := by decide +kernel
theorem dX5_digest_173 : decode cX5_digest 173 = .ok (.iload 4, 2) := by decide +kernel
theorem dX5_digest_175 : decode cX5_digest 175 = .ok (.aload_n 0, 1) := by decide +kernel
theorem dX5_digest_176 : decode cX5_digest 176 = .ok (.getfield 39, 3) := by decide +kernel
theorem dX5_digest_179 : decode cX5_digest 179 = .ok (.if_icmp .ge 89, 3) := by decide +kernel
theorem dX5_digest_182 : decode cX5_digest 182 = .ok (.lload_n 1, 1) := by decide +kernel
theorem dX5_digest_183 : decode cX5_digest 183 = .ok (.ldc2_w 182, 3) := by decide +kernel
theorem dX5_digest_186 : decode cX5_digest 186 = .ok (.lmul, 1) := by decide +kernel
theorem dX5_digest_187 : decode cX5_digest 187 = .ok (.aload_n 0, 1) := by decide +kernel
theorem dX5_digest_188 : decode cX5_digest 188 = .ok (.getfield 16, 3) := by decide +kernel
theorem dX5_digest_191 : decode cX5_digest 191 = .ok (.bipush 48, 2) := by decide +kernel
theorem dX5_digest_193 : decode cX5_digest 193 = .ok (.iload 4, 2) := by decide +kernel
theorem dX5_digest_195 : decode cX5_digest 195 = .ok (.imul, 1) := by decide +kernel
theorem dX5_digest_196 : decode cX5_digest 196 = .ok (.iload_n 3, 1) := by decide +kernel
theorem dX5_digest_197 : decode cX5_digest 197 = .ok (.iadd, 1) := by decide +kernel
theorem dX5_digest_198 : decode cX5_digest 198 = .ok (.iaload, 1) := by decide +kernel
theorem dX5_digest_199 : decode cX5_digest 199 = .ok (.i2l, 1) := by decide +kernel
theorem dX5_digest_200 : decode cX5_digest 200 = .ok (.ladd, 1) := by decide +kernel
theorem dX5_digest_201 : decode cX5_digest 201 = .ok (.ldc2_w 182, 3) := by decide +kernel
theorem dX5_digest_204 : decode cX5_digest 204 = .ok (.lmul, 1) := by decide +kernel
theorem dX5_digest_205 : decode cX5_digest 205 = .ok (.aload_n 0, 1) := by decide +kernel
theorem dX5_digest_206 : decode cX5_digest 206 = .ok (.getfield 19, 3) := by decide +kernel
theorem dX5_digest_209 : decode cX5_digest 209 = .ok (.bipush 48, 2) := by decide +kernel
theorem dX5_digest_211 : decode cX5_digest 211 = .ok (.iload 4, 2) := by decide +kernel
theorem dX5_digest_213 : decode cX5_digest 213 = .ok (.imul, 1) := by decide +kernel
theorem dX5_digest_214 : decode cX5_digest 214 = .ok (.iload_n 3, 1) := by decide +kernel
theorem dX5_digest_215 : decode cX5_digest 215 = .ok (.iadd, 1) := by decide +kernel
theorem dX5_digest_216 : decode cX5_digest 216 = .ok (.iaload, 1) := by decide +kernel
theorem dX5_digest_217 : decode cX5_digest 217 = .ok (.i2l, 1) := by decide +kernel
theorem dX5_digest_218 : decode cX5_digest 218 = .ok (.ladd, 1) := by decide +kernel
theorem dX5_digest_219 : decode cX5_digest 219 = .ok (.lstore_n 1, 1) := by decide +kernel
theorem dX5_digest_220 : decode cX5_digest 220 = .ok (.iconst 0, 1) := by decide +kernel
theorem dX5_digest_221 : decode cX5_digest 221 = .ok (.istore 5, 2) := by decide +kernel
theorem dX5_digest_223 : decode cX5_digest 223 = .ok (.iload 5, 2) := by decide +kernel
theorem dX5_digest_225 : decode cX5_digest 225 = .ok (.bipush 8, 2) := by decide +kernel
theorem dX5_digest_227 : decode cX5_digest 227 = .ok (.if_icmp .ge 35, 3) := by decide +kernel
theorem dX5_digest_230 : decode cX5_digest 230 = .ok (.lload_n 1, 1) := by decide +kernel
theorem dX5_digest_231 : decode cX5_digest 231 = .ok (.ldc2_w 182, 3) := by decide +kernel
theorem dX5_digest_234 : decode cX5_digest 234 = .ok (.lmul, 1) := by decide +kernel
theorem dX5_digest_235 : decode cX5_digest 235 = .ok (.aload_n 0, 1) := by decide +kernel
theorem dX5_digest_236 : decode cX5_digest 236 = .ok (.getfield 25, 3) := by decide +kernel
theorem dX5_digest_239 : decode cX5_digest 239 = .ok (.bipush 8, 2) := by decide +kernel
theorem dX5_digest_241 : decode cX5_digest 241 = .ok (.bipush 6, 2) := by decide +kernel
theorem dX5_digest_243 : decode cX5_digest 243 = .ok (.iload_n 3, 1) := by decide +kernel
theorem dX5_digest_244 : decode cX5_digest 244 = .ok (.imul, 1) := by decide +kernel
theorem dX5_digest_245 : decode cX5_digest 245 = .ok (.iload 4, 2) := by decide +kernel
theorem dX5_digest_247 : decode cX5_digest 247 = .ok (.iadd, 1) := by decide +kernel
theorem dX5_digest_248 : decode cX5_digest 248 = .ok (.imul, 1) := by decide +kernel
theorem dX5_digest_249 : decode cX5_digest 249 = .ok (.iload 5, 2) := by decide +kernel
theorem dX5_digest_251 : decode cX5_digest 251 = .ok (.iadd, 1) := by decide +kernel
theorem dX5_digest_252 : decode cX5_digest 252 = .ok (.iaload, 1) := by decide +kernel
theorem dX5_digest_253 : decode cX5_digest 253 = .ok (.i2l, 1) := by decide +kernel
theorem dX5_digest_254 : decode cX5_digest 254 = .ok (.ladd, 1) := by decide +kernel
theorem dX5_digest_255 : decode cX5_digest 255 = .ok (.lstore_n 1, 1) := by decide +kernel
theorem dX5_digest_256 : decode cX5_digest 256 = .ok (.iinc 5 1, 3) := by decide +kernel
theorem dX5_digest_259 : decode cX5_digest 259 = .ok (.goto (-36), 3) := by decide +kernel
theorem dX5_digest_262 : decode cX5_digest 262 = .ok (.iinc 4 1, 3) := by decide +kernel
theorem dX5_digest_265 : decode cX5_digest 265 = .ok (.goto (-92), 3) := by decide +kernel
theorem dX5_digest_268 : decode cX5_digest 268 = .ok (.iinc 3 1, 3) := by decide +kernel
theorem dX5_digest_271 : decode cX5_digest 271 = .ok (.goto (-123), 3) := by decide +kernel
theorem dX5_digest_274 : decode cX5_digest 274 = .ok (.lload_n 1, 1) := by decide +kernel
theorem dX5_digest_275 : decode cX5_digest 275 = .ok (.ldc2_w 182, 3) := by decide +kernel
theorem dX5_digest_278 : decode cX5_digest 278 = .ok (.lmul, 1) := by decide +kernel
theorem dX5_digest_279 : decode cX5_digest 279 = .ok (.aload_n 0, 1) := by decide +kernel
theorem dX5_digest_280 : decode cX5_digest 280 = .ok (.getfield 153, 3) := by decide +kernel
theorem dX5_digest_283 : decode cX5_digest 283 = .ok (.i2l, 1) := by decide +kernel
theorem dX5_digest_284 : decode cX5_digest 284 = .ok (.ladd, 1) := by decide +kernel
theorem dX5_digest_285 : decode cX5_digest 285 = .ok (.ldc2_w 182, 3) := by decide +kernel
theorem dX5_digest_288 : decode cX5_digest 288 = .ok (.lmul, 1) := by decide +kernel
theorem dX5_digest_289 : decode cX5_digest 289 = .ok (.aload_n 0, 1) := by decide +kernel
theorem dX5_digest_290 : decode cX5_digest 290 = .ok (.getfield 156, 3) := by decide +kernel
theorem dX5_digest_293 : decode cX5_digest 293 = .ok (.i2l, 1) := by decide +kernel
theorem dX5_digest_294 : decode cX5_digest 294 = .ok (.ladd, 1) := by decide +kernel
theorem dX5_digest_295 : decode cX5_digest 295 = .ok (.lreturn, 1) := by decide +kernel
theorem dX5_equally_0 : decode cX5_equally 0 = .ok (.iload_n 1, 1) := by decide +kernel
theorem dX5_equally_1 : decode cX5_equally 1 = .ok (.istore 5, 2) := by decide +kernel
theorem dX5_equally_3 : decode cX5_equally 3 = .ok (.iload 5, 2) := by decide +kernel
theorem dX5_equally_5 : decode cX5_equally 5 = .ok (.ifCond .le 152, 3) := by decide +kernel
theorem dX5_equally_8 : decode cX5_equally 8 = .ok (.aload_n 0, 1) := by decide +kernel
theorem dX5_equally_9 : decode cX5_equally 9 = .ok (.aload_n 2, 1) := by decide +kernel
theorem dX5_equally_10 : decode cX5_equally 10 = .ok (.aload_n 3, 1) := by decide +kernel
theorem dX5_equally_11 : decode cX5_equally 11 = .ok (.aload 4, 2) := by decide +kernel
theorem dX5_equally_13 : decode cX5_equally 13 = .ok (.iconst 0, 1) := by decide +kernel
theorem dX5_equally_14 : decode cX5_equally 14 = .ok (.invokevirtual 78, 3) := by decide +kernel
theorem dX5_equally_17 : decode cX5_equally 17 = .ok (.astore 6, 2) := by decide +kernel
theorem dX5_equally_19 : decode cX5_equally 19 = .ok (.iconst 0, 1) := by decide +kernel
theorem dX5_equally_20 : decode cX5_equally 20 = .ok (.istore 7, 2) := by decide +kernel
theorem dX5_equally_22 : decode cX5_equally 22 = .ok (.aload 6, 2) := by decide +kernel
theorem dX5_equally_24 : decode cX5_equally 24 = .ok (.astore 8, 2) := by decide +kernel
theorem dX5_equally_26 : decode cX5_equally 26 = .ok (.aload 8, 2) := by decide +kernel
theorem dX5_equally_28 : decode cX5_equally 28 = .ok (.arraylength, 1) := by decide +kernel
theorem dX5_equally_29 : decode cX5_equally 29 = .ok (.istore 9, 2) := by decide +kernel
theorem dX5_equally_31 : decode cX5_equally 31 = .ok (.iconst 0, 1) := by decide +kernel
theorem dX5_equally_32 : decode cX5_equally 32 = .ok (.istore 10, 2) := by decide +kernel
theorem dX5_equally_34 : decode cX5_equally 34 = .ok (.iload 10, 2) := by decide +kernel
theorem dX5_equally_36 : decode cX5_equally 36 = .ok (.iload 9, 2) := by decide +kernel
theorem dX5_equally_38 : decode cX5_equally 38 = .ok (.if_icmp .ge 31, 3) := by decide +kernel
theorem dX5_equally_41 : decode cX5_equally 41 = .ok (.aload 8, 2) := by decide +kernel
theorem dX5_equally_43 : decode cX5_equally 43 = .ok (.iload 10, 2) := by decide +kernel
theorem dX5_equally_45 : decode cX5_equally 45 = .ok (.baload, 1) := by decide +kernel
theorem dX5_equally_46 : decode cX5_equally 46 = .ok (.istore 11, 2) := by decide +kernel
theorem dX5_equally_48 : decode cX5_equally 48 = .ok (.iload 7, 2) := by decide +kernel
theorem dX5_equally_50 : decode cX5_equally 50 = .ok (.iload 11, 2) := by decide +kernel
theorem dX5_equally_52 : decode cX5_equally 52 = .ok (.ifCond .eq 7, 3) := by decide +kernel
theorem dX5_equally_55 : decode cX5_equally 55 = .ok (.iconst 1, 1) := by decide +kernel
theorem dX5_equally_56 : decode cX5_equally 56 = .ok (.goto 4, 3) := by decide +kernel
theorem dX5_equally_59 : decode cX5_equally 59 = .ok (.iconst 0, 1) := by decide +kernel
theorem dX5_equally_60 : decode cX5_equally 60 = .ok (.iadd, 1) := by decide +kernel
theorem dX5_equally_61 : decode cX5_equally 61 = .ok (.istore 7, 2) := by decide +kernel
theorem dX5_equally_63 : decode cX5_equally 63 = .ok (.iinc 10 1, 3) := by decide +kernel
theorem dX5_equally_66 : decode cX5_equally 66 = .ok (.goto (-32), 3) := by decide +kernel
theorem dX5_equally_69 : decode cX5_equally 69 = .ok (.iload 5, 2) := by decide +kernel
theorem dX5_equally_71 : decode cX5_equally 71 = .ok (.iload 7, 2) := by decide +kernel
theorem dX5_equally_73 : decode cX5_equally 73 = .ok (.idiv, 1) := by decide +kernel
theorem dX5_equally_74 : decode cX5_equally 74 = .ok (.istore 8, 2) := by decide +kernel
theorem dX5_equally_76 : decode cX5_equally 76 = .ok (.iload 8, 2) := by decide +kernel
theorem dX5_equally_78 : decode cX5_equally 78 = .ok (.ifCond .ne 15, 3) := by decide +kernel
theorem dX5_equally_81 : decode cX5_equally 81 = .ok (.aload_n 0, 1) := by decide +kernel
theorem dX5_equally_82 : decode cX5_equally 82 = .ok (.iload 5, 2) := by decide +kernel
theorem dX5_equally_84 : decode cX5_equally 84 = .ok (.aload_n 2, 1) := by decide +kernel
theorem dX5_equally_85 : decode cX5_equally 85 = .ok (.aload_n 3, 1) := by decide +kernel
theorem dX5_equally_86 : decode cX5_equally 86 = .ok (.aload 6, 2) := by decide +kernel
theorem dX5_equally_88 : decode cX5_equally 88 = .ok (.invokevirtual 82, 3) := by decide +kernel
theorem dX5_equally_91 : decode cX5_equally 91 = .ok (.iconst 0, 1) := by decide +kernel
theorem dX5_equally_92 : decode cX5_equally 92 = .ok (.ireturn, 1) := by decide +kernel
theorem dX5_equally_93 : decode cX5_equally 93 = .ok (.iconst 0, 1) := by decide +kernel
theorem dX5_equally_94 : decode cX5_equally 94 = .ok (.istore 9, 2) := by decide +kernel
theorem dX5_equally_96 : decode cX5_equally 96 = .ok (.iload 9, 2) := by decide +kernel
theorem dX5_equally_98 : decode cX5_equally 98 = .ok (.aload_n 0, 1) := by decide +kernel
theorem dX5_equally_99 : decode cX5_equally 99 = .ok (.getfield 39, 3) := by decide +kernel
theorem dX5_equally_102 : decode cX5_equally 102 = .ok (.if_icmp .ge 52, 3) := by decide +kernel
theorem dX5_equally_105 : decode cX5_equally 105 = .ok (.aload 6, 2) := by decide +kernel
theorem dX5_equally_107 : decode cX5_equally 107 = .ok (.iload 9, 2) := by decide +kernel
theorem dX5_equally_109 : decode cX5_equally 109 = .ok (.baload, 1) := by decide +kernel
theorem dX5_equally_110 : decode cX5_equally 110 = .ok (.ifCond .ne 6, 3) := by decide +kernel
theorem dX5_equally_113 : decode cX5_equally 113 = .ok (.goto 35, 3) := by decide +kernel
theorem dX5_equally_116 : decode cX5_equally 116 = .ok (.iload 8, 2) := by decide +kernel
theorem dX5_equally_118 : decode cX5_equally 118 = .ok (.aload_n 2, 1) := by decide +kernel
theorem dX5_equally_119 : decode cX5_equally 119 = .ok (.iload 9, 2) := by decide +kernel
theorem dX5_equally_121 : decode cX5_equally 121 = .ok (.iaload, 1) := by decide +kernel
theorem dX5_equally_122 : decode cX5_equally 122 = .ok (.aload_n 3, 1) := by decide +kernel
theorem dX5_equally_123 : decode cX5_equally 123 = .ok (.iload 9, 2) := by decide +kernel
theorem dX5_equally_125 : decode cX5_equally 125 = .ok (.iaload, 1) := by decide +kernel
theorem dX5_equally_126 : decode cX5_equally 126 = .ok (.isub, 1) := by decide +kernel
theorem dX5_equally_127 : decode cX5_equally 127 = .ok (.invokestatic 86, 3) := by decide +kernel
theorem dX5_equally_130 : decode cX5_equally 130 = .ok (.istore 10, 2) := by decide +kernel
theorem dX5_equally_132 : decode cX5_equally 132 = .ok (.aload_n 3, 1) := by decide +kernel
theorem dX5_equally_133 : decode cX5_equally 133 = .ok (.iload 9, 2) := by decide +kernel
theorem dX5_equally_135 : decode cX5_equally 135 = .ok (.dup2, 1) := by decide +kernel
theorem dX5_equally_136 : decode cX5_equally 136 = .ok (.iaload, 1) := by decide +kernel
theorem dX5_equally_137 : decode cX5_equally 137 = .ok (.iload 10, 2) := by decide +kernel
theorem dX5_equally_139 : decode cX5_equally 139 = .ok (.iadd, 1) := by decide +kernel
theorem dX5_equally_140 : decode cX5_equally 140 = .ok (.iastore, 1) := by decide +kernel
theorem dX5_equally_141 : decode cX5_equally 141 = .ok (.iload 5, 2) := by decide +kernel
theorem dX5_equally_143 : decode cX5_equally 143 = .ok (.iload 10, 2) := by decide +kernel
theorem dX5_equally_145 : decode cX5_equally 145 = .ok (.isub, 1) := by decide +kernel
theorem dX5_equally_146 : decode cX5_equally 146 = .ok (.istore 5, 2) := by decide +kernel
theorem dX5_equally_148 : decode cX5_equally 148 = .ok (.iinc 9 1, 3) := by decide +kernel
theorem dX5_equally_151 : decode cX5_equally 151 = .ok (.goto (-55), 3) := by decide +kernel
theorem dX5_equally_154 : decode cX5_equally 154 = .ok (.goto (-151), 3) := by decide +kernel
theorem dX5_equally_157 : decode cX5_equally 157 = .ok (.iload 5, 2) := by decide +kernel
theorem dX5_equally_159 : decode cX5_equally 159 = .ok (.ireturn, 1) := by decide +kernel
theorem dX5_flow_0 : decode cX5_flow 0 = .ok (.aload_n 0, 1) := by decide +kernel
theorem dX5_flow_1 : decode cX5_flow 1 = .ok (.iconst 0, 1) := by decide +kernel
theorem dX5_flow_2 : decode cX5_flow 2 = .ok (.putfield 35, 3) := by decide +kernel
theorem dX5_flow_5 : decode cX5_flow 5 = .ok (.iload_n 1, 1) := by decide +kernel
theorem dX5_flow_6 : decode cX5_flow 6 = .ok (.invokestatic 147, 3) := by decide +kernel
theorem dX5_flow_9 : decode cX5_flow 9 = .ok (.ifCond .eq 23, 3) := by decide +kernel
theorem dX5_flow_12 : decode cX5_flow 12 = .ok (.aload_n 0, 1) := by decide +kernel
theorem dX5_flow_13 : decode cX5_flow 13 = .ok (.iload_n 2, 1) := by decide +kernel
theorem dX5_flow_14 : decode cX5_flow 14 = .ok (.invokevirtual 55, 3) := by decide +kernel
theorem dX5_flow_17 : decode cX5_flow 17 = .ok (.ifCond .eq 15, 3) := by decide +kernel
theorem dX5_flow_20 : decode cX5_flow 20 = .ok (.iload_n 3, 1) := by decide +kernel
theorem dX5_flow_21 : decode cX5_flow 21 = .ok (.i2l, 1) := by decide +kernel
theorem dX5_flow_22 : decode cX5_flow 22 = .ok (.lconst 0, 1) := by decide +kernel
theorem dX5_flow_23 : decode cX5_flow 23 = .ok (.ldc2_w 159, 3) := by decide +kernel
theorem dX5_flow_26 : decode cX5_flow 26 = .ok (.invokestatic 42, 3) := by decide +kernel
theorem dX5_flow_29 : decode cX5_flow 29 = .ok (.ifCond .ne 9, 3) := by decide +kernel
theorem dX5_flow_32 : decode cX5_flow 32 = .ok (.aload_n 0, 1) := by decide +kernel
theorem dX5_flow_33 : decode cX5_flow 33 = .ok (.iconst 1, 1) := by decide +kernel
theorem dX5_flow_34 : decode cX5_flow 34 = .ok (.invokevirtual 51, 3) := by decide +kernel
theorem dX5_flow_37 : decode cX5_flow 37 = .ok (.ireturn, 1) := by decide +kernel
theorem dX5_flow_38 : decode cX5_flow 38 = .ok (.iload_n 1, 1) := by decide +kernel
theorem dX5_flow_39 : decode cX5_flow 39 = .ok (.aload_n 0, 1) := by decide +kernel
theorem dX5_flow_40 : decode cX5_flow 40 = .ok (.getfield 48, 3) := by decide +kernel
theorem dX5_flow_43 : decode cX5_flow 43 = .ok (.if_icmp .ge 22, 3) := by decide +kernel
theorem dX5_flow_46 : decode cX5_flow 46 = .ok (.aload_n 0, 1) := by decide +kernel
theorem dX5_flow_47 : decode cX5_flow 47 = .ok (.getfield 25, 3) := by decide +kernel
theorem dX5_flow_50 : decode cX5_flow 50 = .ok (.bipush 8, 2) := by decide +kernel
theorem dX5_flow_52 : decode cX5_flow 52 = .ok (.bipush 6, 2) := by decide +kernel
theorem dX5_flow_54 : decode cX5_flow 54 = .ok (.iload_n 1, 1) := by decide +kernel
theorem dX5_flow_55 : decode cX5_flow 55 = .ok (.imul, 1) := by decide +kernel
theorem dX5_flow_56 : decode cX5_flow 56 = .ok (.iload_n 2, 1) := by decide +kernel
theorem dX5_flow_57 : decode cX5_flow 57 = .ok (.iadd, 1) := by decide +kernel
theorem dX5_flow_58 : decode cX5_flow 58 = .ok (.imul, 1) := by decide +kernel
theorem dX5_flow_59 : decode cX5_flow 59 = .ok (.iload_n 3, 1) := by decide +kernel
theorem dX5_flow_60 : decode cX5_flow 60 = .ok (.iadd, 1) := by decide +kernel
theorem dX5_flow_61 : decode cX5_flow 61 = .ok (.iaload, 1) := by decide +kernel
theorem dX5_flow_62 : decode cX5_flow 62 = .ok (.goto 4, 3) := by decide +kernel
theorem dX5_flow_65 : decode cX5_flow 65 = .ok (.iconst 0, 1) := by decide +kernel
theorem dX5_flow_66 : decode cX5_flow 66 = .ok (.ireturn, 1) := by decide +kernel
theorem dX5_independence_0 : decode cX5_independence 0 = .ok (.aload_n 0, 1) := by decide +kernel
theorem dX5_independence_1 : decode cX5_independence 1 = .ok (.iconst 0, 1) := by decide +kernel
theorem dX5_independence_2 : decode cX5_independence 2 = .ok (.putfield 35, 3) := by decide +kernel
theorem dX5_independence_5 : decode cX5_independence 5 = .ok (.iconst 0, 1) := by decide +kernel
theorem dX5_independence_6 : decode cX5_independence 6 = .ok (.istore_n 1, 1) := by decide +kernel
theorem dX5_independence_7 : decode cX5_independence 7 = .ok (.iconst 0, 1) := by decide +kernel
theorem dX5_independence_8 : decode cX5_independence 8 = .ok (.istore_n 2, 1) := by decide +kernel
theorem dX5_independence_9 : decode cX5_independence 9 = .ok (.iconst 0, 1) := by decide +kernel
theorem dX5_independence_10 : decode cX5_independence 10 = .ok (.istore_n 3, 1) := by decide +kernel
theorem dX5_independence_11 : decode cX5_independence 11 = .ok (.iload_n 3, 1) := by decide +kernel
theorem dX5_independence_12 : decode cX5_independence 12 = .ok (.aload_n 0, 1) := by decide +kernel
theorem dX5_independence_13 : decode cX5_independence 13 = .ok (.getfield 48, 3) := by decide +kernel
theorem dX5_independence_16 : decode cX5_independence 16 = .ok (.if_icmp .ge 62, 3) := by decide +kernel
theorem dX5_independence_19 : decode cX5_independence 19 = .ok (.iconst 0, 1) := by decide +kernel
theorem dX5_independence_20 : decode cX5_independence 20 = .ok (.istore 4, 2) := by decide +kernel
theorem dX5_independence_22 : decode cX5_independence 22 = .ok (.iload 4, 2) := by decide +kernel
theorem dX5_independence_24 : decode cX5_independence 24 = .ok (.aload_n 0, 1) := by decide +kernel
theorem dX5_independence_25 : decode cX5_independence 25 = .ok (.getfield 39, 3) := by decide +kernel
theorem dX5_independence_28 : decode cX5_independence 28 = .ok (.if_icmp .ge 44, 3) := by decide +kernel
theorem dX5_independence_31 : decode cX5_independence 31 = .ok (.iload_n 1, 1) := by decide +kernel
theorem dX5_independence_32 : decode cX5_independence 32 = .ok (.aload_n 0, 1) := by decide +kernel
theorem dX5_independence_33 : decode cX5_independence 33 = .ok (.getfield 19, 3) := by decide +kernel
theorem dX5_independence_36 : decode cX5_independence 36 = .ok (.bipush 48, 2) := by decide +kernel
theorem dX5_independence_38 : decode cX5_independence 38 = .ok (.iload 4, 2) := by decide +kernel
theorem dX5_independence_40 : decode cX5_independence 40 = .ok (.imul, 1) := by decide +kernel
theorem dX5_independence_41 : decode cX5_independence 41 = .ok (.iload_n 3, 1) := by decide +kernel
theorem dX5_independence_42 : decode cX5_independence 42 = .ok (.iadd, 1) := by decide +kernel
theorem dX5_independence_43 : decode cX5_independence 43 = .ok (.iaload, 1) := by decide +kernel
theorem dX5_independence_44 : decode cX5_independence 44 = .ok (.iadd, 1) := by decide +kernel
theorem dX5_independence_45 : decode cX5_independence 45 = .ok (.istore_n 1, 1) := by decide +kernel
theorem dX5_independence_46 : decode cX5_independence 46 = .ok (.iload_n 2, 1) := by decide +kernel
theorem dX5_independence_47 : decode cX5_independence 47 = .ok (.aload_n 0, 1) := by decide +kernel
theorem dX5_independence_48 : decode cX5_independence 48 = .ok (.getfield 25, 3) := by decide +kernel
theorem dX5_independence_51 : decode cX5_independence 51 = .ok (.bipush 8, 2) := by decide +kernel
theorem dX5_independence_53 : decode cX5_independence 53 = .ok (.bipush 6, 2) := by decide +kernel
theorem dX5_independence_55 : decode cX5_independence 55 = .ok (.iload_n 3, 1) := by decide +kernel
theorem dX5_independence_56 : decode cX5_independence 56 = .ok (.imul, 1) := by decide +kernel
theorem dX5_independence_57 : decode cX5_independence 57 = .ok (.iload 4, 2) := by decide +kernel
theorem dX5_independence_59 : decode cX5_independence 59 = .ok (.iadd, 1) := by decide +kernel
theorem dX5_independence_60 : decode cX5_independence 60 = .ok (.imul, 1) := by decide +kernel
theorem dX5_independence_61 : decode cX5_independence 61 = .ok (.iconst 3, 1) := by decide +kernel
theorem dX5_independence_62 : decode cX5_independence 62 = .ok (.iadd, 1) := by decide +kernel
theorem dX5_independence_63 : decode cX5_independence 63 = .ok (.iaload, 1) := by decide +kernel
theorem dX5_independence_64 : decode cX5_independence 64 = .ok (.iadd, 1) := by decide +kernel
theorem dX5_independence_65 : decode cX5_independence 65 = .ok (.istore_n 2, 1) := by decide +kernel
theorem dX5_independence_66 : decode cX5_independence 66 = .ok (.iinc 4 1, 3) := by decide +kernel
theorem dX5_independence_69 : decode cX5_independence 69 = .ok (.goto (-47), 3) := by decide +kernel
theorem dX5_independence_72 : decode cX5_independence 72 = .ok (.iinc 3 1, 3) := by decide +kernel
theorem dX5_independence_75 : decode cX5_independence 75 = .ok (.goto (-64), 3) := by decide +kernel
theorem dX5_independence_78 : decode cX5_independence 78 = .ok (.iload_n 1, 1) := by decide +kernel
theorem dX5_independence_79 : decode cX5_independence 79 = .ok (.ifCond .ne 7, 3) := by decide +kernel
theorem dX5_independence_82 : decode cX5_independence 82 = .ok (.dconst 1, 1) := by decide +kernel
theorem dX5_independence_83 : decode cX5_independence 83 = .ok (.goto 10, 3) := by decide +kernel
theorem dX5_independence_86 : decode cX5_independence 86 = .ok (.iload_n 1, 1) := by decide +kernel
theorem dX5_independence_87 : decode cX5_independence 87 = .ok (.iload_n 2, 1) := by decide +kernel
theorem dX5_independence_88 : decode cX5_independence 88 = .ok (.isub, 1) := by decide +kernel
theorem dX5_independence_89 : decode cX5_independence 89 = .ok (.i2d, 1) := by decide +kernel
theorem dX5_independence_90 : decode cX5_independence 90 = .ok (.iload_n 1, 1) := by decide +kernel
theorem dX5_independence_91 : decode cX5_independence 91 = .ok (.i2d, 1) := by decide +kernel
theorem dX5_independence_92 : decode cX5_independence 92 = .ok (.ddiv, 1) := by decide +kernel
theorem dX5_independence_93 : decode cX5_independence 93 = .ok (.dreturn, 1) := by decide +kernel
theorem dX5_init_0 : decode cX5_init 0 = .ok (.aload_n 0, 1) := by decide +kernel
theorem dX5_init_1 : decode cX5_init 1 = .ok (.invokespecial 1, 3) := by decide +kernel
theorem dX5_init_4 : decode cX5_init 4 = .ok (.aload_n 0, 1) := by decide +kernel
theorem dX5_init_5 : decode cX5_init 5 = .ok (.bipush 19, 2) := by decide +kernel
theorem dX5_init_7 : decode cX5_init 7 = .ok (.newarray .int, 2) := by decide +kernel
theorem dX5_init_9 : decode cX5_init 9 = .ok (.putfield 9, 3) := by decide +kernel
theorem dX5_init_12 : decode cX5_init 12 = .ok (.aload_n 0, 1) := by decide +kernel
theorem dX5_init_13 : decode cX5_init 13 = .ok (.sipush 912, 3) := by decide +kernel
theorem dX5_init_16 : decode cX5_init 16 = .ok (.newarray .int, 2) := by decide +kernel
theorem dX5_init_18 : decode cX5_init 18 = .ok (.putfield 13, 3) := by decide +kernel
theorem dX5_init_21 : decode cX5_init 21 = .ok (.aload_n 0, 1) := by decide +kernel
theorem dX5_init_22 : decode cX5_init 22 = .ok (.sipush 288, 3) := by decide +kernel
theorem dX5_init_25 : decode cX5_init 25 = .ok (.newarray .int, 2) := by decide +kernel
theorem dX5_init_27 : decode cX5_init 27 = .ok (.putfield 16, 3) := by decide +kernel
theorem dX5_init_30 : decode cX5_init 30 = .ok (.aload_n 0, 1) := by decide +kernel
theorem dX5_init_31 : decode cX5_init 31 = .ok (.sipush 288, 3) := by decide +kernel
theorem dX5_init_34 : decode cX5_init 34 = .ok (.newarray .int, 2) := by decide +kernel
theorem dX5_init_36 : decode cX5_init 36 = .ok (.putfield 19, 3) := by decide +kernel
theorem dX5_init_39 : decode cX5_init 39 = .ok (.aload_n 0, 1) := by decide +kernel
theorem dX5_init_40 : decode cX5_init 40 = .ok (.bipush 48, 2) := by decide +kernel
theorem dX5_init_42 : decode cX5_init 42 = .ok (.newarray .int, 2) := by decide +kernel
theorem dX5_init_44 : decode cX5_init 44 = .ok (.putfield 22, 3) := by decide +kernel
theorem dX5_init_47 : decode cX5_init 47 = .ok (.aload_n 0, 1) := by decide +kernel
theorem dX5_init_48 : decode cX5_init 48 = .ok (.sipush 2304, 3) := by decide +kernel
theorem dX5_init_51 : decode cX5_init 51 = .ok (.newarray .int, 2) := by decide +kernel
theorem dX5_init_53 : decode cX5_init 53 = .ok (.putfield 25, 3) := by decide +kernel
theorem dX5_init_56 : decode cX5_init 56 = .ok (.aload_n 0, 1) := by decide +kernel
theorem dX5_init_57 : decode cX5_init 57 = .ok (.bipush 6, 2) := by decide +kernel
theorem dX5_init_59 : decode cX5_init 59 = .ok (.newarray .long, 2) := by decide +kernel
theorem dX5_init_61 : decode cX5_init 61 = .ok (.putfield 28, 3) := by decide +kernel
theorem dX5_init_64 : decode cX5_init 64 = .ok (.aload_n 0, 1) := by decide +kernel
theorem dX5_init_65 : decode cX5_init 65 = .ok (.bipush 6, 2) := by decide +kernel
theorem dX5_init_67 : decode cX5_init 67 = .ok (.newarray .long, 2) := by decide +kernel
theorem dX5_init_69 : decode cX5_init 69 = .ok (.putfield 32, 3) := by decide +kernel
theorem dX5_init_72 : decode cX5_init 72 = .ok (.aload_n 0, 1) := by decide +kernel
theorem dX5_init_73 : decode cX5_init 73 = .ok (.getfield 9, 3) := by decide +kernel
theorem dX5_init_76 : decode cX5_init 76 = .ok (.iconst 1, 1) := by decide +kernel
theorem dX5_init_77 : decode cX5_init 77 = .ok (.bipush 30, 2) := by decide +kernel
theorem dX5_init_79 : decode cX5_init 79 = .ok (.iastore, 1) := by decide +kernel
theorem dX5_init_80 : decode cX5_init 80 = .ok (.aload_n 0, 1) := by decide +kernel
theorem dX5_init_81 : decode cX5_init 81 = .ok (.getfield 9, 3) := by decide +kernel
theorem dX5_init_84 : decode cX5_init 84 = .ok (.iconst 2, 1) := by decide +kernel
theorem dX5_init_85 : decode cX5_init 85 = .ok (.bipush 8, 2) := by decide +kernel
theorem dX5_init_87 : decode cX5_init 87 = .ok (.iastore, 1) := by decide +kernel
theorem dX5_init_88 : decode cX5_init 88 = .ok (.aload_n 0, 1) := by decide +kernel
theorem dX5_init_89 : decode cX5_init 89 = .ok (.getfield 9, 3) := by decide +kernel
theorem dX5_init_92 : decode cX5_init 92 = .ok (.iconst 3, 1) := by decide +kernel
theorem dX5_init_93 : decode cX5_init 93 = .ok (.bipush 18, 2) := by decide +kernel
theorem dX5_init_95 : decode cX5_init 95 = .ok (.iastore, 1) := by decide +kernel
theorem dX5_init_96 : decode cX5_init 96 = .ok (.aload_n 0, 1) := by decide +kernel
theorem dX5_init_97 : decode cX5_init 97 = .ok (.getfield 9, 3) := by decide +kernel
theorem dX5_init_100 : decode cX5_init 100 = .ok (.bipush 6, 2) := by decide +kernel
theorem dX5_init_102 : decode cX5_init 102 = .ok (.bipush 100, 2) := by decide +kernel
theorem dX5_init_104 : decode cX5_init 104 = .ok (.iastore, 1) := by decide +kernel
theorem dX5_init_105 : decode cX5_init 105 = .ok (.return_, 1) := by decide +kernel
theorem dX5_isIn_0 : decode cX5_isIn 0 = .ok (.lload_n 0, 1) := by decide +kernel
theorem dX5_isIn_1 : decode cX5_isIn 1 = .ok (.lload_n 2, 1) := by decide +kernel
theorem dX5_isIn_2 : decode cX5_isIn 2 = .ok (.lcmp, 1) := by decide +kernel
theorem dX5_isIn_3 : decode cX5_isIn 3 = .ok (.ifCond .lt 14, 3) := by decide +kernel
theorem dX5_isIn_6 : decode cX5_isIn 6 = .ok (.lload_n 0, 1) := by decide +kernel
theorem dX5_isIn_7 : decode cX5_isIn 7 = .ok (.lload 4, 2) := by decide +kernel
theorem dX5_isIn_9 : decode cX5_isIn 9 = .ok (.lcmp, 1) := by decide +kernel
theorem dX5_isIn_10 : decode cX5_isIn 10 = .ok (.ifCond .gt 7, 3) := by decide +kernel
theorem dX5_isIn_13 : decode cX5_isIn 13 = .ok (.iconst 1, 1) := by decide +kernel
theorem dX5_isIn_14 : decode cX5_isIn 14 = .ok (.goto 4, 3) := by decide +kernel
theorem dX5_isIn_17 : decode cX5_isIn 17 = .ok (.iconst 0, 1) := by decide +kernel
theorem dX5_isIn_18 : decode cX5_isIn 18 = .ok (.ireturn, 1) := by decide +kernel
theorem dX5_isMember_0 : decode cX5_isMember 0 = .ok (.iload_n 1, 1) := by decide +kernel
theorem dX5_isMember_1 : decode cX5_isMember 1 = .ok (.i2l, 1) := by decide +kernel
theorem dX5_isMember_2 : decode cX5_isMember 2 = .ok (.lconst 0, 1) := by decide +kernel
theorem dX5_isMember_3 : decode cX5_isMember 3 = .ok (.aload_n 0, 1) := by decide +kernel
theorem dX5_isMember_4 : decode cX5_isMember 4 = .ok (.getfield 39, 3) := by decide +kernel
theorem dX5_isMember_7 : decode cX5_isMember 7 = .ok (.iconst 1, 1) := by decide +kernel
theorem dX5_isMember_8 : decode cX5_isMember 8 = .ok (.isub, 1) := by decide +kernel
theorem dX5_isMember_9 : decode cX5_isMember 9 = .ok (.i2l, 1) := by decide +kernel
theorem dX5_isMember_10 : decode cX5_isMember 10 = .ok (.invokestatic 42, 3) := by decide +kernel
theorem dX5_isMember_13 : decode cX5_isMember 13 = .ok (.ireturn, 1) := by decide +kernel
theorem dX5_isSlot_0 : decode cX5_isSlot 0 = .ok (.iload_n 0, 1) := by decide +kernel
theorem dX5_isSlot_1 : decode cX5_isSlot 1 = .ok (.i2l, 1) := by decide +kernel
theorem dX5_isSlot_2 : decode cX5_isSlot 2 = .ok (.lconst 0, 1) := by decide +kernel
theorem dX5_isSlot_3 : decode cX5_isSlot 3 = .ok (.ldc2_w 46, 3) := by decide +kernel
theorem dX5_isSlot_6 : decode cX5_isSlot 6 = .ok (.invokestatic 42, 3) := by decide +kernel
theorem dX5_isSlot_9 : decode cX5_isSlot 9 = .ok (.ireturn, 1) := by decide +kernel
theorem dX5_late_0 : decode cX5_late 0 = .ok (.aload_n 0, 1) := by decide +kernel
theorem dX5_late_1 : decode cX5_late 1 = .ok (.iconst 0, 1) := by decide +kernel
theorem dX5_late_2 : decode cX5_late 2 = .ok (.putfield 35, 3) := by decide +kernel
theorem dX5_late_5 : decode cX5_late 5 = .ok (.iload_n 1, 1) := by decide +kernel
theorem dX5_late_6 : decode cX5_late 6 = .ok (.ifCond .ge 9, 3) := by decide +kernel
theorem dX5_late_9 : decode cX5_late 9 = .ok (.aload_n 0, 1) := by decide +kernel
theorem dX5_late_10 : decode cX5_late 10 = .ok (.iconst 1, 1) := by decide +kernel
theorem dX5_late_11 : decode cX5_late 11 = .ok (.invokevirtual 51, 3) := by decide +kernel
theorem dX5_late_14 : decode cX5_late 14 = .ok (.ireturn, 1) := by decide +kernel
theorem dX5_late_15 : decode cX5_late 15 = .ok (.iconst 0, 1) := by decide +kernel
theorem dX5_late_16 : decode cX5_late 16 = .ok (.istore_n 2, 1) := by decide +kernel
theorem dX5_late_17 : decode cX5_late 17 = .ok (.iconst 0, 1) := by decide +kernel
theorem dX5_late_18 : decode cX5_late 18 = .ok (.istore_n 3, 1) := by decide +kernel
theorem dX5_late_19 : decode cX5_late 19 = .ok (.iload_n 3, 1) := by decide +kernel
theorem dX5_late_20 : decode cX5_late 20 = .ok (.aload_n 0, 1) := by decide +kernel
theorem dX5_late_21 : decode cX5_late 21 = .ok (.getfield 39, 3) := by decide +kernel
theorem dX5_late_24 : decode cX5_late 24 = .ok (.if_icmp .ge 28, 3) := by decide +kernel
theorem dX5_late_27 : decode cX5_late 27 = .ok (.aload_n 0, 1) := by decide +kernel
theorem dX5_late_28 : decode cX5_late 28 = .ok (.getfield 32, 3) := by decide +kernel
theorem dX5_late_31 : decode cX5_late 31 = .ok (.iload_n 3, 1) := by decide +kernel
theorem dX5_late_32 : decode cX5_late 32 = .ok (.laload, 1) := by decide +kernel
theorem dX5_late_33 : decode cX5_late 33 = .ok (.iload_n 1, 1) := by decide +kernel
theorem dX5_late_34 : decode cX5_late 34 = .ok (.i2l, 1) := by decide +kernel
theorem dX5_late_35 : decode cX5_late 35 = .ok (.lneg, 1) := by decide +kernel
theorem dX5_late_36 : decode cX5_late 36 = .ok (.lcmp, 1) := by decide +kernel
theorem dX5_late_37 : decode cX5_late 37 = .ok (.ifCond .ge 9, 3) := by decide +kernel
theorem dX5_late_40 : decode cX5_late 40 = .ok (.iload_n 2, 1) := by decide +kernel
theorem dX5_late_41 : decode cX5_late 41 = .ok (.iconst 1, 1) := by decide +kernel
theorem dX5_late_42 : decode cX5_late 42 = .ok (.iload_n 3, 1) := by decide +kernel
theorem dX5_late_43 : decode cX5_late 43 = .ok (.ishl, 1) := by decide +kernel
theorem dX5_late_44 : decode cX5_late 44 = .ok (.ior, 1) := by decide +kernel
theorem dX5_late_45 : decode cX5_late 45 = .ok (.istore_n 2, 1) := by decide +kernel
theorem dX5_late_46 : decode cX5_late 46 = .ok (.iinc 3 1, 3) := by decide +kernel
theorem dX5_late_49 : decode cX5_late 49 = .ok (.goto (-30), 3) := by decide +kernel
theorem dX5_late_52 : decode cX5_late 52 = .ok (.iload_n 2, 1) := by decide +kernel
theorem dX5_late_53 : decode cX5_late 53 = .ok (.ireturn, 1) := by decide +kernel
theorem dX5_members_0 : decode cX5_members 0 = .ok (.aload_n 0, 1) := by decide +kernel
theorem dX5_members_1 : decode cX5_members 1 = .ok (.iconst 0, 1) := by decide +kernel
theorem dX5_members_2 : decode cX5_members 2 = .ok (.putfield 35, 3) := by decide +kernel
theorem dX5_members_5 : decode cX5_members 5 = .ok (.aload_n 0, 1) := by decide +kernel
theorem dX5_members_6 : decode cX5_members 6 = .ok (.getfield 39, 3) := by decide +kernel
theorem dX5_members_9 : decode cX5_members 9 = .ok (.ireturn, 1) := by decide +kernel
theorem dX5_meter_0 : decode cX5_meter 0 = .ok (.aload_n 0, 1) := by decide +kernel
theorem dX5_meter_1 : decode cX5_meter 1 = .ok (.aload_n 0, 1) := by decide +kernel
theorem dX5_meter_2 : decode cX5_meter 2 = .ok (.iload_n 1, 1) := by decide +kernel
theorem dX5_meter_3 : decode cX5_meter 3 = .ok (.invokevirtual 55, 3) := by decide +kernel
theorem dX5_meter_6 : decode cX5_meter 6 = .ok (.ifCond .eq 10, 3) := by decide +kernel
theorem dX5_meter_9 : decode cX5_meter 9 = .ok (.iload_n 2, 1) := by decide +kernel
theorem dX5_meter_10 : decode cX5_meter 10 = .ok (.invokestatic 147, 3) := by decide +kernel
theorem dX5_meter_13 : decode cX5_meter 13 = .ok (.ifCond .ne 7, 3) := by decide +kernel
theorem dX5_meter_16 : decode cX5_meter 16 = .ok (.iconst 1, 1) := by decide +kernel
theorem dX5_meter_17 : decode cX5_meter 17 = .ok (.goto 45, 3) := by decide +kernel
theorem dX5_meter_20 : decode cX5_meter 20 = .ok (.iload_n 3, 1) := by decide +kernel
theorem dX5_meter_21 : decode cX5_meter 21 = .ok (.i2l, 1) := by decide +kernel
theorem dX5_meter_22 : decode cX5_meter 22 = .ok (.lconst 0, 1) := by decide +kernel
theorem dX5_meter_23 : decode cX5_meter 23 = .ok (.ldc2_w 67, 3) := by decide +kernel
theorem dX5_meter_26 : decode cX5_meter 26 = .ok (.invokestatic 42, 3) := by decide +kernel
theorem dX5_meter_29 : decode cX5_meter 29 = .ok (.ifCond .eq 16, 3) := by decide +kernel
theorem dX5_meter_32 : decode cX5_meter 32 = .ok (.iload 4, 2) := by decide +kernel
theorem dX5_meter_34 : decode cX5_meter 34 = .ok (.i2l, 1) := by decide +kernel
theorem dX5_meter_35 : decode cX5_meter 35 = .ok (.lconst 0, 1) := by decide +kernel
theorem dX5_meter_36 : decode cX5_meter 36 = .ok (.ldc2_w 67, 3) := by decide +kernel
theorem dX5_meter_39 : decode cX5_meter 39 = .ok (.invokestatic 42, 3) := by decide +kernel
theorem dX5_meter_42 : decode cX5_meter 42 = .ok (.ifCond .ne 7, 3) := by decide +kernel
theorem dX5_meter_45 : decode cX5_meter 45 = .ok (.iconst 2, 1) := by decide +kernel
theorem dX5_meter_46 : decode cX5_meter 46 = .ok (.goto 16, 3) := by decide +kernel
theorem dX5_meter_49 : decode cX5_meter 49 = .ok (.iload_n 2, 1) := by decide +kernel
theorem dX5_meter_50 : decode cX5_meter 50 = .ok (.aload_n 0, 1) := by decide +kernel
theorem dX5_meter_51 : decode cX5_meter 51 = .ok (.getfield 48, 3) := by decide +kernel
theorem dX5_meter_54 : decode cX5_meter 54 = .ok (.if_icmp .ge 7, 3) := by decide +kernel
theorem dX5_meter_57 : decode cX5_meter 57 = .ok (.iconst 3, 1) := by decide +kernel
theorem dX5_meter_58 : decode cX5_meter 58 = .ok (.goto 4, 3) := by decide +kernel
theorem dX5_meter_61 : decode cX5_meter 61 = .ok (.iconst 0, 1) := by decide +kernel
theorem dX5_meter_62 : decode cX5_meter 62 = .ok (.putfield 35, 3) := by decide +kernel
theorem dX5_meter_65 : decode cX5_meter 65 = .ok (.aload_n 0, 1) := by decide +kernel
theorem dX5_meter_66 : decode cX5_meter 66 = .ok (.getfield 35, 3) := by decide +kernel
theorem dX5_meter_69 : decode cX5_meter 69 = .ok (.ifCond .eq 5, 3) := by decide +kernel
theorem dX5_meter_72 : decode cX5_meter 72 = .ok (.iconst 0, 1) := by decide +kernel
theorem dX5_meter_73 : decode cX5_meter 73 = .ok (.ireturn, 1) := by decide +kernel
theorem dX5_meter_74 : decode cX5_meter 74 = .ok (.bipush 48, 2) := by decide +kernel
theorem dX5_meter_76 : decode cX5_meter 76 = .ok (.iload_n 1, 1) := by decide +kernel
theorem dX5_meter_77 : decode cX5_meter 77 = .ok (.imul, 1) := by decide +kernel
theorem dX5_meter_78 : decode cX5_meter 78 = .ok (.iload_n 2, 1) := by decide +kernel
theorem dX5_meter_79 : decode cX5_meter 79 = .ok (.iadd, 1) := by decide +kernel
theorem dX5_meter_80 : decode cX5_meter 80 = .ok (.istore 5, 2) := by decide +kernel
theorem dX5_meter_82 : decode cX5_meter 82 = .ok (.aload_n 0, 1) := by decide +kernel
theorem dX5_meter_83 : decode cX5_meter 83 = .ok (.getfield 16, 3) := by decide +kernel
theorem dX5_meter_86 : decode cX5_meter 86 = .ok (.iload 5, 2) := by decide +kernel
theorem dX5_meter_88 : decode cX5_meter 88 = .ok (.iaload, 1) := by decide +kernel
theorem dX5_meter_89 : decode cX5_meter 89 = .ok (.iload_n 3, 1) := by decide +kernel
theorem dX5_meter_90 : decode cX5_meter 90 = .ok (.if_icmp .ne 15, 3) := by decide +kernel
theorem dX5_meter_93 : decode cX5_meter 93 = .ok (.aload_n 0, 1) := by decide +kernel
theorem dX5_meter_94 : decode cX5_meter 94 = .ok (.getfield 19, 3) := by decide +kernel
theorem dX5_meter_97 : decode cX5_meter 97 = .ok (.iload 5, 2) := by decide +kernel
theorem dX5_meter_99 : decode cX5_meter 99 = .ok (.iaload, 1) := by decide +kernel
theorem dX5_meter_100 : decode cX5_meter 100 = .ok (.iload 4, 2) := by decide +kernel
theorem dX5_meter_102 : decode cX5_meter 102 = .ok (.if_icmp .eq 7, 3) := by decide +kernel
theorem dX5_meter_105 : decode cX5_meter 105 = .ok (.iconst 1, 1) := by decide +kernel
theorem dX5_meter_106 : decode cX5_meter 106 = .ok (.goto 4, 3) := by decide +kernel
theorem dX5_meter_109 : decode cX5_meter 109 = .ok (.iconst 0, 1) := by decide +kernel
theorem dX5_meter_110 : decode cX5_meter 110 = .ok (.istore 6, 2) := by decide +kernel
theorem dX5_meter_112 : decode cX5_meter 112 = .ok (.aload_n 0, 1) := by decide +kernel
theorem dX5_meter_113 : decode cX5_meter 113 = .ok (.getfield 16, 3) := by decide +kernel
theorem dX5_meter_116 : decode cX5_meter 116 = .ok (.iload 5, 2) := by decide +kernel
theorem dX5_meter_118 : decode cX5_meter 118 = .ok (.iload_n 3, 1) := by decide +kernel
theorem dX5_meter_119 : decode cX5_meter 119 = .ok (.iastore, 1) := by decide +kernel
theorem dX5_meter_120 : decode cX5_meter 120 = .ok (.aload_n 0, 1) := by decide +kernel
theorem dX5_meter_121 : decode cX5_meter 121 = .ok (.getfield 19, 3) := by decide +kernel
theorem dX5_meter_124 : decode cX5_meter 124 = .ok (.iload 5, 2) := by decide +kernel
theorem dX5_meter_126 : decode cX5_meter 126 = .ok (.iload 4, 2) := by decide +kernel
theorem dX5_meter_128 : decode cX5_meter 128 = .ok (.iastore, 1) := by decide +kernel
theorem dX5_meter_129 : decode cX5_meter 129 = .ok (.iload 6, 2) := by decide +kernel
theorem dX5_meter_131 : decode cX5_meter 131 = .ok (.ireturn, 1) := by decide +kernel
theorem dX5_no_0 : decode cX5_no 0 = .ok (.aload_n 0, 1) := by decide +kernel
theorem dX5_no_1 : decode cX5_no 1 = .ok (.iload_n 1, 1) := by decide +kernel
theorem dX5_no_2 : decode cX5_no 2 = .ok (.putfield 35, 3) := by decide +kernel
theorem dX5_no_5 : decode cX5_no 5 = .ok (.iconst 0, 1) := by decide +kernel
theorem dX5_no_6 : decode cX5_no 6 = .ok (.ireturn, 1) := by decide +kernel
theorem dX5_pay_0 : decode cX5_pay 0 = .ok (.aload_n 0, 1) := by decide +kernel
theorem dX5_pay_1 : decode cX5_pay 1 = .ok (.aload_n 0, 1) := by decide +kernel
theorem dX5_pay_2 : decode cX5_pay 2 = .ok (.iload_n 1, 1) := by decide +kernel
theorem dX5_pay_3 : decode cX5_pay 3 = .ok (.invokevirtual 55, 3) := by decide +kernel
theorem dX5_pay_6 : decode cX5_pay 6 = .ok (.ifCond .ne 7, 3) := by decide +kernel
theorem dX5_pay_9 : decode cX5_pay 9 = .ok (.iconst 1, 1) := by decide +kernel
theorem dX5_pay_10 : decode cX5_pay 10 = .ok (.goto 26, 3) := by decide +kernel
theorem dX5_pay_13 : decode cX5_pay 13 = .ok (.iload_n 2, 1) := by decide +kernel
theorem dX5_pay_14 : decode cX5_pay 14 = .ok (.ifCond .eq 17, 3) := by decide +kernel
theorem dX5_pay_17 : decode cX5_pay 17 = .ok (.iload_n 2, 1) := by decide +kernel
theorem dX5_pay_18 : decode cX5_pay 18 = .ok (.i2l, 1) := by decide +kernel
theorem dX5_pay_19 : decode cX5_pay 19 = .ok (.ldc2_w 176, 3) := by decide +kernel
theorem dX5_pay_22 : decode cX5_pay 22 = .ok (.ldc2_w 178, 3) := by decide +kernel
theorem dX5_pay_25 : decode cX5_pay 25 = .ok (.invokestatic 42, 3) := by decide +kernel
theorem dX5_pay_28 : decode cX5_pay 28 = .ok (.ifCond .ne 7, 3) := by decide +kernel
theorem dX5_pay_31 : decode cX5_pay 31 = .ok (.iconst 2, 1) := by decide +kernel
theorem dX5_pay_32 : decode cX5_pay 32 = .ok (.goto 4, 3) := by decide +kernel
theorem dX5_pay_35 : decode cX5_pay 35 = .ok (.iconst 0, 1) := by decide +kernel
theorem dX5_pay_36 : decode cX5_pay 36 = .ok (.putfield 35, 3) := by decide +kernel
theorem dX5_pay_39 : decode cX5_pay 39 = .ok (.aload_n 0, 1) := by decide +kernel
theorem dX5_pay_40 : decode cX5_pay 40 = .ok (.getfield 35, 3) := by decide +kernel
theorem dX5_pay_43 : decode cX5_pay 43 = .ok (.ifCond .eq 5, 3) := by decide +kernel
theorem dX5_pay_46 : decode cX5_pay 46 = .ok (.lconst 0, 1) := by decide +kernel
theorem dX5_pay_47 : decode cX5_pay 47 = .ok (.lreturn, 1) := by decide +kernel
theorem dX5_pay_48 : decode cX5_pay 48 = .ok (.aload_n 0, 1) := by decide +kernel
theorem dX5_pay_49 : decode cX5_pay 49 = .ok (.getfield 32, 3) := by decide +kernel
theorem dX5_pay_52 : decode cX5_pay 52 = .ok (.iload_n 1, 1) := by decide +kernel
theorem dX5_pay_53 : decode cX5_pay 53 = .ok (.dup2, 1) := by decide +kernel
theorem dX5_pay_54 : decode cX5_pay 54 = .ok (.laload, 1) := by decide +kernel
theorem dX5_pay_55 : decode cX5_pay 55 = .ok (.iload_n 2, 1) := by decide +kernel
theorem dX5_pay_56 : decode cX5_pay 56 = .ok (.i2l, 1) := by decide +kernel
theorem dX5_pay_57 : decode cX5_pay 57 = .ok (.ladd, 1) := by decide +kernel
theorem dX5_pay_58 : decode cX5_pay 58 = .ok (.lastore, 1) := by decide +kernel
theorem dX5_pay_59 : decode cX5_pay 59 = .ok (.aload_n 0, 1) := by decide +kernel
theorem dX5_pay_60 : decode cX5_pay 60 = .ok (.dup, 1) := by decide +kernel
theorem dX5_pay_61 : decode cX5_pay 61 = .ok (.getfield 171, 3) := by decide +kernel
theorem dX5_pay_64 : decode cX5_pay 64 = .ok (.iload_n 2, 1) := by decide +kernel
theorem dX5_pay_65 : decode cX5_pay 65 = .ok (.i2l, 1) := by decide +kernel
theorem dX5_pay_66 : decode cX5_pay 66 = .ok (.lsub, 1) := by decide +kernel
theorem dX5_pay_67 : decode cX5_pay 67 = .ok (.putfield 171, 3) := by decide +kernel
theorem dX5_pay_70 : decode cX5_pay 70 = .ok (.aload_n 0, 1) := by decide +kernel
theorem dX5_pay_71 : decode cX5_pay 71 = .ok (.getfield 32, 3) := by decide +kernel
theorem dX5_pay_74 : decode cX5_pay 74 = .ok (.iload_n 1, 1) := by decide +kernel
theorem dX5_pay_75 : decode cX5_pay 75 = .ok (.laload, 1) := by decide +kernel
theorem dX5_pay_76 : decode cX5_pay 76 = .ok (.lreturn, 1) := by decide +kernel
theorem dX5_present_0 : decode cX5_present 0 = .ok (.aload_n 0, 1) := by decide +kernel
theorem dX5_present_1 : decode cX5_present 1 = .ok (.iconst 0, 1) := by decide +kernel
theorem dX5_present_2 : decode cX5_present 2 = .ok (.putfield 35, 3) := by decide +kernel
theorem dX5_present_5 : decode cX5_present 5 = .ok (.aload_n 0, 1) := by decide +kernel
theorem dX5_present_6 : decode cX5_present 6 = .ok (.getfield 48, 3) := by decide +kernel
theorem dX5_present_9 : decode cX5_present 9 = .ok (.ireturn, 1) := by decide +kernel
theorem dX5_reading_0 : decode cX5_reading 0 = .ok (.aload_n 0, 1) := by decide +kernel
theorem dX5_reading_1 : decode cX5_reading 1 = .ok (.iconst 0, 1) := by decide +kernel
theorem dX5_reading_2 : decode cX5_reading 2 = .ok (.putfield 35, 3) := by decide +kernel
theorem dX5_reading_5 : decode cX5_reading 5 = .ok (.aload_n 0, 1) := by decide +kernel
theorem dX5_reading_6 : decode cX5_reading 6 = .ok (.iload_n 1, 1) := by decide +kernel
theorem dX5_reading_7 : decode cX5_reading 7 = .ok (.invokevirtual 55, 3) := by decide +kernel
theorem dX5_reading_10 : decode cX5_reading 10 = .ok (.ifCond .eq 10, 3) := by decide +kernel
theorem dX5_reading_13 : decode cX5_reading 13 = .ok (.iload_n 2, 1) := by decide +kernel
theorem dX5_reading_14 : decode cX5_reading 14 = .ok (.invokestatic 147, 3) := by decide +kernel
theorem dX5_reading_17 : decode cX5_reading 17 = .ok (.ifCond .ne 9, 3) := by decide +kernel
theorem dX5_reading_20 : decode cX5_reading 20 = .ok (.aload_n 0, 1) := by decide +kernel
theorem dX5_reading_21 : decode cX5_reading 21 = .ok (.iconst 1, 1) := by decide +kernel
theorem dX5_reading_22 : decode cX5_reading 22 = .ok (.invokevirtual 51, 3) := by decide +kernel
theorem dX5_reading_25 : decode cX5_reading 25 = .ok (.ireturn, 1) := by decide +kernel
theorem dX5_reading_26 : decode cX5_reading 26 = .ok (.iload_n 3, 1) := by decide +kernel
theorem dX5_reading_27 : decode cX5_reading 27 = .ok (.ifCond .eq 10, 3) := by decide +kernel
theorem dX5_reading_30 : decode cX5_reading 30 = .ok (.aload_n 0, 1) := by decide +kernel
theorem dX5_reading_31 : decode cX5_reading 31 = .ok (.getfield 19, 3) := by decide +kernel
theorem dX5_reading_34 : decode cX5_reading 34 = .ok (.goto 7, 3) := by decide +kernel
theorem dX5_reading_37 : decode cX5_reading 37 = .ok (.aload_n 0, 1) := by decide +kernel
theorem dX5_reading_38 : decode cX5_reading 38 = .ok (.getfield 16, 3) := by decide +kernel
theorem dX5_reading_41 : decode cX5_reading 41 = .ok (.bipush 48, 2) := by decide +kernel
theorem dX5_reading_43 : decode cX5_reading 43 = .ok (.iload_n 1, 1) := by decide +kernel
theorem dX5_reading_44 : decode cX5_reading 44 = .ok (.imul, 1) := by decide +kernel
theorem dX5_reading_45 : decode cX5_reading 45 = .ok (.iload_n 2, 1) := by decide +kernel
theorem dX5_reading_46 : decode cX5_reading 46 = .ok (.iadd, 1) := by decide +kernel
theorem dX5_reading_47 : decode cX5_reading 47 = .ok (.iaload, 1) := by decide +kernel
theorem dX5_reading_48 : decode cX5_reading 48 = .ok (.ireturn, 1) := by decide +kernel
theorem dX5_setBattery_0 : decode cX5_setBattery 0 = .ok (.aload_n 0, 1) := by decide +kernel
theorem dX5_setBattery_1 : decode cX5_setBattery 1 = .ok (.iconst 0, 1) := by decide +kernel
theorem dX5_setBattery_2 : decode cX5_setBattery 2 = .ok (.putfield 35, 3) := by decide +kernel
theorem dX5_setBattery_5 : decode cX5_setBattery 5 = .ok (.iload_n 1, 1) := by decide +kernel
theorem dX5_setBattery_6 : decode cX5_setBattery 6 = .ok (.i2l, 1) := by decide +kernel
theorem dX5_setBattery_7 : decode cX5_setBattery 7 = .ok (.lconst 0, 1) := by decide +kernel
theorem dX5_setBattery_8 : decode cX5_setBattery 8 = .ok (.ldc2_w 65, 3) := by decide +kernel
theorem dX5_setBattery_11 : decode cX5_setBattery 11 = .ok (.invokestatic 42, 3) := by decide +kernel
theorem dX5_setBattery_14 : decode cX5_setBattery 14 = .ok (.ifCond .eq 27, 3) := by decide +kernel
theorem dX5_setBattery_17 : decode cX5_setBattery 17 = .ok (.iload_n 2, 1) := by decide +kernel
theorem dX5_setBattery_18 : decode cX5_setBattery 18 = .ok (.i2l, 1) := by decide +kernel
theorem dX5_setBattery_19 : decode cX5_setBattery 19 = .ok (.lconst 0, 1) := by decide +kernel
theorem dX5_setBattery_20 : decode cX5_setBattery 20 = .ok (.ldc2_w 67, 3) := by decide +kernel
theorem dX5_setBattery_23 : decode cX5_setBattery 23 = .ok (.invokestatic 42, 3) := by decide +kernel
theorem dX5_setBattery_26 : decode cX5_setBattery 26 = .ok (.ifCond .eq 15, 3) := by decide +kernel
theorem dX5_setBattery_29 : decode cX5_setBattery 29 = .ok (.iload_n 3, 1) := by decide +kernel
theorem dX5_setBattery_30 : decode cX5_setBattery 30 = .ok (.i2l, 1) := by decide +kernel
theorem dX5_setBattery_31 : decode cX5_setBattery 31 = .ok (.lconst 1, 1) := by decide +kernel
theorem dX5_setBattery_32 : decode cX5_setBattery 32 = .ok (.ldc2_w 59, 3) := by decide +kernel
theorem dX5_setBattery_35 : decode cX5_setBattery 35 = .ok (.invokestatic 42, 3) := by decide +kernel
theorem dX5_setBattery_38 : decode cX5_setBattery 38 = .ok (.ifCond .ne 9, 3) := by decide +kernel
theorem dX5_setBattery_41 : decode cX5_setBattery 41 = .ok (.aload_n 0, 1) := by decide +kernel
theorem dX5_setBattery_42 : decode cX5_setBattery 42 = .ok (.iconst 1, 1) := by decide +kernel
theorem dX5_setBattery_43 : decode cX5_setBattery 43 = .ok (.invokevirtual 51, 3) := by decide +kernel
theorem dX5_setBattery_46 : decode cX5_setBattery 46 = .ok (.ireturn, 1) := by decide +kernel
theorem dX5_setBattery_47 : decode cX5_setBattery 47 = .ok (.aload_n 0, 1) := by decide +kernel
theorem dX5_setBattery_48 : decode cX5_setBattery 48 = .ok (.getfield 9, 3) := by decide +kernel
theorem dX5_setBattery_51 : decode cX5_setBattery 51 = .ok (.iconst 4, 1) := by decide +kernel
theorem dX5_setBattery_52 : decode cX5_setBattery 52 = .ok (.iload_n 1, 1) := by decide +kernel
theorem dX5_setBattery_53 : decode cX5_setBattery 53 = .ok (.iastore, 1) := by decide +kernel
theorem dX5_setBattery_54 : decode cX5_setBattery 54 = .ok (.aload_n 0, 1) := by decide +kernel
theorem dX5_setBattery_55 : decode cX5_setBattery 55 = .ok (.getfield 9, 3) := by decide +kernel
theorem dX5_setBattery_58 : decode cX5_setBattery 58 = .ok (.iconst 5, 1) := by decide +kernel
theorem dX5_setBattery_59 : decode cX5_setBattery 59 = .ok (.iload_n 2, 1) := by decide +kernel
theorem dX5_setBattery_60 : decode cX5_setBattery 60 = .ok (.iastore, 1) := by decide +kernel
theorem dX5_setBattery_61 : decode cX5_setBattery 61 = .ok (.aload_n 0, 1) := by decide +kernel
theorem dX5_setBattery_62 : decode cX5_setBattery 62 = .ok (.getfield 9, 3) := by decide +kernel
theorem dX5_setBattery_65 : decode cX5_setBattery 65 = .ok (.bipush 6, 2) := by decide +kernel
theorem dX5_setBattery_67 : decode cX5_setBattery 67 = .ok (.iload_n 3, 1) := by decide +kernel
theorem dX5_setBattery_68 : decode cX5_setBattery 68 = .ok (.iastore, 1) := by decide +kernel
theorem dX5_setBattery_69 : decode cX5_setBattery 69 = .ok (.iconst 0, 1) := by decide +kernel
theorem dX5_setBattery_70 : decode cX5_setBattery 70 = .ok (.aload_n 0, 1) := by decide +kernel
theorem dX5_setBattery_71 : decode cX5_setBattery 71 = .ok (.getfield 69, 3) := by decide +kernel
theorem dX5_setBattery_74 : decode cX5_setBattery 74 = .ok (.iload_n 1, 1) := by decide +kernel
theorem dX5_setBattery_75 : decode cX5_setBattery 75 = .ok (.isub, 1) := by decide +kernel
theorem dX5_setBattery_76 : decode cX5_setBattery 76 = .ok (.invokestatic 72, 3) := by decide +kernel
theorem dX5_setBattery_79 : decode cX5_setBattery 79 = .ok (.istore 4, 2) := by decide +kernel
theorem dX5_setBattery_81 : decode cX5_setBattery 81 = .ok (.aload_n 0, 1) := by decide +kernel
theorem dX5_setBattery_82 : decode cX5_setBattery 82 = .ok (.dup, 1) := by decide +kernel
theorem dX5_setBattery_83 : decode cX5_setBattery 83 = .ok (.getfield 69, 3) := by decide +kernel
theorem dX5_setBattery_86 : decode cX5_setBattery 86 = .ok (.iload 4, 2) := by decide +kernel
theorem dX5_setBattery_88 : decode cX5_setBattery 88 = .ok (.isub, 1) := by decide +kernel
theorem dX5_setBattery_89 : decode cX5_setBattery 89 = .ok (.putfield 69, 3) := by decide +kernel
theorem dX5_setBattery_92 : decode cX5_setBattery 92 = .ok (.iload 4, 2) := by decide +kernel
theorem dX5_setBattery_94 : decode cX5_setBattery 94 = .ok (.ireturn, 1) := by decide +kernel
theorem dX5_setMember_0 : decode cX5_setMember 0 = .ok (.aload_n 0, 1) := by decide +kernel
theorem dX5_setMember_1 : decode cX5_setMember 1 = .ok (.iconst 0, 1) := by decide +kernel
theorem dX5_setMember_2 : decode cX5_setMember 2 = .ok (.putfield 35, 3) := by decide +kernel
theorem dX5_setMember_5 : decode cX5_setMember 5 = .ok (.aload_n 0, 1) := by decide +kernel
theorem dX5_setMember_6 : decode cX5_setMember 6 = .ok (.iload_n 1, 1) := by decide +kernel
theorem dX5_setMember_7 : decode cX5_setMember 7 = .ok (.invokevirtual 55, 3) := by decide +kernel
theorem dX5_setMember_10 : decode cX5_setMember 10 = .ok (.ifCond .ne 9, 3) := by decide +kernel
theorem dX5_setMember_13 : decode cX5_setMember 13 = .ok (.aload_n 0, 1) := by decide +kernel
theorem dX5_setMember_14 : decode cX5_setMember 14 = .ok (.iconst 1, 1) := by decide +kernel
theorem dX5_setMember_15 : decode cX5_setMember 15 = .ok (.invokevirtual 51, 3) := by decide +kernel
theorem dX5_setMember_18 : decode cX5_setMember 18 = .ok (.ireturn, 1) := by decide +kernel
theorem dX5_setMember_19 : decode cX5_setMember 19 = .ok (.iload_n 2, 1) := by decide +kernel
theorem dX5_setMember_20 : decode cX5_setMember 20 = .ok (.i2l, 1) := by decide +kernel
theorem dX5_setMember_21 : decode cX5_setMember 21 = .ok (.lconst 0, 1) := by decide +kernel
theorem dX5_setMember_22 : decode cX5_setMember 22 = .ok (.ldc2_w 59, 3) := by decide +kernel
theorem dX5_setMember_25 : decode cX5_setMember 25 = .ok (.invokestatic 42, 3) := by decide +kernel
theorem dX5_setMember_28 : decode cX5_setMember 28 = .ok (.ifCond .eq 15, 3) := by decide +kernel
theorem dX5_setMember_31 : decode cX5_setMember 31 = .ok (.iload_n 3, 1) := by decide +kernel
theorem dX5_setMember_32 : decode cX5_setMember 32 = .ok (.i2l, 1) := by decide +kernel
theorem dX5_setMember_33 : decode cX5_setMember 33 = .ok (.lconst 0, 1) := by decide +kernel
theorem dX5_setMember_34 : decode cX5_setMember 34 = .ok (.ldc2_w 61, 3) := by decide +kernel
theorem dX5_setMember_37 : decode cX5_setMember 37 = .ok (.invokestatic 42, 3) := by decide +kernel
theorem dX5_setMember_40 : decode cX5_setMember 40 = .ok (.ifCond .ne 9, 3) := by decide +kernel
theorem dX5_setMember_43 : decode cX5_setMember 43 = .ok (.aload_n 0, 1) := by decide +kernel
theorem dX5_setMember_44 : decode cX5_setMember 44 = .ok (.iconst 2, 1) := by decide +kernel
theorem dX5_setMember_45 : decode cX5_setMember 45 = .ok (.invokevirtual 51, 3) := by decide +kernel
theorem dX5_setMember_48 : decode cX5_setMember 48 = .ok (.ireturn, 1) := by decide +kernel
theorem dX5_setMember_49 : decode cX5_setMember 49 = .ok (.aload_n 0, 1) := by decide +kernel
theorem dX5_setMember_50 : decode cX5_setMember 50 = .ok (.getfield 9, 3) := by decide +kernel
theorem dX5_setMember_53 : decode cX5_setMember 53 = .ok (.bipush 7, 2) := by decide +kernel
theorem dX5_setMember_55 : decode cX5_setMember 55 = .ok (.iload_n 1, 1) := by decide +kernel
theorem dX5_setMember_56 : decode cX5_setMember 56 = .ok (.iadd, 1) := by decide +kernel
theorem dX5_setMember_57 : decode cX5_setMember 57 = .ok (.iaload, 1) := by decide +kernel
theorem dX5_setMember_58 : decode cX5_setMember 58 = .ok (.istore 4, 2) := by decide +kernel
theorem dX5_setMember_60 : decode cX5_setMember 60 = .ok (.aload_n 0, 1) := by decide +kernel
theorem dX5_setMember_61 : decode cX5_setMember 61 = .ok (.getfield 9, 3) := by decide +kernel
theorem dX5_setMember_64 : decode cX5_setMember 64 = .ok (.bipush 7, 2) := by decide +kernel
theorem dX5_setMember_66 : decode cX5_setMember 66 = .ok (.iload_n 1, 1) := by decide +kernel
theorem dX5_setMember_67 : decode cX5_setMember 67 = .ok (.iadd, 1) := by decide +kernel
theorem dX5_setMember_68 : decode cX5_setMember 68 = .ok (.iload_n 2, 1) := by decide +kernel
theorem dX5_setMember_69 : decode cX5_setMember 69 = .ok (.iastore, 1) := by decide +kernel
theorem dX5_setMember_70 : decode cX5_setMember 70 = .ok (.aload_n 0, 1) := by decide +kernel
theorem dX5_setMember_71 : decode cX5_setMember 71 = .ok (.getfield 9, 3) := by decide +kernel
theorem dX5_setMember_74 : decode cX5_setMember 74 = .ok (.bipush 13, 2) := by decide +kernel
theorem dX5_setMember_76 : decode cX5_setMember 76 = .ok (.iload_n 1, 1) := by decide +kernel
theorem dX5_setMember_77 : decode cX5_setMember 77 = .ok (.iadd, 1) := by decide +kernel
theorem dX5_setMember_78 : decode cX5_setMember 78 = .ok (.iload_n 3, 1) := by decide +kernel
theorem dX5_setMember_79 : decode cX5_setMember 79 = .ok (.iastore, 1) := by decide +kernel
theorem dX5_setMember_80 : decode cX5_setMember 80 = .ok (.iload 4, 2) := by decide +kernel
theorem dX5_setMember_82 : decode cX5_setMember 82 = .ok (.ireturn, 1) := by decide +kernel
theorem dX5_setPrices_0 : decode cX5_setPrices 0 = .ok (.aload_n 0, 1) := by decide +kernel
theorem dX5_setPrices_1 : decode cX5_setPrices 1 = .ok (.iconst 0, 1) := by decide +kernel
theorem dX5_setPrices_2 : decode cX5_setPrices 2 = .ok (.putfield 35, 3) := by decide +kernel
theorem dX5_setPrices_5 : decode cX5_setPrices 5 = .ok (.iload_n 1, 1) := by decide +kernel
theorem dX5_setPrices_6 : decode cX5_setPrices 6 = .ok (.i2l, 1) := by decide +kernel
theorem dX5_setPrices_7 : decode cX5_setPrices 7 = .ok (.lconst 0, 1) := by decide +kernel
theorem dX5_setPrices_8 : decode cX5_setPrices 8 = .ok (.ldc2_w 59, 3) := by decide +kernel
theorem dX5_setPrices_11 : decode cX5_setPrices 11 = .ok (.invokestatic 42, 3) := by decide +kernel
theorem dX5_setPrices_14 : decode cX5_setPrices 14 = .ok (.ifCond .eq 27, 3) := by decide +kernel
theorem dX5_setPrices_17 : decode cX5_setPrices 17 = .ok (.iload_n 2, 1) := by decide +kernel
theorem dX5_setPrices_18 : decode cX5_setPrices 18 = .ok (.i2l, 1) := by decide +kernel
theorem dX5_setPrices_19 : decode cX5_setPrices 19 = .ok (.lconst 0, 1) := by decide +kernel
theorem dX5_setPrices_20 : decode cX5_setPrices 20 = .ok (.ldc2_w 59, 3) := by decide +kernel
theorem dX5_setPrices_23 : decode cX5_setPrices 23 = .ok (.invokestatic 42, 3) := by decide +kernel
theorem dX5_setPrices_26 : decode cX5_setPrices 26 = .ok (.ifCond .eq 15, 3) := by decide +kernel
theorem dX5_setPrices_29 : decode cX5_setPrices 29 = .ok (.iload_n 3, 1) := by decide +kernel
theorem dX5_setPrices_30 : decode cX5_setPrices 30 = .ok (.i2l, 1) := by decide +kernel
theorem dX5_setPrices_31 : decode cX5_setPrices 31 = .ok (.lconst 0, 1) := by decide +kernel
theorem dX5_setPrices_32 : decode cX5_setPrices 32 = .ok (.ldc2_w 59, 3) := by decide +kernel
theorem dX5_setPrices_35 : decode cX5_setPrices 35 = .ok (.invokestatic 42, 3) := by decide +kernel
theorem dX5_setPrices_38 : decode cX5_setPrices 38 = .ok (.ifCond .ne 9, 3) := by decide +kernel
theorem dX5_setPrices_41 : decode cX5_setPrices 41 = .ok (.aload_n 0, 1) := by decide +kernel
theorem dX5_setPrices_42 : decode cX5_setPrices 42 = .ok (.iconst 1, 1) := by decide +kernel
theorem dX5_setPrices_43 : decode cX5_setPrices 43 = .ok (.invokevirtual 51, 3) := by decide +kernel
theorem dX5_setPrices_46 : decode cX5_setPrices 46 = .ok (.ireturn, 1) := by decide +kernel
theorem dX5_setPrices_47 : decode cX5_setPrices 47 = .ok (.aload_n 0, 1) := by decide +kernel
theorem dX5_setPrices_48 : decode cX5_setPrices 48 = .ok (.getfield 9, 3) := by decide +kernel
theorem dX5_setPrices_51 : decode cX5_setPrices 51 = .ok (.iconst 3, 1) := by decide +kernel
theorem dX5_setPrices_52 : decode cX5_setPrices 52 = .ok (.iaload, 1) := by decide +kernel
theorem dX5_setPrices_53 : decode cX5_setPrices 53 = .ok (.istore 4, 2) := by decide +kernel
theorem dX5_setPrices_55 : decode cX5_setPrices 55 = .ok (.aload_n 0, 1) := by decide +kernel
theorem dX5_setPrices_56 : decode cX5_setPrices 56 = .ok (.getfield 9, 3) := by decide +kernel
theorem dX5_setPrices_59 : decode cX5_setPrices 59 = .ok (.iconst 1, 1) := by decide +kernel
theorem dX5_setPrices_60 : decode cX5_setPrices 60 = .ok (.iload_n 1, 1) := by decide +kernel
theorem dX5_setPrices_61 : decode cX5_setPrices 61 = .ok (.iastore, 1) := by decide +kernel
theorem dX5_setPrices_62 : decode cX5_setPrices 62 = .ok (.aload_n 0, 1) := by decide +kernel
theorem dX5_setPrices_63 : decode cX5_setPrices 63 = .ok (.getfield 9, 3) := by decide +kernel
theorem dX5_setPrices_66 : decode cX5_setPrices 66 = .ok (.iconst 2, 1) := by decide +kernel
theorem dX5_setPrices_67 : decode cX5_setPrices 67 = .ok (.iload_n 2, 1) := by decide +kernel
theorem dX5_setPrices_68 : decode cX5_setPrices 68 = .ok (.iastore, 1) := by decide +kernel
theorem dX5_setPrices_69 : decode cX5_setPrices 69 = .ok (.aload_n 0, 1) := by decide +kernel
theorem dX5_setPrices_70 : decode cX5_setPrices 70 = .ok (.getfield 9, 3) := by decide +kernel
theorem dX5_setPrices_73 : decode cX5_setPrices 73 = .ok (.iconst 3, 1) := by decide +kernel
theorem dX5_setPrices_74 : decode cX5_setPrices 74 = .ok (.iload_n 3, 1) := by decide +kernel
theorem dX5_setPrices_75 : decode cX5_setPrices 75 = .ok (.iastore, 1) := by decide +kernel
theorem dX5_setPrices_76 : decode cX5_setPrices 76 = .ok (.iload 4, 2) := by decide +kernel
theorem dX5_setPrices_78 : decode cX5_setPrices 78 = .ok (.ireturn, 1) := by decide +kernel
theorem dX5_setRule_0 : decode cX5_setRule 0 = .ok (.aload_n 0, 1) := by decide +kernel
theorem dX5_setRule_1 : decode cX5_setRule 1 = .ok (.iconst 0, 1) := by decide +kernel
theorem dX5_setRule_2 : decode cX5_setRule 2 = .ok (.putfield 35, 3) := by decide +kernel
theorem dX5_setRule_5 : decode cX5_setRule 5 = .ok (.iload_n 1, 1) := by decide +kernel
theorem dX5_setRule_6 : decode cX5_setRule 6 = .ok (.i2l, 1) := by decide +kernel
theorem dX5_setRule_7 : decode cX5_setRule 7 = .ok (.lconst 0, 1) := by decide +kernel
theorem dX5_setRule_8 : decode cX5_setRule 8 = .ok (.ldc2_w 63, 3) := by decide +kernel
theorem dX5_setRule_11 : decode cX5_setRule 11 = .ok (.invokestatic 42, 3) := by decide +kernel
theorem dX5_setRule_14 : decode cX5_setRule 14 = .ok (.ifCond .ne 9, 3) := by decide +kernel
theorem dX5_setRule_17 : decode cX5_setRule 17 = .ok (.aload_n 0, 1) := by decide +kernel
theorem dX5_setRule_18 : decode cX5_setRule 18 = .ok (.iconst 1, 1) := by decide +kernel
theorem dX5_setRule_19 : decode cX5_setRule 19 = .ok (.invokevirtual 51, 3) := by decide +kernel
theorem dX5_setRule_22 : decode cX5_setRule 22 = .ok (.ireturn, 1) := by decide +kernel
theorem dX5_setRule_23 : decode cX5_setRule 23 = .ok (.aload_n 0, 1) := by decide +kernel
theorem dX5_setRule_24 : decode cX5_setRule 24 = .ok (.getfield 9, 3) := by decide +kernel
theorem dX5_setRule_27 : decode cX5_setRule 27 = .ok (.iconst 0, 1) := by decide +kernel
theorem dX5_setRule_28 : decode cX5_setRule 28 = .ok (.iaload, 1) := by decide +kernel
theorem dX5_setRule_29 : decode cX5_setRule 29 = .ok (.istore_n 2, 1) := by decide +kernel
theorem dX5_setRule_30 : decode cX5_setRule 30 = .ok (.aload_n 0, 1) := by decide +kernel
theorem dX5_setRule_31 : decode cX5_setRule 31 = .ok (.getfield 9, 3) := by decide +kernel
theorem dX5_setRule_34 : decode cX5_setRule 34 = .ok (.iconst 0, 1) := by decide +kernel
theorem dX5_setRule_35 : decode cX5_setRule 35 = .ok (.iload_n 1, 1) := by decide +kernel
theorem dX5_setRule_36 : decode cX5_setRule 36 = .ok (.iastore, 1) := by decide +kernel
theorem dX5_setRule_37 : decode cX5_setRule 37 = .ok (.iload_n 2, 1) := by decide +kernel
theorem dX5_setRule_38 : decode cX5_setRule 38 = .ok (.ireturn, 1) := by decide +kernel
theorem dX5_settle_0 : decode cX5_settle 0 = .ok (.aload_n 0, 1) := by decide +kernel
theorem dX5_settle_1 : decode cX5_settle 1 = .ok (.iconst 0, 1) := by decide +kernel
theorem dX5_settle_2 : decode cX5_settle 2 = .ok (.putfield 35, 3) := by decide +kernel
theorem dX5_settle_5 : decode cX5_settle 5 = .ok (.iload_n 1, 1) := by decide +kernel
theorem dX5_settle_6 : decode cX5_settle 6 = .ok (.i2l, 1) := by decide +kernel
theorem dX5_settle_7 : decode cX5_settle 7 = .ok (.lconst 0, 1) := by decide +kernel
theorem dX5_settle_8 : decode cX5_settle 8 = .ok (.ldc2_w 174, 3) := by decide +kernel
theorem dX5_settle_11 : decode cX5_settle 11 = .ok (.invokestatic 42, 3) := by decide +kernel
theorem dX5_settle_14 : decode cX5_settle 14 = .ok (.ifCond .ne 9, 3) := by decide +kernel
theorem dX5_settle_17 : decode cX5_settle 17 = .ok (.aload_n 0, 1) := by decide +kernel
theorem dX5_settle_18 : decode cX5_settle 18 = .ok (.iconst 1, 1) := by decide +kernel
theorem dX5_settle_19 : decode cX5_settle 19 = .ok (.invokevirtual 51, 3) := by decide +kernel
theorem dX5_settle_22 : decode cX5_settle 22 = .ok (.ireturn, 1) := by decide +kernel
theorem dX5_settle_23 : decode cX5_settle 23 = .ok (.iconst 0, 1) := by decide +kernel
theorem dX5_settle_24 : decode cX5_settle 24 = .ok (.istore_n 2, 1) := by decide +kernel
theorem dX5_settle_25 : decode cX5_settle 25 = .ok (.iload_n 2, 1) := by decide +kernel
theorem dX5_settle_26 : decode cX5_settle 26 = .ok (.aload_n 0, 1) := by decide +kernel
theorem dX5_settle_27 : decode cX5_settle 27 = .ok (.getfield 39, 3) := by decide +kernel
theorem dX5_settle_30 : decode cX5_settle 30 = .ok (.if_icmp .ge 45, 3) := by decide +kernel
theorem dX5_settle_33 : decode cX5_settle 33 = .ok (.aload_n 0, 1) := by decide +kernel
theorem dX5_settle_34 : decode cX5_settle 34 = .ok (.getfield 32, 3) := by decide +kernel
theorem dX5_settle_37 : decode cX5_settle 37 = .ok (.iload_n 2, 1) := by decide +kernel
theorem dX5_settle_38 : decode cX5_settle 38 = .ok (.dup2, 1) := by decide +kernel
theorem dX5_settle_39 : decode cX5_settle 39 = .ok (.laload, 1) := by decide +kernel
theorem dX5_settle_40 : decode cX5_settle 40 = .ok (.aload_n 0, 1) := by decide +kernel
theorem dX5_settle_41 : decode cX5_settle 41 = .ok (.getfield 28, 3) := by decide +kernel
theorem dX5_settle_44 : decode cX5_settle 44 = .ok (.iload_n 2, 1) := by decide +kernel
theorem dX5_settle_45 : decode cX5_settle 45 = .ok (.laload, 1) := by decide +kernel
theorem dX5_settle_46 : decode cX5_settle 46 = .ok (.iload_n 1, 1) := by decide +kernel
theorem dX5_settle_47 : decode cX5_settle 47 = .ok (.i2l, 1) := by decide +kernel
theorem dX5_settle_48 : decode cX5_settle 48 = .ok (.lsub, 1) := by decide +kernel
theorem dX5_settle_49 : decode cX5_settle 49 = .ok (.ladd, 1) := by decide +kernel
theorem dX5_settle_50 : decode cX5_settle 50 = .ok (.lastore, 1) := by decide +kernel
theorem dX5_settle_51 : decode cX5_settle 51 = .ok (.aload_n 0, 1) := by decide +kernel
theorem dX5_settle_52 : decode cX5_settle 52 = .ok (.getfield 28, 3) := by decide +kernel
theorem dX5_settle_55 : decode cX5_settle 55 = .ok (.iload_n 2, 1) := by decide +kernel
theorem dX5_settle_56 : decode cX5_settle 56 = .ok (.lconst 0, 1) := by decide +kernel
theorem dX5_settle_57 : decode cX5_settle 57 = .ok (.lastore, 1) := by decide +kernel
theorem dX5_settle_58 : decode cX5_settle 58 = .ok (.aload_n 0, 1) := by decide +kernel
theorem dX5_settle_59 : decode cX5_settle 59 = .ok (.dup, 1) := by decide +kernel
theorem dX5_settle_60 : decode cX5_settle 60 = .ok (.getfield 132, 3) := by decide +kernel
theorem dX5_settle_63 : decode cX5_settle 63 = .ok (.iload_n 1, 1) := by decide +kernel
theorem dX5_settle_64 : decode cX5_settle 64 = .ok (.i2l, 1) := by decide +kernel
theorem dX5_settle_65 : decode cX5_settle 65 = .ok (.ladd, 1) := by decide +kernel
theorem dX5_settle_66 : decode cX5_settle 66 = .ok (.putfield 132, 3) := by decide +kernel
theorem dX5_settle_69 : decode cX5_settle 69 = .ok (.iinc 2 1, 3) := by decide +kernel
theorem dX5_settle_72 : decode cX5_settle 72 = .ok (.goto (-47), 3) := by decide +kernel
theorem dX5_settle_75 : decode cX5_settle 75 = .ok (.aload_n 0, 1) := by decide +kernel
theorem dX5_settle_76 : decode cX5_settle 76 = .ok (.getfield 48, 3) := by decide +kernel
theorem dX5_settle_79 : decode cX5_settle 79 = .ok (.aload_n 0, 1) := by decide +kernel
theorem dX5_settle_80 : decode cX5_settle 80 = .ok (.getfield 153, 3) := by decide +kernel
theorem dX5_settle_83 : decode cX5_settle 83 = .ok (.isub, 1) := by decide +kernel
theorem dX5_settle_84 : decode cX5_settle 84 = .ok (.istore_n 2, 1) := by decide +kernel
theorem dX5_settle_85 : decode cX5_settle 85 = .ok (.aload_n 0, 1) := by decide +kernel
theorem dX5_settle_86 : decode cX5_settle 86 = .ok (.aload_n 0, 1) := by decide +kernel
theorem dX5_settle_87 : decode cX5_settle 87 = .ok (.getfield 48, 3) := by decide +kernel
theorem dX5_settle_90 : decode cX5_settle 90 = .ok (.putfield 153, 3) := by decide +kernel
theorem dX5_settle_93 : decode cX5_settle 93 = .ok (.iload_n 2, 1) := by decide +kernel
theorem dX5_settle_94 : decode cX5_settle 94 = .ok (.ireturn, 1) := by decide +kernel
theorem dX5_settleSlot_0 : decode cX5_settleSlot 0 = .ok (.aload_n 0, 1) := by decide +kernel
theorem dX5_settleSlot_1 : decode cX5_settleSlot 1 = .ok (.iload_n 1, 1) := by decide +kernel
theorem dX5_settleSlot_2 : decode cX5_settleSlot 2 = .ok (.invokevirtual 128, 3) := by decide +kernel
theorem dX5_settleSlot_5 : decode cX5_settleSlot 5 = .ok (.astore_n 3, 1) := by decide +kernel
theorem dX5_settleSlot_6 : decode cX5_settleSlot 6 = .ok (.bipush 48, 2) := by decide +kernel
theorem dX5_settleSlot_8 : decode cX5_settleSlot 8 = .ok (.newarray .int, 2) := by decide +kernel
theorem dX5_settleSlot_10 : decode cX5_settleSlot 10 = .ok (.astore 4, 2) := by decide +kernel
theorem dX5_settleSlot_12 : decode cX5_settleSlot 12 = .ok (.aload_n 0, 1) := by decide +kernel
theorem dX5_settleSlot_13 : decode cX5_settleSlot 13 = .ok (.getfield 22, 3) := by decide +kernel
theorem dX5_settleSlot_16 : decode cX5_settleSlot 16 = .ok (.iload_n 1, 1) := by decide +kernel
theorem dX5_settleSlot_17 : decode cX5_settleSlot 17 = .ok (.iload_n 2, 1) := by decide +kernel
theorem dX5_settleSlot_18 : decode cX5_settleSlot 18 = .ok (.aload_n 3, 1) := by decide +kernel
theorem dX5_settleSlot_19 : decode cX5_settleSlot 19 = .ok (.iconst 4, 1) := by decide +kernel
theorem dX5_settleSlot_20 : decode cX5_settleSlot 20 = .ok (.iaload, 1) := by decide +kernel
theorem dX5_settleSlot_21 : decode cX5_settleSlot 21 = .ok (.invokestatic 86, 3) := by decide +kernel
theorem dX5_settleSlot_24 : decode cX5_settleSlot 24 = .ok (.iastore, 1) := by decide +kernel
theorem dX5_settleSlot_25 : decode cX5_settleSlot 25 = .ok (.aload_n 0, 1) := by decide +kernel
theorem dX5_settleSlot_26 : decode cX5_settleSlot 26 = .ok (.iload_n 1, 1) := by decide +kernel
theorem dX5_settleSlot_27 : decode cX5_settleSlot 27 = .ok (.aload_n 0, 1) := by decide +kernel
theorem dX5_settleSlot_28 : decode cX5_settleSlot 28 = .ok (.getfield 22, 3) := by decide +kernel
theorem dX5_settleSlot_31 : decode cX5_settleSlot 31 = .ok (.iload_n 1, 1) := by decide +kernel
theorem dX5_settleSlot_32 : decode cX5_settleSlot 32 = .ok (.iaload, 1) := by decide +kernel
theorem dX5_settleSlot_33 : decode cX5_settleSlot 33 = .ok (.aload_n 3, 1) := by decide +kernel
theorem dX5_settleSlot_34 : decode cX5_settleSlot 34 = .ok (.aload 4, 2) := by decide +kernel
theorem dX5_settleSlot_36 : decode cX5_settleSlot 36 = .ok (.invokevirtual 139, 3) := by decide +kernel
theorem dX5_settleSlot_39 : decode cX5_settleSlot 39 = .ok (.aload 4, 2) := by decide +kernel
theorem dX5_settleSlot_41 : decode cX5_settleSlot 41 = .ok (.iconst 0, 1) := by decide +kernel
theorem dX5_settleSlot_42 : decode cX5_settleSlot 42 = .ok (.aload_n 0, 1) := by decide +kernel
theorem dX5_settleSlot_43 : decode cX5_settleSlot 43 = .ok (.getfield 25, 3) := by decide +kernel
theorem dX5_settleSlot_46 : decode cX5_settleSlot 46 = .ok (.bipush 48, 2) := by decide +kernel
theorem dX5_settleSlot_48 : decode cX5_settleSlot 48 = .ok (.iload_n 1, 1) := by decide +kernel
theorem dX5_settleSlot_49 : decode cX5_settleSlot 49 = .ok (.imul, 1) := by decide +kernel
theorem dX5_settleSlot_50 : decode cX5_settleSlot 50 = .ok (.aload 4, 2) := by decide +kernel
theorem dX5_settleSlot_52 : decode cX5_settleSlot 52 = .ok (.arraylength, 1) := by decide +kernel
theorem dX5_settleSlot_53 : decode cX5_settleSlot 53 = .ok (.invokestatic 122, 3) := by decide +kernel
theorem dX5_settleSlot_56 : decode cX5_settleSlot 56 = .ok (.aload_n 0, 1) := by decide +kernel
theorem dX5_settleSlot_57 : decode cX5_settleSlot 57 = .ok (.iload_n 1, 1) := by decide +kernel
theorem dX5_settleSlot_58 : decode cX5_settleSlot 58 = .ok (.iconst 1, 1) := by decide +kernel
theorem dX5_settleSlot_59 : decode cX5_settleSlot 59 = .ok (.invokevirtual 143, 3) := by decide +kernel
theorem dX5_settleSlot_62 : decode cX5_settleSlot 62 = .ok (.return_, 1) := by decide +kernel
theorem dX5_shared_0 : decode cX5_shared 0 = .ok (.bipush 6, 2) := by decide +kernel
theorem dX5_shared_2 : decode cX5_shared 2 = .ok (.newarray .int, 2) := by decide +kernel
theorem dX5_shared_4 : decode cX5_shared 4 = .ok (.astore 5, 2) := by decide +kernel
theorem dX5_shared_6 : decode cX5_shared 6 = .ok (.iload 4, 2) := by decide +kernel
theorem dX5_shared_8 : decode cX5_shared 8 = .ok (.ifCond .ne 16, 3) := by decide +kernel
theorem dX5_shared_11 : decode cX5_shared 11 = .ok (.aload_n 0, 1) := by decide +kernel
theorem dX5_shared_12 : decode cX5_shared 12 = .ok (.iload_n 1, 1) := by decide +kernel
theorem dX5_shared_13 : decode cX5_shared 13 = .ok (.aload_n 2, 1) := by decide +kernel
theorem dX5_shared_14 : decode cX5_shared 14 = .ok (.aload 5, 2) := by decide +kernel
theorem dX5_shared_16 : decode cX5_shared 16 = .ok (.aload_n 3, 1) := by decide +kernel
theorem dX5_shared_17 : decode cX5_shared 17 = .ok (.invokevirtual 89, 3) := by decide +kernel
theorem dX5_shared_20 : decode cX5_shared 20 = .ok (.pop, 1) := by decide +kernel
theorem dX5_shared_21 : decode cX5_shared 21 = .ok (.goto 47, 3) := by decide +kernel
theorem dX5_shared_24 : decode cX5_shared 24 = .ok (.iload 4, 2) := by decide +kernel
theorem dX5_shared_26 : decode cX5_shared 26 = .ok (.iconst 1, 1) := by decide +kernel
theorem dX5_shared_27 : decode cX5_shared 27 = .ok (.if_icmp .ne 15, 3) := by decide +kernel
theorem dX5_shared_30 : decode cX5_shared 30 = .ok (.aload_n 0, 1) := by decide +kernel
theorem dX5_shared_31 : decode cX5_shared 31 = .ok (.iload_n 1, 1) := by decide +kernel
theorem dX5_shared_32 : decode cX5_shared 32 = .ok (.aload_n 2, 1) := by decide +kernel
theorem dX5_shared_33 : decode cX5_shared 33 = .ok (.aload 5, 2) := by decide +kernel
theorem dX5_shared_35 : decode cX5_shared 35 = .ok (.aload_n 3, 1) := by decide +kernel
theorem dX5_shared_36 : decode cX5_shared 36 = .ok (.invokevirtual 93, 3) := by decide +kernel
theorem dX5_shared_39 : decode cX5_shared 39 = .ok (.goto 29, 3) := by decide +kernel
theorem dX5_shared_42 : decode cX5_shared 42 = .ok (.iload 4, 2) := by decide +kernel
theorem dX5_shared_44 : decode cX5_shared 44 = .ok (.iconst 2, 1) := by decide +kernel
theorem dX5_shared_45 : decode cX5_shared 45 = .ok (.if_icmp .ne 14, 3) := by decide +kernel
theorem dX5_shared_48 : decode cX5_shared 48 = .ok (.aload_n 0, 1) := by decide +kernel
theorem dX5_shared_49 : decode cX5_shared 49 = .ok (.iload_n 1, 1) := by decide +kernel
theorem dX5_shared_50 : decode cX5_shared 50 = .ok (.aload_n 2, 1) := by decide +kernel
theorem dX5_shared_51 : decode cX5_shared 51 = .ok (.aload 5, 2) := by decide +kernel
theorem dX5_shared_53 : decode cX5_shared 53 = .ok (.invokevirtual 97, 3) := by decide +kernel
theorem dX5_shared_56 : decode cX5_shared 56 = .ok (.goto 12, 3) := by decide +kernel
theorem dX5_shared_59 : decode cX5_shared 59 = .ok (.aload_n 0, 1) := by decide +kernel
theorem dX5_shared_60 : decode cX5_shared 60 = .ok (.iload_n 1, 1) := by decide +kernel
theorem dX5_shared_61 : decode cX5_shared 61 = .ok (.aload_n 2, 1) := by decide +kernel
theorem dX5_shared_62 : decode cX5_shared 62 = .ok (.aload 5, 2) := by decide +kernel
theorem dX5_shared_64 : decode cX5_shared 64 = .ok (.aload_n 3, 1) := by decide +kernel
theorem dX5_shared_65 : decode cX5_shared 65 = .ok (.invokevirtual 101, 3) := by decide +kernel
theorem dX5_shared_68 : decode cX5_shared 68 = .ok (.aload 5, 2) := by decide +kernel
theorem dX5_shared_70 : decode cX5_shared 70 = .ok (.areturn, 1) := by decide +kernel
theorem dX5_sum_0 : decode cX5_sum 0 = .ok (.iconst 0, 1) := by decide +kernel
theorem dX5_sum_1 : decode cX5_sum 1 = .ok (.istore_n 1, 1) := by decide +kernel
theorem dX5_sum_2 : decode cX5_sum 2 = .ok (.aload_n 0, 1) := by decide +kernel
theorem dX5_sum_3 : decode cX5_sum 3 = .ok (.astore_n 2, 1) := by decide +kernel
theorem dX5_sum_4 : decode cX5_sum 4 = .ok (.aload_n 2, 1) := by decide +kernel
theorem dX5_sum_5 : decode cX5_sum 5 = .ok (.arraylength, 1) := by decide +kernel
theorem dX5_sum_6 : decode cX5_sum 6 = .ok (.istore_n 3, 1) := by decide +kernel
theorem dX5_sum_7 : decode cX5_sum 7 = .ok (.iconst 0, 1) := by decide +kernel
theorem dX5_sum_8 : decode cX5_sum 8 = .ok (.istore 4, 2) := by decide +kernel
theorem dX5_sum_10 : decode cX5_sum 10 = .ok (.iload 4, 2) := by decide +kernel
theorem dX5_sum_12 : decode cX5_sum 12 = .ok (.iload_n 3, 1) := by decide +kernel
theorem dX5_sum_13 : decode cX5_sum 13 = .ok (.if_icmp .ge 20, 3) := by decide +kernel
theorem dX5_sum_16 : decode cX5_sum 16 = .ok (.aload_n 2, 1) := by decide +kernel
theorem dX5_sum_17 : decode cX5_sum 17 = .ok (.iload 4, 2) := by decide +kernel
theorem dX5_sum_19 : decode cX5_sum 19 = .ok (.iaload, 1) := by decide +kernel
theorem dX5_sum_20 : decode cX5_sum 20 = .ok (.istore 5, 2) := by decide +kernel
theorem dX5_sum_22 : decode cX5_sum 22 = .ok (.iload_n 1, 1) := by decide +kernel
theorem dX5_sum_23 : decode cX5_sum 23 = .ok (.iload 5, 2) := by decide +kernel
theorem dX5_sum_25 : decode cX5_sum 25 = .ok (.iadd, 1) := by decide +kernel
theorem dX5_sum_26 : decode cX5_sum 26 = .ok (.istore_n 1, 1) := by decide +kernel
theorem dX5_sum_27 : decode cX5_sum 27 = .ok (.iinc 4 1, 3) := by decide +kernel
theorem dX5_sum_30 : decode cX5_sum 30 = .ok (.goto (-20), 3) := by decide +kernel
theorem dX5_sum_33 : decode cX5_sum 33 = .ok (.iload_n 1, 1) := by decide +kernel
theorem dX5_sum_34 : decode cX5_sum 34 = .ok (.ireturn, 1) := by decide +kernel
theorem dX5_take_0 : decode cX5_take 0 = .ok (.iconst 0, 1) := by decide +kernel
theorem dX5_take_1 : decode cX5_take 1 = .ok (.istore_n 2, 1) := by decide +kernel
theorem dX5_take_2 : decode cX5_take 2 = .ok (.iload_n 2, 1) := by decide +kernel
theorem dX5_take_3 : decode cX5_take 3 = .ok (.bipush 6, 2) := by decide +kernel
theorem dX5_take_5 : decode cX5_take 5 = .ok (.if_icmp .ge 18, 3) := by decide +kernel
theorem dX5_take_8 : decode cX5_take 8 = .ok (.aload_n 0, 1) := by decide +kernel
theorem dX5_take_9 : decode cX5_take 9 = .ok (.iload_n 2, 1) := by decide +kernel
theorem dX5_take_10 : decode cX5_take 10 = .ok (.dup2, 1) := by decide +kernel
theorem dX5_take_11 : decode cX5_take 11 = .ok (.iaload, 1) := by decide +kernel
theorem dX5_take_12 : decode cX5_take 12 = .ok (.aload_n 1, 1) := by decide +kernel
theorem dX5_take_13 : decode cX5_take 13 = .ok (.iload_n 2, 1) := by decide +kernel
theorem dX5_take_14 : decode cX5_take 14 = .ok (.iaload, 1) := by decide +kernel
theorem dX5_take_15 : decode cX5_take 15 = .ok (.isub, 1) := by decide +kernel
theorem dX5_take_16 : decode cX5_take 16 = .ok (.iastore, 1) := by decide +kernel
theorem dX5_take_17 : decode cX5_take 17 = .ok (.iinc 2 1, 3) := by decide +kernel
theorem dX5_take_20 : decode cX5_take 20 = .ok (.goto (-18), 3) := by decide +kernel
theorem dX5_take_23 : decode cX5_take 23 = .ok (.return_, 1) := by decide +kernel
theorem dX5_termsOf_0 : decode cX5_termsOf 0 = .ok (.bipush 19, 2) := by decide +kernel
theorem dX5_termsOf_2 : decode cX5_termsOf 2 = .ok (.newarray .int, 2) := by decide +kernel
theorem dX5_termsOf_4 : decode cX5_termsOf 4 = .ok (.astore_n 2, 1) := by decide +kernel
theorem dX5_termsOf_5 : decode cX5_termsOf 5 = .ok (.aload_n 0, 1) := by decide +kernel
theorem dX5_termsOf_6 : decode cX5_termsOf 6 = .ok (.getfield 13, 3) := by decide +kernel
theorem dX5_termsOf_9 : decode cX5_termsOf 9 = .ok (.bipush 19, 2) := by decide +kernel
theorem dX5_termsOf_11 : decode cX5_termsOf 11 = .ok (.iload_n 1, 1) := by decide +kernel
theorem dX5_termsOf_12 : decode cX5_termsOf 12 = .ok (.imul, 1) := by decide +kernel
theorem dX5_termsOf_13 : decode cX5_termsOf 13 = .ok (.aload_n 2, 1) := by decide +kernel
theorem dX5_termsOf_14 : decode cX5_termsOf 14 = .ok (.iconst 0, 1) := by decide +kernel
theorem dX5_termsOf_15 : decode cX5_termsOf 15 = .ok (.bipush 19, 2) := by decide +kernel
theorem dX5_termsOf_17 : decode cX5_termsOf 17 = .ok (.invokestatic 122, 3) := by decide +kernel
theorem dX5_termsOf_20 : decode cX5_termsOf 20 = .ok (.aload_n 2, 1) := by decide +kernel
theorem dX5_termsOf_21 : decode cX5_termsOf 21 = .ok (.areturn, 1) := by decide +kernel
theorem dX5_thrown_0 : decode cX5_thrown 0 = .ok (.aload_n 0, 1) := by decide +kernel
theorem dX5_thrown_1 : decode cX5_thrown 1 = .ok (.getfield 35, 3) := by decide +kernel
theorem dX5_thrown_4 : decode cX5_thrown 4 = .ok (.ireturn, 1) := by decide +kernel
theorem dX5_withRoom_0 : decode cX5_withRoom 0 = .ok (.bipush 6, 2) := by decide +kernel
theorem dX5_withRoom_2 : decode cX5_withRoom 2 = .ok (.newarray .boolean, 2) := by decide +kernel
theorem dX5_withRoom_4 : decode cX5_withRoom 4 = .ok (.astore 5, 2) := by decide +kernel
theorem dX5_withRoom_6 : decode cX5_withRoom 6 = .ok (.iconst 0, 1) := by decide +kernel
theorem dX5_withRoom_7 : decode cX5_withRoom 7 = .ok (.istore 6, 2) := by decide +kernel
theorem dX5_withRoom_9 : decode cX5_withRoom 9 = .ok (.iload 6, 2) := by decide +kernel
theorem dX5_withRoom_11 : decode cX5_withRoom 11 = .ok (.aload_n 0, 1) := by decide +kernel
theorem dX5_withRoom_12 : decode cX5_withRoom 12 = .ok (.getfield 39, 3) := by decide +kernel
theorem dX5_withRoom_15 : decode cX5_withRoom 15 = .ok (.if_icmp .ge 45, 3) := by decide +kernel
theorem dX5_withRoom_18 : decode cX5_withRoom 18 = .ok (.aload 5, 2) := by decide +kernel
theorem dX5_withRoom_20 : decode cX5_withRoom 20 = .ok (.iload 6, 2) := by decide +kernel
theorem dX5_withRoom_22 : decode cX5_withRoom 22 = .ok (.aload_n 2, 1) := by decide +kernel
theorem dX5_withRoom_23 : decode cX5_withRoom 23 = .ok (.iload 6, 2) := by decide +kernel
theorem dX5_withRoom_25 : decode cX5_withRoom 25 = .ok (.iaload, 1) := by decide +kernel
theorem dX5_withRoom_26 : decode cX5_withRoom 26 = .ok (.aload_n 1, 1) := by decide +kernel
theorem dX5_withRoom_27 : decode cX5_withRoom 27 = .ok (.iload 6, 2) := by decide +kernel
theorem dX5_withRoom_29 : decode cX5_withRoom 29 = .ok (.iaload, 1) := by decide +kernel
theorem dX5_withRoom_30 : decode cX5_withRoom 30 = .ok (.if_icmp .ge 22, 3) := by decide +kernel
theorem dX5_withRoom_33 : decode cX5_withRoom 33 = .ok (.iload 4, 2) := by decide +kernel
theorem dX5_withRoom_35 : decode cX5_withRoom 35 = .ok (.ifCond .eq 13, 3) := by decide +kernel
theorem dX5_withRoom_38 : decode cX5_withRoom 38 = .ok (.aload_n 3, 1) := by decide +kernel
theorem dX5_withRoom_39 : decode cX5_withRoom 39 = .ok (.bipush 7, 2) := by decide +kernel
theorem dX5_withRoom_41 : decode cX5_withRoom 41 = .ok (.iload 6, 2) := by decide +kernel
theorem dX5_withRoom_43 : decode cX5_withRoom 43 = .ok (.iadd, 1) := by decide +kernel
theorem dX5_withRoom_44 : decode cX5_withRoom 44 = .ok (.iaload, 1) := by decide +kernel
theorem dX5_withRoom_45 : decode cX5_withRoom 45 = .ok (.ifCond .le 7, 3) := by decide +kernel
theorem dX5_withRoom_48 : decode cX5_withRoom 48 = .ok (.iconst 1, 1) := by decide +kernel
theorem dX5_withRoom_49 : decode cX5_withRoom 49 = .ok (.goto 4, 3) := by decide +kernel
theorem dX5_withRoom_52 : decode cX5_withRoom 52 = .ok (.iconst 0, 1) := by decide +kernel
theorem dX5_withRoom_53 : decode cX5_withRoom 53 = .ok (.bastore, 1) := by decide +kernel
theorem dX5_withRoom_54 : decode cX5_withRoom 54 = .ok (.iinc 6 1, 3) := by decide +kernel
theorem dX5_withRoom_57 : decode cX5_withRoom 57 = .ok (.goto (-48), 3) := by decide +kernel
theorem dX5_withRoom_60 : decode cX5_withRoom 60 = .ok (.aload 5, 2) := by decide +kernel
theorem dX5_withRoom_62 : decode cX5_withRoom 62 = .ok (.areturn, 1) := by decide +kernel
