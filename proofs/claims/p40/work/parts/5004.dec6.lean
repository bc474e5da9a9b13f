theorem dL_below_0 : decode cL_below 0 = .ok (.iload_n 0, 1) := by decide +kernel
theorem dL_below_1 : decode cL_below 1 = .ok (.ldc 7, 2) := by decide +kernel
theorem dL_below_3 : decode cL_below 3 = .ok (.iand, 1) := by decide +kernel
theorem dL_below_4 : decode cL_below 4 = .ok (.iload_n 1, 1) := by decide +kernel
theorem dL_below_5 : decode cL_below 5 = .ok (.irem, 1) := by decide +kernel
theorem dL_below_6 : decode cL_below 6 = .ok (.ireturn, 1) := by decide +kernel
theorem dL_cell_0 : decode cL_cell 0 = .ok (.iload_n 1, 1) := by decide +kernel
theorem dL_cell_1 : decode cL_cell 1 = .ok (.aload_n 0, 1) := by decide +kernel
theorem dL_cell_2 : decode cL_cell 2 = .ok (.arraylength, 1) := by decide +kernel
theorem dL_cell_3 : decode cL_cell 3 = .ok (.if_icmp .ge 9, 3) := by decide +kernel
theorem dL_cell_6 : decode cL_cell 6 = .ok (.aload_n 0, 1) := by decide +kernel
theorem dL_cell_7 : decode cL_cell 7 = .ok (.iload_n 1, 1) := by decide +kernel
theorem dL_cell_8 : decode cL_cell 8 = .ok (.iaload, 1) := by decide +kernel
theorem dL_cell_9 : decode cL_cell 9 = .ok (.goto 9, 3) := by decide +kernel
theorem dL_cell_12 : decode cL_cell 12 = .ok (.ldc 8, 2) := by decide +kernel
theorem dL_cell_14 : decode cL_cell 14 = .ok (.iload_n 1, 1) := by decide +kernel
theorem dL_cell_15 : decode cL_cell 15 = .ok (.iconst 3, 1) := by decide +kernel
theorem dL_cell_16 : decode cL_cell 16 = .ok (.iadd, 1) := by decide +kernel
theorem dL_cell_17 : decode cL_cell 17 = .ok (.imul, 1) := by decide +kernel
theorem dL_cell_18 : decode cL_cell 18 = .ok (.ireturn, 1) := by decide +kernel
theorem dL_taught_0 : decode cL_taught 0 = .ok (.iconst 5, 1) := by decide +kernel
theorem dL_taught_1 : decode cL_taught 1 = .ok (.newarray .int, 2) := by decide +kernel
theorem dL_taught_3 : decode cL_taught 3 = .ok (.astore_n 2, 1) := by decide +kernel
theorem dL_taught_4 : decode cL_taught 4 = .ok (.iconst 0, 1) := by decide +kernel
theorem dL_taught_5 : decode cL_taught 5 = .ok (.istore_n 3, 1) := by decide +kernel
theorem dL_taught_6 : decode cL_taught 6 = .ok (.iload_n 3, 1) := by decide +kernel
theorem dL_taught_7 : decode cL_taught 7 = .ok (.aload_n 1, 1) := by decide +kernel
theorem dL_taught_8 : decode cL_taught 8 = .ok (.invokevirtual 9, 3) := by decide +kernel
theorem dL_taught_11 : decode cL_taught 11 = .ok (.if_icmp .ge 108, 3) := by decide +kernel
theorem dL_taught_14 : decode cL_taught 14 = .ok (.iconst 0, 1) := by decide +kernel
theorem dL_taught_15 : decode cL_taught 15 = .ok (.istore 4, 2) := by decide +kernel
theorem dL_taught_17 : decode cL_taught 17 = .ok (.iload 4, 2) := by decide +kernel
theorem dL_taught_19 : decode cL_taught 19 = .ok (.iconst 5, 1) := by decide +kernel
theorem dL_taught_20 : decode cL_taught 20 = .ok (.if_icmp .ge 73, 3) := by decide +kernel
theorem dL_taught_23 : decode cL_taught 23 = .ok (.aload_n 2, 1) := by decide +kernel
theorem dL_taught_24 : decode cL_taught 24 = .ok (.iload 4, 2) := by decide +kernel
theorem dL_taught_26 : decode cL_taught 26 = .ok (.iconst 0, 1) := by decide +kernel
theorem dL_taught_27 : decode cL_taught 27 = .ok (.iastore, 1) := by decide +kernel
theorem dL_taught_28 : decode cL_taught 28 = .ok (.iload_n 3, 1) := by decide +kernel
theorem dL_taught_29 : decode cL_taught 29 = .ok (.iconst 4, 1) := by decide +kernel
theorem dL_taught_30 : decode cL_taught 30 = .ok (.iload 4, 2) := by decide +kernel
theorem dL_taught_32 : decode cL_taught 32 = .ok (.imul, 1) := by decide +kernel
theorem dL_taught_33 : decode cL_taught 33 = .ok (.iadd, 1) := by decide +kernel
theorem dL_taught_34 : decode cL_taught 34 = .ok (.istore 5, 2) := by decide +kernel
theorem dL_taught_36 : decode cL_taught 36 = .ok (.iload 5, 2) := by decide +kernel
theorem dL_taught_38 : decode cL_taught 38 = .ok (.iload_n 3, 1) := by decide +kernel
theorem dL_taught_39 : decode cL_taught 39 = .ok (.iconst 4, 1) := by decide +kernel
theorem dL_taught_40 : decode cL_taught 40 = .ok (.iload 4, 2) := by decide +kernel
theorem dL_taught_42 : decode cL_taught 42 = .ok (.imul, 1) := by decide +kernel
theorem dL_taught_43 : decode cL_taught 43 = .ok (.iadd, 1) := by decide +kernel
theorem dL_taught_44 : decode cL_taught 44 = .ok (.iconst 4, 1) := by decide +kernel
theorem dL_taught_45 : decode cL_taught 45 = .ok (.iadd, 1) := by decide +kernel
theorem dL_taught_46 : decode cL_taught 46 = .ok (.if_icmp .ge 41, 3) := by decide +kernel
theorem dL_taught_49 : decode cL_taught 49 = .ok (.aload_n 2, 1) := by decide +kernel
theorem dL_taught_50 : decode cL_taught 50 = .ok (.iload 4, 2) := by decide +kernel
theorem dL_taught_52 : decode cL_taught 52 = .ok (.aload_n 2, 1) := by decide +kernel
theorem dL_taught_53 : decode cL_taught 53 = .ok (.iload 4, 2) := by decide +kernel
theorem dL_taught_55 : decode cL_taught 55 = .ok (.iaload, 1) := by decide +kernel
theorem dL_taught_56 : decode cL_taught 56 = .ok (.bipush 8, 2) := by decide +kernel
theorem dL_taught_58 : decode cL_taught 58 = .ok (.ishl, 1) := by decide +kernel
theorem dL_taught_59 : decode cL_taught 59 = .ok (.iload 5, 2) := by decide +kernel
theorem dL_taught_61 : decode cL_taught 61 = .ok (.aload_n 1, 1) := by decide +kernel
theorem dL_taught_62 : decode cL_taught 62 = .ok (.invokevirtual 9, 3) := by decide +kernel
theorem dL_taught_65 : decode cL_taught 65 = .ok (.if_icmp .ge 12, 3) := by decide +kernel
theorem dL_taught_68 : decode cL_taught 68 = .ok (.aload_n 1, 1) := by decide +kernel
theorem dL_taught_69 : decode cL_taught 69 = .ok (.iload 5, 2) := by decide +kernel
theorem dL_taught_71 : decode cL_taught 71 = .ok (.invokevirtual 15, 3) := by decide +kernel
theorem dL_taught_74 : decode cL_taught 74 = .ok (.goto 5, 3) := by decide +kernel
theorem dL_taught_77 : decode cL_taught 77 = .ok (.bipush 32, 2) := by decide +kernel
theorem dL_taught_79 : decode cL_taught 79 = .ok (.ior, 1) := by decide +kernel
theorem dL_taught_80 : decode cL_taught 80 = .ok (.iastore, 1) := by decide +kernel
theorem dL_taught_81 : decode cL_taught 81 = .ok (.iinc 5 1, 3) := by decide +kernel
theorem dL_taught_84 : decode cL_taught 84 = .ok (.goto (-48), 3) := by decide +kernel
theorem dL_taught_87 : decode cL_taught 87 = .ok (.iinc 4 1, 3) := by decide +kernel
theorem dL_taught_90 : decode cL_taught 90 = .ok (.goto (-73), 3) := by decide +kernel
theorem dL_taught_93 : decode cL_taught 93 = .ok (.aload_n 0, 1) := by decide +kernel
theorem dL_taught_94 : decode cL_taught 94 = .ok (.aload_n 2, 1) := by decide +kernel
theorem dL_taught_95 : decode cL_taught 95 = .ok (.iconst 0, 1) := by decide +kernel
theorem dL_taught_96 : decode cL_taught 96 = .ok (.iaload, 1) := by decide +kernel
theorem dL_taught_97 : decode cL_taught 97 = .ok (.aload_n 2, 1) := by decide +kernel
theorem dL_taught_98 : decode cL_taught 98 = .ok (.iconst 1, 1) := by decide +kernel
theorem dL_taught_99 : decode cL_taught 99 = .ok (.iaload, 1) := by decide +kernel
theorem dL_taught_100 : decode cL_taught 100 = .ok (.aload_n 2, 1) := by decide +kernel
theorem dL_taught_101 : decode cL_taught 101 = .ok (.iconst 2, 1) := by decide +kernel
theorem dL_taught_102 : decode cL_taught 102 = .ok (.iaload, 1) := by decide +kernel
theorem dL_taught_103 : decode cL_taught 103 = .ok (.aload_n 2, 1) := by decide +kernel
theorem dL_taught_104 : decode cL_taught 104 = .ok (.iconst 3, 1) := by decide +kernel
theorem dL_taught_105 : decode cL_taught 105 = .ok (.iaload, 1) := by decide +kernel
theorem dL_taught_106 : decode cL_taught 106 = .ok (.aload_n 2, 1) := by decide +kernel
theorem dL_taught_107 : decode cL_taught 107 = .ok (.iconst 4, 1) := by decide +kernel
theorem dL_taught_108 : decode cL_taught 108 = .ok (.iaload, 1) := by decide +kernel
theorem dL_taught_109 : decode cL_taught 109 = .ok (.invokevirtual 19, 3) := by decide +kernel
theorem dL_taught_112 : decode cL_taught 112 = .ok (.pop, 1) := by decide +kernel
theorem dL_taught_113 : decode cL_taught 113 = .ok (.iinc 3 20, 3) := by decide +kernel
theorem dL_taught_116 : decode cL_taught 116 = .ok (.goto (-110), 3) := by decide +kernel
theorem dL_taught_119 : decode cL_taught 119 = .ok (.aload_n 0, 1) := by decide +kernel
theorem dL_taught_120 : decode cL_taught 120 = .ok (.aload_n 1, 1) := by decide +kernel
theorem dL_taught_121 : decode cL_taught 121 = .ok (.invokevirtual 9, 3) := by decide +kernel
theorem dL_taught_124 : decode cL_taught 124 = .ok (.invokevirtual 25, 3) := by decide +kernel
theorem dL_taught_127 : decode cL_taught 127 = .ok (.pop, 1) := by decide +kernel
theorem dL_taught_128 : decode cL_taught 128 = .ok (.aload_n 0, 1) := by decide +kernel
theorem dL_taught_129 : decode cL_taught 129 = .ok (.invokevirtual 29, 3) := by decide +kernel
theorem dL_taught_132 : decode cL_taught 132 = .ok (.ireturn, 1) := by decide +kernel
theorem dL_drawn_0 : decode cL_drawn 0 = .ok (.new 32, 3) := by decide +kernel
theorem dL_drawn_3 : decode cL_drawn 3 = .ok (.dup, 1) := by decide +kernel
theorem dL_drawn_4 : decode cL_drawn 4 = .ok (.invokespecial 34, 3) := by decide +kernel
theorem dL_drawn_7 : decode cL_drawn 7 = .ok (.astore 4, 2) := by decide +kernel
theorem dL_drawn_9 : decode cL_drawn 9 = .ok (.aload_n 0, 1) := by decide +kernel
theorem dL_drawn_10 : decode cL_drawn 10 = .ok (.iconst 3, 1) := by decide +kernel
theorem dL_drawn_11 : decode cL_drawn 11 = .ok (.invokevirtual 35, 3) := by decide +kernel
theorem dL_drawn_14 : decode cL_drawn 14 = .ok (.ifCond .le 60, 3) := by decide +kernel
theorem dL_drawn_17 : decode cL_drawn 17 = .ok (.aload 4, 2) := by decide +kernel
theorem dL_drawn_19 : decode cL_drawn 19 = .ok (.iconst 3, 1) := by decide +kernel
theorem dL_drawn_20 : decode cL_drawn 20 = .ok (.aload_n 0, 1) := by decide +kernel
theorem dL_drawn_21 : decode cL_drawn 21 = .ok (.iconst 4, 1) := by decide +kernel
theorem dL_drawn_22 : decode cL_drawn 22 = .ok (.invokevirtual 35, 3) := by decide +kernel
theorem dL_drawn_25 : decode cL_drawn 25 = .ok (.iadd, 1) := by decide +kernel
theorem dL_drawn_26 : decode cL_drawn 26 = .ok (.putfield 40, 3) := by decide +kernel
theorem dL_drawn_29 : decode cL_drawn 29 = .ok (.aload 4, 2) := by decide +kernel
theorem dL_drawn_31 : decode cL_drawn 31 = .ok (.iconst 3, 1) := by decide +kernel
theorem dL_drawn_32 : decode cL_drawn 32 = .ok (.aload_n 0, 1) := by decide +kernel
theorem dL_drawn_33 : decode cL_drawn 33 = .ok (.iconst 3, 1) := by decide +kernel
theorem dL_drawn_34 : decode cL_drawn 34 = .ok (.invokevirtual 35, 3) := by decide +kernel
theorem dL_drawn_37 : decode cL_drawn 37 = .ok (.iadd, 1) := by decide +kernel
theorem dL_drawn_38 : decode cL_drawn 38 = .ok (.putfield 44, 3) := by decide +kernel
theorem dL_drawn_41 : decode cL_drawn 41 = .ok (.aload_n 1, 1) := by decide +kernel
theorem dL_drawn_42 : decode cL_drawn 42 = .ok (.ldc 47, 2) := by decide +kernel
theorem dL_drawn_44 : decode cL_drawn 44 = .ok (.invokevirtual 49, 3) := by decide +kernel
theorem dL_drawn_47 : decode cL_drawn 47 = .ok (.aload 4, 2) := by decide +kernel
theorem dL_drawn_49 : decode cL_drawn 49 = .ok (.getfield 40, 3) := by decide +kernel
theorem dL_drawn_52 : decode cL_drawn 52 = .ok (.invokevirtual 55, 3) := by decide +kernel
theorem dL_drawn_55 : decode cL_drawn 55 = .ok (.ldc 58, 2) := by decide +kernel
theorem dL_drawn_57 : decode cL_drawn 57 = .ok (.invokevirtual 49, 3) := by decide +kernel
theorem dL_drawn_60 : decode cL_drawn 60 = .ok (.aload 4, 2) := by decide +kernel
theorem dL_drawn_62 : decode cL_drawn 62 = .ok (.getfield 44, 3) := by decide +kernel
theorem dL_drawn_65 : decode cL_drawn 65 = .ok (.invokevirtual 55, 3) := by decide +kernel
theorem dL_drawn_68 : decode cL_drawn 68 = .ok (.ldc 60, 2) := by decide +kernel
theorem dL_drawn_70 : decode cL_drawn 70 = .ok (.invokevirtual 49, 3) := by decide +kernel
theorem dL_drawn_73 : decode cL_drawn 73 = .ok (.pop, 1) := by decide +kernel
theorem dL_drawn_74 : decode cL_drawn 74 = .ok (.iload_n 2, 1) := by decide +kernel
theorem dL_drawn_75 : decode cL_drawn 75 = .ok (.aload_n 0, 1) := by decide +kernel
theorem dL_drawn_76 : decode cL_drawn 76 = .ok (.bipush 13, 2) := by decide +kernel
theorem dL_drawn_78 : decode cL_drawn 78 = .ok (.iload_n 2, 1) := by decide +kernel
theorem dL_drawn_79 : decode cL_drawn 79 = .ok (.isub, 1) := by decide +kernel
theorem dL_drawn_80 : decode cL_drawn 80 = .ok (.invokevirtual 35, 3) := by decide +kernel
theorem dL_drawn_83 : decode cL_drawn 83 = .ok (.iadd, 1) := by decide +kernel
theorem dL_drawn_84 : decode cL_drawn 84 = .ok (.istore 5, 2) := by decide +kernel
theorem dL_drawn_86 : decode cL_drawn 86 = .ok (.iconst 1, 1) := by decide +kernel
theorem dL_drawn_87 : decode cL_drawn 87 = .ok (.aload_n 0, 1) := by decide +kernel
theorem dL_drawn_88 : decode cL_drawn 88 = .ok (.iconst 3, 1) := by decide +kernel
theorem dL_drawn_89 : decode cL_drawn 89 = .ok (.invokevirtual 35, 3) := by decide +kernel
theorem dL_drawn_92 : decode cL_drawn 92 = .ok (.iadd, 1) := by decide +kernel
theorem dL_drawn_93 : decode cL_drawn 93 = .ok (.istore 6, 2) := by decide +kernel
theorem dL_drawn_95 : decode cL_drawn 95 = .ok (.aload 4, 2) := by decide +kernel
theorem dL_drawn_97 : decode cL_drawn 97 = .ok (.iload 5, 2) := by decide +kernel
theorem dL_drawn_99 : decode cL_drawn 99 = .ok (.anewarray 62, 3) := by decide +kernel
theorem dL_drawn_102 : decode cL_drawn 102 = .ok (.putfield 64, 3) := by decide +kernel
theorem dL_drawn_105 : decode cL_drawn 105 = .ok (.iconst 0, 1) := by decide +kernel
theorem dL_drawn_106 : decode cL_drawn 106 = .ok (.istore 7, 2) := by decide +kernel
theorem dL_drawn_108 : decode cL_drawn 108 = .ok (.iload 7, 2) := by decide +kernel
theorem dL_drawn_110 : decode cL_drawn 110 = .ok (.iload 5, 2) := by decide +kernel
theorem dL_drawn_112 : decode cL_drawn 112 = .ok (.if_icmp .ge 142, 3) := by decide +kernel
theorem dL_drawn_115 : decode cL_drawn 115 = .ok (.aload 4, 2) := by decide +kernel
theorem dL_drawn_117 : decode cL_drawn 117 = .ok (.getfield 64, 3) := by decide +kernel
theorem dL_drawn_120 : decode cL_drawn 120 = .ok (.iload 7, 2) := by decide +kernel
theorem dL_drawn_122 : decode cL_drawn 122 = .ok (.iconst 5, 1) := by decide +kernel
theorem dL_drawn_123 : decode cL_drawn 123 = .ok (.newarray .int, 2) := by decide +kernel
theorem dL_drawn_125 : decode cL_drawn 125 = .ok (.dup, 1) := by decide +kernel
theorem dL_drawn_126 : decode cL_drawn 126 = .ok (.iconst 0, 1) := by decide +kernel
theorem dL_drawn_127 : decode cL_drawn 127 = .ok (.aload_n 0, 1) := by decide +kernel
theorem dL_drawn_128 : decode cL_drawn 128 = .ok (.iload 6, 2) := by decide +kernel
theorem dL_drawn_130 : decode cL_drawn 130 = .ok (.invokevirtual 35, 3) := by decide +kernel
theorem dL_drawn_133 : decode cL_drawn 133 = .ok (.aload_n 0, 1) := by decide +kernel
theorem dL_drawn_134 : decode cL_drawn 134 = .ok (.bipush 9, 2) := by decide +kernel
theorem dL_drawn_136 : decode cL_drawn 136 = .ok (.invokevirtual 35, 3) := by decide +kernel
theorem dL_drawn_139 : decode cL_drawn 139 = .ok (.ifCond .ne 8, 3) := by decide +kernel
theorem dL_drawn_142 : decode cL_drawn 142 = .ok (.bipush 7, 2) := by decide +kernel
theorem dL_drawn_144 : decode cL_drawn 144 = .ok (.goto 4, 3) := by decide +kernel
theorem dL_drawn_147 : decode cL_drawn 147 = .ok (.iconst 0, 1) := by decide +kernel
theorem dL_drawn_148 : decode cL_drawn 148 = .ok (.iadd, 1) := by decide +kernel
theorem dL_drawn_149 : decode cL_drawn 149 = .ok (.iastore, 1) := by decide +kernel
theorem dL_drawn_150 : decode cL_drawn 150 = .ok (.dup, 1) := by decide +kernel
theorem dL_drawn_151 : decode cL_drawn 151 = .ok (.iconst 1, 1) := by decide +kernel
theorem dL_drawn_152 : decode cL_drawn 152 = .ok (.aload_n 0, 1) := by decide +kernel
theorem dL_drawn_153 : decode cL_drawn 153 = .ok (.iload 6, 2) := by decide +kernel
theorem dL_drawn_155 : decode cL_drawn 155 = .ok (.invokevirtual 35, 3) := by decide +kernel
theorem dL_drawn_158 : decode cL_drawn 158 = .ok (.iastore, 1) := by decide +kernel
theorem dL_drawn_159 : decode cL_drawn 159 = .ok (.dup, 1) := by decide +kernel
theorem dL_drawn_160 : decode cL_drawn 160 = .ok (.iconst 2, 1) := by decide +kernel
theorem dL_drawn_161 : decode cL_drawn 161 = .ok (.aload_n 0, 1) := by decide +kernel
theorem dL_drawn_162 : decode cL_drawn 162 = .ok (.iload 6, 2) := by decide +kernel
theorem dL_drawn_164 : decode cL_drawn 164 = .ok (.invokevirtual 35, 3) := by decide +kernel
theorem dL_drawn_167 : decode cL_drawn 167 = .ok (.iastore, 1) := by decide +kernel
theorem dL_drawn_168 : decode cL_drawn 168 = .ok (.dup, 1) := by decide +kernel
theorem dL_drawn_169 : decode cL_drawn 169 = .ok (.iconst 3, 1) := by decide +kernel
theorem dL_drawn_170 : decode cL_drawn 170 = .ok (.iconst (-1), 1) := by decide +kernel
theorem dL_drawn_171 : decode cL_drawn 171 = .ok (.iastore, 1) := by decide +kernel
theorem dL_drawn_172 : decode cL_drawn 172 = .ok (.dup, 1) := by decide +kernel
theorem dL_drawn_173 : decode cL_drawn 173 = .ok (.iconst 4, 1) := by decide +kernel
theorem dL_drawn_174 : decode cL_drawn 174 = .ok (.iconst 0, 1) := by decide +kernel
theorem dL_drawn_175 : decode cL_drawn 175 = .ok (.iastore, 1) := by decide +kernel
theorem dL_drawn_176 : decode cL_drawn 176 = .ok (.aastore, 1) := by decide +kernel
theorem dL_drawn_177 : decode cL_drawn 177 = .ok (.aload_n 1, 1) := by decide +kernel
theorem dL_drawn_178 : decode cL_drawn 178 = .ok (.ldc 68, 2) := by decide +kernel
theorem dL_drawn_180 : decode cL_drawn 180 = .ok (.invokevirtual 49, 3) := by decide +kernel
theorem dL_drawn_183 : decode cL_drawn 183 = .ok (.iload 7, 2) := by decide +kernel
theorem dL_drawn_185 : decode cL_drawn 185 = .ok (.invokevirtual 55, 3) := by decide +kernel
theorem dL_drawn_188 : decode cL_drawn 188 = .ok (.ldc 70, 2) := by decide +kernel
theorem dL_drawn_190 : decode cL_drawn 190 = .ok (.invokevirtual 49, 3) := by decide +kernel
theorem dL_drawn_193 : decode cL_drawn 193 = .ok (.aload 4, 2) := by decide +kernel
theorem dL_drawn_195 : decode cL_drawn 195 = .ok (.getfield 64, 3) := by decide +kernel
theorem dL_drawn_198 : decode cL_drawn 198 = .ok (.iload 7, 2) := by decide +kernel
theorem dL_drawn_200 : decode cL_drawn 200 = .ok (.aaload, 1) := by decide +kernel
theorem dL_drawn_201 : decode cL_drawn 201 = .ok (.iconst 0, 1) := by decide +kernel
theorem dL_drawn_202 : decode cL_drawn 202 = .ok (.iaload, 1) := by decide +kernel
theorem dL_drawn_203 : decode cL_drawn 203 = .ok (.invokevirtual 55, 3) := by decide +kernel
theorem dL_drawn_206 : decode cL_drawn 206 = .ok (.ldc 70, 2) := by decide +kernel
theorem dL_drawn_208 : decode cL_drawn 208 = .ok (.invokevirtual 49, 3) := by decide +kernel
theorem dL_drawn_211 : decode cL_drawn 211 = .ok (.aload 4, 2) := by decide +kernel
theorem dL_drawn_213 : decode cL_drawn 213 = .ok (.getfield 64, 3) := by decide +kernel
theorem dL_drawn_216 : decode cL_drawn 216 = .ok (.iload 7, 2) := by decide +kernel
theorem dL_drawn_218 : decode cL_drawn 218 = .ok (.aaload, 1) := by decide +kernel
theorem dL_drawn_219 : decode cL_drawn 219 = .ok (.iconst 1, 1) := by decide +kernel
theorem dL_drawn_220 : decode cL_drawn 220 = .ok (.iaload, 1) := by decide +kernel
theorem dL_drawn_221 : decode cL_drawn 221 = .ok (.invokevirtual 55, 3) := by decide +kernel
theorem dL_drawn_224 : decode cL_drawn 224 = .ok (.ldc 70, 2) := by decide +kernel
theorem dL_drawn_226 : decode cL_drawn 226 = .ok (.invokevirtual 49, 3) := by decide +kernel
theorem dL_drawn_229 : decode cL_drawn 229 = .ok (.aload 4, 2) := by decide +kernel
theorem dL_drawn_231 : decode cL_drawn 231 = .ok (.getfield 64, 3) := by decide +kernel
theorem dL_drawn_234 : decode cL_drawn 234 = .ok (.iload 7, 2) := by decide +kernel
theorem dL_drawn_236 : decode cL_drawn 236 = .ok (.aaload, 1) := by decide +kernel
theorem dL_drawn_237 : decode cL_drawn 237 = .ok (.iconst 2, 1) := by decide +kernel
theorem dL_drawn_238 : decode cL_drawn 238 = .ok (.iaload, 1) := by decide +kernel
theorem dL_drawn_239 : decode cL_drawn 239 = .ok (.invokevirtual 55, 3) := by decide +kernel
theorem dL_drawn_242 : decode cL_drawn 242 = .ok (.ldc 72, 2) := by decide +kernel
theorem dL_drawn_244 : decode cL_drawn 244 = .ok (.invokevirtual 49, 3) := by decide +kernel
theorem dL_drawn_247 : decode cL_drawn 247 = .ok (.pop, 1) := by decide +kernel
theorem dL_drawn_248 : decode cL_drawn 248 = .ok (.iinc 7 1, 3) := by decide +kernel
theorem dL_drawn_251 : decode cL_drawn 251 = .ok (.goto (-143), 3) := by decide +kernel
theorem dL_drawn_254 : decode cL_drawn 254 = .ok (.iload 5, 2) := by decide +kernel
theorem dL_drawn_256 : decode cL_drawn 256 = .ok (.ifCond .ne 7, 3) := by decide +kernel
theorem dL_drawn_259 : decode cL_drawn 259 = .ok (.iconst 0, 1) := by decide +kernel
theorem dL_drawn_260 : decode cL_drawn 260 = .ok (.goto 10, 3) := by decide +kernel
theorem dL_drawn_263 : decode cL_drawn 263 = .ok (.aload_n 0, 1) := by decide +kernel
theorem dL_drawn_264 : decode cL_drawn 264 = .ok (.iload_n 3, 1) := by decide +kernel
theorem dL_drawn_265 : decode cL_drawn 265 = .ok (.iconst 1, 1) := by decide +kernel
theorem dL_drawn_266 : decode cL_drawn 266 = .ok (.iadd, 1) := by decide +kernel
theorem dL_drawn_267 : decode cL_drawn 267 = .ok (.invokevirtual 35, 3) := by decide +kernel
theorem dL_drawn_270 : decode cL_drawn 270 = .ok (.istore 7, 2) := by decide +kernel
theorem dL_drawn_272 : decode cL_drawn 272 = .ok (.aload 4, 2) := by decide +kernel
theorem dL_drawn_274 : decode cL_drawn 274 = .ok (.iload 7, 2) := by decide +kernel
theorem dL_drawn_276 : decode cL_drawn 276 = .ok (.anewarray 74, 3) := by decide +kernel
theorem dL_drawn_279 : decode cL_drawn 279 = .ok (.putfield 76, 3) := by decide +kernel
theorem dL_drawn_282 : decode cL_drawn 282 = .ok (.iconst 0, 1) := by decide +kernel
theorem dL_drawn_283 : decode cL_drawn 283 = .ok (.istore 8, 2) := by decide +kernel
theorem dL_drawn_285 : decode cL_drawn 285 = .ok (.iload 8, 2) := by decide +kernel
theorem dL_drawn_287 : decode cL_drawn 287 = .ok (.iload 7, 2) := by decide +kernel
theorem dL_drawn_289 : decode cL_drawn 289 = .ok (.if_icmp .ge 43, 3) := by decide +kernel
theorem dL_drawn_292 : decode cL_drawn 292 = .ok (.aload 4, 2) := by decide +kernel
theorem dL_drawn_294 : decode cL_drawn 294 = .ok (.getfield 76, 3) := by decide +kernel
theorem dL_drawn_297 : decode cL_drawn 297 = .ok (.iload 8, 2) := by decide +kernel
theorem dL_drawn_299 : decode cL_drawn 299 = .ok (.new 74, 3) := by decide +kernel
theorem dL_drawn_302 : decode cL_drawn 302 = .ok (.dup, 1) := by decide +kernel
theorem dL_drawn_303 : decode cL_drawn 303 = .ok (.aload_n 0, 1) := by decide +kernel
theorem dL_drawn_304 : decode cL_drawn 304 = .ok (.iload 5, 2) := by decide +kernel
theorem dL_drawn_306 : decode cL_drawn 306 = .ok (.invokespecial 80, 3) := by decide +kernel
theorem dL_drawn_309 : decode cL_drawn 309 = .ok (.aastore, 1) := by decide +kernel
theorem dL_drawn_310 : decode cL_drawn 310 = .ok (.aload_n 1, 1) := by decide +kernel
theorem dL_drawn_311 : decode cL_drawn 311 = .ok (.aload 4, 2) := by decide +kernel
theorem dL_drawn_313 : decode cL_drawn 313 = .ok (.getfield 76, 3) := by decide +kernel
theorem dL_drawn_316 : decode cL_drawn 316 = .ok (.iload 8, 2) := by decide +kernel
theorem dL_drawn_318 : decode cL_drawn 318 = .ok (.aaload, 1) := by decide +kernel
theorem dL_drawn_319 : decode cL_drawn 319 = .ok (.invokevirtual 83, 3) := by decide +kernel
theorem dL_drawn_322 : decode cL_drawn 322 = .ok (.invokevirtual 49, 3) := by decide +kernel
theorem dL_drawn_325 : decode cL_drawn 325 = .ok (.pop, 1) := by decide +kernel
theorem dL_drawn_326 : decode cL_drawn 326 = .ok (.iinc 8 1, 3) := by decide +kernel
theorem dL_drawn_329 : decode cL_drawn 329 = .ok (.goto (-44), 3) := by decide +kernel
theorem dL_drawn_332 : decode cL_drawn 332 = .ok (.aload 4, 2) := by decide +kernel
theorem dL_drawn_334 : decode cL_drawn 334 = .ok (.areturn, 1) := by decide +kernel
theorem dL_act_0 : decode cL_act 0 = .ok (.aload_n 1, 1) := by decide +kernel
theorem dL_act_1 : decode cL_act 1 = .ok (.getfield 64, 3) := by decide +kernel
theorem dL_act_4 : decode cL_act 4 = .ok (.arraylength, 1) := by decide +kernel
theorem dL_act_5 : decode cL_act 5 = .ok (.istore_n 3, 1) := by decide +kernel
theorem dL_act_6 : decode cL_act 6 = .ok (.aload_n 2, 1) := by decide +kernel
theorem dL_act_7 : decode cL_act 7 = .ok (.bipush 10, 2) := by decide +kernel
theorem dL_act_9 : decode cL_act 9 = .ok (.invokevirtual 35, 3) := by decide +kernel
theorem dL_act_12 : decode cL_act 12 = .ok (.istore 4, 2) := by decide +kernel
theorem dL_act_14 : decode cL_act 14 = .ok (.iload_n 3, 1) := by decide +kernel
theorem dL_act_15 : decode cL_act 15 = .ok (.ifCond .eq 10, 3) := by decide +kernel
theorem dL_act_18 : decode cL_act 18 = .ok (.iload 4, 2) := by decide +kernel
theorem dL_act_20 : decode cL_act 20 = .ok (.bipush 8, 2) := by decide +kernel
theorem dL_act_22 : decode cL_act 22 = .ok (.if_icmp .le 46, 3) := by decide +kernel
theorem dL_act_25 : decode cL_act 25 = .ok (.iconst 1, 1) := by decide +kernel
theorem dL_act_26 : decode cL_act 26 = .ok (.aload_n 2, 1) := by decide +kernel
theorem dL_act_27 : decode cL_act 27 = .ok (.aload_n 2, 1) := by decide +kernel
theorem dL_act_28 : decode cL_act 28 = .ok (.iconst 3, 1) := by decide +kernel
theorem dL_act_29 : decode cL_act 29 = .ok (.invokevirtual 35, 3) := by decide +kernel
theorem dL_act_32 : decode cL_act 32 = .ok (.ifCond .ne 8, 3) := by decide +kernel
theorem dL_act_35 : decode cL_act 35 = .ok (.bipush 6, 2) := by decide +kernel
theorem dL_act_37 : decode cL_act 37 = .ok (.goto 4, 3) := by decide +kernel
theorem dL_act_40 : decode cL_act 40 = .ok (.iconst 2, 1) := by decide +kernel
theorem dL_act_41 : decode cL_act 41 = .ok (.invokevirtual 35, 3) := by decide +kernel
theorem dL_act_44 : decode cL_act 44 = .ok (.iadd, 1) := by decide +kernel
theorem dL_act_45 : decode cL_act 45 = .ok (.istore 5, 2) := by decide +kernel
theorem dL_act_47 : decode cL_act 47 = .ok (.aload_n 0, 1) := by decide +kernel
theorem dL_act_48 : decode cL_act 48 = .ok (.iload 5, 2) := by decide +kernel
theorem dL_act_50 : decode cL_act 50 = .ok (.invokevirtual 87, 3) := by decide +kernel
theorem dL_act_53 : decode cL_act 53 = .ok (.aload_n 1, 1) := by decide +kernel
theorem dL_act_54 : decode cL_act 54 = .ok (.iload 5, 2) := by decide +kernel
theorem dL_act_56 : decode cL_act 56 = .ok (.invokevirtual 90, 3) := by decide +kernel
theorem dL_act_59 : decode cL_act 59 = .ok (.if_icmp .ne 7, 3) := by decide +kernel
theorem dL_act_62 : decode cL_act 62 = .ok (.iconst 1, 1) := by decide +kernel
theorem dL_act_63 : decode cL_act 63 = .ok (.goto 4, 3) := by decide +kernel
theorem dL_act_66 : decode cL_act 66 = .ok (.iconst 0, 1) := by decide +kernel
theorem dL_act_67 : decode cL_act 67 = .ok (.ireturn, 1) := by decide +kernel
theorem dL_act_68 : decode cL_act 68 = .ok (.aload_n 2, 1) := by decide +kernel
theorem dL_act_69 : decode cL_act 69 = .ok (.iload_n 3, 1) := by decide +kernel
theorem dL_act_70 : decode cL_act 70 = .ok (.invokevirtual 35, 3) := by decide +kernel
theorem dL_act_73 : decode cL_act 73 = .ok (.istore 5, 2) := by decide +kernel
theorem dL_act_75 : decode cL_act 75 = .ok (.aload_n 1, 1) := by decide +kernel
theorem dL_act_76 : decode cL_act 76 = .ok (.invokevirtual 93, 3) := by decide +kernel
theorem dL_act_79 : decode cL_act 79 = .ok (.iconst 3, 1) := by decide +kernel
theorem dL_act_80 : decode cL_act 80 = .ok (.iaload, 1) := by decide +kernel
theorem dL_act_81 : decode cL_act 81 = .ok (.istore 6, 2) := by decide +kernel
theorem dL_act_83 : decode cL_act 83 = .ok (.bipush (-9), 2) := by decide +kernel
theorem dL_act_85 : decode cL_act 85 = .ok (.istore 8, 2) := by decide +kernel
theorem dL_act_87 : decode cL_act 87 = .ok (.iload 4, 2) := by decide +kernel
theorem dL_act_89 : decode cL_act 89 = .ok (.iconst 5, 1) := by decide +kernel
theorem dL_act_90 : decode cL_act 90 = .ok (.if_icmp .ge 39, 3) := by decide +kernel
theorem dL_act_93 : decode cL_act 93 = .ok (.aload_n 1, 1) := by decide +kernel
theorem dL_act_94 : decode cL_act 94 = .ok (.iload 5, 2) := by decide +kernel
theorem dL_act_96 : decode cL_act 96 = .ok (.invokevirtual 97, 3) := by decide +kernel
theorem dL_act_99 : decode cL_act 99 = .ok (.ifCond .eq 15, 3) := by decide +kernel
theorem dL_act_102 : decode cL_act 102 = .ok (.aload_n 1, 1) := by decide +kernel
theorem dL_act_103 : decode cL_act 103 = .ok (.getfield 64, 3) := by decide +kernel
theorem dL_act_106 : decode cL_act 106 = .ok (.iload 5, 2) := by decide +kernel
theorem dL_act_108 : decode cL_act 108 = .ok (.aaload, 1) := by decide +kernel
theorem dL_act_109 : decode cL_act 109 = .ok (.iconst 3, 1) := by decide +kernel
theorem dL_act_110 : decode cL_act 110 = .ok (.iaload, 1) := by decide +kernel
theorem dL_act_111 : decode cL_act 111 = .ok (.goto 5, 3) := by decide +kernel
theorem dL_act_114 : decode cL_act 114 = .ok (.bipush (-9), 2) := by decide +kernel
theorem dL_act_116 : decode cL_act 116 = .ok (.istore 8, 2) := by decide +kernel
theorem dL_act_118 : decode cL_act 118 = .ok (.aload_n 0, 1) := by decide +kernel
theorem dL_act_119 : decode cL_act 119 = .ok (.iload 5, 2) := by decide +kernel
theorem dL_act_121 : decode cL_act 121 = .ok (.invokevirtual 101, 3) := by decide +kernel
theorem dL_act_124 : decode cL_act 124 = .ok (.istore 7, 2) := by decide +kernel
theorem dL_act_126 : decode cL_act 126 = .ok (.goto 168, 3) := by decide +kernel
theorem dL_act_129 : decode cL_act 129 = .ok (.iload 4, 2) := by decide +kernel
theorem dL_act_131 : decode cL_act 131 = .ok (.bipush 8, 2) := by decide +kernel
theorem dL_act_133 : decode cL_act 133 = .ok (.if_icmp .ge 103, 3) := by decide +kernel
theorem dL_act_136 : decode cL_act 136 = .ok (.aload_n 1, 1) := by decide +kernel
theorem dL_act_137 : decode cL_act 137 = .ok (.invokevirtual 104, 3) := by decide +kernel
theorem dL_act_140 : decode cL_act 140 = .ok (.astore 9, 2) := by decide +kernel
theorem dL_act_142 : decode cL_act 142 = .ok (.aload_n 2, 1) := by decide +kernel
theorem dL_act_143 : decode cL_act 143 = .ok (.aload 9, 2) := by decide +kernel
theorem dL_act_145 : decode cL_act 145 = .ok (.arraylength, 1) := by decide +kernel
theorem dL_act_146 : decode cL_act 146 = .ok (.invokevirtual 35, 3) := by decide +kernel
theorem dL_act_149 : decode cL_act 149 = .ok (.istore 10, 2) := by decide +kernel
theorem dL_act_151 : decode cL_act 151 = .ok (.aload_n 2, 1) := by decide +kernel
theorem dL_act_152 : decode cL_act 152 = .ok (.bipush 6, 2) := by decide +kernel
theorem dL_act_154 : decode cL_act 154 = .ok (.invokevirtual 35, 3) := by decide +kernel
theorem dL_act_157 : decode cL_act 157 = .ok (.istore 11, 2) := by decide +kernel
theorem dL_act_159 : decode cL_act 159 = .ok (.aload_n 1, 1) := by decide +kernel
theorem dL_act_160 : decode cL_act 160 = .ok (.aload 9, 2) := by decide +kernel
theorem dL_act_162 : decode cL_act 162 = .ok (.iload 5, 2) := by decide +kernel
theorem dL_act_164 : decode cL_act 164 = .ok (.iload 10, 2) := by decide +kernel
theorem dL_act_166 : decode cL_act 166 = .ok (.iload 11, 2) := by decide +kernel
theorem dL_act_168 : decode cL_act 168 = .ok (.invokevirtual 107, 3) := by decide +kernel
theorem dL_act_171 : decode cL_act 171 = .ok (.istore 12, 2) := by decide +kernel
theorem dL_act_173 : decode cL_act 173 = .ok (.iload 12, 2) := by decide +kernel
theorem dL_act_175 : decode cL_act 175 = .ok (.ifCond .eq 25, 3) := by decide +kernel
theorem dL_act_178 : decode cL_act 178 = .ok (.aload_n 1, 1) := by decide +kernel
theorem dL_act_179 : decode cL_act 179 = .ok (.getfield 64, 3) := by decide +kernel
theorem dL_act_182 : decode cL_act 182 = .ok (.iload 5, 2) := by decide +kernel
theorem dL_act_184 : decode cL_act 184 = .ok (.aaload, 1) := by decide +kernel
theorem dL_act_185 : decode cL_act 185 = .ok (.iconst 3, 1) := by decide +kernel
theorem dL_act_186 : decode cL_act 186 = .ok (.iload 10, 2) := by decide +kernel
theorem dL_act_188 : decode cL_act 188 = .ok (.iastore, 1) := by decide +kernel
theorem dL_act_189 : decode cL_act 189 = .ok (.aload_n 1, 1) := by decide +kernel
theorem dL_act_190 : decode cL_act 190 = .ok (.getfield 64, 3) := by decide +kernel
theorem dL_act_193 : decode cL_act 193 = .ok (.iload 5, 2) := by decide +kernel
theorem dL_act_195 : decode cL_act 195 = .ok (.aaload, 1) := by decide +kernel
theorem dL_act_196 : decode cL_act 196 = .ok (.iconst 4, 1) := by decide +kernel
theorem dL_act_197 : decode cL_act 197 = .ok (.iload 11, 2) := by decide +kernel
theorem dL_act_199 : decode cL_act 199 = .ok (.iastore, 1) := by decide +kernel
theorem dL_act_200 : decode cL_act 200 = .ok (.iload 12, 2) := by decide +kernel
theorem dL_act_202 : decode cL_act 202 = .ok (.ifCond .eq 15, 3) := by decide +kernel
theorem dL_act_205 : decode cL_act 205 = .ok (.aload_n 1, 1) := by decide +kernel
theorem dL_act_206 : decode cL_act 206 = .ok (.invokevirtual 93, 3) := by decide +kernel
theorem dL_act_209 : decode cL_act 209 = .ok (.iconst 3, 1) := by decide +kernel
theorem dL_act_210 : decode cL_act 210 = .ok (.iaload, 1) := by decide +kernel
theorem dL_act_211 : decode cL_act 211 = .ok (.iload 6, 2) := by decide +kernel
theorem dL_act_213 : decode cL_act 213 = .ok (.isub, 1) := by decide +kernel
theorem dL_act_214 : decode cL_act 214 = .ok (.goto 5, 3) := by decide +kernel
theorem dL_act_217 : decode cL_act 217 = .ok (.bipush (-9), 2) := by decide +kernel
theorem dL_act_219 : decode cL_act 219 = .ok (.istore 8, 2) := by decide +kernel
theorem dL_act_221 : decode cL_act 221 = .ok (.aload_n 0, 1) := by decide +kernel
theorem dL_act_222 : decode cL_act 222 = .ok (.iload 5, 2) := by decide +kernel
theorem dL_act_224 : decode cL_act 224 = .ok (.iload 10, 2) := by decide +kernel
theorem dL_act_226 : decode cL_act 226 = .ok (.iload 11, 2) := by decide +kernel
theorem dL_act_228 : decode cL_act 228 = .ok (.invokevirtual 111, 3) := by decide +kernel
theorem dL_act_231 : decode cL_act 231 = .ok (.istore 7, 2) := by decide +kernel
theorem dL_act_233 : decode cL_act 233 = .ok (.goto 61, 3) := by decide +kernel
theorem dL_act_236 : decode cL_act 236 = .ok (.aload_n 1, 1) := by decide +kernel
theorem dL_act_237 : decode cL_act 237 = .ok (.getfield 64, 3) := by decide +kernel
theorem dL_act_240 : decode cL_act 240 = .ok (.iload 5, 2) := by decide +kernel
theorem dL_act_242 : decode cL_act 242 = .ok (.aaload, 1) := by decide +kernel
theorem dL_act_243 : decode cL_act 243 = .ok (.iconst 3, 1) := by decide +kernel
theorem dL_act_244 : decode cL_act 244 = .ok (.iaload, 1) := by decide +kernel
theorem dL_act_245 : decode cL_act 245 = .ok (.ifCond .lt 7, 3) := by decide +kernel
theorem dL_act_248 : decode cL_act 248 = .ok (.iconst 1, 1) := by decide +kernel
theorem dL_act_249 : decode cL_act 249 = .ok (.goto 4, 3) := by decide +kernel
theorem dL_act_252 : decode cL_act 252 = .ok (.iconst 0, 1) := by decide +kernel
theorem dL_act_253 : decode cL_act 253 = .ok (.istore 9, 2) := by decide +kernel
theorem dL_act_255 : decode cL_act 255 = .ok (.aload_n 1, 1) := by decide +kernel
theorem dL_act_256 : decode cL_act 256 = .ok (.getfield 64, 3) := by decide +kernel
theorem dL_act_259 : decode cL_act 259 = .ok (.iload 5, 2) := by decide +kernel
theorem dL_act_261 : decode cL_act 261 = .ok (.aaload, 1) := by decide +kernel
theorem dL_act_262 : decode cL_act 262 = .ok (.iconst 3, 1) := by decide +kernel
theorem dL_act_263 : decode cL_act 263 = .ok (.iconst (-1), 1) := by decide +kernel
theorem dL_act_264 : decode cL_act 264 = .ok (.iastore, 1) := by decide +kernel
theorem dL_act_265 : decode cL_act 265 = .ok (.iload 9, 2) := by decide +kernel
theorem dL_act_267 : decode cL_act 267 = .ok (.ifCond .eq 15, 3) := by decide +kernel
theorem dL_act_270 : decode cL_act 270 = .ok (.iload 6, 2) := by decide +kernel
theorem dL_act_272 : decode cL_act 272 = .ok (.aload_n 1, 1) := by decide +kernel
theorem dL_act_273 : decode cL_act 273 = .ok (.invokevirtual 93, 3) := by decide +kernel
theorem dL_act_276 : decode cL_act 276 = .ok (.iconst 3, 1) := by decide +kernel
theorem dL_act_277 : decode cL_act 277 = .ok (.iaload, 1) := by decide +kernel
theorem dL_act_278 : decode cL_act 278 = .ok (.isub, 1) := by decide +kernel
theorem dL_act_279 : decode cL_act 279 = .ok (.goto 5, 3) := by decide +kernel
theorem dL_act_282 : decode cL_act 282 = .ok (.bipush (-9), 2) := by decide +kernel
theorem dL_act_284 : decode cL_act 284 = .ok (.istore 8, 2) := by decide +kernel
theorem dL_act_286 : decode cL_act 286 = .ok (.aload_n 0, 1) := by decide +kernel
theorem dL_act_287 : decode cL_act 287 = .ok (.iload 5, 2) := by decide +kernel
theorem dL_act_289 : decode cL_act 289 = .ok (.invokevirtual 115, 3) := by decide +kernel
theorem dL_act_292 : decode cL_act 292 = .ok (.istore 7, 2) := by decide +kernel
theorem dL_act_294 : decode cL_act 294 = .ok (.goto 18, 3) := by decide +kernel
theorem dL_act_297 : decode cL_act 297 = .ok (.astore 9, 2) := by decide +kernel
theorem dL_act_299 : decode cL_act 299 = .ok (.iload 8, 2) := by decide +kernel
theorem dL_act_301 : decode cL_act 301 = .ok (.bipush (-9), 2) := by decide +kernel
theorem dL_act_303 : decode cL_act 303 = .ok (.if_icmp .ne 7, 3) := by decide +kernel
theorem dL_act_306 : decode cL_act 306 = .ok (.iconst 1, 1) := by decide +kernel
theorem dL_act_307 : decode cL_act 307 = .ok (.goto 4, 3) := by decide +kernel
theorem dL_act_310 : decode cL_act 310 = .ok (.iconst 0, 1) := by decide +kernel
theorem dL_act_311 : decode cL_act 311 = .ok (.ireturn, 1) := by decide +kernel
theorem dL_act_312 : decode cL_act 312 = .ok (.iload 7, 2) := by decide +kernel
theorem dL_act_314 : decode cL_act 314 = .ok (.iload 8, 2) := by decide +kernel
theorem dL_act_316 : decode cL_act 316 = .ok (.if_icmp .ne 14, 3) := by decide +kernel
theorem dL_act_319 : decode cL_act 319 = .ok (.iload 8, 2) := by decide +kernel
theorem dL_act_321 : decode cL_act 321 = .ok (.bipush (-9), 2) := by decide +kernel
theorem dL_act_323 : decode cL_act 323 = .ok (.if_icmp .eq 7, 3) := by decide +kernel
theorem dL_act_326 : decode cL_act 326 = .ok (.iconst 1, 1) := by decide +kernel
theorem dL_act_327 : decode cL_act 327 = .ok (.goto 4, 3) := by decide +kernel
theorem dL_act_330 : decode cL_act 330 = .ok (.iconst 0, 1) := by decide +kernel
theorem dL_act_331 : decode cL_act 331 = .ok (.ireturn, 1) := by decide +kernel
theorem dL_law_0 : decode cL_law 0 = .ok (.new 20, 3) := by decide +kernel
theorem dL_law_3 : decode cL_law 3 = .ok (.dup, 1) := by decide +kernel
theorem dL_law_4 : decode cL_law 4 = .ok (.invokespecial 120, 3) := by decide +kernel
theorem dL_law_7 : decode cL_law 7 = .ok (.astore_n 1, 1) := by decide +kernel
theorem dL_law_8 : decode cL_law 8 = .ok (.iconst 0, 1) := by decide +kernel
theorem dL_law_9 : decode cL_law 9 = .ok (.istore_n 2, 1) := by decide +kernel
theorem dL_law_10 : decode cL_law 10 = .ok (.iload_n 2, 1) := by decide +kernel
theorem dL_law_11 : decode cL_law 11 = .ok (.iconst 2, 1) := by decide +kernel
theorem dL_law_12 : decode cL_law 12 = .ok (.if_icmp .ge 1125, 3) := by decide +kernel
theorem dL_law_15 : decode cL_law 15 = .ok (.new 36, 3) := by decide +kernel
theorem dL_law_18 : decode cL_law 18 = .ok (.dup, 1) := by decide +kernel
theorem dL_law_19 : decode cL_law 19 = .ok (.aload_n 0, 1) := by decide +kernel
theorem dL_law_20 : decode cL_law 20 = .ok (.iload_n 2, 1) := by decide +kernel
theorem dL_law_21 : decode cL_law 21 = .ok (.invokestatic 121, 3) := by decide +kernel
theorem dL_law_24 : decode cL_law 24 = .ok (.aload_n 0, 1) := by decide +kernel
theorem dL_law_25 : decode cL_law 25 = .ok (.iload_n 2, 1) := by decide +kernel
theorem dL_law_26 : decode cL_law 26 = .ok (.iconst 3, 1) := by decide +kernel
theorem dL_law_27 : decode cL_law 27 = .ok (.iadd, 1) := by decide +kernel
theorem dL_law_28 : decode cL_law 28 = .ok (.invokestatic 121, 3) := by decide +kernel
theorem dL_law_31 : decode cL_law 31 = .ok (.bipush 31, 2) := by decide +kernel
theorem dL_law_33 : decode cL_law 33 = .ok (.imul, 1) := by decide +kernel
theorem dL_law_34 : decode cL_law 34 = .ok (.ixor, 1) := by decide +kernel
theorem dL_law_35 : decode cL_law 35 = .ok (.aload_n 0, 1) := by decide +kernel
theorem dL_law_36 : decode cL_law 36 = .ok (.iload_n 2, 1) := by decide +kernel
theorem dL_law_37 : decode cL_law 37 = .ok (.bipush 6, 2) := by decide +kernel
theorem dL_law_39 : decode cL_law 39 = .ok (.iadd, 1) := by decide +kernel
theorem dL_law_40 : decode cL_law 40 = .ok (.invokestatic 121, 3) := by decide +kernel
theorem dL_law_43 : decode cL_law 43 = .ok (.sipush 1009, 3) := by decide +kernel
theorem dL_law_46 : decode cL_law 46 = .ok (.imul, 1) := by decide +kernel
theorem dL_law_47 : decode cL_law 47 = .ok (.ixor, 1) := by decide +kernel
theorem dL_law_48 : decode cL_law 48 = .ok (.invokespecial 127, 3) := by decide +kernel
theorem dL_law_51 : decode cL_law 51 = .ok (.astore_n 3, 1) := by decide +kernel
theorem dL_law_52 : decode cL_law 52 = .ok (.new 50, 3) := by decide +kernel
theorem dL_law_55 : decode cL_law 55 = .ok (.dup, 1) := by decide +kernel
theorem dL_law_56 : decode cL_law 56 = .ok (.invokespecial 130, 3) := by decide +kernel
theorem dL_law_59 : decode cL_law 59 = .ok (.astore 4, 2) := by decide +kernel
theorem dL_law_61 : decode cL_law 61 = .ok (.aload_n 3, 1) := by decide +kernel
theorem dL_law_62 : decode cL_law 62 = .ok (.aload 4, 2) := by decide +kernel
theorem dL_law_64 : decode cL_law 64 = .ok (.iconst 1, 1) := by decide +kernel
theorem dL_law_65 : decode cL_law 65 = .ok (.iconst 4, 1) := by decide +kernel
theorem dL_law_66 : decode cL_law 66 = .ok (.invokestatic 131, 3) := by decide +kernel
theorem dL_law_69 : decode cL_law 69 = .ok (.astore 5, 2) := by decide +kernel
theorem dL_law_71 : decode cL_law 71 = .ok (.aload_n 1, 1) := by decide +kernel
theorem dL_law_72 : decode cL_law 72 = .ok (.aload 4, 2) := by decide +kernel
theorem dL_law_74 : decode cL_law 74 = .ok (.invokevirtual 135, 3) := by decide +kernel
theorem dL_law_77 : decode cL_law 77 = .ok (.invokestatic 138, 3) := by decide +kernel
theorem dL_law_80 : decode cL_law 80 = .ok (.ifCond .eq 5, 3) := by decide +kernel
theorem dL_law_83 : decode cL_law 83 = .ok (.iconst 0, 1) := by decide +kernel
theorem dL_law_84 : decode cL_law 84 = .ok (.ireturn, 1) := by decide +kernel
theorem dL_law_85 : decode cL_law 85 = .ok (.aload_n 1, 1) := by decide +kernel
theorem dL_law_86 : decode cL_law 86 = .ok (.invokevirtual 142, 3) := by decide +kernel
theorem dL_law_89 : decode cL_law 89 = .ok (.istore 6, 2) := by decide +kernel
theorem dL_law_91 : decode cL_law 91 = .ok (.aload_n 1, 1) := by decide +kernel
theorem dL_law_92 : decode cL_law 92 = .ok (.invokevirtual 144, 3) := by decide +kernel
theorem dL_law_95 : decode cL_law 95 = .ok (.aload_n 1, 1) := by decide +kernel
theorem dL_law_96 : decode cL_law 96 = .ok (.invokevirtual 146, 3) := by decide +kernel
theorem dL_law_99 : decode cL_law 99 = .ok (.imul, 1) := by decide +kernel
theorem dL_law_100 : decode cL_law 100 = .ok (.istore 7, 2) := by decide +kernel
theorem dL_law_102 : decode cL_law 102 = .ok (.iconst 0, 1) := by decide +kernel
theorem dL_law_103 : decode cL_law 103 = .ok (.istore 8, 2) := by decide +kernel
theorem dL_law_105 : decode cL_law 105 = .ok (.iload 8, 2) := by decide +kernel
theorem dL_law_107 : decode cL_law 107 = .ok (.bipush 7, 2) := by decide +kernel
theorem dL_law_109 : decode cL_law 109 = .ok (.if_icmp .ge 1011, 3) := by decide +kernel
theorem dL_law_112 : decode cL_law 112 = .ok (.iconst 0, 1) := by decide +kernel
theorem dL_law_113 : decode cL_law 113 = .ok (.istore 9, 2) := by decide +kernel
theorem dL_law_115 : decode cL_law 115 = .ok (.iload 9, 2) := by decide +kernel
theorem dL_law_117 : decode cL_law 117 = .ok (.iconst 3, 1) := by decide +kernel
theorem dL_law_118 : decode cL_law 118 = .ok (.if_icmp .ge 21, 3) := by decide +kernel
theorem dL_law_121 : decode cL_law 121 = .ok (.aload_n 1, 1) := by decide +kernel
theorem dL_law_122 : decode cL_law 122 = .ok (.aload 5, 2) := by decide +kernel
theorem dL_law_124 : decode cL_law 124 = .ok (.aload_n 3, 1) := by decide +kernel
theorem dL_law_125 : decode cL_law 125 = .ok (.invokestatic 148, 3) := by decide +kernel
theorem dL_law_128 : decode cL_law 128 = .ok (.ifCond .ne 5, 3) := by decide +kernel
theorem dL_law_131 : decode cL_law 131 = .ok (.iconst 0, 1) := by decide +kernel
theorem dL_law_132 : decode cL_law 132 = .ok (.ireturn, 1) := by decide +kernel
theorem dL_law_133 : decode cL_law 133 = .ok (.iinc 9 1, 3) := by decide +kernel
theorem dL_law_136 : decode cL_law 136 = .ok (.goto (-21), 3) := by decide +kernel
theorem dL_law_139 : decode cL_law 139 = .ok (.aload_n 1, 1) := by decide +kernel
theorem dL_law_140 : decode cL_law 140 = .ok (.invokevirtual 152, 3) := by decide +kernel
theorem dL_law_143 : decode cL_law 143 = .ok (.lstore 9, 2) := by decide +kernel
theorem dL_law_145 : decode cL_law 145 = .ok (.iconst 0, 1) := by decide +kernel
theorem dL_law_146 : decode cL_law 146 = .ok (.istore 11, 2) := by decide +kernel
theorem dL_law_148 : decode cL_law 148 = .ok (.iconst 0, 1) := by decide +kernel
theorem dL_law_149 : decode cL_law 149 = .ok (.istore 12, 2) := by decide +kernel
theorem dL_law_151 : decode cL_law 151 = .ok (.iconst 0, 1) := by decide +kernel
theorem dL_law_152 : decode cL_law 152 = .ok (.istore 13, 2) := by decide +kernel
theorem dL_law_154 : decode cL_law 154 = .ok (.iconst 0, 1) := by decide +kernel
theorem dL_law_155 : decode cL_law 155 = .ok (.istore 14, 2) := by decide +kernel
theorem dL_law_157 : decode cL_law 157 = .ok (.iload 6, 2) := by decide +kernel
theorem dL_law_159 : decode cL_law 159 = .ok (.newarray .boolean, 2) := by decide +kernel
theorem dL_law_161 : decode cL_law 161 = .ok (.astore 15, 2) := by decide +kernel
theorem dL_law_163 : decode cL_law 163 = .ok (.iconst 0, 1) := by decide +kernel
theorem dL_law_164 : decode cL_law 164 = .ok (.istore 16, 2) := by decide +kernel
theorem dL_law_166 : decode cL_law 166 = .ok (.iload 16, 2) := by decide +kernel
theorem dL_law_168 : decode cL_law 168 = .ok (.iload 7, 2) := by decide +kernel
theorem dL_law_170 : decode cL_law 170 = .ok (.if_icmp .ge 274, 3) := by decide +kernel
theorem dL_law_173 : decode cL_law 173 = .ok (.iload 14, 2) := by decide +kernel
theorem dL_law_175 : decode cL_law 175 = .ok (.aload_n 1, 1) := by decide +kernel
theorem dL_law_176 : decode cL_law 176 = .ok (.iload 16, 2) := by decide +kernel
theorem dL_law_178 : decode cL_law 178 = .ok (.invokevirtual 156, 3) := by decide +kernel
theorem dL_law_181 : decode cL_law 181 = .ok (.iadd, 1) := by decide +kernel
theorem dL_law_182 : decode cL_law 182 = .ok (.istore 14, 2) := by decide +kernel
theorem dL_law_184 : decode cL_law 184 = .ok (.iload 13, 2) := by decide +kernel
theorem dL_law_186 : decode cL_law 186 = .ok (.aload_n 1, 1) := by decide +kernel
theorem dL_law_187 : decode cL_law 187 = .ok (.iload 16, 2) := by decide +kernel
theorem dL_law_189 : decode cL_law 189 = .ok (.invokevirtual 159, 3) := by decide +kernel
theorem dL_law_192 : decode cL_law 192 = .ok (.ifCond .eq 7, 3) := by decide +kernel
theorem dL_law_195 : decode cL_law 195 = .ok (.iconst 1, 1) := by decide +kernel
theorem dL_law_196 : decode cL_law 196 = .ok (.goto 4, 3) := by decide +kernel
theorem dL_law_199 : decode cL_law 199 = .ok (.iconst 0, 1) := by decide +kernel
theorem dL_law_200 : decode cL_law 200 = .ok (.iadd, 1) := by decide +kernel
theorem dL_law_201 : decode cL_law 201 = .ok (.istore 13, 2) := by decide +kernel
theorem dL_law_203 : decode cL_law 203 = .ok (.aload_n 1, 1) := by decide +kernel
theorem dL_law_204 : decode cL_law 204 = .ok (.iload 16, 2) := by decide +kernel
theorem dL_law_206 : decode cL_law 206 = .ok (.invokevirtual 156, 3) := by decide +kernel
theorem dL_law_209 : decode cL_law 209 = .ok (.ifCond .lt 66, 3) := by decide +kernel
theorem dL_law_212 : decode cL_law 212 = .ok (.aload_n 1, 1) := by decide +kernel
theorem dL_law_213 : decode cL_law 213 = .ok (.iload 16, 2) := by decide +kernel
theorem dL_law_215 : decode cL_law 215 = .ok (.invokevirtual 156, 3) := by decide +kernel
theorem dL_law_218 : decode cL_law 218 = .ok (.bipush 6, 2) := by decide +kernel
theorem dL_law_220 : decode cL_law 220 = .ok (.if_icmp .gt 55, 3) := by decide +kernel
theorem dL_law_223 : decode cL_law 223 = .ok (.aload_n 1, 1) := by decide +kernel
theorem dL_law_224 : decode cL_law 224 = .ok (.iload 16, 2) := by decide +kernel
theorem dL_law_226 : decode cL_law 226 = .ok (.invokevirtual 162, 3) := by decide +kernel
theorem dL_law_229 : decode cL_law 229 = .ok (.ifCond .ne 12, 3) := by decide +kernel
theorem dL_law_232 : decode cL_law 232 = .ok (.aload_n 1, 1) := by decide +kernel
theorem dL_law_233 : decode cL_law 233 = .ok (.iload 16, 2) := by decide +kernel
theorem dL_law_235 : decode cL_law 235 = .ok (.invokevirtual 156, 3) := by decide +kernel
theorem dL_law_238 : decode cL_law 238 = .ok (.ifCond .gt 37, 3) := by decide +kernel
theorem dL_law_241 : decode cL_law 241 = .ok (.aload_n 1, 1) := by decide +kernel
theorem dL_law_242 : decode cL_law 242 = .ok (.iload 16, 2) := by decide +kernel
theorem dL_law_244 : decode cL_law 244 = .ok (.invokevirtual 162, 3) := by decide +kernel
theorem dL_law_247 : decode cL_law 247 = .ok (.ifCond .eq 30, 3) := by decide +kernel
theorem dL_law_250 : decode cL_law 250 = .ok (.aload_n 1, 1) := by decide +kernel
theorem dL_law_251 : decode cL_law 251 = .ok (.iload 16, 2) := by decide +kernel
theorem dL_law_253 : decode cL_law 253 = .ok (.invokevirtual 159, 3) := by decide +kernel
theorem dL_law_256 : decode cL_law 256 = .ok (.aload_n 1, 1) := by decide +kernel
theorem dL_law_257 : decode cL_law 257 = .ok (.iload 16, 2) := by decide +kernel
theorem dL_law_259 : decode cL_law 259 = .ok (.invokevirtual 156, 3) := by decide +kernel
theorem dL_law_262 : decode cL_law 262 = .ok (.bipush 6, 2) := by decide +kernel
theorem dL_law_264 : decode cL_law 264 = .ok (.if_icmp .ne 7, 3) := by decide +kernel
theorem dL_law_267 : decode cL_law 267 = .ok (.iconst 1, 1) := by decide +kernel
theorem dL_law_268 : decode cL_law 268 = .ok (.goto 4, 3) := by decide +kernel
theorem dL_law_271 : decode cL_law 271 = .ok (.iconst 0, 1) := by decide +kernel
theorem dL_law_272 : decode cL_law 272 = .ok (.if_icmp .eq 5, 3) := by decide +kernel
theorem dL_law_275 : decode cL_law 275 = .ok (.iconst 0, 1) := by decide +kernel
theorem dL_law_276 : decode cL_law 276 = .ok (.ireturn, 1) := by decide +kernel
theorem dL_law_277 : decode cL_law 277 = .ok (.aload_n 1, 1) := by decide +kernel
theorem dL_law_278 : decode cL_law 278 = .ok (.iload 16, 2) := by decide +kernel
theorem dL_law_280 : decode cL_law 280 = .ok (.invokevirtual 162, 3) := by decide +kernel
theorem dL_law_283 : decode cL_law 283 = .ok (.ifCond .ne 6, 3) := by decide +kernel
theorem dL_law_286 : decode cL_law 286 = .ok (.goto 152, 3) := by decide +kernel
theorem dL_law_289 : decode cL_law 289 = .ok (.aload_n 1, 1) := by decide +kernel
theorem dL_law_290 : decode cL_law 290 = .ok (.iload 16, 2) := by decide +kernel
theorem dL_law_292 : decode cL_law 292 = .ok (.invokevirtual 165, 3) := by decide +kernel
theorem dL_law_295 : decode cL_law 295 = .ok (.istore 17, 2) := by decide +kernel
theorem dL_law_297 : decode cL_law 297 = .ok (.aload 15, 2) := by decide +kernel
theorem dL_law_299 : decode cL_law 299 = .ok (.iload 17, 2) := by decide +kernel
theorem dL_law_301 : decode cL_law 301 = .ok (.baload, 1) := by decide +kernel
theorem dL_law_302 : decode cL_law 302 = .ok (.ifCond .ne 42, 3) := by decide +kernel
theorem dL_law_305 : decode cL_law 305 = .ok (.aload_n 1, 1) := by decide +kernel
theorem dL_law_306 : decode cL_law 306 = .ok (.iload 17, 2) := by decide +kernel
theorem dL_law_308 : decode cL_law 308 = .ok (.invokevirtual 168, 3) := by decide +kernel
theorem dL_law_311 : decode cL_law 311 = .ok (.ifCond .eq 33, 3) := by decide +kernel
theorem dL_law_314 : decode cL_law 314 = .ok (.aload_n 1, 1) := by decide +kernel
theorem dL_law_315 : decode cL_law 315 = .ok (.iload 17, 2) := by decide +kernel
theorem dL_law_317 : decode cL_law 317 = .ok (.invokevirtual 171, 3) := by decide +kernel
theorem dL_law_320 : decode cL_law 320 = .ok (.iload 16, 2) := by decide +kernel
theorem dL_law_322 : decode cL_law 322 = .ok (.if_icmp .ne 22, 3) := by decide +kernel
theorem dL_law_325 : decode cL_law 325 = .ok (.aload_n 1, 1) := by decide +kernel
theorem dL_law_326 : decode cL_law 326 = .ok (.iload 17, 2) := by decide +kernel
theorem dL_law_328 : decode cL_law 328 = .ok (.invokevirtual 174, 3) := by decide +kernel
theorem dL_law_331 : decode cL_law 331 = .ok (.ifCond .lt 13, 3) := by decide +kernel
theorem dL_law_334 : decode cL_law 334 = .ok (.aload_n 1, 1) := by decide +kernel
theorem dL_law_335 : decode cL_law 335 = .ok (.iload 17, 2) := by decide +kernel
theorem dL_law_337 : decode cL_law 337 = .ok (.invokevirtual 174, 3) := by decide +kernel
theorem dL_law_340 : decode cL_law 340 = .ok (.iconst 5, 1) := by decide +kernel
theorem dL_law_341 : decode cL_law 341 = .ok (.if_icmp .le 5, 3) := by decide +kernel
theorem dL_law_344 : decode cL_law 344 = .ok (.iconst 0, 1) := by decide +kernel
theorem dL_law_345 : decode cL_law 345 = .ok (.ireturn, 1) := by decide +kernel
theorem dL_law_346 : decode cL_law 346 = .ok (.aload 15, 2) := by decide +kernel
theorem dL_law_348 : decode cL_law 348 = .ok (.iload 17, 2) := by decide +kernel
theorem dL_law_350 : decode cL_law 350 = .ok (.iconst 1, 1) := by decide +kernel
theorem dL_law_351 : decode cL_law 351 = .ok (.bastore, 1) := by decide +kernel
theorem dL_law_352 : decode cL_law 352 = .ok (.iinc 11 1, 3) := by decide +kernel
theorem dL_law_355 : decode cL_law 355 = .ok (.iconst 0, 1) := by decide +kernel
theorem dL_law_356 : decode cL_law 356 = .ok (.istore 18, 2) := by decide +kernel
theorem dL_law_358 : decode cL_law 358 = .ok (.iload 18, 2) := by decide +kernel
theorem dL_law_360 : decode cL_law 360 = .ok (.bipush 6, 2) := by decide +kernel
theorem dL_law_362 : decode cL_law 362 = .ok (.if_icmp .ge 76, 3) := by decide +kernel
theorem dL_law_365 : decode cL_law 365 = .ok (.aload 5, 2) := by decide +kernel
theorem dL_law_367 : decode cL_law 367 = .ok (.iload 16, 2) := by decide +kernel
theorem dL_law_369 : decode cL_law 369 = .ok (.iload 18, 2) := by decide +kernel
theorem dL_law_371 : decode cL_law 371 = .ok (.invokevirtual 177, 3) := by decide +kernel
theorem dL_law_374 : decode cL_law 374 = .ok (.istore 19, 2) := by decide +kernel
theorem dL_law_376 : decode cL_law 376 = .ok (.iload 19, 2) := by decide +kernel
theorem dL_law_378 : decode cL_law 378 = .ok (.ifCond .lt 54, 3) := by decide +kernel
theorem dL_law_381 : decode cL_law 381 = .ok (.aload_n 1, 1) := by decide +kernel
theorem dL_law_382 : decode cL_law 382 = .ok (.iload 19, 2) := by decide +kernel
theorem dL_law_384 : decode cL_law 384 = .ok (.invokevirtual 162, 3) := by decide +kernel
theorem dL_law_387 : decode cL_law 387 = .ok (.ifCond .ne 6, 3) := by decide +kernel
theorem dL_law_390 : decode cL_law 390 = .ok (.goto 42, 3) := by decide +kernel
theorem dL_law_393 : decode cL_law 393 = .ok (.aload_n 1, 1) := by decide +kernel
theorem dL_law_394 : decode cL_law 394 = .ok (.iload 16, 2) := by decide +kernel
theorem dL_law_396 : decode cL_law 396 = .ok (.iload 18, 2) := by decide +kernel
theorem dL_law_398 : decode cL_law 398 = .ok (.invokevirtual 181, 3) := by decide +kernel
theorem dL_law_401 : decode cL_law 401 = .ok (.aload_n 1, 1) := by decide +kernel
theorem dL_law_402 : decode cL_law 402 = .ok (.iload 19, 2) := by decide +kernel
theorem dL_law_404 : decode cL_law 404 = .ok (.iload 18, 2) := by decide +kernel
theorem dL_law_406 : decode cL_law 406 = .ok (.iconst 3, 1) := by decide +kernel
theorem dL_law_407 : decode cL_law 407 = .ok (.iadd, 1) := by decide +kernel
theorem dL_law_408 : decode cL_law 408 = .ok (.bipush 6, 2) := by decide +kernel
theorem dL_law_410 : decode cL_law 410 = .ok (.irem, 1) := by decide +kernel
theorem dL_law_411 : decode cL_law 411 = .ok (.invokevirtual 181, 3) := by decide +kernel
theorem dL_law_414 : decode cL_law 414 = .ok (.if_icmp .eq 5, 3) := by decide +kernel
theorem dL_law_417 : decode cL_law 417 = .ok (.iconst 0, 1) := by decide +kernel
theorem dL_law_418 : decode cL_law 418 = .ok (.ireturn, 1) := by decide +kernel
theorem dL_law_419 : decode cL_law 419 = .ok (.iload 12, 2) := by decide +kernel
theorem dL_law_421 : decode cL_law 421 = .ok (.aload_n 1, 1) := by decide +kernel
theorem dL_law_422 : decode cL_law 422 = .ok (.iload 16, 2) := by decide +kernel
theorem dL_law_424 : decode cL_law 424 = .ok (.iload 18, 2) := by decide +kernel
theorem dL_law_426 : decode cL_law 426 = .ok (.invokevirtual 181, 3) := by decide +kernel
theorem dL_law_429 : decode cL_law 429 = .ok (.iadd, 1) := by decide +kernel
theorem dL_law_430 : decode cL_law 430 = .ok (.istore 12, 2) := by decide +kernel
theorem dL_law_432 : decode cL_law 432 = .ok (.iinc 18 1, 3) := by decide +kernel
theorem dL_law_435 : decode cL_law 435 = .ok (.goto (-77), 3) := by decide +kernel
theorem dL_law_438 : decode cL_law 438 = .ok (.iinc 16 1, 3) := by decide +kernel
theorem dL_law_441 : decode cL_law 441 = .ok (.goto (-275), 3) := by decide +kernel
theorem dL_law_444 : decode cL_law 444 = .ok (.iload 11, 2) := by decide +kernel
theorem dL_law_446 : decode cL_law 446 = .ok (.aload_n 1, 1) := by decide +kernel
theorem dL_law_447 : decode cL_law 447 = .ok (.invokevirtual 184, 3) := by decide +kernel
theorem dL_law_450 : decode cL_law 450 = .ok (.if_icmp .ne 88, 3) := by decide +kernel
theorem dL_law_453 : decode cL_law 453 = .ok (.iload 14, 2) := by decide +kernel
theorem dL_law_455 : decode cL_law 455 = .ok (.iconst 2, 1) := by decide +kernel
theorem dL_law_456 : decode cL_law 456 = .ok (.aload_n 1, 1) := by decide +kernel
theorem dL_law_457 : decode cL_law 457 = .ok (.invokevirtual 187, 3) := by decide +kernel
theorem dL_law_460 : decode cL_law 460 = .ok (.imul, 1) := by decide +kernel
theorem dL_law_461 : decode cL_law 461 = .ok (.if_icmp .ne 77, 3) := by decide +kernel
theorem dL_law_464 : decode cL_law 464 = .ok (.iload 13, 2) := by decide +kernel
theorem dL_law_466 : decode cL_law 466 = .ok (.aload_n 1, 1) := by decide +kernel
theorem dL_law_467 : decode cL_law 467 = .ok (.invokevirtual 190, 3) := by decide +kernel
theorem dL_law_470 : decode cL_law 470 = .ok (.if_icmp .ne 68, 3) := by decide +kernel
theorem dL_law_473 : decode cL_law 473 = .ok (.iload 12, 2) := by decide +kernel
theorem dL_law_475 : decode cL_law 475 = .ok (.bipush 20, 2) := by decide +kernel
theorem dL_law_477 : decode cL_law 477 = .ok (.iload 13, 2) := by decide +kernel
theorem dL_law_479 : decode cL_law 479 = .ok (.imul, 1) := by decide +kernel
theorem dL_law_480 : decode cL_law 480 = .ok (.iadd, 1) := by decide +kernel
theorem dL_law_481 : decode cL_law 481 = .ok (.iconst 2, 1) := by decide +kernel
theorem dL_law_482 : decode cL_law 482 = .ok (.aload_n 1, 1) := by decide +kernel
theorem dL_law_483 : decode cL_law 483 = .ok (.invokevirtual 193, 3) := by decide +kernel
theorem dL_law_486 : decode cL_law 486 = .ok (.imul, 1) := by decide +kernel
theorem dL_law_487 : decode cL_law 487 = .ok (.if_icmp .ne 51, 3) := by decide +kernel
theorem dL_law_490 : decode cL_law 490 = .ok (.aload_n 1, 1) := by decide +kernel
theorem dL_law_491 : decode cL_law 491 = .ok (.invokevirtual 196, 3) := by decide +kernel
theorem dL_law_494 : decode cL_law 494 = .ok (.iload 11, 2) := by decide +kernel
theorem dL_law_496 : decode cL_law 496 = .ok (.if_icmp .gt 42, 3) := by decide +kernel
theorem dL_law_499 : decode cL_law 499 = .ok (.iload 11, 2) := by decide +kernel
theorem dL_law_501 : decode cL_law 501 = .ok (.aload_n 1, 1) := by decide +kernel
theorem dL_law_502 : decode cL_law 502 = .ok (.invokevirtual 196, 3) := by decide +kernel
theorem dL_law_505 : decode cL_law 505 = .ok (.isub, 1) := by decide +kernel
theorem dL_law_506 : decode cL_law 506 = .ok (.aload_n 1, 1) := by decide +kernel
theorem dL_law_507 : decode cL_law 507 = .ok (.invokevirtual 187, 3) := by decide +kernel
theorem dL_law_510 : decode cL_law 510 = .ok (.if_icmp .gt 28, 3) := by decide +kernel
theorem dL_law_513 : decode cL_law 513 = .ok (.iload 11, 2) := by decide +kernel
theorem dL_law_515 : decode cL_law 515 = .ok (.ifCond .ne 7, 3) := by decide +kernel
theorem dL_law_518 : decode cL_law 518 = .ok (.iconst 1, 1) := by decide +kernel
theorem dL_law_519 : decode cL_law 519 = .ok (.goto 4, 3) := by decide +kernel
theorem dL_law_522 : decode cL_law 522 = .ok (.iconst 0, 1) := by decide +kernel
theorem dL_law_523 : decode cL_law 523 = .ok (.aload_n 1, 1) := by decide +kernel
theorem dL_law_524 : decode cL_law 524 = .ok (.invokevirtual 196, 3) := by decide +kernel
theorem dL_law_527 : decode cL_law 527 = .ok (.ifCond .ne 7, 3) := by decide +kernel
theorem dL_law_530 : decode cL_law 530 = .ok (.iconst 1, 1) := by decide +kernel
theorem dL_law_531 : decode cL_law 531 = .ok (.goto 4, 3) := by decide +kernel
theorem dL_law_534 : decode cL_law 534 = .ok (.iconst 0, 1) := by decide +kernel
theorem dL_law_535 : decode cL_law 535 = .ok (.if_icmp .eq 5, 3) := by decide +kernel
theorem dL_law_538 : decode cL_law 538 = .ok (.iconst 0, 1) := by decide +kernel
theorem dL_law_539 : decode cL_law 539 = .ok (.ireturn, 1) := by decide +kernel
theorem dL_law_540 : decode cL_law 540 = .ok (.aload_n 3, 1) := by decide +kernel
theorem dL_law_541 : decode cL_law 541 = .ok (.iload 6, 2) := by decide +kernel
theorem dL_law_543 : decode cL_law 543 = .ok (.invokevirtual 35, 3) := by decide +kernel
theorem dL_law_546 : decode cL_law 546 = .ok (.istore 16, 2) := by decide +kernel
theorem dL_law_548 : decode cL_law 548 = .ok (.iconst 0, 1) := by decide +kernel
theorem dL_law_549 : decode cL_law 549 = .ok (.istore 17, 2) := by decide +kernel
theorem dL_law_551 : decode cL_law 551 = .ok (.iconst 0, 1) := by decide +kernel
theorem dL_law_552 : decode cL_law 552 = .ok (.istore 18, 2) := by decide +kernel
theorem dL_law_554 : decode cL_law 554 = .ok (.iload 18, 2) := by decide +kernel
theorem dL_law_556 : decode cL_law 556 = .ok (.iload 7, 2) := by decide +kernel
theorem dL_law_558 : decode cL_law 558 = .ok (.if_icmp .ge 110, 3) := by decide +kernel
theorem dL_law_561 : decode cL_law 561 = .ok (.iconst 0, 1) := by decide +kernel
theorem dL_law_562 : decode cL_law 562 = .ok (.istore 19, 2) := by decide +kernel
theorem dL_law_564 : decode cL_law 564 = .ok (.iload 19, 2) := by decide +kernel
theorem dL_law_566 : decode cL_law 566 = .ok (.bipush 6, 2) := by decide +kernel
theorem dL_law_568 : decode cL_law 568 = .ok (.if_icmp .ge 94, 3) := by decide +kernel
theorem dL_law_571 : decode cL_law 571 = .ok (.aload_n 1, 1) := by decide +kernel
theorem dL_law_572 : decode cL_law 572 = .ok (.iload 16, 2) := by decide +kernel
theorem dL_law_574 : decode cL_law 574 = .ok (.iload 18, 2) := by decide +kernel
theorem dL_law_576 : decode cL_law 576 = .ok (.iload 19, 2) := by decide +kernel
theorem dL_law_578 : decode cL_law 578 = .ok (.invokevirtual 199, 3) := by decide +kernel
theorem dL_law_581 : decode cL_law 581 = .ok (.istore 20, 2) := by decide +kernel
theorem dL_law_583 : decode cL_law 583 = .ok (.iload 17, 2) := by decide +kernel
theorem dL_law_585 : decode cL_law 585 = .ok (.iload 20, 2) := by decide +kernel
theorem dL_law_587 : decode cL_law 587 = .ok (.ifCond .eq 7, 3) := by decide +kernel
theorem dL_law_590 : decode cL_law 590 = .ok (.iconst 1, 1) := by decide +kernel
theorem dL_law_591 : decode cL_law 591 = .ok (.goto 4, 3) := by decide +kernel
theorem dL_law_594 : decode cL_law 594 = .ok (.iconst 0, 1) := by decide +kernel
theorem dL_law_595 : decode cL_law 595 = .ok (.iadd, 1) := by decide +kernel
theorem dL_law_596 : decode cL_law 596 = .ok (.istore 17, 2) := by decide +kernel
theorem dL_law_598 : decode cL_law 598 = .ok (.iload 20, 2) := by decide +kernel
theorem dL_law_600 : decode cL_law 600 = .ok (.ifCond .eq 56, 3) := by decide +kernel
theorem dL_law_603 : decode cL_law 603 = .ok (.aload_n 1, 1) := by decide +kernel
theorem dL_law_604 : decode cL_law 604 = .ok (.iload 16, 2) := by decide +kernel
theorem dL_law_606 : decode cL_law 606 = .ok (.invokevirtual 168, 3) := by decide +kernel
theorem dL_law_609 : decode cL_law 609 = .ok (.ifCond .ne 45, 3) := by decide +kernel
theorem dL_law_612 : decode cL_law 612 = .ok (.aload_n 1, 1) := by decide +kernel
theorem dL_law_613 : decode cL_law 613 = .ok (.iload 18, 2) := by decide +kernel
theorem dL_law_615 : decode cL_law 615 = .ok (.invokevirtual 162, 3) := by decide +kernel
theorem dL_law_618 : decode cL_law 618 = .ok (.ifCond .ne 36, 3) := by decide +kernel
theorem dL_law_621 : decode cL_law 621 = .ok (.aload_n 1, 1) := by decide +kernel
theorem dL_law_622 : decode cL_law 622 = .ok (.iload 16, 2) := by decide +kernel
theorem dL_law_624 : decode cL_law 624 = .ok (.iload 18, 2) := by decide +kernel
theorem dL_law_626 : decode cL_law 626 = .ok (.iload 19, 2) := by decide +kernel
theorem dL_law_628 : decode cL_law 628 = .ok (.invokevirtual 202, 3) := by decide +kernel
theorem dL_law_631 : decode cL_law 631 = .ok (.ifCond .ge 23, 3) := by decide +kernel
theorem dL_law_634 : decode cL_law 634 = .ok (.iload 11, 2) := by decide +kernel
theorem dL_law_636 : decode cL_law 636 = .ok (.ifCond .le 20, 3) := by decide +kernel
theorem dL_law_639 : decode cL_law 639 = .ok (.aload 5, 2) := by decide +kernel
theorem dL_law_641 : decode cL_law 641 = .ok (.aload 5, 2) := by decide +kernel
theorem dL_law_643 : decode cL_law 643 = .ok (.invokevirtual 104, 3) := by decide +kernel
theorem dL_law_646 : decode cL_law 646 = .ok (.iload 18, 2) := by decide +kernel
theorem dL_law_648 : decode cL_law 648 = .ok (.invokevirtual 205, 3) := by decide +kernel
theorem dL_law_651 : decode cL_law 651 = .ok (.ifCond .ne 5, 3) := by decide +kernel
theorem dL_law_654 : decode cL_law 654 = .ok (.iconst 0, 1) := by decide +kernel
theorem dL_law_655 : decode cL_law 655 = .ok (.ireturn, 1) := by decide +kernel
theorem dL_law_656 : decode cL_law 656 = .ok (.iinc 19 1, 3) := by decide +kernel
theorem dL_law_659 : decode cL_law 659 = .ok (.goto (-95), 3) := by decide +kernel
theorem dL_law_662 : decode cL_law 662 = .ok (.iinc 18 1, 3) := by decide +kernel
theorem dL_law_665 : decode cL_law 665 = .ok (.goto (-111), 3) := by decide +kernel
theorem dL_law_668 : decode cL_law 668 = .ok (.iload 17, 2) := by decide +kernel
theorem dL_law_670 : decode cL_law 670 = .ok (.aload_n 1, 1) := by decide +kernel
theorem dL_law_671 : decode cL_law 671 = .ok (.iload 16, 2) := by decide +kernel
theorem dL_law_673 : decode cL_law 673 = .ok (.invokevirtual 208, 3) := by decide +kernel
theorem dL_law_676 : decode cL_law 676 = .ok (.if_icmp .ne 45, 3) := by decide +kernel
theorem dL_law_679 : decode cL_law 679 = .ok (.aload_n 1, 1) := by decide +kernel
theorem dL_law_680 : decode cL_law 680 = .ok (.iload 16, 2) := by decide +kernel
theorem dL_law_682 : decode cL_law 682 = .ok (.invokevirtual 211, 3) := by decide +kernel
theorem dL_law_685 : decode cL_law 685 = .ok (.iload 17, 2) := by decide +kernel
theorem dL_law_687 : decode cL_law 687 = .ok (.ifCond .ne 16, 3) := by decide +kernel
theorem dL_law_690 : decode cL_law 690 = .ok (.aload_n 1, 1) := by decide +kernel
theorem dL_law_691 : decode cL_law 691 = .ok (.iload 16, 2) := by decide +kernel
theorem dL_law_693 : decode cL_law 693 = .ok (.invokevirtual 168, 3) := by decide +kernel
theorem dL_law_696 : decode cL_law 696 = .ok (.ifCond .ne 7, 3) := by decide +kernel
theorem dL_law_699 : decode cL_law 699 = .ok (.iconst 1, 1) := by decide +kernel
theorem dL_law_700 : decode cL_law 700 = .ok (.goto 4, 3) := by decide +kernel
theorem dL_law_703 : decode cL_law 703 = .ok (.iconst 0, 1) := by decide +kernel
theorem dL_law_704 : decode cL_law 704 = .ok (.if_icmp .ne 17, 3) := by decide +kernel
theorem dL_law_707 : decode cL_law 707 = .ok (.aload_n 1, 1) := by decide +kernel
theorem dL_law_708 : decode cL_law 708 = .ok (.iload 16, 2) := by decide +kernel
theorem dL_law_710 : decode cL_law 710 = .ok (.invokevirtual 168, 3) := by decide +kernel
theorem dL_law_713 : decode cL_law 713 = .ok (.ifCond .eq 10, 3) := by decide +kernel
theorem dL_law_716 : decode cL_law 716 = .ok (.iload 17, 2) := by decide +kernel
theorem dL_law_718 : decode cL_law 718 = .ok (.ifCond .le 5, 3) := by decide +kernel
theorem dL_law_721 : decode cL_law 721 = .ok (.iconst 0, 1) := by decide +kernel
theorem dL_law_722 : decode cL_law 722 = .ok (.ireturn, 1) := by decide +kernel
theorem dL_law_723 : decode cL_law 723 = .ok (.aload_n 1, 1) := by decide +kernel
theorem dL_law_724 : decode cL_law 724 = .ok (.invokevirtual 214, 3) := by decide +kernel
theorem dL_law_727 : decode cL_law 727 = .ok (.istore 18, 2) := by decide +kernel
theorem dL_law_729 : decode cL_law 729 = .ok (.aload_n 1, 1) := by decide +kernel
theorem dL_law_730 : decode cL_law 730 = .ok (.invokevirtual 193, 3) := by decide +kernel
theorem dL_law_733 : decode cL_law 733 = .ok (.istore 19, 2) := by decide +kernel
theorem dL_law_735 : decode cL_law 735 = .ok (.iload 18, 2) := by decide +kernel
theorem dL_law_737 : decode cL_law 737 = .ok (.ifCond .lt 178, 3) := by decide +kernel
theorem dL_law_740 : decode cL_law 740 = .ok (.aload_n 1, 1) := by decide +kernel
theorem dL_law_741 : decode cL_law 741 = .ok (.iload 18, 2) := by decide +kernel
theorem dL_law_743 : decode cL_law 743 = .ok (.invokevirtual 217, 3) := by decide +kernel
theorem dL_law_746 : decode cL_law 746 = .ok (.istore 20, 2) := by decide +kernel
theorem dL_law_748 : decode cL_law 748 = .ok (.aload_n 1, 1) := by decide +kernel
theorem dL_law_749 : decode cL_law 749 = .ok (.iload 18, 2) := by decide +kernel
theorem dL_law_751 : decode cL_law 751 = .ok (.invokevirtual 220, 3) := by decide +kernel
theorem dL_law_754 : decode cL_law 754 = .ok (.istore 21, 2) := by decide +kernel
theorem dL_law_756 : decode cL_law 756 = .ok (.aload_n 1, 1) := by decide +kernel
theorem dL_law_757 : decode cL_law 757 = .ok (.iload 18, 2) := by decide +kernel
theorem dL_law_759 : decode cL_law 759 = .ok (.iload 20, 2) := by decide +kernel
theorem dL_law_761 : decode cL_law 761 = .ok (.iload 21, 2) := by decide +kernel
theorem dL_law_763 : decode cL_law 763 = .ok (.invokevirtual 199, 3) := by decide +kernel
theorem dL_law_766 : decode cL_law 766 = .ok (.ifCond .ne 5, 3) := by decide +kernel
theorem dL_law_769 : decode cL_law 769 = .ok (.iconst 0, 1) := by decide +kernel
theorem dL_law_770 : decode cL_law 770 = .ok (.ireturn, 1) := by decide +kernel
theorem dL_law_771 : decode cL_law 771 = .ok (.aload_n 1, 1) := by decide +kernel
theorem dL_law_772 : decode cL_law 772 = .ok (.iload 18, 2) := by decide +kernel
theorem dL_law_774 : decode cL_law 774 = .ok (.iload 20, 2) := by decide +kernel
theorem dL_law_776 : decode cL_law 776 = .ok (.iload 21, 2) := by decide +kernel
theorem dL_law_778 : decode cL_law 778 = .ok (.invokevirtual 111, 3) := by decide +kernel
theorem dL_law_781 : decode cL_law 781 = .ok (.istore 22, 2) := by decide +kernel
theorem dL_law_783 : decode cL_law 783 = .ok (.aload_n 1, 1) := by decide +kernel
theorem dL_law_784 : decode cL_law 784 = .ok (.invokevirtual 193, 3) := by decide +kernel
theorem dL_law_787 : decode cL_law 787 = .ok (.iload 19, 2) := by decide +kernel
theorem dL_law_789 : decode cL_law 789 = .ok (.iload 22, 2) := by decide +kernel
theorem dL_law_791 : decode cL_law 791 = .ok (.iadd, 1) := by decide +kernel
theorem dL_law_792 : decode cL_law 792 = .ok (.if_icmp .ne 24, 3) := by decide +kernel
theorem dL_law_795 : decode cL_law 795 = .ok (.aload_n 1, 1) := by decide +kernel
theorem dL_law_796 : decode cL_law 796 = .ok (.iload 18, 2) := by decide +kernel
theorem dL_law_798 : decode cL_law 798 = .ok (.invokevirtual 115, 3) := by decide +kernel
theorem dL_law_801 : decode cL_law 801 = .ok (.iload 22, 2) := by decide +kernel
theorem dL_law_803 : decode cL_law 803 = .ok (.if_icmp .ne 13, 3) := by decide +kernel
theorem dL_law_806 : decode cL_law 806 = .ok (.aload_n 1, 1) := by decide +kernel
theorem dL_law_807 : decode cL_law 807 = .ok (.invokevirtual 152, 3) := by decide +kernel
theorem dL_law_810 : decode cL_law 810 = .ok (.lload 9, 2) := by decide +kernel
theorem dL_law_812 : decode cL_law 812 = .ok (.lcmp, 1) := by decide +kernel
theorem dL_law_813 : decode cL_law 813 = .ok (.ifCond .eq 5, 3) := by decide +kernel
theorem dL_law_816 : decode cL_law 816 = .ok (.iconst 0, 1) := by decide +kernel
theorem dL_law_817 : decode cL_law 817 = .ok (.ireturn, 1) := by decide +kernel
theorem dL_law_818 : decode cL_law 818 = .ok (.iconst 0, 1) := by decide +kernel
theorem dL_law_819 : decode cL_law 819 = .ok (.istore 23, 2) := by decide +kernel
theorem dL_law_821 : decode cL_law 821 = .ok (.iload 23, 2) := by decide +kernel
theorem dL_law_823 : decode cL_law 823 = .ok (.bipush 20, 2) := by decide +kernel
theorem dL_law_825 : decode cL_law 825 = .ok (.if_icmp .ge 87, 3) := by decide +kernel
theorem dL_law_828 : decode cL_law 828 = .ok (.aload_n 3, 1) := by decide +kernel
theorem dL_law_829 : decode cL_law 829 = .ok (.iload 6, 2) := by decide +kernel
theorem dL_law_831 : decode cL_law 831 = .ok (.invokevirtual 35, 3) := by decide +kernel
theorem dL_law_834 : decode cL_law 834 = .ok (.istore 24, 2) := by decide +kernel
theorem dL_law_836 : decode cL_law 836 = .ok (.aload_n 3, 1) := by decide +kernel
theorem dL_law_837 : decode cL_law 837 = .ok (.iload 7, 2) := by decide +kernel
theorem dL_law_839 : decode cL_law 839 = .ok (.invokevirtual 35, 3) := by decide +kernel
theorem dL_law_842 : decode cL_law 842 = .ok (.istore 25, 2) := by decide +kernel
theorem dL_law_844 : decode cL_law 844 = .ok (.aload_n 3, 1) := by decide +kernel
theorem dL_law_845 : decode cL_law 845 = .ok (.bipush 6, 2) := by decide +kernel
theorem dL_law_847 : decode cL_law 847 = .ok (.invokevirtual 35, 3) := by decide +kernel
theorem dL_law_850 : decode cL_law 850 = .ok (.istore 26, 2) := by decide +kernel
theorem dL_law_852 : decode cL_law 852 = .ok (.aload_n 1, 1) := by decide +kernel
theorem dL_law_853 : decode cL_law 853 = .ok (.iload 24, 2) := by decide +kernel
theorem dL_law_855 : decode cL_law 855 = .ok (.iload 25, 2) := by decide +kernel
theorem dL_law_857 : decode cL_law 857 = .ok (.iload 26, 2) := by decide +kernel
theorem dL_law_859 : decode cL_law 859 = .ok (.invokevirtual 199, 3) := by decide +kernel
theorem dL_law_862 : decode cL_law 862 = .ok (.ifCond .ne 6, 3) := by decide +kernel
theorem dL_law_865 : decode cL_law 865 = .ok (.goto 41, 3) := by decide +kernel
theorem dL_law_868 : decode cL_law 868 = .ok (.aload_n 1, 1) := by decide +kernel
theorem dL_law_869 : decode cL_law 869 = .ok (.iload 24, 2) := by decide +kernel
theorem dL_law_871 : decode cL_law 871 = .ok (.iload 25, 2) := by decide +kernel
theorem dL_law_873 : decode cL_law 873 = .ok (.iload 26, 2) := by decide +kernel
theorem dL_law_875 : decode cL_law 875 = .ok (.invokevirtual 111, 3) := by decide +kernel
theorem dL_law_878 : decode cL_law 878 = .ok (.iload 22, 2) := by decide +kernel
theorem dL_law_880 : decode cL_law 880 = .ok (.if_icmp .gt 24, 3) := by decide +kernel
theorem dL_law_883 : decode cL_law 883 = .ok (.aload_n 1, 1) := by decide +kernel
theorem dL_law_884 : decode cL_law 884 = .ok (.iload 24, 2) := by decide +kernel
theorem dL_law_886 : decode cL_law 886 = .ok (.invokevirtual 115, 3) := by decide +kernel
theorem dL_law_889 : decode cL_law 889 = .ok (.iload 22, 2) := by decide +kernel
theorem dL_law_891 : decode cL_law 891 = .ok (.if_icmp .gt 13, 3) := by decide +kernel
theorem dL_law_894 : decode cL_law 894 = .ok (.aload_n 1, 1) := by decide +kernel
theorem dL_law_895 : decode cL_law 895 = .ok (.invokevirtual 152, 3) := by decide +kernel
theorem dL_law_898 : decode cL_law 898 = .ok (.lload 9, 2) := by decide +kernel
theorem dL_law_900 : decode cL_law 900 = .ok (.lcmp, 1) := by decide +kernel
theorem dL_law_901 : decode cL_law 901 = .ok (.ifCond .eq 5, 3) := by decide +kernel
theorem dL_law_904 : decode cL_law 904 = .ok (.iconst 0, 1) := by decide +kernel
theorem dL_law_905 : decode cL_law 905 = .ok (.ireturn, 1) := by decide +kernel
theorem dL_law_906 : decode cL_law 906 = .ok (.iinc 23 1, 3) := by decide +kernel
theorem dL_law_909 : decode cL_law 909 = .ok (.goto (-88), 3) := by decide +kernel
theorem dL_law_912 : decode cL_law 912 = .ok (.goto 10, 3) := by decide +kernel
theorem dL_law_915 : decode cL_law 915 = .ok (.iload 17, 2) := by decide +kernel
theorem dL_law_917 : decode cL_law 917 = .ok (.ifCond .le 5, 3) := by decide +kernel
theorem dL_law_920 : decode cL_law 920 = .ok (.iconst 0, 1) := by decide +kernel
theorem dL_law_921 : decode cL_law 921 = .ok (.ireturn, 1) := by decide +kernel
theorem dL_law_922 : decode cL_law 922 = .ok (.aload_n 1, 1) := by decide +kernel
theorem dL_law_923 : decode cL_law 923 = .ok (.invokevirtual 223, 3) := by decide +kernel
theorem dL_law_926 : decode cL_law 926 = .ok (.istore 20, 2) := by decide +kernel
theorem dL_law_928 : decode cL_law 928 = .ok (.iconst 1, 1) := by decide +kernel
theorem dL_law_929 : decode cL_law 929 = .ok (.aload_n 3, 1) := by decide +kernel
theorem dL_law_930 : decode cL_law 930 = .ok (.bipush 6, 2) := by decide +kernel
theorem dL_law_932 : decode cL_law 932 = .ok (.invokevirtual 35, 3) := by decide +kernel
theorem dL_law_935 : decode cL_law 935 = .ok (.iadd, 1) := by decide +kernel
theorem dL_law_936 : decode cL_law 936 = .ok (.istore 21, 2) := by decide +kernel
theorem dL_law_938 : decode cL_law 938 = .ok (.aload_n 1, 1) := by decide +kernel
theorem dL_law_939 : decode cL_law 939 = .ok (.iload 21, 2) := by decide +kernel
theorem dL_law_941 : decode cL_law 941 = .ok (.invokevirtual 226, 3) := by decide +kernel
theorem dL_law_944 : decode cL_law 944 = .ok (.istore 22, 2) := by decide +kernel
theorem dL_law_946 : decode cL_law 946 = .ok (.aload_n 1, 1) := by decide +kernel
theorem dL_law_947 : decode cL_law 947 = .ok (.invokevirtual 152, 3) := by decide +kernel
theorem dL_law_950 : decode cL_law 950 = .ok (.lload 9, 2) := by decide +kernel
theorem dL_law_952 : decode cL_law 952 = .ok (.lcmp, 1) := by decide +kernel
theorem dL_law_953 : decode cL_law 953 = .ok (.ifCond .ne 28, 3) := by decide +kernel
theorem dL_law_956 : decode cL_law 956 = .ok (.iload 20, 2) := by decide +kernel
theorem dL_law_958 : decode cL_law 958 = .ok (.ifCond .ne 7, 3) := by decide +kernel
theorem dL_law_961 : decode cL_law 961 = .ok (.iconst 1, 1) := by decide +kernel
theorem dL_law_962 : decode cL_law 962 = .ok (.goto 4, 3) := by decide +kernel
theorem dL_law_965 : decode cL_law 965 = .ok (.iconst 0, 1) := by decide +kernel
theorem dL_law_966 : decode cL_law 966 = .ok (.aload_n 1, 1) := by decide +kernel
theorem dL_law_967 : decode cL_law 967 = .ok (.invokevirtual 190, 3) := by decide +kernel
theorem dL_law_970 : decode cL_law 970 = .ok (.ifCond .le 7, 3) := by decide +kernel
theorem dL_law_973 : decode cL_law 973 = .ok (.iconst 1, 1) := by decide +kernel
theorem dL_law_974 : decode cL_law 974 = .ok (.goto 4, 3) := by decide +kernel
theorem dL_law_977 : decode cL_law 977 = .ok (.iconst 0, 1) := by decide +kernel
theorem dL_law_978 : decode cL_law 978 = .ok (.if_icmp .eq 5, 3) := by decide +kernel
theorem dL_law_981 : decode cL_law 981 = .ok (.iconst 0, 1) := by decide +kernel
theorem dL_law_982 : decode cL_law 982 = .ok (.ireturn, 1) := by decide +kernel
theorem dL_law_983 : decode cL_law 983 = .ok (.aload_n 1, 1) := by decide +kernel
theorem dL_law_984 : decode cL_law 984 = .ok (.invokevirtual 229, 3) := by decide +kernel
theorem dL_law_987 : decode cL_law 987 = .ok (.istore 23, 2) := by decide +kernel
theorem dL_law_989 : decode cL_law 989 = .ok (.iconst 1, 1) := by decide +kernel
theorem dL_law_990 : decode cL_law 990 = .ok (.istore 24, 2) := by decide +kernel
theorem dL_law_992 : decode cL_law 992 = .ok (.iload 24, 2) := by decide +kernel
theorem dL_law_994 : decode cL_law 994 = .ok (.iload 21, 2) := by decide +kernel
theorem dL_law_996 : decode cL_law 996 = .ok (.if_icmp .gt 107, 3) := by decide +kernel
theorem dL_law_999 : decode cL_law 999 = .ok (.aload_n 1, 1) := by decide +kernel
theorem dL_law_1000 : decode cL_law 1000 = .ok (.iconst 1, 1) := by decide +kernel
theorem dL_law_1001 : decode cL_law 1001 = .ok (.invokevirtual 87, 3) := by decide +kernel
theorem dL_law_1004 : decode cL_law 1004 = .ok (.istore 25, 2) := by decide +kernel
theorem dL_law_1006 : decode cL_law 1006 = .ok (.iload 25, 2) := by decide +kernel
theorem dL_law_1008 : decode cL_law 1008 = .ok (.aload 5, 2) := by decide +kernel
theorem dL_law_1010 : decode cL_law 1010 = .ok (.invokevirtual 232, 3) := by decide +kernel
theorem dL_law_1013 : decode cL_law 1013 = .ok (.if_icmp .ne 82, 3) := by decide +kernel
theorem dL_law_1016 : decode cL_law 1016 = .ok (.iload 25, 2) := by decide +kernel
theorem dL_law_1018 : decode cL_law 1018 = .ok (.ifCond .lt 77, 3) := by decide +kernel
theorem dL_law_1021 : decode cL_law 1021 = .ok (.iload 25, 2) := by decide +kernel
theorem dL_law_1023 : decode cL_law 1023 = .ok (.aload 5, 2) := by decide +kernel
theorem dL_law_1025 : decode cL_law 1025 = .ok (.getfield 76, 3) := by decide +kernel
theorem dL_law_1028 : decode cL_law 1028 = .ok (.arraylength, 1) := by decide +kernel
theorem dL_law_1029 : decode cL_law 1029 = .ok (.if_icmp .gt 66, 3) := by decide +kernel
theorem dL_law_1032 : decode cL_law 1032 = .ok (.aload_n 1, 1) := by decide +kernel
theorem dL_law_1033 : decode cL_law 1033 = .ok (.invokevirtual 229, 3) := by decide +kernel
theorem dL_law_1036 : decode cL_law 1036 = .ok (.iload 23, 2) := by decide +kernel
theorem dL_law_1038 : decode cL_law 1038 = .ok (.iload 24, 2) := by decide +kernel
theorem dL_law_1040 : decode cL_law 1040 = .ok (.iadd, 1) := by decide +kernel
theorem dL_law_1041 : decode cL_law 1041 = .ok (.if_icmp .ne 54, 3) := by decide +kernel
theorem dL_law_1044 : decode cL_law 1044 = .ok (.iload 20, 2) := by decide +kernel
theorem dL_law_1046 : decode cL_law 1046 = .ok (.ifCond .le 37, 3) := by decide +kernel
theorem dL_law_1049 : decode cL_law 1049 = .ok (.iload 24, 2) := by decide +kernel
theorem dL_law_1051 : decode cL_law 1051 = .ok (.iload 20, 2) := by decide +kernel
theorem dL_law_1053 : decode cL_law 1053 = .ok (.if_icmp .gt 30, 3) := by decide +kernel
theorem dL_law_1056 : decode cL_law 1056 = .ok (.aload_n 1, 1) := by decide +kernel
theorem dL_law_1057 : decode cL_law 1057 = .ok (.invokevirtual 190, 3) := by decide +kernel
theorem dL_law_1060 : decode cL_law 1060 = .ok (.ifCond .le 7, 3) := by decide +kernel
theorem dL_law_1063 : decode cL_law 1063 = .ok (.iconst 1, 1) := by decide +kernel
theorem dL_law_1064 : decode cL_law 1064 = .ok (.goto 4, 3) := by decide +kernel
theorem dL_law_1067 : decode cL_law 1067 = .ok (.iconst 0, 1) := by decide +kernel
theorem dL_law_1068 : decode cL_law 1068 = .ok (.iload 24, 2) := by decide +kernel
theorem dL_law_1070 : decode cL_law 1070 = .ok (.iload 20, 2) := by decide +kernel
theorem dL_law_1072 : decode cL_law 1072 = .ok (.if_icmp .ne 7, 3) := by decide +kernel
theorem dL_law_1075 : decode cL_law 1075 = .ok (.iconst 1, 1) := by decide +kernel
theorem dL_law_1076 : decode cL_law 1076 = .ok (.goto 4, 3) := by decide +kernel
theorem dL_law_1079 : decode cL_law 1079 = .ok (.iconst 0, 1) := by decide +kernel
theorem dL_law_1080 : decode cL_law 1080 = .ok (.if_icmp .ne 15, 3) := by decide +kernel
theorem dL_law_1083 : decode cL_law 1083 = .ok (.iload 20, 2) := by decide +kernel
theorem dL_law_1085 : decode cL_law 1085 = .ok (.ifCond .ge 12, 3) := by decide +kernel
theorem dL_law_1088 : decode cL_law 1088 = .ok (.aload_n 1, 1) := by decide +kernel
theorem dL_law_1089 : decode cL_law 1089 = .ok (.invokevirtual 190, 3) := by decide +kernel
theorem dL_law_1092 : decode cL_law 1092 = .ok (.ifCond .le 5, 3) := by decide +kernel
theorem dL_law_1095 : decode cL_law 1095 = .ok (.iconst 0, 1) := by decide +kernel
theorem dL_law_1096 : decode cL_law 1096 = .ok (.ireturn, 1) := by decide +kernel
theorem dL_law_1097 : decode cL_law 1097 = .ok (.iinc 24 1, 3) := by decide +kernel
theorem dL_law_1100 : decode cL_law 1100 = .ok (.goto (-108), 3) := by decide +kernel
theorem dL_law_1103 : decode cL_law 1103 = .ok (.aload_n 1, 1) := by decide +kernel
theorem dL_law_1104 : decode cL_law 1104 = .ok (.invokevirtual 193, 3) := by decide +kernel
theorem dL_law_1107 : decode cL_law 1107 = .ok (.iload 22, 2) := by decide +kernel
theorem dL_law_1109 : decode cL_law 1109 = .ok (.if_icmp .eq 5, 3) := by decide +kernel
theorem dL_law_1112 : decode cL_law 1112 = .ok (.iconst 0, 1) := by decide +kernel
theorem dL_law_1113 : decode cL_law 1113 = .ok (.ireturn, 1) := by decide +kernel
theorem dL_law_1114 : decode cL_law 1114 = .ok (.iinc 8 1, 3) := by decide +kernel
theorem dL_law_1117 : decode cL_law 1117 = .ok (.goto (-1012), 3) := by decide +kernel
theorem dL_law_1120 : decode cL_law 1120 = .ok (.aload 5, 2) := by decide +kernel
theorem dL_law_1122 : decode cL_law 1122 = .ok (.aload_n 1, 1) := by decide +kernel
theorem dL_law_1123 : decode cL_law 1123 = .ok (.invokevirtual 234, 3) := by decide +kernel
theorem dL_law_1126 : decode cL_law 1126 = .ok (.ifCond .ne 5, 3) := by decide +kernel
theorem dL_law_1129 : decode cL_law 1129 = .ok (.iconst 0, 1) := by decide +kernel
theorem dL_law_1130 : decode cL_law 1130 = .ok (.ireturn, 1) := by decide +kernel
theorem dL_law_1131 : decode cL_law 1131 = .ok (.iinc 2 1, 3) := by decide +kernel
theorem dL_law_1134 : decode cL_law 1134 = .ok (.goto (-1124), 3) := by decide +kernel
theorem dL_law_1137 : decode cL_law 1137 = .ok (.iconst 1, 1) := by decide +kernel
theorem dL_law_1138 : decode cL_law 1138 = .ok (.ireturn, 1) := by decide +kernel
