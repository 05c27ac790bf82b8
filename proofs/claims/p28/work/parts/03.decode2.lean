theorem dL_next_26 : decode cL_next 26 = .ok (.iconst 3, 1) := by decide +kernel
theorem dL_next_27 : decode cL_next 27 = .ok (.iload 6, 2) := by decide +kernel
theorem dL_next_29 : decode cL_next 29 = .ok (.imul, 1) := by decide +kernel
theorem dL_next_30 : decode cL_next 30 = .ok (.iconst 2, 1) := by decide +kernel
theorem dL_next_31 : decode cL_next 31 = .ok (.iadd, 1) := by decide +kernel
theorem dL_next_32 : decode cL_next 32 = .ok (.iaload, 1) := by decide +kernel
theorem dL_next_33 : decode cL_next 33 = .ok (.iconst 1, 1) := by decide +kernel
theorem dL_next_34 : decode cL_next 34 = .ok (.if_icmp .le 36, 3) := by decide +kernel
theorem dL_next_37 : decode cL_next 37 = .ok (.iload 7, 2) := by decide +kernel
theorem dL_next_39 : decode cL_next 39 = .ok (.ifCond .eq 18, 3) := by decide +kernel
theorem dL_next_42 : decode cL_next 42 = .ok (.aload_n 1, 1) := by decide +kernel
theorem dL_next_43 : decode cL_next 43 = .ok (.iconst 3, 1) := by decide +kernel
theorem dL_next_44 : decode cL_next 44 = .ok (.iload 6, 2) := by decide +kernel
theorem dL_next_46 : decode cL_next 46 = .ok (.imul, 1) := by decide +kernel
theorem dL_next_47 : decode cL_next 47 = .ok (.iconst 2, 1) := by decide +kernel
theorem dL_next_48 : decode cL_next 48 = .ok (.iadd, 1) := by decide +kernel
theorem dL_next_49 : decode cL_next 49 = .ok (.iaload, 1) := by decide +kernel
theorem dL_next_50 : decode cL_next 50 = .ok (.iconst 1, 1) := by decide +kernel
theorem dL_next_51 : decode cL_next 51 = .ok (.isub, 1) := by decide +kernel
theorem dL_next_52 : decode cL_next 52 = .ok (.iload 7, 2) := by decide +kernel
theorem dL_next_54 : decode cL_next 54 = .ok (.if_icmp .ge 16, 3) := by decide +kernel
theorem dL_next_57 : decode cL_next 57 = .ok (.aload_n 1, 1) := by decide +kernel
theorem dL_next_58 : decode cL_next 58 = .ok (.iconst 3, 1) := by decide +kernel
theorem dL_next_59 : decode cL_next 59 = .ok (.iload 6, 2) := by decide +kernel
theorem dL_next_61 : decode cL_next 61 = .ok (.imul, 1) := by decide +kernel
theorem dL_next_62 : decode cL_next 62 = .ok (.iconst 2, 1) := by decide +kernel
theorem dL_next_63 : decode cL_next 63 = .ok (.iadd, 1) := by decide +kernel
theorem dL_next_64 : decode cL_next 64 = .ok (.iaload, 1) := by decide +kernel
theorem dL_next_65 : decode cL_next 65 = .ok (.iconst 1, 1) := by decide +kernel
theorem dL_next_66 : decode cL_next 66 = .ok (.isub, 1) := by decide +kernel
theorem dL_next_67 : decode cL_next 67 = .ok (.goto 5, 3) := by decide +kernel
theorem dL_next_70 : decode cL_next 70 = .ok (.iload 7, 2) := by decide +kernel
theorem dL_next_72 : decode cL_next 72 = .ok (.istore 7, 2) := by decide +kernel
theorem dL_next_74 : decode cL_next 74 = .ok (.aload_n 2, 1) := by decide +kernel
theorem dL_next_75 : decode cL_next 75 = .ok (.iconst 3, 1) := by decide +kernel
theorem dL_next_76 : decode cL_next 76 = .ok (.iload 6, 2) := by decide +kernel
theorem dL_next_78 : decode cL_next 78 = .ok (.imul, 1) := by decide +kernel
theorem dL_next_79 : decode cL_next 79 = .ok (.iconst 1, 1) := by decide +kernel
theorem dL_next_80 : decode cL_next 80 = .ok (.iadd, 1) := by decide +kernel
theorem dL_next_81 : decode cL_next 81 = .ok (.iaload, 1) := by decide +kernel
theorem dL_next_82 : decode cL_next 82 = .ok (.iconst 1, 1) := by decide +kernel
theorem dL_next_83 : decode cL_next 83 = .ok (.if_icmp .le 36, 3) := by decide +kernel
theorem dL_next_86 : decode cL_next 86 = .ok (.iload 7, 2) := by decide +kernel
theorem dL_next_88 : decode cL_next 88 = .ok (.ifCond .eq 18, 3) := by decide +kernel
theorem dL_next_91 : decode cL_next 91 = .ok (.aload_n 2, 1) := by decide +kernel
theorem dL_next_92 : decode cL_next 92 = .ok (.iconst 3, 1) := by decide +kernel
theorem dL_next_93 : decode cL_next 93 = .ok (.iload 6, 2) := by decide +kernel
theorem dL_next_95 : decode cL_next 95 = .ok (.imul, 1) := by decide +kernel
theorem dL_next_96 : decode cL_next 96 = .ok (.iconst 1, 1) := by decide +kernel
theorem dL_next_97 : decode cL_next 97 = .ok (.iadd, 1) := by decide +kernel
theorem dL_next_98 : decode cL_next 98 = .ok (.iaload, 1) := by decide +kernel
theorem dL_next_99 : decode cL_next 99 = .ok (.iconst 1, 1) := by decide +kernel
theorem dL_next_100 : decode cL_next 100 = .ok (.isub, 1) := by decide +kernel
theorem dL_next_101 : decode cL_next 101 = .ok (.iload 7, 2) := by decide +kernel
theorem dL_next_103 : decode cL_next 103 = .ok (.if_icmp .ge 16, 3) := by decide +kernel
theorem dL_next_106 : decode cL_next 106 = .ok (.aload_n 2, 1) := by decide +kernel
theorem dL_next_107 : decode cL_next 107 = .ok (.iconst 3, 1) := by decide +kernel
theorem dL_next_108 : decode cL_next 108 = .ok (.iload 6, 2) := by decide +kernel
theorem dL_next_110 : decode cL_next 110 = .ok (.imul, 1) := by decide +kernel
theorem dL_next_111 : decode cL_next 111 = .ok (.iconst 1, 1) := by decide +kernel
theorem dL_next_112 : decode cL_next 112 = .ok (.iadd, 1) := by decide +kernel
theorem dL_next_113 : decode cL_next 113 = .ok (.iaload, 1) := by decide +kernel
theorem dL_next_114 : decode cL_next 114 = .ok (.iconst 1, 1) := by decide +kernel
theorem dL_next_115 : decode cL_next 115 = .ok (.isub, 1) := by decide +kernel
theorem dL_next_116 : decode cL_next 116 = .ok (.goto 5, 3) := by decide +kernel
theorem dL_next_119 : decode cL_next 119 = .ok (.iload 7, 2) := by decide +kernel
theorem dL_next_121 : decode cL_next 121 = .ok (.istore 7, 2) := by decide +kernel
theorem dL_next_123 : decode cL_next 123 = .ok (.iload 5, 2) := by decide +kernel
theorem dL_next_125 : decode cL_next 125 = .ok (.iload 7, 2) := by decide +kernel
theorem dL_next_127 : decode cL_next 127 = .ok (.aload_n 0, 1) := by decide +kernel
theorem dL_next_128 : decode cL_next 128 = .ok (.iconst 3, 1) := by decide +kernel
theorem dL_next_129 : decode cL_next 129 = .ok (.iload 6, 2) := by decide +kernel
theorem dL_next_131 : decode cL_next 131 = .ok (.imul, 1) := by decide +kernel
theorem dL_next_132 : decode cL_next 132 = .ok (.iconst 1, 1) := by decide +kernel
theorem dL_next_133 : decode cL_next 133 = .ok (.iadd, 1) := by decide +kernel
theorem dL_next_134 : decode cL_next 134 = .ok (.iaload, 1) := by decide +kernel
theorem dL_next_135 : decode cL_next 135 = .ok (.if_icmp .ne 7, 3) := by decide +kernel
theorem dL_next_138 : decode cL_next 138 = .ok (.iconst 0, 1) := by decide +kernel
theorem dL_next_139 : decode cL_next 139 = .ok (.goto 4, 3) := by decide +kernel
theorem dL_next_142 : decode cL_next 142 = .ok (.iconst 1, 1) := by decide +kernel
theorem dL_next_143 : decode cL_next 143 = .ok (.iadd, 1) := by decide +kernel
theorem dL_next_144 : decode cL_next 144 = .ok (.istore 5, 2) := by decide +kernel
theorem dL_next_146 : decode cL_next 146 = .ok (.aload_n 0, 1) := by decide +kernel
theorem dL_next_147 : decode cL_next 147 = .ok (.iconst 3, 1) := by decide +kernel
theorem dL_next_148 : decode cL_next 148 = .ok (.iload 6, 2) := by decide +kernel
theorem dL_next_150 : decode cL_next 150 = .ok (.imul, 1) := by decide +kernel
theorem dL_next_151 : decode cL_next 151 = .ok (.iconst 1, 1) := by decide +kernel
theorem dL_next_152 : decode cL_next 152 = .ok (.iadd, 1) := by decide +kernel
theorem dL_next_153 : decode cL_next 153 = .ok (.iload 7, 2) := by decide +kernel
theorem dL_next_155 : decode cL_next 155 = .ok (.iastore, 1) := by decide +kernel
theorem dL_next_156 : decode cL_next 156 = .ok (.aload_n 0, 1) := by decide +kernel
theorem dL_next_157 : decode cL_next 157 = .ok (.iconst 3, 1) := by decide +kernel
theorem dL_next_158 : decode cL_next 158 = .ok (.iload 6, 2) := by decide +kernel
theorem dL_next_160 : decode cL_next 160 = .ok (.imul, 1) := by decide +kernel
theorem dL_next_161 : decode cL_next 161 = .ok (.iconst 2, 1) := by decide +kernel
theorem dL_next_162 : decode cL_next 162 = .ok (.iadd, 1) := by decide +kernel
theorem dL_next_163 : decode cL_next 163 = .ok (.iconst 0, 1) := by decide +kernel
theorem dL_next_164 : decode cL_next 164 = .ok (.iastore, 1) := by decide +kernel
theorem dL_next_165 : decode cL_next 165 = .ok (.iconst 3, 1) := by decide +kernel
theorem dL_next_166 : decode cL_next 166 = .ok (.iload 6, 2) := by decide +kernel
theorem dL_next_168 : decode cL_next 168 = .ok (.imul, 1) := by decide +kernel
theorem dL_next_169 : decode cL_next 169 = .ok (.istore 8, 2) := by decide +kernel
theorem dL_next_171 : decode cL_next 171 = .ok (.iload 8, 2) := by decide +kernel
theorem dL_next_173 : decode cL_next 173 = .ok (.iconst 3, 1) := by decide +kernel
theorem dL_next_174 : decode cL_next 174 = .ok (.iload 6, 2) := by decide +kernel
theorem dL_next_176 : decode cL_next 176 = .ok (.imul, 1) := by decide +kernel
theorem dL_next_177 : decode cL_next 177 = .ok (.iconst 3, 1) := by decide +kernel
theorem dL_next_178 : decode cL_next 178 = .ok (.iadd, 1) := by decide +kernel
theorem dL_next_179 : decode cL_next 179 = .ok (.if_icmp .ge 19, 3) := by decide +kernel
theorem dL_next_182 : decode cL_next 182 = .ok (.aload_n 1, 1) := by decide +kernel
theorem dL_next_183 : decode cL_next 183 = .ok (.iload 8, 2) := by decide +kernel
theorem dL_next_185 : decode cL_next 185 = .ok (.iconst 0, 1) := by decide +kernel
theorem dL_next_186 : decode cL_next 186 = .ok (.iastore, 1) := by decide +kernel
theorem dL_next_187 : decode cL_next 187 = .ok (.aload_n 2, 1) := by decide +kernel
theorem dL_next_188 : decode cL_next 188 = .ok (.iload 8, 2) := by decide +kernel
theorem dL_next_190 : decode cL_next 190 = .ok (.iconst 0, 1) := by decide +kernel
theorem dL_next_191 : decode cL_next 191 = .ok (.iastore, 1) := by decide +kernel
theorem dL_next_192 : decode cL_next 192 = .ok (.iinc 8 1, 3) := by decide +kernel
theorem dL_next_195 : decode cL_next 195 = .ok (.goto (-24), 3) := by decide +kernel
theorem dL_next_198 : decode cL_next 198 = .ok (.iinc 6 1, 3) := by decide +kernel
theorem dL_next_201 : decode cL_next 201 = .ok (.goto (-195), 3) := by decide +kernel
theorem dL_next_204 : decode cL_next 204 = .ok (.iconst 0, 1) := by decide +kernel
theorem dL_next_205 : decode cL_next 205 = .ok (.istore 6, 2) := by decide +kernel
theorem dL_next_207 : decode cL_next 207 = .ok (.iload 6, 2) := by decide +kernel
theorem dL_next_209 : decode cL_next 209 = .ok (.iconst 4, 1) := by decide +kernel
theorem dL_next_210 : decode cL_next 210 = .ok (.if_icmp .ge 14, 3) := by decide +kernel
theorem dL_next_213 : decode cL_next 213 = .ok (.aload_n 3, 1) := by decide +kernel
theorem dL_next_214 : decode cL_next 214 = .ok (.iload 6, 2) := by decide +kernel
theorem dL_next_216 : decode cL_next 216 = .ok (.iconst 0, 1) := by decide +kernel
theorem dL_next_217 : decode cL_next 217 = .ok (.iastore, 1) := by decide +kernel
theorem dL_next_218 : decode cL_next 218 = .ok (.iinc 6 1, 3) := by decide +kernel
theorem dL_next_221 : decode cL_next 221 = .ok (.goto (-14), 3) := by decide +kernel
theorem dL_next_224 : decode cL_next 224 = .ok (.aload 4, 2) := by decide +kernel
theorem dL_next_226 : decode cL_next 226 = .ok (.iconst 0, 1) := by decide +kernel
theorem dL_next_227 : decode cL_next 227 = .ok (.iconst 0, 1) := by decide +kernel
theorem dL_next_228 : decode cL_next 228 = .ok (.iastore, 1) := by decide +kernel
theorem dL_next_229 : decode cL_next 229 = .ok (.aload 4, 2) := by decide +kernel
theorem dL_next_231 : decode cL_next 231 = .ok (.iconst 2, 1) := by decide +kernel
theorem dL_next_232 : decode cL_next 232 = .ok (.iconst 0, 1) := by decide +kernel
theorem dL_next_233 : decode cL_next 233 = .ok (.iastore, 1) := by decide +kernel
theorem dL_next_234 : decode cL_next 234 = .ok (.iload 5, 2) := by decide +kernel
theorem dL_next_236 : decode cL_next 236 = .ok (.ireturn, 1) := by decide +kernel
theorem dL_swum_0 : decode cL_swum 0 = .ok (.aload_n 2, 1) := by decide +kernel
theorem dL_swum_1 : decode cL_swum 1 = .ok (.iconst 0, 1) := by decide +kernel
theorem dL_swum_2 : decode cL_swum 2 = .ok (.iaload, 1) := by decide +kernel
theorem dL_swum_3 : decode cL_swum 3 = .ok (.iconst 1, 1) := by decide +kernel
theorem dL_swum_4 : decode cL_swum 4 = .ok (.if_icmp .ne 17, 3) := by decide +kernel
theorem dL_swum_7 : decode cL_swum 7 = .ok (.aload_n 0, 1) := by decide +kernel
theorem dL_swum_8 : decode cL_swum 8 = .ok (.iconst 3, 1) := by decide +kernel
theorem dL_swum_9 : decode cL_swum 9 = .ok (.iload_n 3, 1) := by decide +kernel
theorem dL_swum_10 : decode cL_swum 10 = .ok (.imul, 1) := by decide +kernel
theorem dL_swum_11 : decode cL_swum 11 = .ok (.iconst 2, 1) := by decide +kernel
theorem dL_swum_12 : decode cL_swum 12 = .ok (.iadd, 1) := by decide +kernel
theorem dL_swum_13 : decode cL_swum 13 = .ok (.iload 4, 2) := by decide +kernel
theorem dL_swum_15 : decode cL_swum 15 = .ok (.iconst 1, 1) := by decide +kernel
theorem dL_swum_16 : decode cL_swum 16 = .ok (.iadd, 1) := by decide +kernel
theorem dL_swum_17 : decode cL_swum 17 = .ok (.iastore, 1) := by decide +kernel
theorem dL_swum_18 : decode cL_swum 18 = .ok (.goto 14, 3) := by decide +kernel
theorem dL_swum_21 : decode cL_swum 21 = .ok (.aload_n 1, 1) := by decide +kernel
theorem dL_swum_22 : decode cL_swum 22 = .ok (.iconst 3, 1) := by decide +kernel
theorem dL_swum_23 : decode cL_swum 23 = .ok (.iload_n 3, 1) := by decide +kernel
theorem dL_swum_24 : decode cL_swum 24 = .ok (.imul, 1) := by decide +kernel
theorem dL_swum_25 : decode cL_swum 25 = .ok (.iconst 1, 1) := by decide +kernel
theorem dL_swum_26 : decode cL_swum 26 = .ok (.iadd, 1) := by decide +kernel
theorem dL_swum_27 : decode cL_swum 27 = .ok (.iload 4, 2) := by decide +kernel
theorem dL_swum_29 : decode cL_swum 29 = .ok (.iconst 1, 1) := by decide +kernel
theorem dL_swum_30 : decode cL_swum 30 = .ok (.iadd, 1) := by decide +kernel
theorem dL_swum_31 : decode cL_swum 31 = .ok (.iastore, 1) := by decide +kernel
theorem dL_swum_32 : decode cL_swum 32 = .ok (.aload_n 2, 1) := by decide +kernel
theorem dL_swum_33 : decode cL_swum 33 = .ok (.iconst 5, 1) := by decide +kernel
theorem dL_swum_34 : decode cL_swum 34 = .ok (.iload 4, 2) := by decide +kernel
theorem dL_swum_36 : decode cL_swum 36 = .ok (.ifCond .le 21, 3) := by decide +kernel
theorem dL_swum_39 : decode cL_swum 39 = .ok (.aload_n 2, 1) := by decide +kernel
theorem dL_swum_40 : decode cL_swum 40 = .ok (.iconst 4, 1) := by decide +kernel
theorem dL_swum_41 : decode cL_swum 41 = .ok (.iaload, 1) := by decide +kernel
theorem dL_swum_42 : decode cL_swum 42 = .ok (.ifCond .eq 11, 3) := by decide +kernel
theorem dL_swum_45 : decode cL_swum 45 = .ok (.iload 4, 2) := by decide +kernel
theorem dL_swum_47 : decode cL_swum 47 = .ok (.aload_n 2, 1) := by decide +kernel
theorem dL_swum_48 : decode cL_swum 48 = .ok (.iconst 4, 1) := by decide +kernel
theorem dL_swum_49 : decode cL_swum 49 = .ok (.iaload, 1) := by decide +kernel
theorem dL_swum_50 : decode cL_swum 50 = .ok (.if_icmp .ge 7, 3) := by decide +kernel
theorem dL_swum_53 : decode cL_swum 53 = .ok (.iload_n 3, 1) := by decide +kernel
theorem dL_swum_54 : decode cL_swum 54 = .ok (.goto 6, 3) := by decide +kernel
theorem dL_swum_57 : decode cL_swum 57 = .ok (.aload_n 2, 1) := by decide +kernel
theorem dL_swum_58 : decode cL_swum 58 = .ok (.iconst 5, 1) := by decide +kernel
theorem dL_swum_59 : decode cL_swum 59 = .ok (.iaload, 1) := by decide +kernel
theorem dL_swum_60 : decode cL_swum 60 = .ok (.iastore, 1) := by decide +kernel
theorem dL_swum_61 : decode cL_swum 61 = .ok (.aload_n 2, 1) := by decide +kernel
theorem dL_swum_62 : decode cL_swum 62 = .ok (.iconst 4, 1) := by decide +kernel
theorem dL_swum_63 : decode cL_swum 63 = .ok (.iload 4, 2) := by decide +kernel
theorem dL_swum_65 : decode cL_swum 65 = .ok (.ifCond .le 22, 3) := by decide +kernel
theorem dL_swum_68 : decode cL_swum 68 = .ok (.aload_n 2, 1) := by decide +kernel
theorem dL_swum_69 : decode cL_swum 69 = .ok (.iconst 4, 1) := by decide +kernel
theorem dL_swum_70 : decode cL_swum 70 = .ok (.iaload, 1) := by decide +kernel
theorem dL_swum_71 : decode cL_swum 71 = .ok (.ifCond .eq 11, 3) := by decide +kernel
theorem dL_swum_74 : decode cL_swum 74 = .ok (.iload 4, 2) := by decide +kernel
theorem dL_swum_76 : decode cL_swum 76 = .ok (.aload_n 2, 1) := by decide +kernel
theorem dL_swum_77 : decode cL_swum 77 = .ok (.iconst 4, 1) := by decide +kernel
theorem dL_swum_78 : decode cL_swum 78 = .ok (.iaload, 1) := by decide +kernel
theorem dL_swum_79 : decode cL_swum 79 = .ok (.if_icmp .ge 8, 3) := by decide +kernel
theorem dL_swum_82 : decode cL_swum 82 = .ok (.iload 4, 2) := by decide +kernel
theorem dL_swum_84 : decode cL_swum 84 = .ok (.goto 6, 3) := by decide +kernel
theorem dL_swum_87 : decode cL_swum 87 = .ok (.aload_n 2, 1) := by decide +kernel
theorem dL_swum_88 : decode cL_swum 88 = .ok (.iconst 4, 1) := by decide +kernel
theorem dL_swum_89 : decode cL_swum 89 = .ok (.iaload, 1) := by decide +kernel
theorem dL_swum_90 : decode cL_swum 90 = .ok (.iastore, 1) := by decide +kernel
theorem dL_swum_91 : decode cL_swum 91 = .ok (.iconst 0, 1) := by decide +kernel
theorem dL_swum_92 : decode cL_swum 92 = .ok (.istore 5, 2) := by decide +kernel
theorem dL_swum_94 : decode cL_swum 94 = .ok (.iconst 0, 1) := by decide +kernel
theorem dL_swum_95 : decode cL_swum 95 = .ok (.istore 6, 2) := by decide +kernel
theorem dL_swum_97 : decode cL_swum 97 = .ok (.iload 6, 2) := by decide +kernel
theorem dL_swum_99 : decode cL_swum 99 = .ok (.aload_n 2, 1) := by decide +kernel
theorem dL_swum_100 : decode cL_swum 100 = .ok (.iconst 1, 1) := by decide +kernel
theorem dL_swum_101 : decode cL_swum 101 = .ok (.iaload, 1) := by decide +kernel
theorem dL_swum_102 : decode cL_swum 102 = .ok (.if_icmp .ge 46, 3) := by decide +kernel
theorem dL_swum_105 : decode cL_swum 105 = .ok (.iload 5, 2) := by decide +kernel
theorem dL_swum_107 : decode cL_swum 107 = .ok (.aload_n 0, 1) := by decide +kernel
theorem dL_swum_108 : decode cL_swum 108 = .ok (.aload_n 1, 1) := by decide +kernel
theorem dL_swum_109 : decode cL_swum 109 = .ok (.aload_n 2, 1) := by decide +kernel
theorem dL_swum_110 : decode cL_swum 110 = .ok (.iload 6, 2) := by decide +kernel
theorem dL_swum_112 : decode cL_swum 112 = .ok (.invokestatic 27, 3) := by decide +kernel
theorem dL_swum_115 : decode cL_swum 115 = .ok (.iconst 1, 1) := by decide +kernel
theorem dL_swum_116 : decode cL_swum 116 = .ok (.if_icmp .le 22, 3) := by decide +kernel
theorem dL_swum_119 : decode cL_swum 119 = .ok (.aload_n 0, 1) := by decide +kernel
theorem dL_swum_120 : decode cL_swum 120 = .ok (.aload_n 1, 1) := by decide +kernel
theorem dL_swum_121 : decode cL_swum 121 = .ok (.aload_n 2, 1) := by decide +kernel
theorem dL_swum_122 : decode cL_swum 122 = .ok (.iload 6, 2) := by decide +kernel
theorem dL_swum_124 : decode cL_swum 124 = .ok (.invokestatic 27, 3) := by decide +kernel
theorem dL_swum_127 : decode cL_swum 127 = .ok (.iconst 1, 1) := by decide +kernel
theorem dL_swum_128 : decode cL_swum 128 = .ok (.isub, 1) := by decide +kernel
theorem dL_swum_129 : decode cL_swum 129 = .ok (.iload 4, 2) := by decide +kernel
theorem dL_swum_131 : decode cL_swum 131 = .ok (.if_icmp .ge 7, 3) := by decide +kernel
theorem dL_swum_134 : decode cL_swum 134 = .ok (.iconst 1, 1) := by decide +kernel
theorem dL_swum_135 : decode cL_swum 135 = .ok (.goto 4, 3) := by decide +kernel
theorem dL_swum_138 : decode cL_swum 138 = .ok (.iconst 0, 1) := by decide +kernel
theorem dL_swum_139 : decode cL_swum 139 = .ok (.iadd, 1) := by decide +kernel
theorem dL_swum_140 : decode cL_swum 140 = .ok (.istore 5, 2) := by decide +kernel
theorem dL_swum_142 : decode cL_swum 142 = .ok (.iinc 6 1, 3) := by decide +kernel
theorem dL_swum_145 : decode cL_swum 145 = .ok (.goto (-48), 3) := by decide +kernel
theorem dL_swum_148 : decode cL_swum 148 = .ok (.iload 4, 2) := by decide +kernel
theorem dL_swum_150 : decode cL_swum 150 = .ok (.ifCond .ne 8, 3) := by decide +kernel
theorem dL_swum_153 : decode cL_swum 153 = .ok (.bipush 100, 2) := by decide +kernel
theorem dL_swum_155 : decode cL_swum 155 = .ok (.goto 5, 3) := by decide +kernel
theorem dL_swum_158 : decode cL_swum 158 = .ok (.iload 5, 2) := by decide +kernel
theorem dL_swum_160 : decode cL_swum 160 = .ok (.ireturn, 1) := by decide +kernel
theorem dL_areSwimmers_0 : decode cL_areSwimmers 0 = .ok (.iconst 0, 1) := by decide +kernel
theorem dL_areSwimmers_1 : decode cL_areSwimmers 1 = .ok (.istore 6, 2) := by decide +kernel
theorem dL_areSwimmers_3 : decode cL_areSwimmers 3 = .ok (.iconst 0, 1) := by decide +kernel
theorem dL_areSwimmers_4 : decode cL_areSwimmers 4 = .ok (.istore 7, 2) := by decide +kernel
theorem dL_areSwimmers_6 : decode cL_areSwimmers 6 = .ok (.iconst 0, 1) := by decide +kernel
theorem dL_areSwimmers_7 : decode cL_areSwimmers 7 = .ok (.istore 8, 2) := by decide +kernel
theorem dL_areSwimmers_9 : decode cL_areSwimmers 9 = .ok (.aload_n 0, 1) := by decide +kernel
theorem dL_areSwimmers_10 : decode cL_areSwimmers 10 = .ok (.aload 5, 2) := by decide +kernel
theorem dL_areSwimmers_12 : decode cL_areSwimmers 12 = .ok (.iconst 1, 1) := by decide +kernel
theorem dL_areSwimmers_13 : decode cL_areSwimmers 13 = .ok (.iaload, 1) := by decide +kernel
theorem dL_areSwimmers_14 : decode cL_areSwimmers 14 = .ok (.iconst 0, 1) := by decide +kernel
theorem dL_areSwimmers_15 : decode cL_areSwimmers 15 = .ok (.invokevirtual 34, 3) := by decide +kernel
theorem dL_areSwimmers_18 : decode cL_areSwimmers 18 = .ok (.ldc 39, 2) := by decide +kernel
theorem dL_areSwimmers_20 : decode cL_areSwimmers 20 = .ok (.if_icmp .ne 18, 3) := by decide +kernel
theorem dL_areSwimmers_23 : decode cL_areSwimmers 23 = .ok (.aload_n 0, 1) := by decide +kernel
theorem dL_areSwimmers_24 : decode cL_areSwimmers 24 = .ok (.iconst (-1), 1) := by decide +kernel
theorem dL_areSwimmers_25 : decode cL_areSwimmers 25 = .ok (.iconst 0, 1) := by decide +kernel
theorem dL_areSwimmers_26 : decode cL_areSwimmers 26 = .ok (.invokevirtual 34, 3) := by decide +kernel
theorem dL_areSwimmers_29 : decode cL_areSwimmers 29 = .ok (.ldc 39, 2) := by decide +kernel
theorem dL_areSwimmers_31 : decode cL_areSwimmers 31 = .ok (.if_icmp .ne 7, 3) := by decide +kernel
theorem dL_areSwimmers_34 : decode cL_areSwimmers 34 = .ok (.iconst 1, 1) := by decide +kernel
theorem dL_areSwimmers_35 : decode cL_areSwimmers 35 = .ok (.goto 4, 3) := by decide +kernel
theorem dL_areSwimmers_38 : decode cL_areSwimmers 38 = .ok (.iconst 0, 1) := by decide +kernel
theorem dL_areSwimmers_39 : decode cL_areSwimmers 39 = .ok (.istore 9, 2) := by decide +kernel
theorem dL_areSwimmers_41 : decode cL_areSwimmers 41 = .ok (.iconst 0, 1) := by decide +kernel
theorem dL_areSwimmers_42 : decode cL_areSwimmers 42 = .ok (.istore 10, 2) := by decide +kernel
theorem dL_areSwimmers_44 : decode cL_areSwimmers 44 = .ok (.iload 10, 2) := by decide +kernel
theorem dL_areSwimmers_46 : decode cL_areSwimmers 46 = .ok (.aload 5, 2) := by decide +kernel
theorem dL_areSwimmers_48 : decode cL_areSwimmers 48 = .ok (.iconst 1, 1) := by decide +kernel
theorem dL_areSwimmers_49 : decode cL_areSwimmers 49 = .ok (.iaload, 1) := by decide +kernel
theorem dL_areSwimmers_50 : decode cL_areSwimmers 50 = .ok (.if_icmp .ge 441, 3) := by decide +kernel
theorem dL_areSwimmers_53 : decode cL_areSwimmers 53 = .ok (.iload 9, 2) := by decide +kernel
theorem dL_areSwimmers_55 : decode cL_areSwimmers 55 = .ok (.ifCond .eq 436, 3) := by decide +kernel
theorem dL_areSwimmers_58 : decode cL_areSwimmers 58 = .ok (.iload 6, 2) := by decide +kernel
theorem dL_areSwimmers_60 : decode cL_areSwimmers 60 = .ok (.aload_n 1, 1) := by decide +kernel
theorem dL_areSwimmers_61 : decode cL_areSwimmers 61 = .ok (.iconst 3, 1) := by decide +kernel
theorem dL_areSwimmers_62 : decode cL_areSwimmers 62 = .ok (.iload 10, 2) := by decide +kernel
theorem dL_areSwimmers_64 : decode cL_areSwimmers 64 = .ok (.imul, 1) := by decide +kernel
theorem dL_areSwimmers_65 : decode cL_areSwimmers 65 = .ok (.iconst 2, 1) := by decide +kernel
theorem dL_areSwimmers_66 : decode cL_areSwimmers 66 = .ok (.iadd, 1) := by decide +kernel
theorem dL_areSwimmers_67 : decode cL_areSwimmers 67 = .ok (.iaload, 1) := by decide +kernel
theorem dL_areSwimmers_68 : decode cL_areSwimmers 68 = .ok (.iload 10, 2) := by decide +kernel
theorem dL_areSwimmers_70 : decode cL_areSwimmers 70 = .ok (.ishl, 1) := by decide +kernel
theorem dL_areSwimmers_71 : decode cL_areSwimmers 71 = .ok (.ior, 1) := by decide +kernel
theorem dL_areSwimmers_72 : decode cL_areSwimmers 72 = .ok (.istore 6, 2) := by decide +kernel
theorem dL_areSwimmers_74 : decode cL_areSwimmers 74 = .ok (.iload 7, 2) := by decide +kernel
theorem dL_areSwimmers_76 : decode cL_areSwimmers 76 = .ok (.aload_n 3, 1) := by decide +kernel
theorem dL_areSwimmers_77 : decode cL_areSwimmers 77 = .ok (.iconst 3, 1) := by decide +kernel
theorem dL_areSwimmers_78 : decode cL_areSwimmers 78 = .ok (.iload 10, 2) := by decide +kernel
theorem dL_areSwimmers_80 : decode cL_areSwimmers 80 = .ok (.imul, 1) := by decide +kernel
theorem dL_areSwimmers_81 : decode cL_areSwimmers 81 = .ok (.iaload, 1) := by decide +kernel
theorem dL_areSwimmers_82 : decode cL_areSwimmers 82 = .ok (.ifCond .le 10, 3) := by decide +kernel
theorem dL_areSwimmers_85 : decode cL_areSwimmers 85 = .ok (.iconst 1, 1) := by decide +kernel
theorem dL_areSwimmers_86 : decode cL_areSwimmers 86 = .ok (.iload 10, 2) := by decide +kernel
theorem dL_areSwimmers_88 : decode cL_areSwimmers 88 = .ok (.ishl, 1) := by decide +kernel
theorem dL_areSwimmers_89 : decode cL_areSwimmers 89 = .ok (.goto 4, 3) := by decide +kernel
theorem dL_areSwimmers_92 : decode cL_areSwimmers 92 = .ok (.iconst 0, 1) := by decide +kernel
theorem dL_areSwimmers_93 : decode cL_areSwimmers 93 = .ok (.ior, 1) := by decide +kernel
theorem dL_areSwimmers_94 : decode cL_areSwimmers 94 = .ok (.istore 7, 2) := by decide +kernel
theorem dL_areSwimmers_96 : decode cL_areSwimmers 96 = .ok (.iload 8, 2) := by decide +kernel
theorem dL_areSwimmers_98 : decode cL_areSwimmers 98 = .ok (.aload_n 2, 1) := by decide +kernel
theorem dL_areSwimmers_99 : decode cL_areSwimmers 99 = .ok (.iconst 3, 1) := by decide +kernel
theorem dL_areSwimmers_100 : decode cL_areSwimmers 100 = .ok (.iload 10, 2) := by decide +kernel
theorem dL_areSwimmers_102 : decode cL_areSwimmers 102 = .ok (.imul, 1) := by decide +kernel
theorem dL_areSwimmers_103 : decode cL_areSwimmers 103 = .ok (.iconst 2, 1) := by decide +kernel
theorem dL_areSwimmers_104 : decode cL_areSwimmers 104 = .ok (.iadd, 1) := by decide +kernel
theorem dL_areSwimmers_105 : decode cL_areSwimmers 105 = .ok (.iaload, 1) := by decide +kernel
theorem dL_areSwimmers_106 : decode cL_areSwimmers 106 = .ok (.ifCond .le 7, 3) := by decide +kernel
theorem dL_areSwimmers_109 : decode cL_areSwimmers 109 = .ok (.iconst 1, 1) := by decide +kernel
theorem dL_areSwimmers_110 : decode cL_areSwimmers 110 = .ok (.goto 4, 3) := by decide +kernel
theorem dL_areSwimmers_113 : decode cL_areSwimmers 113 = .ok (.iconst 0, 1) := by decide +kernel
theorem dL_areSwimmers_114 : decode cL_areSwimmers 114 = .ok (.aload_n 3, 1) := by decide +kernel
theorem dL_areSwimmers_115 : decode cL_areSwimmers 115 = .ok (.iconst 3, 1) := by decide +kernel
theorem dL_areSwimmers_116 : decode cL_areSwimmers 116 = .ok (.iload 10, 2) := by decide +kernel
theorem dL_areSwimmers_118 : decode cL_areSwimmers 118 = .ok (.imul, 1) := by decide +kernel
theorem dL_areSwimmers_119 : decode cL_areSwimmers 119 = .ok (.iconst 1, 1) := by decide +kernel
theorem dL_areSwimmers_120 : decode cL_areSwimmers 120 = .ok (.iadd, 1) := by decide +kernel
theorem dL_areSwimmers_121 : decode cL_areSwimmers 121 = .ok (.iaload, 1) := by decide +kernel
theorem dL_areSwimmers_122 : decode cL_areSwimmers 122 = .ok (.ifCond .le 7, 3) := by decide +kernel
theorem dL_areSwimmers_125 : decode cL_areSwimmers 125 = .ok (.iconst 1, 1) := by decide +kernel
theorem dL_areSwimmers_126 : decode cL_areSwimmers 126 = .ok (.goto 4, 3) := by decide +kernel
theorem dL_areSwimmers_129 : decode cL_areSwimmers 129 = .ok (.iconst 0, 1) := by decide +kernel
theorem dL_areSwimmers_130 : decode cL_areSwimmers 130 = .ok (.iadd, 1) := by decide +kernel
theorem dL_areSwimmers_131 : decode cL_areSwimmers 131 = .ok (.iadd, 1) := by decide +kernel
theorem dL_areSwimmers_132 : decode cL_areSwimmers 132 = .ok (.istore 8, 2) := by decide +kernel
theorem dL_areSwimmers_134 : decode cL_areSwimmers 134 = .ok (.aload_n 0, 1) := by decide +kernel
theorem dL_areSwimmers_135 : decode cL_areSwimmers 135 = .ok (.iload 10, 2) := by decide +kernel
theorem dL_areSwimmers_137 : decode cL_areSwimmers 137 = .ok (.iconst 0, 1) := by decide +kernel
theorem dL_areSwimmers_138 : decode cL_areSwimmers 138 = .ok (.invokevirtual 34, 3) := by decide +kernel
theorem dL_areSwimmers_141 : decode cL_areSwimmers 141 = .ok (.aload_n 1, 1) := by decide +kernel
theorem dL_areSwimmers_142 : decode cL_areSwimmers 142 = .ok (.iconst 3, 1) := by decide +kernel
theorem dL_areSwimmers_143 : decode cL_areSwimmers 143 = .ok (.iload 10, 2) := by decide +kernel
theorem dL_areSwimmers_145 : decode cL_areSwimmers 145 = .ok (.imul, 1) := by decide +kernel
theorem dL_areSwimmers_146 : decode cL_areSwimmers 146 = .ok (.iaload, 1) := by decide +kernel
theorem dL_areSwimmers_147 : decode cL_areSwimmers 147 = .ok (.if_icmp .ne 335, 3) := by decide +kernel
theorem dL_areSwimmers_150 : decode cL_areSwimmers 150 = .ok (.aload_n 0, 1) := by decide +kernel
theorem dL_areSwimmers_151 : decode cL_areSwimmers 151 = .ok (.iload 10, 2) := by decide +kernel
theorem dL_areSwimmers_153 : decode cL_areSwimmers 153 = .ok (.iconst 1, 1) := by decide +kernel
theorem dL_areSwimmers_154 : decode cL_areSwimmers 154 = .ok (.invokevirtual 34, 3) := by decide +kernel
theorem dL_areSwimmers_157 : decode cL_areSwimmers 157 = .ok (.aload_n 1, 1) := by decide +kernel
theorem dL_areSwimmers_158 : decode cL_areSwimmers 158 = .ok (.iconst 3, 1) := by decide +kernel
theorem dL_areSwimmers_159 : decode cL_areSwimmers 159 = .ok (.iload 10, 2) := by decide +kernel
theorem dL_areSwimmers_161 : decode cL_areSwimmers 161 = .ok (.imul, 1) := by decide +kernel
theorem dL_areSwimmers_162 : decode cL_areSwimmers 162 = .ok (.iconst 1, 1) := by decide +kernel
theorem dL_areSwimmers_163 : decode cL_areSwimmers 163 = .ok (.iadd, 1) := by decide +kernel
theorem dL_areSwimmers_164 : decode cL_areSwimmers 164 = .ok (.iaload, 1) := by decide +kernel
theorem dL_areSwimmers_165 : decode cL_areSwimmers 165 = .ok (.if_icmp .ne 317, 3) := by decide +kernel
theorem dL_areSwimmers_168 : decode cL_areSwimmers 168 = .ok (.aload_n 0, 1) := by decide +kernel
theorem dL_areSwimmers_169 : decode cL_areSwimmers 169 = .ok (.iload 10, 2) := by decide +kernel
theorem dL_areSwimmers_171 : decode cL_areSwimmers 171 = .ok (.iconst 2, 1) := by decide +kernel
theorem dL_areSwimmers_172 : decode cL_areSwimmers 172 = .ok (.invokevirtual 34, 3) := by decide +kernel
theorem dL_areSwimmers_175 : decode cL_areSwimmers 175 = .ok (.aload_n 1, 1) := by decide +kernel
theorem dL_areSwimmers_176 : decode cL_areSwimmers 176 = .ok (.iconst 3, 1) := by decide +kernel
theorem dL_areSwimmers_177 : decode cL_areSwimmers 177 = .ok (.iload 10, 2) := by decide +kernel
theorem dL_areSwimmers_179 : decode cL_areSwimmers 179 = .ok (.imul, 1) := by decide +kernel
theorem dL_areSwimmers_180 : decode cL_areSwimmers 180 = .ok (.iconst 2, 1) := by decide +kernel
theorem dL_areSwimmers_181 : decode cL_areSwimmers 181 = .ok (.iadd, 1) := by decide +kernel
theorem dL_areSwimmers_182 : decode cL_areSwimmers 182 = .ok (.iaload, 1) := by decide +kernel
theorem dL_areSwimmers_183 : decode cL_areSwimmers 183 = .ok (.iconst 1, 1) := by decide +kernel
theorem dL_areSwimmers_184 : decode cL_areSwimmers 184 = .ok (.if_icmp .ne 8, 3) := by decide +kernel
theorem dL_areSwimmers_187 : decode cL_areSwimmers 187 = .ok (.ldc 40, 2) := by decide +kernel
theorem dL_areSwimmers_189 : decode cL_areSwimmers 189 = .ok (.goto 11, 3) := by decide +kernel
theorem dL_areSwimmers_192 : decode cL_areSwimmers 192 = .ok (.aload_n 1, 1) := by decide +kernel
theorem dL_areSwimmers_193 : decode cL_areSwimmers 193 = .ok (.aload 5, 2) := by decide +kernel
theorem dL_areSwimmers_195 : decode cL_areSwimmers 195 = .ok (.iload 10, 2) := by decide +kernel
theorem dL_areSwimmers_197 : decode cL_areSwimmers 197 = .ok (.invokestatic 15, 3) := by decide +kernel
theorem dL_areSwimmers_200 : decode cL_areSwimmers 200 = .ok (.if_icmp .ne 282, 3) := by decide +kernel
theorem dL_areSwimmers_203 : decode cL_areSwimmers 203 = .ok (.aload_n 0, 1) := by decide +kernel
theorem dL_areSwimmers_204 : decode cL_areSwimmers 204 = .ok (.iload 10, 2) := by decide +kernel
theorem dL_areSwimmers_206 : decode cL_areSwimmers 206 = .ok (.iconst 3, 1) := by decide +kernel
theorem dL_areSwimmers_207 : decode cL_areSwimmers 207 = .ok (.invokevirtual 34, 3) := by decide +kernel
theorem dL_areSwimmers_210 : decode cL_areSwimmers 210 = .ok (.aload_n 2, 1) := by decide +kernel
theorem dL_areSwimmers_211 : decode cL_areSwimmers 211 = .ok (.iconst 3, 1) := by decide +kernel
theorem dL_areSwimmers_212 : decode cL_areSwimmers 212 = .ok (.iload 10, 2) := by decide +kernel
theorem dL_areSwimmers_214 : decode cL_areSwimmers 214 = .ok (.imul, 1) := by decide +kernel
theorem dL_areSwimmers_215 : decode cL_areSwimmers 215 = .ok (.iaload, 1) := by decide +kernel
theorem dL_areSwimmers_216 : decode cL_areSwimmers 216 = .ok (.ifCond .le 14, 3) := by decide +kernel
theorem dL_areSwimmers_219 : decode cL_areSwimmers 219 = .ok (.aload_n 2, 1) := by decide +kernel
theorem dL_areSwimmers_220 : decode cL_areSwimmers 220 = .ok (.iconst 3, 1) := by decide +kernel
theorem dL_areSwimmers_221 : decode cL_areSwimmers 221 = .ok (.iload 10, 2) := by decide +kernel
theorem dL_areSwimmers_223 : decode cL_areSwimmers 223 = .ok (.imul, 1) := by decide +kernel
theorem dL_areSwimmers_224 : decode cL_areSwimmers 224 = .ok (.iaload, 1) := by decide +kernel
theorem dL_areSwimmers_225 : decode cL_areSwimmers 225 = .ok (.iconst 1, 1) := by decide +kernel
theorem dL_areSwimmers_226 : decode cL_areSwimmers 226 = .ok (.isub, 1) := by decide +kernel
theorem dL_areSwimmers_227 : decode cL_areSwimmers 227 = .ok (.goto 5, 3) := by decide +kernel
theorem dL_areSwimmers_230 : decode cL_areSwimmers 230 = .ok (.ldc 40, 2) := by decide +kernel
theorem dL_areSwimmers_232 : decode cL_areSwimmers 232 = .ok (.if_icmp .ne 250, 3) := by decide +kernel
theorem dL_areSwimmers_235 : decode cL_areSwimmers 235 = .ok (.aload_n 0, 1) := by decide +kernel
theorem dL_areSwimmers_236 : decode cL_areSwimmers 236 = .ok (.iload 10, 2) := by decide +kernel
theorem dL_areSwimmers_238 : decode cL_areSwimmers 238 = .ok (.iconst 4, 1) := by decide +kernel
theorem dL_areSwimmers_239 : decode cL_areSwimmers 239 = .ok (.invokevirtual 34, 3) := by decide +kernel
theorem dL_areSwimmers_242 : decode cL_areSwimmers 242 = .ok (.aload_n 2, 1) := by decide +kernel
theorem dL_areSwimmers_243 : decode cL_areSwimmers 243 = .ok (.iconst 3, 1) := by decide +kernel
theorem dL_areSwimmers_244 : decode cL_areSwimmers 244 = .ok (.iload 10, 2) := by decide +kernel
theorem dL_areSwimmers_246 : decode cL_areSwimmers 246 = .ok (.imul, 1) := by decide +kernel
theorem dL_areSwimmers_247 : decode cL_areSwimmers 247 = .ok (.iaload, 1) := by decide +kernel
theorem dL_areSwimmers_248 : decode cL_areSwimmers 248 = .ok (.ifCond .le 14, 3) := by decide +kernel
theorem dL_areSwimmers_251 : decode cL_areSwimmers 251 = .ok (.aload_n 2, 1) := by decide +kernel
theorem dL_areSwimmers_252 : decode cL_areSwimmers 252 = .ok (.iconst 3, 1) := by decide +kernel
theorem dL_areSwimmers_253 : decode cL_areSwimmers 253 = .ok (.iload 10, 2) := by decide +kernel
theorem dL_areSwimmers_255 : decode cL_areSwimmers 255 = .ok (.imul, 1) := by decide +kernel
theorem dL_areSwimmers_256 : decode cL_areSwimmers 256 = .ok (.iconst 1, 1) := by decide +kernel
theorem dL_areSwimmers_257 : decode cL_areSwimmers 257 = .ok (.iadd, 1) := by decide +kernel
theorem dL_areSwimmers_258 : decode cL_areSwimmers 258 = .ok (.iaload, 1) := by decide +kernel
theorem dL_areSwimmers_259 : decode cL_areSwimmers 259 = .ok (.goto 5, 3) := by decide +kernel
theorem dL_areSwimmers_262 : decode cL_areSwimmers 262 = .ok (.ldc 40, 2) := by decide +kernel
theorem dL_areSwimmers_264 : decode cL_areSwimmers 264 = .ok (.if_icmp .ne 218, 3) := by decide +kernel
theorem dL_areSwimmers_267 : decode cL_areSwimmers 267 = .ok (.aload_n 0, 1) := by decide +kernel
theorem dL_areSwimmers_268 : decode cL_areSwimmers 268 = .ok (.iload 10, 2) := by decide +kernel
theorem dL_areSwimmers_270 : decode cL_areSwimmers 270 = .ok (.iconst 5, 1) := by decide +kernel
theorem dL_areSwimmers_271 : decode cL_areSwimmers 271 = .ok (.invokevirtual 34, 3) := by decide +kernel
theorem dL_areSwimmers_274 : decode cL_areSwimmers 274 = .ok (.aload_n 2, 1) := by decide +kernel
theorem dL_areSwimmers_275 : decode cL_areSwimmers 275 = .ok (.iconst 3, 1) := by decide +kernel
theorem dL_areSwimmers_276 : decode cL_areSwimmers 276 = .ok (.iload 10, 2) := by decide +kernel
theorem dL_areSwimmers_278 : decode cL_areSwimmers 278 = .ok (.imul, 1) := by decide +kernel
theorem dL_areSwimmers_279 : decode cL_areSwimmers 279 = .ok (.iconst 2, 1) := by decide +kernel
theorem dL_areSwimmers_280 : decode cL_areSwimmers 280 = .ok (.iadd, 1) := by decide +kernel
theorem dL_areSwimmers_281 : decode cL_areSwimmers 281 = .ok (.iaload, 1) := by decide +kernel
theorem dL_areSwimmers_282 : decode cL_areSwimmers 282 = .ok (.ifCond .le 16, 3) := by decide +kernel
theorem dL_areSwimmers_285 : decode cL_areSwimmers 285 = .ok (.aload_n 2, 1) := by decide +kernel
theorem dL_areSwimmers_286 : decode cL_areSwimmers 286 = .ok (.iconst 3, 1) := by decide +kernel
theorem dL_areSwimmers_287 : decode cL_areSwimmers 287 = .ok (.iload 10, 2) := by decide +kernel
theorem dL_areSwimmers_289 : decode cL_areSwimmers 289 = .ok (.imul, 1) := by decide +kernel
theorem dL_areSwimmers_290 : decode cL_areSwimmers 290 = .ok (.iconst 2, 1) := by decide +kernel
theorem dL_areSwimmers_291 : decode cL_areSwimmers 291 = .ok (.iadd, 1) := by decide +kernel
theorem dL_areSwimmers_292 : decode cL_areSwimmers 292 = .ok (.iaload, 1) := by decide +kernel
theorem dL_areSwimmers_293 : decode cL_areSwimmers 293 = .ok (.iconst 1, 1) := by decide +kernel
theorem dL_areSwimmers_294 : decode cL_areSwimmers 294 = .ok (.isub, 1) := by decide +kernel
theorem dL_areSwimmers_295 : decode cL_areSwimmers 295 = .ok (.goto 5, 3) := by decide +kernel
theorem dL_areSwimmers_298 : decode cL_areSwimmers 298 = .ok (.ldc 40, 2) := by decide +kernel
theorem dL_areSwimmers_300 : decode cL_areSwimmers 300 = .ok (.if_icmp .ne 182, 3) := by decide +kernel
theorem dL_areSwimmers_303 : decode cL_areSwimmers 303 = .ok (.aload_n 0, 1) := by decide +kernel
theorem dL_areSwimmers_304 : decode cL_areSwimmers 304 = .ok (.iload 10, 2) := by decide +kernel
theorem dL_areSwimmers_306 : decode cL_areSwimmers 306 = .ok (.bipush 6, 2) := by decide +kernel
theorem dL_areSwimmers_308 : decode cL_areSwimmers 308 = .ok (.invokevirtual 34, 3) := by decide +kernel
theorem dL_areSwimmers_311 : decode cL_areSwimmers 311 = .ok (.aload_n 2, 1) := by decide +kernel
theorem dL_areSwimmers_312 : decode cL_areSwimmers 312 = .ok (.iconst 3, 1) := by decide +kernel
theorem dL_areSwimmers_313 : decode cL_areSwimmers 313 = .ok (.iload 10, 2) := by decide +kernel
theorem dL_areSwimmers_315 : decode cL_areSwimmers 315 = .ok (.imul, 1) := by decide +kernel
theorem dL_areSwimmers_316 : decode cL_areSwimmers 316 = .ok (.iconst 2, 1) := by decide +kernel
theorem dL_areSwimmers_317 : decode cL_areSwimmers 317 = .ok (.iadd, 1) := by decide +kernel
theorem dL_areSwimmers_318 : decode cL_areSwimmers 318 = .ok (.iaload, 1) := by decide +kernel
theorem dL_areSwimmers_319 : decode cL_areSwimmers 319 = .ok (.iconst 1, 1) := by decide +kernel
theorem dL_areSwimmers_320 : decode cL_areSwimmers 320 = .ok (.if_icmp .le 15, 3) := by decide +kernel
theorem dL_areSwimmers_323 : decode cL_areSwimmers 323 = .ok (.aload_n 1, 1) := by decide +kernel
theorem dL_areSwimmers_324 : decode cL_areSwimmers 324 = .ok (.aload_n 2, 1) := by decide +kernel
theorem dL_areSwimmers_325 : decode cL_areSwimmers 325 = .ok (.aload 5, 2) := by decide +kernel
theorem dL_areSwimmers_327 : decode cL_areSwimmers 327 = .ok (.iload 10, 2) := by decide +kernel
theorem dL_areSwimmers_329 : decode cL_areSwimmers 329 = .ok (.invokestatic 31, 3) := by decide +kernel
theorem dL_areSwimmers_332 : decode cL_areSwimmers 332 = .ok (.goto 5, 3) := by decide +kernel
theorem dL_areSwimmers_335 : decode cL_areSwimmers 335 = .ok (.ldc 40, 2) := by decide +kernel
theorem dL_areSwimmers_337 : decode cL_areSwimmers 337 = .ok (.if_icmp .ne 145, 3) := by decide +kernel
theorem dL_areSwimmers_340 : decode cL_areSwimmers 340 = .ok (.aload_n 0, 1) := by decide +kernel
theorem dL_areSwimmers_341 : decode cL_areSwimmers 341 = .ok (.iload 10, 2) := by decide +kernel
theorem dL_areSwimmers_343 : decode cL_areSwimmers 343 = .ok (.bipush 7, 2) := by decide +kernel
theorem dL_areSwimmers_345 : decode cL_areSwimmers 345 = .ok (.invokevirtual 34, 3) := by decide +kernel
theorem dL_areSwimmers_348 : decode cL_areSwimmers 348 = .ok (.aload_n 3, 1) := by decide +kernel
theorem dL_areSwimmers_349 : decode cL_areSwimmers 349 = .ok (.iconst 3, 1) := by decide +kernel
theorem dL_areSwimmers_350 : decode cL_areSwimmers 350 = .ok (.iload 10, 2) := by decide +kernel
theorem dL_areSwimmers_352 : decode cL_areSwimmers 352 = .ok (.imul, 1) := by decide +kernel
theorem dL_areSwimmers_353 : decode cL_areSwimmers 353 = .ok (.iaload, 1) := by decide +kernel
theorem dL_areSwimmers_354 : decode cL_areSwimmers 354 = .ok (.ifCond .le 12, 3) := by decide +kernel
theorem dL_areSwimmers_357 : decode cL_areSwimmers 357 = .ok (.aload_n 3, 1) := by decide +kernel
theorem dL_areSwimmers_358 : decode cL_areSwimmers 358 = .ok (.iconst 3, 1) := by decide +kernel
theorem dL_areSwimmers_359 : decode cL_areSwimmers 359 = .ok (.iload 10, 2) := by decide +kernel
theorem dL_areSwimmers_361 : decode cL_areSwimmers 361 = .ok (.imul, 1) := by decide +kernel
theorem dL_areSwimmers_362 : decode cL_areSwimmers 362 = .ok (.iaload, 1) := by decide +kernel
theorem dL_areSwimmers_363 : decode cL_areSwimmers 363 = .ok (.goto 5, 3) := by decide +kernel
theorem dL_areSwimmers_366 : decode cL_areSwimmers 366 = .ok (.ldc 40, 2) := by decide +kernel
theorem dL_areSwimmers_368 : decode cL_areSwimmers 368 = .ok (.if_icmp .ne 114, 3) := by decide +kernel
theorem dL_areSwimmers_371 : decode cL_areSwimmers 371 = .ok (.aload_n 0, 1) := by decide +kernel
theorem dL_areSwimmers_372 : decode cL_areSwimmers 372 = .ok (.iload 10, 2) := by decide +kernel
theorem dL_areSwimmers_374 : decode cL_areSwimmers 374 = .ok (.bipush 8, 2) := by decide +kernel
theorem dL_areSwimmers_376 : decode cL_areSwimmers 376 = .ok (.invokevirtual 34, 3) := by decide +kernel
theorem dL_areSwimmers_379 : decode cL_areSwimmers 379 = .ok (.aload_n 3, 1) := by decide +kernel
theorem dL_areSwimmers_380 : decode cL_areSwimmers 380 = .ok (.iconst 3, 1) := by decide +kernel
theorem dL_areSwimmers_381 : decode cL_areSwimmers 381 = .ok (.iload 10, 2) := by decide +kernel
theorem dL_areSwimmers_383 : decode cL_areSwimmers 383 = .ok (.imul, 1) := by decide +kernel
theorem dL_areSwimmers_384 : decode cL_areSwimmers 384 = .ok (.iconst 1, 1) := by decide +kernel
theorem dL_areSwimmers_385 : decode cL_areSwimmers 385 = .ok (.iadd, 1) := by decide +kernel
theorem dL_areSwimmers_386 : decode cL_areSwimmers 386 = .ok (.iaload, 1) := by decide +kernel
theorem dL_areSwimmers_387 : decode cL_areSwimmers 387 = .ok (.ifCond .le 16, 3) := by decide +kernel
theorem dL_areSwimmers_390 : decode cL_areSwimmers 390 = .ok (.aload_n 3, 1) := by decide +kernel
theorem dL_areSwimmers_391 : decode cL_areSwimmers 391 = .ok (.iconst 3, 1) := by decide +kernel
theorem dL_areSwimmers_392 : decode cL_areSwimmers 392 = .ok (.iload 10, 2) := by decide +kernel
theorem dL_areSwimmers_394 : decode cL_areSwimmers 394 = .ok (.imul, 1) := by decide +kernel
theorem dL_areSwimmers_395 : decode cL_areSwimmers 395 = .ok (.iconst 1, 1) := by decide +kernel
theorem dL_areSwimmers_396 : decode cL_areSwimmers 396 = .ok (.iadd, 1) := by decide +kernel
theorem dL_areSwimmers_397 : decode cL_areSwimmers 397 = .ok (.iaload, 1) := by decide +kernel
theorem dL_areSwimmers_398 : decode cL_areSwimmers 398 = .ok (.iconst 1, 1) := by decide +kernel
theorem dL_areSwimmers_399 : decode cL_areSwimmers 399 = .ok (.isub, 1) := by decide +kernel
theorem dL_areSwimmers_400 : decode cL_areSwimmers 400 = .ok (.goto 5, 3) := by decide +kernel
theorem dL_areSwimmers_403 : decode cL_areSwimmers 403 = .ok (.ldc 40, 2) := by decide +kernel
theorem dL_areSwimmers_405 : decode cL_areSwimmers 405 = .ok (.if_icmp .ne 77, 3) := by decide +kernel
theorem dL_areSwimmers_408 : decode cL_areSwimmers 408 = .ok (.aload_n 0, 1) := by decide +kernel
theorem dL_areSwimmers_409 : decode cL_areSwimmers 409 = .ok (.iload 10, 2) := by decide +kernel
theorem dL_areSwimmers_411 : decode cL_areSwimmers 411 = .ok (.bipush 9, 2) := by decide +kernel
theorem dL_areSwimmers_413 : decode cL_areSwimmers 413 = .ok (.invokevirtual 34, 3) := by decide +kernel
theorem dL_areSwimmers_416 : decode cL_areSwimmers 416 = .ok (.aload_n 3, 1) := by decide +kernel
theorem dL_areSwimmers_417 : decode cL_areSwimmers 417 = .ok (.iconst 3, 1) := by decide +kernel
theorem dL_areSwimmers_418 : decode cL_areSwimmers 418 = .ok (.iload 10, 2) := by decide +kernel
theorem dL_areSwimmers_420 : decode cL_areSwimmers 420 = .ok (.imul, 1) := by decide +kernel
theorem dL_areSwimmers_421 : decode cL_areSwimmers 421 = .ok (.iconst 2, 1) := by decide +kernel
theorem dL_areSwimmers_422 : decode cL_areSwimmers 422 = .ok (.iadd, 1) := by decide +kernel
theorem dL_areSwimmers_423 : decode cL_areSwimmers 423 = .ok (.iaload, 1) := by decide +kernel
theorem dL_areSwimmers_424 : decode cL_areSwimmers 424 = .ok (.ifCond .le 14, 3) := by decide +kernel
theorem dL_areSwimmers_427 : decode cL_areSwimmers 427 = .ok (.aload_n 3, 1) := by decide +kernel
theorem dL_areSwimmers_428 : decode cL_areSwimmers 428 = .ok (.iconst 3, 1) := by decide +kernel
theorem dL_areSwimmers_429 : decode cL_areSwimmers 429 = .ok (.iload 10, 2) := by decide +kernel
theorem dL_areSwimmers_431 : decode cL_areSwimmers 431 = .ok (.imul, 1) := by decide +kernel
theorem dL_areSwimmers_432 : decode cL_areSwimmers 432 = .ok (.iconst 2, 1) := by decide +kernel
theorem dL_areSwimmers_433 : decode cL_areSwimmers 433 = .ok (.iadd, 1) := by decide +kernel
theorem dL_areSwimmers_434 : decode cL_areSwimmers 434 = .ok (.iaload, 1) := by decide +kernel
theorem dL_areSwimmers_435 : decode cL_areSwimmers 435 = .ok (.goto 5, 3) := by decide +kernel
theorem dL_areSwimmers_438 : decode cL_areSwimmers 438 = .ok (.ldc 40, 2) := by decide +kernel
theorem dL_areSwimmers_440 : decode cL_areSwimmers 440 = .ok (.if_icmp .ne 42, 3) := by decide +kernel
theorem dL_areSwimmers_443 : decode cL_areSwimmers 443 = .ok (.aload_n 0, 1) := by decide +kernel
theorem dL_areSwimmers_444 : decode cL_areSwimmers 444 = .ok (.iload 10, 2) := by decide +kernel
theorem dL_areSwimmers_446 : decode cL_areSwimmers 446 = .ok (.bipush 10, 2) := by decide +kernel
theorem dL_areSwimmers_448 : decode cL_areSwimmers 448 = .ok (.invokevirtual 34, 3) := by decide +kernel
theorem dL_areSwimmers_451 : decode cL_areSwimmers 451 = .ok (.aload_n 1, 1) := by decide +kernel
theorem dL_areSwimmers_452 : decode cL_areSwimmers 452 = .ok (.iconst 3, 1) := by decide +kernel
theorem dL_areSwimmers_453 : decode cL_areSwimmers 453 = .ok (.iload 10, 2) := by decide +kernel
theorem dL_areSwimmers_455 : decode cL_areSwimmers 455 = .ok (.imul, 1) := by decide +kernel
theorem dL_areSwimmers_456 : decode cL_areSwimmers 456 = .ok (.iconst 2, 1) := by decide +kernel
theorem dL_areSwimmers_457 : decode cL_areSwimmers 457 = .ok (.iadd, 1) := by decide +kernel
theorem dL_areSwimmers_458 : decode cL_areSwimmers 458 = .ok (.iaload, 1) := by decide +kernel
theorem dL_areSwimmers_459 : decode cL_areSwimmers 459 = .ok (.if_icmp .ne 23, 3) := by decide +kernel
theorem dL_areSwimmers_462 : decode cL_areSwimmers 462 = .ok (.aload_n 0, 1) := by decide +kernel
theorem dL_areSwimmers_463 : decode cL_areSwimmers 463 = .ok (.iload 10, 2) := by decide +kernel
theorem dL_areSwimmers_465 : decode cL_areSwimmers 465 = .ok (.bipush 11, 2) := by decide +kernel
theorem dL_areSwimmers_467 : decode cL_areSwimmers 467 = .ok (.invokevirtual 34, 3) := by decide +kernel
theorem dL_areSwimmers_470 : decode cL_areSwimmers 470 = .ok (.aload 4, 2) := by decide +kernel
theorem dL_areSwimmers_472 : decode cL_areSwimmers 472 = .ok (.iload 10, 2) := by decide +kernel
theorem dL_areSwimmers_474 : decode cL_areSwimmers 474 = .ok (.iaload, 1) := by decide +kernel
theorem dL_areSwimmers_475 : decode cL_areSwimmers 475 = .ok (.if_icmp .ne 7, 3) := by decide +kernel
theorem dL_areSwimmers_478 : decode cL_areSwimmers 478 = .ok (.iconst 1, 1) := by decide +kernel
theorem dL_areSwimmers_479 : decode cL_areSwimmers 479 = .ok (.goto 4, 3) := by decide +kernel
theorem dL_areSwimmers_482 : decode cL_areSwimmers 482 = .ok (.iconst 0, 1) := by decide +kernel
theorem dL_areSwimmers_483 : decode cL_areSwimmers 483 = .ok (.istore 9, 2) := by decide +kernel
theorem dL_areSwimmers_485 : decode cL_areSwimmers 485 = .ok (.iinc 10 1, 3) := by decide +kernel
theorem dL_areSwimmers_488 : decode cL_areSwimmers 488 = .ok (.goto (-444), 3) := by decide +kernel
theorem dL_areSwimmers_491 : decode cL_areSwimmers 491 = .ok (.iload 9, 2) := by decide +kernel
theorem dL_areSwimmers_493 : decode cL_areSwimmers 493 = .ok (.ifCond .eq 193, 3) := by decide +kernel
theorem dL_areSwimmers_496 : decode cL_areSwimmers 496 = .ok (.aload_n 0, 1) := by decide +kernel
theorem dL_areSwimmers_497 : decode cL_areSwimmers 497 = .ok (.iconst 0, 1) := by decide +kernel
theorem dL_areSwimmers_498 : decode cL_areSwimmers 498 = .ok (.invokevirtual 41, 3) := by decide +kernel
theorem dL_areSwimmers_501 : decode cL_areSwimmers 501 = .ok (.aload 5, 2) := by decide +kernel
theorem dL_areSwimmers_503 : decode cL_areSwimmers 503 = .ok (.iconst 0, 1) := by decide +kernel
theorem dL_areSwimmers_504 : decode cL_areSwimmers 504 = .ok (.iaload, 1) := by decide +kernel
theorem dL_areSwimmers_505 : decode cL_areSwimmers 505 = .ok (.if_icmp .ne 181, 3) := by decide +kernel
theorem dL_areSwimmers_508 : decode cL_areSwimmers 508 = .ok (.aload_n 0, 1) := by decide +kernel
theorem dL_areSwimmers_509 : decode cL_areSwimmers 509 = .ok (.iconst 1, 1) := by decide +kernel
theorem dL_areSwimmers_510 : decode cL_areSwimmers 510 = .ok (.invokevirtual 41, 3) := by decide +kernel
theorem dL_areSwimmers_513 : decode cL_areSwimmers 513 = .ok (.aload 5, 2) := by decide +kernel
theorem dL_areSwimmers_515 : decode cL_areSwimmers 515 = .ok (.iconst 1, 1) := by decide +kernel
theorem dL_areSwimmers_516 : decode cL_areSwimmers 516 = .ok (.iaload, 1) := by decide +kernel
theorem dL_areSwimmers_517 : decode cL_areSwimmers 517 = .ok (.if_icmp .ne 169, 3) := by decide +kernel
theorem dL_areSwimmers_520 : decode cL_areSwimmers 520 = .ok (.aload_n 0, 1) := by decide +kernel
theorem dL_areSwimmers_521 : decode cL_areSwimmers 521 = .ok (.iconst 2, 1) := by decide +kernel
theorem dL_areSwimmers_522 : decode cL_areSwimmers 522 = .ok (.invokevirtual 41, 3) := by decide +kernel
theorem dL_areSwimmers_525 : decode cL_areSwimmers 525 = .ok (.iload 6, 2) := by decide +kernel
theorem dL_areSwimmers_527 : decode cL_areSwimmers 527 = .ok (.if_icmp .ne 159, 3) := by decide +kernel
theorem dL_areSwimmers_530 : decode cL_areSwimmers 530 = .ok (.aload_n 0, 1) := by decide +kernel
theorem dL_areSwimmers_531 : decode cL_areSwimmers 531 = .ok (.iconst 3, 1) := by decide +kernel
theorem dL_areSwimmers_532 : decode cL_areSwimmers 532 = .ok (.invokevirtual 41, 3) := by decide +kernel
theorem dL_areSwimmers_535 : decode cL_areSwimmers 535 = .ok (.aload 5, 2) := by decide +kernel
theorem dL_areSwimmers_537 : decode cL_areSwimmers 537 = .ok (.iconst 2, 1) := by decide +kernel
theorem dL_areSwimmers_538 : decode cL_areSwimmers 538 = .ok (.iaload, 1) := by decide +kernel
theorem dL_areSwimmers_539 : decode cL_areSwimmers 539 = .ok (.if_icmp .ne 147, 3) := by decide +kernel
theorem dL_areSwimmers_542 : decode cL_areSwimmers 542 = .ok (.aload_n 0, 1) := by decide +kernel
theorem dL_areSwimmers_543 : decode cL_areSwimmers 543 = .ok (.iconst 4, 1) := by decide +kernel
theorem dL_areSwimmers_544 : decode cL_areSwimmers 544 = .ok (.invokevirtual 41, 3) := by decide +kernel
theorem dL_areSwimmers_547 : decode cL_areSwimmers 547 = .ok (.iload 7, 2) := by decide +kernel
theorem dL_areSwimmers_549 : decode cL_areSwimmers 549 = .ok (.if_icmp .ne 137, 3) := by decide +kernel
theorem dL_areSwimmers_552 : decode cL_areSwimmers 552 = .ok (.aload_n 0, 1) := by decide +kernel
theorem dL_areSwimmers_553 : decode cL_areSwimmers 553 = .ok (.bipush 6, 2) := by decide +kernel
theorem dL_areSwimmers_555 : decode cL_areSwimmers 555 = .ok (.invokevirtual 41, 3) := by decide +kernel
theorem dL_areSwimmers_558 : decode cL_areSwimmers 558 = .ok (.iload 8, 2) := by decide +kernel
theorem dL_areSwimmers_560 : decode cL_areSwimmers 560 = .ok (.if_icmp .ne 126, 3) := by decide +kernel
theorem dL_areSwimmers_563 : decode cL_areSwimmers 563 = .ok (.aload_n 0, 1) := by decide +kernel
theorem dL_areSwimmers_564 : decode cL_areSwimmers 564 = .ok (.bipush 7, 2) := by decide +kernel
theorem dL_areSwimmers_566 : decode cL_areSwimmers 566 = .ok (.invokevirtual 41, 3) := by decide +kernel
theorem dL_areSwimmers_569 : decode cL_areSwimmers 569 = .ok (.aload 5, 2) := by decide +kernel
theorem dL_areSwimmers_571 : decode cL_areSwimmers 571 = .ok (.iconst 3, 1) := by decide +kernel
theorem dL_areSwimmers_572 : decode cL_areSwimmers 572 = .ok (.iaload, 1) := by decide +kernel
theorem dL_areSwimmers_573 : decode cL_areSwimmers 573 = .ok (.if_icmp .ne 113, 3) := by decide +kernel
theorem dL_areSwimmers_576 : decode cL_areSwimmers 576 = .ok (.aload_n 0, 1) := by decide +kernel
theorem dL_areSwimmers_577 : decode cL_areSwimmers 577 = .ok (.bipush 8, 2) := by decide +kernel
theorem dL_areSwimmers_579 : decode cL_areSwimmers 579 = .ok (.invokevirtual 41, 3) := by decide +kernel
theorem dL_areSwimmers_582 : decode cL_areSwimmers 582 = .ok (.aload 5, 2) := by decide +kernel
theorem dL_areSwimmers_584 : decode cL_areSwimmers 584 = .ok (.iconst 4, 1) := by decide +kernel
theorem dL_areSwimmers_585 : decode cL_areSwimmers 585 = .ok (.iaload, 1) := by decide +kernel
theorem dL_areSwimmers_586 : decode cL_areSwimmers 586 = .ok (.ifCond .le 10, 3) := by decide +kernel
theorem dL_areSwimmers_589 : decode cL_areSwimmers 589 = .ok (.aload 5, 2) := by decide +kernel
theorem dL_areSwimmers_591 : decode cL_areSwimmers 591 = .ok (.iconst 4, 1) := by decide +kernel
theorem dL_areSwimmers_592 : decode cL_areSwimmers 592 = .ok (.iaload, 1) := by decide +kernel
theorem dL_areSwimmers_593 : decode cL_areSwimmers 593 = .ok (.goto 5, 3) := by decide +kernel
theorem dL_areSwimmers_596 : decode cL_areSwimmers 596 = .ok (.ldc 40, 2) := by decide +kernel
theorem dL_areSwimmers_598 : decode cL_areSwimmers 598 = .ok (.if_icmp .ne 88, 3) := by decide +kernel
theorem dL_areSwimmers_601 : decode cL_areSwimmers 601 = .ok (.aload_n 0, 1) := by decide +kernel
theorem dL_areSwimmers_602 : decode cL_areSwimmers 602 = .ok (.bipush 9, 2) := by decide +kernel
theorem dL_areSwimmers_604 : decode cL_areSwimmers 604 = .ok (.invokevirtual 41, 3) := by decide +kernel
theorem dL_areSwimmers_607 : decode cL_areSwimmers 607 = .ok (.aload 5, 2) := by decide +kernel
theorem dL_areSwimmers_609 : decode cL_areSwimmers 609 = .ok (.iconst 4, 1) := by decide +kernel
theorem dL_areSwimmers_610 : decode cL_areSwimmers 610 = .ok (.iaload, 1) := by decide +kernel
theorem dL_areSwimmers_611 : decode cL_areSwimmers 611 = .ok (.ifCond .le 10, 3) := by decide +kernel
theorem dL_areSwimmers_614 : decode cL_areSwimmers 614 = .ok (.aload 5, 2) := by decide +kernel
theorem dL_areSwimmers_616 : decode cL_areSwimmers 616 = .ok (.iconst 5, 1) := by decide +kernel
theorem dL_areSwimmers_617 : decode cL_areSwimmers 617 = .ok (.iaload, 1) := by decide +kernel
theorem dL_areSwimmers_618 : decode cL_areSwimmers 618 = .ok (.goto 5, 3) := by decide +kernel
theorem dL_areSwimmers_621 : decode cL_areSwimmers 621 = .ok (.ldc 40, 2) := by decide +kernel
theorem dL_areSwimmers_623 : decode cL_areSwimmers 623 = .ok (.if_icmp .ne 63, 3) := by decide +kernel
theorem dL_areSwimmers_626 : decode cL_areSwimmers 626 = .ok (.aload_n 0, 1) := by decide +kernel
theorem dL_areSwimmers_627 : decode cL_areSwimmers 627 = .ok (.bipush 10, 2) := by decide +kernel
theorem dL_areSwimmers_629 : decode cL_areSwimmers 629 = .ok (.invokevirtual 41, 3) := by decide +kernel
theorem dL_areSwimmers_632 : decode cL_areSwimmers 632 = .ok (.aload 5, 2) := by decide +kernel
theorem dL_areSwimmers_634 : decode cL_areSwimmers 634 = .ok (.bipush 6, 2) := by decide +kernel
theorem dL_areSwimmers_636 : decode cL_areSwimmers 636 = .ok (.iaload, 1) := by decide +kernel
theorem dL_areSwimmers_637 : decode cL_areSwimmers 637 = .ok (.if_icmp .ne 49, 3) := by decide +kernel
theorem dL_areSwimmers_640 : decode cL_areSwimmers 640 = .ok (.aload_n 0, 1) := by decide +kernel
theorem dL_areSwimmers_641 : decode cL_areSwimmers 641 = .ok (.bipush 20, 2) := by decide +kernel
theorem dL_areSwimmers_643 : decode cL_areSwimmers 643 = .ok (.invokevirtual 41, 3) := by decide +kernel
theorem dL_areSwimmers_646 : decode cL_areSwimmers 646 = .ok (.aload 5, 2) := by decide +kernel
theorem dL_areSwimmers_648 : decode cL_areSwimmers 648 = .ok (.bipush 7, 2) := by decide +kernel
theorem dL_areSwimmers_650 : decode cL_areSwimmers 650 = .ok (.iaload, 1) := by decide +kernel
theorem dL_areSwimmers_651 : decode cL_areSwimmers 651 = .ok (.if_icmp .ne 35, 3) := by decide +kernel
theorem dL_areSwimmers_654 : decode cL_areSwimmers 654 = .ok (.aload_n 0, 1) := by decide +kernel
theorem dL_areSwimmers_655 : decode cL_areSwimmers 655 = .ok (.bipush 21, 2) := by decide +kernel
theorem dL_areSwimmers_657 : decode cL_areSwimmers 657 = .ok (.invokevirtual 41, 3) := by decide +kernel
theorem dL_areSwimmers_660 : decode cL_areSwimmers 660 = .ok (.aload 5, 2) := by decide +kernel
theorem dL_areSwimmers_662 : decode cL_areSwimmers 662 = .ok (.bipush 8, 2) := by decide +kernel
theorem dL_areSwimmers_664 : decode cL_areSwimmers 664 = .ok (.iaload, 1) := by decide +kernel
theorem dL_areSwimmers_665 : decode cL_areSwimmers 665 = .ok (.if_icmp .ne 21, 3) := by decide +kernel
theorem dL_areSwimmers_668 : decode cL_areSwimmers 668 = .ok (.aload_n 0, 1) := by decide +kernel
theorem dL_areSwimmers_669 : decode cL_areSwimmers 669 = .ok (.bipush 22, 2) := by decide +kernel
theorem dL_areSwimmers_671 : decode cL_areSwimmers 671 = .ok (.invokevirtual 41, 3) := by decide +kernel
theorem dL_areSwimmers_674 : decode cL_areSwimmers 674 = .ok (.aload 5, 2) := by decide +kernel
theorem dL_areSwimmers_676 : decode cL_areSwimmers 676 = .ok (.bipush 9, 2) := by decide +kernel
theorem dL_areSwimmers_678 : decode cL_areSwimmers 678 = .ok (.iaload, 1) := by decide +kernel
theorem dL_areSwimmers_679 : decode cL_areSwimmers 679 = .ok (.if_icmp .ne 7, 3) := by decide +kernel
theorem dL_areSwimmers_682 : decode cL_areSwimmers 682 = .ok (.iconst 1, 1) := by decide +kernel
theorem dL_areSwimmers_683 : decode cL_areSwimmers 683 = .ok (.goto 4, 3) := by decide +kernel
theorem dL_areSwimmers_686 : decode cL_areSwimmers 686 = .ok (.iconst 0, 1) := by decide +kernel
theorem dL_areSwimmers_687 : decode cL_areSwimmers 687 = .ok (.ireturn, 1) := by decide +kernel
theorem dL_areRest_0 : decode cL_areRest 0 = .ok (.iconst 0, 1) := by decide +kernel
theorem dL_areRest_1 : decode cL_areRest 1 = .ok (.istore 7, 2) := by decide +kernel
theorem dL_areRest_3 : decode cL_areRest 3 = .ok (.iconst 0, 1) := by decide +kernel
theorem dL_areRest_4 : decode cL_areRest 4 = .ok (.istore 8, 2) := by decide +kernel
theorem dL_areRest_6 : decode cL_areRest 6 = .ok (.iconst 0, 1) := by decide +kernel
theorem dL_areRest_7 : decode cL_areRest 7 = .ok (.istore 9, 2) := by decide +kernel
theorem dL_areRest_9 : decode cL_areRest 9 = .ok (.aload_n 0, 1) := by decide +kernel
theorem dL_areRest_10 : decode cL_areRest 10 = .ok (.invokevirtual 45, 3) := by decide +kernel
theorem dL_areRest_13 : decode cL_areRest 13 = .ok (.aload_n 1, 1) := by decide +kernel
theorem dL_areRest_14 : decode cL_areRest 14 = .ok (.aload_n 2, 1) := by decide +kernel
theorem dL_areRest_15 : decode cL_areRest 15 = .ok (.aload_n 3, 1) := by decide +kernel
theorem dL_areRest_16 : decode cL_areRest 16 = .ok (.aload 5, 2) := by decide +kernel
theorem dL_areRest_18 : decode cL_areRest 18 = .ok (.invokestatic 49, 3) := by decide +kernel
theorem dL_areRest_21 : decode cL_areRest 21 = .ok (.if_icmp .ne 27, 3) := by decide +kernel
theorem dL_areRest_24 : decode cL_areRest 24 = .ok (.aload_n 0, 1) := by decide +kernel
theorem dL_areRest_25 : decode cL_areRest 25 = .ok (.iconst (-1), 1) := by decide +kernel
theorem dL_areRest_26 : decode cL_areRest 26 = .ok (.invokevirtual 52, 3) := by decide +kernel
theorem dL_areRest_29 : decode cL_areRest 29 = .ok (.ldc 39, 2) := by decide +kernel
theorem dL_areRest_31 : decode cL_areRest 31 = .ok (.if_icmp .ne 17, 3) := by decide +kernel
theorem dL_areRest_34 : decode cL_areRest 34 = .ok (.aload_n 0, 1) := by decide +kernel
theorem dL_areRest_35 : decode cL_areRest 35 = .ok (.iconst (-1), 1) := by decide +kernel
theorem dL_areRest_36 : decode cL_areRest 36 = .ok (.invokevirtual 55, 3) := by decide +kernel
theorem dL_areRest_39 : decode cL_areRest 39 = .ok (.ldc 39, 2) := by decide +kernel
theorem dL_areRest_41 : decode cL_areRest 41 = .ok (.if_icmp .ne 7, 3) := by decide +kernel
theorem dL_areRest_44 : decode cL_areRest 44 = .ok (.iconst 1, 1) := by decide +kernel
theorem dL_areRest_45 : decode cL_areRest 45 = .ok (.goto 4, 3) := by decide +kernel
theorem dL_areRest_48 : decode cL_areRest 48 = .ok (.iconst 0, 1) := by decide +kernel
theorem dL_areRest_49 : decode cL_areRest 49 = .ok (.istore 10, 2) := by decide +kernel
theorem dL_areRest_51 : decode cL_areRest 51 = .ok (.iconst 0, 1) := by decide +kernel
theorem dL_areRest_52 : decode cL_areRest 52 = .ok (.istore 11, 2) := by decide +kernel
theorem dL_areRest_54 : decode cL_areRest 54 = .ok (.iload 11, 2) := by decide +kernel
theorem dL_areRest_56 : decode cL_areRest 56 = .ok (.iconst 4, 1) := by decide +kernel
theorem dL_areRest_57 : decode cL_areRest 57 = .ok (.if_icmp .ge 62, 3) := by decide +kernel
theorem dL_areRest_60 : decode cL_areRest 60 = .ok (.aload 4, 2) := by decide +kernel
theorem dL_areRest_62 : decode cL_areRest 62 = .ok (.iload 11, 2) := by decide +kernel
theorem dL_areRest_64 : decode cL_areRest 64 = .ok (.iaload, 1) := by decide +kernel
theorem dL_areRest_65 : decode cL_areRest 65 = .ok (.ifCond .le 48, 3) := by decide +kernel
theorem dL_areRest_68 : decode cL_areRest 68 = .ok (.aload_n 1, 1) := by decide +kernel
theorem dL_areRest_69 : decode cL_areRest 69 = .ok (.iconst 3, 1) := by decide +kernel
theorem dL_areRest_70 : decode cL_areRest 70 = .ok (.aload 4, 2) := by decide +kernel
theorem dL_areRest_72 : decode cL_areRest 72 = .ok (.iload 11, 2) := by decide +kernel
theorem dL_areRest_74 : decode cL_areRest 74 = .ok (.iaload, 1) := by decide +kernel
theorem dL_areRest_75 : decode cL_areRest 75 = .ok (.imul, 1) := by decide +kernel
theorem dL_areRest_76 : decode cL_areRest 76 = .ok (.iconst 1, 1) := by decide +kernel
theorem dL_areRest_77 : decode cL_areRest 77 = .ok (.isub, 1) := by decide +kernel
theorem dL_areRest_78 : decode cL_areRest 78 = .ok (.iaload, 1) := by decide +kernel
theorem dL_areRest_79 : decode cL_areRest 79 = .ok (.ifCond .ne 34, 3) := by decide +kernel
theorem dL_areRest_82 : decode cL_areRest 82 = .ok (.iload 10, 2) := by decide +kernel
theorem dL_areRest_84 : decode cL_areRest 84 = .ok (.ifCond .eq 23, 3) := by decide +kernel
theorem dL_areRest_87 : decode cL_areRest 87 = .ok (.aload_n 0, 1) := by decide +kernel
theorem dL_areRest_88 : decode cL_areRest 88 = .ok (.iload 7, 2) := by decide +kernel
theorem dL_areRest_90 : decode cL_areRest 90 = .ok (.invokevirtual 52, 3) := by decide +kernel
theorem dL_areRest_93 : decode cL_areRest 93 = .ok (.aload 4, 2) := by decide +kernel
theorem dL_areRest_95 : decode cL_areRest 95 = .ok (.iload 11, 2) := by decide +kernel
theorem dL_areRest_97 : decode cL_areRest 97 = .ok (.iaload, 1) := by decide +kernel
theorem dL_areRest_98 : decode cL_areRest 98 = .ok (.iconst 1, 1) := by decide +kernel
theorem dL_areRest_99 : decode cL_areRest 99 = .ok (.isub, 1) := by decide +kernel
theorem dL_areRest_100 : decode cL_areRest 100 = .ok (.if_icmp .ne 7, 3) := by decide +kernel
theorem dL_areRest_103 : decode cL_areRest 103 = .ok (.iconst 1, 1) := by decide +kernel
theorem dL_areRest_104 : decode cL_areRest 104 = .ok (.goto 4, 3) := by decide +kernel
theorem dL_areRest_107 : decode cL_areRest 107 = .ok (.iconst 0, 1) := by decide +kernel
theorem dL_areRest_108 : decode cL_areRest 108 = .ok (.istore 10, 2) := by decide +kernel
theorem dL_areRest_110 : decode cL_areRest 110 = .ok (.iinc 7 1, 3) := by decide +kernel
theorem dL_areRest_113 : decode cL_areRest 113 = .ok (.iinc 11 1, 3) := by decide +kernel
theorem dL_areRest_116 : decode cL_areRest 116 = .ok (.goto (-62), 3) := by decide +kernel
theorem dL_areRest_119 : decode cL_areRest 119 = .ok (.iconst 0, 1) := by decide +kernel
theorem dL_areRest_120 : decode cL_areRest 120 = .ok (.istore 11, 2) := by decide +kernel
theorem dL_areRest_122 : decode cL_areRest 122 = .ok (.iload 11, 2) := by decide +kernel
theorem dL_areRest_124 : decode cL_areRest 124 = .ok (.aload 5, 2) := by decide +kernel
theorem dL_areRest_126 : decode cL_areRest 126 = .ok (.iconst 1, 1) := by decide +kernel
theorem dL_areRest_127 : decode cL_areRest 127 = .ok (.iaload, 1) := by decide +kernel
theorem dL_areRest_128 : decode cL_areRest 128 = .ok (.if_icmp .ge 60, 3) := by decide +kernel
theorem dL_areRest_131 : decode cL_areRest 131 = .ok (.aload_n 1, 1) := by decide +kernel
theorem dL_areRest_132 : decode cL_areRest 132 = .ok (.aload_n 2, 1) := by decide +kernel
theorem dL_areRest_133 : decode cL_areRest 133 = .ok (.aload_n 3, 1) := by decide +kernel
theorem dL_areRest_134 : decode cL_areRest 134 = .ok (.aload 5, 2) := by decide +kernel
theorem dL_areRest_136 : decode cL_areRest 136 = .ok (.iload 11, 2) := by decide +kernel
theorem dL_areRest_138 : decode cL_areRest 138 = .ok (.invokestatic 23, 3) := by decide +kernel
theorem dL_areRest_141 : decode cL_areRest 141 = .ok (.ifCond .eq 41, 3) := by decide +kernel
theorem dL_areRest_144 : decode cL_areRest 144 = .ok (.aload_n 2, 1) := by decide +kernel
theorem dL_areRest_145 : decode cL_areRest 145 = .ok (.aload_n 3, 1) := by decide +kernel
theorem dL_areRest_146 : decode cL_areRest 146 = .ok (.aload 5, 2) := by decide +kernel
theorem dL_areRest_148 : decode cL_areRest 148 = .ok (.iload 11, 2) := by decide +kernel
theorem dL_areRest_150 : decode cL_areRest 150 = .ok (.invokestatic 27, 3) := by decide +kernel
theorem dL_areRest_153 : decode cL_areRest 153 = .ok (.ifCond .ne 29, 3) := by decide +kernel
theorem dL_areRest_156 : decode cL_areRest 156 = .ok (.iload 10, 2) := by decide +kernel
theorem dL_areRest_158 : decode cL_areRest 158 = .ok (.ifCond .eq 18, 3) := by decide +kernel
theorem dL_areRest_161 : decode cL_areRest 161 = .ok (.aload_n 0, 1) := by decide +kernel
theorem dL_areRest_162 : decode cL_areRest 162 = .ok (.iload 8, 2) := by decide +kernel
theorem dL_areRest_164 : decode cL_areRest 164 = .ok (.invokevirtual 55, 3) := by decide +kernel
theorem dL_areRest_167 : decode cL_areRest 167 = .ok (.iload 11, 2) := by decide +kernel
theorem dL_areRest_169 : decode cL_areRest 169 = .ok (.if_icmp .ne 7, 3) := by decide +kernel
theorem dL_areRest_172 : decode cL_areRest 172 = .ok (.iconst 1, 1) := by decide +kernel
theorem dL_areRest_173 : decode cL_areRest 173 = .ok (.goto 4, 3) := by decide +kernel
theorem dL_areRest_176 : decode cL_areRest 176 = .ok (.iconst 0, 1) := by decide +kernel
theorem dL_areRest_177 : decode cL_areRest 177 = .ok (.istore 10, 2) := by decide +kernel
theorem dL_areRest_179 : decode cL_areRest 179 = .ok (.iinc 8 1, 3) := by decide +kernel
theorem dL_areRest_182 : decode cL_areRest 182 = .ok (.iinc 11 1, 3) := by decide +kernel
theorem dL_areRest_185 : decode cL_areRest 185 = .ok (.goto (-63), 3) := by decide +kernel
theorem dL_areRest_188 : decode cL_areRest 188 = .ok (.iconst 0, 1) := by decide +kernel
theorem dL_areRest_189 : decode cL_areRest 189 = .ok (.istore 11, 2) := by decide +kernel
theorem dL_areRest_191 : decode cL_areRest 191 = .ok (.iload 11, 2) := by decide +kernel
theorem dL_areRest_193 : decode cL_areRest 193 = .ok (.bipush 6, 2) := by decide +kernel
theorem dL_areRest_195 : decode cL_areRest 195 = .ok (.if_icmp .ge 45, 3) := by decide +kernel
theorem dL_areRest_198 : decode cL_areRest 198 = .ok (.iload 9, 2) := by decide +kernel
theorem dL_areRest_200 : decode cL_areRest 200 = .ok (.aload 6, 2) := by decide +kernel
theorem dL_areRest_202 : decode cL_areRest 202 = .ok (.iload 11, 2) := by decide +kernel
theorem dL_areRest_204 : decode cL_areRest 204 = .ok (.iaload, 1) := by decide +kernel
theorem dL_areRest_205 : decode cL_areRest 205 = .ok (.iadd, 1) := by decide +kernel
theorem dL_areRest_206 : decode cL_areRest 206 = .ok (.istore 9, 2) := by decide +kernel
theorem dL_areRest_208 : decode cL_areRest 208 = .ok (.iload 10, 2) := by decide +kernel
theorem dL_areRest_210 : decode cL_areRest 210 = .ok (.ifCond .eq 21, 3) := by decide +kernel
theorem dL_areRest_213 : decode cL_areRest 213 = .ok (.aload_n 0, 1) := by decide +kernel
theorem dL_areRest_214 : decode cL_areRest 214 = .ok (.iload 11, 2) := by decide +kernel
theorem dL_areRest_216 : decode cL_areRest 216 = .ok (.invokevirtual 58, 3) := by decide +kernel
theorem dL_areRest_219 : decode cL_areRest 219 = .ok (.aload 6, 2) := by decide +kernel
theorem dL_areRest_221 : decode cL_areRest 221 = .ok (.iload 11, 2) := by decide +kernel
theorem dL_areRest_223 : decode cL_areRest 223 = .ok (.iaload, 1) := by decide +kernel
theorem dL_areRest_224 : decode cL_areRest 224 = .ok (.if_icmp .ne 7, 3) := by decide +kernel
theorem dL_areRest_227 : decode cL_areRest 227 = .ok (.iconst 1, 1) := by decide +kernel
theorem dL_areRest_228 : decode cL_areRest 228 = .ok (.goto 4, 3) := by decide +kernel
theorem dL_areRest_231 : decode cL_areRest 231 = .ok (.iconst 0, 1) := by decide +kernel
theorem dL_areRest_232 : decode cL_areRest 232 = .ok (.istore 10, 2) := by decide +kernel
theorem dL_areRest_234 : decode cL_areRest 234 = .ok (.iinc 11 1, 3) := by decide +kernel
theorem dL_areRest_237 : decode cL_areRest 237 = .ok (.goto (-46), 3) := by decide +kernel
theorem dL_areRest_240 : decode cL_areRest 240 = .ok (.iload 10, 2) := by decide +kernel
theorem dL_areRest_242 : decode cL_areRest 242 = .ok (.ifCond .eq 61, 3) := by decide +kernel
theorem dL_areRest_245 : decode cL_areRest 245 = .ok (.aload_n 0, 1) := by decide +kernel
theorem dL_areRest_246 : decode cL_areRest 246 = .ok (.iload 7, 2) := by decide +kernel
theorem dL_areRest_248 : decode cL_areRest 248 = .ok (.invokevirtual 52, 3) := by decide +kernel
theorem dL_areRest_251 : decode cL_areRest 251 = .ok (.ldc 40, 2) := by decide +kernel
theorem dL_areRest_253 : decode cL_areRest 253 = .ok (.if_icmp .ne 50, 3) := by decide +kernel
theorem dL_areRest_256 : decode cL_areRest 256 = .ok (.aload_n 0, 1) := by decide +kernel
theorem dL_areRest_257 : decode cL_areRest 257 = .ok (.iload 8, 2) := by decide +kernel
theorem dL_areRest_259 : decode cL_areRest 259 = .ok (.invokevirtual 55, 3) := by decide +kernel
theorem dL_areRest_262 : decode cL_areRest 262 = .ok (.ldc 40, 2) := by decide +kernel
theorem dL_areRest_264 : decode cL_areRest 264 = .ok (.if_icmp .ne 39, 3) := by decide +kernel
theorem dL_areRest_267 : decode cL_areRest 267 = .ok (.aload_n 0, 1) := by decide +kernel
theorem dL_areRest_268 : decode cL_areRest 268 = .ok (.iconst 5, 1) := by decide +kernel
theorem dL_areRest_269 : decode cL_areRest 269 = .ok (.invokevirtual 41, 3) := by decide +kernel
theorem dL_areRest_272 : decode cL_areRest 272 = .ok (.iload 7, 2) := by decide +kernel
theorem dL_areRest_274 : decode cL_areRest 274 = .ok (.if_icmp .ne 29, 3) := by decide +kernel
theorem dL_areRest_277 : decode cL_areRest 277 = .ok (.aload_n 0, 1) := by decide +kernel
theorem dL_areRest_278 : decode cL_areRest 278 = .ok (.bipush 11, 2) := by decide +kernel
theorem dL_areRest_280 : decode cL_areRest 280 = .ok (.invokevirtual 41, 3) := by decide +kernel
theorem dL_areRest_283 : decode cL_areRest 283 = .ok (.iload 9, 2) := by decide +kernel
theorem dL_areRest_285 : decode cL_areRest 285 = .ok (.if_icmp .ne 18, 3) := by decide +kernel
theorem dL_areRest_288 : decode cL_areRest 288 = .ok (.aload_n 0, 1) := by decide +kernel
theorem dL_areRest_289 : decode cL_areRest 289 = .ok (.bipush 6, 2) := by decide +kernel
theorem dL_areRest_291 : decode cL_areRest 291 = .ok (.invokevirtual 58, 3) := by decide +kernel
theorem dL_areRest_294 : decode cL_areRest 294 = .ok (.ldc 39, 2) := by decide +kernel
theorem dL_areRest_296 : decode cL_areRest 296 = .ok (.if_icmp .ne 7, 3) := by decide +kernel
theorem dL_areRest_299 : decode cL_areRest 299 = .ok (.iconst 1, 1) := by decide +kernel
theorem dL_areRest_300 : decode cL_areRest 300 = .ok (.goto 4, 3) := by decide +kernel
theorem dL_areRest_303 : decode cL_areRest 303 = .ok (.iconst 0, 1) := by decide +kernel
theorem dL_areRest_304 : decode cL_areRest 304 = .ok (.ireturn, 1) := by decide +kernel
theorem dL_isStage_0 : decode cL_isStage 0 = .ok (.aload_n 1, 1) := by decide +kernel
theorem dL_isStage_1 : decode cL_isStage 1 = .ok (.aload_n 2, 1) := by decide +kernel
theorem dL_isStage_2 : decode cL_isStage 2 = .ok (.aload_n 3, 1) := by decide +kernel
theorem dL_isStage_3 : decode cL_isStage 3 = .ok (.aload 6, 2) := by decide +kernel
theorem dL_isStage_5 : decode cL_isStage 5 = .ok (.invokestatic 49, 3) := by decide +kernel
theorem dL_isStage_8 : decode cL_isStage 8 = .ok (.istore 9, 2) := by decide +kernel
theorem dL_isStage_10 : decode cL_isStage 10 = .ok (.aload 6, 2) := by decide +kernel
theorem dL_isStage_12 : decode cL_isStage 12 = .ok (.iconst 0, 1) := by decide +kernel
theorem dL_isStage_13 : decode cL_isStage 13 = .ok (.iaload, 1) := by decide +kernel
theorem dL_isStage_14 : decode cL_isStage 14 = .ok (.ifCond .ne 124, 3) := by decide +kernel
theorem dL_isStage_17 : decode cL_isStage 17 = .ok (.iload 9, 2) := by decide +kernel
theorem dL_isStage_19 : decode cL_isStage 19 = .ok (.ifCond .ne 92, 3) := by decide +kernel
theorem dL_isStage_22 : decode cL_isStage 22 = .ok (.aload 6, 2) := by decide +kernel
theorem dL_isStage_24 : decode cL_isStage 24 = .ok (.iconst 2, 1) := by decide +kernel
theorem dL_isStage_25 : decode cL_isStage 25 = .ok (.aload_n 1, 1) := by decide +kernel
theorem dL_isStage_26 : decode cL_isStage 26 = .ok (.aload 6, 2) := by decide +kernel
theorem dL_isStage_28 : decode cL_isStage 28 = .ok (.aload 8, 2) := by decide +kernel
theorem dL_isStage_30 : decode cL_isStage 30 = .ok (.invokestatic 61, 3) := by decide +kernel
theorem dL_isStage_33 : decode cL_isStage 33 = .ok (.iastore, 1) := by decide +kernel
theorem dL_isStage_34 : decode cL_isStage 34 = .ok (.iconst 0, 1) := by decide +kernel
theorem dL_isStage_35 : decode cL_isStage 35 = .ok (.istore 10, 2) := by decide +kernel
theorem dL_isStage_37 : decode cL_isStage 37 = .ok (.iload 10, 2) := by decide +kernel
theorem dL_isStage_39 : decode cL_isStage 39 = .ok (.aload 6, 2) := by decide +kernel
theorem dL_isStage_41 : decode cL_isStage 41 = .ok (.iconst 1, 1) := by decide +kernel
theorem dL_isStage_42 : decode cL_isStage 42 = .ok (.iaload, 1) := by decide +kernel
theorem dL_isStage_43 : decode cL_isStage 43 = .ok (.if_icmp .ge 63, 3) := by decide +kernel
theorem dL_isStage_46 : decode cL_isStage 46 = .ok (.aload_n 1, 1) := by decide +kernel
theorem dL_isStage_47 : decode cL_isStage 47 = .ok (.iconst 3, 1) := by decide +kernel
theorem dL_isStage_48 : decode cL_isStage 48 = .ok (.iload 10, 2) := by decide +kernel
theorem dL_isStage_50 : decode cL_isStage 50 = .ok (.imul, 1) := by decide +kernel
theorem dL_isStage_51 : decode cL_isStage 51 = .ok (.iconst 2, 1) := by decide +kernel
theorem dL_isStage_52 : decode cL_isStage 52 = .ok (.iadd, 1) := by decide +kernel
theorem dL_isStage_53 : decode cL_isStage 53 = .ok (.iaload, 1) := by decide +kernel
theorem dL_isStage_54 : decode cL_isStage 54 = .ok (.ifCond .ne 46, 3) := by decide +kernel
theorem dL_isStage_57 : decode cL_isStage 57 = .ok (.aload_n 1, 1) := by decide +kernel
theorem dL_isStage_58 : decode cL_isStage 58 = .ok (.aload 6, 2) := by decide +kernel
theorem dL_isStage_60 : decode cL_isStage 60 = .ok (.iload 10, 2) := by decide +kernel
theorem dL_isStage_62 : decode cL_isStage 62 = .ok (.invokestatic 15, 3) := by decide +kernel
theorem dL_isStage_65 : decode cL_isStage 65 = .ok (.istore 11, 2) := by decide +kernel
theorem dL_isStage_67 : decode cL_isStage 67 = .ok (.aload_n 2, 1) := by decide +kernel
theorem dL_isStage_68 : decode cL_isStage 68 = .ok (.iconst 3, 1) := by decide +kernel
theorem dL_isStage_69 : decode cL_isStage 69 = .ok (.iload 10, 2) := by decide +kernel
theorem dL_isStage_71 : decode cL_isStage 71 = .ok (.imul, 1) := by decide +kernel
theorem dL_isStage_72 : decode cL_isStage 72 = .ok (.aload 8, 2) := by decide +kernel
theorem dL_isStage_74 : decode cL_isStage 74 = .ok (.bipush 20, 2) := by decide +kernel
theorem dL_isStage_76 : decode cL_isStage 76 = .ok (.iload 11, 2) := by decide +kernel
theorem dL_isStage_78 : decode cL_isStage 78 = .ok (.iadd, 1) := by decide +kernel
theorem dL_isStage_79 : decode cL_isStage 79 = .ok (.iaload, 1) := by decide +kernel
theorem dL_isStage_80 : decode cL_isStage 80 = .ok (.iconst 1, 1) := by decide +kernel
theorem dL_isStage_81 : decode cL_isStage 81 = .ok (.iadd, 1) := by decide +kernel
theorem dL_isStage_82 : decode cL_isStage 82 = .ok (.iastore, 1) := by decide +kernel
theorem dL_isStage_83 : decode cL_isStage 83 = .ok (.aload_n 2, 1) := by decide +kernel
theorem dL_isStage_84 : decode cL_isStage 84 = .ok (.iconst 3, 1) := by decide +kernel
theorem dL_isStage_85 : decode cL_isStage 85 = .ok (.iload 10, 2) := by decide +kernel
theorem dL_isStage_87 : decode cL_isStage 87 = .ok (.imul, 1) := by decide +kernel
theorem dL_isStage_88 : decode cL_isStage 88 = .ok (.iconst 1, 1) := by decide +kernel
theorem dL_isStage_89 : decode cL_isStage 89 = .ok (.iadd, 1) := by decide +kernel
theorem dL_isStage_90 : decode cL_isStage 90 = .ok (.aload 6, 2) := by decide +kernel
theorem dL_isStage_92 : decode cL_isStage 92 = .ok (.aload 8, 2) := by decide +kernel
theorem dL_isStage_94 : decode cL_isStage 94 = .ok (.iload 11, 2) := by decide +kernel
theorem dL_isStage_96 : decode cL_isStage 96 = .ok (.invokestatic 65, 3) := by decide +kernel
theorem dL_isStage_99 : decode cL_isStage 99 = .ok (.iastore, 1) := by decide +kernel
theorem dL_isStage_100 : decode cL_isStage 100 = .ok (.iinc 10 1, 3) := by decide +kernel
theorem dL_isStage_103 : decode cL_isStage 103 = .ok (.goto (-66), 3) := by decide +kernel
theorem dL_isStage_106 : decode cL_isStage 106 = .ok (.aload 6, 2) := by decide +kernel
theorem dL_isStage_108 : decode cL_isStage 108 = .ok (.iconst 0, 1) := by decide +kernel
theorem dL_isStage_109 : decode cL_isStage 109 = .ok (.iconst 1, 1) := by decide +kernel
theorem dL_isStage_110 : decode cL_isStage 110 = .ok (.iastore, 1) := by decide +kernel
theorem dL_isStage_111 : decode cL_isStage 111 = .ok (.aload_n 0, 1) := by decide +kernel
theorem dL_isStage_112 : decode cL_isStage 112 = .ok (.invokevirtual 68, 3) := by decide +kernel
theorem dL_isStage_115 : decode cL_isStage 115 = .ok (.iload 9, 2) := by decide +kernel
theorem dL_isStage_117 : decode cL_isStage 117 = .ok (.ifCond .ne 10, 3) := by decide +kernel
theorem dL_isStage_120 : decode cL_isStage 120 = .ok (.aload 6, 2) := by decide +kernel
theorem dL_isStage_122 : decode cL_isStage 122 = .ok (.iconst 2, 1) := by decide +kernel
theorem dL_isStage_123 : decode cL_isStage 123 = .ok (.iaload, 1) := by decide +kernel
theorem dL_isStage_124 : decode cL_isStage 124 = .ok (.goto 5, 3) := by decide +kernel
theorem dL_isStage_127 : decode cL_isStage 127 = .ok (.ldc 71, 2) := by decide +kernel
theorem dL_isStage_129 : decode cL_isStage 129 = .ok (.if_icmp .ne 7, 3) := by decide +kernel
theorem dL_isStage_132 : decode cL_isStage 132 = .ok (.iconst 1, 1) := by decide +kernel
theorem dL_isStage_133 : decode cL_isStage 133 = .ok (.goto 4, 3) := by decide +kernel
theorem dL_isStage_136 : decode cL_isStage 136 = .ok (.iconst 0, 1) := by decide +kernel
theorem dL_isStage_137 : decode cL_isStage 137 = .ok (.ireturn, 1) := by decide +kernel
theorem dL_isStage_138 : decode cL_isStage 138 = .ok (.aload 6, 2) := by decide +kernel
theorem dL_isStage_140 : decode cL_isStage 140 = .ok (.iconst 0, 1) := by decide +kernel
theorem dL_isStage_141 : decode cL_isStage 141 = .ok (.iaload, 1) := by decide +kernel
theorem dL_isStage_142 : decode cL_isStage 142 = .ok (.iconst 1, 1) := by decide +kernel
theorem dL_isStage_143 : decode cL_isStage 143 = .ok (.if_icmp .ne 40, 3) := by decide +kernel
theorem dL_isStage_146 : decode cL_isStage 146 = .ok (.iload 9, 2) := by decide +kernel
theorem dL_isStage_148 : decode cL_isStage 148 = .ok (.ifCond .ne 16, 3) := by decide +kernel
theorem dL_isStage_151 : decode cL_isStage 151 = .ok (.aload_n 1, 1) := by decide +kernel
theorem dL_isStage_152 : decode cL_isStage 152 = .ok (.aload_n 2, 1) := by decide +kernel
theorem dL_isStage_153 : decode cL_isStage 153 = .ok (.aload_n 3, 1) := by decide +kernel
theorem dL_isStage_154 : decode cL_isStage 154 = .ok (.aload 5, 2) := by decide +kernel
theorem dL_isStage_156 : decode cL_isStage 156 = .ok (.aload 6, 2) := by decide +kernel
theorem dL_isStage_158 : decode cL_isStage 158 = .ok (.invokestatic 72, 3) := by decide +kernel
theorem dL_isStage_161 : decode cL_isStage 161 = .ok (.goto 5, 3) := by decide +kernel
theorem dL_isStage_164 : decode cL_isStage 164 = .ok (.ldc 71, 2) := by decide +kernel
theorem dL_isStage_166 : decode cL_isStage 166 = .ok (.istore 10, 2) := by decide +kernel
theorem dL_isStage_168 : decode cL_isStage 168 = .ok (.aload_n 0, 1) := by decide +kernel
theorem dL_isStage_169 : decode cL_isStage 169 = .ok (.invokevirtual 76, 3) := by decide +kernel
theorem dL_isStage_172 : decode cL_isStage 172 = .ok (.iload 10, 2) := by decide +kernel
theorem dL_isStage_174 : decode cL_isStage 174 = .ok (.if_icmp .ne 7, 3) := by decide +kernel
theorem dL_isStage_177 : decode cL_isStage 177 = .ok (.iconst 1, 1) := by decide +kernel
theorem dL_isStage_178 : decode cL_isStage 178 = .ok (.goto 4, 3) := by decide +kernel
theorem dL_isStage_181 : decode cL_isStage 181 = .ok (.iconst 0, 1) := by decide +kernel
theorem dL_isStage_182 : decode cL_isStage 182 = .ok (.ireturn, 1) := by decide +kernel
theorem dL_isStage_183 : decode cL_isStage 183 = .ok (.aload 6, 2) := by decide +kernel
theorem dL_isStage_185 : decode cL_isStage 185 = .ok (.iconst 0, 1) := by decide +kernel
theorem dL_isStage_186 : decode cL_isStage 186 = .ok (.iaload, 1) := by decide +kernel
theorem dL_isStage_187 : decode cL_isStage 187 = .ok (.iconst 2, 1) := by decide +kernel
theorem dL_isStage_188 : decode cL_isStage 188 = .ok (.if_icmp .ne 41, 3) := by decide +kernel
theorem dL_isStage_191 : decode cL_isStage 191 = .ok (.iload 9, 2) := by decide +kernel
theorem dL_isStage_193 : decode cL_isStage 193 = .ok (.ifCond .ne 17, 3) := by decide +kernel
theorem dL_isStage_196 : decode cL_isStage 196 = .ok (.aload_n 1, 1) := by decide +kernel
theorem dL_isStage_197 : decode cL_isStage 197 = .ok (.aload_n 3, 1) := by decide +kernel
theorem dL_isStage_198 : decode cL_isStage 198 = .ok (.aload 4, 2) := by decide +kernel
theorem dL_isStage_200 : decode cL_isStage 200 = .ok (.aload 6, 2) := by decide +kernel
theorem dL_isStage_202 : decode cL_isStage 202 = .ok (.aload 7, 2) := by decide +kernel
theorem dL_isStage_204 : decode cL_isStage 204 = .ok (.invokestatic 78, 3) := by decide +kernel
theorem dL_isStage_207 : decode cL_isStage 207 = .ok (.goto 5, 3) := by decide +kernel
theorem dL_isStage_210 : decode cL_isStage 210 = .ok (.ldc 71, 2) := by decide +kernel
theorem dL_isStage_212 : decode cL_isStage 212 = .ok (.istore 10, 2) := by decide +kernel
theorem dL_isStage_214 : decode cL_isStage 214 = .ok (.aload_n 0, 1) := by decide +kernel
theorem dL_isStage_215 : decode cL_isStage 215 = .ok (.invokevirtual 81, 3) := by decide +kernel
theorem dL_isStage_218 : decode cL_isStage 218 = .ok (.iload 10, 2) := by decide +kernel
theorem dL_isStage_220 : decode cL_isStage 220 = .ok (.if_icmp .ne 7, 3) := by decide +kernel
theorem dL_isStage_223 : decode cL_isStage 223 = .ok (.iconst 1, 1) := by decide +kernel
theorem dL_isStage_224 : decode cL_isStage 224 = .ok (.goto 4, 3) := by decide +kernel
theorem dL_isStage_227 : decode cL_isStage 227 = .ok (.iconst 0, 1) := by decide +kernel
theorem dL_isStage_228 : decode cL_isStage 228 = .ok (.ireturn, 1) := by decide +kernel
theorem dL_isStage_229 : decode cL_isStage 229 = .ok (.aload_n 1, 1) := by decide +kernel
theorem dL_isStage_230 : decode cL_isStage 230 = .ok (.aload_n 2, 1) := by decide +kernel
theorem dL_isStage_231 : decode cL_isStage 231 = .ok (.aload_n 3, 1) := by decide +kernel
theorem dL_isStage_232 : decode cL_isStage 232 = .ok (.aload 5, 2) := by decide +kernel
theorem dL_isStage_234 : decode cL_isStage 234 = .ok (.aload 6, 2) := by decide +kernel
theorem dL_isStage_236 : decode cL_isStage 236 = .ok (.invokestatic 83, 3) := by decide +kernel
theorem dL_isStage_239 : decode cL_isStage 239 = .ok (.istore 10, 2) := by decide +kernel
theorem dL_isStage_241 : decode cL_isStage 241 = .ok (.aload_n 0, 1) := by decide +kernel
theorem dL_isStage_242 : decode cL_isStage 242 = .ok (.invokevirtual 86, 3) := by decide +kernel
theorem dL_isStage_245 : decode cL_isStage 245 = .ok (.iload 10, 2) := by decide +kernel
theorem dL_isStage_247 : decode cL_isStage 247 = .ok (.if_icmp .ne 7, 3) := by decide +kernel
theorem dL_isStage_250 : decode cL_isStage 250 = .ok (.iconst 1, 1) := by decide +kernel
theorem dL_isStage_251 : decode cL_isStage 251 = .ok (.goto 4, 3) := by decide +kernel
theorem dL_isStage_254 : decode cL_isStage 254 = .ok (.iconst 0, 1) := by decide +kernel
theorem dL_isStage_255 : decode cL_isStage 255 = .ok (.ireturn, 1) := by decide +kernel
theorem dL_isSwum_0 : decode cL_isSwum 0 = .ok (.iload 5, 2) := by decide +kernel
theorem dL_isSwum_2 : decode cL_isSwum 2 = .ok (.aload 4, 2) := by decide +kernel
theorem dL_isSwum_4 : decode cL_isSwum 4 = .ok (.iconst 1, 1) := by decide +kernel
theorem dL_isSwum_5 : decode cL_isSwum 5 = .ok (.iaload, 1) := by decide +kernel
theorem dL_isSwum_6 : decode cL_isSwum 6 = .ok (.if_icmp .lt 8, 3) := by decide +kernel
theorem dL_isSwum_9 : decode cL_isSwum 9 = .ok (.ldc 39, 2) := by decide +kernel
theorem dL_isSwum_11 : decode cL_isSwum 11 = .ok (.goto 32, 3) := by decide +kernel
theorem dL_isSwum_14 : decode cL_isSwum 14 = .ok (.aload_n 1, 1) := by decide +kernel
theorem dL_isSwum_15 : decode cL_isSwum 15 = .ok (.aload_n 2, 1) := by decide +kernel
theorem dL_isSwum_16 : decode cL_isSwum 16 = .ok (.aload_n 3, 1) := by decide +kernel
theorem dL_isSwum_17 : decode cL_isSwum 17 = .ok (.aload 4, 2) := by decide +kernel
theorem dL_isSwum_19 : decode cL_isSwum 19 = .ok (.iload 5, 2) := by decide +kernel
theorem dL_isSwum_21 : decode cL_isSwum 21 = .ok (.invokestatic 23, 3) := by decide +kernel
theorem dL_isSwum_24 : decode cL_isSwum 24 = .ok (.ifCond .eq 17, 3) := by decide +kernel
theorem dL_isSwum_27 : decode cL_isSwum 27 = .ok (.aload_n 2, 1) := by decide +kernel
theorem dL_isSwum_28 : decode cL_isSwum 28 = .ok (.aload_n 3, 1) := by decide +kernel
theorem dL_isSwum_29 : decode cL_isSwum 29 = .ok (.aload 4, 2) := by decide +kernel
theorem dL_isSwum_31 : decode cL_isSwum 31 = .ok (.iload 5, 2) := by decide +kernel
theorem dL_isSwum_33 : decode cL_isSwum 33 = .ok (.iload 6, 2) := by decide +kernel
theorem dL_isSwum_35 : decode cL_isSwum 35 = .ok (.invokestatic 88, 3) := by decide +kernel
theorem dL_isSwum_38 : decode cL_isSwum 38 = .ok (.goto 5, 3) := by decide +kernel
theorem dL_isSwum_41 : decode cL_isSwum 41 = .ok (.ldc 71, 2) := by decide +kernel
theorem dL_isSwum_43 : decode cL_isSwum 43 = .ok (.istore 7, 2) := by decide +kernel
theorem dL_isSwum_45 : decode cL_isSwum 45 = .ok (.aload_n 0, 1) := by decide +kernel
theorem dL_isSwum_46 : decode cL_isSwum 46 = .ok (.iload 5, 2) := by decide +kernel
theorem dL_isSwum_48 : decode cL_isSwum 48 = .ok (.iload 6, 2) := by decide +kernel
theorem dL_isSwum_50 : decode cL_isSwum 50 = .ok (.invokevirtual 92, 3) := by decide +kernel
theorem dL_isSwum_53 : decode cL_isSwum 53 = .ok (.iload 7, 2) := by decide +kernel
theorem dL_isSwum_55 : decode cL_isSwum 55 = .ok (.if_icmp .ne 7, 3) := by decide +kernel
theorem dL_isSwum_58 : decode cL_isSwum 58 = .ok (.iconst 1, 1) := by decide +kernel
theorem dL_isSwum_59 : decode cL_isSwum 59 = .ok (.goto 4, 3) := by decide +kernel
theorem dL_isSwum_62 : decode cL_isSwum 62 = .ok (.iconst 0, 1) := by decide +kernel
theorem dL_isSwum_63 : decode cL_isSwum 63 = .ok (.ireturn, 1) := by decide +kernel
theorem dL_isActed_0 : decode cL_isActed 0 = .ok (.iload 10, 2) := by decide +kernel
theorem dL_isActed_2 : decode cL_isActed 2 = .ok (.bipush 20, 2) := by decide +kernel
theorem dL_isActed_4 : decode cL_isActed 4 = .ok (.irem, 1) := by decide +kernel
theorem dL_isActed_5 : decode cL_isActed 5 = .ok (.istore 11, 2) := by decide +kernel
theorem dL_isActed_7 : decode cL_isActed 7 = .ok (.iload 10, 2) := by decide +kernel
theorem dL_isActed_9 : decode cL_isActed 9 = .ok (.bipush 20, 2) := by decide +kernel
theorem dL_isActed_11 : decode cL_isActed 11 = .ok (.idiv, 1) := by decide +kernel
theorem dL_isActed_12 : decode cL_isActed 12 = .ok (.istore 12, 2) := by decide +kernel
theorem dL_isActed_14 : decode cL_isActed 14 = .ok (.iload 9, 2) := by decide +kernel
theorem dL_isActed_16 : decode cL_isActed 16 = .ok (.iconst 5, 1) := by decide +kernel
theorem dL_isActed_17 : decode cL_isActed 17 = .ok (.if_icmp .ge 112, 3) := by decide +kernel
theorem dL_isActed_20 : decode cL_isActed 20 = .ok (.aload 6, 2) := by decide +kernel
theorem dL_isActed_22 : decode cL_isActed 22 = .ok (.iconst 0, 1) := by decide +kernel
theorem dL_isActed_23 : decode cL_isActed 23 = .ok (.iaload, 1) := by decide +kernel
theorem dL_isActed_24 : decode cL_isActed 24 = .ok (.ifCond .ne 105, 3) := by decide +kernel
theorem dL_isActed_27 : decode cL_isActed 27 = .ok (.aload 6, 2) := by decide +kernel
theorem dL_isActed_29 : decode cL_isActed 29 = .ok (.iconst 1, 1) := by decide +kernel
theorem dL_isActed_30 : decode cL_isActed 30 = .ok (.iaload, 1) := by decide +kernel
theorem dL_isActed_31 : decode cL_isActed 31 = .ok (.bipush 20, 2) := by decide +kernel
theorem dL_isActed_33 : decode cL_isActed 33 = .ok (.if_icmp .ge 96, 3) := by decide +kernel
theorem dL_isActed_36 : decode cL_isActed 36 = .ok (.iload 12, 2) := by decide +kernel
theorem dL_isActed_38 : decode cL_isActed 38 = .ok (.iconst 5, 1) := by decide +kernel
theorem dL_isActed_39 : decode cL_isActed 39 = .ok (.irem, 1) := by decide +kernel
theorem dL_isActed_40 : decode cL_isActed 40 = .ok (.ifCond .ne 7, 3) := by decide +kernel
theorem dL_isActed_43 : decode cL_isActed 43 = .ok (.iconst 0, 1) := by decide +kernel
theorem dL_isActed_44 : decode cL_isActed 44 = .ok (.goto 24, 3) := by decide +kernel
theorem dL_isActed_47 : decode cL_isActed 47 = .ok (.bipush 100, 2) := by decide +kernel
theorem dL_isActed_49 : decode cL_isActed 49 = .ok (.iload 12, 2) := by decide +kernel
theorem dL_isActed_51 : decode cL_isActed 51 = .ok (.iload 12, 2) := by decide +kernel
theorem dL_isActed_53 : decode cL_isActed 53 = .ok (.iconst 2, 1) := by decide +kernel
theorem dL_isActed_54 : decode cL_isActed 54 = .ok (.irem, 1) := by decide +kernel
theorem dL_isActed_55 : decode cL_isActed 55 = .ok (.ifCond .ne 9, 3) := by decide +kernel
theorem dL_isActed_58 : decode cL_isActed 58 = .ok (.sipush 900, 3) := by decide +kernel
theorem dL_isActed_61 : decode cL_isActed 61 = .ok (.goto 5, 3) := by decide +kernel
theorem dL_isActed_64 : decode cL_isActed 64 = .ok (.bipush 9, 2) := by decide +kernel
theorem dL_isActed_66 : decode cL_isActed 66 = .ok (.irem, 1) := by decide +kernel
theorem dL_isActed_67 : decode cL_isActed 67 = .ok (.iadd, 1) := by decide +kernel
theorem dL_isActed_68 : decode cL_isActed 68 = .ok (.istore 13, 2) := by decide +kernel
theorem dL_isActed_70 : decode cL_isActed 70 = .ok (.aload_n 1, 1) := by decide +kernel
theorem dL_isActed_71 : decode cL_isActed 71 = .ok (.iconst 3, 1) := by decide +kernel
theorem dL_isActed_72 : decode cL_isActed 72 = .ok (.aload 6, 2) := by decide +kernel
theorem dL_isActed_74 : decode cL_isActed 74 = .ok (.iconst 1, 1) := by decide +kernel
theorem dL_isActed_75 : decode cL_isActed 75 = .ok (.iaload, 1) := by decide +kernel
theorem dL_isActed_76 : decode cL_isActed 76 = .ok (.imul, 1) := by decide +kernel
theorem dL_isActed_77 : decode cL_isActed 77 = .ok (.iload 10, 2) := by decide +kernel
theorem dL_isActed_79 : decode cL_isActed 79 = .ok (.bipush 6, 2) := by decide +kernel
theorem dL_isActed_81 : decode cL_isActed 81 = .ok (.irem, 1) := by decide +kernel
theorem dL_isActed_82 : decode cL_isActed 82 = .ok (.iastore, 1) := by decide +kernel
theorem dL_isActed_83 : decode cL_isActed 83 = .ok (.aload_n 1, 1) := by decide +kernel
theorem dL_isActed_84 : decode cL_isActed 84 = .ok (.iconst 3, 1) := by decide +kernel
theorem dL_isActed_85 : decode cL_isActed 85 = .ok (.aload 6, 2) := by decide +kernel
theorem dL_isActed_87 : decode cL_isActed 87 = .ok (.iconst 1, 1) := by decide +kernel
theorem dL_isActed_88 : decode cL_isActed 88 = .ok (.iaload, 1) := by decide +kernel
theorem dL_isActed_89 : decode cL_isActed 89 = .ok (.imul, 1) := by decide +kernel
theorem dL_isActed_90 : decode cL_isActed 90 = .ok (.iconst 1, 1) := by decide +kernel
theorem dL_isActed_91 : decode cL_isActed 91 = .ok (.iadd, 1) := by decide +kernel
theorem dL_isActed_92 : decode cL_isActed 92 = .ok (.iload 13, 2) := by decide +kernel
theorem dL_isActed_94 : decode cL_isActed 94 = .ok (.iastore, 1) := by decide +kernel
theorem dL_isActed_95 : decode cL_isActed 95 = .ok (.aload 6, 2) := by decide +kernel
theorem dL_isActed_97 : decode cL_isActed 97 = .ok (.iconst 1, 1) := by decide +kernel
theorem dL_isActed_98 : decode cL_isActed 98 = .ok (.dup2, 1) := by decide +kernel
theorem dL_isActed_99 : decode cL_isActed 99 = .ok (.iaload, 1) := by decide +kernel
theorem dL_isActed_100 : decode cL_isActed 100 = .ok (.iconst 1, 1) := by decide +kernel
theorem dL_isActed_101 : decode cL_isActed 101 = .ok (.iadd, 1) := by decide +kernel
theorem dL_isActed_102 : decode cL_isActed 102 = .ok (.iastore, 1) := by decide +kernel
theorem dL_isActed_103 : decode cL_isActed 103 = .ok (.aload_n 0, 1) := by decide +kernel
theorem dL_isActed_104 : decode cL_isActed 104 = .ok (.iload 10, 2) := by decide +kernel
theorem dL_isActed_106 : decode cL_isActed 106 = .ok (.bipush 6, 2) := by decide +kernel
theorem dL_isActed_108 : decode cL_isActed 108 = .ok (.irem, 1) := by decide +kernel
theorem dL_isActed_109 : decode cL_isActed 109 = .ok (.iload 13, 2) := by decide +kernel
theorem dL_isActed_111 : decode cL_isActed 111 = .ok (.invokevirtual 95, 3) := by decide +kernel
theorem dL_isActed_114 : decode cL_isActed 114 = .ok (.aload 6, 2) := by decide +kernel
theorem dL_isActed_116 : decode cL_isActed 116 = .ok (.iconst 1, 1) := by decide +kernel
theorem dL_isActed_117 : decode cL_isActed 117 = .ok (.iaload, 1) := by decide +kernel
theorem dL_isActed_118 : decode cL_isActed 118 = .ok (.iconst 1, 1) := by decide +kernel
theorem dL_isActed_119 : decode cL_isActed 119 = .ok (.isub, 1) := by decide +kernel
theorem dL_isActed_120 : decode cL_isActed 120 = .ok (.if_icmp .ne 7, 3) := by decide +kernel
theorem dL_isActed_123 : decode cL_isActed 123 = .ok (.iconst 1, 1) := by decide +kernel
theorem dL_isActed_124 : decode cL_isActed 124 = .ok (.goto 4, 3) := by decide +kernel
theorem dL_isActed_127 : decode cL_isActed 127 = .ok (.iconst 0, 1) := by decide +kernel
theorem dL_isActed_128 : decode cL_isActed 128 = .ok (.ireturn, 1) := by decide +kernel
theorem dL_isActed_129 : decode cL_isActed 129 = .ok (.iload 9, 2) := by decide +kernel
theorem dL_isActed_131 : decode cL_isActed 131 = .ok (.iconst 5, 1) := by decide +kernel
theorem dL_isActed_132 : decode cL_isActed 132 = .ok (.if_icmp .ne 73, 3) := by decide +kernel
theorem dL_isActed_135 : decode cL_isActed 135 = .ok (.iload 11, 2) := by decide +kernel
theorem dL_isActed_137 : decode cL_isActed 137 = .ok (.aload 6, 2) := by decide +kernel
theorem dL_isActed_139 : decode cL_isActed 139 = .ok (.iconst 1, 1) := by decide +kernel
theorem dL_isActed_140 : decode cL_isActed 140 = .ok (.iaload, 1) := by decide +kernel
theorem dL_isActed_141 : decode cL_isActed 141 = .ok (.if_icmp .lt 8, 3) := by decide +kernel
theorem dL_isActed_144 : decode cL_isActed 144 = .ok (.ldc 39, 2) := by decide +kernel
theorem dL_isActed_146 : decode cL_isActed 146 = .ok (.goto 40, 3) := by decide +kernel
theorem dL_isActed_149 : decode cL_isActed 149 = .ok (.aload_n 1, 1) := by decide +kernel
theorem dL_isActed_150 : decode cL_isActed 150 = .ok (.iconst 3, 1) := by decide +kernel
theorem dL_isActed_151 : decode cL_isActed 151 = .ok (.iload 11, 2) := by decide +kernel
theorem dL_isActed_153 : decode cL_isActed 153 = .ok (.imul, 1) := by decide +kernel
theorem dL_isActed_154 : decode cL_isActed 154 = .ok (.iconst 2, 1) := by decide +kernel
theorem dL_isActed_155 : decode cL_isActed 155 = .ok (.iadd, 1) := by decide +kernel
theorem dL_isActed_156 : decode cL_isActed 156 = .ok (.iaload, 1) := by decide +kernel
theorem dL_isActed_157 : decode cL_isActed 157 = .ok (.iconst 1, 1) := by decide +kernel
theorem dL_isActed_158 : decode cL_isActed 158 = .ok (.if_icmp .eq 11, 3) := by decide +kernel
theorem dL_isActed_161 : decode cL_isActed 161 = .ok (.aload 6, 2) := by decide +kernel
theorem dL_isActed_163 : decode cL_isActed 163 = .ok (.iconst 0, 1) := by decide +kernel
theorem dL_isActed_164 : decode cL_isActed 164 = .ok (.iaload, 1) := by decide +kernel
theorem dL_isActed_165 : decode cL_isActed 165 = .ok (.iconst 3, 1) := by decide +kernel
theorem dL_isActed_166 : decode cL_isActed 166 = .ok (.if_icmp .ne 8, 3) := by decide +kernel
theorem dL_isActed_169 : decode cL_isActed 169 = .ok (.ldc 71, 2) := by decide +kernel
theorem dL_isActed_171 : decode cL_isActed 171 = .ok (.goto 15, 3) := by decide +kernel
theorem dL_isActed_174 : decode cL_isActed 174 = .ok (.aload_n 1, 1) := by decide +kernel
theorem dL_isActed_175 : decode cL_isActed 175 = .ok (.aload_n 2, 1) := by decide +kernel
theorem dL_isActed_176 : decode cL_isActed 176 = .ok (.aload_n 3, 1) := by decide +kernel
theorem dL_isActed_177 : decode cL_isActed 177 = .ok (.aload 5, 2) := by decide +kernel
theorem dL_isActed_179 : decode cL_isActed 179 = .ok (.aload 6, 2) := by decide +kernel
theorem dL_isActed_181 : decode cL_isActed 181 = .ok (.iload 11, 2) := by decide +kernel
theorem dL_isActed_183 : decode cL_isActed 183 = .ok (.invokestatic 98, 3) := by decide +kernel
theorem dL_isActed_186 : decode cL_isActed 186 = .ok (.istore 13, 2) := by decide +kernel
theorem dL_isActed_188 : decode cL_isActed 188 = .ok (.aload_n 0, 1) := by decide +kernel
theorem dL_isActed_189 : decode cL_isActed 189 = .ok (.iload 11, 2) := by decide +kernel
theorem dL_isActed_191 : decode cL_isActed 191 = .ok (.invokevirtual 102, 3) := by decide +kernel
theorem dL_isActed_194 : decode cL_isActed 194 = .ok (.iload 13, 2) := by decide +kernel
theorem dL_isActed_196 : decode cL_isActed 196 = .ok (.if_icmp .ne 7, 3) := by decide +kernel
theorem dL_isActed_199 : decode cL_isActed 199 = .ok (.iconst 1, 1) := by decide +kernel
theorem dL_isActed_200 : decode cL_isActed 200 = .ok (.goto 4, 3) := by decide +kernel
theorem dL_isActed_203 : decode cL_isActed 203 = .ok (.iconst 0, 1) := by decide +kernel
theorem dL_isActed_204 : decode cL_isActed 204 = .ok (.ireturn, 1) := by decide +kernel
theorem dL_isActed_205 : decode cL_isActed 205 = .ok (.iload 9, 2) := by decide +kernel
theorem dL_isActed_207 : decode cL_isActed 207 = .ok (.bipush 7, 2) := by decide +kernel
theorem dL_isActed_209 : decode cL_isActed 209 = .ok (.if_icmp .ne 113, 3) := by decide +kernel
theorem dL_isActed_212 : decode cL_isActed 212 = .ok (.iload 10, 2) := by decide +kernel
theorem dL_isActed_214 : decode cL_isActed 214 = .ok (.iconst 3, 1) := by decide +kernel
theorem dL_isActed_215 : decode cL_isActed 215 = .ok (.irem, 1) := by decide +kernel
theorem dL_isActed_216 : decode cL_isActed 216 = .ok (.istore 13, 2) := by decide +kernel
theorem dL_isActed_218 : decode cL_isActed 218 = .ok (.iload 13, 2) := by decide +kernel
theorem dL_isActed_220 : decode cL_isActed 220 = .ok (.ifCond .ne 12, 3) := by decide +kernel
theorem dL_isActed_223 : decode cL_isActed 223 = .ok (.iconst 4, 1) := by decide +kernel
theorem dL_isActed_224 : decode cL_isActed 224 = .ok (.iload 12, 2) := by decide +kernel
theorem dL_isActed_226 : decode cL_isActed 226 = .ok (.iconst 4, 1) := by decide +kernel
theorem dL_isActed_227 : decode cL_isActed 227 = .ok (.irem, 1) := by decide +kernel
theorem dL_isActed_228 : decode cL_isActed 228 = .ok (.iadd, 1) := by decide +kernel
theorem dL_isActed_229 : decode cL_isActed 229 = .ok (.goto 22, 3) := by decide +kernel
theorem dL_isActed_232 : decode cL_isActed 232 = .ok (.iload 13, 2) := by decide +kernel
theorem dL_isActed_234 : decode cL_isActed 234 = .ok (.iconst 1, 1) := by decide +kernel
theorem dL_isActed_235 : decode cL_isActed 235 = .ok (.if_icmp .ne 12, 3) := by decide +kernel
theorem dL_isActed_238 : decode cL_isActed 238 = .ok (.iconst 1, 1) := by decide +kernel
theorem dL_isActed_239 : decode cL_isActed 239 = .ok (.iload 12, 2) := by decide +kernel
theorem dL_isActed_241 : decode cL_isActed 241 = .ok (.iconst 3, 1) := by decide +kernel
theorem dL_isActed_242 : decode cL_isActed 242 = .ok (.irem, 1) := by decide +kernel
theorem dL_isActed_243 : decode cL_isActed 243 = .ok (.iadd, 1) := by decide +kernel
theorem dL_isActed_244 : decode cL_isActed 244 = .ok (.goto 7, 3) := by decide +kernel
theorem dL_isActed_247 : decode cL_isActed 247 = .ok (.iload 12, 2) := by decide +kernel
theorem dL_isActed_249 : decode cL_isActed 249 = .ok (.iconst 5, 1) := by decide +kernel
theorem dL_isActed_250 : decode cL_isActed 250 = .ok (.irem, 1) := by decide +kernel
theorem dL_isActed_251 : decode cL_isActed 251 = .ok (.istore 14, 2) := by decide +kernel
theorem dL_isActed_253 : decode cL_isActed 253 = .ok (.aload 6, 2) := by decide +kernel
theorem dL_isActed_255 : decode cL_isActed 255 = .ok (.iconst 0, 1) := by decide +kernel
theorem dL_isActed_256 : decode cL_isActed 256 = .ok (.iaload, 1) := by decide +kernel
theorem dL_isActed_257 : decode cL_isActed 257 = .ok (.ifCond .ne 14, 3) := by decide +kernel
theorem dL_isActed_260 : decode cL_isActed 260 = .ok (.aload 6, 2) := by decide +kernel
theorem dL_isActed_262 : decode cL_isActed 262 = .ok (.bipush 7, 2) := by decide +kernel
theorem dL_isActed_264 : decode cL_isActed 264 = .ok (.iload 13, 2) := by decide +kernel
theorem dL_isActed_266 : decode cL_isActed 266 = .ok (.iadd, 1) := by decide +kernel
theorem dL_isActed_267 : decode cL_isActed 267 = .ok (.iaload, 1) := by decide +kernel
theorem dL_isActed_268 : decode cL_isActed 268 = .ok (.goto 5, 3) := by decide +kernel
theorem dL_isActed_271 : decode cL_isActed 271 = .ok (.ldc 71, 2) := by decide +kernel
theorem dL_isActed_273 : decode cL_isActed 273 = .ok (.istore 15, 2) := by decide +kernel
theorem dL_isActed_275 : decode cL_isActed 275 = .ok (.aload 6, 2) := by decide +kernel
theorem dL_isActed_277 : decode cL_isActed 277 = .ok (.bipush 7, 2) := by decide +kernel
theorem dL_isActed_279 : decode cL_isActed 279 = .ok (.iload 13, 2) := by decide +kernel
theorem dL_isActed_281 : decode cL_isActed 281 = .ok (.iadd, 1) := by decide +kernel
theorem dL_isActed_282 : decode cL_isActed 282 = .ok (.aload 6, 2) := by decide +kernel
theorem dL_isActed_284 : decode cL_isActed 284 = .ok (.iconst 0, 1) := by decide +kernel
theorem dL_isActed_285 : decode cL_isActed 285 = .ok (.iaload, 1) := by decide +kernel
theorem dL_isActed_286 : decode cL_isActed 286 = .ok (.ifCond .ne 8, 3) := by decide +kernel
theorem dL_isActed_289 : decode cL_isActed 289 = .ok (.iload 14, 2) := by decide +kernel
theorem dL_isActed_291 : decode cL_isActed 291 = .ok (.goto 11, 3) := by decide +kernel
theorem dL_isActed_294 : decode cL_isActed 294 = .ok (.aload 6, 2) := by decide +kernel
theorem dL_isActed_296 : decode cL_isActed 296 = .ok (.bipush 7, 2) := by decide +kernel
theorem dL_isActed_298 : decode cL_isActed 298 = .ok (.iload 13, 2) := by decide +kernel
theorem dL_isActed_300 : decode cL_isActed 300 = .ok (.iadd, 1) := by decide +kernel
theorem dL_isActed_301 : decode cL_isActed 301 = .ok (.iaload, 1) := by decide +kernel
theorem dL_isActed_302 : decode cL_isActed 302 = .ok (.iastore, 1) := by decide +kernel
theorem dL_isActed_303 : decode cL_isActed 303 = .ok (.aload_n 0, 1) := by decide +kernel
theorem dL_isActed_304 : decode cL_isActed 304 = .ok (.iload 13, 2) := by decide +kernel
theorem dL_isActed_306 : decode cL_isActed 306 = .ok (.iload 14, 2) := by decide +kernel
theorem dL_isActed_308 : decode cL_isActed 308 = .ok (.invokevirtual 104, 3) := by decide +kernel
theorem dL_isActed_311 : decode cL_isActed 311 = .ok (.iload 15, 2) := by decide +kernel
theorem dL_isActed_313 : decode cL_isActed 313 = .ok (.if_icmp .ne 7, 3) := by decide +kernel
theorem dL_isActed_316 : decode cL_isActed 316 = .ok (.iconst 1, 1) := by decide +kernel
theorem dL_isActed_317 : decode cL_isActed 317 = .ok (.goto 4, 3) := by decide +kernel
theorem dL_isActed_320 : decode cL_isActed 320 = .ok (.iconst 0, 1) := by decide +kernel
theorem dL_isActed_321 : decode cL_isActed 321 = .ok (.ireturn, 1) := by decide +kernel
theorem dL_isActed_322 : decode cL_isActed 322 = .ok (.iload 9, 2) := by decide +kernel
theorem dL_isActed_324 : decode cL_isActed 324 = .ok (.bipush 10, 2) := by decide +kernel
theorem dL_isActed_326 : decode cL_isActed 326 = .ok (.if_icmp .ge 48, 3) := by decide +kernel
theorem dL_isActed_329 : decode cL_isActed 329 = .ok (.aload_n 0, 1) := by decide +kernel
theorem dL_isActed_330 : decode cL_isActed 330 = .ok (.aload_n 1, 1) := by decide +kernel
theorem dL_isActed_331 : decode cL_isActed 331 = .ok (.aload_n 2, 1) := by decide +kernel
theorem dL_isActed_332 : decode cL_isActed 332 = .ok (.aload_n 3, 1) := by decide +kernel
theorem dL_isActed_333 : decode cL_isActed 333 = .ok (.aload 6, 2) := by decide +kernel
theorem dL_isActed_335 : decode cL_isActed 335 = .ok (.iload 11, 2) := by decide +kernel
theorem dL_isActed_337 : decode cL_isActed 337 = .ok (.iload 12, 2) := by decide +kernel
theorem dL_isActed_339 : decode cL_isActed 339 = .ok (.bipush 6, 2) := by decide +kernel
theorem dL_isActed_341 : decode cL_isActed 341 = .ok (.irem, 1) := by decide +kernel
theorem dL_isActed_342 : decode cL_isActed 342 = .ok (.ifCond .ne 7, 3) := by decide +kernel
theorem dL_isActed_345 : decode cL_isActed 345 = .ok (.iconst 0, 1) := by decide +kernel
theorem dL_isActed_346 : decode cL_isActed 346 = .ok (.goto 24, 3) := by decide +kernel
theorem dL_isActed_349 : decode cL_isActed 349 = .ok (.bipush 100, 2) := by decide +kernel
theorem dL_isActed_351 : decode cL_isActed 351 = .ok (.iload 12, 2) := by decide +kernel
theorem dL_isActed_353 : decode cL_isActed 353 = .ok (.iload 12, 2) := by decide +kernel
theorem dL_isActed_355 : decode cL_isActed 355 = .ok (.iconst 2, 1) := by decide +kernel
theorem dL_isActed_356 : decode cL_isActed 356 = .ok (.irem, 1) := by decide +kernel
theorem dL_isActed_357 : decode cL_isActed 357 = .ok (.ifCond .ne 9, 3) := by decide +kernel
theorem dL_isActed_360 : decode cL_isActed 360 = .ok (.sipush 900, 3) := by decide +kernel
theorem dL_isActed_363 : decode cL_isActed 363 = .ok (.goto 5, 3) := by decide +kernel
theorem dL_isActed_366 : decode cL_isActed 366 = .ok (.bipush 7, 2) := by decide +kernel
theorem dL_isActed_368 : decode cL_isActed 368 = .ok (.irem, 1) := by decide +kernel
theorem dL_isActed_369 : decode cL_isActed 369 = .ok (.iadd, 1) := by decide +kernel
theorem dL_isActed_370 : decode cL_isActed 370 = .ok (.invokestatic 107, 3) := by decide +kernel
theorem dL_isActed_373 : decode cL_isActed 373 = .ok (.ireturn, 1) := by decide +kernel
theorem dL_isActed_374 : decode cL_isActed 374 = .ok (.iload 9, 2) := by decide +kernel
theorem dL_isActed_376 : decode cL_isActed 376 = .ok (.bipush 13, 2) := by decide +kernel
theorem dL_isActed_378 : decode cL_isActed 378 = .ok (.if_icmp .ge 126, 3) := by decide +kernel
theorem dL_isActed_381 : decode cL_isActed 381 = .ok (.aload 6, 2) := by decide +kernel
theorem dL_isActed_383 : decode cL_isActed 383 = .ok (.iconst 0, 1) := by decide +kernel
theorem dL_isActed_384 : decode cL_isActed 384 = .ok (.iaload, 1) := by decide +kernel
theorem dL_isActed_385 : decode cL_isActed 385 = .ok (.iconst 1, 1) := by decide +kernel
theorem dL_isActed_386 : decode cL_isActed 386 = .ok (.if_icmp .eq 11, 3) := by decide +kernel
theorem dL_isActed_389 : decode cL_isActed 389 = .ok (.aload 6, 2) := by decide +kernel
theorem dL_isActed_391 : decode cL_isActed 391 = .ok (.iconst 0, 1) := by decide +kernel
theorem dL_isActed_392 : decode cL_isActed 392 = .ok (.iaload, 1) := by decide +kernel
theorem dL_isActed_393 : decode cL_isActed 393 = .ok (.iconst 2, 1) := by decide +kernel
theorem dL_isActed_394 : decode cL_isActed 394 = .ok (.if_icmp .ne 110, 3) := by decide +kernel
theorem dL_isActed_397 : decode cL_isActed 397 = .ok (.iconst 1, 1) := by decide +kernel
theorem dL_isActed_398 : decode cL_isActed 398 = .ok (.istore 13, 2) := by decide +kernel
theorem dL_isActed_400 : decode cL_isActed 400 = .ok (.iconst 0, 1) := by decide +kernel
theorem dL_isActed_401 : decode cL_isActed 401 = .ok (.istore 14, 2) := by decide +kernel
theorem dL_isActed_403 : decode cL_isActed 403 = .ok (.iload 14, 2) := by decide +kernel
theorem dL_isActed_405 : decode cL_isActed 405 = .ok (.aload 6, 2) := by decide +kernel
theorem dL_isActed_407 : decode cL_isActed 407 = .ok (.iconst 1, 1) := by decide +kernel
theorem dL_isActed_408 : decode cL_isActed 408 = .ok (.iaload, 1) := by decide +kernel
theorem dL_isActed_409 : decode cL_isActed 409 = .ok (.if_icmp .ge 92, 3) := by decide +kernel
theorem dL_isActed_412 : decode cL_isActed 412 = .ok (.iload 13, 2) := by decide +kernel
theorem dL_isActed_414 : decode cL_isActed 414 = .ok (.ifCond .eq 87, 3) := by decide +kernel
theorem dL_isActed_417 : decode cL_isActed 417 = .ok (.aload_n 1, 1) := by decide +kernel
theorem dL_isActed_418 : decode cL_isActed 418 = .ok (.aload_n 2, 1) := by decide +kernel
theorem dL_isActed_419 : decode cL_isActed 419 = .ok (.aload_n 3, 1) := by decide +kernel
theorem dL_isActed_420 : decode cL_isActed 420 = .ok (.aload 6, 2) := by decide +kernel
theorem dL_isActed_422 : decode cL_isActed 422 = .ok (.iload 14, 2) := by decide +kernel
theorem dL_isActed_424 : decode cL_isActed 424 = .ok (.invokestatic 23, 3) := by decide +kernel
theorem dL_isActed_427 : decode cL_isActed 427 = .ok (.ifCond .eq 61, 3) := by decide +kernel
theorem dL_isActed_430 : decode cL_isActed 430 = .ok (.aload_n 2, 1) := by decide +kernel
theorem dL_isActed_431 : decode cL_isActed 431 = .ok (.aload_n 3, 1) := by decide +kernel
theorem dL_isActed_432 : decode cL_isActed 432 = .ok (.aload 6, 2) := by decide +kernel
theorem dL_isActed_434 : decode cL_isActed 434 = .ok (.iload 14, 2) := by decide +kernel
theorem dL_isActed_436 : decode cL_isActed 436 = .ok (.invokestatic 27, 3) := by decide +kernel
theorem dL_isActed_439 : decode cL_isActed 439 = .ok (.ifCond .gt 49, 3) := by decide +kernel
theorem dL_isActed_442 : decode cL_isActed 442 = .ok (.aload_n 0, 1) := by decide +kernel
theorem dL_isActed_443 : decode cL_isActed 443 = .ok (.aload_n 1, 1) := by decide +kernel
theorem dL_isActed_444 : decode cL_isActed 444 = .ok (.aload_n 2, 1) := by decide +kernel
theorem dL_isActed_445 : decode cL_isActed 445 = .ok (.aload_n 3, 1) := by decide +kernel
theorem dL_isActed_446 : decode cL_isActed 446 = .ok (.aload 6, 2) := by decide +kernel
theorem dL_isActed_448 : decode cL_isActed 448 = .ok (.iload 14, 2) := by decide +kernel
theorem dL_isActed_450 : decode cL_isActed 450 = .ok (.iload 12, 2) := by decide +kernel
theorem dL_isActed_452 : decode cL_isActed 452 = .ok (.iload 14, 2) := by decide +kernel
theorem dL_isActed_454 : decode cL_isActed 454 = .ok (.iadd, 1) := by decide +kernel
theorem dL_isActed_455 : decode cL_isActed 455 = .ok (.bipush 7, 2) := by decide +kernel
theorem dL_isActed_457 : decode cL_isActed 457 = .ok (.irem, 1) := by decide +kernel
theorem dL_isActed_458 : decode cL_isActed 458 = .ok (.ifCond .ne 7, 3) := by decide +kernel
theorem dL_isActed_461 : decode cL_isActed 461 = .ok (.iconst 0, 1) := by decide +kernel
theorem dL_isActed_462 : decode cL_isActed 462 = .ok (.goto 20, 3) := by decide +kernel
theorem dL_isActed_465 : decode cL_isActed 465 = .ok (.bipush 100, 2) := by decide +kernel
theorem dL_isActed_467 : decode cL_isActed 467 = .ok (.iload 12, 2) := by decide +kernel
theorem dL_isActed_469 : decode cL_isActed 469 = .ok (.bipush 97, 2) := by decide +kernel
theorem dL_isActed_471 : decode cL_isActed 471 = .ok (.irem, 1) := by decide +kernel
theorem dL_isActed_472 : decode cL_isActed 472 = .ok (.bipush 31, 2) := by decide +kernel
theorem dL_isActed_474 : decode cL_isActed 474 = .ok (.iload 14, 2) := by decide +kernel
theorem dL_isActed_476 : decode cL_isActed 476 = .ok (.imul, 1) := by decide +kernel
theorem dL_isActed_477 : decode cL_isActed 477 = .ok (.iadd, 1) := by decide +kernel
theorem dL_isActed_478 : decode cL_isActed 478 = .ok (.bipush 40, 2) := by decide +kernel
theorem dL_isActed_480 : decode cL_isActed 480 = .ok (.irem, 1) := by decide +kernel
theorem dL_isActed_481 : decode cL_isActed 481 = .ok (.iadd, 1) := by decide +kernel
theorem dL_isActed_482 : decode cL_isActed 482 = .ok (.invokestatic 107, 3) := by decide +kernel
theorem dL_isActed_485 : decode cL_isActed 485 = .ok (.ifCond .eq 7, 3) := by decide +kernel
theorem dL_isActed_488 : decode cL_isActed 488 = .ok (.iconst 1, 1) := by decide +kernel
theorem dL_isActed_489 : decode cL_isActed 489 = .ok (.goto 4, 3) := by decide +kernel
theorem dL_isActed_492 : decode cL_isActed 492 = .ok (.iconst 0, 1) := by decide +kernel
theorem dL_isActed_493 : decode cL_isActed 493 = .ok (.istore 13, 2) := by decide +kernel
theorem dL_isActed_495 : decode cL_isActed 495 = .ok (.iinc 14 1, 3) := by decide +kernel
theorem dL_isActed_498 : decode cL_isActed 498 = .ok (.goto (-95), 3) := by decide +kernel
theorem dL_isActed_501 : decode cL_isActed 501 = .ok (.iload 13, 2) := by decide +kernel
theorem dL_isActed_503 : decode cL_isActed 503 = .ok (.ireturn, 1) := by decide +kernel
theorem dL_isActed_504 : decode cL_isActed 504 = .ok (.aload_n 0, 1) := by decide +kernel
theorem dL_isActed_505 : decode cL_isActed 505 = .ok (.aload_n 1, 1) := by decide +kernel
theorem dL_isActed_506 : decode cL_isActed 506 = .ok (.aload_n 2, 1) := by decide +kernel
theorem dL_isActed_507 : decode cL_isActed 507 = .ok (.aload_n 3, 1) := by decide +kernel
theorem dL_isActed_508 : decode cL_isActed 508 = .ok (.aload 4, 2) := by decide +kernel
theorem dL_isActed_510 : decode cL_isActed 510 = .ok (.aload 5, 2) := by decide +kernel
theorem dL_isActed_512 : decode cL_isActed 512 = .ok (.aload 6, 2) := by decide +kernel
theorem dL_isActed_514 : decode cL_isActed 514 = .ok (.aload 7, 2) := by decide +kernel
theorem dL_isActed_516 : decode cL_isActed 516 = .ok (.aload 8, 2) := by decide +kernel
theorem dL_isActed_518 : decode cL_isActed 518 = .ok (.invokestatic 111, 3) := by decide +kernel
theorem dL_isActed_521 : decode cL_isActed 521 = .ok (.ireturn, 1) := by decide +kernel
theorem dL_law_0 : decode cL_law 0 = .ok (.new 35, 3) := by decide +kernel
theorem dL_law_3 : decode cL_law 3 = .ok (.dup, 1) := by decide +kernel
theorem dL_law_4 : decode cL_law 4 = .ok (.invokespecial 115, 3) := by decide +kernel
theorem dL_law_7 : decode cL_law 7 = .ok (.astore_n 1, 1) := by decide +kernel
theorem dL_law_8 : decode cL_law 8 = .ok (.bipush 60, 2) := by decide +kernel
theorem dL_law_10 : decode cL_law 10 = .ok (.newarray .int, 2) := by decide +kernel
theorem dL_law_12 : decode cL_law 12 = .ok (.astore_n 2, 1) := by decide +kernel
theorem dL_law_13 : decode cL_law 13 = .ok (.bipush 60, 2) := by decide +kernel
theorem dL_law_15 : decode cL_law 15 = .ok (.newarray .int, 2) := by decide +kernel
theorem dL_law_17 : decode cL_law 17 = .ok (.astore_n 3, 1) := by decide +kernel
theorem dL_law_18 : decode cL_law 18 = .ok (.bipush 60, 2) := by decide +kernel
theorem dL_law_20 : decode cL_law 20 = .ok (.newarray .int, 2) := by decide +kernel
theorem dL_law_22 : decode cL_law 22 = .ok (.astore 4, 2) := by decide +kernel
theorem dL_law_24 : decode cL_law 24 = .ok (.bipush 20, 2) := by decide +kernel
theorem dL_law_26 : decode cL_law 26 = .ok (.newarray .int, 2) := by decide +kernel
theorem dL_law_28 : decode cL_law 28 = .ok (.astore 5, 2) := by decide +kernel
theorem dL_law_30 : decode cL_law 30 = .ok (.iconst 4, 1) := by decide +kernel
theorem dL_law_31 : decode cL_law 31 = .ok (.newarray .int, 2) := by decide +kernel
theorem dL_law_33 : decode cL_law 33 = .ok (.astore 6, 2) := by decide +kernel
theorem dL_law_35 : decode cL_law 35 = .ok (.bipush 10, 2) := by decide +kernel
theorem dL_law_37 : decode cL_law 37 = .ok (.newarray .int, 2) := by decide +kernel
theorem dL_law_39 : decode cL_law 39 = .ok (.astore 7, 2) := by decide +kernel
theorem dL_law_41 : decode cL_law 41 = .ok (.bipush 6, 2) := by decide +kernel
theorem dL_law_43 : decode cL_law 43 = .ok (.newarray .int, 2) := by decide +kernel
theorem dL_law_45 : decode cL_law 45 = .ok (.astore 8, 2) := by decide +kernel
theorem dL_law_47 : decode cL_law 47 = .ok (.bipush 40, 2) := by decide +kernel
theorem dL_law_49 : decode cL_law 49 = .ok (.newarray .int, 2) := by decide +kernel
theorem dL_law_51 : decode cL_law 51 = .ok (.astore 9, 2) := by decide +kernel
theorem dL_law_53 : decode cL_law 53 = .ok (.aload 7, 2) := by decide +kernel
theorem dL_law_55 : decode cL_law 55 = .ok (.bipush 7, 2) := by decide +kernel
theorem dL_law_57 : decode cL_law 57 = .ok (.bipush 8, 2) := by decide +kernel
theorem dL_law_59 : decode cL_law 59 = .ok (.iastore, 1) := by decide +kernel
theorem dL_law_60 : decode cL_law 60 = .ok (.aload 7, 2) := by decide +kernel
theorem dL_law_62 : decode cL_law 62 = .ok (.bipush 8, 2) := by decide +kernel
theorem dL_law_64 : decode cL_law 64 = .ok (.iconst 3, 1) := by decide +kernel
theorem dL_law_65 : decode cL_law 65 = .ok (.iastore, 1) := by decide +kernel
theorem dL_law_66 : decode cL_law 66 = .ok (.aload 7, 2) := by decide +kernel
theorem dL_law_68 : decode cL_law 68 = .ok (.bipush 9, 2) := by decide +kernel
theorem dL_law_70 : decode cL_law 70 = .ok (.iconst 2, 1) := by decide +kernel
theorem dL_law_71 : decode cL_law 71 = .ok (.iastore, 1) := by decide +kernel
theorem dL_law_72 : decode cL_law 72 = .ok (.iconst 0, 1) := by decide +kernel
theorem dL_law_73 : decode cL_law 73 = .ok (.istore 10, 2) := by decide +kernel
theorem dL_law_75 : decode cL_law 75 = .ok (.iload 10, 2) := by decide +kernel
theorem dL_law_77 : decode cL_law 77 = .ok (.bipush 60, 2) := by decide +kernel
theorem dL_law_79 : decode cL_law 79 = .ok (.if_icmp .ge 100, 3) := by decide +kernel
theorem dL_law_82 : decode cL_law 82 = .ok (.aload_n 0, 1) := by decide +kernel
theorem dL_law_83 : decode cL_law 83 = .ok (.iload 10, 2) := by decide +kernel
theorem dL_law_85 : decode cL_law 85 = .ok (.invokestatic 116, 3) := by decide +kernel
theorem dL_law_88 : decode cL_law 88 = .ok (.ldc 8, 2) := by decide +kernel
theorem dL_law_90 : decode cL_law 90 = .ok (.iand, 1) := by decide +kernel
theorem dL_law_91 : decode cL_law 91 = .ok (.istore 11, 2) := by decide +kernel
theorem dL_law_93 : decode cL_law 93 = .ok (.aload_n 1, 1) := by decide +kernel
theorem dL_law_94 : decode cL_law 94 = .ok (.aload_n 2, 1) := by decide +kernel
theorem dL_law_95 : decode cL_law 95 = .ok (.aload_n 3, 1) := by decide +kernel
theorem dL_law_96 : decode cL_law 96 = .ok (.aload 4, 2) := by decide +kernel
theorem dL_law_98 : decode cL_law 98 = .ok (.aload 5, 2) := by decide +kernel
theorem dL_law_100 : decode cL_law 100 = .ok (.aload 6, 2) := by decide +kernel
theorem dL_law_102 : decode cL_law 102 = .ok (.aload 7, 2) := by decide +kernel
theorem dL_law_104 : decode cL_law 104 = .ok (.aload 8, 2) := by decide +kernel
theorem dL_law_106 : decode cL_law 106 = .ok (.aload 9, 2) := by decide +kernel
theorem dL_law_108 : decode cL_law 108 = .ok (.iload 10, 2) := by decide +kernel
theorem dL_law_110 : decode cL_law 110 = .ok (.bipush 9, 2) := by decide +kernel
theorem dL_law_112 : decode cL_law 112 = .ok (.if_icmp .ge 11, 3) := by decide +kernel
theorem dL_law_115 : decode cL_law 115 = .ok (.iload 11, 2) := by decide +kernel
theorem dL_law_117 : decode cL_law 117 = .ok (.bipush 8, 2) := by decide +kernel
theorem dL_law_119 : decode cL_law 119 = .ok (.irem, 1) := by decide +kernel
theorem dL_law_120 : decode cL_law 120 = .ok (.goto 8, 3) := by decide +kernel
theorem dL_law_123 : decode cL_law 123 = .ok (.iload 11, 2) := by decide +kernel
theorem dL_law_125 : decode cL_law 125 = .ok (.bipush 17, 2) := by decide +kernel
theorem dL_law_127 : decode cL_law 127 = .ok (.irem, 1) := by decide +kernel
theorem dL_law_128 : decode cL_law 128 = .ok (.iload 11, 2) := by decide +kernel
theorem dL_law_130 : decode cL_law 130 = .ok (.bipush 17, 2) := by decide +kernel
theorem dL_law_132 : decode cL_law 132 = .ok (.idiv, 1) := by decide +kernel
theorem dL_law_133 : decode cL_law 133 = .ok (.invokestatic 120, 3) := by decide +kernel
theorem dL_law_136 : decode cL_law 136 = .ok (.ifCond .eq 35, 3) := by decide +kernel
theorem dL_law_139 : decode cL_law 139 = .ok (.aload_n 1, 1) := by decide +kernel
theorem dL_law_140 : decode cL_law 140 = .ok (.aload_n 2, 1) := by decide +kernel
theorem dL_law_141 : decode cL_law 141 = .ok (.aload_n 3, 1) := by decide +kernel
theorem dL_law_142 : decode cL_law 142 = .ok (.aload 4, 2) := by decide +kernel
theorem dL_law_144 : decode cL_law 144 = .ok (.aload 5, 2) := by decide +kernel
theorem dL_law_146 : decode cL_law 146 = .ok (.aload 7, 2) := by decide +kernel
theorem dL_law_148 : decode cL_law 148 = .ok (.invokestatic 124, 3) := by decide +kernel
theorem dL_law_151 : decode cL_law 151 = .ok (.ifCond .eq 20, 3) := by decide +kernel
theorem dL_law_154 : decode cL_law 154 = .ok (.aload_n 1, 1) := by decide +kernel
theorem dL_law_155 : decode cL_law 155 = .ok (.aload_n 2, 1) := by decide +kernel
theorem dL_law_156 : decode cL_law 156 = .ok (.aload_n 3, 1) := by decide +kernel
theorem dL_law_157 : decode cL_law 157 = .ok (.aload 4, 2) := by decide +kernel
theorem dL_law_159 : decode cL_law 159 = .ok (.aload 6, 2) := by decide +kernel
theorem dL_law_161 : decode cL_law 161 = .ok (.aload 7, 2) := by decide +kernel
theorem dL_law_163 : decode cL_law 163 = .ok (.aload 8, 2) := by decide +kernel
theorem dL_law_165 : decode cL_law 165 = .ok (.invokestatic 128, 3) := by decide +kernel
theorem dL_law_168 : decode cL_law 168 = .ok (.ifCond .ne 5, 3) := by decide +kernel
theorem dL_law_171 : decode cL_law 171 = .ok (.iconst 0, 1) := by decide +kernel
theorem dL_law_172 : decode cL_law 172 = .ok (.ireturn, 1) := by decide +kernel
theorem dL_law_173 : decode cL_law 173 = .ok (.iinc 10 1, 3) := by decide +kernel
theorem dL_law_176 : decode cL_law 176 = .ok (.goto (-101), 3) := by decide +kernel
theorem dL_law_179 : decode cL_law 179 = .ok (.iconst 1, 1) := by decide +kernel
theorem dL_law_180 : decode cL_law 180 = .ok (.ireturn, 1) := by decide +kernel
