theorem dX0_ofSwimmer_0 : decode cX0_ofSwimmer 0 = .ok (.iload_n 2, 1) := by decide +kernel
theorem dX0_ofSwimmer_1 : decode cX0_ofSwimmer 1 = .ok (.tableswitch 196 0 10 #[59, 64, 69, 87, 105, 113, 131, 149, 157, 175, 183], 59) := by decide +kernel
theorem dX0_ofSwimmer_60 : decode cX0_ofSwimmer 60 = .ok (.aload_n 1, 1) := by decide +kernel
theorem dX0_ofSwimmer_61 : decode cX0_ofSwimmer 61 = .ok (.getfield 9, 3) := by decide +kernel
theorem dX0_ofSwimmer_64 : decode cX0_ofSwimmer 64 = .ok (.ireturn, 1) := by decide +kernel
theorem dX0_ofSwimmer_65 : decode cX0_ofSwimmer 65 = .ok (.aload_n 1, 1) := by decide +kernel
theorem dX0_ofSwimmer_66 : decode cX0_ofSwimmer 66 = .ok (.getfield 15, 3) := by decide +kernel
theorem dX0_ofSwimmer_69 : decode cX0_ofSwimmer 69 = .ok (.ireturn, 1) := by decide +kernel
theorem dX0_ofSwimmer_70 : decode cX0_ofSwimmer 70 = .ok (.aload_n 1, 1) := by decide +kernel
theorem dX0_ofSwimmer_71 : decode cX0_ofSwimmer 71 = .ok (.getfield 18, 3) := by decide +kernel
theorem dX0_ofSwimmer_74 : decode cX0_ofSwimmer 74 = .ok (.ifCond .eq 8, 3) := by decide +kernel
theorem dX0_ofSwimmer_77 : decode cX0_ofSwimmer 77 = .ok (.ldc 22, 2) := by decide +kernel
theorem dX0_ofSwimmer_79 : decode cX0_ofSwimmer 79 = .ok (.goto 8, 3) := by decide +kernel
theorem dX0_ofSwimmer_82 : decode cX0_ofSwimmer 82 = .ok (.aload_n 0, 1) := by decide +kernel
theorem dX0_ofSwimmer_83 : decode cX0_ofSwimmer 83 = .ok (.aload_n 1, 1) := by decide +kernel
theorem dX0_ofSwimmer_84 : decode cX0_ofSwimmer 84 = .ok (.invokevirtual 23, 3) := by decide +kernel
theorem dX0_ofSwimmer_87 : decode cX0_ofSwimmer 87 = .ok (.ireturn, 1) := by decide +kernel
theorem dX0_ofSwimmer_88 : decode cX0_ofSwimmer 88 = .ok (.aload_n 1, 1) := by decide +kernel
theorem dX0_ofSwimmer_89 : decode cX0_ofSwimmer 89 = .ok (.getfield 29, 3) := by decide +kernel
theorem dX0_ofSwimmer_92 : decode cX0_ofSwimmer 92 = .ok (.iconst (-1), 1) := by decide +kernel
theorem dX0_ofSwimmer_93 : decode cX0_ofSwimmer 93 = .ok (.if_icmp .ne 8, 3) := by decide +kernel
theorem dX0_ofSwimmer_96 : decode cX0_ofSwimmer 96 = .ok (.ldc 22, 2) := by decide +kernel
theorem dX0_ofSwimmer_98 : decode cX0_ofSwimmer 98 = .ok (.goto 7, 3) := by decide +kernel
theorem dX0_ofSwimmer_101 : decode cX0_ofSwimmer 101 = .ok (.aload_n 1, 1) := by decide +kernel
theorem dX0_ofSwimmer_102 : decode cX0_ofSwimmer 102 = .ok (.getfield 29, 3) := by decide +kernel
theorem dX0_ofSwimmer_105 : decode cX0_ofSwimmer 105 = .ok (.ireturn, 1) := by decide +kernel
theorem dX0_ofSwimmer_106 : decode cX0_ofSwimmer 106 = .ok (.aload_n 1, 1) := by decide +kernel
theorem dX0_ofSwimmer_107 : decode cX0_ofSwimmer 107 = .ok (.getfield 32, 3) := by decide +kernel
theorem dX0_ofSwimmer_110 : decode cX0_ofSwimmer 110 = .ok (.invokestatic 35, 3) := by decide +kernel
theorem dX0_ofSwimmer_113 : decode cX0_ofSwimmer 113 = .ok (.ireturn, 1) := by decide +kernel
theorem dX0_ofSwimmer_114 : decode cX0_ofSwimmer 114 = .ok (.aload_n 1, 1) := by decide +kernel
theorem dX0_ofSwimmer_115 : decode cX0_ofSwimmer 115 = .ok (.getfield 41, 3) := by decide +kernel
theorem dX0_ofSwimmer_118 : decode cX0_ofSwimmer 118 = .ok (.iconst (-1), 1) := by decide +kernel
theorem dX0_ofSwimmer_119 : decode cX0_ofSwimmer 119 = .ok (.if_icmp .ne 8, 3) := by decide +kernel
theorem dX0_ofSwimmer_122 : decode cX0_ofSwimmer 122 = .ok (.ldc 22, 2) := by decide +kernel
theorem dX0_ofSwimmer_124 : decode cX0_ofSwimmer 124 = .ok (.goto 7, 3) := by decide +kernel
theorem dX0_ofSwimmer_127 : decode cX0_ofSwimmer 127 = .ok (.aload_n 1, 1) := by decide +kernel
theorem dX0_ofSwimmer_128 : decode cX0_ofSwimmer 128 = .ok (.getfield 41, 3) := by decide +kernel
theorem dX0_ofSwimmer_131 : decode cX0_ofSwimmer 131 = .ok (.ireturn, 1) := by decide +kernel
theorem dX0_ofSwimmer_132 : decode cX0_ofSwimmer 132 = .ok (.aload_n 1, 1) := by decide +kernel
theorem dX0_ofSwimmer_133 : decode cX0_ofSwimmer 133 = .ok (.getfield 41, 3) := by decide +kernel
theorem dX0_ofSwimmer_136 : decode cX0_ofSwimmer 136 = .ok (.ifCond .le 11, 3) := by decide +kernel
theorem dX0_ofSwimmer_139 : decode cX0_ofSwimmer 139 = .ok (.aload_n 0, 1) := by decide +kernel
theorem dX0_ofSwimmer_140 : decode cX0_ofSwimmer 140 = .ok (.aload_n 1, 1) := by decide +kernel
theorem dX0_ofSwimmer_141 : decode cX0_ofSwimmer 141 = .ok (.invokevirtual 44, 3) := by decide +kernel
theorem dX0_ofSwimmer_144 : decode cX0_ofSwimmer 144 = .ok (.goto 5, 3) := by decide +kernel
theorem dX0_ofSwimmer_147 : decode cX0_ofSwimmer 147 = .ok (.ldc 22, 2) := by decide +kernel
theorem dX0_ofSwimmer_149 : decode cX0_ofSwimmer 149 = .ok (.ireturn, 1) := by decide +kernel
theorem dX0_ofSwimmer_150 : decode cX0_ofSwimmer 150 = .ok (.aload_n 1, 1) := by decide +kernel
theorem dX0_ofSwimmer_151 : decode cX0_ofSwimmer 151 = .ok (.getfield 47, 3) := by decide +kernel
theorem dX0_ofSwimmer_154 : decode cX0_ofSwimmer 154 = .ok (.invokestatic 35, 3) := by decide +kernel
theorem dX0_ofSwimmer_157 : decode cX0_ofSwimmer 157 = .ok (.ireturn, 1) := by decide +kernel
theorem dX0_ofSwimmer_158 : decode cX0_ofSwimmer 158 = .ok (.aload_n 1, 1) := by decide +kernel
theorem dX0_ofSwimmer_159 : decode cX0_ofSwimmer 159 = .ok (.getfield 50, 3) := by decide +kernel
theorem dX0_ofSwimmer_162 : decode cX0_ofSwimmer 162 = .ok (.iconst (-1), 1) := by decide +kernel
theorem dX0_ofSwimmer_163 : decode cX0_ofSwimmer 163 = .ok (.if_icmp .ne 8, 3) := by decide +kernel
theorem dX0_ofSwimmer_166 : decode cX0_ofSwimmer 166 = .ok (.ldc 22, 2) := by decide +kernel
theorem dX0_ofSwimmer_168 : decode cX0_ofSwimmer 168 = .ok (.goto 7, 3) := by decide +kernel
theorem dX0_ofSwimmer_171 : decode cX0_ofSwimmer 171 = .ok (.aload_n 1, 1) := by decide +kernel
theorem dX0_ofSwimmer_172 : decode cX0_ofSwimmer 172 = .ok (.getfield 50, 3) := by decide +kernel
theorem dX0_ofSwimmer_175 : decode cX0_ofSwimmer 175 = .ok (.ireturn, 1) := by decide +kernel
theorem dX0_ofSwimmer_176 : decode cX0_ofSwimmer 176 = .ok (.aload_n 1, 1) := by decide +kernel
theorem dX0_ofSwimmer_177 : decode cX0_ofSwimmer 177 = .ok (.getfield 53, 3) := by decide +kernel
theorem dX0_ofSwimmer_180 : decode cX0_ofSwimmer 180 = .ok (.invokestatic 35, 3) := by decide +kernel
theorem dX0_ofSwimmer_183 : decode cX0_ofSwimmer 183 = .ok (.ireturn, 1) := by decide +kernel
theorem dX0_ofSwimmer_184 : decode cX0_ofSwimmer 184 = .ok (.aload_n 1, 1) := by decide +kernel
theorem dX0_ofSwimmer_185 : decode cX0_ofSwimmer 185 = .ok (.getfield 18, 3) := by decide +kernel
theorem dX0_ofSwimmer_188 : decode cX0_ofSwimmer 188 = .ok (.ifCond .eq 7, 3) := by decide +kernel
theorem dX0_ofSwimmer_191 : decode cX0_ofSwimmer 191 = .ok (.iconst 1, 1) := by decide +kernel
theorem dX0_ofSwimmer_192 : decode cX0_ofSwimmer 192 = .ok (.goto 4, 3) := by decide +kernel
theorem dX0_ofSwimmer_195 : decode cX0_ofSwimmer 195 = .ok (.iconst 0, 1) := by decide +kernel
theorem dX0_ofSwimmer_196 : decode cX0_ofSwimmer 196 = .ok (.ireturn, 1) := by decide +kernel
theorem dX0_ofSwimmer_197 : decode cX0_ofSwimmer 197 = .ok (.aload_n 1, 1) := by decide +kernel
theorem dX0_ofSwimmer_198 : decode cX0_ofSwimmer 198 = .ok (.getfield 56, 3) := by decide +kernel
theorem dX0_ofSwimmer_201 : decode cX0_ofSwimmer 201 = .ok (.ireturn, 1) := by decide +kernel
theorem dX0_aboveZero_0 : decode cX0_aboveZero 0 = .ok (.iload_n 0, 1) := by decide +kernel
theorem dX0_aboveZero_1 : decode cX0_aboveZero 1 = .ok (.ifCond .le 7, 3) := by decide +kernel
theorem dX0_aboveZero_4 : decode cX0_aboveZero 4 = .ok (.iload_n 0, 1) := by decide +kernel
theorem dX0_aboveZero_5 : decode cX0_aboveZero 5 = .ok (.goto 5, 3) := by decide +kernel
theorem dX0_aboveZero_8 : decode cX0_aboveZero 8 = .ok (.ldc 22, 2) := by decide +kernel
theorem dX0_aboveZero_10 : decode cX0_aboveZero 10 = .ok (.ireturn, 1) := by decide +kernel
theorem dX0_ofMeet_0 : decode cX0_ofMeet 0 = .ok (.iload_n 1, 1) := by decide +kernel
theorem dX0_ofMeet_1 : decode cX0_ofMeet 1 = .ok (.tableswitch 138 0 11 #[63, 68, 73, 78, 83, 88, 93, 98, 103, 111, 128, 133], 63) := by decide +kernel
theorem dX0_ofMeet_64 : decode cX0_ofMeet 64 = .ok (.aload_n 0, 1) := by decide +kernel
theorem dX0_ofMeet_65 : decode cX0_ofMeet 65 = .ok (.getfield 99, 3) := by decide +kernel
theorem dX0_ofMeet_68 : decode cX0_ofMeet 68 = .ok (.ireturn, 1) := by decide +kernel
theorem dX0_ofMeet_69 : decode cX0_ofMeet 69 = .ok (.aload_n 0, 1) := by decide +kernel
theorem dX0_ofMeet_70 : decode cX0_ofMeet 70 = .ok (.getfield 59, 3) := by decide +kernel
theorem dX0_ofMeet_73 : decode cX0_ofMeet 73 = .ok (.ireturn, 1) := by decide +kernel
theorem dX0_ofMeet_74 : decode cX0_ofMeet 74 = .ok (.aload_n 0, 1) := by decide +kernel
theorem dX0_ofMeet_75 : decode cX0_ofMeet 75 = .ok (.invokestatic 102, 3) := by decide +kernel
theorem dX0_ofMeet_78 : decode cX0_ofMeet 78 = .ok (.ireturn, 1) := by decide +kernel
theorem dX0_ofMeet_79 : decode cX0_ofMeet 79 = .ok (.aload_n 0, 1) := by decide +kernel
theorem dX0_ofMeet_80 : decode cX0_ofMeet 80 = .ok (.getfield 106, 3) := by decide +kernel
theorem dX0_ofMeet_83 : decode cX0_ofMeet 83 = .ok (.ireturn, 1) := by decide +kernel
theorem dX0_ofMeet_84 : decode cX0_ofMeet 84 = .ok (.aload_n 0, 1) := by decide +kernel
theorem dX0_ofMeet_85 : decode cX0_ofMeet 85 = .ok (.invokevirtual 109, 3) := by decide +kernel
theorem dX0_ofMeet_88 : decode cX0_ofMeet 88 = .ok (.ireturn, 1) := by decide +kernel
theorem dX0_ofMeet_89 : decode cX0_ofMeet 89 = .ok (.aload_n 0, 1) := by decide +kernel
theorem dX0_ofMeet_90 : decode cX0_ofMeet 90 = .ok (.invokestatic 112, 3) := by decide +kernel
theorem dX0_ofMeet_93 : decode cX0_ofMeet 93 = .ok (.ireturn, 1) := by decide +kernel
theorem dX0_ofMeet_94 : decode cX0_ofMeet 94 = .ok (.aload_n 0, 1) := by decide +kernel
theorem dX0_ofMeet_95 : decode cX0_ofMeet 95 = .ok (.invokestatic 115, 3) := by decide +kernel
theorem dX0_ofMeet_98 : decode cX0_ofMeet 98 = .ok (.ireturn, 1) := by decide +kernel
theorem dX0_ofMeet_99 : decode cX0_ofMeet 99 = .ok (.aload_n 0, 1) := by decide +kernel
theorem dX0_ofMeet_100 : decode cX0_ofMeet 100 = .ok (.getfield 118, 3) := by decide +kernel
theorem dX0_ofMeet_103 : decode cX0_ofMeet 103 = .ok (.ireturn, 1) := by decide +kernel
theorem dX0_ofMeet_104 : decode cX0_ofMeet 104 = .ok (.aload_n 0, 1) := by decide +kernel
theorem dX0_ofMeet_105 : decode cX0_ofMeet 105 = .ok (.getfield 121, 3) := by decide +kernel
theorem dX0_ofMeet_108 : decode cX0_ofMeet 108 = .ok (.invokestatic 35, 3) := by decide +kernel
theorem dX0_ofMeet_111 : decode cX0_ofMeet 111 = .ok (.ireturn, 1) := by decide +kernel
theorem dX0_ofMeet_112 : decode cX0_ofMeet 112 = .ok (.aload_n 0, 1) := by decide +kernel
theorem dX0_ofMeet_113 : decode cX0_ofMeet 113 = .ok (.getfield 121, 3) := by decide +kernel
theorem dX0_ofMeet_116 : decode cX0_ofMeet 116 = .ok (.ifCond .le 10, 3) := by decide +kernel
theorem dX0_ofMeet_119 : decode cX0_ofMeet 119 = .ok (.aload_n 0, 1) := by decide +kernel
theorem dX0_ofMeet_120 : decode cX0_ofMeet 120 = .ok (.getfield 124, 3) := by decide +kernel
theorem dX0_ofMeet_123 : decode cX0_ofMeet 123 = .ok (.goto 5, 3) := by decide +kernel
theorem dX0_ofMeet_126 : decode cX0_ofMeet 126 = .ok (.ldc 22, 2) := by decide +kernel
theorem dX0_ofMeet_128 : decode cX0_ofMeet 128 = .ok (.ireturn, 1) := by decide +kernel
theorem dX0_ofMeet_129 : decode cX0_ofMeet 129 = .ok (.aload_n 0, 1) := by decide +kernel
theorem dX0_ofMeet_130 : decode cX0_ofMeet 130 = .ok (.getfield 127, 3) := by decide +kernel
theorem dX0_ofMeet_133 : decode cX0_ofMeet 133 = .ok (.ireturn, 1) := by decide +kernel
theorem dX0_ofMeet_134 : decode cX0_ofMeet 134 = .ok (.aload_n 0, 1) := by decide +kernel
theorem dX0_ofMeet_135 : decode cX0_ofMeet 135 = .ok (.invokestatic 130, 3) := by decide +kernel
theorem dX0_ofMeet_138 : decode cX0_ofMeet 138 = .ok (.ireturn, 1) := by decide +kernel
theorem dX0_ofMeet_139 : decode cX0_ofMeet 139 = .ok (.ldc 135, 2) := by decide +kernel
theorem dX0_ofMeet_141 : decode cX0_ofMeet 141 = .ok (.ireturn, 1) := by decide +kernel
theorem dX0_scratchedSet_0 : decode cX0_scratchedSet 0 = .ok (.iconst 0, 1) := by decide +kernel
theorem dX0_scratchedSet_1 : decode cX0_scratchedSet 1 = .ok (.istore_n 1, 1) := by decide +kernel
theorem dX0_scratchedSet_2 : decode cX0_scratchedSet 2 = .ok (.iconst 0, 1) := by decide +kernel
theorem dX0_scratchedSet_3 : decode cX0_scratchedSet 3 = .ok (.istore_n 2, 1) := by decide +kernel
theorem dX0_scratchedSet_4 : decode cX0_scratchedSet 4 = .ok (.iload_n 2, 1) := by decide +kernel
theorem dX0_scratchedSet_5 : decode cX0_scratchedSet 5 = .ok (.aload_n 0, 1) := by decide +kernel
theorem dX0_scratchedSet_6 : decode cX0_scratchedSet 6 = .ok (.getfield 59, 3) := by decide +kernel
theorem dX0_scratchedSet_9 : decode cX0_scratchedSet 9 = .ok (.if_icmp .ge 27, 3) := by decide +kernel
theorem dX0_scratchedSet_12 : decode cX0_scratchedSet 12 = .ok (.aload_n 0, 1) := by decide +kernel
theorem dX0_scratchedSet_13 : decode cX0_scratchedSet 13 = .ok (.getfield 62, 3) := by decide +kernel
theorem dX0_scratchedSet_16 : decode cX0_scratchedSet 16 = .ok (.iload_n 2, 1) := by decide +kernel
theorem dX0_scratchedSet_17 : decode cX0_scratchedSet 17 = .ok (.aaload, 1) := by decide +kernel
theorem dX0_scratchedSet_18 : decode cX0_scratchedSet 18 = .ok (.getfield 18, 3) := by decide +kernel
theorem dX0_scratchedSet_21 : decode cX0_scratchedSet 21 = .ok (.ifCond .eq 9, 3) := by decide +kernel
theorem dX0_scratchedSet_24 : decode cX0_scratchedSet 24 = .ok (.iload_n 1, 1) := by decide +kernel
theorem dX0_scratchedSet_25 : decode cX0_scratchedSet 25 = .ok (.iconst 1, 1) := by decide +kernel
theorem dX0_scratchedSet_26 : decode cX0_scratchedSet 26 = .ok (.iload_n 2, 1) := by decide +kernel
theorem dX0_scratchedSet_27 : decode cX0_scratchedSet 27 = .ok (.ishl, 1) := by decide +kernel
theorem dX0_scratchedSet_28 : decode cX0_scratchedSet 28 = .ok (.ior, 1) := by decide +kernel
theorem dX0_scratchedSet_29 : decode cX0_scratchedSet 29 = .ok (.istore_n 1, 1) := by decide +kernel
theorem dX0_scratchedSet_30 : decode cX0_scratchedSet 30 = .ok (.iinc 2 1, 3) := by decide +kernel
theorem dX0_scratchedSet_33 : decode cX0_scratchedSet 33 = .ok (.goto (-29), 3) := by decide +kernel
theorem dX0_scratchedSet_36 : decode cX0_scratchedSet 36 = .ok (.iload_n 1, 1) := by decide +kernel
theorem dX0_scratchedSet_37 : decode cX0_scratchedSet 37 = .ok (.ireturn, 1) := by decide +kernel
theorem dX0_freeReserves_0 : decode cX0_freeReserves 0 = .ok (.iconst 0, 1) := by decide +kernel
theorem dX0_freeReserves_1 : decode cX0_freeReserves 1 = .ok (.istore_n 1, 1) := by decide +kernel
theorem dX0_freeReserves_2 : decode cX0_freeReserves 2 = .ok (.iload_n 1, 1) := by decide +kernel
theorem dX0_freeReserves_3 : decode cX0_freeReserves 3 = .ok (.iconst 4, 1) := by decide +kernel
theorem dX0_freeReserves_4 : decode cX0_freeReserves 4 = .ok (.if_icmp .ge 19, 3) := by decide +kernel
theorem dX0_freeReserves_7 : decode cX0_freeReserves 7 = .ok (.aload_n 0, 1) := by decide +kernel
theorem dX0_freeReserves_8 : decode cX0_freeReserves 8 = .ok (.iload_n 1, 1) := by decide +kernel
theorem dX0_freeReserves_9 : decode cX0_freeReserves 9 = .ok (.invokevirtual 136, 3) := by decide +kernel
theorem dX0_freeReserves_12 : decode cX0_freeReserves 12 = .ok (.ldc 22, 2) := by decide +kernel
theorem dX0_freeReserves_14 : decode cX0_freeReserves 14 = .ok (.if_icmp .eq 9, 3) := by decide +kernel
theorem dX0_freeReserves_17 : decode cX0_freeReserves 17 = .ok (.iinc 1 1, 3) := by decide +kernel
theorem dX0_freeReserves_20 : decode cX0_freeReserves 20 = .ok (.goto (-18), 3) := by decide +kernel
theorem dX0_freeReserves_23 : decode cX0_freeReserves 23 = .ok (.iload_n 1, 1) := by decide +kernel
theorem dX0_freeReserves_24 : decode cX0_freeReserves 24 = .ok (.ireturn, 1) := by decide +kernel
theorem dX0_timesOfEvent_0 : decode cX0_timesOfEvent 0 = .ok (.iconst 0, 1) := by decide +kernel
theorem dX0_timesOfEvent_1 : decode cX0_timesOfEvent 1 = .ok (.istore_n 1, 1) := by decide +kernel
theorem dX0_timesOfEvent_2 : decode cX0_timesOfEvent 2 = .ok (.iconst 0, 1) := by decide +kernel
theorem dX0_timesOfEvent_3 : decode cX0_timesOfEvent 3 = .ok (.istore_n 2, 1) := by decide +kernel
theorem dX0_timesOfEvent_4 : decode cX0_timesOfEvent 4 = .ok (.iload_n 2, 1) := by decide +kernel
theorem dX0_timesOfEvent_5 : decode cX0_timesOfEvent 5 = .ok (.aload_n 0, 1) := by decide +kernel
theorem dX0_timesOfEvent_6 : decode cX0_timesOfEvent 6 = .ok (.getfield 59, 3) := by decide +kernel
theorem dX0_timesOfEvent_9 : decode cX0_timesOfEvent 9 = .ok (.if_icmp .ge 41, 3) := by decide +kernel
theorem dX0_timesOfEvent_12 : decode cX0_timesOfEvent 12 = .ok (.aload_n 0, 1) := by decide +kernel
theorem dX0_timesOfEvent_13 : decode cX0_timesOfEvent 13 = .ok (.getfield 62, 3) := by decide +kernel
theorem dX0_timesOfEvent_16 : decode cX0_timesOfEvent 16 = .ok (.iload_n 2, 1) := by decide +kernel
theorem dX0_timesOfEvent_17 : decode cX0_timesOfEvent 17 = .ok (.aaload, 1) := by decide +kernel
theorem dX0_timesOfEvent_18 : decode cX0_timesOfEvent 18 = .ok (.getfield 41, 3) := by decide +kernel
theorem dX0_timesOfEvent_21 : decode cX0_timesOfEvent 21 = .ok (.iconst (-1), 1) := by decide +kernel
theorem dX0_timesOfEvent_22 : decode cX0_timesOfEvent 22 = .ok (.if_icmp .eq 6, 3) := by decide +kernel
theorem dX0_timesOfEvent_25 : decode cX0_timesOfEvent 25 = .ok (.iinc 1 1, 3) := by decide +kernel
theorem dX0_timesOfEvent_28 : decode cX0_timesOfEvent 28 = .ok (.aload_n 0, 1) := by decide +kernel
theorem dX0_timesOfEvent_29 : decode cX0_timesOfEvent 29 = .ok (.getfield 62, 3) := by decide +kernel
theorem dX0_timesOfEvent_32 : decode cX0_timesOfEvent 32 = .ok (.iload_n 2, 1) := by decide +kernel
theorem dX0_timesOfEvent_33 : decode cX0_timesOfEvent 33 = .ok (.aaload, 1) := by decide +kernel
theorem dX0_timesOfEvent_34 : decode cX0_timesOfEvent 34 = .ok (.getfield 50, 3) := by decide +kernel
theorem dX0_timesOfEvent_37 : decode cX0_timesOfEvent 37 = .ok (.iconst (-1), 1) := by decide +kernel
theorem dX0_timesOfEvent_38 : decode cX0_timesOfEvent 38 = .ok (.if_icmp .eq 6, 3) := by decide +kernel
theorem dX0_timesOfEvent_41 : decode cX0_timesOfEvent 41 = .ok (.iinc 1 1, 3) := by decide +kernel
theorem dX0_timesOfEvent_44 : decode cX0_timesOfEvent 44 = .ok (.iinc 2 1, 3) := by decide +kernel
theorem dX0_timesOfEvent_47 : decode cX0_timesOfEvent 47 = .ok (.goto (-43), 3) := by decide +kernel
theorem dX0_timesOfEvent_50 : decode cX0_timesOfEvent 50 = .ok (.iload_n 1, 1) := by decide +kernel
theorem dX0_timesOfEvent_51 : decode cX0_timesOfEvent 51 = .ok (.ireturn, 1) := by decide +kernel
theorem dX1_addSwimmer_0 : decode cX1_addSwimmer 0 = .ok (.iload_n 1, 1) := by decide +kernel
theorem dX1_addSwimmer_1 : decode cX1_addSwimmer 1 = .ok (.ifCond .lt 16, 3) := by decide +kernel
theorem dX1_addSwimmer_4 : decode cX1_addSwimmer 4 = .ok (.iload_n 1, 1) := by decide +kernel
theorem dX1_addSwimmer_5 : decode cX1_addSwimmer 5 = .ok (.bipush 6, 2) := by decide +kernel
theorem dX1_addSwimmer_7 : decode cX1_addSwimmer 7 = .ok (.if_icmp .ge 10, 3) := by decide +kernel
theorem dX1_addSwimmer_10 : decode cX1_addSwimmer 10 = .ok (.iload_n 2, 1) := by decide +kernel
theorem dX1_addSwimmer_11 : decode cX1_addSwimmer 11 = .ok (.invokestatic 9, 3) := by decide +kernel
theorem dX1_addSwimmer_14 : decode cX1_addSwimmer 14 = .ok (.ifCond .ne 6, 3) := by decide +kernel
theorem dX1_addSwimmer_17 : decode cX1_addSwimmer 17 = .ok (.ldc 15, 2) := by decide +kernel
theorem dX1_addSwimmer_19 : decode cX1_addSwimmer 19 = .ok (.ireturn, 1) := by decide +kernel
theorem dX1_addSwimmer_20 : decode cX1_addSwimmer 20 = .ok (.aload_n 0, 1) := by decide +kernel
theorem dX1_addSwimmer_21 : decode cX1_addSwimmer 21 = .ok (.getfield 16, 3) := by decide +kernel
theorem dX1_addSwimmer_24 : decode cX1_addSwimmer 24 = .ok (.ifCond .eq 6, 3) := by decide +kernel
theorem dX1_addSwimmer_27 : decode cX1_addSwimmer 27 = .ok (.ldc 22, 2) := by decide +kernel
theorem dX1_addSwimmer_29 : decode cX1_addSwimmer 29 = .ok (.ireturn, 1) := by decide +kernel
theorem dX1_addSwimmer_30 : decode cX1_addSwimmer 30 = .ok (.aload_n 0, 1) := by decide +kernel
theorem dX1_addSwimmer_31 : decode cX1_addSwimmer 31 = .ok (.getfield 23, 3) := by decide +kernel
theorem dX1_addSwimmer_34 : decode cX1_addSwimmer 34 = .ok (.bipush 30, 2) := by decide +kernel
theorem dX1_addSwimmer_36 : decode cX1_addSwimmer 36 = .ok (.if_icmp .lt 6, 3) := by decide +kernel
theorem dX1_addSwimmer_39 : decode cX1_addSwimmer 39 = .ok (.ldc 26, 2) := by decide +kernel
theorem dX1_addSwimmer_41 : decode cX1_addSwimmer 41 = .ok (.ireturn, 1) := by decide +kernel
theorem dX1_addSwimmer_42 : decode cX1_addSwimmer 42 = .ok (.aload_n 0, 1) := by decide +kernel
theorem dX1_addSwimmer_43 : decode cX1_addSwimmer 43 = .ok (.getfield 27, 3) := by decide +kernel
theorem dX1_addSwimmer_46 : decode cX1_addSwimmer 46 = .ok (.aload_n 0, 1) := by decide +kernel
theorem dX1_addSwimmer_47 : decode cX1_addSwimmer 47 = .ok (.getfield 23, 3) := by decide +kernel
theorem dX1_addSwimmer_50 : decode cX1_addSwimmer 50 = .ok (.aaload, 1) := by decide +kernel
theorem dX1_addSwimmer_51 : decode cX1_addSwimmer 51 = .ok (.iload_n 1, 1) := by decide +kernel
theorem dX1_addSwimmer_52 : decode cX1_addSwimmer 52 = .ok (.iload_n 2, 1) := by decide +kernel
theorem dX1_addSwimmer_53 : decode cX1_addSwimmer 53 = .ok (.invokevirtual 31, 3) := by decide +kernel
theorem dX1_addSwimmer_56 : decode cX1_addSwimmer 56 = .ok (.aload_n 0, 1) := by decide +kernel
theorem dX1_addSwimmer_57 : decode cX1_addSwimmer 57 = .ok (.dup, 1) := by decide +kernel
theorem dX1_addSwimmer_58 : decode cX1_addSwimmer 58 = .ok (.getfield 23, 3) := by decide +kernel
theorem dX1_addSwimmer_61 : decode cX1_addSwimmer 61 = .ok (.dup_x1, 1) := by decide +kernel
theorem dX1_addSwimmer_62 : decode cX1_addSwimmer 62 = .ok (.iconst 1, 1) := by decide +kernel
theorem dX1_addSwimmer_63 : decode cX1_addSwimmer 63 = .ok (.iadd, 1) := by decide +kernel
theorem dX1_addSwimmer_64 : decode cX1_addSwimmer 64 = .ok (.putfield 23, 3) := by decide +kernel
theorem dX1_addSwimmer_67 : decode cX1_addSwimmer 67 = .ok (.ireturn, 1) := by decide +kernel
theorem dX1_isTimeOrZero_0 : decode cX1_isTimeOrZero 0 = .ok (.iload_n 0, 1) := by decide +kernel
theorem dX1_isTimeOrZero_1 : decode cX1_isTimeOrZero 1 = .ok (.ifCond .eq 16, 3) := by decide +kernel
theorem dX1_isTimeOrZero_4 : decode cX1_isTimeOrZero 4 = .ok (.iload_n 0, 1) := by decide +kernel
theorem dX1_isTimeOrZero_5 : decode cX1_isTimeOrZero 5 = .ok (.bipush 100, 2) := by decide +kernel
theorem dX1_isTimeOrZero_7 : decode cX1_isTimeOrZero 7 = .ok (.if_icmp .lt 14, 3) := by decide +kernel
theorem dX1_isTimeOrZero_10 : decode cX1_isTimeOrZero 10 = .ok (.iload_n 0, 1) := by decide +kernel
theorem dX1_isTimeOrZero_11 : decode cX1_isTimeOrZero 11 = .ok (.sipush 999, 3) := by decide +kernel
theorem dX1_isTimeOrZero_14 : decode cX1_isTimeOrZero 14 = .ok (.if_icmp .gt 7, 3) := by decide +kernel
theorem dX1_isTimeOrZero_17 : decode cX1_isTimeOrZero 17 = .ok (.iconst 1, 1) := by decide +kernel
theorem dX1_isTimeOrZero_18 : decode cX1_isTimeOrZero 18 = .ok (.goto 4, 3) := by decide +kernel
theorem dX1_isTimeOrZero_21 : decode cX1_isTimeOrZero 21 = .ok (.iconst 0, 1) := by decide +kernel
theorem dX1_isTimeOrZero_22 : decode cX1_isTimeOrZero 22 = .ok (.ireturn, 1) := by decide +kernel
theorem dX1_withdraw_0 : decode cX1_withdraw 0 = .ok (.aload_n 0, 1) := by decide +kernel
theorem dX1_withdraw_1 : decode cX1_withdraw 1 = .ok (.iload_n 1, 1) := by decide +kernel
theorem dX1_withdraw_2 : decode cX1_withdraw 2 = .ok (.invokevirtual 37, 3) := by decide +kernel
theorem dX1_withdraw_5 : decode cX1_withdraw 5 = .ok (.ifCond .ne 6, 3) := by decide +kernel
theorem dX1_withdraw_8 : decode cX1_withdraw 8 = .ok (.ldc 15, 2) := by decide +kernel
theorem dX1_withdraw_10 : decode cX1_withdraw 10 = .ok (.ireturn, 1) := by decide +kernel
theorem dX1_withdraw_11 : decode cX1_withdraw 11 = .ok (.aload_n 0, 1) := by decide +kernel
theorem dX1_withdraw_12 : decode cX1_withdraw 12 = .ok (.getfield 27, 3) := by decide +kernel
theorem dX1_withdraw_15 : decode cX1_withdraw 15 = .ok (.iload_n 1, 1) := by decide +kernel
theorem dX1_withdraw_16 : decode cX1_withdraw 16 = .ok (.aaload, 1) := by decide +kernel
theorem dX1_withdraw_17 : decode cX1_withdraw 17 = .ok (.astore_n 2, 1) := by decide +kernel
theorem dX1_withdraw_18 : decode cX1_withdraw 18 = .ok (.aload_n 2, 1) := by decide +kernel
theorem dX1_withdraw_19 : decode cX1_withdraw 19 = .ok (.getfield 40, 3) := by decide +kernel
theorem dX1_withdraw_22 : decode cX1_withdraw 22 = .ok (.ifCond .ne 11, 3) := by decide +kernel
theorem dX1_withdraw_25 : decode cX1_withdraw 25 = .ok (.aload_n 0, 1) := by decide +kernel
theorem dX1_withdraw_26 : decode cX1_withdraw 26 = .ok (.getfield 16, 3) := by decide +kernel
theorem dX1_withdraw_29 : decode cX1_withdraw 29 = .ok (.iconst 3, 1) := by decide +kernel
theorem dX1_withdraw_30 : decode cX1_withdraw 30 = .ok (.if_icmp .ne 6, 3) := by decide +kernel
theorem dX1_withdraw_33 : decode cX1_withdraw 33 = .ok (.ldc 22, 2) := by decide +kernel
theorem dX1_withdraw_35 : decode cX1_withdraw 35 = .ok (.ireturn, 1) := by decide +kernel
theorem dX1_withdraw_36 : decode cX1_withdraw 36 = .ok (.aload_n 2, 1) := by decide +kernel
theorem dX1_withdraw_37 : decode cX1_withdraw 37 = .ok (.iconst 1, 1) := by decide +kernel
theorem dX1_withdraw_38 : decode cX1_withdraw 38 = .ok (.putfield 40, 3) := by decide +kernel
theorem dX1_withdraw_41 : decode cX1_withdraw 41 = .ok (.aload_n 0, 1) := by decide +kernel
theorem dX1_withdraw_42 : decode cX1_withdraw 42 = .ok (.getfield 16, 3) := by decide +kernel
theorem dX1_withdraw_45 : decode cX1_withdraw 45 = .ok (.iconst 1, 1) := by decide +kernel
theorem dX1_withdraw_46 : decode cX1_withdraw 46 = .ok (.if_icmp .ne 7, 3) := by decide +kernel
theorem dX1_withdraw_49 : decode cX1_withdraw 49 = .ok (.aload_n 2, 1) := by decide +kernel
theorem dX1_withdraw_50 : decode cX1_withdraw 50 = .ok (.invokevirtual 44, 3) := by decide +kernel
theorem dX1_withdraw_53 : decode cX1_withdraw 53 = .ok (.aload_n 0, 1) := by decide +kernel
theorem dX1_withdraw_54 : decode cX1_withdraw 54 = .ok (.getfield 16, 3) := by decide +kernel
theorem dX1_withdraw_57 : decode cX1_withdraw 57 = .ok (.iconst 2, 1) := by decide +kernel
theorem dX1_withdraw_58 : decode cX1_withdraw 58 = .ok (.if_icmp .ne 16, 3) := by decide +kernel
theorem dX1_withdraw_61 : decode cX1_withdraw 61 = .ok (.aload_n 2, 1) := by decide +kernel
theorem dX1_withdraw_62 : decode cX1_withdraw 62 = .ok (.getfield 47, 3) := by decide +kernel
theorem dX1_withdraw_65 : decode cX1_withdraw 65 = .ok (.ifCond .eq 9, 3) := by decide +kernel
theorem dX1_withdraw_68 : decode cX1_withdraw 68 = .ok (.aload_n 0, 1) := by decide +kernel
theorem dX1_withdraw_69 : decode cX1_withdraw 69 = .ok (.aload_n 2, 1) := by decide +kernel
theorem dX1_withdraw_70 : decode cX1_withdraw 70 = .ok (.invokestatic 50, 3) := by decide +kernel
theorem dX1_withdraw_73 : decode cX1_withdraw 73 = .ok (.ireturn, 1) := by decide +kernel
theorem dX1_withdraw_74 : decode cX1_withdraw 74 = .ok (.bipush 100, 2) := by decide +kernel
theorem dX1_withdraw_76 : decode cX1_withdraw 76 = .ok (.ireturn, 1) := by decide +kernel
theorem dX1_callReserve_0 : decode cX1_callReserve 0 = .ok (.aload_n 1, 1) := by decide +kernel
theorem dX1_callReserve_1 : decode cX1_callReserve 1 = .ok (.getfield 47, 3) := by decide +kernel
theorem dX1_callReserve_4 : decode cX1_callReserve 4 = .ok (.istore_n 2, 1) := by decide +kernel
theorem dX1_callReserve_5 : decode cX1_callReserve 5 = .ok (.aload_n 1, 1) := by decide +kernel
theorem dX1_callReserve_6 : decode cX1_callReserve 6 = .ok (.invokevirtual 54, 3) := by decide +kernel
theorem dX1_callReserve_9 : decode cX1_callReserve 9 = .ok (.aload_n 0, 1) := by decide +kernel
theorem dX1_callReserve_10 : decode cX1_callReserve 10 = .ok (.iconst 0, 1) := by decide +kernel
theorem dX1_callReserve_11 : decode cX1_callReserve 11 = .ok (.invokevirtual 57, 3) := by decide +kernel
theorem dX1_callReserve_14 : decode cX1_callReserve 14 = .ok (.istore_n 3, 1) := by decide +kernel
theorem dX1_callReserve_15 : decode cX1_callReserve 15 = .ok (.aload_n 0, 1) := by decide +kernel
theorem dX1_callReserve_16 : decode cX1_callReserve 16 = .ok (.iload_n 3, 1) := by decide +kernel
theorem dX1_callReserve_17 : decode cX1_callReserve 17 = .ok (.invokevirtual 37, 3) := by decide +kernel
theorem dX1_callReserve_20 : decode cX1_callReserve 20 = .ok (.ifCond .ne 6, 3) := by decide +kernel
theorem dX1_callReserve_23 : decode cX1_callReserve 23 = .ok (.bipush 100, 2) := by decide +kernel
theorem dX1_callReserve_25 : decode cX1_callReserve 25 = .ok (.ireturn, 1) := by decide +kernel
theorem dX1_callReserve_26 : decode cX1_callReserve 26 = .ok (.aload_n 0, 1) := by decide +kernel
theorem dX1_callReserve_27 : decode cX1_callReserve 27 = .ok (.getfield 27, 3) := by decide +kernel
theorem dX1_callReserve_30 : decode cX1_callReserve 30 = .ok (.iload_n 3, 1) := by decide +kernel
theorem dX1_callReserve_31 : decode cX1_callReserve 31 = .ok (.aaload, 1) := by decide +kernel
theorem dX1_callReserve_32 : decode cX1_callReserve 32 = .ok (.iload_n 2, 1) := by decide +kernel
theorem dX1_callReserve_33 : decode cX1_callReserve 33 = .ok (.putfield 47, 3) := by decide +kernel
theorem dX1_callReserve_36 : decode cX1_callReserve 36 = .ok (.aload_n 0, 1) := by decide +kernel
theorem dX1_callReserve_37 : decode cX1_callReserve 37 = .ok (.dup, 1) := by decide +kernel
theorem dX1_callReserve_38 : decode cX1_callReserve 38 = .ok (.getfield 61, 3) := by decide +kernel
theorem dX1_callReserve_41 : decode cX1_callReserve 41 = .ok (.iconst 1, 1) := by decide +kernel
theorem dX1_callReserve_42 : decode cX1_callReserve 42 = .ok (.iadd, 1) := by decide +kernel
theorem dX1_callReserve_43 : decode cX1_callReserve 43 = .ok (.putfield 61, 3) := by decide +kernel
theorem dX1_callReserve_46 : decode cX1_callReserve 46 = .ok (.iload_n 3, 1) := by decide +kernel
theorem dX1_callReserve_47 : decode cX1_callReserve 47 = .ok (.ireturn, 1) := by decide +kernel
theorem dX1_changeSetting_0 : decode cX1_changeSetting 0 = .ok (.iload_n 1, 1) := by decide +kernel
theorem dX1_changeSetting_1 : decode cX1_changeSetting 1 = .ok (.iload_n 2, 1) := by decide +kernel
theorem dX1_changeSetting_2 : decode cX1_changeSetting 2 = .ok (.invokestatic 64, 3) := by decide +kernel
theorem dX1_changeSetting_5 : decode cX1_changeSetting 5 = .ok (.ifCond .ne 6, 3) := by decide +kernel
theorem dX1_changeSetting_8 : decode cX1_changeSetting 8 = .ok (.ldc 15, 2) := by decide +kernel
theorem dX1_changeSetting_10 : decode cX1_changeSetting 10 = .ok (.ireturn, 1) := by decide +kernel
theorem dX1_changeSetting_11 : decode cX1_changeSetting 11 = .ok (.aload_n 0, 1) := by decide +kernel
theorem dX1_changeSetting_12 : decode cX1_changeSetting 12 = .ok (.getfield 16, 3) := by decide +kernel
theorem dX1_changeSetting_15 : decode cX1_changeSetting 15 = .ok (.ifCond .eq 6, 3) := by decide +kernel
theorem dX1_changeSetting_18 : decode cX1_changeSetting 18 = .ok (.ldc 22, 2) := by decide +kernel
theorem dX1_changeSetting_20 : decode cX1_changeSetting 20 = .ok (.ireturn, 1) := by decide +kernel
theorem dX1_changeSetting_21 : decode cX1_changeSetting 21 = .ok (.aload_n 0, 1) := by decide +kernel
theorem dX1_changeSetting_22 : decode cX1_changeSetting 22 = .ok (.getfield 70, 3) := by decide +kernel
theorem dX1_changeSetting_25 : decode cX1_changeSetting 25 = .ok (.iload_n 1, 1) := by decide +kernel
theorem dX1_changeSetting_26 : decode cX1_changeSetting 26 = .ok (.iaload, 1) := by decide +kernel
theorem dX1_changeSetting_27 : decode cX1_changeSetting 27 = .ok (.istore_n 3, 1) := by decide +kernel
theorem dX1_changeSetting_28 : decode cX1_changeSetting 28 = .ok (.aload_n 0, 1) := by decide +kernel
theorem dX1_changeSetting_29 : decode cX1_changeSetting 29 = .ok (.getfield 70, 3) := by decide +kernel
theorem dX1_changeSetting_32 : decode cX1_changeSetting 32 = .ok (.iload_n 1, 1) := by decide +kernel
theorem dX1_changeSetting_33 : decode cX1_changeSetting 33 = .ok (.iload_n 2, 1) := by decide +kernel
theorem dX1_changeSetting_34 : decode cX1_changeSetting 34 = .ok (.iastore, 1) := by decide +kernel
theorem dX1_changeSetting_35 : decode cX1_changeSetting 35 = .ok (.iload_n 3, 1) := by decide +kernel
theorem dX1_changeSetting_36 : decode cX1_changeSetting 36 = .ok (.ireturn, 1) := by decide +kernel
theorem dX1_drawHeats_0 : decode cX1_drawHeats 0 = .ok (.aload_n 0, 1) := by decide +kernel
theorem dX1_drawHeats_1 : decode cX1_drawHeats 1 = .ok (.invokevirtual 74, 3) := by decide +kernel
theorem dX1_drawHeats_4 : decode cX1_drawHeats 4 = .ok (.istore_n 1, 1) := by decide +kernel
theorem dX1_drawHeats_5 : decode cX1_drawHeats 5 = .ok (.aload_n 0, 1) := by decide +kernel
theorem dX1_drawHeats_6 : decode cX1_drawHeats 6 = .ok (.getfield 16, 3) := by decide +kernel
theorem dX1_drawHeats_9 : decode cX1_drawHeats 9 = .ok (.ifCond .ne 7, 3) := by decide +kernel
theorem dX1_drawHeats_12 : decode cX1_drawHeats 12 = .ok (.iload_n 1, 1) := by decide +kernel
theorem dX1_drawHeats_13 : decode cX1_drawHeats 13 = .ok (.ifCond .ne 6, 3) := by decide +kernel
theorem dX1_drawHeats_16 : decode cX1_drawHeats 16 = .ok (.ldc 22, 2) := by decide +kernel
theorem dX1_drawHeats_18 : decode cX1_drawHeats 18 = .ok (.ireturn, 1) := by decide +kernel
theorem dX1_drawHeats_19 : decode cX1_drawHeats 19 = .ok (.aload_n 0, 1) := by decide +kernel
theorem dX1_drawHeats_20 : decode cX1_drawHeats 20 = .ok (.iload_n 1, 1) := by decide +kernel
theorem dX1_drawHeats_21 : decode cX1_drawHeats 21 = .ok (.aload_n 0, 1) := by decide +kernel
theorem dX1_drawHeats_22 : decode cX1_drawHeats 22 = .ok (.invokevirtual 78, 3) := by decide +kernel
theorem dX1_drawHeats_25 : decode cX1_drawHeats 25 = .ok (.invokestatic 81, 3) := by decide +kernel
theorem dX1_drawHeats_28 : decode cX1_drawHeats 28 = .ok (.putfield 87, 3) := by decide +kernel
theorem dX1_drawHeats_31 : decode cX1_drawHeats 31 = .ok (.aload_n 0, 1) := by decide +kernel
theorem dX1_drawHeats_32 : decode cX1_drawHeats 32 = .ok (.invokestatic 90, 3) := by decide +kernel
theorem dX1_drawHeats_35 : decode cX1_drawHeats 35 = .ok (.aload_n 0, 1) := by decide +kernel
theorem dX1_drawHeats_36 : decode cX1_drawHeats 36 = .ok (.invokestatic 94, 3) := by decide +kernel
theorem dX1_drawHeats_39 : decode cX1_drawHeats 39 = .ok (.aload_n 0, 1) := by decide +kernel
theorem dX1_drawHeats_40 : decode cX1_drawHeats 40 = .ok (.invokestatic 97, 3) := by decide +kernel
theorem dX1_drawHeats_43 : decode cX1_drawHeats 43 = .ok (.aload_n 0, 1) := by decide +kernel
theorem dX1_drawHeats_44 : decode cX1_drawHeats 44 = .ok (.iconst 1, 1) := by decide +kernel
theorem dX1_drawHeats_45 : decode cX1_drawHeats 45 = .ok (.putfield 16, 3) := by decide +kernel
theorem dX1_drawHeats_48 : decode cX1_drawHeats 48 = .ok (.aload_n 0, 1) := by decide +kernel
theorem dX1_drawHeats_49 : decode cX1_drawHeats 49 = .ok (.getfield 87, 3) := by decide +kernel
theorem dX1_drawHeats_52 : decode cX1_drawHeats 52 = .ok (.ireturn, 1) := by decide +kernel
theorem dX1_giveTime_0 : decode cX1_giveTime 0 = .ok (.aload_n 0, 1) := by decide +kernel
theorem dX1_giveTime_1 : decode cX1_giveTime 1 = .ok (.iload_n 1, 1) := by decide +kernel
theorem dX1_giveTime_2 : decode cX1_giveTime 2 = .ok (.invokevirtual 37, 3) := by decide +kernel
theorem dX1_giveTime_5 : decode cX1_giveTime 5 = .ok (.ifCond .eq 10, 3) := by decide +kernel
theorem dX1_giveTime_8 : decode cX1_giveTime 8 = .ok (.iload_n 2, 1) := by decide +kernel
theorem dX1_giveTime_9 : decode cX1_giveTime 9 = .ok (.invokestatic 9, 3) := by decide +kernel
theorem dX1_giveTime_12 : decode cX1_giveTime 12 = .ok (.ifCond .ne 6, 3) := by decide +kernel
theorem dX1_giveTime_15 : decode cX1_giveTime 15 = .ok (.ldc 15, 2) := by decide +kernel
theorem dX1_giveTime_17 : decode cX1_giveTime 17 = .ok (.ireturn, 1) := by decide +kernel
theorem dX1_giveTime_18 : decode cX1_giveTime 18 = .ok (.aload_n 0, 1) := by decide +kernel
theorem dX1_giveTime_19 : decode cX1_giveTime 19 = .ok (.getfield 27, 3) := by decide +kernel
theorem dX1_giveTime_22 : decode cX1_giveTime 22 = .ok (.iload_n 1, 1) := by decide +kernel
theorem dX1_giveTime_23 : decode cX1_giveTime 23 = .ok (.aaload, 1) := by decide +kernel
theorem dX1_giveTime_24 : decode cX1_giveTime 24 = .ok (.astore_n 3, 1) := by decide +kernel
theorem dX1_giveTime_25 : decode cX1_giveTime 25 = .ok (.aload_n 3, 1) := by decide +kernel
theorem dX1_giveTime_26 : decode cX1_giveTime 26 = .ok (.getfield 40, 3) := by decide +kernel
theorem dX1_giveTime_29 : decode cX1_giveTime 29 = .ok (.ifCond .ne 11, 3) := by decide +kernel
theorem dX1_giveTime_32 : decode cX1_giveTime 32 = .ok (.aload_n 0, 1) := by decide +kernel
theorem dX1_giveTime_33 : decode cX1_giveTime 33 = .ok (.aload_n 3, 1) := by decide +kernel
theorem dX1_giveTime_34 : decode cX1_giveTime 34 = .ok (.invokevirtual 100, 3) := by decide +kernel
theorem dX1_giveTime_37 : decode cX1_giveTime 37 = .ok (.ifCond .ne 6, 3) := by decide +kernel
theorem dX1_giveTime_40 : decode cX1_giveTime 40 = .ok (.ldc 22, 2) := by decide +kernel
theorem dX1_giveTime_42 : decode cX1_giveTime 42 = .ok (.ireturn, 1) := by decide +kernel
theorem dX1_giveTime_43 : decode cX1_giveTime 43 = .ok (.aload_n 0, 1) := by decide +kernel
theorem dX1_giveTime_44 : decode cX1_giveTime 44 = .ok (.getfield 16, 3) := by decide +kernel
theorem dX1_giveTime_47 : decode cX1_giveTime 47 = .ok (.iconst 1, 1) := by decide +kernel
theorem dX1_giveTime_48 : decode cX1_giveTime 48 = .ok (.if_icmp .ne 11, 3) := by decide +kernel
theorem dX1_giveTime_51 : decode cX1_giveTime 51 = .ok (.aload_n 3, 1) := by decide +kernel
theorem dX1_giveTime_52 : decode cX1_giveTime 52 = .ok (.iload_n 2, 1) := by decide +kernel
theorem dX1_giveTime_53 : decode cX1_giveTime 53 = .ok (.putfield 104, 3) := by decide +kernel
theorem dX1_giveTime_56 : decode cX1_giveTime 56 = .ok (.goto 8, 3) := by decide +kernel
theorem dX1_giveTime_59 : decode cX1_giveTime 59 = .ok (.aload_n 3, 1) := by decide +kernel
theorem dX1_giveTime_60 : decode cX1_giveTime 60 = .ok (.iload_n 2, 1) := by decide +kernel
theorem dX1_giveTime_61 : decode cX1_giveTime 61 = .ok (.putfield 107, 3) := by decide +kernel
theorem dX1_giveTime_64 : decode cX1_giveTime 64 = .ok (.iload_n 2, 1) := by decide +kernel
theorem dX1_giveTime_65 : decode cX1_giveTime 65 = .ok (.ifCond .ne 6, 3) := by decide +kernel
theorem dX1_giveTime_68 : decode cX1_giveTime 68 = .ok (.bipush 100, 2) := by decide +kernel
theorem dX1_giveTime_70 : decode cX1_giveTime 70 = .ok (.ireturn, 1) := by decide +kernel
theorem dX1_giveTime_71 : decode cX1_giveTime 71 = .ok (.aload_n 0, 1) := by decide +kernel
theorem dX1_giveTime_72 : decode cX1_giveTime 72 = .ok (.iload_n 1, 1) := by decide +kernel
theorem dX1_giveTime_73 : decode cX1_giveTime 73 = .ok (.iload_n 2, 1) := by decide +kernel
theorem dX1_giveTime_74 : decode cX1_giveTime 74 = .ok (.invokestatic 110, 3) := by decide +kernel
theorem dX1_giveTime_77 : decode cX1_giveTime 77 = .ok (.aload_n 0, 1) := by decide +kernel
theorem dX1_giveTime_78 : decode cX1_giveTime 78 = .ok (.iload_n 2, 1) := by decide +kernel
theorem dX1_giveTime_79 : decode cX1_giveTime 79 = .ok (.invokevirtual 114, 3) := by decide +kernel
theorem dX1_giveTime_82 : decode cX1_giveTime 82 = .ok (.ireturn, 1) := by decide +kernel
theorem dX1_noteRecord_0 : decode cX1_noteRecord 0 = .ok (.aload_n 0, 1) := by decide +kernel
theorem dX1_noteRecord_1 : decode cX1_noteRecord 1 = .ok (.getfield 117, 3) := by decide +kernel
theorem dX1_noteRecord_4 : decode cX1_noteRecord 4 = .ok (.ifCond .eq 11, 3) := by decide +kernel
theorem dX1_noteRecord_7 : decode cX1_noteRecord 7 = .ok (.iload_n 2, 1) := by decide +kernel
theorem dX1_noteRecord_8 : decode cX1_noteRecord 8 = .ok (.aload_n 0, 1) := by decide +kernel
theorem dX1_noteRecord_9 : decode cX1_noteRecord 9 = .ok (.getfield 117, 3) := by decide +kernel
theorem dX1_noteRecord_12 : decode cX1_noteRecord 12 = .ok (.if_icmp .ge 13, 3) := by decide +kernel
theorem dX1_noteRecord_15 : decode cX1_noteRecord 15 = .ok (.aload_n 0, 1) := by decide +kernel
theorem dX1_noteRecord_16 : decode cX1_noteRecord 16 = .ok (.iload_n 2, 1) := by decide +kernel
theorem dX1_noteRecord_17 : decode cX1_noteRecord 17 = .ok (.putfield 117, 3) := by decide +kernel
theorem dX1_noteRecord_20 : decode cX1_noteRecord 20 = .ok (.aload_n 0, 1) := by decide +kernel
theorem dX1_noteRecord_21 : decode cX1_noteRecord 21 = .ok (.iload_n 1, 1) := by decide +kernel
theorem dX1_noteRecord_22 : decode cX1_noteRecord 22 = .ok (.putfield 120, 3) := by decide +kernel
theorem dX1_noteRecord_25 : decode cX1_noteRecord 25 = .ok (.return_, 1) := by decide +kernel
theorem dX1_drawFinal_0 : decode cX1_drawFinal 0 = .ok (.aload_n 0, 1) := by decide +kernel
theorem dX1_drawFinal_1 : decode cX1_drawFinal 1 = .ok (.getfield 16, 3) := by decide +kernel
theorem dX1_drawFinal_4 : decode cX1_drawFinal 4 = .ok (.iconst 1, 1) := by decide +kernel
theorem dX1_drawFinal_5 : decode cX1_drawFinal 5 = .ok (.if_icmp .ne 10, 3) := by decide +kernel
theorem dX1_drawFinal_8 : decode cX1_drawFinal 8 = .ok (.aload_n 0, 1) := by decide +kernel
theorem dX1_drawFinal_9 : decode cX1_drawFinal 9 = .ok (.invokevirtual 123, 3) := by decide +kernel
theorem dX1_drawFinal_12 : decode cX1_drawFinal 12 = .ok (.ifCond .eq 6, 3) := by decide +kernel
theorem dX1_drawFinal_15 : decode cX1_drawFinal 15 = .ok (.ldc 22, 2) := by decide +kernel
theorem dX1_drawFinal_17 : decode cX1_drawFinal 17 = .ok (.ireturn, 1) := by decide +kernel
theorem dX1_drawFinal_18 : decode cX1_drawFinal 18 = .ok (.iconst 0, 1) := by decide +kernel
theorem dX1_drawFinal_19 : decode cX1_drawFinal 19 = .ok (.istore_n 1, 1) := by decide +kernel
theorem dX1_drawFinal_20 : decode cX1_drawFinal 20 = .ok (.iload_n 1, 1) := by decide +kernel
theorem dX1_drawFinal_21 : decode cX1_drawFinal 21 = .ok (.aload_n 0, 1) := by decide +kernel
theorem dX1_drawFinal_22 : decode cX1_drawFinal 22 = .ok (.getfield 23, 3) := by decide +kernel
theorem dX1_drawFinal_25 : decode cX1_drawFinal 25 = .ok (.if_icmp .ge 31, 3) := by decide +kernel
theorem dX1_drawFinal_28 : decode cX1_drawFinal 28 = .ok (.aload_n 0, 1) := by decide +kernel
theorem dX1_drawFinal_29 : decode cX1_drawFinal 29 = .ok (.getfield 27, 3) := by decide +kernel
theorem dX1_drawFinal_32 : decode cX1_drawFinal 32 = .ok (.iload_n 1, 1) := by decide +kernel
theorem dX1_drawFinal_33 : decode cX1_drawFinal 33 = .ok (.aaload, 1) := by decide +kernel
theorem dX1_drawFinal_34 : decode cX1_drawFinal 34 = .ok (.getfield 104, 3) := by decide +kernel
theorem dX1_drawFinal_37 : decode cX1_drawFinal 37 = .ok (.ifCond .le 13, 3) := by decide +kernel
theorem dX1_drawFinal_40 : decode cX1_drawFinal 40 = .ok (.aload_n 0, 1) := by decide +kernel
theorem dX1_drawFinal_41 : decode cX1_drawFinal 41 = .ok (.aload_n 0, 1) := by decide +kernel
theorem dX1_drawFinal_42 : decode cX1_drawFinal 42 = .ok (.getfield 27, 3) := by decide +kernel
theorem dX1_drawFinal_45 : decode cX1_drawFinal 45 = .ok (.iload_n 1, 1) := by decide +kernel
theorem dX1_drawFinal_46 : decode cX1_drawFinal 46 = .ok (.aaload, 1) := by decide +kernel
theorem dX1_drawFinal_47 : decode cX1_drawFinal 47 = .ok (.invokestatic 126, 3) := by decide +kernel
theorem dX1_drawFinal_50 : decode cX1_drawFinal 50 = .ok (.iinc 1 1, 3) := by decide +kernel
theorem dX1_drawFinal_53 : decode cX1_drawFinal 53 = .ok (.goto (-33), 3) := by decide +kernel
theorem dX1_drawFinal_56 : decode cX1_drawFinal 56 = .ok (.aload_n 0, 1) := by decide +kernel
theorem dX1_drawFinal_57 : decode cX1_drawFinal 57 = .ok (.iconst 2, 1) := by decide +kernel
theorem dX1_drawFinal_58 : decode cX1_drawFinal 58 = .ok (.putfield 16, 3) := by decide +kernel
theorem dX1_drawFinal_61 : decode cX1_drawFinal 61 = .ok (.aload_n 0, 1) := by decide +kernel
theorem dX1_drawFinal_62 : decode cX1_drawFinal 62 = .ok (.invokevirtual 130, 3) := by decide +kernel
theorem dX1_drawFinal_65 : decode cX1_drawFinal 65 = .ok (.ireturn, 1) := by decide +kernel
theorem dX1_seatByTime_0 : decode cX1_seatByTime 0 = .ok (.aload_n 0, 1) := by decide +kernel
theorem dX1_seatByTime_1 : decode cX1_seatByTime 1 = .ok (.aload_n 1, 1) := by decide +kernel
theorem dX1_seatByTime_2 : decode cX1_seatByTime 2 = .ok (.invokevirtual 133, 3) := by decide +kernel
theorem dX1_seatByTime_5 : decode cX1_seatByTime 5 = .ok (.istore_n 2, 1) := by decide +kernel
theorem dX1_seatByTime_6 : decode cX1_seatByTime 6 = .ok (.iload_n 2, 1) := by decide +kernel
theorem dX1_seatByTime_7 : decode cX1_seatByTime 7 = .ok (.aload_n 0, 1) := by decide +kernel
theorem dX1_seatByTime_8 : decode cX1_seatByTime 8 = .ok (.invokevirtual 78, 3) := by decide +kernel
theorem dX1_seatByTime_11 : decode cX1_seatByTime 11 = .ok (.if_icmp .ge 16, 3) := by decide +kernel
theorem dX1_seatByTime_14 : decode cX1_seatByTime 14 = .ok (.aload_n 1, 1) := by decide +kernel
theorem dX1_seatByTime_15 : decode cX1_seatByTime 15 = .ok (.iload_n 2, 1) := by decide +kernel
theorem dX1_seatByTime_16 : decode cX1_seatByTime 16 = .ok (.aload_n 0, 1) := by decide +kernel
theorem dX1_seatByTime_17 : decode cX1_seatByTime 17 = .ok (.invokevirtual 78, 3) := by decide +kernel
theorem dX1_seatByTime_20 : decode cX1_seatByTime 20 = .ok (.invokestatic 137, 3) := by decide +kernel
theorem dX1_seatByTime_23 : decode cX1_seatByTime 23 = .ok (.putfield 47, 3) := by decide +kernel
theorem dX1_seatByTime_26 : decode cX1_seatByTime 26 = .ok (.return_, 1) := by decide +kernel
theorem dX1_seatByTime_27 : decode cX1_seatByTime 27 = .ok (.iload_n 2, 1) := by decide +kernel
theorem dX1_seatByTime_28 : decode cX1_seatByTime 28 = .ok (.aload_n 0, 1) := by decide +kernel
theorem dX1_seatByTime_29 : decode cX1_seatByTime 29 = .ok (.invokevirtual 78, 3) := by decide +kernel
theorem dX1_seatByTime_32 : decode cX1_seatByTime 32 = .ok (.isub, 1) := by decide +kernel
theorem dX1_seatByTime_33 : decode cX1_seatByTime 33 = .ok (.istore_n 3, 1) := by decide +kernel
theorem dX1_seatByTime_34 : decode cX1_seatByTime 34 = .ok (.iload_n 3, 1) := by decide +kernel
theorem dX1_seatByTime_35 : decode cX1_seatByTime 35 = .ok (.aload_n 0, 1) := by decide +kernel
theorem dX1_seatByTime_36 : decode cX1_seatByTime 36 = .ok (.getfield 70, 3) := by decide +kernel
theorem dX1_seatByTime_39 : decode cX1_seatByTime 39 = .ok (.iconst 2, 1) := by decide +kernel
theorem dX1_seatByTime_40 : decode cX1_seatByTime 40 = .ok (.iaload, 1) := by decide +kernel
theorem dX1_seatByTime_41 : decode cX1_seatByTime 41 = .ok (.if_icmp .ge 28, 3) := by decide +kernel
theorem dX1_seatByTime_44 : decode cX1_seatByTime 44 = .ok (.iload_n 3, 1) := by decide +kernel
theorem dX1_seatByTime_45 : decode cX1_seatByTime 45 = .ok (.iconst 4, 1) := by decide +kernel
theorem dX1_seatByTime_46 : decode cX1_seatByTime 46 = .ok (.if_icmp .ge 23, 3) := by decide +kernel
theorem dX1_seatByTime_49 : decode cX1_seatByTime 49 = .ok (.aload_n 0, 1) := by decide +kernel
theorem dX1_seatByTime_50 : decode cX1_seatByTime 50 = .ok (.getfield 142, 3) := by decide +kernel
theorem dX1_seatByTime_53 : decode cX1_seatByTime 53 = .ok (.iload_n 3, 1) := by decide +kernel
theorem dX1_seatByTime_54 : decode cX1_seatByTime 54 = .ok (.aload_n 1, 1) := by decide +kernel
theorem dX1_seatByTime_55 : decode cX1_seatByTime 55 = .ok (.getfield 145, 3) := by decide +kernel
theorem dX1_seatByTime_58 : decode cX1_seatByTime 58 = .ok (.iastore, 1) := by decide +kernel
theorem dX1_seatByTime_59 : decode cX1_seatByTime 59 = .ok (.aload_n 0, 1) := by decide +kernel
theorem dX1_seatByTime_60 : decode cX1_seatByTime 60 = .ok (.dup, 1) := by decide +kernel
theorem dX1_seatByTime_61 : decode cX1_seatByTime 61 = .ok (.getfield 148, 3) := by decide +kernel
theorem dX1_seatByTime_64 : decode cX1_seatByTime 64 = .ok (.iconst 1, 1) := by decide +kernel
theorem dX1_seatByTime_65 : decode cX1_seatByTime 65 = .ok (.iadd, 1) := by decide +kernel
theorem dX1_seatByTime_66 : decode cX1_seatByTime 66 = .ok (.putfield 148, 3) := by decide +kernel
theorem dX1_seatByTime_69 : decode cX1_seatByTime 69 = .ok (.return_, 1) := by decide +kernel
theorem dX1_endEvent_0 : decode cX1_endEvent 0 = .ok (.aload_n 0, 1) := by decide +kernel
theorem dX1_endEvent_1 : decode cX1_endEvent 1 = .ok (.getfield 16, 3) := by decide +kernel
theorem dX1_endEvent_4 : decode cX1_endEvent 4 = .ok (.iconst 2, 1) := by decide +kernel
theorem dX1_endEvent_5 : decode cX1_endEvent 5 = .ok (.if_icmp .ne 10, 3) := by decide +kernel
theorem dX1_endEvent_8 : decode cX1_endEvent 8 = .ok (.aload_n 0, 1) := by decide +kernel
theorem dX1_endEvent_9 : decode cX1_endEvent 9 = .ok (.invokevirtual 123, 3) := by decide +kernel
theorem dX1_endEvent_12 : decode cX1_endEvent 12 = .ok (.ifCond .eq 6, 3) := by decide +kernel
theorem dX1_endEvent_15 : decode cX1_endEvent 15 = .ok (.ldc 22, 2) := by decide +kernel
theorem dX1_endEvent_17 : decode cX1_endEvent 17 = .ok (.ireturn, 1) := by decide +kernel
theorem dX1_endEvent_18 : decode cX1_endEvent 18 = .ok (.iconst 0, 1) := by decide +kernel
theorem dX1_endEvent_19 : decode cX1_endEvent 19 = .ok (.istore_n 1, 1) := by decide +kernel
theorem dX1_endEvent_20 : decode cX1_endEvent 20 = .ok (.iconst 0, 1) := by decide +kernel
theorem dX1_endEvent_21 : decode cX1_endEvent 21 = .ok (.istore_n 2, 1) := by decide +kernel
theorem dX1_endEvent_22 : decode cX1_endEvent 22 = .ok (.iload_n 2, 1) := by decide +kernel
theorem dX1_endEvent_23 : decode cX1_endEvent 23 = .ok (.aload_n 0, 1) := by decide +kernel
theorem dX1_endEvent_24 : decode cX1_endEvent 24 = .ok (.getfield 23, 3) := by decide +kernel
theorem dX1_endEvent_27 : decode cX1_endEvent 27 = .ok (.if_icmp .ge 38, 3) := by decide +kernel
theorem dX1_endEvent_30 : decode cX1_endEvent 30 = .ok (.aload_n 0, 1) := by decide +kernel
theorem dX1_endEvent_31 : decode cX1_endEvent 31 = .ok (.aload_n 0, 1) := by decide +kernel
theorem dX1_endEvent_32 : decode cX1_endEvent 32 = .ok (.getfield 27, 3) := by decide +kernel
theorem dX1_endEvent_35 : decode cX1_endEvent 35 = .ok (.iload_n 2, 1) := by decide +kernel
theorem dX1_endEvent_36 : decode cX1_endEvent 36 = .ok (.aaload, 1) := by decide +kernel
theorem dX1_endEvent_37 : decode cX1_endEvent 37 = .ok (.invokestatic 151, 3) := by decide +kernel
theorem dX1_endEvent_40 : decode cX1_endEvent 40 = .ok (.aload_n 0, 1) := by decide +kernel
theorem dX1_endEvent_41 : decode cX1_endEvent 41 = .ok (.getfield 27, 3) := by decide +kernel
theorem dX1_endEvent_44 : decode cX1_endEvent 44 = .ok (.iload_n 2, 1) := by decide +kernel
theorem dX1_endEvent_45 : decode cX1_endEvent 45 = .ok (.aaload, 1) := by decide +kernel
theorem dX1_endEvent_46 : decode cX1_endEvent 46 = .ok (.getfield 156, 3) := by decide +kernel
theorem dX1_endEvent_49 : decode cX1_endEvent 49 = .ok (.iconst 1, 1) := by decide +kernel
theorem dX1_endEvent_50 : decode cX1_endEvent 50 = .ok (.if_icmp .ne 9, 3) := by decide +kernel
theorem dX1_endEvent_53 : decode cX1_endEvent 53 = .ok (.iload_n 1, 1) := by decide +kernel
theorem dX1_endEvent_54 : decode cX1_endEvent 54 = .ok (.iconst 1, 1) := by decide +kernel
theorem dX1_endEvent_55 : decode cX1_endEvent 55 = .ok (.iload_n 2, 1) := by decide +kernel
theorem dX1_endEvent_56 : decode cX1_endEvent 56 = .ok (.ishl, 1) := by decide +kernel
theorem dX1_endEvent_57 : decode cX1_endEvent 57 = .ok (.ior, 1) := by decide +kernel
theorem dX1_endEvent_58 : decode cX1_endEvent 58 = .ok (.istore_n 1, 1) := by decide +kernel
theorem dX1_endEvent_59 : decode cX1_endEvent 59 = .ok (.iinc 2 1, 3) := by decide +kernel
theorem dX1_endEvent_62 : decode cX1_endEvent 62 = .ok (.goto (-40), 3) := by decide +kernel
theorem dX1_endEvent_65 : decode cX1_endEvent 65 = .ok (.aload_n 0, 1) := by decide +kernel
theorem dX1_endEvent_66 : decode cX1_endEvent 66 = .ok (.iconst 3, 1) := by decide +kernel
theorem dX1_endEvent_67 : decode cX1_endEvent 67 = .ok (.putfield 16, 3) := by decide +kernel
theorem dX1_endEvent_70 : decode cX1_endEvent 70 = .ok (.aload_n 0, 1) := by decide +kernel
theorem dX1_endEvent_71 : decode cX1_endEvent 71 = .ok (.dup, 1) := by decide +kernel
theorem dX1_endEvent_72 : decode cX1_endEvent 72 = .ok (.getfield 158, 3) := by decide +kernel
theorem dX1_endEvent_75 : decode cX1_endEvent 75 = .ok (.iconst 1, 1) := by decide +kernel
theorem dX1_endEvent_76 : decode cX1_endEvent 76 = .ok (.iadd, 1) := by decide +kernel
theorem dX1_endEvent_77 : decode cX1_endEvent 77 = .ok (.putfield 158, 3) := by decide +kernel
theorem dX1_endEvent_80 : decode cX1_endEvent 80 = .ok (.iload_n 1, 1) := by decide +kernel
theorem dX1_endEvent_81 : decode cX1_endEvent 81 = .ok (.ireturn, 1) := by decide +kernel
theorem dX1_beginNextEvent_0 : decode cX1_beginNextEvent 0 = .ok (.aload_n 0, 1) := by decide +kernel
theorem dX1_beginNextEvent_1 : decode cX1_beginNextEvent 1 = .ok (.getfield 16, 3) := by decide +kernel
theorem dX1_beginNextEvent_4 : decode cX1_beginNextEvent 4 = .ok (.iconst 3, 1) := by decide +kernel
theorem dX1_beginNextEvent_5 : decode cX1_beginNextEvent 5 = .ok (.if_icmp .eq 6, 3) := by decide +kernel
theorem dX1_beginNextEvent_8 : decode cX1_beginNextEvent 8 = .ok (.ldc 22, 2) := by decide +kernel
theorem dX1_beginNextEvent_10 : decode cX1_beginNextEvent 10 = .ok (.ireturn, 1) := by decide +kernel
theorem dX1_beginNextEvent_11 : decode cX1_beginNextEvent 11 = .ok (.iconst 0, 1) := by decide +kernel
theorem dX1_beginNextEvent_12 : decode cX1_beginNextEvent 12 = .ok (.istore_n 1, 1) := by decide +kernel
theorem dX1_beginNextEvent_13 : decode cX1_beginNextEvent 13 = .ok (.iconst 0, 1) := by decide +kernel
theorem dX1_beginNextEvent_14 : decode cX1_beginNextEvent 14 = .ok (.istore_n 2, 1) := by decide +kernel
theorem dX1_beginNextEvent_15 : decode cX1_beginNextEvent 15 = .ok (.iload_n 2, 1) := by decide +kernel
theorem dX1_beginNextEvent_16 : decode cX1_beginNextEvent 16 = .ok (.aload_n 0, 1) := by decide +kernel
theorem dX1_beginNextEvent_17 : decode cX1_beginNextEvent 17 = .ok (.getfield 23, 3) := by decide +kernel
theorem dX1_beginNextEvent_20 : decode cX1_beginNextEvent 20 = .ok (.if_icmp .ge 44, 3) := by decide +kernel
theorem dX1_beginNextEvent_23 : decode cX1_beginNextEvent 23 = .ok (.aload_n 0, 1) := by decide +kernel
theorem dX1_beginNextEvent_24 : decode cX1_beginNextEvent 24 = .ok (.getfield 27, 3) := by decide +kernel
theorem dX1_beginNextEvent_27 : decode cX1_beginNextEvent 27 = .ok (.iload_n 2, 1) := by decide +kernel
theorem dX1_beginNextEvent_28 : decode cX1_beginNextEvent 28 = .ok (.aaload, 1) := by decide +kernel
theorem dX1_beginNextEvent_29 : decode cX1_beginNextEvent 29 = .ok (.astore_n 3, 1) := by decide +kernel
theorem dX1_beginNextEvent_30 : decode cX1_beginNextEvent 30 = .ok (.aload_n 3, 1) := by decide +kernel
theorem dX1_beginNextEvent_31 : decode cX1_beginNextEvent 31 = .ok (.invokevirtual 161, 3) := by decide +kernel
theorem dX1_beginNextEvent_34 : decode cX1_beginNextEvent 34 = .ok (.istore 4, 2) := by decide +kernel
theorem dX1_beginNextEvent_36 : decode cX1_beginNextEvent 36 = .ok (.iload 4, 2) := by decide +kernel
theorem dX1_beginNextEvent_38 : decode cX1_beginNextEvent 38 = .ok (.aload_n 3, 1) := by decide +kernel
theorem dX1_beginNextEvent_39 : decode cX1_beginNextEvent 39 = .ok (.getfield 164, 3) := by decide +kernel
theorem dX1_beginNextEvent_42 : decode cX1_beginNextEvent 42 = .ok (.if_icmp .eq 12, 3) := by decide +kernel
theorem dX1_beginNextEvent_45 : decode cX1_beginNextEvent 45 = .ok (.aload_n 3, 1) := by decide +kernel
theorem dX1_beginNextEvent_46 : decode cX1_beginNextEvent 46 = .ok (.iload 4, 2) := by decide +kernel
theorem dX1_beginNextEvent_48 : decode cX1_beginNextEvent 48 = .ok (.putfield 164, 3) := by decide +kernel
theorem dX1_beginNextEvent_51 : decode cX1_beginNextEvent 51 = .ok (.iinc 1 1, 3) := by decide +kernel
theorem dX1_beginNextEvent_54 : decode cX1_beginNextEvent 54 = .ok (.aload_n 3, 1) := by decide +kernel
theorem dX1_beginNextEvent_55 : decode cX1_beginNextEvent 55 = .ok (.invokevirtual 167, 3) := by decide +kernel
theorem dX1_beginNextEvent_58 : decode cX1_beginNextEvent 58 = .ok (.iinc 2 1, 3) := by decide +kernel
theorem dX1_beginNextEvent_61 : decode cX1_beginNextEvent 61 = .ok (.goto (-46), 3) := by decide +kernel
theorem dX1_beginNextEvent_64 : decode cX1_beginNextEvent 64 = .ok (.aload_n 0, 1) := by decide +kernel
theorem dX1_beginNextEvent_65 : decode cX1_beginNextEvent 65 = .ok (.iconst 0, 1) := by decide +kernel
theorem dX1_beginNextEvent_66 : decode cX1_beginNextEvent 66 = .ok (.putfield 87, 3) := by decide +kernel
theorem dX1_beginNextEvent_69 : decode cX1_beginNextEvent 69 = .ok (.aload_n 0, 1) := by decide +kernel
theorem dX1_beginNextEvent_70 : decode cX1_beginNextEvent 70 = .ok (.iconst 0, 1) := by decide +kernel
theorem dX1_beginNextEvent_71 : decode cX1_beginNextEvent 71 = .ok (.putfield 148, 3) := by decide +kernel
theorem dX1_beginNextEvent_74 : decode cX1_beginNextEvent 74 = .ok (.aload_n 0, 1) := by decide +kernel
theorem dX1_beginNextEvent_75 : decode cX1_beginNextEvent 75 = .ok (.iconst 0, 1) := by decide +kernel
theorem dX1_beginNextEvent_76 : decode cX1_beginNextEvent 76 = .ok (.putfield 16, 3) := by decide +kernel
theorem dX1_beginNextEvent_79 : decode cX1_beginNextEvent 79 = .ok (.iload_n 1, 1) := by decide +kernel
theorem dX1_beginNextEvent_80 : decode cX1_beginNextEvent 80 = .ok (.ireturn, 1) := by decide +kernel
theorem dX2_heatsFor_0 : decode cX2_heatsFor 0 = .ok (.iload_n 1, 1) := by decide +kernel
theorem dX2_heatsFor_1 : decode cX2_heatsFor 1 = .ok (.iconst 1, 1) := by decide +kernel
theorem dX2_heatsFor_2 : decode cX2_heatsFor 2 = .ok (.if_icmp .ge 7, 3) := by decide +kernel
theorem dX2_heatsFor_5 : decode cX2_heatsFor 5 = .ok (.iconst 0, 1) := by decide +kernel
theorem dX2_heatsFor_6 : decode cX2_heatsFor 6 = .ok (.goto 10, 3) := by decide +kernel
theorem dX2_heatsFor_9 : decode cX2_heatsFor 9 = .ok (.iload_n 0, 1) := by decide +kernel
theorem dX2_heatsFor_10 : decode cX2_heatsFor 10 = .ok (.iload_n 1, 1) := by decide +kernel
theorem dX2_heatsFor_11 : decode cX2_heatsFor 11 = .ok (.iadd, 1) := by decide +kernel
theorem dX2_heatsFor_12 : decode cX2_heatsFor 12 = .ok (.iconst 1, 1) := by decide +kernel
theorem dX2_heatsFor_13 : decode cX2_heatsFor 13 = .ok (.isub, 1) := by decide +kernel
theorem dX2_heatsFor_14 : decode cX2_heatsFor 14 = .ok (.iload_n 1, 1) := by decide +kernel
theorem dX2_heatsFor_15 : decode cX2_heatsFor 15 = .ok (.idiv, 1) := by decide +kernel
theorem dX2_heatsFor_16 : decode cX2_heatsFor 16 = .ok (.ireturn, 1) := by decide +kernel
theorem dX2_spread_0 : decode cX2_spread 0 = .ok (.iconst 0, 1) := by decide +kernel
theorem dX2_spread_1 : decode cX2_spread 1 = .ok (.istore_n 1, 1) := by decide +kernel
theorem dX2_spread_2 : decode cX2_spread 2 = .ok (.iload_n 1, 1) := by decide +kernel
theorem dX2_spread_3 : decode cX2_spread 3 = .ok (.aload_n 0, 1) := by decide +kernel
theorem dX2_spread_4 : decode cX2_spread 4 = .ok (.getfield 9, 3) := by decide +kernel
theorem dX2_spread_7 : decode cX2_spread 7 = .ok (.if_icmp .ge 43, 3) := by decide +kernel
theorem dX2_spread_10 : decode cX2_spread 10 = .ok (.aload_n 0, 1) := by decide +kernel
theorem dX2_spread_11 : decode cX2_spread 11 = .ok (.getfield 15, 3) := by decide +kernel
theorem dX2_spread_14 : decode cX2_spread 14 = .ok (.iload_n 1, 1) := by decide +kernel
theorem dX2_spread_15 : decode cX2_spread 15 = .ok (.aaload, 1) := by decide +kernel
theorem dX2_spread_16 : decode cX2_spread 16 = .ok (.astore_n 2, 1) := by decide +kernel
theorem dX2_spread_17 : decode cX2_spread 17 = .ok (.aload_n 2, 1) := by decide +kernel
theorem dX2_spread_18 : decode cX2_spread 18 = .ok (.getfield 19, 3) := by decide +kernel
theorem dX2_spread_21 : decode cX2_spread 21 = .ok (.ifCond .ne 23, 3) := by decide +kernel
theorem dX2_spread_24 : decode cX2_spread 24 = .ok (.aload_n 2, 1) := by decide +kernel
theorem dX2_spread_25 : decode cX2_spread 25 = .ok (.aload_n 0, 1) := by decide +kernel
theorem dX2_spread_26 : decode cX2_spread 26 = .ok (.aload_n 2, 1) := by decide +kernel
theorem dX2_spread_27 : decode cX2_spread 27 = .ok (.invokevirtual 25, 3) := by decide +kernel
theorem dX2_spread_30 : decode cX2_spread 30 = .ok (.aload_n 0, 1) := by decide +kernel
theorem dX2_spread_31 : decode cX2_spread 31 = .ok (.getfield 29, 3) := by decide +kernel
theorem dX2_spread_34 : decode cX2_spread 34 = .ok (.aload_n 0, 1) := by decide +kernel
theorem dX2_spread_35 : decode cX2_spread 35 = .ok (.invokevirtual 32, 3) := by decide +kernel
theorem dX2_spread_38 : decode cX2_spread 38 = .ok (.invokestatic 36, 3) := by decide +kernel
theorem dX2_spread_41 : decode cX2_spread 41 = .ok (.putfield 42, 3) := by decide +kernel
theorem dX2_spread_44 : decode cX2_spread 44 = .ok (.iinc 1 1, 3) := by decide +kernel
theorem dX2_spread_47 : decode cX2_spread 47 = .ok (.goto (-45), 3) := by decide +kernel
theorem dX2_spread_50 : decode cX2_spread 50 = .ok (.return_, 1) := by decide +kernel
theorem dX2_heatOfRank_0 : decode cX2_heatOfRank 0 = .ok (.iload_n 1, 1) := by decide +kernel
theorem dX2_heatOfRank_1 : decode cX2_heatOfRank 1 = .ok (.iconst 3, 1) := by decide +kernel
theorem dX2_heatOfRank_2 : decode cX2_heatOfRank 2 = .ok (.if_icmp .ge 20, 3) := by decide +kernel
theorem dX2_heatOfRank_5 : decode cX2_heatOfRank 5 = .ok (.iload_n 1, 1) := by decide +kernel
theorem dX2_heatOfRank_6 : decode cX2_heatOfRank 6 = .ok (.iconst 2, 1) := by decide +kernel
theorem dX2_heatOfRank_7 : decode cX2_heatOfRank 7 = .ok (.if_icmp .ne 13, 3) := by decide +kernel
theorem dX2_heatOfRank_10 : decode cX2_heatOfRank 10 = .ok (.iload_n 0, 1) := by decide +kernel
theorem dX2_heatOfRank_11 : decode cX2_heatOfRank 11 = .ok (.iconst 2, 1) := by decide +kernel
theorem dX2_heatOfRank_12 : decode cX2_heatOfRank 12 = .ok (.irem, 1) := by decide +kernel
theorem dX2_heatOfRank_13 : decode cX2_heatOfRank 13 = .ok (.ifCond .ne 7, 3) := by decide +kernel
theorem dX2_heatOfRank_16 : decode cX2_heatOfRank 16 = .ok (.iconst 1, 1) := by decide +kernel
theorem dX2_heatOfRank_17 : decode cX2_heatOfRank 17 = .ok (.goto 4, 3) := by decide +kernel
theorem dX2_heatOfRank_20 : decode cX2_heatOfRank 20 = .ok (.iconst 0, 1) := by decide +kernel
theorem dX2_heatOfRank_21 : decode cX2_heatOfRank 21 = .ok (.ireturn, 1) := by decide +kernel
theorem dX2_heatOfRank_22 : decode cX2_heatOfRank 22 = .ok (.iload_n 0, 1) := by decide +kernel
theorem dX2_heatOfRank_23 : decode cX2_heatOfRank 23 = .ok (.iconst 3, 1) := by decide +kernel
theorem dX2_heatOfRank_24 : decode cX2_heatOfRank 24 = .ok (.iload_n 2, 1) := by decide +kernel
theorem dX2_heatOfRank_25 : decode cX2_heatOfRank 25 = .ok (.imul, 1) := by decide +kernel
theorem dX2_heatOfRank_26 : decode cX2_heatOfRank 26 = .ok (.if_icmp .ge 11, 3) := by decide +kernel
theorem dX2_heatOfRank_29 : decode cX2_heatOfRank 29 = .ok (.iload_n 1, 1) := by decide +kernel
theorem dX2_heatOfRank_30 : decode cX2_heatOfRank 30 = .ok (.iconst 1, 1) := by decide +kernel
theorem dX2_heatOfRank_31 : decode cX2_heatOfRank 31 = .ok (.isub, 1) := by decide +kernel
theorem dX2_heatOfRank_32 : decode cX2_heatOfRank 32 = .ok (.iload_n 0, 1) := by decide +kernel
theorem dX2_heatOfRank_33 : decode cX2_heatOfRank 33 = .ok (.iconst 3, 1) := by decide +kernel
theorem dX2_heatOfRank_34 : decode cX2_heatOfRank 34 = .ok (.irem, 1) := by decide +kernel
theorem dX2_heatOfRank_35 : decode cX2_heatOfRank 35 = .ok (.isub, 1) := by decide +kernel
theorem dX2_heatOfRank_36 : decode cX2_heatOfRank 36 = .ok (.ireturn, 1) := by decide +kernel
theorem dX2_heatOfRank_37 : decode cX2_heatOfRank 37 = .ok (.iload_n 2, 1) := by decide +kernel
theorem dX2_heatOfRank_38 : decode cX2_heatOfRank 38 = .ok (.iconst 1, 1) := by decide +kernel
theorem dX2_heatOfRank_39 : decode cX2_heatOfRank 39 = .ok (.if_icmp .ge 7, 3) := by decide +kernel
theorem dX2_heatOfRank_42 : decode cX2_heatOfRank 42 = .ok (.iconst 0, 1) := by decide +kernel
theorem dX2_heatOfRank_43 : decode cX2_heatOfRank 43 = .ok (.goto 10, 3) := by decide +kernel
theorem dX2_heatOfRank_46 : decode cX2_heatOfRank 46 = .ok (.iload_n 1, 1) := by decide +kernel
theorem dX2_heatOfRank_47 : decode cX2_heatOfRank 47 = .ok (.iconst 1, 1) := by decide +kernel
theorem dX2_heatOfRank_48 : decode cX2_heatOfRank 48 = .ok (.isub, 1) := by decide +kernel
theorem dX2_heatOfRank_49 : decode cX2_heatOfRank 49 = .ok (.iload_n 0, 1) := by decide +kernel
theorem dX2_heatOfRank_50 : decode cX2_heatOfRank 50 = .ok (.iload_n 2, 1) := by decide +kernel
theorem dX2_heatOfRank_51 : decode cX2_heatOfRank 51 = .ok (.idiv, 1) := by decide +kernel
theorem dX2_heatOfRank_52 : decode cX2_heatOfRank 52 = .ok (.isub, 1) := by decide +kernel
theorem dX2_heatOfRank_53 : decode cX2_heatOfRank 53 = .ok (.ireturn, 1) := by decide +kernel
theorem dX2_fillFirstHeat_0 : decode cX2_fillFirstHeat 0 = .ok (.aload_n 0, 1) := by decide +kernel
theorem dX2_fillFirstHeat_1 : decode cX2_fillFirstHeat 1 = .ok (.getfield 29, 3) := by decide +kernel
theorem dX2_fillFirstHeat_4 : decode cX2_fillFirstHeat 4 = .ok (.iconst 4, 1) := by decide +kernel
theorem dX2_fillFirstHeat_5 : decode cX2_fillFirstHeat 5 = .ok (.if_icmp .ge 4, 3) := by decide +kernel
theorem dX2_fillFirstHeat_8 : decode cX2_fillFirstHeat 8 = .ok (.return_, 1) := by decide +kernel
theorem dX2_fillFirstHeat_9 : decode cX2_fillFirstHeat 9 = .ok (.aload_n 0, 1) := by decide +kernel
theorem dX2_fillFirstHeat_10 : decode cX2_fillFirstHeat 10 = .ok (.getfield 45, 3) := by decide +kernel
theorem dX2_fillFirstHeat_13 : decode cX2_fillFirstHeat 13 = .ok (.iconst 1, 1) := by decide +kernel
theorem dX2_fillFirstHeat_14 : decode cX2_fillFirstHeat 14 = .ok (.iaload, 1) := by decide +kernel
theorem dX2_fillFirstHeat_15 : decode cX2_fillFirstHeat 15 = .ok (.aload_n 0, 1) := by decide +kernel
theorem dX2_fillFirstHeat_16 : decode cX2_fillFirstHeat 16 = .ok (.iconst 0, 1) := by decide +kernel
theorem dX2_fillFirstHeat_17 : decode cX2_fillFirstHeat 17 = .ok (.invokestatic 49, 3) := by decide +kernel
theorem dX2_fillFirstHeat_20 : decode cX2_fillFirstHeat 20 = .ok (.isub, 1) := by decide +kernel
theorem dX2_fillFirstHeat_21 : decode cX2_fillFirstHeat 21 = .ok (.istore_n 1, 1) := by decide +kernel
theorem dX2_fillFirstHeat_22 : decode cX2_fillFirstHeat 22 = .ok (.iconst 0, 1) := by decide +kernel
theorem dX2_fillFirstHeat_23 : decode cX2_fillFirstHeat 23 = .ok (.istore_n 2, 1) := by decide +kernel
theorem dX2_fillFirstHeat_24 : decode cX2_fillFirstHeat 24 = .ok (.iload_n 2, 1) := by decide +kernel
theorem dX2_fillFirstHeat_25 : decode cX2_fillFirstHeat 25 = .ok (.iload_n 1, 1) := by decide +kernel
theorem dX2_fillFirstHeat_26 : decode cX2_fillFirstHeat 26 = .ok (.if_icmp .ge 33, 3) := by decide +kernel
theorem dX2_fillFirstHeat_29 : decode cX2_fillFirstHeat 29 = .ok (.aload_n 0, 1) := by decide +kernel
theorem dX2_fillFirstHeat_30 : decode cX2_fillFirstHeat 30 = .ok (.iconst 1, 1) := by decide +kernel
theorem dX2_fillFirstHeat_31 : decode cX2_fillFirstHeat 31 = .ok (.invokestatic 53, 3) := by decide +kernel
theorem dX2_fillFirstHeat_34 : decode cX2_fillFirstHeat 34 = .ok (.istore_n 3, 1) := by decide +kernel
theorem dX2_fillFirstHeat_35 : decode cX2_fillFirstHeat 35 = .ok (.aload_n 0, 1) := by decide +kernel
theorem dX2_fillFirstHeat_36 : decode cX2_fillFirstHeat 36 = .ok (.iload_n 3, 1) := by decide +kernel
theorem dX2_fillFirstHeat_37 : decode cX2_fillFirstHeat 37 = .ok (.invokevirtual 56, 3) := by decide +kernel
theorem dX2_fillFirstHeat_40 : decode cX2_fillFirstHeat 40 = .ok (.ifCond .eq 13, 3) := by decide +kernel
theorem dX2_fillFirstHeat_43 : decode cX2_fillFirstHeat 43 = .ok (.aload_n 0, 1) := by decide +kernel
theorem dX2_fillFirstHeat_44 : decode cX2_fillFirstHeat 44 = .ok (.getfield 15, 3) := by decide +kernel
theorem dX2_fillFirstHeat_47 : decode cX2_fillFirstHeat 47 = .ok (.iload_n 3, 1) := by decide +kernel
theorem dX2_fillFirstHeat_48 : decode cX2_fillFirstHeat 48 = .ok (.aaload, 1) := by decide +kernel
theorem dX2_fillFirstHeat_49 : decode cX2_fillFirstHeat 49 = .ok (.iconst 0, 1) := by decide +kernel
theorem dX2_fillFirstHeat_50 : decode cX2_fillFirstHeat 50 = .ok (.putfield 42, 3) := by decide +kernel
theorem dX2_fillFirstHeat_53 : decode cX2_fillFirstHeat 53 = .ok (.iinc 2 1, 3) := by decide +kernel
theorem dX2_fillFirstHeat_56 : decode cX2_fillFirstHeat 56 = .ok (.goto (-32), 3) := by decide +kernel
theorem dX2_fillFirstHeat_59 : decode cX2_fillFirstHeat 59 = .ok (.return_, 1) := by decide +kernel
theorem dX2_sizeOf_0 : decode cX2_sizeOf 0 = .ok (.iconst 0, 1) := by decide +kernel
theorem dX2_sizeOf_1 : decode cX2_sizeOf 1 = .ok (.istore_n 2, 1) := by decide +kernel
theorem dX2_sizeOf_2 : decode cX2_sizeOf 2 = .ok (.iconst 0, 1) := by decide +kernel
theorem dX2_sizeOf_3 : decode cX2_sizeOf 3 = .ok (.istore_n 3, 1) := by decide +kernel
theorem dX2_sizeOf_4 : decode cX2_sizeOf 4 = .ok (.iload_n 3, 1) := by decide +kernel
theorem dX2_sizeOf_5 : decode cX2_sizeOf 5 = .ok (.aload_n 0, 1) := by decide +kernel
theorem dX2_sizeOf_6 : decode cX2_sizeOf 6 = .ok (.getfield 9, 3) := by decide +kernel
theorem dX2_sizeOf_9 : decode cX2_sizeOf 9 = .ok (.if_icmp .ge 25, 3) := by decide +kernel
theorem dX2_sizeOf_12 : decode cX2_sizeOf 12 = .ok (.aload_n 0, 1) := by decide +kernel
theorem dX2_sizeOf_13 : decode cX2_sizeOf 13 = .ok (.getfield 15, 3) := by decide +kernel
theorem dX2_sizeOf_16 : decode cX2_sizeOf 16 = .ok (.iload_n 3, 1) := by decide +kernel
theorem dX2_sizeOf_17 : decode cX2_sizeOf 17 = .ok (.aaload, 1) := by decide +kernel
theorem dX2_sizeOf_18 : decode cX2_sizeOf 18 = .ok (.getfield 42, 3) := by decide +kernel
theorem dX2_sizeOf_21 : decode cX2_sizeOf 21 = .ok (.iload_n 1, 1) := by decide +kernel
theorem dX2_sizeOf_22 : decode cX2_sizeOf 22 = .ok (.if_icmp .ne 6, 3) := by decide +kernel
theorem dX2_sizeOf_25 : decode cX2_sizeOf 25 = .ok (.iinc 2 1, 3) := by decide +kernel
theorem dX2_sizeOf_28 : decode cX2_sizeOf 28 = .ok (.iinc 3 1, 3) := by decide +kernel
theorem dX2_sizeOf_31 : decode cX2_sizeOf 31 = .ok (.goto (-27), 3) := by decide +kernel
theorem dX2_sizeOf_34 : decode cX2_sizeOf 34 = .ok (.iload_n 2, 1) := by decide +kernel
theorem dX2_sizeOf_35 : decode cX2_sizeOf 35 = .ok (.ireturn, 1) := by decide +kernel
theorem dX2_lastOf_0 : decode cX2_lastOf 0 = .ok (.ldc 60, 2) := by decide +kernel
theorem dX2_lastOf_2 : decode cX2_lastOf 2 = .ok (.istore_n 2, 1) := by decide +kernel
theorem dX2_lastOf_3 : decode cX2_lastOf 3 = .ok (.iconst 0, 1) := by decide +kernel
theorem dX2_lastOf_4 : decode cX2_lastOf 4 = .ok (.istore_n 3, 1) := by decide +kernel
theorem dX2_lastOf_5 : decode cX2_lastOf 5 = .ok (.iload_n 3, 1) := by decide +kernel
theorem dX2_lastOf_6 : decode cX2_lastOf 6 = .ok (.aload_n 0, 1) := by decide +kernel
theorem dX2_lastOf_7 : decode cX2_lastOf 7 = .ok (.getfield 9, 3) := by decide +kernel
theorem dX2_lastOf_10 : decode cX2_lastOf 10 = .ok (.if_icmp .ge 50, 3) := by decide +kernel
theorem dX2_lastOf_13 : decode cX2_lastOf 13 = .ok (.aload_n 0, 1) := by decide +kernel
theorem dX2_lastOf_14 : decode cX2_lastOf 14 = .ok (.getfield 15, 3) := by decide +kernel
theorem dX2_lastOf_17 : decode cX2_lastOf 17 = .ok (.iload_n 3, 1) := by decide +kernel
theorem dX2_lastOf_18 : decode cX2_lastOf 18 = .ok (.aaload, 1) := by decide +kernel
theorem dX2_lastOf_19 : decode cX2_lastOf 19 = .ok (.getfield 42, 3) := by decide +kernel
theorem dX2_lastOf_22 : decode cX2_lastOf 22 = .ok (.iload_n 1, 1) := by decide +kernel
theorem dX2_lastOf_23 : decode cX2_lastOf 23 = .ok (.if_icmp .ne 31, 3) := by decide +kernel
theorem dX2_lastOf_26 : decode cX2_lastOf 26 = .ok (.aload_n 0, 1) := by decide +kernel
theorem dX2_lastOf_27 : decode cX2_lastOf 27 = .ok (.iload_n 2, 1) := by decide +kernel
theorem dX2_lastOf_28 : decode cX2_lastOf 28 = .ok (.invokevirtual 56, 3) := by decide +kernel
theorem dX2_lastOf_31 : decode cX2_lastOf 31 = .ok (.ifCond .eq 21, 3) := by decide +kernel
theorem dX2_lastOf_34 : decode cX2_lastOf 34 = .ok (.aload_n 0, 1) := by decide +kernel
theorem dX2_lastOf_35 : decode cX2_lastOf 35 = .ok (.getfield 15, 3) := by decide +kernel
theorem dX2_lastOf_38 : decode cX2_lastOf 38 = .ok (.iload_n 2, 1) := by decide +kernel
theorem dX2_lastOf_39 : decode cX2_lastOf 39 = .ok (.aaload, 1) := by decide +kernel
theorem dX2_lastOf_40 : decode cX2_lastOf 40 = .ok (.aload_n 0, 1) := by decide +kernel
theorem dX2_lastOf_41 : decode cX2_lastOf 41 = .ok (.getfield 15, 3) := by decide +kernel
theorem dX2_lastOf_44 : decode cX2_lastOf 44 = .ok (.iload_n 3, 1) := by decide +kernel
theorem dX2_lastOf_45 : decode cX2_lastOf 45 = .ok (.aaload, 1) := by decide +kernel
theorem dX2_lastOf_46 : decode cX2_lastOf 46 = .ok (.invokevirtual 61, 3) := by decide +kernel
theorem dX2_lastOf_49 : decode cX2_lastOf 49 = .ok (.ifCond .eq 5, 3) := by decide +kernel
theorem dX2_lastOf_52 : decode cX2_lastOf 52 = .ok (.iload_n 3, 1) := by decide +kernel
theorem dX2_lastOf_53 : decode cX2_lastOf 53 = .ok (.istore_n 2, 1) := by decide +kernel
theorem dX2_lastOf_54 : decode cX2_lastOf 54 = .ok (.iinc 3 1, 3) := by decide +kernel
theorem dX2_lastOf_57 : decode cX2_lastOf 57 = .ok (.goto (-52), 3) := by decide +kernel
theorem dX2_lastOf_60 : decode cX2_lastOf 60 = .ok (.iload_n 2, 1) := by decide +kernel
theorem dX2_lastOf_61 : decode cX2_lastOf 61 = .ok (.ireturn, 1) := by decide +kernel
theorem dX2_giveLanes_0 : decode cX2_giveLanes 0 = .ok (.iconst 0, 1) := by decide +kernel
theorem dX2_giveLanes_1 : decode cX2_giveLanes 1 = .ok (.istore_n 1, 1) := by decide +kernel
theorem dX2_giveLanes_2 : decode cX2_giveLanes 2 = .ok (.iload_n 1, 1) := by decide +kernel
theorem dX2_giveLanes_3 : decode cX2_giveLanes 3 = .ok (.aload_n 0, 1) := by decide +kernel
theorem dX2_giveLanes_4 : decode cX2_giveLanes 4 = .ok (.getfield 9, 3) := by decide +kernel
theorem dX2_giveLanes_7 : decode cX2_giveLanes 7 = .ok (.if_icmp .ge 39, 3) := by decide +kernel
theorem dX2_giveLanes_10 : decode cX2_giveLanes 10 = .ok (.aload_n 0, 1) := by decide +kernel
theorem dX2_giveLanes_11 : decode cX2_giveLanes 11 = .ok (.getfield 15, 3) := by decide +kernel
theorem dX2_giveLanes_14 : decode cX2_giveLanes 14 = .ok (.iload_n 1, 1) := by decide +kernel
theorem dX2_giveLanes_15 : decode cX2_giveLanes 15 = .ok (.aaload, 1) := by decide +kernel
theorem dX2_giveLanes_16 : decode cX2_giveLanes 16 = .ok (.astore_n 2, 1) := by decide +kernel
theorem dX2_giveLanes_17 : decode cX2_giveLanes 17 = .ok (.aload_n 2, 1) := by decide +kernel
theorem dX2_giveLanes_18 : decode cX2_giveLanes 18 = .ok (.getfield 19, 3) := by decide +kernel
theorem dX2_giveLanes_21 : decode cX2_giveLanes 21 = .ok (.ifCond .ne 19, 3) := by decide +kernel
theorem dX2_giveLanes_24 : decode cX2_giveLanes 24 = .ok (.aload_n 2, 1) := by decide +kernel
theorem dX2_giveLanes_25 : decode cX2_giveLanes 25 = .ok (.aload_n 0, 1) := by decide +kernel
theorem dX2_giveLanes_26 : decode cX2_giveLanes 26 = .ok (.aload_n 2, 1) := by decide +kernel
theorem dX2_giveLanes_27 : decode cX2_giveLanes 27 = .ok (.invokestatic 65, 3) := by decide +kernel
theorem dX2_giveLanes_30 : decode cX2_giveLanes 30 = .ok (.aload_n 0, 1) := by decide +kernel
theorem dX2_giveLanes_31 : decode cX2_giveLanes 31 = .ok (.invokevirtual 32, 3) := by decide +kernel
theorem dX2_giveLanes_34 : decode cX2_giveLanes 34 = .ok (.invokestatic 69, 3) := by decide +kernel
theorem dX2_giveLanes_37 : decode cX2_giveLanes 37 = .ok (.putfield 75, 3) := by decide +kernel
theorem dX2_giveLanes_40 : decode cX2_giveLanes 40 = .ok (.iinc 1 1, 3) := by decide +kernel
theorem dX2_giveLanes_43 : decode cX2_giveLanes 43 = .ok (.goto (-41), 3) := by decide +kernel
theorem dX2_giveLanes_46 : decode cX2_giveLanes 46 = .ok (.return_, 1) := by decide +kernel
theorem dX2_rankInHeat_0 : decode cX2_rankInHeat 0 = .ok (.iconst 0, 1) := by decide +kernel
theorem dX2_rankInHeat_1 : decode cX2_rankInHeat 1 = .ok (.istore_n 2, 1) := by decide +kernel
theorem dX2_rankInHeat_2 : decode cX2_rankInHeat 2 = .ok (.iconst 0, 1) := by decide +kernel
theorem dX2_rankInHeat_3 : decode cX2_rankInHeat 3 = .ok (.istore_n 3, 1) := by decide +kernel
theorem dX2_rankInHeat_4 : decode cX2_rankInHeat 4 = .ok (.iload_n 3, 1) := by decide +kernel
theorem dX2_rankInHeat_5 : decode cX2_rankInHeat 5 = .ok (.aload_n 0, 1) := by decide +kernel
theorem dX2_rankInHeat_6 : decode cX2_rankInHeat 6 = .ok (.getfield 9, 3) := by decide +kernel
theorem dX2_rankInHeat_9 : decode cX2_rankInHeat 9 = .ok (.if_icmp .ge 41, 3) := by decide +kernel
theorem dX2_rankInHeat_12 : decode cX2_rankInHeat 12 = .ok (.aload_n 0, 1) := by decide +kernel
theorem dX2_rankInHeat_13 : decode cX2_rankInHeat 13 = .ok (.getfield 15, 3) := by decide +kernel
theorem dX2_rankInHeat_16 : decode cX2_rankInHeat 16 = .ok (.iload_n 3, 1) := by decide +kernel
theorem dX2_rankInHeat_17 : decode cX2_rankInHeat 17 = .ok (.aaload, 1) := by decide +kernel
theorem dX2_rankInHeat_18 : decode cX2_rankInHeat 18 = .ok (.getfield 42, 3) := by decide +kernel
theorem dX2_rankInHeat_21 : decode cX2_rankInHeat 21 = .ok (.aload_n 1, 1) := by decide +kernel
theorem dX2_rankInHeat_22 : decode cX2_rankInHeat 22 = .ok (.getfield 42, 3) := by decide +kernel
theorem dX2_rankInHeat_25 : decode cX2_rankInHeat 25 = .ok (.if_icmp .ne 19, 3) := by decide +kernel
theorem dX2_rankInHeat_28 : decode cX2_rankInHeat 28 = .ok (.aload_n 0, 1) := by decide +kernel
theorem dX2_rankInHeat_29 : decode cX2_rankInHeat 29 = .ok (.getfield 15, 3) := by decide +kernel
theorem dX2_rankInHeat_32 : decode cX2_rankInHeat 32 = .ok (.iload_n 3, 1) := by decide +kernel
theorem dX2_rankInHeat_33 : decode cX2_rankInHeat 33 = .ok (.aaload, 1) := by decide +kernel
theorem dX2_rankInHeat_34 : decode cX2_rankInHeat 34 = .ok (.aload_n 1, 1) := by decide +kernel
theorem dX2_rankInHeat_35 : decode cX2_rankInHeat 35 = .ok (.invokevirtual 61, 3) := by decide +kernel
theorem dX2_rankInHeat_38 : decode cX2_rankInHeat 38 = .ok (.ifCond .eq 6, 3) := by decide +kernel
theorem dX2_rankInHeat_41 : decode cX2_rankInHeat 41 = .ok (.iinc 2 1, 3) := by decide +kernel
theorem dX2_rankInHeat_44 : decode cX2_rankInHeat 44 = .ok (.iinc 3 1, 3) := by decide +kernel
theorem dX2_rankInHeat_47 : decode cX2_rankInHeat 47 = .ok (.goto (-43), 3) := by decide +kernel
theorem dX2_rankInHeat_50 : decode cX2_rankInHeat 50 = .ok (.iload_n 2, 1) := by decide +kernel
theorem dX2_rankInHeat_51 : decode cX2_rankInHeat 51 = .ok (.ireturn, 1) := by decide +kernel
theorem dX3_init_0 : decode cX3_init 0 = .ok (.aload_n 0, 1) := by decide +kernel
theorem dX3_init_1 : decode cX3_init 1 = .ok (.invokespecial 3, 3) := by decide +kernel
theorem dX3_init_4 : decode cX3_init 4 = .ok (.aload_n 0, 1) := by decide +kernel
theorem dX3_init_5 : decode cX3_init 5 = .ok (.iconst 5, 1) := by decide +kernel
theorem dX3_init_6 : decode cX3_init 6 = .ok (.anewarray 9, 3) := by decide +kernel
theorem dX3_init_9 : decode cX3_init 9 = .ok (.putfield 11, 3) := by decide +kernel
theorem dX3_init_12 : decode cX3_init 12 = .ok (.iconst 0, 1) := by decide +kernel
theorem dX3_init_13 : decode cX3_init 13 = .ok (.istore_n 1, 1) := by decide +kernel
theorem dX3_init_14 : decode cX3_init 14 = .ok (.iload_n 1, 1) := by decide +kernel
theorem dX3_init_15 : decode cX3_init 15 = .ok (.iconst 4, 1) := by decide +kernel
theorem dX3_init_16 : decode cX3_init 16 = .ok (.if_icmp .gt 22, 3) := by decide +kernel
theorem dX3_init_19 : decode cX3_init 19 = .ok (.aload_n 0, 1) := by decide +kernel
theorem dX3_init_20 : decode cX3_init 20 = .ok (.getfield 11, 3) := by decide +kernel
theorem dX3_init_23 : decode cX3_init 23 = .ok (.iload_n 1, 1) := by decide +kernel
theorem dX3_init_24 : decode cX3_init 24 = .ok (.new 9, 3) := by decide +kernel
theorem dX3_init_27 : decode cX3_init 27 = .ok (.dup, 1) := by decide +kernel
theorem dX3_init_28 : decode cX3_init 28 = .ok (.invokespecial 17, 3) := by decide +kernel
theorem dX3_init_31 : decode cX3_init 31 = .ok (.aastore, 1) := by decide +kernel
theorem dX3_init_32 : decode cX3_init 32 = .ok (.iinc 1 1, 3) := by decide +kernel
theorem dX3_init_35 : decode cX3_init 35 = .ok (.goto (-21), 3) := by decide +kernel
theorem dX3_init_38 : decode cX3_init 38 = .ok (.return_, 1) := by decide +kernel
theorem dX3_prepare_0 : decode cX3_prepare 0 = .ok (.aload_n 0, 1) := by decide +kernel
theorem dX3_prepare_1 : decode cX3_prepare 1 = .ok (.getfield 18, 3) := by decide +kernel
theorem dX3_prepare_4 : decode cX3_prepare 4 = .ok (.ifCond .lt 24, 3) := by decide +kernel
theorem dX3_prepare_7 : decode cX3_prepare 7 = .ok (.aload_n 0, 1) := by decide +kernel
theorem dX3_prepare_8 : decode cX3_prepare 8 = .ok (.getfield 18, 3) := by decide +kernel
theorem dX3_prepare_11 : decode cX3_prepare 11 = .ok (.iconst 4, 1) := by decide +kernel
theorem dX3_prepare_12 : decode cX3_prepare 12 = .ok (.if_icmp .gt 16, 3) := by decide +kernel
theorem dX3_prepare_15 : decode cX3_prepare 15 = .ok (.aload_n 0, 1) := by decide +kernel
theorem dX3_prepare_16 : decode cX3_prepare 16 = .ok (.getfield 11, 3) := by decide +kernel
theorem dX3_prepare_19 : decode cX3_prepare 19 = .ok (.aload_n 0, 1) := by decide +kernel
theorem dX3_prepare_20 : decode cX3_prepare 20 = .ok (.getfield 18, 3) := by decide +kernel
theorem dX3_prepare_23 : decode cX3_prepare 23 = .ok (.aaload, 1) := by decide +kernel
theorem dX3_prepare_24 : decode cX3_prepare 24 = .ok (.aload_n 1, 1) := by decide +kernel
theorem dX3_prepare_25 : decode cX3_prepare 25 = .ok (.invokevirtual 22, 3) := by decide +kernel
theorem dX3_prepare_28 : decode cX3_prepare 28 = .ok (.return_, 1) := by decide +kernel
theorem dX3_keepUnlessError_0 : decode cX3_keepUnlessError 0 = .ok (.iload_n 1, 1) := by decide +kernel
theorem dX3_keepUnlessError_1 : decode cX3_keepUnlessError 1 = .ok (.ifCond .lt 25, 3) := by decide +kernel
theorem dX3_keepUnlessError_4 : decode cX3_keepUnlessError 4 = .ok (.aload_n 0, 1) := by decide +kernel
theorem dX3_keepUnlessError_5 : decode cX3_keepUnlessError 5 = .ok (.dup, 1) := by decide +kernel
theorem dX3_keepUnlessError_6 : decode cX3_keepUnlessError 6 = .ok (.getfield 18, 3) := by decide +kernel
theorem dX3_keepUnlessError_9 : decode cX3_keepUnlessError 9 = .ok (.iconst 1, 1) := by decide +kernel
theorem dX3_keepUnlessError_10 : decode cX3_keepUnlessError 10 = .ok (.iadd, 1) := by decide +kernel
theorem dX3_keepUnlessError_11 : decode cX3_keepUnlessError 11 = .ok (.putfield 18, 3) := by decide +kernel
theorem dX3_keepUnlessError_14 : decode cX3_keepUnlessError 14 = .ok (.aload_n 0, 1) := by decide +kernel
theorem dX3_keepUnlessError_15 : decode cX3_keepUnlessError 15 = .ok (.getfield 18, 3) := by decide +kernel
theorem dX3_keepUnlessError_18 : decode cX3_keepUnlessError 18 = .ok (.iconst 4, 1) := by decide +kernel
theorem dX3_keepUnlessError_19 : decode cX3_keepUnlessError 19 = .ok (.if_icmp .le 7, 3) := by decide +kernel
theorem dX3_keepUnlessError_22 : decode cX3_keepUnlessError 22 = .ok (.aload_n 0, 1) := by decide +kernel
theorem dX3_keepUnlessError_23 : decode cX3_keepUnlessError 23 = .ok (.invokevirtual 26, 3) := by decide +kernel
theorem dX3_keepUnlessError_26 : decode cX3_keepUnlessError 26 = .ok (.iload_n 1, 1) := by decide +kernel
theorem dX3_keepUnlessError_27 : decode cX3_keepUnlessError 27 = .ok (.ireturn, 1) := by decide +kernel
theorem dX3_dropOldest_0 : decode cX3_dropOldest 0 = .ok (.aload_n 0, 1) := by decide +kernel
theorem dX3_dropOldest_1 : decode cX3_dropOldest 1 = .ok (.getfield 11, 3) := by decide +kernel
theorem dX3_dropOldest_4 : decode cX3_dropOldest 4 = .ok (.iconst 0, 1) := by decide +kernel
theorem dX3_dropOldest_5 : decode cX3_dropOldest 5 = .ok (.aaload, 1) := by decide +kernel
theorem dX3_dropOldest_6 : decode cX3_dropOldest 6 = .ok (.astore_n 1, 1) := by decide +kernel
theorem dX3_dropOldest_7 : decode cX3_dropOldest 7 = .ok (.iconst 0, 1) := by decide +kernel
theorem dX3_dropOldest_8 : decode cX3_dropOldest 8 = .ok (.istore_n 2, 1) := by decide +kernel
theorem dX3_dropOldest_9 : decode cX3_dropOldest 9 = .ok (.iload_n 2, 1) := by decide +kernel
theorem dX3_dropOldest_10 : decode cX3_dropOldest 10 = .ok (.iconst 4, 1) := by decide +kernel
theorem dX3_dropOldest_11 : decode cX3_dropOldest 11 = .ok (.if_icmp .ge 23, 3) := by decide +kernel
theorem dX3_dropOldest_14 : decode cX3_dropOldest 14 = .ok (.aload_n 0, 1) := by decide +kernel
theorem dX3_dropOldest_15 : decode cX3_dropOldest 15 = .ok (.getfield 11, 3) := by decide +kernel
theorem dX3_dropOldest_18 : decode cX3_dropOldest 18 = .ok (.iload_n 2, 1) := by decide +kernel
theorem dX3_dropOldest_19 : decode cX3_dropOldest 19 = .ok (.aload_n 0, 1) := by decide +kernel
theorem dX3_dropOldest_20 : decode cX3_dropOldest 20 = .ok (.getfield 11, 3) := by decide +kernel
theorem dX3_dropOldest_23 : decode cX3_dropOldest 23 = .ok (.iload_n 2, 1) := by decide +kernel
theorem dX3_dropOldest_24 : decode cX3_dropOldest 24 = .ok (.iconst 1, 1) := by decide +kernel
theorem dX3_dropOldest_25 : decode cX3_dropOldest 25 = .ok (.iadd, 1) := by decide +kernel
theorem dX3_dropOldest_26 : decode cX3_dropOldest 26 = .ok (.aaload, 1) := by decide +kernel
theorem dX3_dropOldest_27 : decode cX3_dropOldest 27 = .ok (.aastore, 1) := by decide +kernel
theorem dX3_dropOldest_28 : decode cX3_dropOldest 28 = .ok (.iinc 2 1, 3) := by decide +kernel
theorem dX3_dropOldest_31 : decode cX3_dropOldest 31 = .ok (.goto (-22), 3) := by decide +kernel
theorem dX3_dropOldest_34 : decode cX3_dropOldest 34 = .ok (.aload_n 0, 1) := by decide +kernel
theorem dX3_dropOldest_35 : decode cX3_dropOldest 35 = .ok (.getfield 11, 3) := by decide +kernel
theorem dX3_dropOldest_38 : decode cX3_dropOldest 38 = .ok (.iconst 4, 1) := by decide +kernel
theorem dX3_dropOldest_39 : decode cX3_dropOldest 39 = .ok (.aload_n 1, 1) := by decide +kernel
theorem dX3_dropOldest_40 : decode cX3_dropOldest 40 = .ok (.aastore, 1) := by decide +kernel
theorem dX3_dropOldest_41 : decode cX3_dropOldest 41 = .ok (.aload_n 0, 1) := by decide +kernel
theorem dX3_dropOldest_42 : decode cX3_dropOldest 42 = .ok (.iconst 4, 1) := by decide +kernel
theorem dX3_dropOldest_43 : decode cX3_dropOldest 43 = .ok (.putfield 18, 3) := by decide +kernel
theorem dX3_dropOldest_46 : decode cX3_dropOldest 46 = .ok (.return_, 1) := by decide +kernel
theorem dX4_ofRank_0 : decode cX4_ofRank 0 = .ok (.iload_n 1, 1) := by decide +kernel
theorem dX4_ofRank_1 : decode cX4_ofRank 1 = .ok (.iconst 1, 1) := by decide +kernel
theorem dX4_ofRank_2 : decode cX4_ofRank 2 = .ok (.iadd, 1) := by decide +kernel
theorem dX4_ofRank_3 : decode cX4_ofRank 3 = .ok (.iconst 2, 1) := by decide +kernel
theorem dX4_ofRank_4 : decode cX4_ofRank 4 = .ok (.idiv, 1) := by decide +kernel
theorem dX4_ofRank_5 : decode cX4_ofRank 5 = .ok (.istore_n 2, 1) := by decide +kernel
theorem dX4_ofRank_6 : decode cX4_ofRank 6 = .ok (.iload_n 0, 1) := by decide +kernel
theorem dX4_ofRank_7 : decode cX4_ofRank 7 = .ok (.iconst 2, 1) := by decide +kernel
theorem dX4_ofRank_8 : decode cX4_ofRank 8 = .ok (.irem, 1) := by decide +kernel
theorem dX4_ofRank_9 : decode cX4_ofRank 9 = .ok (.iconst 1, 1) := by decide +kernel
theorem dX4_ofRank_10 : decode cX4_ofRank 10 = .ok (.if_icmp .ne 13, 3) := by decide +kernel
theorem dX4_ofRank_13 : decode cX4_ofRank 13 = .ok (.iload_n 2, 1) := by decide +kernel
theorem dX4_ofRank_14 : decode cX4_ofRank 14 = .ok (.iload_n 0, 1) := by decide +kernel
theorem dX4_ofRank_15 : decode cX4_ofRank 15 = .ok (.iconst 1, 1) := by decide +kernel
theorem dX4_ofRank_16 : decode cX4_ofRank 16 = .ok (.iadd, 1) := by decide +kernel
theorem dX4_ofRank_17 : decode cX4_ofRank 17 = .ok (.iconst 2, 1) := by decide +kernel
theorem dX4_ofRank_18 : decode cX4_ofRank 18 = .ok (.idiv, 1) := by decide +kernel
theorem dX4_ofRank_19 : decode cX4_ofRank 19 = .ok (.iadd, 1) := by decide +kernel
theorem dX4_ofRank_20 : decode cX4_ofRank 20 = .ok (.goto 8, 3) := by decide +kernel
theorem dX4_ofRank_23 : decode cX4_ofRank 23 = .ok (.iload_n 2, 1) := by decide +kernel
theorem dX4_ofRank_24 : decode cX4_ofRank 24 = .ok (.iload_n 0, 1) := by decide +kernel
theorem dX4_ofRank_25 : decode cX4_ofRank 25 = .ok (.iconst 2, 1) := by decide +kernel
theorem dX4_ofRank_26 : decode cX4_ofRank 26 = .ok (.idiv, 1) := by decide +kernel
theorem dX4_ofRank_27 : decode cX4_ofRank 27 = .ok (.isub, 1) := by decide +kernel
theorem dX4_ofRank_28 : decode cX4_ofRank 28 = .ok (.ireturn, 1) := by decide +kernel
theorem dX5_init_0 : decode cX5_init 0 = .ok (.aload_n 0, 1) := by decide +kernel
theorem dX5_init_1 : decode cX5_init 1 = .ok (.invokespecial 3, 3) := by decide +kernel
theorem dX5_init_4 : decode cX5_init 4 = .ok (.aload_n 0, 1) := by decide +kernel
theorem dX5_init_5 : decode cX5_init 5 = .ok (.iconst 3, 1) := by decide +kernel
theorem dX5_init_6 : decode cX5_init 6 = .ok (.newarray .int, 2) := by decide +kernel
theorem dX5_init_8 : decode cX5_init 8 = .ok (.putfield 9, 3) := by decide +kernel
theorem dX5_init_11 : decode cX5_init 11 = .ok (.aload_n 0, 1) := by decide +kernel
theorem dX5_init_12 : decode cX5_init 12 = .ok (.bipush 30, 2) := by decide +kernel
theorem dX5_init_14 : decode cX5_init 14 = .ok (.anewarray 15, 3) := by decide +kernel
theorem dX5_init_17 : decode cX5_init 17 = .ok (.putfield 17, 3) := by decide +kernel
theorem dX5_init_20 : decode cX5_init 20 = .ok (.aload_n 0, 1) := by decide +kernel
theorem dX5_init_21 : decode cX5_init 21 = .ok (.iconst 4, 1) := by decide +kernel
theorem dX5_init_22 : decode cX5_init 22 = .ok (.newarray .int, 2) := by decide +kernel
theorem dX5_init_24 : decode cX5_init 24 = .ok (.putfield 21, 3) := by decide +kernel
theorem dX5_init_27 : decode cX5_init 27 = .ok (.iconst 0, 1) := by decide +kernel
theorem dX5_init_28 : decode cX5_init 28 = .ok (.istore_n 1, 1) := by decide +kernel
theorem dX5_init_29 : decode cX5_init 29 = .ok (.iload_n 1, 1) := by decide +kernel
theorem dX5_init_30 : decode cX5_init 30 = .ok (.iconst 3, 1) := by decide +kernel
theorem dX5_init_31 : decode cX5_init 31 = .ok (.if_icmp .ge 20, 3) := by decide +kernel
theorem dX5_init_34 : decode cX5_init 34 = .ok (.aload_n 0, 1) := by decide +kernel
theorem dX5_init_35 : decode cX5_init 35 = .ok (.getfield 9, 3) := by decide +kernel
theorem dX5_init_38 : decode cX5_init 38 = .ok (.iload_n 1, 1) := by decide +kernel
theorem dX5_init_39 : decode cX5_init 39 = .ok (.getstatic 24, 3) := by decide +kernel
theorem dX5_init_42 : decode cX5_init 42 = .ok (.iload_n 1, 1) := by decide +kernel
theorem dX5_init_43 : decode cX5_init 43 = .ok (.iaload, 1) := by decide +kernel
theorem dX5_init_44 : decode cX5_init 44 = .ok (.iastore, 1) := by decide +kernel
theorem dX5_init_45 : decode cX5_init 45 = .ok (.iinc 1 1, 3) := by decide +kernel
theorem dX5_init_48 : decode cX5_init 48 = .ok (.goto (-19), 3) := by decide +kernel
theorem dX5_init_51 : decode cX5_init 51 = .ok (.iconst 0, 1) := by decide +kernel
theorem dX5_init_52 : decode cX5_init 52 = .ok (.istore_n 1, 1) := by decide +kernel
theorem dX5_init_53 : decode cX5_init 53 = .ok (.iload_n 1, 1) := by decide +kernel
theorem dX5_init_54 : decode cX5_init 54 = .ok (.bipush 30, 2) := by decide +kernel
theorem dX5_init_56 : decode cX5_init 56 = .ok (.if_icmp .ge 23, 3) := by decide +kernel
theorem dX5_init_59 : decode cX5_init 59 = .ok (.aload_n 0, 1) := by decide +kernel
theorem dX5_init_60 : decode cX5_init 60 = .ok (.getfield 17, 3) := by decide +kernel
theorem dX5_init_63 : decode cX5_init 63 = .ok (.iload_n 1, 1) := by decide +kernel
theorem dX5_init_64 : decode cX5_init 64 = .ok (.new 15, 3) := by decide +kernel
theorem dX5_init_67 : decode cX5_init 67 = .ok (.dup, 1) := by decide +kernel
theorem dX5_init_68 : decode cX5_init 68 = .ok (.iload_n 1, 1) := by decide +kernel
theorem dX5_init_69 : decode cX5_init 69 = .ok (.invokespecial 29, 3) := by decide +kernel
theorem dX5_init_72 : decode cX5_init 72 = .ok (.aastore, 1) := by decide +kernel
theorem dX5_init_73 : decode cX5_init 73 = .ok (.iinc 1 1, 3) := by decide +kernel
theorem dX5_init_76 : decode cX5_init 76 = .ok (.goto (-23), 3) := by decide +kernel
theorem dX5_init_79 : decode cX5_init 79 = .ok (.return_, 1) := by decide +kernel
theorem dX5_copyFrom_0 : decode cX5_copyFrom 0 = .ok (.aload_n 0, 1) := by decide +kernel
theorem dX5_copyFrom_1 : decode cX5_copyFrom 1 = .ok (.aload_n 1, 1) := by decide +kernel
theorem dX5_copyFrom_2 : decode cX5_copyFrom 2 = .ok (.getfield 32, 3) := by decide +kernel
theorem dX5_copyFrom_5 : decode cX5_copyFrom 5 = .ok (.putfield 32, 3) := by decide +kernel
theorem dX5_copyFrom_8 : decode cX5_copyFrom 8 = .ok (.aload_n 0, 1) := by decide +kernel
theorem dX5_copyFrom_9 : decode cX5_copyFrom 9 = .ok (.aload_n 1, 1) := by decide +kernel
theorem dX5_copyFrom_10 : decode cX5_copyFrom 10 = .ok (.getfield 36, 3) := by decide +kernel
theorem dX5_copyFrom_13 : decode cX5_copyFrom 13 = .ok (.putfield 36, 3) := by decide +kernel
theorem dX5_copyFrom_16 : decode cX5_copyFrom 16 = .ok (.aload_n 0, 1) := by decide +kernel
theorem dX5_copyFrom_17 : decode cX5_copyFrom 17 = .ok (.aload_n 1, 1) := by decide +kernel
theorem dX5_copyFrom_18 : decode cX5_copyFrom 18 = .ok (.getfield 39, 3) := by decide +kernel
theorem dX5_copyFrom_21 : decode cX5_copyFrom 21 = .ok (.putfield 39, 3) := by decide +kernel
theorem dX5_copyFrom_24 : decode cX5_copyFrom 24 = .ok (.aload_n 0, 1) := by decide +kernel
theorem dX5_copyFrom_25 : decode cX5_copyFrom 25 = .ok (.aload_n 1, 1) := by decide +kernel
theorem dX5_copyFrom_26 : decode cX5_copyFrom 26 = .ok (.getfield 42, 3) := by decide +kernel
theorem dX5_copyFrom_29 : decode cX5_copyFrom 29 = .ok (.putfield 42, 3) := by decide +kernel
theorem dX5_copyFrom_32 : decode cX5_copyFrom 32 = .ok (.aload_n 0, 1) := by decide +kernel
theorem dX5_copyFrom_33 : decode cX5_copyFrom 33 = .ok (.aload_n 1, 1) := by decide +kernel
theorem dX5_copyFrom_34 : decode cX5_copyFrom 34 = .ok (.getfield 45, 3) := by decide +kernel
theorem dX5_copyFrom_37 : decode cX5_copyFrom 37 = .ok (.putfield 45, 3) := by decide +kernel
theorem dX5_copyFrom_40 : decode cX5_copyFrom 40 = .ok (.aload_n 0, 1) := by decide +kernel
theorem dX5_copyFrom_41 : decode cX5_copyFrom 41 = .ok (.aload_n 1, 1) := by decide +kernel
theorem dX5_copyFrom_42 : decode cX5_copyFrom 42 = .ok (.getfield 48, 3) := by decide +kernel
theorem dX5_copyFrom_45 : decode cX5_copyFrom 45 = .ok (.putfield 48, 3) := by decide +kernel
theorem dX5_copyFrom_48 : decode cX5_copyFrom 48 = .ok (.aload_n 0, 1) := by decide +kernel
theorem dX5_copyFrom_49 : decode cX5_copyFrom 49 = .ok (.aload_n 1, 1) := by decide +kernel
theorem dX5_copyFrom_50 : decode cX5_copyFrom 50 = .ok (.getfield 51, 3) := by decide +kernel
theorem dX5_copyFrom_53 : decode cX5_copyFrom 53 = .ok (.putfield 51, 3) := by decide +kernel
theorem dX5_copyFrom_56 : decode cX5_copyFrom 56 = .ok (.aload_n 0, 1) := by decide +kernel
theorem dX5_copyFrom_57 : decode cX5_copyFrom 57 = .ok (.aload_n 1, 1) := by decide +kernel
theorem dX5_copyFrom_58 : decode cX5_copyFrom 58 = .ok (.getfield 54, 3) := by decide +kernel
theorem dX5_copyFrom_61 : decode cX5_copyFrom 61 = .ok (.putfield 54, 3) := by decide +kernel
theorem dX5_copyFrom_64 : decode cX5_copyFrom 64 = .ok (.iconst 0, 1) := by decide +kernel
theorem dX5_copyFrom_65 : decode cX5_copyFrom 65 = .ok (.istore_n 2, 1) := by decide +kernel
theorem dX5_copyFrom_66 : decode cX5_copyFrom 66 = .ok (.iload_n 2, 1) := by decide +kernel
theorem dX5_copyFrom_67 : decode cX5_copyFrom 67 = .ok (.iconst 3, 1) := by decide +kernel
theorem dX5_copyFrom_68 : decode cX5_copyFrom 68 = .ok (.if_icmp .ge 21, 3) := by decide +kernel
theorem dX5_copyFrom_71 : decode cX5_copyFrom 71 = .ok (.aload_n 0, 1) := by decide +kernel
theorem dX5_copyFrom_72 : decode cX5_copyFrom 72 = .ok (.getfield 9, 3) := by decide +kernel
theorem dX5_copyFrom_75 : decode cX5_copyFrom 75 = .ok (.iload_n 2, 1) := by decide +kernel
theorem dX5_copyFrom_76 : decode cX5_copyFrom 76 = .ok (.aload_n 1, 1) := by decide +kernel
theorem dX5_copyFrom_77 : decode cX5_copyFrom 77 = .ok (.getfield 9, 3) := by decide +kernel
theorem dX5_copyFrom_80 : decode cX5_copyFrom 80 = .ok (.iload_n 2, 1) := by decide +kernel
theorem dX5_copyFrom_81 : decode cX5_copyFrom 81 = .ok (.iaload, 1) := by decide +kernel
theorem dX5_copyFrom_82 : decode cX5_copyFrom 82 = .ok (.iastore, 1) := by decide +kernel
theorem dX5_copyFrom_83 : decode cX5_copyFrom 83 = .ok (.iinc 2 1, 3) := by decide +kernel
theorem dX5_copyFrom_86 : decode cX5_copyFrom 86 = .ok (.goto (-20), 3) := by decide +kernel
theorem dX5_copyFrom_89 : decode cX5_copyFrom 89 = .ok (.iconst 0, 1) := by decide +kernel
theorem dX5_copyFrom_90 : decode cX5_copyFrom 90 = .ok (.istore_n 2, 1) := by decide +kernel
theorem dX5_copyFrom_91 : decode cX5_copyFrom 91 = .ok (.iload_n 2, 1) := by decide +kernel
theorem dX5_copyFrom_92 : decode cX5_copyFrom 92 = .ok (.iconst 4, 1) := by decide +kernel
theorem dX5_copyFrom_93 : decode cX5_copyFrom 93 = .ok (.if_icmp .ge 21, 3) := by decide +kernel
theorem dX5_copyFrom_96 : decode cX5_copyFrom 96 = .ok (.aload_n 0, 1) := by decide +kernel
theorem dX5_copyFrom_97 : decode cX5_copyFrom 97 = .ok (.getfield 21, 3) := by decide +kernel
theorem dX5_copyFrom_100 : decode cX5_copyFrom 100 = .ok (.iload_n 2, 1) := by decide +kernel
theorem dX5_copyFrom_101 : decode cX5_copyFrom 101 = .ok (.aload_n 1, 1) := by decide +kernel
theorem dX5_copyFrom_102 : decode cX5_copyFrom 102 = .ok (.getfield 21, 3) := by decide +kernel
theorem dX5_copyFrom_105 : decode cX5_copyFrom 105 = .ok (.iload_n 2, 1) := by decide +kernel
theorem dX5_copyFrom_106 : decode cX5_copyFrom 106 = .ok (.iaload, 1) := by decide +kernel
theorem dX5_copyFrom_107 : decode cX5_copyFrom 107 = .ok (.iastore, 1) := by decide +kernel
theorem dX5_copyFrom_108 : decode cX5_copyFrom 108 = .ok (.iinc 2 1, 3) := by decide +kernel
theorem dX5_copyFrom_111 : decode cX5_copyFrom 111 = .ok (.goto (-20), 3) := by decide +kernel
theorem dX5_copyFrom_114 : decode cX5_copyFrom 114 = .ok (.iconst 0, 1) := by decide +kernel
theorem dX5_copyFrom_115 : decode cX5_copyFrom 115 = .ok (.istore_n 2, 1) := by decide +kernel
theorem dX5_copyFrom_116 : decode cX5_copyFrom 116 = .ok (.iload_n 2, 1) := by decide +kernel
theorem dX5_copyFrom_117 : decode cX5_copyFrom 117 = .ok (.aload_n 0, 1) := by decide +kernel
theorem dX5_copyFrom_118 : decode cX5_copyFrom 118 = .ok (.getfield 32, 3) := by decide +kernel
theorem dX5_copyFrom_121 : decode cX5_copyFrom 121 = .ok (.if_icmp .ge 24, 3) := by decide +kernel
theorem dX5_copyFrom_124 : decode cX5_copyFrom 124 = .ok (.aload_n 0, 1) := by decide +kernel
theorem dX5_copyFrom_125 : decode cX5_copyFrom 125 = .ok (.getfield 17, 3) := by decide +kernel
theorem dX5_copyFrom_128 : decode cX5_copyFrom 128 = .ok (.iload_n 2, 1) := by decide +kernel
theorem dX5_copyFrom_129 : decode cX5_copyFrom 129 = .ok (.aaload, 1) := by decide +kernel
theorem dX5_copyFrom_130 : decode cX5_copyFrom 130 = .ok (.aload_n 1, 1) := by decide +kernel
theorem dX5_copyFrom_131 : decode cX5_copyFrom 131 = .ok (.getfield 17, 3) := by decide +kernel
theorem dX5_copyFrom_134 : decode cX5_copyFrom 134 = .ok (.iload_n 2, 1) := by decide +kernel
theorem dX5_copyFrom_135 : decode cX5_copyFrom 135 = .ok (.aaload, 1) := by decide +kernel
theorem dX5_copyFrom_136 : decode cX5_copyFrom 136 = .ok (.invokevirtual 57, 3) := by decide +kernel
theorem dX5_copyFrom_139 : decode cX5_copyFrom 139 = .ok (.iinc 2 1, 3) := by decide +kernel
theorem dX5_copyFrom_142 : decode cX5_copyFrom 142 = .ok (.goto (-26), 3) := by decide +kernel
theorem dX5_copyFrom_145 : decode cX5_copyFrom 145 = .ok (.return_, 1) := by decide +kernel
theorem dX5_lanes_0 : decode cX5_lanes 0 = .ok (.aload_n 0, 1) := by decide +kernel
theorem dX5_lanes_1 : decode cX5_lanes 1 = .ok (.getfield 9, 3) := by decide +kernel
theorem dX5_lanes_4 : decode cX5_lanes 4 = .ok (.iconst 0, 1) := by decide +kernel
theorem dX5_lanes_5 : decode cX5_lanes 5 = .ok (.iaload, 1) := by decide +kernel
theorem dX5_lanes_6 : decode cX5_lanes 6 = .ok (.ireturn, 1) := by decide +kernel
theorem dX5_has_0 : decode cX5_has 0 = .ok (.iload_n 1, 1) := by decide +kernel
theorem dX5_has_1 : decode cX5_has 1 = .ok (.ifCond .lt 15, 3) := by decide +kernel
theorem dX5_has_4 : decode cX5_has 4 = .ok (.iload_n 1, 1) := by decide +kernel
theorem dX5_has_5 : decode cX5_has 5 = .ok (.aload_n 0, 1) := by decide +kernel
theorem dX5_has_6 : decode cX5_has 6 = .ok (.getfield 32, 3) := by decide +kernel
theorem dX5_has_9 : decode cX5_has 9 = .ok (.if_icmp .ge 7, 3) := by decide +kernel
theorem dX5_has_12 : decode cX5_has 12 = .ok (.iconst 1, 1) := by decide +kernel
theorem dX5_has_13 : decode cX5_has 13 = .ok (.goto 4, 3) := by decide +kernel
theorem dX5_has_16 : decode cX5_has 16 = .ok (.iconst 0, 1) := by decide +kernel
theorem dX5_has_17 : decode cX5_has 17 = .ok (.ireturn, 1) := by decide +kernel
theorem dX5_notScratched_0 : decode cX5_notScratched 0 = .ok (.iconst 0, 1) := by decide +kernel
theorem dX5_notScratched_1 : decode cX5_notScratched 1 = .ok (.istore_n 1, 1) := by decide +kernel
theorem dX5_notScratched_2 : decode cX5_notScratched 2 = .ok (.iconst 0, 1) := by decide +kernel
theorem dX5_notScratched_3 : decode cX5_notScratched 3 = .ok (.istore_n 2, 1) := by decide +kernel
theorem dX5_notScratched_4 : decode cX5_notScratched 4 = .ok (.iload_n 2, 1) := by decide +kernel
theorem dX5_notScratched_5 : decode cX5_notScratched 5 = .ok (.aload_n 0, 1) := by decide +kernel
theorem dX5_notScratched_6 : decode cX5_notScratched 6 = .ok (.getfield 32, 3) := by decide +kernel
theorem dX5_notScratched_9 : decode cX5_notScratched 9 = .ok (.if_icmp .ge 24, 3) := by decide +kernel
theorem dX5_notScratched_12 : decode cX5_notScratched 12 = .ok (.aload_n 0, 1) := by decide +kernel
theorem dX5_notScratched_13 : decode cX5_notScratched 13 = .ok (.getfield 17, 3) := by decide +kernel
theorem dX5_notScratched_16 : decode cX5_notScratched 16 = .ok (.iload_n 2, 1) := by decide +kernel
theorem dX5_notScratched_17 : decode cX5_notScratched 17 = .ok (.aaload, 1) := by decide +kernel
theorem dX5_notScratched_18 : decode cX5_notScratched 18 = .ok (.getfield 61, 3) := by decide +kernel
theorem dX5_notScratched_21 : decode cX5_notScratched 21 = .ok (.ifCond .ne 6, 3) := by decide +kernel
theorem dX5_notScratched_24 : decode cX5_notScratched 24 = .ok (.iinc 1 1, 3) := by decide +kernel
theorem dX5_notScratched_27 : decode cX5_notScratched 27 = .ok (.iinc 2 1, 3) := by decide +kernel
theorem dX5_notScratched_30 : decode cX5_notScratched 30 = .ok (.goto (-26), 3) := by decide +kernel
theorem dX5_notScratched_33 : decode cX5_notScratched 33 = .ok (.iload_n 1, 1) := by decide +kernel
theorem dX5_notScratched_34 : decode cX5_notScratched 34 = .ok (.ireturn, 1) := by decide +kernel
theorem dX5_rankByEntry_0 : decode cX5_rankByEntry 0 = .ok (.iconst 0, 1) := by decide +kernel
theorem dX5_rankByEntry_1 : decode cX5_rankByEntry 1 = .ok (.istore_n 2, 1) := by decide +kernel
theorem dX5_rankByEntry_2 : decode cX5_rankByEntry 2 = .ok (.iconst 0, 1) := by decide +kernel
theorem dX5_rankByEntry_3 : decode cX5_rankByEntry 3 = .ok (.istore_n 3, 1) := by decide +kernel
theorem dX5_rankByEntry_4 : decode cX5_rankByEntry 4 = .ok (.iload_n 3, 1) := by decide +kernel
theorem dX5_rankByEntry_5 : decode cX5_rankByEntry 5 = .ok (.aload_n 0, 1) := by decide +kernel
theorem dX5_rankByEntry_6 : decode cX5_rankByEntry 6 = .ok (.getfield 32, 3) := by decide +kernel
theorem dX5_rankByEntry_9 : decode cX5_rankByEntry 9 = .ok (.if_icmp .ge 37, 3) := by decide +kernel
theorem dX5_rankByEntry_12 : decode cX5_rankByEntry 12 = .ok (.aload_n 0, 1) := by decide +kernel
theorem dX5_rankByEntry_13 : decode cX5_rankByEntry 13 = .ok (.getfield 17, 3) := by decide +kernel
theorem dX5_rankByEntry_16 : decode cX5_rankByEntry 16 = .ok (.iload_n 3, 1) := by decide +kernel
theorem dX5_rankByEntry_17 : decode cX5_rankByEntry 17 = .ok (.aaload, 1) := by decide +kernel
theorem dX5_rankByEntry_18 : decode cX5_rankByEntry 18 = .ok (.getfield 61, 3) := by decide +kernel
theorem dX5_rankByEntry_21 : decode cX5_rankByEntry 21 = .ok (.ifCond .ne 19, 3) := by decide +kernel
theorem dX5_rankByEntry_24 : decode cX5_rankByEntry 24 = .ok (.aload_n 0, 1) := by decide +kernel
theorem dX5_rankByEntry_25 : decode cX5_rankByEntry 25 = .ok (.getfield 17, 3) := by decide +kernel
theorem dX5_rankByEntry_28 : decode cX5_rankByEntry 28 = .ok (.iload_n 3, 1) := by decide +kernel
theorem dX5_rankByEntry_29 : decode cX5_rankByEntry 29 = .ok (.aaload, 1) := by decide +kernel
theorem dX5_rankByEntry_30 : decode cX5_rankByEntry 30 = .ok (.aload_n 1, 1) := by decide +kernel
theorem dX5_rankByEntry_31 : decode cX5_rankByEntry 31 = .ok (.invokevirtual 65, 3) := by decide +kernel
theorem dX5_rankByEntry_34 : decode cX5_rankByEntry 34 = .ok (.ifCond .eq 6, 3) := by decide +kernel
theorem dX5_rankByEntry_37 : decode cX5_rankByEntry 37 = .ok (.iinc 2 1, 3) := by decide +kernel
theorem dX5_rankByEntry_40 : decode cX5_rankByEntry 40 = .ok (.iinc 3 1, 3) := by decide +kernel
theorem dX5_rankByEntry_43 : decode cX5_rankByEntry 43 = .ok (.goto (-39), 3) := by decide +kernel
theorem dX5_rankByEntry_46 : decode cX5_rankByEntry 46 = .ok (.iload_n 2, 1) := by decide +kernel
theorem dX5_rankByEntry_47 : decode cX5_rankByEntry 47 = .ok (.ireturn, 1) := by decide +kernel
theorem dX5_rankByHeatTime_0 : decode cX5_rankByHeatTime 0 = .ok (.iconst 0, 1) := by decide +kernel
theorem dX5_rankByHeatTime_1 : decode cX5_rankByHeatTime 1 = .ok (.istore_n 2, 1) := by decide +kernel
theorem dX5_rankByHeatTime_2 : decode cX5_rankByHeatTime 2 = .ok (.iconst 0, 1) := by decide +kernel
theorem dX5_rankByHeatTime_3 : decode cX5_rankByHeatTime 3 = .ok (.istore_n 3, 1) := by decide +kernel
theorem dX5_rankByHeatTime_4 : decode cX5_rankByHeatTime 4 = .ok (.iload_n 3, 1) := by decide +kernel
theorem dX5_rankByHeatTime_5 : decode cX5_rankByHeatTime 5 = .ok (.aload_n 0, 1) := by decide +kernel
theorem dX5_rankByHeatTime_6 : decode cX5_rankByHeatTime 6 = .ok (.getfield 32, 3) := by decide +kernel
theorem dX5_rankByHeatTime_9 : decode cX5_rankByHeatTime 9 = .ok (.if_icmp .ge 37, 3) := by decide +kernel
theorem dX5_rankByHeatTime_12 : decode cX5_rankByHeatTime 12 = .ok (.aload_n 0, 1) := by decide +kernel
theorem dX5_rankByHeatTime_13 : decode cX5_rankByHeatTime 13 = .ok (.getfield 17, 3) := by decide +kernel
theorem dX5_rankByHeatTime_16 : decode cX5_rankByHeatTime 16 = .ok (.iload_n 3, 1) := by decide +kernel
theorem dX5_rankByHeatTime_17 : decode cX5_rankByHeatTime 17 = .ok (.aaload, 1) := by decide +kernel
theorem dX5_rankByHeatTime_18 : decode cX5_rankByHeatTime 18 = .ok (.getfield 69, 3) := by decide +kernel
theorem dX5_rankByHeatTime_21 : decode cX5_rankByHeatTime 21 = .ok (.ifCond .le 19, 3) := by decide +kernel
theorem dX5_rankByHeatTime_24 : decode cX5_rankByHeatTime 24 = .ok (.aload_n 0, 1) := by decide +kernel
theorem dX5_rankByHeatTime_25 : decode cX5_rankByHeatTime 25 = .ok (.getfield 17, 3) := by decide +kernel
theorem dX5_rankByHeatTime_28 : decode cX5_rankByHeatTime 28 = .ok (.iload_n 3, 1) := by decide +kernel
theorem dX5_rankByHeatTime_29 : decode cX5_rankByHeatTime 29 = .ok (.aaload, 1) := by decide +kernel
theorem dX5_rankByHeatTime_30 : decode cX5_rankByHeatTime 30 = .ok (.aload_n 1, 1) := by decide +kernel
theorem dX5_rankByHeatTime_31 : decode cX5_rankByHeatTime 31 = .ok (.invokevirtual 72, 3) := by decide +kernel
theorem dX5_rankByHeatTime_34 : decode cX5_rankByHeatTime 34 = .ok (.ifCond .eq 6, 3) := by decide +kernel
theorem dX5_rankByHeatTime_37 : decode cX5_rankByHeatTime 37 = .ok (.iinc 2 1, 3) := by decide +kernel
theorem dX5_rankByHeatTime_40 : decode cX5_rankByHeatTime 40 = .ok (.iinc 3 1, 3) := by decide +kernel
theorem dX5_rankByHeatTime_43 : decode cX5_rankByHeatTime 43 = .ok (.goto (-39), 3) := by decide +kernel
theorem dX5_rankByHeatTime_46 : decode cX5_rankByHeatTime 46 = .ok (.iload_n 2, 1) := by decide +kernel
theorem dX5_rankByHeatTime_47 : decode cX5_rankByHeatTime 47 = .ok (.ireturn, 1) := by decide +kernel
theorem dX5_swimsNow_0 : decode cX5_swimsNow 0 = .ok (.aload_n 0, 1) := by decide +kernel
theorem dX5_swimsNow_1 : decode cX5_swimsNow 1 = .ok (.getfield 36, 3) := by decide +kernel
theorem dX5_swimsNow_4 : decode cX5_swimsNow 4 = .ok (.iconst 1, 1) := by decide +kernel
theorem dX5_swimsNow_5 : decode cX5_swimsNow 5 = .ok (.if_icmp .ne 17, 3) := by decide +kernel
theorem dX5_swimsNow_8 : decode cX5_swimsNow 8 = .ok (.aload_n 1, 1) := by decide +kernel
theorem dX5_swimsNow_9 : decode cX5_swimsNow 9 = .ok (.getfield 75, 3) := by decide +kernel
theorem dX5_swimsNow_12 : decode cX5_swimsNow 12 = .ok (.iconst (-1), 1) := by decide +kernel
theorem dX5_swimsNow_13 : decode cX5_swimsNow 13 = .ok (.if_icmp .eq 7, 3) := by decide +kernel
theorem dX5_swimsNow_16 : decode cX5_swimsNow 16 = .ok (.iconst 1, 1) := by decide +kernel
theorem dX5_swimsNow_17 : decode cX5_swimsNow 17 = .ok (.goto 4, 3) := by decide +kernel
theorem dX5_swimsNow_20 : decode cX5_swimsNow 20 = .ok (.iconst 0, 1) := by decide +kernel
theorem dX5_swimsNow_21 : decode cX5_swimsNow 21 = .ok (.ireturn, 1) := by decide +kernel
theorem dX5_swimsNow_22 : decode cX5_swimsNow 22 = .ok (.aload_n 0, 1) := by decide +kernel
theorem dX5_swimsNow_23 : decode cX5_swimsNow 23 = .ok (.getfield 36, 3) := by decide +kernel
theorem dX5_swimsNow_26 : decode cX5_swimsNow 26 = .ok (.iconst 2, 1) := by decide +kernel
theorem dX5_swimsNow_27 : decode cX5_swimsNow 27 = .ok (.if_icmp .ne 14, 3) := by decide +kernel
theorem dX5_swimsNow_30 : decode cX5_swimsNow 30 = .ok (.aload_n 1, 1) := by decide +kernel
theorem dX5_swimsNow_31 : decode cX5_swimsNow 31 = .ok (.getfield 78, 3) := by decide +kernel
theorem dX5_swimsNow_34 : decode cX5_swimsNow 34 = .ok (.ifCond .eq 7, 3) := by decide +kernel
theorem dX5_swimsNow_37 : decode cX5_swimsNow 37 = .ok (.iconst 1, 1) := by decide +kernel
theorem dX5_swimsNow_38 : decode cX5_swimsNow 38 = .ok (.goto 4, 3) := by decide +kernel
theorem dX5_swimsNow_41 : decode cX5_swimsNow 41 = .ok (.iconst 0, 1) := by decide +kernel
theorem dX5_swimsNow_42 : decode cX5_swimsNow 42 = .ok (.ireturn, 1) := by decide +kernel
theorem dX5_stageTime_0 : decode cX5_stageTime 0 = .ok (.aload_n 0, 1) := by decide +kernel
theorem dX5_stageTime_1 : decode cX5_stageTime 1 = .ok (.getfield 36, 3) := by decide +kernel
theorem dX5_stageTime_4 : decode cX5_stageTime 4 = .ok (.iconst 1, 1) := by decide +kernel
theorem dX5_stageTime_5 : decode cX5_stageTime 5 = .ok (.if_icmp .ne 10, 3) := by decide +kernel
theorem dX5_stageTime_8 : decode cX5_stageTime 8 = .ok (.aload_n 1, 1) := by decide +kernel
theorem dX5_stageTime_9 : decode cX5_stageTime 9 = .ok (.getfield 69, 3) := by decide +kernel
theorem dX5_stageTime_12 : decode cX5_stageTime 12 = .ok (.goto 7, 3) := by decide +kernel
theorem dX5_stageTime_15 : decode cX5_stageTime 15 = .ok (.aload_n 1, 1) := by decide +kernel
theorem dX5_stageTime_16 : decode cX5_stageTime 16 = .ok (.getfield 81, 3) := by decide +kernel
theorem dX5_stageTime_19 : decode cX5_stageTime 19 = .ok (.ireturn, 1) := by decide +kernel
theorem dX5_fasterThan_0 : decode cX5_fasterThan 0 = .ok (.iconst 0, 1) := by decide +kernel
theorem dX5_fasterThan_1 : decode cX5_fasterThan 1 = .ok (.istore_n 2, 1) := by decide +kernel
theorem dX5_fasterThan_2 : decode cX5_fasterThan 2 = .ok (.iconst 0, 1) := by decide +kernel
theorem dX5_fasterThan_3 : decode cX5_fasterThan 3 = .ok (.istore_n 3, 1) := by decide +kernel
theorem dX5_fasterThan_4 : decode cX5_fasterThan 4 = .ok (.iload_n 3, 1) := by decide +kernel
theorem dX5_fasterThan_5 : decode cX5_fasterThan 5 = .ok (.aload_n 0, 1) := by decide +kernel
theorem dX5_fasterThan_6 : decode cX5_fasterThan 6 = .ok (.getfield 32, 3) := by decide +kernel
theorem dX5_fasterThan_9 : decode cX5_fasterThan 9 = .ok (.if_icmp .ge 35, 3) := by decide +kernel
theorem dX5_fasterThan_12 : decode cX5_fasterThan 12 = .ok (.aload_n 0, 1) := by decide +kernel
theorem dX5_fasterThan_13 : decode cX5_fasterThan 13 = .ok (.aload_n 0, 1) := by decide +kernel
theorem dX5_fasterThan_14 : decode cX5_fasterThan 14 = .ok (.getfield 17, 3) := by decide +kernel
theorem dX5_fasterThan_17 : decode cX5_fasterThan 17 = .ok (.iload_n 3, 1) := by decide +kernel
theorem dX5_fasterThan_18 : decode cX5_fasterThan 18 = .ok (.aaload, 1) := by decide +kernel
theorem dX5_fasterThan_19 : decode cX5_fasterThan 19 = .ok (.invokevirtual 84, 3) := by decide +kernel
theorem dX5_fasterThan_22 : decode cX5_fasterThan 22 = .ok (.istore 4, 2) := by decide +kernel
theorem dX5_fasterThan_24 : decode cX5_fasterThan 24 = .ok (.iload 4, 2) := by decide +kernel
theorem dX5_fasterThan_26 : decode cX5_fasterThan 26 = .ok (.ifCond .le 12, 3) := by decide +kernel
theorem dX5_fasterThan_29 : decode cX5_fasterThan 29 = .ok (.iload 4, 2) := by decide +kernel
theorem dX5_fasterThan_31 : decode cX5_fasterThan 31 = .ok (.iload_n 1, 1) := by decide +kernel
theorem dX5_fasterThan_32 : decode cX5_fasterThan 32 = .ok (.if_icmp .ge 6, 3) := by decide +kernel
theorem dX5_fasterThan_35 : decode cX5_fasterThan 35 = .ok (.iinc 2 1, 3) := by decide +kernel
theorem dX5_fasterThan_38 : decode cX5_fasterThan 38 = .ok (.iinc 3 1, 3) := by decide +kernel
theorem dX5_fasterThan_41 : decode cX5_fasterThan 41 = .ok (.goto (-37), 3) := by decide +kernel
theorem dX5_fasterThan_44 : decode cX5_fasterThan 44 = .ok (.iload_n 2, 1) := by decide +kernel
theorem dX5_fasterThan_45 : decode cX5_fasterThan 45 = .ok (.ireturn, 1) := by decide +kernel
theorem dX5_timesAboveZero_0 : decode cX5_timesAboveZero 0 = .ok (.aload_n 0, 1) := by decide +kernel
theorem dX5_timesAboveZero_1 : decode cX5_timesAboveZero 1 = .ok (.sipush 1000, 3) := by decide +kernel
theorem dX5_timesAboveZero_4 : decode cX5_timesAboveZero 4 = .ok (.invokevirtual 88, 3) := by decide +kernel
theorem dX5_timesAboveZero_7 : decode cX5_timesAboveZero 7 = .ok (.ireturn, 1) := by decide +kernel
theorem dX5_stillToSwim_0 : decode cX5_stillToSwim 0 = .ok (.iconst 0, 1) := by decide +kernel
theorem dX5_stillToSwim_1 : decode cX5_stillToSwim 1 = .ok (.istore_n 2, 1) := by decide +kernel
theorem dX5_stillToSwim_2 : decode cX5_stillToSwim 2 = .ok (.iconst 0, 1) := by decide +kernel
theorem dX5_stillToSwim_3 : decode cX5_stillToSwim 3 = .ok (.istore_n 3, 1) := by decide +kernel
theorem dX5_stillToSwim_4 : decode cX5_stillToSwim 4 = .ok (.iload_n 3, 1) := by decide +kernel
theorem dX5_stillToSwim_5 : decode cX5_stillToSwim 5 = .ok (.aload_n 0, 1) := by decide +kernel
theorem dX5_stillToSwim_6 : decode cX5_stillToSwim 6 = .ok (.getfield 32, 3) := by decide +kernel
theorem dX5_stillToSwim_9 : decode cX5_stillToSwim 9 = .ok (.if_icmp .ge 46, 3) := by decide +kernel
theorem dX5_stillToSwim_12 : decode cX5_stillToSwim 12 = .ok (.aload_n 0, 1) := by decide +kernel
theorem dX5_stillToSwim_13 : decode cX5_stillToSwim 13 = .ok (.aload_n 0, 1) := by decide +kernel
theorem dX5_stillToSwim_14 : decode cX5_stillToSwim 14 = .ok (.getfield 17, 3) := by decide +kernel
theorem dX5_stillToSwim_17 : decode cX5_stillToSwim 17 = .ok (.iload_n 3, 1) := by decide +kernel
theorem dX5_stillToSwim_18 : decode cX5_stillToSwim 18 = .ok (.aaload, 1) := by decide +kernel
theorem dX5_stillToSwim_19 : decode cX5_stillToSwim 19 = .ok (.invokevirtual 92, 3) := by decide +kernel
theorem dX5_stillToSwim_22 : decode cX5_stillToSwim 22 = .ok (.ifCond .eq 27, 3) := by decide +kernel
theorem dX5_stillToSwim_25 : decode cX5_stillToSwim 25 = .ok (.aload_n 0, 1) := by decide +kernel
theorem dX5_stillToSwim_26 : decode cX5_stillToSwim 26 = .ok (.aload_n 0, 1) := by decide +kernel
theorem dX5_stillToSwim_27 : decode cX5_stillToSwim 27 = .ok (.getfield 17, 3) := by decide +kernel
theorem dX5_stillToSwim_30 : decode cX5_stillToSwim 30 = .ok (.iload_n 3, 1) := by decide +kernel
theorem dX5_stillToSwim_31 : decode cX5_stillToSwim 31 = .ok (.aaload, 1) := by decide +kernel
theorem dX5_stillToSwim_32 : decode cX5_stillToSwim 32 = .ok (.invokevirtual 84, 3) := by decide +kernel
theorem dX5_stillToSwim_35 : decode cX5_stillToSwim 35 = .ok (.iconst (-1), 1) := by decide +kernel
theorem dX5_stillToSwim_36 : decode cX5_stillToSwim 36 = .ok (.if_icmp .ne 13, 3) := by decide +kernel
theorem dX5_stillToSwim_39 : decode cX5_stillToSwim 39 = .ok (.iload_n 2, 1) := by decide +kernel
theorem dX5_stillToSwim_40 : decode cX5_stillToSwim 40 = .ok (.iload_n 1, 1) := by decide +kernel
theorem dX5_stillToSwim_41 : decode cX5_stillToSwim 41 = .ok (.if_icmp .ne 5, 3) := by decide +kernel
theorem dX5_stillToSwim_44 : decode cX5_stillToSwim 44 = .ok (.iload_n 3, 1) := by decide +kernel
theorem dX5_stillToSwim_45 : decode cX5_stillToSwim 45 = .ok (.ireturn, 1) := by decide +kernel
theorem dX5_stillToSwim_46 : decode cX5_stillToSwim 46 = .ok (.iinc 2 1, 3) := by decide +kernel
theorem dX5_stillToSwim_49 : decode cX5_stillToSwim 49 = .ok (.iinc 3 1, 3) := by decide +kernel
theorem dX5_stillToSwim_52 : decode cX5_stillToSwim 52 = .ok (.goto (-48), 3) := by decide +kernel
theorem dX5_stillToSwim_55 : decode cX5_stillToSwim 55 = .ok (.ldc 95, 2) := by decide +kernel
theorem dX5_stillToSwim_57 : decode cX5_stillToSwim 57 = .ok (.ireturn, 1) := by decide +kernel
theorem dX5_reasonToWait_0 : decode cX5_reasonToWait 0 = .ok (.aload_n 0, 1) := by decide +kernel
theorem dX5_reasonToWait_1 : decode cX5_reasonToWait 1 = .ok (.getfield 36, 3) := by decide +kernel
theorem dX5_reasonToWait_4 : decode cX5_reasonToWait 4 = .ok (.ifCond .ne 16, 3) := by decide +kernel
theorem dX5_reasonToWait_7 : decode cX5_reasonToWait 7 = .ok (.aload_n 0, 1) := by decide +kernel
theorem dX5_reasonToWait_8 : decode cX5_reasonToWait 8 = .ok (.invokevirtual 96, 3) := by decide +kernel
theorem dX5_reasonToWait_11 : decode cX5_reasonToWait 11 = .ok (.ifCond .ne 7, 3) := by decide +kernel
theorem dX5_reasonToWait_14 : decode cX5_reasonToWait 14 = .ok (.iconst 1, 1) := by decide +kernel
theorem dX5_reasonToWait_15 : decode cX5_reasonToWait 15 = .ok (.goto 4, 3) := by decide +kernel
theorem dX5_reasonToWait_18 : decode cX5_reasonToWait 18 = .ok (.iconst 0, 1) := by decide +kernel
theorem dX5_reasonToWait_19 : decode cX5_reasonToWait 19 = .ok (.ireturn, 1) := by decide +kernel
theorem dX5_reasonToWait_20 : decode cX5_reasonToWait 20 = .ok (.aload_n 0, 1) := by decide +kernel
theorem dX5_reasonToWait_21 : decode cX5_reasonToWait 21 = .ok (.iconst 0, 1) := by decide +kernel
theorem dX5_reasonToWait_22 : decode cX5_reasonToWait 22 = .ok (.invokevirtual 100, 3) := by decide +kernel
theorem dX5_reasonToWait_25 : decode cX5_reasonToWait 25 = .ok (.ldc 95, 2) := by decide +kernel
theorem dX5_reasonToWait_27 : decode cX5_reasonToWait 27 = .ok (.if_icmp .eq 5, 3) := by decide +kernel
theorem dX5_reasonToWait_30 : decode cX5_reasonToWait 30 = .ok (.iconst 2, 1) := by decide +kernel
theorem dX5_reasonToWait_31 : decode cX5_reasonToWait 31 = .ok (.ireturn, 1) := by decide +kernel
theorem dX5_reasonToWait_32 : decode cX5_reasonToWait 32 = .ok (.aload_n 0, 1) := by decide +kernel
theorem dX5_reasonToWait_33 : decode cX5_reasonToWait 33 = .ok (.getfield 36, 3) := by decide +kernel
theorem dX5_reasonToWait_36 : decode cX5_reasonToWait 36 = .ok (.iconst 1, 1) := by decide +kernel
theorem dX5_reasonToWait_37 : decode cX5_reasonToWait 37 = .ok (.if_icmp .ne 14, 3) := by decide +kernel
theorem dX5_reasonToWait_40 : decode cX5_reasonToWait 40 = .ok (.aload_n 0, 1) := by decide +kernel
theorem dX5_reasonToWait_41 : decode cX5_reasonToWait 41 = .ok (.invokevirtual 103, 3) := by decide +kernel
theorem dX5_reasonToWait_44 : decode cX5_reasonToWait 44 = .ok (.ifCond .ne 7, 3) := by decide +kernel
theorem dX5_reasonToWait_47 : decode cX5_reasonToWait 47 = .ok (.iconst 1, 1) := by decide +kernel
theorem dX5_reasonToWait_48 : decode cX5_reasonToWait 48 = .ok (.goto 4, 3) := by decide +kernel
theorem dX5_reasonToWait_51 : decode cX5_reasonToWait 51 = .ok (.iconst 0, 1) := by decide +kernel
theorem dX5_reasonToWait_52 : decode cX5_reasonToWait 52 = .ok (.ireturn, 1) := by decide +kernel
theorem dX5_canBeCalled_0 : decode cX5_canBeCalled 0 = .ok (.aload_n 0, 1) := by decide +kernel
theorem dX5_canBeCalled_1 : decode cX5_canBeCalled 1 = .ok (.iload_n 1, 1) := by decide +kernel
theorem dX5_canBeCalled_2 : decode cX5_canBeCalled 2 = .ok (.invokevirtual 106, 3) := by decide +kernel
theorem dX5_canBeCalled_5 : decode cX5_canBeCalled 5 = .ok (.ifCond .eq 31, 3) := by decide +kernel
theorem dX5_canBeCalled_8 : decode cX5_canBeCalled 8 = .ok (.aload_n 0, 1) := by decide +kernel
theorem dX5_canBeCalled_9 : decode cX5_canBeCalled 9 = .ok (.getfield 17, 3) := by decide +kernel
theorem dX5_canBeCalled_12 : decode cX5_canBeCalled 12 = .ok (.iload_n 1, 1) := by decide +kernel
theorem dX5_canBeCalled_13 : decode cX5_canBeCalled 13 = .ok (.aaload, 1) := by decide +kernel
theorem dX5_canBeCalled_14 : decode cX5_canBeCalled 14 = .ok (.getfield 61, 3) := by decide +kernel
theorem dX5_canBeCalled_17 : decode cX5_canBeCalled 17 = .ok (.ifCond .ne 19, 3) := by decide +kernel
theorem dX5_canBeCalled_20 : decode cX5_canBeCalled 20 = .ok (.aload_n 0, 1) := by decide +kernel
theorem dX5_canBeCalled_21 : decode cX5_canBeCalled 21 = .ok (.getfield 17, 3) := by decide +kernel
theorem dX5_canBeCalled_24 : decode cX5_canBeCalled 24 = .ok (.iload_n 1, 1) := by decide +kernel
theorem dX5_canBeCalled_25 : decode cX5_canBeCalled 25 = .ok (.aaload, 1) := by decide +kernel
theorem dX5_canBeCalled_26 : decode cX5_canBeCalled 26 = .ok (.getfield 78, 3) := by decide +kernel
theorem dX5_canBeCalled_29 : decode cX5_canBeCalled 29 = .ok (.ifCond .ne 7, 3) := by decide +kernel
theorem dX5_canBeCalled_32 : decode cX5_canBeCalled 32 = .ok (.iconst 1, 1) := by decide +kernel
theorem dX5_canBeCalled_33 : decode cX5_canBeCalled 33 = .ok (.goto 4, 3) := by decide +kernel
theorem dX5_canBeCalled_36 : decode cX5_canBeCalled 36 = .ok (.iconst 0, 1) := by decide +kernel
theorem dX5_canBeCalled_37 : decode cX5_canBeCalled 37 = .ok (.ireturn, 1) := by decide +kernel
theorem dX5_freeReserve_0 : decode cX5_freeReserve 0 = .ok (.iconst 0, 1) := by decide +kernel
theorem dX5_freeReserve_1 : decode cX5_freeReserve 1 = .ok (.istore_n 2, 1) := by decide +kernel
theorem dX5_freeReserve_2 : decode cX5_freeReserve 2 = .ok (.iconst 0, 1) := by decide +kernel
theorem dX5_freeReserve_3 : decode cX5_freeReserve 3 = .ok (.istore_n 3, 1) := by decide +kernel
theorem dX5_freeReserve_4 : decode cX5_freeReserve 4 = .ok (.iload_n 3, 1) := by decide +kernel
theorem dX5_freeReserve_5 : decode cX5_freeReserve 5 = .ok (.aload_n 0, 1) := by decide +kernel
theorem dX5_freeReserve_6 : decode cX5_freeReserve 6 = .ok (.getfield 42, 3) := by decide +kernel
theorem dX5_freeReserve_9 : decode cX5_freeReserve 9 = .ok (.if_icmp .ge 42, 3) := by decide +kernel
theorem dX5_freeReserve_12 : decode cX5_freeReserve 12 = .ok (.iload_n 3, 1) := by decide +kernel
theorem dX5_freeReserve_13 : decode cX5_freeReserve 13 = .ok (.iconst 4, 1) := by decide +kernel
theorem dX5_freeReserve_14 : decode cX5_freeReserve 14 = .ok (.if_icmp .ge 37, 3) := by decide +kernel
theorem dX5_freeReserve_17 : decode cX5_freeReserve 17 = .ok (.aload_n 0, 1) := by decide +kernel
theorem dX5_freeReserve_18 : decode cX5_freeReserve 18 = .ok (.aload_n 0, 1) := by decide +kernel
theorem dX5_freeReserve_19 : decode cX5_freeReserve 19 = .ok (.getfield 21, 3) := by decide +kernel
theorem dX5_freeReserve_22 : decode cX5_freeReserve 22 = .ok (.iload_n 3, 1) := by decide +kernel
theorem dX5_freeReserve_23 : decode cX5_freeReserve 23 = .ok (.iaload, 1) := by decide +kernel
theorem dX5_freeReserve_24 : decode cX5_freeReserve 24 = .ok (.invokevirtual 110, 3) := by decide +kernel
theorem dX5_freeReserve_27 : decode cX5_freeReserve 27 = .ok (.ifCond .eq 18, 3) := by decide +kernel
theorem dX5_freeReserve_30 : decode cX5_freeReserve 30 = .ok (.iload_n 2, 1) := by decide +kernel
theorem dX5_freeReserve_31 : decode cX5_freeReserve 31 = .ok (.iload_n 1, 1) := by decide +kernel
theorem dX5_freeReserve_32 : decode cX5_freeReserve 32 = .ok (.if_icmp .ne 10, 3) := by decide +kernel
theorem dX5_freeReserve_35 : decode cX5_freeReserve 35 = .ok (.aload_n 0, 1) := by decide +kernel
theorem dX5_freeReserve_36 : decode cX5_freeReserve 36 = .ok (.getfield 21, 3) := by decide +kernel
theorem dX5_freeReserve_39 : decode cX5_freeReserve 39 = .ok (.iload_n 3, 1) := by decide +kernel
theorem dX5_freeReserve_40 : decode cX5_freeReserve 40 = .ok (.iaload, 1) := by decide +kernel
theorem dX5_freeReserve_41 : decode cX5_freeReserve 41 = .ok (.ireturn, 1) := by decide +kernel
theorem dX5_freeReserve_42 : decode cX5_freeReserve 42 = .ok (.iinc 2 1, 3) := by decide +kernel
theorem dX5_freeReserve_45 : decode cX5_freeReserve 45 = .ok (.iinc 3 1, 3) := by decide +kernel
theorem dX5_freeReserve_48 : decode cX5_freeReserve 48 = .ok (.goto (-44), 3) := by decide +kernel
theorem dX5_freeReserve_51 : decode cX5_freeReserve 51 = .ok (.ldc 95, 2) := by decide +kernel
theorem dX5_freeReserve_53 : decode cX5_freeReserve 53 = .ok (.ireturn, 1) := by decide +kernel
theorem dX5_finalSet_0 : decode cX5_finalSet 0 = .ok (.iconst 0, 1) := by decide +kernel
theorem dX5_finalSet_1 : decode cX5_finalSet 1 = .ok (.istore_n 1, 1) := by decide +kernel
theorem dX5_finalSet_2 : decode cX5_finalSet 2 = .ok (.iconst 0, 1) := by decide +kernel
theorem dX5_finalSet_3 : decode cX5_finalSet 3 = .ok (.istore_n 2, 1) := by decide +kernel
theorem dX5_finalSet_4 : decode cX5_finalSet 4 = .ok (.iload_n 2, 1) := by decide +kernel
theorem dX5_finalSet_5 : decode cX5_finalSet 5 = .ok (.aload_n 0, 1) := by decide +kernel
theorem dX5_finalSet_6 : decode cX5_finalSet 6 = .ok (.getfield 32, 3) := by decide +kernel
theorem dX5_finalSet_9 : decode cX5_finalSet 9 = .ok (.if_icmp .ge 27, 3) := by decide +kernel
theorem dX5_finalSet_12 : decode cX5_finalSet 12 = .ok (.aload_n 0, 1) := by decide +kernel
theorem dX5_finalSet_13 : decode cX5_finalSet 13 = .ok (.getfield 17, 3) := by decide +kernel
theorem dX5_finalSet_16 : decode cX5_finalSet 16 = .ok (.iload_n 2, 1) := by decide +kernel
theorem dX5_finalSet_17 : decode cX5_finalSet 17 = .ok (.aaload, 1) := by decide +kernel
theorem dX5_finalSet_18 : decode cX5_finalSet 18 = .ok (.getfield 78, 3) := by decide +kernel
theorem dX5_finalSet_21 : decode cX5_finalSet 21 = .ok (.ifCond .eq 9, 3) := by decide +kernel
theorem dX5_finalSet_24 : decode cX5_finalSet 24 = .ok (.iload_n 1, 1) := by decide +kernel
theorem dX5_finalSet_25 : decode cX5_finalSet 25 = .ok (.iconst 1, 1) := by decide +kernel
theorem dX5_finalSet_26 : decode cX5_finalSet 26 = .ok (.iload_n 2, 1) := by decide +kernel
theorem dX5_finalSet_27 : decode cX5_finalSet 27 = .ok (.ishl, 1) := by decide +kernel
theorem dX5_finalSet_28 : decode cX5_finalSet 28 = .ok (.ior, 1) := by decide +kernel
theorem dX5_finalSet_29 : decode cX5_finalSet 29 = .ok (.istore_n 1, 1) := by decide +kernel
theorem dX5_finalSet_30 : decode cX5_finalSet 30 = .ok (.iinc 2 1, 3) := by decide +kernel
theorem dX5_finalSet_33 : decode cX5_finalSet 33 = .ok (.goto (-29), 3) := by decide +kernel
theorem dX5_finalSet_36 : decode cX5_finalSet 36 = .ok (.iload_n 1, 1) := by decide +kernel
theorem dX5_finalSet_37 : decode cX5_finalSet 37 = .ok (.ireturn, 1) := by decide +kernel
theorem dX6_init_0 : decode cX6_init 0 = .ok (.aload_n 0, 1) := by decide +kernel
theorem dX6_init_1 : decode cX6_init 1 = .ok (.invokespecial 3, 3) := by decide +kernel
theorem dX6_init_4 : decode cX6_init 4 = .ok (.aload_n 0, 1) := by decide +kernel
theorem dX6_init_5 : decode cX6_init 5 = .ok (.bipush 60, 2) := by decide +kernel
theorem dX6_init_7 : decode cX6_init 7 = .ok (.newarray .int, 2) := by decide +kernel
theorem dX6_init_9 : decode cX6_init 9 = .ok (.putfield 9, 3) := by decide +kernel
theorem dX6_init_12 : decode cX6_init 12 = .ok (.return_, 1) := by decide +kernel
theorem dX7_init_0 : decode cX7_init 0 = .ok (.aload_n 0, 1) := by decide +kernel
theorem dX7_init_1 : decode cX7_init 1 = .ok (.invokespecial 3, 3) := by decide +kernel
theorem dX7_init_4 : decode cX7_init 4 = .ok (.return_, 1) := by decide +kernel
theorem dX8_place_0 : decode cX8_place 0 = .ok (.aload_n 1, 1) := by decide +kernel
theorem dX8_place_1 : decode cX8_place 1 = .ok (.getfield 9, 3) := by decide +kernel
theorem dX8_place_4 : decode cX8_place 4 = .ok (.ifCond .gt 4, 3) := by decide +kernel
theorem dX8_place_7 : decode cX8_place 7 = .ok (.return_, 1) := by decide +kernel
theorem dX8_place_8 : decode cX8_place 8 = .ok (.aload_n 1, 1) := by decide +kernel
theorem dX8_place_9 : decode cX8_place 9 = .ok (.aload_n 0, 1) := by decide +kernel
theorem dX8_place_10 : decode cX8_place 10 = .ok (.aload_n 1, 1) := by decide +kernel
theorem dX8_place_11 : decode cX8_place 11 = .ok (.getfield 9, 3) := by decide +kernel
theorem dX8_place_14 : decode cX8_place 14 = .ok (.invokevirtual 15, 3) := by decide +kernel
theorem dX8_place_17 : decode cX8_place 17 = .ok (.iconst 1, 1) := by decide +kernel
theorem dX8_place_18 : decode cX8_place 18 = .ok (.iadd, 1) := by decide +kernel
theorem dX8_place_19 : decode cX8_place 19 = .ok (.putfield 21, 3) := by decide +kernel
theorem dX8_place_22 : decode cX8_place 22 = .ok (.aload_n 0, 1) := by decide +kernel
theorem dX8_place_23 : decode cX8_place 23 = .ok (.aload_n 1, 1) := by decide +kernel
theorem dX8_place_24 : decode cX8_place 24 = .ok (.getfield 9, 3) := by decide +kernel
theorem dX8_place_27 : decode cX8_place 27 = .ok (.iconst 1, 1) := by decide +kernel
theorem dX8_place_28 : decode cX8_place 28 = .ok (.iadd, 1) := by decide +kernel
theorem dX8_place_29 : decode cX8_place 29 = .ok (.invokevirtual 15, 3) := by decide +kernel
theorem dX8_place_32 : decode cX8_place 32 = .ok (.aload_n 0, 1) := by decide +kernel
theorem dX8_place_33 : decode cX8_place 33 = .ok (.aload_n 1, 1) := by decide +kernel
theorem dX8_place_34 : decode cX8_place 34 = .ok (.getfield 9, 3) := by decide +kernel
theorem dX8_place_37 : decode cX8_place 37 = .ok (.invokevirtual 15, 3) := by decide +kernel
theorem dX8_place_40 : decode cX8_place 40 = .ok (.isub, 1) := by decide +kernel
theorem dX8_place_41 : decode cX8_place 41 = .ok (.istore_n 2, 1) := by decide +kernel
theorem dX8_place_42 : decode cX8_place 42 = .ok (.aload_n 1, 1) := by decide +kernel
theorem dX8_place_43 : decode cX8_place 43 = .ok (.dup, 1) := by decide +kernel
theorem dX8_place_44 : decode cX8_place 44 = .ok (.getfield 24, 3) := by decide +kernel
theorem dX8_place_47 : decode cX8_place 47 = .ok (.aload_n 1, 1) := by decide +kernel
theorem dX8_place_48 : decode cX8_place 48 = .ok (.getfield 21, 3) := by decide +kernel
theorem dX8_place_51 : decode cX8_place 51 = .ok (.iload_n 2, 1) := by decide +kernel
theorem dX8_place_52 : decode cX8_place 52 = .ok (.aload_n 0, 1) := by decide +kernel
theorem dX8_place_53 : decode cX8_place 53 = .ok (.invokevirtual 27, 3) := by decide +kernel
theorem dX8_place_56 : decode cX8_place 56 = .ok (.invokestatic 31, 3) := by decide +kernel
theorem dX8_place_59 : decode cX8_place 59 = .ok (.iadd, 1) := by decide +kernel
theorem dX8_place_60 : decode cX8_place 60 = .ok (.putfield 24, 3) := by decide +kernel
theorem dX8_place_63 : decode cX8_place 63 = .ok (.return_, 1) := by decide +kernel
theorem dX8_shared_0 : decode cX8_shared 0 = .ok (.iconst 0, 1) := by decide +kernel
theorem dX8_shared_1 : decode cX8_shared 1 = .ok (.istore_n 3, 1) := by decide +kernel
