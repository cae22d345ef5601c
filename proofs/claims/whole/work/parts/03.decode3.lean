theorem dX12_planTake_64 : decode cX12_planTake 64 = .ok (.ireturn, 1) := by decide +kernel
theorem dX12_planTake_65 : decode cX12_planTake 65 = .ok (.aload_n 0, 1) := by decide +kernel
theorem dX12_planTake_66 : decode cX12_planTake 66 = .ok (.getfield 167, 3) := by decide +kernel
theorem dX12_planTake_69 : decode cX12_planTake 69 = .ok (.bipush 60, 2) := by decide +kernel
theorem dX12_planTake_71 : decode cX12_planTake 71 = .ok (.if_icmp .ne 9, 3) := by decide +kernel
theorem dX12_planTake_74 : decode cX12_planTake 74 = .ok (.aload_n 0, 1) := by decide +kernel
theorem dX12_planTake_75 : decode cX12_planTake 75 = .ok (.iconst 3, 1) := by decide +kernel
theorem dX12_planTake_76 : decode cX12_planTake 76 = .ok (.invokevirtual 164, 3) := by decide +kernel
theorem dX12_planTake_79 : decode cX12_planTake 79 = .ok (.ireturn, 1) := by decide +kernel
theorem dX12_planTake_80 : decode cX12_planTake 80 = .ok (.aload_n 0, 1) := by decide +kernel
theorem dX12_planTake_81 : decode cX12_planTake 81 = .ok (.getfield 44, 3) := by decide +kernel
theorem dX12_planTake_84 : decode cX12_planTake 84 = .ok (.aload_n 0, 1) := by decide +kernel
theorem dX12_planTake_85 : decode cX12_planTake 85 = .ok (.getfield 167, 3) := by decide +kernel
theorem dX12_planTake_88 : decode cX12_planTake 88 = .ok (.iconst 0, 1) := by decide +kernel
theorem dX12_planTake_89 : decode cX12_planTake 89 = .ok (.bastore, 1) := by decide +kernel
theorem dX12_planTake_90 : decode cX12_planTake 90 = .ok (.aload_n 0, 1) := by decide +kernel
theorem dX12_planTake_91 : decode cX12_planTake 91 = .ok (.getfield 53, 3) := by decide +kernel
theorem dX12_planTake_94 : decode cX12_planTake 94 = .ok (.aload_n 0, 1) := by decide +kernel
theorem dX12_planTake_95 : decode cX12_planTake 95 = .ok (.getfield 167, 3) := by decide +kernel
theorem dX12_planTake_98 : decode cX12_planTake 98 = .ok (.iload_n 1, 1) := by decide +kernel
theorem dX12_planTake_99 : decode cX12_planTake 99 = .ok (.iastore, 1) := by decide +kernel
theorem dX12_planTake_100 : decode cX12_planTake 100 = .ok (.aload_n 0, 1) := by decide +kernel
theorem dX12_planTake_101 : decode cX12_planTake 101 = .ok (.dup, 1) := by decide +kernel
theorem dX12_planTake_102 : decode cX12_planTake 102 = .ok (.getfield 167, 3) := by decide +kernel
theorem dX12_planTake_105 : decode cX12_planTake 105 = .ok (.iconst 1, 1) := by decide +kernel
theorem dX12_planTake_106 : decode cX12_planTake 106 = .ok (.iadd, 1) := by decide +kernel
theorem dX12_planTake_107 : decode cX12_planTake 107 = .ok (.putfield 167, 3) := by decide +kernel
theorem dX12_planTake_110 : decode cX12_planTake 110 = .ok (.aload_n 0, 1) := by decide +kernel
theorem dX12_planTake_111 : decode cX12_planTake 111 = .ok (.getfield 167, 3) := by decide +kernel
theorem dX12_planTake_114 : decode cX12_planTake 114 = .ok (.iconst 1, 1) := by decide +kernel
theorem dX12_planTake_115 : decode cX12_planTake 115 = .ok (.isub, 1) := by decide +kernel
theorem dX12_planTake_116 : decode cX12_planTake 116 = .ok (.ireturn, 1) := by decide +kernel
theorem dX12_isTaken_0 : decode cX12_isTaken 0 = .ok (.iconst 0, 1) := by decide +kernel
theorem dX12_isTaken_1 : decode cX12_isTaken 1 = .ok (.istore_n 3, 1) := by decide +kernel
theorem dX12_isTaken_2 : decode cX12_isTaken 2 = .ok (.iload_n 3, 1) := by decide +kernel
theorem dX12_isTaken_3 : decode cX12_isTaken 3 = .ok (.iload_n 2, 1) := by decide +kernel
theorem dX12_isTaken_4 : decode cX12_isTaken 4 = .ok (.if_icmp .ge 30, 3) := by decide +kernel
theorem dX12_isTaken_7 : decode cX12_isTaken 7 = .ok (.aload_n 0, 1) := by decide +kernel
theorem dX12_isTaken_8 : decode cX12_isTaken 8 = .ok (.getfield 44, 3) := by decide +kernel
theorem dX12_isTaken_11 : decode cX12_isTaken 11 = .ok (.iload_n 3, 1) := by decide +kernel
theorem dX12_isTaken_12 : decode cX12_isTaken 12 = .ok (.baload, 1) := by decide +kernel
theorem dX12_isTaken_13 : decode cX12_isTaken 13 = .ok (.ifCond .ne 15, 3) := by decide +kernel
theorem dX12_isTaken_16 : decode cX12_isTaken 16 = .ok (.aload_n 0, 1) := by decide +kernel
theorem dX12_isTaken_17 : decode cX12_isTaken 17 = .ok (.getfield 53, 3) := by decide +kernel
theorem dX12_isTaken_20 : decode cX12_isTaken 20 = .ok (.iload_n 3, 1) := by decide +kernel
theorem dX12_isTaken_21 : decode cX12_isTaken 21 = .ok (.iaload, 1) := by decide +kernel
theorem dX12_isTaken_22 : decode cX12_isTaken 22 = .ok (.iload_n 1, 1) := by decide +kernel
theorem dX12_isTaken_23 : decode cX12_isTaken 23 = .ok (.if_icmp .ne 5, 3) := by decide +kernel
theorem dX12_isTaken_26 : decode cX12_isTaken 26 = .ok (.iconst 1, 1) := by decide +kernel
theorem dX12_isTaken_27 : decode cX12_isTaken 27 = .ok (.ireturn, 1) := by decide +kernel
theorem dX12_isTaken_28 : decode cX12_isTaken 28 = .ok (.iinc 3 1, 3) := by decide +kernel
theorem dX12_isTaken_31 : decode cX12_isTaken 31 = .ok (.goto (-29), 3) := by decide +kernel
theorem dX12_isTaken_34 : decode cX12_isTaken 34 = .ok (.iconst 0, 1) := by decide +kernel
theorem dX12_isTaken_35 : decode cX12_isTaken 35 = .ok (.ireturn, 1) := by decide +kernel
theorem dX12_plan_0 : decode cX12_plan 0 = .ok (.aload_n 0, 1) := by decide +kernel
theorem dX12_plan_1 : decode cX12_plan 1 = .ok (.iconst 0, 1) := by decide +kernel
theorem dX12_plan_2 : decode cX12_plan 2 = .ok (.putfield 237, 3) := by decide +kernel
theorem dX12_plan_5 : decode cX12_plan 5 = .ok (.iconst 0, 1) := by decide +kernel
theorem dX12_plan_6 : decode cX12_plan 6 = .ok (.istore_n 2, 1) := by decide +kernel
theorem dX12_plan_7 : decode cX12_plan 7 = .ok (.iload_n 2, 1) := by decide +kernel
theorem dX12_plan_8 : decode cX12_plan 8 = .ok (.aload_n 0, 1) := by decide +kernel
theorem dX12_plan_9 : decode cX12_plan 9 = .ok (.getfield 146, 3) := by decide +kernel
theorem dX12_plan_12 : decode cX12_plan 12 = .ok (.if_icmp .ge 73, 3) := by decide +kernel
theorem dX12_plan_15 : decode cX12_plan 15 = .ok (.aload_n 0, 1) := by decide +kernel
theorem dX12_plan_16 : decode cX12_plan 16 = .ok (.aload_n 0, 1) := by decide +kernel
theorem dX12_plan_17 : decode cX12_plan 17 = .ok (.getfield 32, 3) := by decide +kernel
theorem dX12_plan_20 : decode cX12_plan 20 = .ok (.iload_n 2, 1) := by decide +kernel
theorem dX12_plan_21 : decode cX12_plan 21 = .ok (.iaload, 1) := by decide +kernel
theorem dX12_plan_22 : decode cX12_plan 22 = .ok (.iload_n 1, 1) := by decide +kernel
theorem dX12_plan_23 : decode cX12_plan 23 = .ok (.invokevirtual 233, 3) := by decide +kernel
theorem dX12_plan_26 : decode cX12_plan 26 = .ok (.ifCond .ne 53, 3) := by decide +kernel
theorem dX12_plan_29 : decode cX12_plan 29 = .ok (.aload_n 0, 1) := by decide +kernel
theorem dX12_plan_30 : decode cX12_plan 30 = .ok (.getfield 117, 3) := by decide +kernel
theorem dX12_plan_33 : decode cX12_plan 33 = .ok (.aload_n 0, 1) := by decide +kernel
theorem dX12_plan_34 : decode cX12_plan 34 = .ok (.getfield 237, 3) := by decide +kernel
theorem dX12_plan_37 : decode cX12_plan 37 = .ok (.aload_n 0, 1) := by decide +kernel
theorem dX12_plan_38 : decode cX12_plan 38 = .ok (.getfield 13, 3) := by decide +kernel
theorem dX12_plan_41 : decode cX12_plan 41 = .ok (.aload_n 0, 1) := by decide +kernel
theorem dX12_plan_42 : decode cX12_plan 42 = .ok (.getfield 32, 3) := by decide +kernel
theorem dX12_plan_45 : decode cX12_plan 45 = .ok (.iload_n 2, 1) := by decide +kernel
theorem dX12_plan_46 : decode cX12_plan 46 = .ok (.iaload, 1) := by decide +kernel
theorem dX12_plan_47 : decode cX12_plan 47 = .ok (.iaload, 1) := by decide +kernel
theorem dX12_plan_48 : decode cX12_plan 48 = .ok (.iastore, 1) := by decide +kernel
theorem dX12_plan_49 : decode cX12_plan 49 = .ok (.aload_n 0, 1) := by decide +kernel
theorem dX12_plan_50 : decode cX12_plan 50 = .ok (.getfield 120, 3) := by decide +kernel
theorem dX12_plan_53 : decode cX12_plan 53 = .ok (.aload_n 0, 1) := by decide +kernel
theorem dX12_plan_54 : decode cX12_plan 54 = .ok (.getfield 237, 3) := by decide +kernel
theorem dX12_plan_57 : decode cX12_plan 57 = .ok (.aload_n 0, 1) := by decide +kernel
theorem dX12_plan_58 : decode cX12_plan 58 = .ok (.getfield 16, 3) := by decide +kernel
theorem dX12_plan_61 : decode cX12_plan 61 = .ok (.aload_n 0, 1) := by decide +kernel
theorem dX12_plan_62 : decode cX12_plan 62 = .ok (.getfield 32, 3) := by decide +kernel
theorem dX12_plan_65 : decode cX12_plan 65 = .ok (.iload_n 2, 1) := by decide +kernel
theorem dX12_plan_66 : decode cX12_plan 66 = .ok (.iaload, 1) := by decide +kernel
theorem dX12_plan_67 : decode cX12_plan 67 = .ok (.iaload, 1) := by decide +kernel
theorem dX12_plan_68 : decode cX12_plan 68 = .ok (.iastore, 1) := by decide +kernel
theorem dX12_plan_69 : decode cX12_plan 69 = .ok (.aload_n 0, 1) := by decide +kernel
theorem dX12_plan_70 : decode cX12_plan 70 = .ok (.dup, 1) := by decide +kernel
theorem dX12_plan_71 : decode cX12_plan 71 = .ok (.getfield 237, 3) := by decide +kernel
theorem dX12_plan_74 : decode cX12_plan 74 = .ok (.iconst 1, 1) := by decide +kernel
theorem dX12_plan_75 : decode cX12_plan 75 = .ok (.iadd, 1) := by decide +kernel
theorem dX12_plan_76 : decode cX12_plan 76 = .ok (.putfield 237, 3) := by decide +kernel
theorem dX12_plan_79 : decode cX12_plan 79 = .ok (.iinc 2 1, 3) := by decide +kernel
theorem dX12_plan_82 : decode cX12_plan 82 = .ok (.goto (-75), 3) := by decide +kernel
theorem dX12_plan_85 : decode cX12_plan 85 = .ok (.iconst 0, 1) := by decide +kernel
theorem dX12_plan_86 : decode cX12_plan 86 = .ok (.istore_n 2, 1) := by decide +kernel
theorem dX12_plan_87 : decode cX12_plan 87 = .ok (.iload_n 2, 1) := by decide +kernel
theorem dX12_plan_88 : decode cX12_plan 88 = .ok (.iload_n 1, 1) := by decide +kernel
theorem dX12_plan_89 : decode cX12_plan 89 = .ok (.if_icmp .ge 69, 3) := by decide +kernel
theorem dX12_plan_92 : decode cX12_plan 92 = .ok (.aload_n 0, 1) := by decide +kernel
theorem dX12_plan_93 : decode cX12_plan 93 = .ok (.getfield 44, 3) := by decide +kernel
theorem dX12_plan_96 : decode cX12_plan 96 = .ok (.iload_n 2, 1) := by decide +kernel
theorem dX12_plan_97 : decode cX12_plan 97 = .ok (.baload, 1) := by decide +kernel
theorem dX12_plan_98 : decode cX12_plan 98 = .ok (.ifCond .eq 54, 3) := by decide +kernel
theorem dX12_plan_101 : decode cX12_plan 101 = .ok (.aload_n 0, 1) := by decide +kernel
theorem dX12_plan_102 : decode cX12_plan 102 = .ok (.iconst (-1), 1) := by decide +kernel
theorem dX12_plan_103 : decode cX12_plan 103 = .ok (.iload_n 2, 1) := by decide +kernel
theorem dX12_plan_104 : decode cX12_plan 104 = .ok (.isub, 1) := by decide +kernel
theorem dX12_plan_105 : decode cX12_plan 105 = .ok (.iload_n 1, 1) := by decide +kernel
theorem dX12_plan_106 : decode cX12_plan 106 = .ok (.invokevirtual 233, 3) := by decide +kernel
theorem dX12_plan_109 : decode cX12_plan 109 = .ok (.ifCond .ne 43, 3) := by decide +kernel
theorem dX12_plan_112 : decode cX12_plan 112 = .ok (.aload_n 0, 1) := by decide +kernel
theorem dX12_plan_113 : decode cX12_plan 113 = .ok (.getfield 117, 3) := by decide +kernel
theorem dX12_plan_116 : decode cX12_plan 116 = .ok (.aload_n 0, 1) := by decide +kernel
theorem dX12_plan_117 : decode cX12_plan 117 = .ok (.getfield 237, 3) := by decide +kernel
theorem dX12_plan_120 : decode cX12_plan 120 = .ok (.aload_n 0, 1) := by decide +kernel
theorem dX12_plan_121 : decode cX12_plan 121 = .ok (.getfield 47, 3) := by decide +kernel
theorem dX12_plan_124 : decode cX12_plan 124 = .ok (.iload_n 2, 1) := by decide +kernel
theorem dX12_plan_125 : decode cX12_plan 125 = .ok (.iaload, 1) := by decide +kernel
theorem dX12_plan_126 : decode cX12_plan 126 = .ok (.iastore, 1) := by decide +kernel
theorem dX12_plan_127 : decode cX12_plan 127 = .ok (.aload_n 0, 1) := by decide +kernel
theorem dX12_plan_128 : decode cX12_plan 128 = .ok (.getfield 120, 3) := by decide +kernel
theorem dX12_plan_131 : decode cX12_plan 131 = .ok (.aload_n 0, 1) := by decide +kernel
theorem dX12_plan_132 : decode cX12_plan 132 = .ok (.getfield 237, 3) := by decide +kernel
theorem dX12_plan_135 : decode cX12_plan 135 = .ok (.aload_n 0, 1) := by decide +kernel
theorem dX12_plan_136 : decode cX12_plan 136 = .ok (.getfield 50, 3) := by decide +kernel
theorem dX12_plan_139 : decode cX12_plan 139 = .ok (.iload_n 2, 1) := by decide +kernel
theorem dX12_plan_140 : decode cX12_plan 140 = .ok (.iaload, 1) := by decide +kernel
theorem dX12_plan_141 : decode cX12_plan 141 = .ok (.iastore, 1) := by decide +kernel
theorem dX12_plan_142 : decode cX12_plan 142 = .ok (.aload_n 0, 1) := by decide +kernel
theorem dX12_plan_143 : decode cX12_plan 143 = .ok (.dup, 1) := by decide +kernel
theorem dX12_plan_144 : decode cX12_plan 144 = .ok (.getfield 237, 3) := by decide +kernel
theorem dX12_plan_147 : decode cX12_plan 147 = .ok (.iconst 1, 1) := by decide +kernel
theorem dX12_plan_148 : decode cX12_plan 148 = .ok (.iadd, 1) := by decide +kernel
theorem dX12_plan_149 : decode cX12_plan 149 = .ok (.putfield 237, 3) := by decide +kernel
theorem dX12_plan_152 : decode cX12_plan 152 = .ok (.iinc 2 1, 3) := by decide +kernel
theorem dX12_plan_155 : decode cX12_plan 155 = .ok (.goto (-68), 3) := by decide +kernel
theorem dX12_plan_158 : decode cX12_plan 158 = .ok (.iconst 0, 1) := by decide +kernel
theorem dX12_plan_159 : decode cX12_plan 159 = .ok (.istore_n 2, 1) := by decide +kernel
theorem dX12_plan_160 : decode cX12_plan 160 = .ok (.iload_n 2, 1) := by decide +kernel
theorem dX12_plan_161 : decode cX12_plan 161 = .ok (.aload_n 0, 1) := by decide +kernel
theorem dX12_plan_162 : decode cX12_plan 162 = .ok (.getfield 140, 3) := by decide +kernel
theorem dX12_plan_165 : decode cX12_plan 165 = .ok (.if_icmp .ge 23, 3) := by decide +kernel
theorem dX12_plan_168 : decode cX12_plan 168 = .ok (.aload_n 0, 1) := by decide +kernel
theorem dX12_plan_169 : decode cX12_plan 169 = .ok (.getfield 123, 3) := by decide +kernel
theorem dX12_plan_172 : decode cX12_plan 172 = .ok (.iload_n 2, 1) := by decide +kernel
theorem dX12_plan_173 : decode cX12_plan 173 = .ok (.iconst (-1), 1) := by decide +kernel
theorem dX12_plan_174 : decode cX12_plan 174 = .ok (.iastore, 1) := by decide +kernel
theorem dX12_plan_175 : decode cX12_plan 175 = .ok (.aload_n 0, 1) := by decide +kernel
theorem dX12_plan_176 : decode cX12_plan 176 = .ok (.getfield 129, 3) := by decide +kernel
theorem dX12_plan_179 : decode cX12_plan 179 = .ok (.iload_n 2, 1) := by decide +kernel
theorem dX12_plan_180 : decode cX12_plan 180 = .ok (.iconst 0, 1) := by decide +kernel
theorem dX12_plan_181 : decode cX12_plan 181 = .ok (.bastore, 1) := by decide +kernel
theorem dX12_plan_182 : decode cX12_plan 182 = .ok (.iinc 2 1, 3) := by decide +kernel
theorem dX12_plan_185 : decode cX12_plan 185 = .ok (.goto (-25), 3) := by decide +kernel
theorem dX12_plan_188 : decode cX12_plan 188 = .ok (.iconst 0, 1) := by decide +kernel
theorem dX12_plan_189 : decode cX12_plan 189 = .ok (.istore_n 2, 1) := by decide +kernel
theorem dX12_plan_190 : decode cX12_plan 190 = .ok (.iload_n 2, 1) := by decide +kernel
theorem dX12_plan_191 : decode cX12_plan 191 = .ok (.aload_n 0, 1) := by decide +kernel
theorem dX12_plan_192 : decode cX12_plan 192 = .ok (.getfield 140, 3) := by decide +kernel
theorem dX12_plan_195 : decode cX12_plan 195 = .ok (.if_icmp .ge 24, 3) := by decide +kernel
theorem dX12_plan_198 : decode cX12_plan 198 = .ok (.aload_n 0, 1) := by decide +kernel
theorem dX12_plan_199 : decode cX12_plan 199 = .ok (.getfield 123, 3) := by decide +kernel
theorem dX12_plan_202 : decode cX12_plan 202 = .ok (.iload_n 2, 1) := by decide +kernel
theorem dX12_plan_203 : decode cX12_plan 203 = .ok (.iaload, 1) := by decide +kernel
theorem dX12_plan_204 : decode cX12_plan 204 = .ok (.iconst (-1), 1) := by decide +kernel
theorem dX12_plan_205 : decode cX12_plan 205 = .ok (.if_icmp .ne 8, 3) := by decide +kernel
theorem dX12_plan_208 : decode cX12_plan 208 = .ok (.aload_n 0, 1) := by decide +kernel
theorem dX12_plan_209 : decode cX12_plan 209 = .ok (.iload_n 2, 1) := by decide +kernel
theorem dX12_plan_210 : decode cX12_plan 210 = .ok (.invokevirtual 240, 3) := by decide +kernel
theorem dX12_plan_213 : decode cX12_plan 213 = .ok (.iinc 2 1, 3) := by decide +kernel
theorem dX12_plan_216 : decode cX12_plan 216 = .ok (.goto (-26), 3) := by decide +kernel
theorem dX12_plan_219 : decode cX12_plan 219 = .ok (.return_, 1) := by decide +kernel
theorem dX12_spread_0 : decode cX12_spread 0 = .ok (.aload_n 0, 1) := by decide +kernel
theorem dX12_spread_1 : decode cX12_spread 1 = .ok (.getfield 123, 3) := by decide +kernel
theorem dX12_spread_4 : decode cX12_spread 4 = .ok (.iload_n 1, 1) := by decide +kernel
theorem dX12_spread_5 : decode cX12_spread 5 = .ok (.iload_n 1, 1) := by decide +kernel
theorem dX12_spread_6 : decode cX12_spread 6 = .ok (.iastore, 1) := by decide +kernel
theorem dX12_spread_7 : decode cX12_spread 7 = .ok (.aload_n 0, 1) := by decide +kernel
theorem dX12_spread_8 : decode cX12_spread 8 = .ok (.getfield 65, 3) := by decide +kernel
theorem dX12_spread_11 : decode cX12_spread 11 = .ok (.iload_n 1, 1) := by decide +kernel
theorem dX12_spread_12 : decode cX12_spread 12 = .ok (.iconst 0, 1) := by decide +kernel
theorem dX12_spread_13 : decode cX12_spread 13 = .ok (.iastore, 1) := by decide +kernel
theorem dX12_spread_14 : decode cX12_spread 14 = .ok (.iconst 1, 1) := by decide +kernel
theorem dX12_spread_15 : decode cX12_spread 15 = .ok (.istore_n 2, 1) := by decide +kernel
theorem dX12_spread_16 : decode cX12_spread 16 = .ok (.iload_n 2, 1) := by decide +kernel
theorem dX12_spread_17 : decode cX12_spread 17 = .ok (.ifCond .eq 139, 3) := by decide +kernel
theorem dX12_spread_20 : decode cX12_spread 20 = .ok (.iconst 0, 1) := by decide +kernel
theorem dX12_spread_21 : decode cX12_spread 21 = .ok (.istore_n 2, 1) := by decide +kernel
theorem dX12_spread_22 : decode cX12_spread 22 = .ok (.iconst 0, 1) := by decide +kernel
theorem dX12_spread_23 : decode cX12_spread 23 = .ok (.istore_n 3, 1) := by decide +kernel
theorem dX12_spread_24 : decode cX12_spread 24 = .ok (.iload_n 3, 1) := by decide +kernel
theorem dX12_spread_25 : decode cX12_spread 25 = .ok (.aload_n 0, 1) := by decide +kernel
theorem dX12_spread_26 : decode cX12_spread 26 = .ok (.getfield 237, 3) := by decide +kernel
theorem dX12_spread_29 : decode cX12_spread 29 = .ok (.if_icmp .ge 124, 3) := by decide +kernel
theorem dX12_spread_32 : decode cX12_spread 32 = .ok (.aload_n 0, 1) := by decide +kernel
theorem dX12_spread_33 : decode cX12_spread 33 = .ok (.getfield 117, 3) := by decide +kernel
theorem dX12_spread_36 : decode cX12_spread 36 = .ok (.iload_n 3, 1) := by decide +kernel
theorem dX12_spread_37 : decode cX12_spread 37 = .ok (.iaload, 1) := by decide +kernel
theorem dX12_spread_38 : decode cX12_spread 38 = .ok (.istore 4, 2) := by decide +kernel
theorem dX12_spread_40 : decode cX12_spread 40 = .ok (.aload_n 0, 1) := by decide +kernel
theorem dX12_spread_41 : decode cX12_spread 41 = .ok (.getfield 120, 3) := by decide +kernel
theorem dX12_spread_44 : decode cX12_spread 44 = .ok (.iload_n 3, 1) := by decide +kernel
theorem dX12_spread_45 : decode cX12_spread 45 = .ok (.iaload, 1) := by decide +kernel
theorem dX12_spread_46 : decode cX12_spread 46 = .ok (.istore 5, 2) := by decide +kernel
theorem dX12_spread_48 : decode cX12_spread 48 = .ok (.aload_n 0, 1) := by decide +kernel
theorem dX12_spread_49 : decode cX12_spread 49 = .ok (.getfield 123, 3) := by decide +kernel
theorem dX12_spread_52 : decode cX12_spread 52 = .ok (.iload 4, 2) := by decide +kernel
theorem dX12_spread_54 : decode cX12_spread 54 = .ok (.iaload, 1) := by decide +kernel
theorem dX12_spread_55 : decode cX12_spread 55 = .ok (.iload_n 1, 1) := by decide +kernel
theorem dX12_spread_56 : decode cX12_spread 56 = .ok (.if_icmp .ne 43, 3) := by decide +kernel
theorem dX12_spread_59 : decode cX12_spread 59 = .ok (.aload_n 0, 1) := by decide +kernel
theorem dX12_spread_60 : decode cX12_spread 60 = .ok (.getfield 123, 3) := by decide +kernel
theorem dX12_spread_63 : decode cX12_spread 63 = .ok (.iload 5, 2) := by decide +kernel
theorem dX12_spread_65 : decode cX12_spread 65 = .ok (.iaload, 1) := by decide +kernel
theorem dX12_spread_66 : decode cX12_spread 66 = .ok (.iconst (-1), 1) := by decide +kernel
theorem dX12_spread_67 : decode cX12_spread 67 = .ok (.if_icmp .ne 32, 3) := by decide +kernel
theorem dX12_spread_70 : decode cX12_spread 70 = .ok (.aload_n 0, 1) := by decide +kernel
theorem dX12_spread_71 : decode cX12_spread 71 = .ok (.getfield 123, 3) := by decide +kernel
theorem dX12_spread_74 : decode cX12_spread 74 = .ok (.iload 5, 2) := by decide +kernel
theorem dX12_spread_76 : decode cX12_spread 76 = .ok (.iload_n 1, 1) := by decide +kernel
theorem dX12_spread_77 : decode cX12_spread 77 = .ok (.iastore, 1) := by decide +kernel
theorem dX12_spread_78 : decode cX12_spread 78 = .ok (.aload_n 0, 1) := by decide +kernel
theorem dX12_spread_79 : decode cX12_spread 79 = .ok (.getfield 65, 3) := by decide +kernel
theorem dX12_spread_82 : decode cX12_spread 82 = .ok (.iload 5, 2) := by decide +kernel
theorem dX12_spread_84 : decode cX12_spread 84 = .ok (.iconst 1, 1) := by decide +kernel
theorem dX12_spread_85 : decode cX12_spread 85 = .ok (.aload_n 0, 1) := by decide +kernel
theorem dX12_spread_86 : decode cX12_spread 86 = .ok (.getfield 65, 3) := by decide +kernel
theorem dX12_spread_89 : decode cX12_spread 89 = .ok (.iload 4, 2) := by decide +kernel
theorem dX12_spread_91 : decode cX12_spread 91 = .ok (.iaload, 1) := by decide +kernel
theorem dX12_spread_92 : decode cX12_spread 92 = .ok (.isub, 1) := by decide +kernel
theorem dX12_spread_93 : decode cX12_spread 93 = .ok (.iastore, 1) := by decide +kernel
theorem dX12_spread_94 : decode cX12_spread 94 = .ok (.iconst 1, 1) := by decide +kernel
theorem dX12_spread_95 : decode cX12_spread 95 = .ok (.istore_n 2, 1) := by decide +kernel
theorem dX12_spread_96 : decode cX12_spread 96 = .ok (.goto 51, 3) := by decide +kernel
theorem dX12_spread_99 : decode cX12_spread 99 = .ok (.aload_n 0, 1) := by decide +kernel
theorem dX12_spread_100 : decode cX12_spread 100 = .ok (.getfield 123, 3) := by decide +kernel
theorem dX12_spread_103 : decode cX12_spread 103 = .ok (.iload 5, 2) := by decide +kernel
theorem dX12_spread_105 : decode cX12_spread 105 = .ok (.iaload, 1) := by decide +kernel
theorem dX12_spread_106 : decode cX12_spread 106 = .ok (.iload_n 1, 1) := by decide +kernel
theorem dX12_spread_107 : decode cX12_spread 107 = .ok (.if_icmp .ne 40, 3) := by decide +kernel
theorem dX12_spread_110 : decode cX12_spread 110 = .ok (.aload_n 0, 1) := by decide +kernel
theorem dX12_spread_111 : decode cX12_spread 111 = .ok (.getfield 123, 3) := by decide +kernel
theorem dX12_spread_114 : decode cX12_spread 114 = .ok (.iload 4, 2) := by decide +kernel
theorem dX12_spread_116 : decode cX12_spread 116 = .ok (.iaload, 1) := by decide +kernel
theorem dX12_spread_117 : decode cX12_spread 117 = .ok (.iconst (-1), 1) := by decide +kernel
theorem dX12_spread_118 : decode cX12_spread 118 = .ok (.if_icmp .ne 29, 3) := by decide +kernel
theorem dX12_spread_121 : decode cX12_spread 121 = .ok (.aload_n 0, 1) := by decide +kernel
theorem dX12_spread_122 : decode cX12_spread 122 = .ok (.getfield 123, 3) := by decide +kernel
theorem dX12_spread_125 : decode cX12_spread 125 = .ok (.iload 4, 2) := by decide +kernel
theorem dX12_spread_127 : decode cX12_spread 127 = .ok (.iload_n 1, 1) := by decide +kernel
theorem dX12_spread_128 : decode cX12_spread 128 = .ok (.iastore, 1) := by decide +kernel
theorem dX12_spread_129 : decode cX12_spread 129 = .ok (.aload_n 0, 1) := by decide +kernel
theorem dX12_spread_130 : decode cX12_spread 130 = .ok (.getfield 65, 3) := by decide +kernel
theorem dX12_spread_133 : decode cX12_spread 133 = .ok (.iload 4, 2) := by decide +kernel
theorem dX12_spread_135 : decode cX12_spread 135 = .ok (.iconst 1, 1) := by decide +kernel
theorem dX12_spread_136 : decode cX12_spread 136 = .ok (.aload_n 0, 1) := by decide +kernel
theorem dX12_spread_137 : decode cX12_spread 137 = .ok (.getfield 65, 3) := by decide +kernel
theorem dX12_spread_140 : decode cX12_spread 140 = .ok (.iload 5, 2) := by decide +kernel
theorem dX12_spread_142 : decode cX12_spread 142 = .ok (.iaload, 1) := by decide +kernel
theorem dX12_spread_143 : decode cX12_spread 143 = .ok (.isub, 1) := by decide +kernel
theorem dX12_spread_144 : decode cX12_spread 144 = .ok (.iastore, 1) := by decide +kernel
theorem dX12_spread_145 : decode cX12_spread 145 = .ok (.iconst 1, 1) := by decide +kernel
theorem dX12_spread_146 : decode cX12_spread 146 = .ok (.istore_n 2, 1) := by decide +kernel
theorem dX12_spread_147 : decode cX12_spread 147 = .ok (.iinc 3 1, 3) := by decide +kernel
theorem dX12_spread_150 : decode cX12_spread 150 = .ok (.goto (-126), 3) := by decide +kernel
theorem dX12_spread_153 : decode cX12_spread 153 = .ok (.goto (-137), 3) := by decide +kernel
theorem dX12_spread_156 : decode cX12_spread 156 = .ok (.iconst 0, 1) := by decide +kernel
theorem dX12_spread_157 : decode cX12_spread 157 = .ok (.istore_n 3, 1) := by decide +kernel
theorem dX12_spread_158 : decode cX12_spread 158 = .ok (.iload_n 3, 1) := by decide +kernel
theorem dX12_spread_159 : decode cX12_spread 159 = .ok (.aload_n 0, 1) := by decide +kernel
theorem dX12_spread_160 : decode cX12_spread 160 = .ok (.getfield 237, 3) := by decide +kernel
theorem dX12_spread_163 : decode cX12_spread 163 = .ok (.if_icmp .ge 56, 3) := by decide +kernel
theorem dX12_spread_166 : decode cX12_spread 166 = .ok (.aload_n 0, 1) := by decide +kernel
theorem dX12_spread_167 : decode cX12_spread 167 = .ok (.getfield 123, 3) := by decide +kernel
theorem dX12_spread_170 : decode cX12_spread 170 = .ok (.aload_n 0, 1) := by decide +kernel
theorem dX12_spread_171 : decode cX12_spread 171 = .ok (.getfield 117, 3) := by decide +kernel
theorem dX12_spread_174 : decode cX12_spread 174 = .ok (.iload_n 3, 1) := by decide +kernel
theorem dX12_spread_175 : decode cX12_spread 175 = .ok (.iaload, 1) := by decide +kernel
theorem dX12_spread_176 : decode cX12_spread 176 = .ok (.iaload, 1) := by decide +kernel
theorem dX12_spread_177 : decode cX12_spread 177 = .ok (.iload_n 1, 1) := by decide +kernel
theorem dX12_spread_178 : decode cX12_spread 178 = .ok (.if_icmp .ne 35, 3) := by decide +kernel
theorem dX12_spread_181 : decode cX12_spread 181 = .ok (.aload_n 0, 1) := by decide +kernel
theorem dX12_spread_182 : decode cX12_spread 182 = .ok (.getfield 65, 3) := by decide +kernel
theorem dX12_spread_185 : decode cX12_spread 185 = .ok (.aload_n 0, 1) := by decide +kernel
theorem dX12_spread_186 : decode cX12_spread 186 = .ok (.getfield 117, 3) := by decide +kernel
theorem dX12_spread_189 : decode cX12_spread 189 = .ok (.iload_n 3, 1) := by decide +kernel
theorem dX12_spread_190 : decode cX12_spread 190 = .ok (.iaload, 1) := by decide +kernel
theorem dX12_spread_191 : decode cX12_spread 191 = .ok (.iaload, 1) := by decide +kernel
theorem dX12_spread_192 : decode cX12_spread 192 = .ok (.aload_n 0, 1) := by decide +kernel
theorem dX12_spread_193 : decode cX12_spread 193 = .ok (.getfield 65, 3) := by decide +kernel
theorem dX12_spread_196 : decode cX12_spread 196 = .ok (.aload_n 0, 1) := by decide +kernel
theorem dX12_spread_197 : decode cX12_spread 197 = .ok (.getfield 120, 3) := by decide +kernel
theorem dX12_spread_200 : decode cX12_spread 200 = .ok (.iload_n 3, 1) := by decide +kernel
theorem dX12_spread_201 : decode cX12_spread 201 = .ok (.iaload, 1) := by decide +kernel
theorem dX12_spread_202 : decode cX12_spread 202 = .ok (.iaload, 1) := by decide +kernel
theorem dX12_spread_203 : decode cX12_spread 203 = .ok (.if_icmp .ne 10, 3) := by decide +kernel
theorem dX12_spread_206 : decode cX12_spread 206 = .ok (.aload_n 0, 1) := by decide +kernel
theorem dX12_spread_207 : decode cX12_spread 207 = .ok (.getfield 129, 3) := by decide +kernel
theorem dX12_spread_210 : decode cX12_spread 210 = .ok (.iload_n 1, 1) := by decide +kernel
theorem dX12_spread_211 : decode cX12_spread 211 = .ok (.iconst 1, 1) := by decide +kernel
theorem dX12_spread_212 : decode cX12_spread 212 = .ok (.bastore, 1) := by decide +kernel
theorem dX12_spread_213 : decode cX12_spread 213 = .ok (.iinc 3 1, 3) := by decide +kernel
theorem dX12_spread_216 : decode cX12_spread 216 = .ok (.goto (-58), 3) := by decide +kernel
theorem dX12_spread_219 : decode cX12_spread 219 = .ok (.return_, 1) := by decide +kernel
theorem dX12_later_0 : decode cX12_later 0 = .ok (.aload_n 0, 1) := by decide +kernel
theorem dX12_later_1 : decode cX12_later 1 = .ok (.iconst 0, 1) := by decide +kernel
theorem dX12_later_2 : decode cX12_later 2 = .ok (.putfield 136, 3) := by decide +kernel
theorem dX12_later_5 : decode cX12_later 5 = .ok (.iload_n 1, 1) := by decide +kernel
theorem dX12_later_6 : decode cX12_later 6 = .ok (.ifCond .lt 11, 3) := by decide +kernel
theorem dX12_later_9 : decode cX12_later 9 = .ok (.iload_n 1, 1) := by decide +kernel
theorem dX12_later_10 : decode cX12_later 10 = .ok (.aload_n 0, 1) := by decide +kernel
theorem dX12_later_11 : decode cX12_later 11 = .ok (.getfield 167, 3) := by decide +kernel
theorem dX12_later_14 : decode cX12_later 14 = .ok (.if_icmp .le 9, 3) := by decide +kernel
theorem dX12_later_17 : decode cX12_later 17 = .ok (.aload_n 0, 1) := by decide +kernel
theorem dX12_later_18 : decode cX12_later 18 = .ok (.iconst 1, 1) := by decide +kernel
theorem dX12_later_19 : decode cX12_later 19 = .ok (.invokevirtual 164, 3) := by decide +kernel
theorem dX12_later_22 : decode cX12_later 22 = .ok (.ireturn, 1) := by decide +kernel
theorem dX12_later_23 : decode cX12_later 23 = .ok (.iload_n 2, 1) := by decide +kernel
theorem dX12_later_24 : decode cX12_later 24 = .ok (.ifCond .lt 8, 3) := by decide +kernel
theorem dX12_later_27 : decode cX12_later 27 = .ok (.iload_n 2, 1) := by decide +kernel
theorem dX12_later_28 : decode cX12_later 28 = .ok (.iconst 3, 1) := by decide +kernel
theorem dX12_later_29 : decode cX12_later 29 = .ok (.if_icmp .le 9, 3) := by decide +kernel
theorem dX12_later_32 : decode cX12_later 32 = .ok (.aload_n 0, 1) := by decide +kernel
theorem dX12_later_33 : decode cX12_later 33 = .ok (.iconst 2, 1) := by decide +kernel
theorem dX12_later_34 : decode cX12_later 34 = .ok (.invokevirtual 164, 3) := by decide +kernel
theorem dX12_later_37 : decode cX12_later 37 = .ok (.ireturn, 1) := by decide +kernel
theorem dX12_later_38 : decode cX12_later 38 = .ok (.aload_n 0, 1) := by decide +kernel
theorem dX12_later_39 : decode cX12_later 39 = .ok (.iload_n 1, 1) := by decide +kernel
theorem dX12_later_40 : decode cX12_later 40 = .ok (.invokevirtual 243, 3) := by decide +kernel
theorem dX12_later_43 : decode cX12_later 43 = .ok (.iconst 0, 1) := by decide +kernel
theorem dX12_later_44 : decode cX12_later 44 = .ok (.istore_n 3, 1) := by decide +kernel
theorem dX12_later_45 : decode cX12_later 45 = .ok (.iconst 0, 1) := by decide +kernel
theorem dX12_later_46 : decode cX12_later 46 = .ok (.istore 4, 2) := by decide +kernel
theorem dX12_later_48 : decode cX12_later 48 = .ok (.iconst 0, 1) := by decide +kernel
theorem dX12_later_49 : decode cX12_later 49 = .ok (.istore 5, 2) := by decide +kernel
theorem dX12_later_51 : decode cX12_later 51 = .ok (.iconst 0, 1) := by decide +kernel
theorem dX12_later_52 : decode cX12_later 52 = .ok (.istore 6, 2) := by decide +kernel
theorem dX12_later_54 : decode cX12_later 54 = .ok (.iload 6, 2) := by decide +kernel
theorem dX12_later_56 : decode cX12_later 56 = .ok (.aload_n 0, 1) := by decide +kernel
theorem dX12_later_57 : decode cX12_later 57 = .ok (.getfield 140, 3) := by decide +kernel
theorem dX12_later_60 : decode cX12_later 60 = .ok (.if_icmp .ge 17, 3) := by decide +kernel
theorem dX12_later_63 : decode cX12_later 63 = .ok (.aload_n 0, 1) := by decide +kernel
theorem dX12_later_64 : decode cX12_later 64 = .ok (.getfield 126, 3) := by decide +kernel
theorem dX12_later_67 : decode cX12_later 67 = .ok (.iload 6, 2) := by decide +kernel
theorem dX12_later_69 : decode cX12_later 69 = .ok (.iconst 0, 1) := by decide +kernel
theorem dX12_later_70 : decode cX12_later 70 = .ok (.iastore, 1) := by decide +kernel
theorem dX12_later_71 : decode cX12_later 71 = .ok (.iinc 6 1, 3) := by decide +kernel
theorem dX12_later_74 : decode cX12_later 74 = .ok (.goto (-20), 3) := by decide +kernel
theorem dX12_later_77 : decode cX12_later 77 = .ok (.iconst 0, 1) := by decide +kernel
theorem dX12_later_78 : decode cX12_later 78 = .ok (.istore 6, 2) := by decide +kernel
theorem dX12_later_80 : decode cX12_later 80 = .ok (.iload 6, 2) := by decide +kernel
theorem dX12_later_82 : decode cX12_later 82 = .ok (.aload_n 0, 1) := by decide +kernel
theorem dX12_later_83 : decode cX12_later 83 = .ok (.getfield 140, 3) := by decide +kernel
theorem dX12_later_86 : decode cX12_later 86 = .ok (.if_icmp .ge 113, 3) := by decide +kernel
theorem dX12_later_89 : decode cX12_later 89 = .ok (.aload_n 0, 1) := by decide +kernel
theorem dX12_later_90 : decode cX12_later 90 = .ok (.getfield 126, 3) := by decide +kernel
theorem dX12_later_93 : decode cX12_later 93 = .ok (.aload_n 0, 1) := by decide +kernel
theorem dX12_later_94 : decode cX12_later 94 = .ok (.getfield 123, 3) := by decide +kernel
theorem dX12_later_97 : decode cX12_later 97 = .ok (.iload 6, 2) := by decide +kernel
theorem dX12_later_99 : decode cX12_later 99 = .ok (.iaload, 1) := by decide +kernel
theorem dX12_later_100 : decode cX12_later 100 = .ok (.dup2, 1) := by decide +kernel
theorem dX12_later_101 : decode cX12_later 101 = .ok (.iaload, 1) := by decide +kernel
theorem dX12_later_102 : decode cX12_later 102 = .ok (.iconst 1, 1) := by decide +kernel
theorem dX12_later_103 : decode cX12_later 103 = .ok (.iadd, 1) := by decide +kernel
theorem dX12_later_104 : decode cX12_later 104 = .ok (.iastore, 1) := by decide +kernel
theorem dX12_later_105 : decode cX12_later 105 = .ok (.aload_n 0, 1) := by decide +kernel
theorem dX12_later_106 : decode cX12_later 106 = .ok (.getfield 126, 3) := by decide +kernel
theorem dX12_later_109 : decode cX12_later 109 = .ok (.aload_n 0, 1) := by decide +kernel
theorem dX12_later_110 : decode cX12_later 110 = .ok (.getfield 123, 3) := by decide +kernel
theorem dX12_later_113 : decode cX12_later 113 = .ok (.iload 6, 2) := by decide +kernel
theorem dX12_later_115 : decode cX12_later 115 = .ok (.iaload, 1) := by decide +kernel
theorem dX12_later_116 : decode cX12_later 116 = .ok (.iaload, 1) := by decide +kernel
theorem dX12_later_117 : decode cX12_later 117 = .ok (.iload 5, 2) := by decide +kernel
theorem dX12_later_119 : decode cX12_later 119 = .ok (.if_icmp .le 18, 3) := by decide +kernel
theorem dX12_later_122 : decode cX12_later 122 = .ok (.aload_n 0, 1) := by decide +kernel
theorem dX12_later_123 : decode cX12_later 123 = .ok (.getfield 126, 3) := by decide +kernel
theorem dX12_later_126 : decode cX12_later 126 = .ok (.aload_n 0, 1) := by decide +kernel
theorem dX12_later_127 : decode cX12_later 127 = .ok (.getfield 123, 3) := by decide +kernel
theorem dX12_later_130 : decode cX12_later 130 = .ok (.iload 6, 2) := by decide +kernel
theorem dX12_later_132 : decode cX12_later 132 = .ok (.iaload, 1) := by decide +kernel
theorem dX12_later_133 : decode cX12_later 133 = .ok (.iaload, 1) := by decide +kernel
theorem dX12_later_134 : decode cX12_later 134 = .ok (.goto 5, 3) := by decide +kernel
theorem dX12_later_137 : decode cX12_later 137 = .ok (.iload 5, 2) := by decide +kernel
theorem dX12_later_139 : decode cX12_later 139 = .ok (.istore 5, 2) := by decide +kernel
theorem dX12_later_141 : decode cX12_later 141 = .ok (.iload_n 3, 1) := by decide +kernel
theorem dX12_later_142 : decode cX12_later 142 = .ok (.aload_n 0, 1) := by decide +kernel
theorem dX12_later_143 : decode cX12_later 143 = .ok (.getfield 123, 3) := by decide +kernel
theorem dX12_later_146 : decode cX12_later 146 = .ok (.iload 6, 2) := by decide +kernel
theorem dX12_later_148 : decode cX12_later 148 = .ok (.iaload, 1) := by decide +kernel
theorem dX12_later_149 : decode cX12_later 149 = .ok (.iload 6, 2) := by decide +kernel
theorem dX12_later_151 : decode cX12_later 151 = .ok (.if_icmp .ne 7, 3) := by decide +kernel
theorem dX12_later_154 : decode cX12_later 154 = .ok (.iconst 1, 1) := by decide +kernel
theorem dX12_later_155 : decode cX12_later 155 = .ok (.goto 4, 3) := by decide +kernel
theorem dX12_later_158 : decode cX12_later 158 = .ok (.iconst 0, 1) := by decide +kernel
theorem dX12_later_159 : decode cX12_later 159 = .ok (.iadd, 1) := by decide +kernel
theorem dX12_later_160 : decode cX12_later 160 = .ok (.istore_n 3, 1) := by decide +kernel
theorem dX12_later_161 : decode cX12_later 161 = .ok (.iload 4, 2) := by decide +kernel
theorem dX12_later_163 : decode cX12_later 163 = .ok (.aload_n 0, 1) := by decide +kernel
theorem dX12_later_164 : decode cX12_later 164 = .ok (.getfield 123, 3) := by decide +kernel
theorem dX12_later_167 : decode cX12_later 167 = .ok (.iload 6, 2) := by decide +kernel
theorem dX12_later_169 : decode cX12_later 169 = .ok (.iaload, 1) := by decide +kernel
theorem dX12_later_170 : decode cX12_later 170 = .ok (.iload 6, 2) := by decide +kernel
theorem dX12_later_172 : decode cX12_later 172 = .ok (.if_icmp .ne 17, 3) := by decide +kernel
theorem dX12_later_175 : decode cX12_later 175 = .ok (.aload_n 0, 1) := by decide +kernel
theorem dX12_later_176 : decode cX12_later 176 = .ok (.getfield 129, 3) := by decide +kernel
theorem dX12_later_179 : decode cX12_later 179 = .ok (.iload 6, 2) := by decide +kernel
theorem dX12_later_181 : decode cX12_later 181 = .ok (.baload, 1) := by decide +kernel
theorem dX12_later_182 : decode cX12_later 182 = .ok (.ifCond .ne 7, 3) := by decide +kernel
theorem dX12_later_185 : decode cX12_later 185 = .ok (.iconst 1, 1) := by decide +kernel
theorem dX12_later_186 : decode cX12_later 186 = .ok (.goto 4, 3) := by decide +kernel
theorem dX12_later_189 : decode cX12_later 189 = .ok (.iconst 0, 1) := by decide +kernel
theorem dX12_later_190 : decode cX12_later 190 = .ok (.iadd, 1) := by decide +kernel
theorem dX12_later_191 : decode cX12_later 191 = .ok (.istore 4, 2) := by decide +kernel
theorem dX12_later_193 : decode cX12_later 193 = .ok (.iinc 6 1, 3) := by decide +kernel
theorem dX12_later_196 : decode cX12_later 196 = .ok (.goto (-116), 3) := by decide +kernel
theorem dX12_later_199 : decode cX12_later 199 = .ok (.iload_n 2, 1) := by decide +kernel
theorem dX12_later_200 : decode cX12_later 200 = .ok (.ifCond .ne 7, 3) := by decide +kernel
theorem dX12_later_203 : decode cX12_later 203 = .ok (.iload_n 3, 1) := by decide +kernel
theorem dX12_later_204 : decode cX12_later 204 = .ok (.goto 27, 3) := by decide +kernel
theorem dX12_later_207 : decode cX12_later 207 = .ok (.iload_n 2, 1) := by decide +kernel
theorem dX12_later_208 : decode cX12_later 208 = .ok (.iconst 1, 1) := by decide +kernel
theorem dX12_later_209 : decode cX12_later 209 = .ok (.if_icmp .ne 8, 3) := by decide +kernel
theorem dX12_later_212 : decode cX12_later 212 = .ok (.iload 4, 2) := by decide +kernel
theorem dX12_later_214 : decode cX12_later 214 = .ok (.goto 17, 3) := by decide +kernel
theorem dX12_later_217 : decode cX12_later 217 = .ok (.iload_n 2, 1) := by decide +kernel
theorem dX12_later_218 : decode cX12_later 218 = .ok (.iconst 2, 1) := by decide +kernel
theorem dX12_later_219 : decode cX12_later 219 = .ok (.if_icmp .ne 8, 3) := by decide +kernel
theorem dX12_later_222 : decode cX12_later 222 = .ok (.iload 5, 2) := by decide +kernel
theorem dX12_later_224 : decode cX12_later 224 = .ok (.goto 7, 3) := by decide +kernel
theorem dX12_later_227 : decode cX12_later 227 = .ok (.aload_n 0, 1) := by decide +kernel
theorem dX12_later_228 : decode cX12_later 228 = .ok (.getfield 237, 3) := by decide +kernel
theorem dX12_later_231 : decode cX12_later 231 = .ok (.ireturn, 1) := by decide +kernel
theorem dX12_laterJoined_0 : decode cX12_laterJoined 0 = .ok (.aload_n 0, 1) := by decide +kernel
theorem dX12_laterJoined_1 : decode cX12_laterJoined 1 = .ok (.iconst 0, 1) := by decide +kernel
theorem dX12_laterJoined_2 : decode cX12_laterJoined 2 = .ok (.putfield 136, 3) := by decide +kernel
theorem dX12_laterJoined_5 : decode cX12_laterJoined 5 = .ok (.iload_n 1, 1) := by decide +kernel
theorem dX12_laterJoined_6 : decode cX12_laterJoined 6 = .ok (.ifCond .lt 27, 3) := by decide +kernel
theorem dX12_laterJoined_9 : decode cX12_laterJoined 9 = .ok (.iload_n 1, 1) := by decide +kernel
theorem dX12_laterJoined_10 : decode cX12_laterJoined 10 = .ok (.aload_n 0, 1) := by decide +kernel
theorem dX12_laterJoined_11 : decode cX12_laterJoined 11 = .ok (.getfield 167, 3) := by decide +kernel
theorem dX12_laterJoined_14 : decode cX12_laterJoined 14 = .ok (.if_icmp .gt 19, 3) := by decide +kernel
theorem dX12_laterJoined_17 : decode cX12_laterJoined 17 = .ok (.aload_n 0, 1) := by decide +kernel
theorem dX12_laterJoined_18 : decode cX12_laterJoined 18 = .ok (.iload_n 2, 1) := by decide +kernel
theorem dX12_laterJoined_19 : decode cX12_laterJoined 19 = .ok (.invokevirtual 176, 3) := by decide +kernel
theorem dX12_laterJoined_22 : decode cX12_laterJoined 22 = .ok (.ifCond .eq 11, 3) := by decide +kernel
theorem dX12_laterJoined_25 : decode cX12_laterJoined 25 = .ok (.aload_n 0, 1) := by decide +kernel
theorem dX12_laterJoined_26 : decode cX12_laterJoined 26 = .ok (.iload_n 3, 1) := by decide +kernel
theorem dX12_laterJoined_27 : decode cX12_laterJoined 27 = .ok (.invokevirtual 176, 3) := by decide +kernel
theorem dX12_laterJoined_30 : decode cX12_laterJoined 30 = .ok (.ifCond .ne 17, 3) := by decide +kernel
theorem dX12_laterJoined_33 : decode cX12_laterJoined 33 = .ok (.aload_n 0, 1) := by decide +kernel
theorem dX12_laterJoined_34 : decode cX12_laterJoined 34 = .ok (.iconst 1, 1) := by decide +kernel
theorem dX12_laterJoined_35 : decode cX12_laterJoined 35 = .ok (.invokevirtual 164, 3) := by decide +kernel
theorem dX12_laterJoined_38 : decode cX12_laterJoined 38 = .ok (.ifCond .le 7, 3) := by decide +kernel
theorem dX12_laterJoined_41 : decode cX12_laterJoined 41 = .ok (.iconst 1, 1) := by decide +kernel
theorem dX12_laterJoined_42 : decode cX12_laterJoined 42 = .ok (.goto 4, 3) := by decide +kernel
theorem dX12_laterJoined_45 : decode cX12_laterJoined 45 = .ok (.iconst 0, 1) := by decide +kernel
theorem dX12_laterJoined_46 : decode cX12_laterJoined 46 = .ok (.ireturn, 1) := by decide +kernel
theorem dX12_laterJoined_47 : decode cX12_laterJoined 47 = .ok (.aload_n 0, 1) := by decide +kernel
theorem dX12_laterJoined_48 : decode cX12_laterJoined 48 = .ok (.iload_n 1, 1) := by decide +kernel
theorem dX12_laterJoined_49 : decode cX12_laterJoined 49 = .ok (.invokevirtual 243, 3) := by decide +kernel
theorem dX12_laterJoined_52 : decode cX12_laterJoined 52 = .ok (.aload_n 0, 1) := by decide +kernel
theorem dX12_laterJoined_53 : decode cX12_laterJoined 53 = .ok (.getfield 123, 3) := by decide +kernel
theorem dX12_laterJoined_56 : decode cX12_laterJoined 56 = .ok (.iload_n 2, 1) := by decide +kernel
theorem dX12_laterJoined_57 : decode cX12_laterJoined 57 = .ok (.iaload, 1) := by decide +kernel
theorem dX12_laterJoined_58 : decode cX12_laterJoined 58 = .ok (.aload_n 0, 1) := by decide +kernel
theorem dX12_laterJoined_59 : decode cX12_laterJoined 59 = .ok (.getfield 123, 3) := by decide +kernel
theorem dX12_laterJoined_62 : decode cX12_laterJoined 62 = .ok (.iload_n 3, 1) := by decide +kernel
theorem dX12_laterJoined_63 : decode cX12_laterJoined 63 = .ok (.iaload, 1) := by decide +kernel
theorem dX12_laterJoined_64 : decode cX12_laterJoined 64 = .ok (.if_icmp .ne 7, 3) := by decide +kernel
theorem dX12_laterJoined_67 : decode cX12_laterJoined 67 = .ok (.iconst 1, 1) := by decide +kernel
theorem dX12_laterJoined_68 : decode cX12_laterJoined 68 = .ok (.goto 4, 3) := by decide +kernel
theorem dX12_laterJoined_71 : decode cX12_laterJoined 71 = .ok (.iconst 0, 1) := by decide +kernel
theorem dX12_laterJoined_72 : decode cX12_laterJoined 72 = .ok (.ireturn, 1) := by decide +kernel
theorem dX12_drop_0 : decode cX12_drop 0 = .ok (.aload_n 0, 1) := by decide +kernel
theorem dX12_drop_1 : decode cX12_drop 1 = .ok (.iconst 0, 1) := by decide +kernel
theorem dX12_drop_2 : decode cX12_drop 2 = .ok (.putfield 136, 3) := by decide +kernel
theorem dX12_drop_5 : decode cX12_drop 5 = .ok (.aload_n 0, 1) := by decide +kernel
theorem dX12_drop_6 : decode cX12_drop 6 = .ok (.getfield 167, 3) := by decide +kernel
theorem dX12_drop_9 : decode cX12_drop 9 = .ok (.istore_n 1, 1) := by decide +kernel
theorem dX12_drop_10 : decode cX12_drop 10 = .ok (.aload_n 0, 1) := by decide +kernel
theorem dX12_drop_11 : decode cX12_drop 11 = .ok (.iconst 0, 1) := by decide +kernel
theorem dX12_drop_12 : decode cX12_drop 12 = .ok (.putfield 167, 3) := by decide +kernel
theorem dX12_drop_15 : decode cX12_drop 15 = .ok (.iload_n 1, 1) := by decide +kernel
theorem dX12_drop_16 : decode cX12_drop 16 = .ok (.ireturn, 1) := by decide +kernel
theorem dX12_told_0 : decode cX12_told 0 = .ok (.aload_n 0, 1) := by decide +kernel
theorem dX12_told_1 : decode cX12_told 1 = .ok (.iconst 0, 1) := by decide +kernel
theorem dX12_told_2 : decode cX12_told 2 = .ok (.putfield 136, 3) := by decide +kernel
theorem dX12_told_5 : decode cX12_told 5 = .ok (.iload_n 1, 1) := by decide +kernel
theorem dX12_told_6 : decode cX12_told 6 = .ok (.ifCond .lt 9, 3) := by decide +kernel
theorem dX12_told_9 : decode cX12_told 9 = .ok (.iload_n 1, 1) := by decide +kernel
theorem dX12_told_10 : decode cX12_told 10 = .ok (.bipush 12, 2) := by decide +kernel
theorem dX12_told_12 : decode cX12_told 12 = .ok (.if_icmp .le 9, 3) := by decide +kernel
theorem dX12_told_15 : decode cX12_told 15 = .ok (.aload_n 0, 1) := by decide +kernel
theorem dX12_told_16 : decode cX12_told 16 = .ok (.iconst 1, 1) := by decide +kernel
theorem dX12_told_17 : decode cX12_told 17 = .ok (.invokevirtual 164, 3) := by decide +kernel
theorem dX12_told_20 : decode cX12_told 20 = .ok (.ireturn, 1) := by decide +kernel
theorem dX12_told_21 : decode cX12_told 21 = .ok (.iconst 0, 1) := by decide +kernel
theorem dX12_told_22 : decode cX12_told 22 = .ok (.istore_n 2, 1) := by decide +kernel
theorem dX12_told_23 : decode cX12_told 23 = .ok (.iload_n 1, 1) := by decide +kernel
theorem dX12_told_24 : decode cX12_told 24 = .ok (.tableswitch 254 0 12 #[68, 73, 78, 83, 254, 127, 254, 162, 201, 254, 254, 244, 249], 68) := by decide +kernel
theorem dX12_told_92 : decode cX12_told 92 = .ok (.aload_n 0, 1) := by decide +kernel
theorem dX12_told_93 : decode cX12_told 93 = .ok (.getfield 140, 3) := by decide +kernel
theorem dX12_told_96 : decode cX12_told 96 = .ok (.ireturn, 1) := by decide +kernel
theorem dX12_told_97 : decode cX12_told 97 = .ok (.aload_n 0, 1) := by decide +kernel
theorem dX12_told_98 : decode cX12_told 98 = .ok (.getfield 146, 3) := by decide +kernel
theorem dX12_told_101 : decode cX12_told 101 = .ok (.ireturn, 1) := by decide +kernel
theorem dX12_told_102 : decode cX12_told 102 = .ok (.aload_n 0, 1) := by decide +kernel
theorem dX12_told_103 : decode cX12_told 103 = .ok (.invokevirtual 206, 3) := by decide +kernel
theorem dX12_told_106 : decode cX12_told 106 = .ok (.ireturn, 1) := by decide +kernel
theorem dX12_told_107 : decode cX12_told 107 = .ok (.iconst 0, 1) := by decide +kernel
theorem dX12_told_108 : decode cX12_told 108 = .ok (.istore_n 3, 1) := by decide +kernel
theorem dX12_told_109 : decode cX12_told 109 = .ok (.iload_n 3, 1) := by decide +kernel
theorem dX12_told_110 : decode cX12_told 110 = .ok (.aload_n 0, 1) := by decide +kernel
theorem dX12_told_111 : decode cX12_told 111 = .ok (.getfield 140, 3) := by decide +kernel
theorem dX12_told_114 : decode cX12_told 114 = .ok (.if_icmp .ge 35, 3) := by decide +kernel
theorem dX12_told_117 : decode cX12_told 117 = .ok (.iload_n 2, 1) := by decide +kernel
theorem dX12_told_118 : decode cX12_told 118 = .ok (.aload_n 0, 1) := by decide +kernel
theorem dX12_told_119 : decode cX12_told 119 = .ok (.iload_n 3, 1) := by decide +kernel
theorem dX12_told_120 : decode cX12_told 120 = .ok (.invokevirtual 160, 3) := by decide +kernel
theorem dX12_told_123 : decode cX12_told 123 = .ok (.iload_n 3, 1) := by decide +kernel
theorem dX12_told_124 : decode cX12_told 124 = .ok (.if_icmp .ne 16, 3) := by decide +kernel
theorem dX12_told_127 : decode cX12_told 127 = .ok (.aload_n 0, 1) := by decide +kernel
theorem dX12_told_128 : decode cX12_told 128 = .ok (.iload_n 3, 1) := by decide +kernel
theorem dX12_told_129 : decode cX12_told 129 = .ok (.invokevirtual 224, 3) := by decide +kernel
theorem dX12_told_132 : decode cX12_told 132 = .ok (.iconst (-1), 1) := by decide +kernel
theorem dX12_told_133 : decode cX12_told 133 = .ok (.if_icmp .ne 7, 3) := by decide +kernel
theorem dX12_told_136 : decode cX12_told 136 = .ok (.iconst 1, 1) := by decide +kernel
theorem dX12_told_137 : decode cX12_told 137 = .ok (.goto 4, 3) := by decide +kernel
theorem dX12_told_140 : decode cX12_told 140 = .ok (.iconst 0, 1) := by decide +kernel
theorem dX12_told_141 : decode cX12_told 141 = .ok (.iadd, 1) := by decide +kernel
theorem dX12_told_142 : decode cX12_told 142 = .ok (.istore_n 2, 1) := by decide +kernel
theorem dX12_told_143 : decode cX12_told 143 = .ok (.iinc 3 1, 3) := by decide +kernel
theorem dX12_told_146 : decode cX12_told 146 = .ok (.goto (-37), 3) := by decide +kernel
theorem dX12_told_149 : decode cX12_told 149 = .ok (.iload_n 2, 1) := by decide +kernel
theorem dX12_told_150 : decode cX12_told 150 = .ok (.ireturn, 1) := by decide +kernel
theorem dX12_told_151 : decode cX12_told 151 = .ok (.iconst 0, 1) := by decide +kernel
theorem dX12_told_152 : decode cX12_told 152 = .ok (.istore_n 3, 1) := by decide +kernel
theorem dX12_told_153 : decode cX12_told 153 = .ok (.iload_n 3, 1) := by decide +kernel
theorem dX12_told_154 : decode cX12_told 154 = .ok (.aload_n 0, 1) := by decide +kernel
theorem dX12_told_155 : decode cX12_told 155 = .ok (.getfield 140, 3) := by decide +kernel
theorem dX12_told_158 : decode cX12_told 158 = .ok (.if_icmp .ge 26, 3) := by decide +kernel
theorem dX12_told_161 : decode cX12_told 161 = .ok (.iload_n 2, 1) := by decide +kernel
theorem dX12_told_162 : decode cX12_told 162 = .ok (.aload_n 0, 1) := by decide +kernel
theorem dX12_told_163 : decode cX12_told 163 = .ok (.iload_n 3, 1) := by decide +kernel
theorem dX12_told_164 : decode cX12_told 164 = .ok (.invokevirtual 218, 3) := by decide +kernel
theorem dX12_told_167 : decode cX12_told 167 = .ok (.iload_n 3, 1) := by decide +kernel
theorem dX12_told_168 : decode cX12_told 168 = .ok (.if_icmp .ne 7, 3) := by decide +kernel
theorem dX12_told_171 : decode cX12_told 171 = .ok (.iconst 1, 1) := by decide +kernel
theorem dX12_told_172 : decode cX12_told 172 = .ok (.goto 4, 3) := by decide +kernel
theorem dX12_told_175 : decode cX12_told 175 = .ok (.iconst 0, 1) := by decide +kernel
theorem dX12_told_176 : decode cX12_told 176 = .ok (.iadd, 1) := by decide +kernel
theorem dX12_told_177 : decode cX12_told 177 = .ok (.istore_n 2, 1) := by decide +kernel
theorem dX12_told_178 : decode cX12_told 178 = .ok (.iinc 3 1, 3) := by decide +kernel
theorem dX12_told_181 : decode cX12_told 181 = .ok (.goto (-28), 3) := by decide +kernel
theorem dX12_told_184 : decode cX12_told 184 = .ok (.iload_n 2, 1) := by decide +kernel
theorem dX12_told_185 : decode cX12_told 185 = .ok (.ireturn, 1) := by decide +kernel
theorem dX12_told_186 : decode cX12_told 186 = .ok (.aload_n 0, 1) := by decide +kernel
theorem dX12_told_187 : decode cX12_told 187 = .ok (.invokevirtual 212, 3) := by decide +kernel
theorem dX12_told_190 : decode cX12_told 190 = .ok (.iconst 0, 1) := by decide +kernel
theorem dX12_told_191 : decode cX12_told 191 = .ok (.istore_n 3, 1) := by decide +kernel
theorem dX12_told_192 : decode cX12_told 192 = .ok (.iload_n 3, 1) := by decide +kernel
theorem dX12_told_193 : decode cX12_told 193 = .ok (.aload_n 0, 1) := by decide +kernel
theorem dX12_told_194 : decode cX12_told 194 = .ok (.getfield 140, 3) := by decide +kernel
theorem dX12_told_197 : decode cX12_told 197 = .ok (.if_icmp .ge 26, 3) := by decide +kernel
theorem dX12_told_200 : decode cX12_told 200 = .ok (.iload_n 2, 1) := by decide +kernel
theorem dX12_told_201 : decode cX12_told 201 = .ok (.aload_n 0, 1) := by decide +kernel
theorem dX12_told_202 : decode cX12_told 202 = .ok (.getfield 99, 3) := by decide +kernel
theorem dX12_told_205 : decode cX12_told 205 = .ok (.iload_n 3, 1) := by decide +kernel
theorem dX12_told_206 : decode cX12_told 206 = .ok (.baload, 1) := by decide +kernel
theorem dX12_told_207 : decode cX12_told 207 = .ok (.ifCond .eq 7, 3) := by decide +kernel
theorem dX12_told_210 : decode cX12_told 210 = .ok (.iconst 1, 1) := by decide +kernel
theorem dX12_told_211 : decode cX12_told 211 = .ok (.goto 4, 3) := by decide +kernel
theorem dX12_told_214 : decode cX12_told 214 = .ok (.iconst 0, 1) := by decide +kernel
theorem dX12_told_215 : decode cX12_told 215 = .ok (.iadd, 1) := by decide +kernel
theorem dX12_told_216 : decode cX12_told 216 = .ok (.istore_n 2, 1) := by decide +kernel
theorem dX12_told_217 : decode cX12_told 217 = .ok (.iinc 3 1, 3) := by decide +kernel
theorem dX12_told_220 : decode cX12_told 220 = .ok (.goto (-28), 3) := by decide +kernel
theorem dX12_told_223 : decode cX12_told 223 = .ok (.iload_n 2, 1) := by decide +kernel
theorem dX12_told_224 : decode cX12_told 224 = .ok (.ireturn, 1) := by decide +kernel
theorem dX12_told_225 : decode cX12_told 225 = .ok (.aload_n 0, 1) := by decide +kernel
theorem dX12_told_226 : decode cX12_told 226 = .ok (.invokevirtual 221, 3) := by decide +kernel
theorem dX12_told_229 : decode cX12_told 229 = .ok (.iconst 0, 1) := by decide +kernel
theorem dX12_told_230 : decode cX12_told 230 = .ok (.istore_n 3, 1) := by decide +kernel
theorem dX12_told_231 : decode cX12_told 231 = .ok (.iload_n 3, 1) := by decide +kernel
theorem dX12_told_232 : decode cX12_told 232 = .ok (.aload_n 0, 1) := by decide +kernel
theorem dX12_told_233 : decode cX12_told 233 = .ok (.getfield 140, 3) := by decide +kernel
theorem dX12_told_236 : decode cX12_told 236 = .ok (.if_icmp .ge 30, 3) := by decide +kernel
theorem dX12_told_239 : decode cX12_told 239 = .ok (.aload_n 0, 1) := by decide +kernel
theorem dX12_told_240 : decode cX12_told 240 = .ok (.getfield 108, 3) := by decide +kernel
theorem dX12_told_243 : decode cX12_told 243 = .ok (.iload_n 3, 1) := by decide +kernel
theorem dX12_told_244 : decode cX12_told 244 = .ok (.iaload, 1) := by decide +kernel
theorem dX12_told_245 : decode cX12_told 245 = .ok (.iload_n 2, 1) := by decide +kernel
theorem dX12_told_246 : decode cX12_told 246 = .ok (.if_icmp .le 12, 3) := by decide +kernel
theorem dX12_told_249 : decode cX12_told 249 = .ok (.aload_n 0, 1) := by decide +kernel
theorem dX12_told_250 : decode cX12_told 250 = .ok (.getfield 108, 3) := by decide +kernel
theorem dX12_told_253 : decode cX12_told 253 = .ok (.iload_n 3, 1) := by decide +kernel
theorem dX12_told_254 : decode cX12_told 254 = .ok (.iaload, 1) := by decide +kernel
theorem dX12_told_255 : decode cX12_told 255 = .ok (.goto 4, 3) := by decide +kernel
theorem dX12_told_258 : decode cX12_told 258 = .ok (.iload_n 2, 1) := by decide +kernel
theorem dX12_told_259 : decode cX12_told 259 = .ok (.istore_n 2, 1) := by decide +kernel
theorem dX12_told_260 : decode cX12_told 260 = .ok (.iinc 3 1, 3) := by decide +kernel
theorem dX12_told_263 : decode cX12_told 263 = .ok (.goto (-32), 3) := by decide +kernel
theorem dX12_told_266 : decode cX12_told 266 = .ok (.iload_n 2, 1) := by decide +kernel
theorem dX12_told_267 : decode cX12_told 267 = .ok (.ireturn, 1) := by decide +kernel
theorem dX12_told_268 : decode cX12_told 268 = .ok (.aload_n 0, 1) := by decide +kernel
theorem dX12_told_269 : decode cX12_told 269 = .ok (.getfield 167, 3) := by decide +kernel
theorem dX12_told_272 : decode cX12_told 272 = .ok (.ireturn, 1) := by decide +kernel
theorem dX12_told_273 : decode cX12_told 273 = .ok (.aload_n 0, 1) := by decide +kernel
theorem dX12_told_274 : decode cX12_told 274 = .ok (.getfield 194, 3) := by decide +kernel
theorem dX12_told_277 : decode cX12_told 277 = .ok (.ireturn, 1) := by decide +kernel
theorem dX12_told_278 : decode cX12_told 278 = .ok (.aload_n 0, 1) := by decide +kernel
theorem dX12_told_279 : decode cX12_told 279 = .ok (.iload_n 1, 1) := by decide +kernel
theorem dX12_told_280 : decode cX12_told 280 = .ok (.invokevirtual 246, 3) := by decide +kernel
theorem dX12_told_283 : decode cX12_told 283 = .ok (.ireturn, 1) := by decide +kernel
theorem dX12_ofArcs_0 : decode cX12_ofArcs 0 = .ok (.iconst 0, 1) := by decide +kernel
theorem dX12_ofArcs_1 : decode cX12_ofArcs 1 = .ok (.istore_n 2, 1) := by decide +kernel
theorem dX12_ofArcs_2 : decode cX12_ofArcs 2 = .ok (.iconst 0, 1) := by decide +kernel
theorem dX12_ofArcs_3 : decode cX12_ofArcs 3 = .ok (.istore_n 3, 1) := by decide +kernel
theorem dX12_ofArcs_4 : decode cX12_ofArcs 4 = .ok (.iload_n 3, 1) := by decide +kernel
theorem dX12_ofArcs_5 : decode cX12_ofArcs 5 = .ok (.aload_n 0, 1) := by decide +kernel
theorem dX12_ofArcs_6 : decode cX12_ofArcs 6 = .ok (.getfield 146, 3) := by decide +kernel
theorem dX12_ofArcs_9 : decode cX12_ofArcs 9 = .ok (.if_icmp .ge 114, 3) := by decide +kernel
theorem dX12_ofArcs_12 : decode cX12_ofArcs 12 = .ok (.aload_n 0, 1) := by decide +kernel
theorem dX12_ofArcs_13 : decode cX12_ofArcs 13 = .ok (.getfield 32, 3) := by decide +kernel
theorem dX12_ofArcs_16 : decode cX12_ofArcs 16 = .ok (.iload_n 3, 1) := by decide +kernel
theorem dX12_ofArcs_17 : decode cX12_ofArcs 17 = .ok (.iaload, 1) := by decide +kernel
theorem dX12_ofArcs_18 : decode cX12_ofArcs 18 = .ok (.istore 4, 2) := by decide +kernel
theorem dX12_ofArcs_20 : decode cX12_ofArcs 20 = .ok (.iload_n 1, 1) := by decide +kernel
theorem dX12_ofArcs_21 : decode cX12_ofArcs 21 = .ok (.iconst 4, 1) := by decide +kernel
theorem dX12_ofArcs_22 : decode cX12_ofArcs 22 = .ok (.if_icmp .ne 12, 3) := by decide +kernel
theorem dX12_ofArcs_25 : decode cX12_ofArcs 25 = .ok (.aload_n 0, 1) := by decide +kernel
theorem dX12_ofArcs_26 : decode cX12_ofArcs 26 = .ok (.iload 4, 2) := by decide +kernel
theorem dX12_ofArcs_28 : decode cX12_ofArcs 28 = .ok (.invokevirtual 230, 3) := by decide +kernel
theorem dX12_ofArcs_31 : decode cX12_ofArcs 31 = .ok (.goto 40, 3) := by decide +kernel
theorem dX12_ofArcs_34 : decode cX12_ofArcs 34 = .ok (.iload_n 1, 1) := by decide +kernel
theorem dX12_ofArcs_35 : decode cX12_ofArcs 35 = .ok (.bipush 6, 2) := by decide +kernel
theorem dX12_ofArcs_37 : decode cX12_ofArcs 37 = .ok (.if_icmp .ne 13, 3) := by decide +kernel
theorem dX12_ofArcs_40 : decode cX12_ofArcs 40 = .ok (.aload_n 0, 1) := by decide +kernel
theorem dX12_ofArcs_41 : decode cX12_ofArcs 41 = .ok (.getfield 26, 3) := by decide +kernel
theorem dX12_ofArcs_44 : decode cX12_ofArcs 44 = .ok (.iload 4, 2) := by decide +kernel
theorem dX12_ofArcs_46 : decode cX12_ofArcs 46 = .ok (.baload, 1) := by decide +kernel
theorem dX12_ofArcs_47 : decode cX12_ofArcs 47 = .ok (.goto 24, 3) := by decide +kernel
theorem dX12_ofArcs_50 : decode cX12_ofArcs 50 = .ok (.iload_n 1, 1) := by decide +kernel
theorem dX12_ofArcs_51 : decode cX12_ofArcs 51 = .ok (.bipush 10, 2) := by decide +kernel
theorem dX12_ofArcs_53 : decode cX12_ofArcs 53 = .ok (.if_icmp .ne 17, 3) := by decide +kernel
theorem dX12_ofArcs_56 : decode cX12_ofArcs 56 = .ok (.aload_n 0, 1) := by decide +kernel
theorem dX12_ofArcs_57 : decode cX12_ofArcs 57 = .ok (.getfield 22, 3) := by decide +kernel
theorem dX12_ofArcs_60 : decode cX12_ofArcs 60 = .ok (.iload 4, 2) := by decide +kernel
theorem dX12_ofArcs_62 : decode cX12_ofArcs 62 = .ok (.baload, 1) := by decide +kernel
theorem dX12_ofArcs_63 : decode cX12_ofArcs 63 = .ok (.ifCond .eq 7, 3) := by decide +kernel
theorem dX12_ofArcs_66 : decode cX12_ofArcs 66 = .ok (.iconst 1, 1) := by decide +kernel
theorem dX12_ofArcs_67 : decode cX12_ofArcs 67 = .ok (.goto 4, 3) := by decide +kernel
theorem dX12_ofArcs_70 : decode cX12_ofArcs 70 = .ok (.iconst 0, 1) := by decide +kernel
theorem dX12_ofArcs_71 : decode cX12_ofArcs 71 = .ok (.istore 5, 2) := by decide +kernel
theorem dX12_ofArcs_73 : decode cX12_ofArcs 73 = .ok (.iload_n 1, 1) := by decide +kernel
theorem dX12_ofArcs_74 : decode cX12_ofArcs 74 = .ok (.bipush 9, 2) := by decide +kernel
theorem dX12_ofArcs_76 : decode cX12_ofArcs 76 = .ok (.if_icmp .ne 28, 3) := by decide +kernel
theorem dX12_ofArcs_79 : decode cX12_ofArcs 79 = .ok (.aload_n 0, 1) := by decide +kernel
theorem dX12_ofArcs_80 : decode cX12_ofArcs 80 = .ok (.getfield 19, 3) := by decide +kernel
theorem dX12_ofArcs_83 : decode cX12_ofArcs 83 = .ok (.iload 4, 2) := by decide +kernel
theorem dX12_ofArcs_85 : decode cX12_ofArcs 85 = .ok (.iaload, 1) := by decide +kernel
theorem dX12_ofArcs_86 : decode cX12_ofArcs 86 = .ok (.iload_n 2, 1) := by decide +kernel
theorem dX12_ofArcs_87 : decode cX12_ofArcs 87 = .ok (.if_icmp .le 13, 3) := by decide +kernel
theorem dX12_ofArcs_90 : decode cX12_ofArcs 90 = .ok (.aload_n 0, 1) := by decide +kernel
theorem dX12_ofArcs_91 : decode cX12_ofArcs 91 = .ok (.getfield 19, 3) := by decide +kernel
theorem dX12_ofArcs_94 : decode cX12_ofArcs 94 = .ok (.iload 4, 2) := by decide +kernel
theorem dX12_ofArcs_96 : decode cX12_ofArcs 96 = .ok (.iaload, 1) := by decide +kernel
theorem dX12_ofArcs_97 : decode cX12_ofArcs 97 = .ok (.goto 19, 3) := by decide +kernel
theorem dX12_ofArcs_100 : decode cX12_ofArcs 100 = .ok (.iload_n 2, 1) := by decide +kernel
theorem dX12_ofArcs_101 : decode cX12_ofArcs 101 = .ok (.goto 15, 3) := by decide +kernel
theorem dX12_ofArcs_104 : decode cX12_ofArcs 104 = .ok (.iload 5, 2) := by decide +kernel
theorem dX12_ofArcs_106 : decode cX12_ofArcs 106 = .ok (.ifCond .eq 9, 3) := by decide +kernel
theorem dX12_ofArcs_109 : decode cX12_ofArcs 109 = .ok (.iload_n 2, 1) := by decide +kernel
theorem dX12_ofArcs_110 : decode cX12_ofArcs 110 = .ok (.iconst 1, 1) := by decide +kernel
theorem dX12_ofArcs_111 : decode cX12_ofArcs 111 = .ok (.iadd, 1) := by decide +kernel
theorem dX12_ofArcs_112 : decode cX12_ofArcs 112 = .ok (.goto 4, 3) := by decide +kernel
theorem dX12_ofArcs_115 : decode cX12_ofArcs 115 = .ok (.iload_n 2, 1) := by decide +kernel
theorem dX12_ofArcs_116 : decode cX12_ofArcs 116 = .ok (.istore_n 2, 1) := by decide +kernel
theorem dX12_ofArcs_117 : decode cX12_ofArcs 117 = .ok (.iinc 3 1, 3) := by decide +kernel
theorem dX12_ofArcs_120 : decode cX12_ofArcs 120 = .ok (.goto (-116), 3) := by decide +kernel
theorem dX12_ofArcs_123 : decode cX12_ofArcs 123 = .ok (.iload_n 2, 1) := by decide +kernel
theorem dX12_ofArcs_124 : decode cX12_ofArcs 124 = .ok (.ireturn, 1) := by decide +kernel
theorem dX12_sound_0 : decode cX12_sound 0 = .ok (.aload_n 0, 1) := by decide +kernel
theorem dX12_sound_1 : decode cX12_sound 1 = .ok (.iconst 0, 1) := by decide +kernel
theorem dX12_sound_2 : decode cX12_sound 2 = .ok (.putfield 136, 3) := by decide +kernel
theorem dX12_sound_5 : decode cX12_sound 5 = .ok (.iconst 1, 1) := by decide +kernel
theorem dX12_sound_6 : decode cX12_sound 6 = .ok (.istore_n 1, 1) := by decide +kernel
theorem dX12_sound_7 : decode cX12_sound 7 = .ok (.iconst 0, 1) := by decide +kernel
theorem dX12_sound_8 : decode cX12_sound 8 = .ok (.istore_n 2, 1) := by decide +kernel
theorem dX12_sound_9 : decode cX12_sound 9 = .ok (.iload_n 2, 1) := by decide +kernel
theorem dX12_sound_10 : decode cX12_sound 10 = .ok (.aload_n 0, 1) := by decide +kernel
theorem dX12_sound_11 : decode cX12_sound 11 = .ok (.getfield 140, 3) := by decide +kernel
theorem dX12_sound_14 : decode cX12_sound 14 = .ok (.if_icmp .ge 125, 3) := by decide +kernel
theorem dX12_sound_17 : decode cX12_sound 17 = .ok (.iload_n 1, 1) := by decide +kernel
theorem dX12_sound_18 : decode cX12_sound 18 = .ok (.ifCond .eq 121, 3) := by decide +kernel
theorem dX12_sound_21 : decode cX12_sound 21 = .ok (.aload_n 0, 1) := by decide +kernel
theorem dX12_sound_22 : decode cX12_sound 22 = .ok (.iload_n 2, 1) := by decide +kernel
theorem dX12_sound_23 : decode cX12_sound 23 = .ok (.iconst 1, 1) := by decide +kernel
theorem dX12_sound_24 : decode cX12_sound 24 = .ok (.iconst 0, 1) := by decide +kernel
theorem dX12_sound_25 : decode cX12_sound 25 = .ok (.iconst (-1), 1) := by decide +kernel
theorem dX12_sound_26 : decode cX12_sound 26 = .ok (.invokevirtual 152, 3) := by decide +kernel
theorem dX12_sound_29 : decode cX12_sound 29 = .ok (.iconst 0, 1) := by decide +kernel
theorem dX12_sound_30 : decode cX12_sound 30 = .ok (.istore_n 3, 1) := by decide +kernel
theorem dX12_sound_31 : decode cX12_sound 31 = .ok (.iload_n 3, 1) := by decide +kernel
theorem dX12_sound_32 : decode cX12_sound 32 = .ok (.aload_n 0, 1) := by decide +kernel
theorem dX12_sound_33 : decode cX12_sound 33 = .ok (.getfield 140, 3) := by decide +kernel
theorem dX12_sound_36 : decode cX12_sound 36 = .ok (.if_icmp .ge 21, 3) := by decide +kernel
theorem dX12_sound_39 : decode cX12_sound 39 = .ok (.aload_n 0, 1) := by decide +kernel
theorem dX12_sound_40 : decode cX12_sound 40 = .ok (.getfield 83, 3) := by decide +kernel
theorem dX12_sound_43 : decode cX12_sound 43 = .ok (.iload_n 3, 1) := by decide +kernel
theorem dX12_sound_44 : decode cX12_sound 44 = .ok (.aload_n 0, 1) := by decide +kernel
theorem dX12_sound_45 : decode cX12_sound 45 = .ok (.getfield 56, 3) := by decide +kernel
theorem dX12_sound_48 : decode cX12_sound 48 = .ok (.iload_n 3, 1) := by decide +kernel
theorem dX12_sound_49 : decode cX12_sound 49 = .ok (.baload, 1) := by decide +kernel
theorem dX12_sound_50 : decode cX12_sound 50 = .ok (.bastore, 1) := by decide +kernel
theorem dX12_sound_51 : decode cX12_sound 51 = .ok (.iinc 3 1, 3) := by decide +kernel
theorem dX12_sound_54 : decode cX12_sound 54 = .ok (.goto (-23), 3) := by decide +kernel
theorem dX12_sound_57 : decode cX12_sound 57 = .ok (.aload_n 0, 1) := by decide +kernel
theorem dX12_sound_58 : decode cX12_sound 58 = .ok (.getfield 149, 3) := by decide +kernel
theorem dX12_sound_61 : decode cX12_sound 61 = .ok (.istore_n 3, 1) := by decide +kernel
theorem dX12_sound_62 : decode cX12_sound 62 = .ok (.aload_n 0, 1) := by decide +kernel
theorem dX12_sound_63 : decode cX12_sound 63 = .ok (.iload_n 2, 1) := by decide +kernel
theorem dX12_sound_64 : decode cX12_sound 64 = .ok (.iconst 0, 1) := by decide +kernel
theorem dX12_sound_65 : decode cX12_sound 65 = .ok (.iconst 0, 1) := by decide +kernel
theorem dX12_sound_66 : decode cX12_sound 66 = .ok (.iconst (-1), 1) := by decide +kernel
theorem dX12_sound_67 : decode cX12_sound 67 = .ok (.invokevirtual 152, 3) := by decide +kernel
theorem dX12_sound_70 : decode cX12_sound 70 = .ok (.iconst 0, 1) := by decide +kernel
theorem dX12_sound_71 : decode cX12_sound 71 = .ok (.istore 4, 2) := by decide +kernel
theorem dX12_sound_73 : decode cX12_sound 73 = .ok (.iload 4, 2) := by decide +kernel
theorem dX12_sound_75 : decode cX12_sound 75 = .ok (.aload_n 0, 1) := by decide +kernel
theorem dX12_sound_76 : decode cX12_sound 76 = .ok (.getfield 140, 3) := by decide +kernel
theorem dX12_sound_79 : decode cX12_sound 79 = .ok (.if_icmp .ge 36, 3) := by decide +kernel
theorem dX12_sound_82 : decode cX12_sound 82 = .ok (.iload_n 1, 1) := by decide +kernel
theorem dX12_sound_83 : decode cX12_sound 83 = .ok (.ifCond .eq 24, 3) := by decide +kernel
theorem dX12_sound_86 : decode cX12_sound 86 = .ok (.aload_n 0, 1) := by decide +kernel
theorem dX12_sound_87 : decode cX12_sound 87 = .ok (.getfield 83, 3) := by decide +kernel
theorem dX12_sound_90 : decode cX12_sound 90 = .ok (.iload 4, 2) := by decide +kernel
theorem dX12_sound_92 : decode cX12_sound 92 = .ok (.baload, 1) := by decide +kernel
theorem dX12_sound_93 : decode cX12_sound 93 = .ok (.aload_n 0, 1) := by decide +kernel
theorem dX12_sound_94 : decode cX12_sound 94 = .ok (.getfield 56, 3) := by decide +kernel
theorem dX12_sound_97 : decode cX12_sound 97 = .ok (.iload 4, 2) := by decide +kernel
theorem dX12_sound_99 : decode cX12_sound 99 = .ok (.baload, 1) := by decide +kernel
theorem dX12_sound_100 : decode cX12_sound 100 = .ok (.if_icmp .ne 7, 3) := by decide +kernel
theorem dX12_sound_103 : decode cX12_sound 103 = .ok (.iconst 1, 1) := by decide +kernel
theorem dX12_sound_104 : decode cX12_sound 104 = .ok (.goto 4, 3) := by decide +kernel
theorem dX12_sound_107 : decode cX12_sound 107 = .ok (.iconst 0, 1) := by decide +kernel
theorem dX12_sound_108 : decode cX12_sound 108 = .ok (.istore_n 1, 1) := by decide +kernel
theorem dX12_sound_109 : decode cX12_sound 109 = .ok (.iinc 4 1, 3) := by decide +kernel
theorem dX12_sound_112 : decode cX12_sound 112 = .ok (.goto (-39), 3) := by decide +kernel
theorem dX12_sound_115 : decode cX12_sound 115 = .ok (.iload_n 1, 1) := by decide +kernel
theorem dX12_sound_116 : decode cX12_sound 116 = .ok (.ifCond .eq 15, 3) := by decide +kernel
theorem dX12_sound_119 : decode cX12_sound 119 = .ok (.iload_n 3, 1) := by decide +kernel
theorem dX12_sound_120 : decode cX12_sound 120 = .ok (.aload_n 0, 1) := by decide +kernel
theorem dX12_sound_121 : decode cX12_sound 121 = .ok (.getfield 149, 3) := by decide +kernel
theorem dX12_sound_124 : decode cX12_sound 124 = .ok (.if_icmp .ne 7, 3) := by decide +kernel
theorem dX12_sound_127 : decode cX12_sound 127 = .ok (.iconst 1, 1) := by decide +kernel
theorem dX12_sound_128 : decode cX12_sound 128 = .ok (.goto 4, 3) := by decide +kernel
theorem dX12_sound_131 : decode cX12_sound 131 = .ok (.iconst 0, 1) := by decide +kernel
theorem dX12_sound_132 : decode cX12_sound 132 = .ok (.istore_n 1, 1) := by decide +kernel
theorem dX12_sound_133 : decode cX12_sound 133 = .ok (.iinc 2 1, 3) := by decide +kernel
theorem dX12_sound_136 : decode cX12_sound 136 = .ok (.goto (-127), 3) := by decide +kernel
theorem dX12_sound_139 : decode cX12_sound 139 = .ok (.iload_n 1, 1) := by decide +kernel
theorem dX12_sound_140 : decode cX12_sound 140 = .ok (.ifCond .eq 25, 3) := by decide +kernel
theorem dX12_sound_143 : decode cX12_sound 143 = .ok (.aload_n 0, 1) := by decide +kernel
theorem dX12_sound_144 : decode cX12_sound 144 = .ok (.bipush 10, 2) := by decide +kernel
theorem dX12_sound_146 : decode cX12_sound 146 = .ok (.invokevirtual 249, 3) := by decide +kernel
theorem dX12_sound_149 : decode cX12_sound 149 = .ok (.aload_n 0, 1) := by decide +kernel
theorem dX12_sound_150 : decode cX12_sound 150 = .ok (.getfield 140, 3) := by decide +kernel
theorem dX12_sound_153 : decode cX12_sound 153 = .ok (.aload_n 0, 1) := by decide +kernel
theorem dX12_sound_154 : decode cX12_sound 154 = .ok (.invokevirtual 206, 3) := by decide +kernel
theorem dX12_sound_157 : decode cX12_sound 157 = .ok (.isub, 1) := by decide +kernel
theorem dX12_sound_158 : decode cX12_sound 158 = .ok (.if_icmp .ne 7, 3) := by decide +kernel
theorem dX12_sound_161 : decode cX12_sound 161 = .ok (.iconst 1, 1) := by decide +kernel
theorem dX12_sound_162 : decode cX12_sound 162 = .ok (.goto 4, 3) := by decide +kernel
theorem dX12_sound_165 : decode cX12_sound 165 = .ok (.iconst 0, 1) := by decide +kernel
theorem dX12_sound_166 : decode cX12_sound 166 = .ok (.istore_n 1, 1) := by decide +kernel
theorem dX12_sound_167 : decode cX12_sound 167 = .ok (.iconst 0, 1) := by decide +kernel
theorem dX12_sound_168 : decode cX12_sound 168 = .ok (.istore_n 2, 1) := by decide +kernel
theorem dX12_sound_169 : decode cX12_sound 169 = .ok (.iload_n 2, 1) := by decide +kernel
theorem dX12_sound_170 : decode cX12_sound 170 = .ok (.aload_n 0, 1) := by decide +kernel
theorem dX12_sound_171 : decode cX12_sound 171 = .ok (.getfield 146, 3) := by decide +kernel
theorem dX12_sound_174 : decode cX12_sound 174 = .ok (.if_icmp .ge 115, 3) := by decide +kernel
theorem dX12_sound_177 : decode cX12_sound 177 = .ok (.iload_n 1, 1) := by decide +kernel
theorem dX12_sound_178 : decode cX12_sound 178 = .ok (.ifCond .eq 111, 3) := by decide +kernel
theorem dX12_sound_181 : decode cX12_sound 181 = .ok (.aload_n 0, 1) := by decide +kernel
theorem dX12_sound_182 : decode cX12_sound 182 = .ok (.getfield 32, 3) := by decide +kernel
theorem dX12_sound_185 : decode cX12_sound 185 = .ok (.iload_n 2, 1) := by decide +kernel
theorem dX12_sound_186 : decode cX12_sound 186 = .ok (.iaload, 1) := by decide +kernel
theorem dX12_sound_187 : decode cX12_sound 187 = .ok (.istore_n 3, 1) := by decide +kernel
theorem dX12_sound_188 : decode cX12_sound 188 = .ok (.aload_n 0, 1) := by decide +kernel
theorem dX12_sound_189 : decode cX12_sound 189 = .ok (.getfield 22, 3) := by decide +kernel
theorem dX12_sound_192 : decode cX12_sound 192 = .ok (.iload_n 3, 1) := by decide +kernel
theorem dX12_sound_193 : decode cX12_sound 193 = .ok (.baload, 1) := by decide +kernel
theorem dX12_sound_194 : decode cX12_sound 194 = .ok (.ifCond .eq 45, 3) := by decide +kernel
theorem dX12_sound_197 : decode cX12_sound 197 = .ok (.aload_n 0, 1) := by decide +kernel
theorem dX12_sound_198 : decode cX12_sound 198 = .ok (.aload_n 0, 1) := by decide +kernel
theorem dX12_sound_199 : decode cX12_sound 199 = .ok (.getfield 13, 3) := by decide +kernel
theorem dX12_sound_202 : decode cX12_sound 202 = .ok (.iload_n 3, 1) := by decide +kernel
theorem dX12_sound_203 : decode cX12_sound 203 = .ok (.iaload, 1) := by decide +kernel
theorem dX12_sound_204 : decode cX12_sound 204 = .ok (.iconst 0, 1) := by decide +kernel
theorem dX12_sound_205 : decode cX12_sound 205 = .ok (.aload_n 0, 1) := by decide +kernel
theorem dX12_sound_206 : decode cX12_sound 206 = .ok (.getfield 19, 3) := by decide +kernel
theorem dX12_sound_209 : decode cX12_sound 209 = .ok (.iload_n 3, 1) := by decide +kernel
theorem dX12_sound_210 : decode cX12_sound 210 = .ok (.iaload, 1) := by decide +kernel
theorem dX12_sound_211 : decode cX12_sound 211 = .ok (.iconst (-1), 1) := by decide +kernel
theorem dX12_sound_212 : decode cX12_sound 212 = .ok (.invokevirtual 152, 3) := by decide +kernel
theorem dX12_sound_215 : decode cX12_sound 215 = .ok (.aload_n 0, 1) := by decide +kernel
theorem dX12_sound_216 : decode cX12_sound 216 = .ok (.getfield 149, 3) := by decide +kernel
theorem dX12_sound_219 : decode cX12_sound 219 = .ok (.aload_n 0, 1) := by decide +kernel
theorem dX12_sound_220 : decode cX12_sound 220 = .ok (.getfield 140, 3) := by decide +kernel
theorem dX12_sound_223 : decode cX12_sound 223 = .ok (.aload_n 0, 1) := by decide +kernel
theorem dX12_sound_224 : decode cX12_sound 224 = .ok (.getfield 19, 3) := by decide +kernel
theorem dX12_sound_227 : decode cX12_sound 227 = .ok (.iload_n 3, 1) := by decide +kernel
theorem dX12_sound_228 : decode cX12_sound 228 = .ok (.iaload, 1) := by decide +kernel
theorem dX12_sound_229 : decode cX12_sound 229 = .ok (.ishr, 1) := by decide +kernel
theorem dX12_sound_230 : decode cX12_sound 230 = .ok (.if_icmp .gt 7, 3) := by decide +kernel
theorem dX12_sound_233 : decode cX12_sound 233 = .ok (.iconst 1, 1) := by decide +kernel
theorem dX12_sound_234 : decode cX12_sound 234 = .ok (.goto 4, 3) := by decide +kernel
theorem dX12_sound_237 : decode cX12_sound 237 = .ok (.iconst 0, 1) := by decide +kernel
theorem dX12_sound_238 : decode cX12_sound 238 = .ok (.istore_n 1, 1) := by decide +kernel
theorem dX12_sound_239 : decode cX12_sound 239 = .ok (.iload_n 1, 1) := by decide +kernel
theorem dX12_sound_240 : decode cX12_sound 240 = .ok (.ifCond .eq 41, 3) := by decide +kernel
theorem dX12_sound_243 : decode cX12_sound 243 = .ok (.aload_n 0, 1) := by decide +kernel
theorem dX12_sound_244 : decode cX12_sound 244 = .ok (.getfield 26, 3) := by decide +kernel
theorem dX12_sound_247 : decode cX12_sound 247 = .ok (.iload_n 3, 1) := by decide +kernel
theorem dX12_sound_248 : decode cX12_sound 248 = .ok (.baload, 1) := by decide +kernel
theorem dX12_sound_249 : decode cX12_sound 249 = .ok (.ifCond .ne 28, 3) := by decide +kernel
theorem dX12_sound_252 : decode cX12_sound 252 = .ok (.aload_n 0, 1) := by decide +kernel
theorem dX12_sound_253 : decode cX12_sound 253 = .ok (.getfield 38, 3) := by decide +kernel
theorem dX12_sound_256 : decode cX12_sound 256 = .ok (.aload_n 0, 1) := by decide +kernel
theorem dX12_sound_257 : decode cX12_sound 257 = .ok (.getfield 13, 3) := by decide +kernel
theorem dX12_sound_260 : decode cX12_sound 260 = .ok (.iload_n 3, 1) := by decide +kernel
theorem dX12_sound_261 : decode cX12_sound 261 = .ok (.iaload, 1) := by decide +kernel
theorem dX12_sound_262 : decode cX12_sound 262 = .ok (.iaload, 1) := by decide +kernel
theorem dX12_sound_263 : decode cX12_sound 263 = .ok (.aload_n 0, 1) := by decide +kernel
theorem dX12_sound_264 : decode cX12_sound 264 = .ok (.getfield 38, 3) := by decide +kernel
theorem dX12_sound_267 : decode cX12_sound 267 = .ok (.aload_n 0, 1) := by decide +kernel
theorem dX12_sound_268 : decode cX12_sound 268 = .ok (.getfield 16, 3) := by decide +kernel
theorem dX12_sound_271 : decode cX12_sound 271 = .ok (.iload_n 3, 1) := by decide +kernel
theorem dX12_sound_272 : decode cX12_sound 272 = .ok (.iaload, 1) := by decide +kernel
theorem dX12_sound_273 : decode cX12_sound 273 = .ok (.iaload, 1) := by decide +kernel
theorem dX12_sound_274 : decode cX12_sound 274 = .ok (.if_icmp .ge 7, 3) := by decide +kernel
theorem dX12_sound_277 : decode cX12_sound 277 = .ok (.iconst 1, 1) := by decide +kernel
theorem dX12_sound_278 : decode cX12_sound 278 = .ok (.goto 4, 3) := by decide +kernel
theorem dX12_sound_281 : decode cX12_sound 281 = .ok (.iconst 0, 1) := by decide +kernel
theorem dX12_sound_282 : decode cX12_sound 282 = .ok (.istore_n 1, 1) := by decide +kernel
theorem dX12_sound_283 : decode cX12_sound 283 = .ok (.iinc 2 1, 3) := by decide +kernel
theorem dX12_sound_286 : decode cX12_sound 286 = .ok (.goto (-117), 3) := by decide +kernel
theorem dX12_sound_289 : decode cX12_sound 289 = .ok (.iload_n 1, 1) := by decide +kernel
theorem dX12_sound_290 : decode cX12_sound 290 = .ok (.ireturn, 1) := by decide +kernel
theorem dX12_clear_0 : decode cX12_clear 0 = .ok (.aload_n 0, 1) := by decide +kernel
theorem dX12_clear_1 : decode cX12_clear 1 = .ok (.iconst 0, 1) := by decide +kernel
theorem dX12_clear_2 : decode cX12_clear 2 = .ok (.putfield 136, 3) := by decide +kernel
theorem dX12_clear_5 : decode cX12_clear 5 = .ok (.aload_n 0, 1) := by decide +kernel
theorem dX12_clear_6 : decode cX12_clear 6 = .ok (.iconst 0, 1) := by decide +kernel
theorem dX12_clear_7 : decode cX12_clear 7 = .ok (.putfield 140, 3) := by decide +kernel
theorem dX12_clear_10 : decode cX12_clear 10 = .ok (.aload_n 0, 1) := by decide +kernel
theorem dX12_clear_11 : decode cX12_clear 11 = .ok (.iconst 0, 1) := by decide +kernel
theorem dX12_clear_12 : decode cX12_clear 12 = .ok (.putfield 143, 3) := by decide +kernel
theorem dX12_clear_15 : decode cX12_clear 15 = .ok (.aload_n 0, 1) := by decide +kernel
theorem dX12_clear_16 : decode cX12_clear 16 = .ok (.iconst 0, 1) := by decide +kernel
theorem dX12_clear_17 : decode cX12_clear 17 = .ok (.putfield 146, 3) := by decide +kernel
theorem dX12_clear_20 : decode cX12_clear 20 = .ok (.aload_n 0, 1) := by decide +kernel
theorem dX12_clear_21 : decode cX12_clear 21 = .ok (.iconst 0, 1) := by decide +kernel
theorem dX12_clear_22 : decode cX12_clear 22 = .ok (.putfield 197, 3) := by decide +kernel
theorem dX12_clear_25 : decode cX12_clear 25 = .ok (.aload_n 0, 1) := by decide +kernel
theorem dX12_clear_26 : decode cX12_clear 26 = .ok (.iconst 0, 1) := by decide +kernel
theorem dX12_clear_27 : decode cX12_clear 27 = .ok (.putfield 194, 3) := by decide +kernel
theorem dX12_clear_30 : decode cX12_clear 30 = .ok (.aload_n 0, 1) := by decide +kernel
theorem dX12_clear_31 : decode cX12_clear 31 = .ok (.iconst 0, 1) := by decide +kernel
theorem dX12_clear_32 : decode cX12_clear 32 = .ok (.putfield 167, 3) := by decide +kernel
theorem dX12_clear_35 : decode cX12_clear 35 = .ok (.return_, 1) := by decide +kernel
theorem dJ9_max_7cf53_0 : decode cJ9_max_7cf53 0 = .ok (.iload_n 0, 1) := by decide +kernel
theorem dJ9_max_7cf53_1 : decode cJ9_max_7cf53 1 = .ok (.iload_n 1, 1) := by decide +kernel
theorem dJ9_max_7cf53_2 : decode cJ9_max_7cf53 2 = .ok (.if_icmp .lt 7, 3) := by decide +kernel
theorem dJ9_max_7cf53_5 : decode cJ9_max_7cf53 5 = .ok (.iload_n 0, 1) := by decide +kernel
theorem dJ9_max_7cf53_6 : decode cJ9_max_7cf53 6 = .ok (.goto 4, 3) := by decide +kernel
theorem dJ9_max_7cf53_9 : decode cJ9_max_7cf53 9 = .ok (.iload_n 1, 1) := by decide +kernel
theorem dJ9_max_7cf53_10 : decode cJ9_max_7cf53 10 = .ok (.ireturn, 1) := by decide +kernel
theorem dJ9_min_7cf53_0 : decode cJ9_min_7cf53 0 = .ok (.iload_n 0, 1) := by decide +kernel
theorem dJ9_min_7cf53_1 : decode cJ9_min_7cf53 1 = .ok (.iload_n 1, 1) := by decide +kernel
theorem dJ9_min_7cf53_2 : decode cJ9_min_7cf53 2 = .ok (.if_icmp .gt 7, 3) := by decide +kernel
theorem dJ9_min_7cf53_5 : decode cJ9_min_7cf53 5 = .ok (.iload_n 0, 1) := by decide +kernel
theorem dJ9_min_7cf53_6 : decode cJ9_min_7cf53 6 = .ok (.goto 4, 3) := by decide +kernel
theorem dJ9_min_7cf53_9 : decode cJ9_min_7cf53 9 = .ok (.iload_n 1, 1) := by decide +kernel
theorem dJ9_min_7cf53_10 : decode cJ9_min_7cf53 10 = .ok (.ireturn, 1) := by decide +kernel
theorem dJ7_fill_53178_0 : decode cJ7_fill_53178 0 = .ok (.iconst 0, 1) := by decide +kernel
theorem dJ7_fill_53178_1 : decode cJ7_fill_53178 1 = .ok (.istore_n 2, 1) := by decide +kernel
theorem dJ7_fill_53178_2 : decode cJ7_fill_53178 2 = .ok (.aload_n 0, 1) := by decide +kernel
theorem dJ7_fill_53178_3 : decode cJ7_fill_53178 3 = .ok (.arraylength, 1) := by decide +kernel
theorem dJ7_fill_53178_4 : decode cJ7_fill_53178 4 = .ok (.istore_n 3, 1) := by decide +kernel
theorem dJ7_fill_53178_5 : decode cJ7_fill_53178 5 = .ok (.iload_n 2, 1) := by decide +kernel
theorem dJ7_fill_53178_6 : decode cJ7_fill_53178 6 = .ok (.iload_n 3, 1) := by decide +kernel
theorem dJ7_fill_53178_7 : decode cJ7_fill_53178 7 = .ok (.if_icmp .ge 13, 3) := by decide +kernel
theorem dJ7_fill_53178_10 : decode cJ7_fill_53178 10 = .ok (.aload_n 0, 1) := by decide +kernel
theorem dJ7_fill_53178_11 : decode cJ7_fill_53178 11 = .ok (.iload_n 2, 1) := by decide +kernel
theorem dJ7_fill_53178_12 : decode cJ7_fill_53178 12 = .ok (.iload_n 1, 1) := by decide +kernel
theorem dJ7_fill_53178_13 : decode cJ7_fill_53178 13 = .ok (.iastore, 1) := by decide +kernel
theorem dJ7_fill_53178_14 : decode cJ7_fill_53178 14 = .ok (.iinc 2 1, 3) := by decide +kernel
theorem dJ7_fill_53178_17 : decode cJ7_fill_53178 17 = .ok (.goto (-12), 3) := by decide +kernel
theorem dJ7_fill_53178_20 : decode cJ7_fill_53178 20 = .ok (.return_, 1) := by decide +kernel
theorem dL_cell_0 : decode cL_cell 0 = .ok (.iload_n 1, 1) := by decide +kernel
theorem dL_cell_1 : decode cL_cell 1 = .ok (.aload_n 0, 1) := by decide +kernel
theorem dL_cell_2 : decode cL_cell 2 = .ok (.arraylength, 1) := by decide +kernel
theorem dL_cell_3 : decode cL_cell 3 = .ok (.if_icmp .ge 9, 3) := by decide +kernel
theorem dL_cell_6 : decode cL_cell 6 = .ok (.aload_n 0, 1) := by decide +kernel
theorem dL_cell_7 : decode cL_cell 7 = .ok (.iload_n 1, 1) := by decide +kernel
theorem dL_cell_8 : decode cL_cell 8 = .ok (.iaload, 1) := by decide +kernel
theorem dL_cell_9 : decode cL_cell 9 = .ok (.goto 4, 3) := by decide +kernel
theorem dL_cell_12 : decode cL_cell 12 = .ok (.iconst 0, 1) := by decide +kernel
theorem dL_cell_13 : decode cL_cell 13 = .ok (.ireturn, 1) := by decide +kernel
theorem dL_node_0 : decode cL_node 0 = .ok (.aload_n 2, 1) := by decide +kernel
theorem dL_node_1 : decode cL_node 1 = .ok (.iconst 0, 1) := by decide +kernel
theorem dL_node_2 : decode cL_node 2 = .ok (.aload_n 0, 1) := by decide +kernel
theorem dL_node_3 : decode cL_node 3 = .ok (.iload_n 1, 1) := by decide +kernel
theorem dL_node_4 : decode cL_node 4 = .ok (.invokevirtual 7, 3) := by decide +kernel
theorem dL_node_7 : decode cL_node 7 = .ok (.i2l, 1) := by decide +kernel
theorem dL_node_8 : decode cL_node 8 = .ok (.lastore, 1) := by decide +kernel
theorem dL_node_9 : decode cL_node 9 = .ok (.goto 6, 3) := by decide +kernel
theorem dL_node_12 : decode cL_node 12 = .ok (.astore_n 3, 1) := by decide +kernel
theorem dL_node_13 : decode cL_node 13 = .ok (.iconst 1, 1) := by decide +kernel
theorem dL_node_14 : decode cL_node 14 = .ok (.ireturn, 1) := by decide +kernel
theorem dL_node_15 : decode cL_node 15 = .ok (.iconst 0, 1) := by decide +kernel
theorem dL_node_16 : decode cL_node 16 = .ok (.ireturn, 1) := by decide +kernel
theorem dL_chain_0 : decode cL_chain 0 = .ok (.aload_n 2, 1) := by decide +kernel
theorem dL_chain_1 : decode cL_chain 1 = .ok (.iconst 0, 1) := by decide +kernel
theorem dL_chain_2 : decode cL_chain 2 = .ok (.aload_n 0, 1) := by decide +kernel
theorem dL_chain_3 : decode cL_chain 3 = .ok (.iload_n 1, 1) := by decide +kernel
theorem dL_chain_4 : decode cL_chain 4 = .ok (.invokevirtual 15, 3) := by decide +kernel
theorem dL_chain_7 : decode cL_chain 7 = .ok (.i2l, 1) := by decide +kernel
theorem dL_chain_8 : decode cL_chain 8 = .ok (.lastore, 1) := by decide +kernel
theorem dL_chain_9 : decode cL_chain 9 = .ok (.goto 9, 3) := by decide +kernel
theorem dL_chain_12 : decode cL_chain 12 = .ok (.astore_n 3, 1) := by decide +kernel
theorem dL_chain_13 : decode cL_chain 13 = .ok (.iconst 1, 1) := by decide +kernel
theorem dL_chain_14 : decode cL_chain 14 = .ok (.ireturn, 1) := by decide +kernel
theorem dL_chain_15 : decode cL_chain 15 = .ok (.astore_n 3, 1) := by decide +kernel
theorem dL_chain_16 : decode cL_chain 16 = .ok (.iconst 2, 1) := by decide +kernel
theorem dL_chain_17 : decode cL_chain 17 = .ok (.ireturn, 1) := by decide +kernel
theorem dL_chain_18 : decode cL_chain 18 = .ok (.iconst 0, 1) := by decide +kernel
theorem dL_chain_19 : decode cL_chain 19 = .ok (.ireturn, 1) := by decide +kernel
theorem dL_put_0 : decode cL_put 0 = .ok (.aload_n 3, 1) := by decide +kernel
theorem dL_put_1 : decode cL_put 1 = .ok (.iconst 0, 1) := by decide +kernel
theorem dL_put_2 : decode cL_put 2 = .ok (.aload_n 0, 1) := by decide +kernel
theorem dL_put_3 : decode cL_put 3 = .ok (.iload_n 1, 1) := by decide +kernel
theorem dL_put_4 : decode cL_put 4 = .ok (.iload_n 2, 1) := by decide +kernel
theorem dL_put_5 : decode cL_put 5 = .ok (.invokevirtual 20, 3) := by decide +kernel
theorem dL_put_8 : decode cL_put 8 = .ok (.i2l, 1) := by decide +kernel
theorem dL_put_9 : decode cL_put 9 = .ok (.lastore, 1) := by decide +kernel
theorem dL_put_10 : decode cL_put 10 = .ok (.goto 11, 3) := by decide +kernel
theorem dL_put_13 : decode cL_put 13 = .ok (.astore 4, 2) := by decide +kernel
theorem dL_put_15 : decode cL_put 15 = .ok (.iconst 1, 1) := by decide +kernel
theorem dL_put_16 : decode cL_put 16 = .ok (.ireturn, 1) := by decide +kernel
theorem dL_put_17 : decode cL_put 17 = .ok (.astore 4, 2) := by decide +kernel
theorem dL_put_19 : decode cL_put 19 = .ok (.iconst 2, 1) := by decide +kernel
theorem dL_put_20 : decode cL_put 20 = .ok (.ireturn, 1) := by decide +kernel
theorem dL_put_21 : decode cL_put 21 = .ok (.iconst 0, 1) := by decide +kernel
theorem dL_put_22 : decode cL_put 22 = .ok (.ireturn, 1) := by decide +kernel
theorem dL_take_0 : decode cL_take 0 = .ok (.aload_n 2, 1) := by decide +kernel
theorem dL_take_1 : decode cL_take 1 = .ok (.iconst 0, 1) := by decide +kernel
theorem dL_take_2 : decode cL_take 2 = .ok (.aload_n 0, 1) := by decide +kernel
theorem dL_take_3 : decode cL_take 3 = .ok (.iload_n 1, 1) := by decide +kernel
theorem dL_take_4 : decode cL_take 4 = .ok (.invokevirtual 26, 3) := by decide +kernel
theorem dL_take_7 : decode cL_take 7 = .ok (.i2l, 1) := by decide +kernel
theorem dL_take_8 : decode cL_take 8 = .ok (.lastore, 1) := by decide +kernel
theorem dL_take_9 : decode cL_take 9 = .ok (.goto 6, 3) := by decide +kernel
theorem dL_take_12 : decode cL_take 12 = .ok (.astore_n 3, 1) := by decide +kernel
theorem dL_take_13 : decode cL_take 13 = .ok (.iconst 1, 1) := by decide +kernel
theorem dL_take_14 : decode cL_take 14 = .ok (.ireturn, 1) := by decide +kernel
theorem dL_take_15 : decode cL_take 15 = .ok (.iconst 0, 1) := by decide +kernel
theorem dL_take_16 : decode cL_take 16 = .ok (.ireturn, 1) := by decide +kernel
theorem dL_weigh_0 : decode cL_weigh 0 = .ok (.aload_n 3, 1) := by decide +kernel
theorem dL_weigh_1 : decode cL_weigh 1 = .ok (.iconst 0, 1) := by decide +kernel
theorem dL_weigh_2 : decode cL_weigh 2 = .ok (.aload_n 0, 1) := by decide +kernel
theorem dL_weigh_3 : decode cL_weigh 3 = .ok (.iload_n 1, 1) := by decide +kernel
theorem dL_weigh_4 : decode cL_weigh 4 = .ok (.iload_n 2, 1) := by decide +kernel
theorem dL_weigh_5 : decode cL_weigh 5 = .ok (.invokevirtual 29, 3) := by decide +kernel
theorem dL_weigh_8 : decode cL_weigh 8 = .ok (.i2l, 1) := by decide +kernel
theorem dL_weigh_9 : decode cL_weigh 9 = .ok (.lastore, 1) := by decide +kernel
theorem dL_weigh_10 : decode cL_weigh 10 = .ok (.goto 7, 3) := by decide +kernel
theorem dL_weigh_13 : decode cL_weigh 13 = .ok (.astore 4, 2) := by decide +kernel
theorem dL_weigh_15 : decode cL_weigh 15 = .ok (.iconst 1, 1) := by decide +kernel
theorem dL_weigh_16 : decode cL_weigh 16 = .ok (.ireturn, 1) := by decide +kernel
theorem dL_weigh_17 : decode cL_weigh 17 = .ok (.iconst 0, 1) := by decide +kernel
theorem dL_weigh_18 : decode cL_weigh 18 = .ok (.ireturn, 1) := by decide +kernel
theorem dL_joined_0 : decode cL_joined 0 = .ok (.aload_n 3, 1) := by decide +kernel
theorem dL_joined_1 : decode cL_joined 1 = .ok (.iconst 0, 1) := by decide +kernel
theorem dL_joined_2 : decode cL_joined 2 = .ok (.aload_n 0, 1) := by decide +kernel
theorem dL_joined_3 : decode cL_joined 3 = .ok (.iload_n 1, 1) := by decide +kernel
theorem dL_joined_4 : decode cL_joined 4 = .ok (.iload_n 2, 1) := by decide +kernel
theorem dL_joined_5 : decode cL_joined 5 = .ok (.invokevirtual 32, 3) := by decide +kernel
theorem dL_joined_8 : decode cL_joined 8 = .ok (.ifCond .eq 7, 3) := by decide +kernel
theorem dL_joined_11 : decode cL_joined 11 = .ok (.lconst 1, 1) := by decide +kernel
theorem dL_joined_12 : decode cL_joined 12 = .ok (.goto 4, 3) := by decide +kernel
theorem dL_joined_15 : decode cL_joined 15 = .ok (.lconst 0, 1) := by decide +kernel
theorem dL_joined_16 : decode cL_joined 16 = .ok (.lastore, 1) := by decide +kernel
theorem dL_joined_17 : decode cL_joined 17 = .ok (.goto 7, 3) := by decide +kernel
theorem dL_joined_20 : decode cL_joined 20 = .ok (.astore 4, 2) := by decide +kernel
theorem dL_joined_22 : decode cL_joined 22 = .ok (.iconst 1, 1) := by decide +kernel
theorem dL_joined_23 : decode cL_joined 23 = .ok (.ireturn, 1) := by decide +kernel
theorem dL_joined_24 : decode cL_joined 24 = .ok (.iconst 0, 1) := by decide +kernel
theorem dL_joined_25 : decode cL_joined 25 = .ok (.ireturn, 1) := by decide +kernel
theorem dL_two_0 : decode cL_two 0 = .ok (.aload_n 3, 1) := by decide +kernel
theorem dL_two_1 : decode cL_two 1 = .ok (.iconst 0, 1) := by decide +kernel
theorem dL_two_2 : decode cL_two 2 = .ok (.aload_n 0, 1) := by decide +kernel
theorem dL_two_3 : decode cL_two 3 = .ok (.iload_n 1, 1) := by decide +kernel
theorem dL_two_4 : decode cL_two 4 = .ok (.iload_n 2, 1) := by decide +kernel
theorem dL_two_5 : decode cL_two 5 = .ok (.invokevirtual 36, 3) := by decide +kernel
theorem dL_two_8 : decode cL_two 8 = .ok (.ifCond .eq 7, 3) := by decide +kernel
theorem dL_two_11 : decode cL_two 11 = .ok (.lconst 1, 1) := by decide +kernel
theorem dL_two_12 : decode cL_two 12 = .ok (.goto 4, 3) := by decide +kernel
theorem dL_two_15 : decode cL_two 15 = .ok (.lconst 0, 1) := by decide +kernel
theorem dL_two_16 : decode cL_two 16 = .ok (.lastore, 1) := by decide +kernel
theorem dL_two_17 : decode cL_two 17 = .ok (.goto 7, 3) := by decide +kernel
theorem dL_two_20 : decode cL_two 20 = .ok (.astore 4, 2) := by decide +kernel
theorem dL_two_22 : decode cL_two 22 = .ok (.iconst 1, 1) := by decide +kernel
theorem dL_two_23 : decode cL_two 23 = .ok (.ireturn, 1) := by decide +kernel
theorem dL_two_24 : decode cL_two 24 = .ok (.iconst 0, 1) := by decide +kernel
theorem dL_two_25 : decode cL_two 25 = .ok (.ireturn, 1) := by decide +kernel
theorem dL_of_0 : decode cL_of 0 = .ok (.aload_n 3, 1) := by decide +kernel
theorem dL_of_1 : decode cL_of 1 = .ok (.iconst 0, 1) := by decide +kernel
theorem dL_of_2 : decode cL_of 2 = .ok (.aload_n 0, 1) := by decide +kernel
theorem dL_of_3 : decode cL_of 3 = .ok (.iload_n 1, 1) := by decide +kernel
theorem dL_of_4 : decode cL_of 4 = .ok (.iload_n 2, 1) := by decide +kernel
theorem dL_of_5 : decode cL_of 5 = .ok (.invokevirtual 39, 3) := by decide +kernel
theorem dL_of_8 : decode cL_of 8 = .ok (.i2l, 1) := by decide +kernel
theorem dL_of_9 : decode cL_of 9 = .ok (.lastore, 1) := by decide +kernel
theorem dL_of_10 : decode cL_of 10 = .ok (.goto 11, 3) := by decide +kernel
theorem dL_of_13 : decode cL_of 13 = .ok (.astore 4, 2) := by decide +kernel
theorem dL_of_15 : decode cL_of 15 = .ok (.iconst 1, 1) := by decide +kernel
theorem dL_of_16 : decode cL_of 16 = .ok (.ireturn, 1) := by decide +kernel
theorem dL_of_17 : decode cL_of 17 = .ok (.astore 4, 2) := by decide +kernel
theorem dL_of_19 : decode cL_of 19 = .ok (.iconst 2, 1) := by decide +kernel
theorem dL_of_20 : decode cL_of 20 = .ok (.ireturn, 1) := by decide +kernel
theorem dL_of_21 : decode cL_of 21 = .ok (.iconst 0, 1) := by decide +kernel
theorem dL_of_22 : decode cL_of 22 = .ok (.ireturn, 1) := by decide +kernel
theorem dL_arc_0 : decode cL_arc 0 = .ok (.aload_n 3, 1) := by decide +kernel
theorem dL_arc_1 : decode cL_arc 1 = .ok (.iconst 0, 1) := by decide +kernel
theorem dL_arc_2 : decode cL_arc 2 = .ok (.aload_n 0, 1) := by decide +kernel
theorem dL_arc_3 : decode cL_arc 3 = .ok (.iload_n 1, 1) := by decide +kernel
theorem dL_arc_4 : decode cL_arc 4 = .ok (.iload_n 2, 1) := by decide +kernel
theorem dL_arc_5 : decode cL_arc 5 = .ok (.invokevirtual 42, 3) := by decide +kernel
theorem dL_arc_8 : decode cL_arc 8 = .ok (.i2l, 1) := by decide +kernel
theorem dL_arc_9 : decode cL_arc 9 = .ok (.lastore, 1) := by decide +kernel
theorem dL_arc_10 : decode cL_arc 10 = .ok (.goto 11, 3) := by decide +kernel
theorem dL_arc_13 : decode cL_arc 13 = .ok (.astore 4, 2) := by decide +kernel
theorem dL_arc_15 : decode cL_arc 15 = .ok (.iconst 1, 1) := by decide +kernel
theorem dL_arc_16 : decode cL_arc 16 = .ok (.ireturn, 1) := by decide +kernel
theorem dL_arc_17 : decode cL_arc 17 = .ok (.astore 4, 2) := by decide +kernel
theorem dL_arc_19 : decode cL_arc 19 = .ok (.iconst 2, 1) := by decide +kernel
theorem dL_arc_20 : decode cL_arc 20 = .ok (.ireturn, 1) := by decide +kernel
theorem dL_arc_21 : decode cL_arc 21 = .ok (.iconst 0, 1) := by decide +kernel
theorem dL_arc_22 : decode cL_arc 22 = .ok (.ireturn, 1) := by decide +kernel
theorem dL_order_0 : decode cL_order 0 = .ok (.aload_n 2, 1) := by decide +kernel
theorem dL_order_1 : decode cL_order 1 = .ok (.iconst 0, 1) := by decide +kernel
theorem dL_order_2 : decode cL_order 2 = .ok (.aload_n 0, 1) := by decide +kernel
theorem dL_order_3 : decode cL_order 3 = .ok (.iload_n 1, 1) := by decide +kernel
theorem dL_order_4 : decode cL_order 4 = .ok (.invokevirtual 45, 3) := by decide +kernel
theorem dL_order_7 : decode cL_order 7 = .ok (.i2l, 1) := by decide +kernel
theorem dL_order_8 : decode cL_order 8 = .ok (.lastore, 1) := by decide +kernel
theorem dL_order_9 : decode cL_order 9 = .ok (.goto 6, 3) := by decide +kernel
theorem dL_order_12 : decode cL_order 12 = .ok (.astore_n 3, 1) := by decide +kernel
theorem dL_order_13 : decode cL_order 13 = .ok (.iconst 1, 1) := by decide +kernel
theorem dL_order_14 : decode cL_order 14 = .ok (.ireturn, 1) := by decide +kernel
theorem dL_order_15 : decode cL_order 15 = .ok (.iconst 0, 1) := by decide +kernel
theorem dL_order_16 : decode cL_order 16 = .ok (.ireturn, 1) := by decide +kernel
theorem dL_odd_0 : decode cL_odd 0 = .ok (.aload_n 3, 1) := by decide +kernel
theorem dL_odd_1 : decode cL_odd 1 = .ok (.iconst 0, 1) := by decide +kernel
theorem dL_odd_2 : decode cL_odd 2 = .ok (.aload_n 0, 1) := by decide +kernel
theorem dL_odd_3 : decode cL_odd 3 = .ok (.iload_n 1, 1) := by decide +kernel
theorem dL_odd_4 : decode cL_odd 4 = .ok (.iload_n 2, 1) := by decide +kernel
theorem dL_odd_5 : decode cL_odd 5 = .ok (.invokevirtual 48, 3) := by decide +kernel
theorem dL_odd_8 : decode cL_odd 8 = .ok (.i2l, 1) := by decide +kernel
theorem dL_odd_9 : decode cL_odd 9 = .ok (.lastore, 1) := by decide +kernel
theorem dL_odd_10 : decode cL_odd 10 = .ok (.goto 7, 3) := by decide +kernel
theorem dL_odd_13 : decode cL_odd 13 = .ok (.astore 4, 2) := by decide +kernel
theorem dL_odd_15 : decode cL_odd 15 = .ok (.iconst 1, 1) := by decide +kernel
theorem dL_odd_16 : decode cL_odd 16 = .ok (.ireturn, 1) := by decide +kernel
theorem dL_odd_17 : decode cL_odd 17 = .ok (.iconst 0, 1) := by decide +kernel
theorem dL_odd_18 : decode cL_odd 18 = .ok (.ireturn, 1) := by decide +kernel
theorem dL_ring_0 : decode cL_ring 0 = .ok (.aload_n 2, 1) := by decide +kernel
theorem dL_ring_1 : decode cL_ring 1 = .ok (.iconst 0, 1) := by decide +kernel
theorem dL_ring_2 : decode cL_ring 2 = .ok (.aload_n 0, 1) := by decide +kernel
theorem dL_ring_3 : decode cL_ring 3 = .ok (.iload_n 1, 1) := by decide +kernel
theorem dL_ring_4 : decode cL_ring 4 = .ok (.invokevirtual 51, 3) := by decide +kernel
theorem dL_ring_7 : decode cL_ring 7 = .ok (.i2l, 1) := by decide +kernel
theorem dL_ring_8 : decode cL_ring 8 = .ok (.lastore, 1) := by decide +kernel
theorem dL_ring_9 : decode cL_ring 9 = .ok (.goto 6, 3) := by decide +kernel
theorem dL_ring_12 : decode cL_ring 12 = .ok (.astore_n 3, 1) := by decide +kernel
theorem dL_ring_13 : decode cL_ring 13 = .ok (.iconst 1, 1) := by decide +kernel
theorem dL_ring_14 : decode cL_ring 14 = .ok (.ireturn, 1) := by decide +kernel
theorem dL_ring_15 : decode cL_ring 15 = .ok (.iconst 0, 1) := by decide +kernel
theorem dL_ring_16 : decode cL_ring 16 = .ok (.ireturn, 1) := by decide +kernel
theorem dL_planPut_0 : decode cL_planPut 0 = .ok (.aload_n 3, 1) := by decide +kernel
theorem dL_planPut_1 : decode cL_planPut 1 = .ok (.iconst 0, 1) := by decide +kernel
theorem dL_planPut_2 : decode cL_planPut 2 = .ok (.aload_n 0, 1) := by decide +kernel
theorem dL_planPut_3 : decode cL_planPut 3 = .ok (.iload_n 1, 1) := by decide +kernel
theorem dL_planPut_4 : decode cL_planPut 4 = .ok (.iload_n 2, 1) := by decide +kernel
theorem dL_planPut_5 : decode cL_planPut 5 = .ok (.invokevirtual 54, 3) := by decide +kernel
theorem dL_planPut_8 : decode cL_planPut 8 = .ok (.i2l, 1) := by decide +kernel
theorem dL_planPut_9 : decode cL_planPut 9 = .ok (.lastore, 1) := by decide +kernel
theorem dL_planPut_10 : decode cL_planPut 10 = .ok (.goto 11, 3) := by decide +kernel
theorem dL_planPut_13 : decode cL_planPut 13 = .ok (.astore 4, 2) := by decide +kernel
theorem dL_planPut_15 : decode cL_planPut 15 = .ok (.iconst 1, 1) := by decide +kernel
theorem dL_planPut_16 : decode cL_planPut 16 = .ok (.ireturn, 1) := by decide +kernel
theorem dL_planPut_17 : decode cL_planPut 17 = .ok (.astore 4, 2) := by decide +kernel
theorem dL_planPut_19 : decode cL_planPut 19 = .ok (.iconst 2, 1) := by decide +kernel
theorem dL_planPut_20 : decode cL_planPut 20 = .ok (.ireturn, 1) := by decide +kernel
theorem dL_planPut_21 : decode cL_planPut 21 = .ok (.iconst 0, 1) := by decide +kernel
theorem dL_planPut_22 : decode cL_planPut 22 = .ok (.ireturn, 1) := by decide +kernel
theorem dL_planTake_0 : decode cL_planTake 0 = .ok (.aload_n 2, 1) := by decide +kernel
theorem dL_planTake_1 : decode cL_planTake 1 = .ok (.iconst 0, 1) := by decide +kernel
theorem dL_planTake_2 : decode cL_planTake 2 = .ok (.aload_n 0, 1) := by decide +kernel
theorem dL_planTake_3 : decode cL_planTake 3 = .ok (.iload_n 1, 1) := by decide +kernel
theorem dL_planTake_4 : decode cL_planTake 4 = .ok (.invokevirtual 57, 3) := by decide +kernel
theorem dL_planTake_7 : decode cL_planTake 7 = .ok (.i2l, 1) := by decide +kernel
theorem dL_planTake_8 : decode cL_planTake 8 = .ok (.lastore, 1) := by decide +kernel
theorem dL_planTake_9 : decode cL_planTake 9 = .ok (.goto 12, 3) := by decide +kernel
theorem dL_planTake_12 : decode cL_planTake 12 = .ok (.astore_n 3, 1) := by decide +kernel
theorem dL_planTake_13 : decode cL_planTake 13 = .ok (.iconst 1, 1) := by decide +kernel
theorem dL_planTake_14 : decode cL_planTake 14 = .ok (.ireturn, 1) := by decide +kernel
theorem dL_planTake_15 : decode cL_planTake 15 = .ok (.astore_n 3, 1) := by decide +kernel
theorem dL_planTake_16 : decode cL_planTake 16 = .ok (.iconst 2, 1) := by decide +kernel
theorem dL_planTake_17 : decode cL_planTake 17 = .ok (.ireturn, 1) := by decide +kernel
theorem dL_planTake_18 : decode cL_planTake 18 = .ok (.astore_n 3, 1) := by decide +kernel
theorem dL_planTake_19 : decode cL_planTake 19 = .ok (.iconst 3, 1) := by decide +kernel
theorem dL_planTake_20 : decode cL_planTake 20 = .ok (.ireturn, 1) := by decide +kernel
theorem dL_planTake_21 : decode cL_planTake 21 = .ok (.iconst 0, 1) := by decide +kernel
theorem dL_planTake_22 : decode cL_planTake 22 = .ok (.ireturn, 1) := by decide +kernel
theorem dL_later_0 : decode cL_later 0 = .ok (.aload_n 3, 1) := by decide +kernel
theorem dL_later_1 : decode cL_later 1 = .ok (.iconst 0, 1) := by decide +kernel
theorem dL_later_2 : decode cL_later 2 = .ok (.aload_n 0, 1) := by decide +kernel
theorem dL_later_3 : decode cL_later 3 = .ok (.iload_n 1, 1) := by decide +kernel
theorem dL_later_4 : decode cL_later 4 = .ok (.iload_n 2, 1) := by decide +kernel
theorem dL_later_5 : decode cL_later 5 = .ok (.invokevirtual 62, 3) := by decide +kernel
theorem dL_later_8 : decode cL_later 8 = .ok (.i2l, 1) := by decide +kernel
theorem dL_later_9 : decode cL_later 9 = .ok (.lastore, 1) := by decide +kernel
theorem dL_later_10 : decode cL_later 10 = .ok (.goto 11, 3) := by decide +kernel
theorem dL_later_13 : decode cL_later 13 = .ok (.astore 4, 2) := by decide +kernel
theorem dL_later_15 : decode cL_later 15 = .ok (.iconst 1, 1) := by decide +kernel
theorem dL_later_16 : decode cL_later 16 = .ok (.ireturn, 1) := by decide +kernel
theorem dL_later_17 : decode cL_later 17 = .ok (.astore 4, 2) := by decide +kernel
theorem dL_later_19 : decode cL_later 19 = .ok (.iconst 2, 1) := by decide +kernel
theorem dL_later_20 : decode cL_later 20 = .ok (.ireturn, 1) := by decide +kernel
theorem dL_later_21 : decode cL_later 21 = .ok (.iconst 0, 1) := by decide +kernel
theorem dL_later_22 : decode cL_later 22 = .ok (.ireturn, 1) := by decide +kernel
theorem dL_laterJoined_0 : decode cL_laterJoined 0 = .ok (.aload 4, 2) := by decide +kernel
theorem dL_laterJoined_2 : decode cL_laterJoined 2 = .ok (.iconst 0, 1) := by decide +kernel
theorem dL_laterJoined_3 : decode cL_laterJoined 3 = .ok (.aload_n 0, 1) := by decide +kernel
theorem dL_laterJoined_4 : decode cL_laterJoined 4 = .ok (.iload_n 1, 1) := by decide +kernel
theorem dL_laterJoined_5 : decode cL_laterJoined 5 = .ok (.iload_n 2, 1) := by decide +kernel
theorem dL_laterJoined_6 : decode cL_laterJoined 6 = .ok (.iload_n 3, 1) := by decide +kernel
theorem dL_laterJoined_7 : decode cL_laterJoined 7 = .ok (.invokevirtual 65, 3) := by decide +kernel
theorem dL_laterJoined_10 : decode cL_laterJoined 10 = .ok (.ifCond .eq 7, 3) := by decide +kernel
theorem dL_laterJoined_13 : decode cL_laterJoined 13 = .ok (.lconst 1, 1) := by decide +kernel
theorem dL_laterJoined_14 : decode cL_laterJoined 14 = .ok (.goto 4, 3) := by decide +kernel
theorem dL_laterJoined_17 : decode cL_laterJoined 17 = .ok (.lconst 0, 1) := by decide +kernel
theorem dL_laterJoined_18 : decode cL_laterJoined 18 = .ok (.lastore, 1) := by decide +kernel
theorem dL_laterJoined_19 : decode cL_laterJoined 19 = .ok (.goto 7, 3) := by decide +kernel
theorem dL_laterJoined_22 : decode cL_laterJoined 22 = .ok (.astore 5, 2) := by decide +kernel
theorem dL_laterJoined_24 : decode cL_laterJoined 24 = .ok (.iconst 1, 1) := by decide +kernel
theorem dL_laterJoined_25 : decode cL_laterJoined 25 = .ok (.ireturn, 1) := by decide +kernel
theorem dL_laterJoined_26 : decode cL_laterJoined 26 = .ok (.iconst 0, 1) := by decide +kernel
theorem dL_laterJoined_27 : decode cL_laterJoined 27 = .ok (.ireturn, 1) := by decide +kernel
theorem dL_told_0 : decode cL_told 0 = .ok (.aload_n 2, 1) := by decide +kernel
theorem dL_told_1 : decode cL_told 1 = .ok (.iconst 0, 1) := by decide +kernel
theorem dL_told_2 : decode cL_told 2 = .ok (.aload_n 0, 1) := by decide +kernel
theorem dL_told_3 : decode cL_told 3 = .ok (.iload_n 1, 1) := by decide +kernel
theorem dL_told_4 : decode cL_told 4 = .ok (.invokevirtual 69, 3) := by decide +kernel
theorem dL_told_7 : decode cL_told 7 = .ok (.i2l, 1) := by decide +kernel
theorem dL_told_8 : decode cL_told 8 = .ok (.lastore, 1) := by decide +kernel
theorem dL_told_9 : decode cL_told 9 = .ok (.goto 6, 3) := by decide +kernel
theorem dL_told_12 : decode cL_told 12 = .ok (.astore_n 3, 1) := by decide +kernel
theorem dL_told_13 : decode cL_told 13 = .ok (.iconst 1, 1) := by decide +kernel
theorem dL_told_14 : decode cL_told 14 = .ok (.ireturn, 1) := by decide +kernel
theorem dL_told_15 : decode cL_told 15 = .ok (.iconst 0, 1) := by decide +kernel
theorem dL_told_16 : decode cL_told 16 = .ok (.ireturn, 1) := by decide +kernel
theorem dL_law_0 : decode cL_law 0 = .ok (.new 8, 3) := by decide +kernel
theorem dL_law_3 : decode cL_law 3 = .ok (.dup, 1) := by decide +kernel
theorem dL_law_4 : decode cL_law 4 = .ok (.aload_n 0, 1) := by decide +kernel
theorem dL_law_5 : decode cL_law 5 = .ok (.iconst 0, 1) := by decide +kernel
theorem dL_law_6 : decode cL_law 6 = .ok (.invokestatic 72, 3) := by decide +kernel
theorem dL_law_9 : decode cL_law 9 = .ok (.invokespecial 78, 3) := by decide +kernel
theorem dL_law_12 : decode cL_law 12 = .ok (.astore_n 1, 1) := by decide +kernel
theorem dL_law_13 : decode cL_law 13 = .ok (.new 81, 3) := by decide +kernel
theorem dL_law_16 : decode cL_law 16 = .ok (.dup, 1) := by decide +kernel
theorem dL_law_17 : decode cL_law 17 = .ok (.aload_n 0, 1) := by decide +kernel
theorem dL_law_18 : decode cL_law 18 = .ok (.iconst 0, 1) := by decide +kernel
theorem dL_law_19 : decode cL_law 19 = .ok (.invokestatic 72, 3) := by decide +kernel
theorem dL_law_22 : decode cL_law 22 = .ok (.invokespecial 83, 3) := by decide +kernel
theorem dL_law_25 : decode cL_law 25 = .ok (.astore_n 2, 1) := by decide +kernel
theorem dL_law_26 : decode cL_law 26 = .ok (.iconst 1, 1) := by decide +kernel
theorem dL_law_27 : decode cL_law 27 = .ok (.newarray .long, 2) := by decide +kernel
theorem dL_law_29 : decode cL_law 29 = .ok (.astore_n 3, 1) := by decide +kernel
theorem dL_law_30 : decode cL_law 30 = .ok (.iconst 1, 1) := by decide +kernel
theorem dL_law_31 : decode cL_law 31 = .ok (.istore 4, 2) := by decide +kernel
theorem dL_law_33 : decode cL_law 33 = .ok (.iload 4, 2) := by decide +kernel
theorem dL_law_35 : decode cL_law 35 = .ok (.aload_n 0, 1) := by decide +kernel
theorem dL_law_36 : decode cL_law 36 = .ok (.arraylength, 1) := by decide +kernel
theorem dL_law_37 : decode cL_law 37 = .ok (.iconst 4, 1) := by decide +kernel
theorem dL_law_38 : decode cL_law 38 = .ok (.isub, 1) := by decide +kernel
theorem dL_law_39 : decode cL_law 39 = .ok (.if_icmp .gt 1271, 3) := by decide +kernel
theorem dL_law_42 : decode cL_law 42 = .ok (.aload_n 0, 1) := by decide +kernel
theorem dL_law_43 : decode cL_law 43 = .ok (.iload 4, 2) := by decide +kernel
theorem dL_law_45 : decode cL_law 45 = .ok (.iaload, 1) := by decide +kernel
theorem dL_law_46 : decode cL_law 46 = .ok (.bipush 31, 2) := by decide +kernel
theorem dL_law_48 : decode cL_law 48 = .ok (.iand, 1) := by decide +kernel
theorem dL_law_49 : decode cL_law 49 = .ok (.tableswitch 1255 0 20 #[99, 155, 211, 279, 335, 403, 478, 553, 621, 689, 745, 813, 869, 883, 951, 1007, 1075, 1162, 1175, 1231, 1244], 99) := by decide +kernel
theorem dL_law_148 : decode cL_law 148 = .ok (.aload_n 1, 1) := by decide +kernel
theorem dL_law_149 : decode cL_law 149 = .ok (.aload_n 0, 1) := by decide +kernel
theorem dL_law_150 : decode cL_law 150 = .ok (.iload 4, 2) := by decide +kernel
theorem dL_law_152 : decode cL_law 152 = .ok (.iconst 1, 1) := by decide +kernel
theorem dL_law_153 : decode cL_law 153 = .ok (.iadd, 1) := by decide +kernel
theorem dL_law_154 : decode cL_law 154 = .ok (.iaload, 1) := by decide +kernel
theorem dL_law_155 : decode cL_law 155 = .ok (.aload_n 3, 1) := by decide +kernel
theorem dL_law_156 : decode cL_law 156 = .ok (.invokestatic 84, 3) := by decide +kernel
theorem dL_law_159 : decode cL_law 159 = .ok (.istore 5, 2) := by decide +kernel
theorem dL_law_161 : decode cL_law 161 = .ok (.aload_n 2, 1) := by decide +kernel
theorem dL_law_162 : decode cL_law 162 = .ok (.aload_n 0, 1) := by decide +kernel
theorem dL_law_163 : decode cL_law 163 = .ok (.iload 4, 2) := by decide +kernel
theorem dL_law_165 : decode cL_law 165 = .ok (.iconst 1, 1) := by decide +kernel
theorem dL_law_166 : decode cL_law 166 = .ok (.iadd, 1) := by decide +kernel
theorem dL_law_167 : decode cL_law 167 = .ok (.iaload, 1) := by decide +kernel
theorem dL_law_168 : decode cL_law 168 = .ok (.invokevirtual 87, 3) := by decide +kernel
theorem dL_law_171 : decode cL_law 171 = .ok (.istore 6, 2) := by decide +kernel
theorem dL_law_173 : decode cL_law 173 = .ok (.aload_n 2, 1) := by decide +kernel
theorem dL_law_174 : decode cL_law 174 = .ok (.invokevirtual 88, 3) := by decide +kernel
theorem dL_law_177 : decode cL_law 177 = .ok (.iload 5, 2) := by decide +kernel
theorem dL_law_179 : decode cL_law 179 = .ok (.if_icmp .eq 5, 3) := by decide +kernel
theorem dL_law_182 : decode cL_law 182 = .ok (.iconst 0, 1) := by decide +kernel
theorem dL_law_183 : decode cL_law 183 = .ok (.ireturn, 1) := by decide +kernel
theorem dL_law_184 : decode cL_law 184 = .ok (.iload 5, 2) := by decide +kernel
theorem dL_law_186 : decode cL_law 186 = .ok (.ifCond .ne 15, 3) := by decide +kernel
theorem dL_law_189 : decode cL_law 189 = .ok (.aload_n 3, 1) := by decide +kernel
theorem dL_law_190 : decode cL_law 190 = .ok (.iconst 0, 1) := by decide +kernel
theorem dL_law_191 : decode cL_law 191 = .ok (.laload, 1) := by decide +kernel
theorem dL_law_192 : decode cL_law 192 = .ok (.iload 6, 2) := by decide +kernel
theorem dL_law_194 : decode cL_law 194 = .ok (.i2l, 1) := by decide +kernel
theorem dL_law_195 : decode cL_law 195 = .ok (.lcmp, 1) := by decide +kernel
theorem dL_law_196 : decode cL_law 196 = .ok (.ifCond .eq 5, 3) := by decide +kernel
theorem dL_law_199 : decode cL_law 199 = .ok (.iconst 0, 1) := by decide +kernel
theorem dL_law_200 : decode cL_law 200 = .ok (.ireturn, 1) := by decide +kernel
theorem dL_law_201 : decode cL_law 201 = .ok (.goto 1103, 3) := by decide +kernel
theorem dL_law_204 : decode cL_law 204 = .ok (.aload_n 1, 1) := by decide +kernel
theorem dL_law_205 : decode cL_law 205 = .ok (.aload_n 0, 1) := by decide +kernel
theorem dL_law_206 : decode cL_law 206 = .ok (.iload 4, 2) := by decide +kernel
theorem dL_law_208 : decode cL_law 208 = .ok (.iconst 1, 1) := by decide +kernel
theorem dL_law_209 : decode cL_law 209 = .ok (.iadd, 1) := by decide +kernel
theorem dL_law_210 : decode cL_law 210 = .ok (.iaload, 1) := by decide +kernel
theorem dL_law_211 : decode cL_law 211 = .ok (.aload_n 3, 1) := by decide +kernel
theorem dL_law_212 : decode cL_law 212 = .ok (.invokestatic 92, 3) := by decide +kernel
theorem dL_law_215 : decode cL_law 215 = .ok (.istore 5, 2) := by decide +kernel
theorem dL_law_217 : decode cL_law 217 = .ok (.aload_n 2, 1) := by decide +kernel
theorem dL_law_218 : decode cL_law 218 = .ok (.aload_n 0, 1) := by decide +kernel
theorem dL_law_219 : decode cL_law 219 = .ok (.iload 4, 2) := by decide +kernel
theorem dL_law_221 : decode cL_law 221 = .ok (.iconst 1, 1) := by decide +kernel
theorem dL_law_222 : decode cL_law 222 = .ok (.iadd, 1) := by decide +kernel
theorem dL_law_223 : decode cL_law 223 = .ok (.iaload, 1) := by decide +kernel
theorem dL_law_224 : decode cL_law 224 = .ok (.invokevirtual 94, 3) := by decide +kernel
theorem dL_law_227 : decode cL_law 227 = .ok (.istore 6, 2) := by decide +kernel
theorem dL_law_229 : decode cL_law 229 = .ok (.aload_n 2, 1) := by decide +kernel
theorem dL_law_230 : decode cL_law 230 = .ok (.invokevirtual 88, 3) := by decide +kernel
theorem dL_law_233 : decode cL_law 233 = .ok (.iload 5, 2) := by decide +kernel
theorem dL_law_235 : decode cL_law 235 = .ok (.if_icmp .eq 5, 3) := by decide +kernel
theorem dL_law_238 : decode cL_law 238 = .ok (.iconst 0, 1) := by decide +kernel
theorem dL_law_239 : decode cL_law 239 = .ok (.ireturn, 1) := by decide +kernel
theorem dL_law_240 : decode cL_law 240 = .ok (.iload 5, 2) := by decide +kernel
theorem dL_law_242 : decode cL_law 242 = .ok (.ifCond .ne 15, 3) := by decide +kernel
theorem dL_law_245 : decode cL_law 245 = .ok (.aload_n 3, 1) := by decide +kernel
theorem dL_law_246 : decode cL_law 246 = .ok (.iconst 0, 1) := by decide +kernel
theorem dL_law_247 : decode cL_law 247 = .ok (.laload, 1) := by decide +kernel
theorem dL_law_248 : decode cL_law 248 = .ok (.iload 6, 2) := by decide +kernel
theorem dL_law_250 : decode cL_law 250 = .ok (.i2l, 1) := by decide +kernel
theorem dL_law_251 : decode cL_law 251 = .ok (.lcmp, 1) := by decide +kernel
theorem dL_law_252 : decode cL_law 252 = .ok (.ifCond .eq 5, 3) := by decide +kernel
theorem dL_law_255 : decode cL_law 255 = .ok (.iconst 0, 1) := by decide +kernel
theorem dL_law_256 : decode cL_law 256 = .ok (.ireturn, 1) := by decide +kernel
theorem dL_law_257 : decode cL_law 257 = .ok (.goto 1047, 3) := by decide +kernel
theorem dL_law_260 : decode cL_law 260 = .ok (.aload_n 1, 1) := by decide +kernel
theorem dL_law_261 : decode cL_law 261 = .ok (.aload_n 0, 1) := by decide +kernel
theorem dL_law_262 : decode cL_law 262 = .ok (.iload 4, 2) := by decide +kernel
theorem dL_law_264 : decode cL_law 264 = .ok (.iconst 1, 1) := by decide +kernel
theorem dL_law_265 : decode cL_law 265 = .ok (.iadd, 1) := by decide +kernel
theorem dL_law_266 : decode cL_law 266 = .ok (.iaload, 1) := by decide +kernel
theorem dL_law_267 : decode cL_law 267 = .ok (.aload_n 0, 1) := by decide +kernel
theorem dL_law_268 : decode cL_law 268 = .ok (.iload 4, 2) := by decide +kernel
theorem dL_law_270 : decode cL_law 270 = .ok (.iconst 2, 1) := by decide +kernel
theorem dL_law_271 : decode cL_law 271 = .ok (.iadd, 1) := by decide +kernel
theorem dL_law_272 : decode cL_law 272 = .ok (.iaload, 1) := by decide +kernel
theorem dL_law_273 : decode cL_law 273 = .ok (.aload_n 3, 1) := by decide +kernel
theorem dL_law_274 : decode cL_law 274 = .ok (.invokestatic 95, 3) := by decide +kernel
theorem dL_law_277 : decode cL_law 277 = .ok (.istore 5, 2) := by decide +kernel
theorem dL_law_279 : decode cL_law 279 = .ok (.aload_n 2, 1) := by decide +kernel
theorem dL_law_280 : decode cL_law 280 = .ok (.aload_n 0, 1) := by decide +kernel
theorem dL_law_281 : decode cL_law 281 = .ok (.iload 4, 2) := by decide +kernel
theorem dL_law_283 : decode cL_law 283 = .ok (.iconst 1, 1) := by decide +kernel
theorem dL_law_284 : decode cL_law 284 = .ok (.iadd, 1) := by decide +kernel
theorem dL_law_285 : decode cL_law 285 = .ok (.iaload, 1) := by decide +kernel
theorem dL_law_286 : decode cL_law 286 = .ok (.aload_n 0, 1) := by decide +kernel
theorem dL_law_287 : decode cL_law 287 = .ok (.iload 4, 2) := by decide +kernel
theorem dL_law_289 : decode cL_law 289 = .ok (.iconst 2, 1) := by decide +kernel
theorem dL_law_290 : decode cL_law 290 = .ok (.iadd, 1) := by decide +kernel
theorem dL_law_291 : decode cL_law 291 = .ok (.iaload, 1) := by decide +kernel
theorem dL_law_292 : decode cL_law 292 = .ok (.invokevirtual 98, 3) := by decide +kernel
theorem dL_law_295 : decode cL_law 295 = .ok (.istore 6, 2) := by decide +kernel
theorem dL_law_297 : decode cL_law 297 = .ok (.aload_n 2, 1) := by decide +kernel
theorem dL_law_298 : decode cL_law 298 = .ok (.invokevirtual 88, 3) := by decide +kernel
theorem dL_law_301 : decode cL_law 301 = .ok (.iload 5, 2) := by decide +kernel
theorem dL_law_303 : decode cL_law 303 = .ok (.if_icmp .eq 5, 3) := by decide +kernel
theorem dL_law_306 : decode cL_law 306 = .ok (.iconst 0, 1) := by decide +kernel
theorem dL_law_307 : decode cL_law 307 = .ok (.ireturn, 1) := by decide +kernel
theorem dL_law_308 : decode cL_law 308 = .ok (.iload 5, 2) := by decide +kernel
theorem dL_law_310 : decode cL_law 310 = .ok (.ifCond .ne 15, 3) := by decide +kernel
theorem dL_law_313 : decode cL_law 313 = .ok (.aload_n 3, 1) := by decide +kernel
theorem dL_law_314 : decode cL_law 314 = .ok (.iconst 0, 1) := by decide +kernel
theorem dL_law_315 : decode cL_law 315 = .ok (.laload, 1) := by decide +kernel
theorem dL_law_316 : decode cL_law 316 = .ok (.iload 6, 2) := by decide +kernel
theorem dL_law_318 : decode cL_law 318 = .ok (.i2l, 1) := by decide +kernel
theorem dL_law_319 : decode cL_law 319 = .ok (.lcmp, 1) := by decide +kernel
theorem dL_law_320 : decode cL_law 320 = .ok (.ifCond .eq 5, 3) := by decide +kernel
theorem dL_law_323 : decode cL_law 323 = .ok (.iconst 0, 1) := by decide +kernel
theorem dL_law_324 : decode cL_law 324 = .ok (.ireturn, 1) := by decide +kernel
theorem dL_law_325 : decode cL_law 325 = .ok (.goto 979, 3) := by decide +kernel
theorem dL_law_328 : decode cL_law 328 = .ok (.aload_n 1, 1) := by decide +kernel
theorem dL_law_329 : decode cL_law 329 = .ok (.aload_n 0, 1) := by decide +kernel
theorem dL_law_330 : decode cL_law 330 = .ok (.iload 4, 2) := by decide +kernel
theorem dL_law_332 : decode cL_law 332 = .ok (.iconst 1, 1) := by decide +kernel
theorem dL_law_333 : decode cL_law 333 = .ok (.iadd, 1) := by decide +kernel
theorem dL_law_334 : decode cL_law 334 = .ok (.iaload, 1) := by decide +kernel
theorem dL_law_335 : decode cL_law 335 = .ok (.aload_n 3, 1) := by decide +kernel
theorem dL_law_336 : decode cL_law 336 = .ok (.invokestatic 99, 3) := by decide +kernel
theorem dL_law_339 : decode cL_law 339 = .ok (.istore 5, 2) := by decide +kernel
theorem dL_law_341 : decode cL_law 341 = .ok (.aload_n 2, 1) := by decide +kernel
theorem dL_law_342 : decode cL_law 342 = .ok (.aload_n 0, 1) := by decide +kernel
theorem dL_law_343 : decode cL_law 343 = .ok (.iload 4, 2) := by decide +kernel
theorem dL_law_345 : decode cL_law 345 = .ok (.iconst 1, 1) := by decide +kernel
theorem dL_law_346 : decode cL_law 346 = .ok (.iadd, 1) := by decide +kernel
theorem dL_law_347 : decode cL_law 347 = .ok (.iaload, 1) := by decide +kernel
theorem dL_law_348 : decode cL_law 348 = .ok (.invokevirtual 101, 3) := by decide +kernel
theorem dL_law_351 : decode cL_law 351 = .ok (.istore 6, 2) := by decide +kernel
theorem dL_law_353 : decode cL_law 353 = .ok (.aload_n 2, 1) := by decide +kernel
theorem dL_law_354 : decode cL_law 354 = .ok (.invokevirtual 88, 3) := by decide +kernel
theorem dL_law_357 : decode cL_law 357 = .ok (.iload 5, 2) := by decide +kernel
theorem dL_law_359 : decode cL_law 359 = .ok (.if_icmp .eq 5, 3) := by decide +kernel
theorem dL_law_362 : decode cL_law 362 = .ok (.iconst 0, 1) := by decide +kernel
theorem dL_law_363 : decode cL_law 363 = .ok (.ireturn, 1) := by decide +kernel
theorem dL_law_364 : decode cL_law 364 = .ok (.iload 5, 2) := by decide +kernel
theorem dL_law_366 : decode cL_law 366 = .ok (.ifCond .ne 15, 3) := by decide +kernel
theorem dL_law_369 : decode cL_law 369 = .ok (.aload_n 3, 1) := by decide +kernel
theorem dL_law_370 : decode cL_law 370 = .ok (.iconst 0, 1) := by decide +kernel
theorem dL_law_371 : decode cL_law 371 = .ok (.laload, 1) := by decide +kernel
theorem dL_law_372 : decode cL_law 372 = .ok (.iload 6, 2) := by decide +kernel
theorem dL_law_374 : decode cL_law 374 = .ok (.i2l, 1) := by decide +kernel
theorem dL_law_375 : decode cL_law 375 = .ok (.lcmp, 1) := by decide +kernel
theorem dL_law_376 : decode cL_law 376 = .ok (.ifCond .eq 5, 3) := by decide +kernel
theorem dL_law_379 : decode cL_law 379 = .ok (.iconst 0, 1) := by decide +kernel
theorem dL_law_380 : decode cL_law 380 = .ok (.ireturn, 1) := by decide +kernel
theorem dL_law_381 : decode cL_law 381 = .ok (.goto 923, 3) := by decide +kernel
theorem dL_law_384 : decode cL_law 384 = .ok (.aload_n 1, 1) := by decide +kernel
theorem dL_law_385 : decode cL_law 385 = .ok (.aload_n 0, 1) := by decide +kernel
theorem dL_law_386 : decode cL_law 386 = .ok (.iload 4, 2) := by decide +kernel
theorem dL_law_388 : decode cL_law 388 = .ok (.iconst 1, 1) := by decide +kernel
theorem dL_law_389 : decode cL_law 389 = .ok (.iadd, 1) := by decide +kernel
theorem dL_law_390 : decode cL_law 390 = .ok (.iaload, 1) := by decide +kernel
theorem dL_law_391 : decode cL_law 391 = .ok (.aload_n 0, 1) := by decide +kernel
theorem dL_law_392 : decode cL_law 392 = .ok (.iload 4, 2) := by decide +kernel
theorem dL_law_394 : decode cL_law 394 = .ok (.iconst 2, 1) := by decide +kernel
theorem dL_law_395 : decode cL_law 395 = .ok (.iadd, 1) := by decide +kernel
theorem dL_law_396 : decode cL_law 396 = .ok (.iaload, 1) := by decide +kernel
theorem dL_law_397 : decode cL_law 397 = .ok (.aload_n 3, 1) := by decide +kernel
theorem dL_law_398 : decode cL_law 398 = .ok (.invokestatic 102, 3) := by decide +kernel
theorem dL_law_401 : decode cL_law 401 = .ok (.istore 5, 2) := by decide +kernel
theorem dL_law_403 : decode cL_law 403 = .ok (.aload_n 2, 1) := by decide +kernel
theorem dL_law_404 : decode cL_law 404 = .ok (.aload_n 0, 1) := by decide +kernel
theorem dL_law_405 : decode cL_law 405 = .ok (.iload 4, 2) := by decide +kernel
theorem dL_law_407 : decode cL_law 407 = .ok (.iconst 1, 1) := by decide +kernel
theorem dL_law_408 : decode cL_law 408 = .ok (.iadd, 1) := by decide +kernel
theorem dL_law_409 : decode cL_law 409 = .ok (.iaload, 1) := by decide +kernel
theorem dL_law_410 : decode cL_law 410 = .ok (.aload_n 0, 1) := by decide +kernel
theorem dL_law_411 : decode cL_law 411 = .ok (.iload 4, 2) := by decide +kernel
theorem dL_law_413 : decode cL_law 413 = .ok (.iconst 2, 1) := by decide +kernel
theorem dL_law_414 : decode cL_law 414 = .ok (.iadd, 1) := by decide +kernel
theorem dL_law_415 : decode cL_law 415 = .ok (.iaload, 1) := by decide +kernel
theorem dL_law_416 : decode cL_law 416 = .ok (.invokevirtual 104, 3) := by decide +kernel
theorem dL_law_419 : decode cL_law 419 = .ok (.istore 6, 2) := by decide +kernel
theorem dL_law_421 : decode cL_law 421 = .ok (.aload_n 2, 1) := by decide +kernel
theorem dL_law_422 : decode cL_law 422 = .ok (.invokevirtual 88, 3) := by decide +kernel
theorem dL_law_425 : decode cL_law 425 = .ok (.iload 5, 2) := by decide +kernel
theorem dL_law_427 : decode cL_law 427 = .ok (.if_icmp .eq 5, 3) := by decide +kernel
theorem dL_law_430 : decode cL_law 430 = .ok (.iconst 0, 1) := by decide +kernel
theorem dL_law_431 : decode cL_law 431 = .ok (.ireturn, 1) := by decide +kernel
theorem dL_law_432 : decode cL_law 432 = .ok (.iload 5, 2) := by decide +kernel
theorem dL_law_434 : decode cL_law 434 = .ok (.ifCond .ne 15, 3) := by decide +kernel
theorem dL_law_437 : decode cL_law 437 = .ok (.aload_n 3, 1) := by decide +kernel
theorem dL_law_438 : decode cL_law 438 = .ok (.iconst 0, 1) := by decide +kernel
theorem dL_law_439 : decode cL_law 439 = .ok (.laload, 1) := by decide +kernel
theorem dL_law_440 : decode cL_law 440 = .ok (.iload 6, 2) := by decide +kernel
theorem dL_law_442 : decode cL_law 442 = .ok (.i2l, 1) := by decide +kernel
theorem dL_law_443 : decode cL_law 443 = .ok (.lcmp, 1) := by decide +kernel
theorem dL_law_444 : decode cL_law 444 = .ok (.ifCond .eq 5, 3) := by decide +kernel
theorem dL_law_447 : decode cL_law 447 = .ok (.iconst 0, 1) := by decide +kernel
theorem dL_law_448 : decode cL_law 448 = .ok (.ireturn, 1) := by decide +kernel
theorem dL_law_449 : decode cL_law 449 = .ok (.goto 855, 3) := by decide +kernel
theorem dL_law_452 : decode cL_law 452 = .ok (.aload_n 1, 1) := by decide +kernel
theorem dL_law_453 : decode cL_law 453 = .ok (.aload_n 0, 1) := by decide +kernel
theorem dL_law_454 : decode cL_law 454 = .ok (.iload 4, 2) := by decide +kernel
theorem dL_law_456 : decode cL_law 456 = .ok (.iconst 1, 1) := by decide +kernel
theorem dL_law_457 : decode cL_law 457 = .ok (.iadd, 1) := by decide +kernel
theorem dL_law_458 : decode cL_law 458 = .ok (.iaload, 1) := by decide +kernel
theorem dL_law_459 : decode cL_law 459 = .ok (.aload_n 0, 1) := by decide +kernel
theorem dL_law_460 : decode cL_law 460 = .ok (.iload 4, 2) := by decide +kernel
theorem dL_law_462 : decode cL_law 462 = .ok (.iconst 2, 1) := by decide +kernel
theorem dL_law_463 : decode cL_law 463 = .ok (.iadd, 1) := by decide +kernel
theorem dL_law_464 : decode cL_law 464 = .ok (.iaload, 1) := by decide +kernel
theorem dL_law_465 : decode cL_law 465 = .ok (.aload_n 3, 1) := by decide +kernel
theorem dL_law_466 : decode cL_law 466 = .ok (.invokestatic 105, 3) := by decide +kernel
theorem dL_law_469 : decode cL_law 469 = .ok (.istore 5, 2) := by decide +kernel
theorem dL_law_471 : decode cL_law 471 = .ok (.aload_n 2, 1) := by decide +kernel
theorem dL_law_472 : decode cL_law 472 = .ok (.aload_n 0, 1) := by decide +kernel
theorem dL_law_473 : decode cL_law 473 = .ok (.iload 4, 2) := by decide +kernel
theorem dL_law_475 : decode cL_law 475 = .ok (.iconst 1, 1) := by decide +kernel
theorem dL_law_476 : decode cL_law 476 = .ok (.iadd, 1) := by decide +kernel
theorem dL_law_477 : decode cL_law 477 = .ok (.iaload, 1) := by decide +kernel
theorem dL_law_478 : decode cL_law 478 = .ok (.aload_n 0, 1) := by decide +kernel
theorem dL_law_479 : decode cL_law 479 = .ok (.iload 4, 2) := by decide +kernel
theorem dL_law_481 : decode cL_law 481 = .ok (.iconst 2, 1) := by decide +kernel
theorem dL_law_482 : decode cL_law 482 = .ok (.iadd, 1) := by decide +kernel
theorem dL_law_483 : decode cL_law 483 = .ok (.iaload, 1) := by decide +kernel
theorem dL_law_484 : decode cL_law 484 = .ok (.invokevirtual 107, 3) := by decide +kernel
theorem dL_law_487 : decode cL_law 487 = .ok (.istore 6, 2) := by decide +kernel
theorem dL_law_489 : decode cL_law 489 = .ok (.aload_n 2, 1) := by decide +kernel
theorem dL_law_490 : decode cL_law 490 = .ok (.invokevirtual 88, 3) := by decide +kernel
theorem dL_law_493 : decode cL_law 493 = .ok (.iload 5, 2) := by decide +kernel
theorem dL_law_495 : decode cL_law 495 = .ok (.if_icmp .eq 5, 3) := by decide +kernel
theorem dL_law_498 : decode cL_law 498 = .ok (.iconst 0, 1) := by decide +kernel
theorem dL_law_499 : decode cL_law 499 = .ok (.ireturn, 1) := by decide +kernel
theorem dL_law_500 : decode cL_law 500 = .ok (.iload 5, 2) := by decide +kernel
theorem dL_law_502 : decode cL_law 502 = .ok (.ifCond .ne 22, 3) := by decide +kernel
theorem dL_law_505 : decode cL_law 505 = .ok (.aload_n 3, 1) := by decide +kernel
theorem dL_law_506 : decode cL_law 506 = .ok (.iconst 0, 1) := by decide +kernel
theorem dL_law_507 : decode cL_law 507 = .ok (.laload, 1) := by decide +kernel
theorem dL_law_508 : decode cL_law 508 = .ok (.iload 6, 2) := by decide +kernel
theorem dL_law_510 : decode cL_law 510 = .ok (.ifCond .eq 7, 3) := by decide +kernel
theorem dL_law_513 : decode cL_law 513 = .ok (.lconst 1, 1) := by decide +kernel
theorem dL_law_514 : decode cL_law 514 = .ok (.goto 4, 3) := by decide +kernel
theorem dL_law_517 : decode cL_law 517 = .ok (.lconst 0, 1) := by decide +kernel
theorem dL_law_518 : decode cL_law 518 = .ok (.lcmp, 1) := by decide +kernel
theorem dL_law_519 : decode cL_law 519 = .ok (.ifCond .eq 5, 3) := by decide +kernel
theorem dL_law_522 : decode cL_law 522 = .ok (.iconst 0, 1) := by decide +kernel
theorem dL_law_523 : decode cL_law 523 = .ok (.ireturn, 1) := by decide +kernel
theorem dL_law_524 : decode cL_law 524 = .ok (.goto 780, 3) := by decide +kernel
theorem dL_law_527 : decode cL_law 527 = .ok (.aload_n 1, 1) := by decide +kernel
theorem dL_law_528 : decode cL_law 528 = .ok (.aload_n 0, 1) := by decide +kernel
theorem dL_law_529 : decode cL_law 529 = .ok (.iload 4, 2) := by decide +kernel
theorem dL_law_531 : decode cL_law 531 = .ok (.iconst 1, 1) := by decide +kernel
theorem dL_law_532 : decode cL_law 532 = .ok (.iadd, 1) := by decide +kernel
theorem dL_law_533 : decode cL_law 533 = .ok (.iaload, 1) := by decide +kernel
theorem dL_law_534 : decode cL_law 534 = .ok (.aload_n 0, 1) := by decide +kernel
theorem dL_law_535 : decode cL_law 535 = .ok (.iload 4, 2) := by decide +kernel
theorem dL_law_537 : decode cL_law 537 = .ok (.iconst 2, 1) := by decide +kernel
theorem dL_law_538 : decode cL_law 538 = .ok (.iadd, 1) := by decide +kernel
theorem dL_law_539 : decode cL_law 539 = .ok (.iaload, 1) := by decide +kernel
theorem dL_law_540 : decode cL_law 540 = .ok (.aload_n 3, 1) := by decide +kernel
theorem dL_law_541 : decode cL_law 541 = .ok (.invokestatic 108, 3) := by decide +kernel
theorem dL_law_544 : decode cL_law 544 = .ok (.istore 5, 2) := by decide +kernel
theorem dL_law_546 : decode cL_law 546 = .ok (.aload_n 2, 1) := by decide +kernel
theorem dL_law_547 : decode cL_law 547 = .ok (.aload_n 0, 1) := by decide +kernel
theorem dL_law_548 : decode cL_law 548 = .ok (.iload 4, 2) := by decide +kernel
theorem dL_law_550 : decode cL_law 550 = .ok (.iconst 1, 1) := by decide +kernel
theorem dL_law_551 : decode cL_law 551 = .ok (.iadd, 1) := by decide +kernel
theorem dL_law_552 : decode cL_law 552 = .ok (.iaload, 1) := by decide +kernel
theorem dL_law_553 : decode cL_law 553 = .ok (.aload_n 0, 1) := by decide +kernel
theorem dL_law_554 : decode cL_law 554 = .ok (.iload 4, 2) := by decide +kernel
theorem dL_law_556 : decode cL_law 556 = .ok (.iconst 2, 1) := by decide +kernel
theorem dL_law_557 : decode cL_law 557 = .ok (.iadd, 1) := by decide +kernel
theorem dL_law_558 : decode cL_law 558 = .ok (.iaload, 1) := by decide +kernel
theorem dL_law_559 : decode cL_law 559 = .ok (.invokevirtual 110, 3) := by decide +kernel
theorem dL_law_562 : decode cL_law 562 = .ok (.istore 6, 2) := by decide +kernel
theorem dL_law_564 : decode cL_law 564 = .ok (.aload_n 2, 1) := by decide +kernel
theorem dL_law_565 : decode cL_law 565 = .ok (.invokevirtual 88, 3) := by decide +kernel
theorem dL_law_568 : decode cL_law 568 = .ok (.iload 5, 2) := by decide +kernel
theorem dL_law_570 : decode cL_law 570 = .ok (.if_icmp .eq 5, 3) := by decide +kernel
theorem dL_law_573 : decode cL_law 573 = .ok (.iconst 0, 1) := by decide +kernel
theorem dL_law_574 : decode cL_law 574 = .ok (.ireturn, 1) := by decide +kernel
theorem dL_law_575 : decode cL_law 575 = .ok (.iload 5, 2) := by decide +kernel
theorem dL_law_577 : decode cL_law 577 = .ok (.ifCond .ne 22, 3) := by decide +kernel
theorem dL_law_580 : decode cL_law 580 = .ok (.aload_n 3, 1) := by decide +kernel
theorem dL_law_581 : decode cL_law 581 = .ok (.iconst 0, 1) := by decide +kernel
theorem dL_law_582 : decode cL_law 582 = .ok (.laload, 1) := by decide +kernel
theorem dL_law_583 : decode cL_law 583 = .ok (.iload 6, 2) := by decide +kernel
theorem dL_law_585 : decode cL_law 585 = .ok (.ifCond .eq 7, 3) := by decide +kernel
theorem dL_law_588 : decode cL_law 588 = .ok (.lconst 1, 1) := by decide +kernel
theorem dL_law_589 : decode cL_law 589 = .ok (.goto 4, 3) := by decide +kernel
theorem dL_law_592 : decode cL_law 592 = .ok (.lconst 0, 1) := by decide +kernel
theorem dL_law_593 : decode cL_law 593 = .ok (.lcmp, 1) := by decide +kernel
theorem dL_law_594 : decode cL_law 594 = .ok (.ifCond .eq 5, 3) := by decide +kernel
theorem dL_law_597 : decode cL_law 597 = .ok (.iconst 0, 1) := by decide +kernel
theorem dL_law_598 : decode cL_law 598 = .ok (.ireturn, 1) := by decide +kernel
theorem dL_law_599 : decode cL_law 599 = .ok (.goto 705, 3) := by decide +kernel
theorem dL_law_602 : decode cL_law 602 = .ok (.aload_n 1, 1) := by decide +kernel
theorem dL_law_603 : decode cL_law 603 = .ok (.aload_n 0, 1) := by decide +kernel
theorem dL_law_604 : decode cL_law 604 = .ok (.iload 4, 2) := by decide +kernel
theorem dL_law_606 : decode cL_law 606 = .ok (.iconst 1, 1) := by decide +kernel
theorem dL_law_607 : decode cL_law 607 = .ok (.iadd, 1) := by decide +kernel
theorem dL_law_608 : decode cL_law 608 = .ok (.iaload, 1) := by decide +kernel
theorem dL_law_609 : decode cL_law 609 = .ok (.aload_n 0, 1) := by decide +kernel
theorem dL_law_610 : decode cL_law 610 = .ok (.iload 4, 2) := by decide +kernel
theorem dL_law_612 : decode cL_law 612 = .ok (.iconst 2, 1) := by decide +kernel
theorem dL_law_613 : decode cL_law 613 = .ok (.iadd, 1) := by decide +kernel
theorem dL_law_614 : decode cL_law 614 = .ok (.iaload, 1) := by decide +kernel
theorem dL_law_615 : decode cL_law 615 = .ok (.aload_n 3, 1) := by decide +kernel
theorem dL_law_616 : decode cL_law 616 = .ok (.invokestatic 111, 3) := by decide +kernel
theorem dL_law_619 : decode cL_law 619 = .ok (.istore 5, 2) := by decide +kernel
theorem dL_law_621 : decode cL_law 621 = .ok (.aload_n 2, 1) := by decide +kernel
theorem dL_law_622 : decode cL_law 622 = .ok (.aload_n 0, 1) := by decide +kernel
theorem dL_law_623 : decode cL_law 623 = .ok (.iload 4, 2) := by decide +kernel
theorem dL_law_625 : decode cL_law 625 = .ok (.iconst 1, 1) := by decide +kernel
theorem dL_law_626 : decode cL_law 626 = .ok (.iadd, 1) := by decide +kernel
theorem dL_law_627 : decode cL_law 627 = .ok (.iaload, 1) := by decide +kernel
theorem dL_law_628 : decode cL_law 628 = .ok (.aload_n 0, 1) := by decide +kernel
theorem dL_law_629 : decode cL_law 629 = .ok (.iload 4, 2) := by decide +kernel
theorem dL_law_631 : decode cL_law 631 = .ok (.iconst 2, 1) := by decide +kernel
theorem dL_law_632 : decode cL_law 632 = .ok (.iadd, 1) := by decide +kernel
theorem dL_law_633 : decode cL_law 633 = .ok (.iaload, 1) := by decide +kernel
theorem dL_law_634 : decode cL_law 634 = .ok (.invokevirtual 113, 3) := by decide +kernel
theorem dL_law_637 : decode cL_law 637 = .ok (.istore 6, 2) := by decide +kernel
theorem dL_law_639 : decode cL_law 639 = .ok (.aload_n 2, 1) := by decide +kernel
theorem dL_law_640 : decode cL_law 640 = .ok (.invokevirtual 88, 3) := by decide +kernel
theorem dL_law_643 : decode cL_law 643 = .ok (.iload 5, 2) := by decide +kernel
theorem dL_law_645 : decode cL_law 645 = .ok (.if_icmp .eq 5, 3) := by decide +kernel
theorem dL_law_648 : decode cL_law 648 = .ok (.iconst 0, 1) := by decide +kernel
theorem dL_law_649 : decode cL_law 649 = .ok (.ireturn, 1) := by decide +kernel
theorem dL_law_650 : decode cL_law 650 = .ok (.iload 5, 2) := by decide +kernel
theorem dL_law_652 : decode cL_law 652 = .ok (.ifCond .ne 15, 3) := by decide +kernel
theorem dL_law_655 : decode cL_law 655 = .ok (.aload_n 3, 1) := by decide +kernel
theorem dL_law_656 : decode cL_law 656 = .ok (.iconst 0, 1) := by decide +kernel
theorem dL_law_657 : decode cL_law 657 = .ok (.laload, 1) := by decide +kernel
theorem dL_law_658 : decode cL_law 658 = .ok (.iload 6, 2) := by decide +kernel
theorem dL_law_660 : decode cL_law 660 = .ok (.i2l, 1) := by decide +kernel
theorem dL_law_661 : decode cL_law 661 = .ok (.lcmp, 1) := by decide +kernel
theorem dL_law_662 : decode cL_law 662 = .ok (.ifCond .eq 5, 3) := by decide +kernel
theorem dL_law_665 : decode cL_law 665 = .ok (.iconst 0, 1) := by decide +kernel
theorem dL_law_666 : decode cL_law 666 = .ok (.ireturn, 1) := by decide +kernel
theorem dL_law_667 : decode cL_law 667 = .ok (.goto 637, 3) := by decide +kernel
theorem dL_law_670 : decode cL_law 670 = .ok (.aload_n 1, 1) := by decide +kernel
theorem dL_law_671 : decode cL_law 671 = .ok (.aload_n 0, 1) := by decide +kernel
theorem dL_law_672 : decode cL_law 672 = .ok (.iload 4, 2) := by decide +kernel
theorem dL_law_674 : decode cL_law 674 = .ok (.iconst 1, 1) := by decide +kernel
theorem dL_law_675 : decode cL_law 675 = .ok (.iadd, 1) := by decide +kernel
theorem dL_law_676 : decode cL_law 676 = .ok (.iaload, 1) := by decide +kernel
theorem dL_law_677 : decode cL_law 677 = .ok (.aload_n 0, 1) := by decide +kernel
theorem dL_law_678 : decode cL_law 678 = .ok (.iload 4, 2) := by decide +kernel
theorem dL_law_680 : decode cL_law 680 = .ok (.iconst 2, 1) := by decide +kernel
theorem dL_law_681 : decode cL_law 681 = .ok (.iadd, 1) := by decide +kernel
theorem dL_law_682 : decode cL_law 682 = .ok (.iaload, 1) := by decide +kernel
theorem dL_law_683 : decode cL_law 683 = .ok (.aload_n 3, 1) := by decide +kernel
theorem dL_law_684 : decode cL_law 684 = .ok (.invokestatic 114, 3) := by decide +kernel
theorem dL_law_687 : decode cL_law 687 = .ok (.istore 5, 2) := by decide +kernel
theorem dL_law_689 : decode cL_law 689 = .ok (.aload_n 2, 1) := by decide +kernel
theorem dL_law_690 : decode cL_law 690 = .ok (.aload_n 0, 1) := by decide +kernel
theorem dL_law_691 : decode cL_law 691 = .ok (.iload 4, 2) := by decide +kernel
theorem dL_law_693 : decode cL_law 693 = .ok (.iconst 1, 1) := by decide +kernel
theorem dL_law_694 : decode cL_law 694 = .ok (.iadd, 1) := by decide +kernel
theorem dL_law_695 : decode cL_law 695 = .ok (.iaload, 1) := by decide +kernel
theorem dL_law_696 : decode cL_law 696 = .ok (.aload_n 0, 1) := by decide +kernel
theorem dL_law_697 : decode cL_law 697 = .ok (.iload 4, 2) := by decide +kernel
theorem dL_law_699 : decode cL_law 699 = .ok (.iconst 2, 1) := by decide +kernel
theorem dL_law_700 : decode cL_law 700 = .ok (.iadd, 1) := by decide +kernel
theorem dL_law_701 : decode cL_law 701 = .ok (.iaload, 1) := by decide +kernel
theorem dL_law_702 : decode cL_law 702 = .ok (.invokevirtual 116, 3) := by decide +kernel
theorem dL_law_705 : decode cL_law 705 = .ok (.istore 6, 2) := by decide +kernel
theorem dL_law_707 : decode cL_law 707 = .ok (.aload_n 2, 1) := by decide +kernel
theorem dL_law_708 : decode cL_law 708 = .ok (.invokevirtual 88, 3) := by decide +kernel
theorem dL_law_711 : decode cL_law 711 = .ok (.iload 5, 2) := by decide +kernel
theorem dL_law_713 : decode cL_law 713 = .ok (.if_icmp .eq 5, 3) := by decide +kernel
theorem dL_law_716 : decode cL_law 716 = .ok (.iconst 0, 1) := by decide +kernel
theorem dL_law_717 : decode cL_law 717 = .ok (.ireturn, 1) := by decide +kernel
theorem dL_law_718 : decode cL_law 718 = .ok (.iload 5, 2) := by decide +kernel
theorem dL_law_720 : decode cL_law 720 = .ok (.ifCond .ne 15, 3) := by decide +kernel
theorem dL_law_723 : decode cL_law 723 = .ok (.aload_n 3, 1) := by decide +kernel
theorem dL_law_724 : decode cL_law 724 = .ok (.iconst 0, 1) := by decide +kernel
theorem dL_law_725 : decode cL_law 725 = .ok (.laload, 1) := by decide +kernel
theorem dL_law_726 : decode cL_law 726 = .ok (.iload 6, 2) := by decide +kernel
theorem dL_law_728 : decode cL_law 728 = .ok (.i2l, 1) := by decide +kernel
theorem dL_law_729 : decode cL_law 729 = .ok (.lcmp, 1) := by decide +kernel
theorem dL_law_730 : decode cL_law 730 = .ok (.ifCond .eq 5, 3) := by decide +kernel
theorem dL_law_733 : decode cL_law 733 = .ok (.iconst 0, 1) := by decide +kernel
theorem dL_law_734 : decode cL_law 734 = .ok (.ireturn, 1) := by decide +kernel
theorem dL_law_735 : decode cL_law 735 = .ok (.goto 569, 3) := by decide +kernel
theorem dL_law_738 : decode cL_law 738 = .ok (.aload_n 1, 1) := by decide +kernel
theorem dL_law_739 : decode cL_law 739 = .ok (.aload_n 0, 1) := by decide +kernel
theorem dL_law_740 : decode cL_law 740 = .ok (.iload 4, 2) := by decide +kernel
theorem dL_law_742 : decode cL_law 742 = .ok (.iconst 1, 1) := by decide +kernel
theorem dL_law_743 : decode cL_law 743 = .ok (.iadd, 1) := by decide +kernel
theorem dL_law_744 : decode cL_law 744 = .ok (.iaload, 1) := by decide +kernel
theorem dL_law_745 : decode cL_law 745 = .ok (.aload_n 3, 1) := by decide +kernel
theorem dL_law_746 : decode cL_law 746 = .ok (.invokestatic 117, 3) := by decide +kernel
theorem dL_law_749 : decode cL_law 749 = .ok (.istore 5, 2) := by decide +kernel
theorem dL_law_751 : decode cL_law 751 = .ok (.aload_n 2, 1) := by decide +kernel
theorem dL_law_752 : decode cL_law 752 = .ok (.aload_n 0, 1) := by decide +kernel
theorem dL_law_753 : decode cL_law 753 = .ok (.iload 4, 2) := by decide +kernel
theorem dL_law_755 : decode cL_law 755 = .ok (.iconst 1, 1) := by decide +kernel
theorem dL_law_756 : decode cL_law 756 = .ok (.iadd, 1) := by decide +kernel
theorem dL_law_757 : decode cL_law 757 = .ok (.iaload, 1) := by decide +kernel
theorem dL_law_758 : decode cL_law 758 = .ok (.invokevirtual 119, 3) := by decide +kernel
theorem dL_law_761 : decode cL_law 761 = .ok (.istore 6, 2) := by decide +kernel
theorem dL_law_763 : decode cL_law 763 = .ok (.aload_n 2, 1) := by decide +kernel
theorem dL_law_764 : decode cL_law 764 = .ok (.invokevirtual 88, 3) := by decide +kernel
theorem dL_law_767 : decode cL_law 767 = .ok (.iload 5, 2) := by decide +kernel
theorem dL_law_769 : decode cL_law 769 = .ok (.if_icmp .eq 5, 3) := by decide +kernel
theorem dL_law_772 : decode cL_law 772 = .ok (.iconst 0, 1) := by decide +kernel
theorem dL_law_773 : decode cL_law 773 = .ok (.ireturn, 1) := by decide +kernel
theorem dL_law_774 : decode cL_law 774 = .ok (.iload 5, 2) := by decide +kernel
theorem dL_law_776 : decode cL_law 776 = .ok (.ifCond .ne 15, 3) := by decide +kernel
theorem dL_law_779 : decode cL_law 779 = .ok (.aload_n 3, 1) := by decide +kernel
theorem dL_law_780 : decode cL_law 780 = .ok (.iconst 0, 1) := by decide +kernel
theorem dL_law_781 : decode cL_law 781 = .ok (.laload, 1) := by decide +kernel
theorem dL_law_782 : decode cL_law 782 = .ok (.iload 6, 2) := by decide +kernel
theorem dL_law_784 : decode cL_law 784 = .ok (.i2l, 1) := by decide +kernel
theorem dL_law_785 : decode cL_law 785 = .ok (.lcmp, 1) := by decide +kernel
theorem dL_law_786 : decode cL_law 786 = .ok (.ifCond .eq 5, 3) := by decide +kernel
theorem dL_law_789 : decode cL_law 789 = .ok (.iconst 0, 1) := by decide +kernel
theorem dL_law_790 : decode cL_law 790 = .ok (.ireturn, 1) := by decide +kernel
theorem dL_law_791 : decode cL_law 791 = .ok (.goto 513, 3) := by decide +kernel
theorem dL_law_794 : decode cL_law 794 = .ok (.aload_n 1, 1) := by decide +kernel
theorem dL_law_795 : decode cL_law 795 = .ok (.aload_n 0, 1) := by decide +kernel
theorem dL_law_796 : decode cL_law 796 = .ok (.iload 4, 2) := by decide +kernel
theorem dL_law_798 : decode cL_law 798 = .ok (.iconst 1, 1) := by decide +kernel
theorem dL_law_799 : decode cL_law 799 = .ok (.iadd, 1) := by decide +kernel
theorem dL_law_800 : decode cL_law 800 = .ok (.iaload, 1) := by decide +kernel
theorem dL_law_801 : decode cL_law 801 = .ok (.aload_n 0, 1) := by decide +kernel
theorem dL_law_802 : decode cL_law 802 = .ok (.iload 4, 2) := by decide +kernel
theorem dL_law_804 : decode cL_law 804 = .ok (.iconst 2, 1) := by decide +kernel
theorem dL_law_805 : decode cL_law 805 = .ok (.iadd, 1) := by decide +kernel
theorem dL_law_806 : decode cL_law 806 = .ok (.iaload, 1) := by decide +kernel
theorem dL_law_807 : decode cL_law 807 = .ok (.aload_n 3, 1) := by decide +kernel
theorem dL_law_808 : decode cL_law 808 = .ok (.invokestatic 120, 3) := by decide +kernel
theorem dL_law_811 : decode cL_law 811 = .ok (.istore 5, 2) := by decide +kernel
theorem dL_law_813 : decode cL_law 813 = .ok (.aload_n 2, 1) := by decide +kernel
theorem dL_law_814 : decode cL_law 814 = .ok (.aload_n 0, 1) := by decide +kernel
theorem dL_law_815 : decode cL_law 815 = .ok (.iload 4, 2) := by decide +kernel
theorem dL_law_817 : decode cL_law 817 = .ok (.iconst 1, 1) := by decide +kernel
theorem dL_law_818 : decode cL_law 818 = .ok (.iadd, 1) := by decide +kernel
theorem dL_law_819 : decode cL_law 819 = .ok (.iaload, 1) := by decide +kernel
theorem dL_law_820 : decode cL_law 820 = .ok (.aload_n 0, 1) := by decide +kernel
theorem dL_law_821 : decode cL_law 821 = .ok (.iload 4, 2) := by decide +kernel
theorem dL_law_823 : decode cL_law 823 = .ok (.iconst 2, 1) := by decide +kernel
theorem dL_law_824 : decode cL_law 824 = .ok (.iadd, 1) := by decide +kernel
theorem dL_law_825 : decode cL_law 825 = .ok (.iaload, 1) := by decide +kernel
theorem dL_law_826 : decode cL_law 826 = .ok (.invokevirtual 122, 3) := by decide +kernel
theorem dL_law_829 : decode cL_law 829 = .ok (.istore 6, 2) := by decide +kernel
theorem dL_law_831 : decode cL_law 831 = .ok (.aload_n 2, 1) := by decide +kernel
theorem dL_law_832 : decode cL_law 832 = .ok (.invokevirtual 88, 3) := by decide +kernel
theorem dL_law_835 : decode cL_law 835 = .ok (.iload 5, 2) := by decide +kernel
theorem dL_law_837 : decode cL_law 837 = .ok (.if_icmp .eq 5, 3) := by decide +kernel
theorem dL_law_840 : decode cL_law 840 = .ok (.iconst 0, 1) := by decide +kernel
theorem dL_law_841 : decode cL_law 841 = .ok (.ireturn, 1) := by decide +kernel
theorem dL_law_842 : decode cL_law 842 = .ok (.iload 5, 2) := by decide +kernel
theorem dL_law_844 : decode cL_law 844 = .ok (.ifCond .ne 15, 3) := by decide +kernel
theorem dL_law_847 : decode cL_law 847 = .ok (.aload_n 3, 1) := by decide +kernel
theorem dL_law_848 : decode cL_law 848 = .ok (.iconst 0, 1) := by decide +kernel
theorem dL_law_849 : decode cL_law 849 = .ok (.laload, 1) := by decide +kernel
theorem dL_law_850 : decode cL_law 850 = .ok (.iload 6, 2) := by decide +kernel
theorem dL_law_852 : decode cL_law 852 = .ok (.i2l, 1) := by decide +kernel
theorem dL_law_853 : decode cL_law 853 = .ok (.lcmp, 1) := by decide +kernel
theorem dL_law_854 : decode cL_law 854 = .ok (.ifCond .eq 5, 3) := by decide +kernel
theorem dL_law_857 : decode cL_law 857 = .ok (.iconst 0, 1) := by decide +kernel
theorem dL_law_858 : decode cL_law 858 = .ok (.ireturn, 1) := by decide +kernel
theorem dL_law_859 : decode cL_law 859 = .ok (.goto 445, 3) := by decide +kernel
theorem dL_law_862 : decode cL_law 862 = .ok (.aload_n 1, 1) := by decide +kernel
theorem dL_law_863 : decode cL_law 863 = .ok (.aload_n 0, 1) := by decide +kernel
theorem dL_law_864 : decode cL_law 864 = .ok (.iload 4, 2) := by decide +kernel
theorem dL_law_866 : decode cL_law 866 = .ok (.iconst 1, 1) := by decide +kernel
theorem dL_law_867 : decode cL_law 867 = .ok (.iadd, 1) := by decide +kernel
theorem dL_law_868 : decode cL_law 868 = .ok (.iaload, 1) := by decide +kernel
theorem dL_law_869 : decode cL_law 869 = .ok (.aload_n 3, 1) := by decide +kernel
theorem dL_law_870 : decode cL_law 870 = .ok (.invokestatic 123, 3) := by decide +kernel
theorem dL_law_873 : decode cL_law 873 = .ok (.istore 5, 2) := by decide +kernel
theorem dL_law_875 : decode cL_law 875 = .ok (.aload_n 2, 1) := by decide +kernel
theorem dL_law_876 : decode cL_law 876 = .ok (.aload_n 0, 1) := by decide +kernel
theorem dL_law_877 : decode cL_law 877 = .ok (.iload 4, 2) := by decide +kernel
theorem dL_law_879 : decode cL_law 879 = .ok (.iconst 1, 1) := by decide +kernel
theorem dL_law_880 : decode cL_law 880 = .ok (.iadd, 1) := by decide +kernel
theorem dL_law_881 : decode cL_law 881 = .ok (.iaload, 1) := by decide +kernel
theorem dL_law_882 : decode cL_law 882 = .ok (.invokevirtual 125, 3) := by decide +kernel
theorem dL_law_885 : decode cL_law 885 = .ok (.istore 6, 2) := by decide +kernel
theorem dL_law_887 : decode cL_law 887 = .ok (.aload_n 2, 1) := by decide +kernel
theorem dL_law_888 : decode cL_law 888 = .ok (.invokevirtual 88, 3) := by decide +kernel
theorem dL_law_891 : decode cL_law 891 = .ok (.iload 5, 2) := by decide +kernel
theorem dL_law_893 : decode cL_law 893 = .ok (.if_icmp .eq 5, 3) := by decide +kernel
theorem dL_law_896 : decode cL_law 896 = .ok (.iconst 0, 1) := by decide +kernel
theorem dL_law_897 : decode cL_law 897 = .ok (.ireturn, 1) := by decide +kernel
theorem dL_law_898 : decode cL_law 898 = .ok (.iload 5, 2) := by decide +kernel
theorem dL_law_900 : decode cL_law 900 = .ok (.ifCond .ne 15, 3) := by decide +kernel
theorem dL_law_903 : decode cL_law 903 = .ok (.aload_n 3, 1) := by decide +kernel
theorem dL_law_904 : decode cL_law 904 = .ok (.iconst 0, 1) := by decide +kernel
theorem dL_law_905 : decode cL_law 905 = .ok (.laload, 1) := by decide +kernel
theorem dL_law_906 : decode cL_law 906 = .ok (.iload 6, 2) := by decide +kernel
theorem dL_law_908 : decode cL_law 908 = .ok (.i2l, 1) := by decide +kernel
theorem dL_law_909 : decode cL_law 909 = .ok (.lcmp, 1) := by decide +kernel
theorem dL_law_910 : decode cL_law 910 = .ok (.ifCond .eq 5, 3) := by decide +kernel
theorem dL_law_913 : decode cL_law 913 = .ok (.iconst 0, 1) := by decide +kernel
theorem dL_law_914 : decode cL_law 914 = .ok (.ireturn, 1) := by decide +kernel
theorem dL_law_915 : decode cL_law 915 = .ok (.goto 389, 3) := by decide +kernel
theorem dL_law_918 : decode cL_law 918 = .ok (.aload_n 1, 1) := by decide +kernel
theorem dL_law_919 : decode cL_law 919 = .ok (.invokevirtual 126, 3) := by decide +kernel
theorem dL_law_922 : decode cL_law 922 = .ok (.aload_n 2, 1) := by decide +kernel
theorem dL_law_923 : decode cL_law 923 = .ok (.invokevirtual 130, 3) := by decide +kernel
theorem dL_law_926 : decode cL_law 926 = .ok (.lcmp, 1) := by decide +kernel
theorem dL_law_927 : decode cL_law 927 = .ok (.ifCond .eq 377, 3) := by decide +kernel
theorem dL_law_930 : decode cL_law 930 = .ok (.iconst 0, 1) := by decide +kernel
theorem dL_law_931 : decode cL_law 931 = .ok (.ireturn, 1) := by decide +kernel
theorem dL_law_932 : decode cL_law 932 = .ok (.aload_n 1, 1) := by decide +kernel
theorem dL_law_933 : decode cL_law 933 = .ok (.aload_n 0, 1) := by decide +kernel
theorem dL_law_934 : decode cL_law 934 = .ok (.iload 4, 2) := by decide +kernel
theorem dL_law_936 : decode cL_law 936 = .ok (.iconst 1, 1) := by decide +kernel
theorem dL_law_937 : decode cL_law 937 = .ok (.iadd, 1) := by decide +kernel
theorem dL_law_938 : decode cL_law 938 = .ok (.iaload, 1) := by decide +kernel
theorem dL_law_939 : decode cL_law 939 = .ok (.aload_n 0, 1) := by decide +kernel
theorem dL_law_940 : decode cL_law 940 = .ok (.iload 4, 2) := by decide +kernel
theorem dL_law_942 : decode cL_law 942 = .ok (.iconst 2, 1) := by decide +kernel
theorem dL_law_943 : decode cL_law 943 = .ok (.iadd, 1) := by decide +kernel
theorem dL_law_944 : decode cL_law 944 = .ok (.iaload, 1) := by decide +kernel
theorem dL_law_945 : decode cL_law 945 = .ok (.aload_n 3, 1) := by decide +kernel
theorem dL_law_946 : decode cL_law 946 = .ok (.invokestatic 131, 3) := by decide +kernel
theorem dL_law_949 : decode cL_law 949 = .ok (.istore 5, 2) := by decide +kernel
theorem dL_law_951 : decode cL_law 951 = .ok (.aload_n 2, 1) := by decide +kernel
theorem dL_law_952 : decode cL_law 952 = .ok (.aload_n 0, 1) := by decide +kernel
theorem dL_law_953 : decode cL_law 953 = .ok (.iload 4, 2) := by decide +kernel
theorem dL_law_955 : decode cL_law 955 = .ok (.iconst 1, 1) := by decide +kernel
theorem dL_law_956 : decode cL_law 956 = .ok (.iadd, 1) := by decide +kernel
theorem dL_law_957 : decode cL_law 957 = .ok (.iaload, 1) := by decide +kernel
theorem dL_law_958 : decode cL_law 958 = .ok (.aload_n 0, 1) := by decide +kernel
theorem dL_law_959 : decode cL_law 959 = .ok (.iload 4, 2) := by decide +kernel
theorem dL_law_961 : decode cL_law 961 = .ok (.iconst 2, 1) := by decide +kernel
theorem dL_law_962 : decode cL_law 962 = .ok (.iadd, 1) := by decide +kernel
theorem dL_law_963 : decode cL_law 963 = .ok (.iaload, 1) := by decide +kernel
theorem dL_law_964 : decode cL_law 964 = .ok (.invokevirtual 133, 3) := by decide +kernel
theorem dL_law_967 : decode cL_law 967 = .ok (.istore 6, 2) := by decide +kernel
theorem dL_law_969 : decode cL_law 969 = .ok (.aload_n 2, 1) := by decide +kernel
theorem dL_law_970 : decode cL_law 970 = .ok (.invokevirtual 88, 3) := by decide +kernel
theorem dL_law_973 : decode cL_law 973 = .ok (.iload 5, 2) := by decide +kernel
theorem dL_law_975 : decode cL_law 975 = .ok (.if_icmp .eq 5, 3) := by decide +kernel
theorem dL_law_978 : decode cL_law 978 = .ok (.iconst 0, 1) := by decide +kernel
theorem dL_law_979 : decode cL_law 979 = .ok (.ireturn, 1) := by decide +kernel
theorem dL_law_980 : decode cL_law 980 = .ok (.iload 5, 2) := by decide +kernel
theorem dL_law_982 : decode cL_law 982 = .ok (.ifCond .ne 15, 3) := by decide +kernel
theorem dL_law_985 : decode cL_law 985 = .ok (.aload_n 3, 1) := by decide +kernel
theorem dL_law_986 : decode cL_law 986 = .ok (.iconst 0, 1) := by decide +kernel
theorem dL_law_987 : decode cL_law 987 = .ok (.laload, 1) := by decide +kernel
theorem dL_law_988 : decode cL_law 988 = .ok (.iload 6, 2) := by decide +kernel
theorem dL_law_990 : decode cL_law 990 = .ok (.i2l, 1) := by decide +kernel
theorem dL_law_991 : decode cL_law 991 = .ok (.lcmp, 1) := by decide +kernel
theorem dL_law_992 : decode cL_law 992 = .ok (.ifCond .eq 5, 3) := by decide +kernel
theorem dL_law_995 : decode cL_law 995 = .ok (.iconst 0, 1) := by decide +kernel
theorem dL_law_996 : decode cL_law 996 = .ok (.ireturn, 1) := by decide +kernel
theorem dL_law_997 : decode cL_law 997 = .ok (.goto 307, 3) := by decide +kernel
theorem dL_law_1000 : decode cL_law 1000 = .ok (.aload_n 1, 1) := by decide +kernel
theorem dL_law_1001 : decode cL_law 1001 = .ok (.aload_n 0, 1) := by decide +kernel
theorem dL_law_1002 : decode cL_law 1002 = .ok (.iload 4, 2) := by decide +kernel
theorem dL_law_1004 : decode cL_law 1004 = .ok (.iconst 1, 1) := by decide +kernel
theorem dL_law_1005 : decode cL_law 1005 = .ok (.iadd, 1) := by decide +kernel
theorem dL_law_1006 : decode cL_law 1006 = .ok (.iaload, 1) := by decide +kernel
theorem dL_law_1007 : decode cL_law 1007 = .ok (.aload_n 3, 1) := by decide +kernel
theorem dL_law_1008 : decode cL_law 1008 = .ok (.invokestatic 134, 3) := by decide +kernel
theorem dL_law_1011 : decode cL_law 1011 = .ok (.istore 5, 2) := by decide +kernel
theorem dL_law_1013 : decode cL_law 1013 = .ok (.aload_n 2, 1) := by decide +kernel
theorem dL_law_1014 : decode cL_law 1014 = .ok (.aload_n 0, 1) := by decide +kernel
theorem dL_law_1015 : decode cL_law 1015 = .ok (.iload 4, 2) := by decide +kernel
theorem dL_law_1017 : decode cL_law 1017 = .ok (.iconst 1, 1) := by decide +kernel
theorem dL_law_1018 : decode cL_law 1018 = .ok (.iadd, 1) := by decide +kernel
theorem dL_law_1019 : decode cL_law 1019 = .ok (.iaload, 1) := by decide +kernel
theorem dL_law_1020 : decode cL_law 1020 = .ok (.invokevirtual 136, 3) := by decide +kernel
theorem dL_law_1023 : decode cL_law 1023 = .ok (.istore 6, 2) := by decide +kernel
theorem dL_law_1025 : decode cL_law 1025 = .ok (.aload_n 2, 1) := by decide +kernel
theorem dL_law_1026 : decode cL_law 1026 = .ok (.invokevirtual 88, 3) := by decide +kernel
theorem dL_law_1029 : decode cL_law 1029 = .ok (.iload 5, 2) := by decide +kernel
theorem dL_law_1031 : decode cL_law 1031 = .ok (.if_icmp .eq 5, 3) := by decide +kernel
theorem dL_law_1034 : decode cL_law 1034 = .ok (.iconst 0, 1) := by decide +kernel
theorem dL_law_1035 : decode cL_law 1035 = .ok (.ireturn, 1) := by decide +kernel
theorem dL_law_1036 : decode cL_law 1036 = .ok (.iload 5, 2) := by decide +kernel
theorem dL_law_1038 : decode cL_law 1038 = .ok (.ifCond .ne 15, 3) := by decide +kernel
theorem dL_law_1041 : decode cL_law 1041 = .ok (.aload_n 3, 1) := by decide +kernel
theorem dL_law_1042 : decode cL_law 1042 = .ok (.iconst 0, 1) := by decide +kernel
theorem dL_law_1043 : decode cL_law 1043 = .ok (.laload, 1) := by decide +kernel
theorem dL_law_1044 : decode cL_law 1044 = .ok (.iload 6, 2) := by decide +kernel
theorem dL_law_1046 : decode cL_law 1046 = .ok (.i2l, 1) := by decide +kernel
theorem dL_law_1047 : decode cL_law 1047 = .ok (.lcmp, 1) := by decide +kernel
theorem dL_law_1048 : decode cL_law 1048 = .ok (.ifCond .eq 5, 3) := by decide +kernel
theorem dL_law_1051 : decode cL_law 1051 = .ok (.iconst 0, 1) := by decide +kernel
theorem dL_law_1052 : decode cL_law 1052 = .ok (.ireturn, 1) := by decide +kernel
theorem dL_law_1053 : decode cL_law 1053 = .ok (.goto 251, 3) := by decide +kernel
theorem dL_law_1056 : decode cL_law 1056 = .ok (.aload_n 1, 1) := by decide +kernel
theorem dL_law_1057 : decode cL_law 1057 = .ok (.aload_n 0, 1) := by decide +kernel
theorem dL_law_1058 : decode cL_law 1058 = .ok (.iload 4, 2) := by decide +kernel
theorem dL_law_1060 : decode cL_law 1060 = .ok (.iconst 1, 1) := by decide +kernel
theorem dL_law_1061 : decode cL_law 1061 = .ok (.iadd, 1) := by decide +kernel
theorem dL_law_1062 : decode cL_law 1062 = .ok (.iaload, 1) := by decide +kernel
theorem dL_law_1063 : decode cL_law 1063 = .ok (.aload_n 0, 1) := by decide +kernel
theorem dL_law_1064 : decode cL_law 1064 = .ok (.iload 4, 2) := by decide +kernel
theorem dL_law_1066 : decode cL_law 1066 = .ok (.iconst 2, 1) := by decide +kernel
theorem dL_law_1067 : decode cL_law 1067 = .ok (.iadd, 1) := by decide +kernel
theorem dL_law_1068 : decode cL_law 1068 = .ok (.iaload, 1) := by decide +kernel
theorem dL_law_1069 : decode cL_law 1069 = .ok (.aload_n 3, 1) := by decide +kernel
theorem dL_law_1070 : decode cL_law 1070 = .ok (.invokestatic 137, 3) := by decide +kernel
theorem dL_law_1073 : decode cL_law 1073 = .ok (.istore 5, 2) := by decide +kernel
theorem dL_law_1075 : decode cL_law 1075 = .ok (.aload_n 2, 1) := by decide +kernel
theorem dL_law_1076 : decode cL_law 1076 = .ok (.aload_n 0, 1) := by decide +kernel
theorem dL_law_1077 : decode cL_law 1077 = .ok (.iload 4, 2) := by decide +kernel
theorem dL_law_1079 : decode cL_law 1079 = .ok (.iconst 1, 1) := by decide +kernel
theorem dL_law_1080 : decode cL_law 1080 = .ok (.iadd, 1) := by decide +kernel
theorem dL_law_1081 : decode cL_law 1081 = .ok (.iaload, 1) := by decide +kernel
theorem dL_law_1082 : decode cL_law 1082 = .ok (.aload_n 0, 1) := by decide +kernel
theorem dL_law_1083 : decode cL_law 1083 = .ok (.iload 4, 2) := by decide +kernel
theorem dL_law_1085 : decode cL_law 1085 = .ok (.iconst 2, 1) := by decide +kernel
theorem dL_law_1086 : decode cL_law 1086 = .ok (.iadd, 1) := by decide +kernel
theorem dL_law_1087 : decode cL_law 1087 = .ok (.iaload, 1) := by decide +kernel
theorem dL_law_1088 : decode cL_law 1088 = .ok (.invokevirtual 139, 3) := by decide +kernel
theorem dL_law_1091 : decode cL_law 1091 = .ok (.istore 6, 2) := by decide +kernel
theorem dL_law_1093 : decode cL_law 1093 = .ok (.aload_n 2, 1) := by decide +kernel
theorem dL_law_1094 : decode cL_law 1094 = .ok (.invokevirtual 88, 3) := by decide +kernel
theorem dL_law_1097 : decode cL_law 1097 = .ok (.iload 5, 2) := by decide +kernel
theorem dL_law_1099 : decode cL_law 1099 = .ok (.if_icmp .eq 5, 3) := by decide +kernel
theorem dL_law_1102 : decode cL_law 1102 = .ok (.iconst 0, 1) := by decide +kernel
theorem dL_law_1103 : decode cL_law 1103 = .ok (.ireturn, 1) := by decide +kernel
theorem dL_law_1104 : decode cL_law 1104 = .ok (.iload 5, 2) := by decide +kernel
theorem dL_law_1106 : decode cL_law 1106 = .ok (.ifCond .ne 15, 3) := by decide +kernel
theorem dL_law_1109 : decode cL_law 1109 = .ok (.aload_n 3, 1) := by decide +kernel
theorem dL_law_1110 : decode cL_law 1110 = .ok (.iconst 0, 1) := by decide +kernel
theorem dL_law_1111 : decode cL_law 1111 = .ok (.laload, 1) := by decide +kernel
theorem dL_law_1112 : decode cL_law 1112 = .ok (.iload 6, 2) := by decide +kernel
theorem dL_law_1114 : decode cL_law 1114 = .ok (.i2l, 1) := by decide +kernel
theorem dL_law_1115 : decode cL_law 1115 = .ok (.lcmp, 1) := by decide +kernel
theorem dL_law_1116 : decode cL_law 1116 = .ok (.ifCond .eq 5, 3) := by decide +kernel
theorem dL_law_1119 : decode cL_law 1119 = .ok (.iconst 0, 1) := by decide +kernel
theorem dL_law_1120 : decode cL_law 1120 = .ok (.ireturn, 1) := by decide +kernel
theorem dL_law_1121 : decode cL_law 1121 = .ok (.goto 183, 3) := by decide +kernel
theorem dL_law_1124 : decode cL_law 1124 = .ok (.aload_n 1, 1) := by decide +kernel
theorem dL_law_1125 : decode cL_law 1125 = .ok (.aload_n 0, 1) := by decide +kernel
theorem dL_law_1126 : decode cL_law 1126 = .ok (.iload 4, 2) := by decide +kernel
theorem dL_law_1128 : decode cL_law 1128 = .ok (.iconst 1, 1) := by decide +kernel
theorem dL_law_1129 : decode cL_law 1129 = .ok (.iadd, 1) := by decide +kernel
theorem dL_law_1130 : decode cL_law 1130 = .ok (.iaload, 1) := by decide +kernel
theorem dL_law_1131 : decode cL_law 1131 = .ok (.aload_n 0, 1) := by decide +kernel
theorem dL_law_1132 : decode cL_law 1132 = .ok (.iload 4, 2) := by decide +kernel
theorem dL_law_1134 : decode cL_law 1134 = .ok (.iconst 2, 1) := by decide +kernel
theorem dL_law_1135 : decode cL_law 1135 = .ok (.iadd, 1) := by decide +kernel
theorem dL_law_1136 : decode cL_law 1136 = .ok (.iaload, 1) := by decide +kernel
theorem dL_law_1137 : decode cL_law 1137 = .ok (.aload_n 0, 1) := by decide +kernel
theorem dL_law_1138 : decode cL_law 1138 = .ok (.iload 4, 2) := by decide +kernel
theorem dL_law_1140 : decode cL_law 1140 = .ok (.iconst 3, 1) := by decide +kernel
theorem dL_law_1141 : decode cL_law 1141 = .ok (.iadd, 1) := by decide +kernel
theorem dL_law_1142 : decode cL_law 1142 = .ok (.iaload, 1) := by decide +kernel
theorem dL_law_1143 : decode cL_law 1143 = .ok (.aload_n 3, 1) := by decide +kernel
theorem dL_law_1144 : decode cL_law 1144 = .ok (.invokestatic 140, 3) := by decide +kernel
theorem dL_law_1147 : decode cL_law 1147 = .ok (.istore 5, 2) := by decide +kernel
theorem dL_law_1149 : decode cL_law 1149 = .ok (.aload_n 2, 1) := by decide +kernel
theorem dL_law_1150 : decode cL_law 1150 = .ok (.aload_n 0, 1) := by decide +kernel
theorem dL_law_1151 : decode cL_law 1151 = .ok (.iload 4, 2) := by decide +kernel
theorem dL_law_1153 : decode cL_law 1153 = .ok (.iconst 1, 1) := by decide +kernel
theorem dL_law_1154 : decode cL_law 1154 = .ok (.iadd, 1) := by decide +kernel
theorem dL_law_1155 : decode cL_law 1155 = .ok (.iaload, 1) := by decide +kernel
theorem dL_law_1156 : decode cL_law 1156 = .ok (.aload_n 0, 1) := by decide +kernel
theorem dL_law_1157 : decode cL_law 1157 = .ok (.iload 4, 2) := by decide +kernel
theorem dL_law_1159 : decode cL_law 1159 = .ok (.iconst 2, 1) := by decide +kernel
theorem dL_law_1160 : decode cL_law 1160 = .ok (.iadd, 1) := by decide +kernel
theorem dL_law_1161 : decode cL_law 1161 = .ok (.iaload, 1) := by decide +kernel
theorem dL_law_1162 : decode cL_law 1162 = .ok (.aload_n 0, 1) := by decide +kernel
theorem dL_law_1163 : decode cL_law 1163 = .ok (.iload 4, 2) := by decide +kernel
theorem dL_law_1165 : decode cL_law 1165 = .ok (.iconst 3, 1) := by decide +kernel
theorem dL_law_1166 : decode cL_law 1166 = .ok (.iadd, 1) := by decide +kernel
theorem dL_law_1167 : decode cL_law 1167 = .ok (.iaload, 1) := by decide +kernel
theorem dL_law_1168 : decode cL_law 1168 = .ok (.invokevirtual 143, 3) := by decide +kernel
theorem dL_law_1171 : decode cL_law 1171 = .ok (.istore 6, 2) := by decide +kernel
theorem dL_law_1173 : decode cL_law 1173 = .ok (.aload_n 2, 1) := by decide +kernel
theorem dL_law_1174 : decode cL_law 1174 = .ok (.invokevirtual 88, 3) := by decide +kernel
theorem dL_law_1177 : decode cL_law 1177 = .ok (.iload 5, 2) := by decide +kernel
theorem dL_law_1179 : decode cL_law 1179 = .ok (.if_icmp .eq 5, 3) := by decide +kernel
theorem dL_law_1182 : decode cL_law 1182 = .ok (.iconst 0, 1) := by decide +kernel
theorem dL_law_1183 : decode cL_law 1183 = .ok (.ireturn, 1) := by decide +kernel
theorem dL_law_1184 : decode cL_law 1184 = .ok (.iload 5, 2) := by decide +kernel
theorem dL_law_1186 : decode cL_law 1186 = .ok (.ifCond .ne 22, 3) := by decide +kernel
theorem dL_law_1189 : decode cL_law 1189 = .ok (.aload_n 3, 1) := by decide +kernel
theorem dL_law_1190 : decode cL_law 1190 = .ok (.iconst 0, 1) := by decide +kernel
theorem dL_law_1191 : decode cL_law 1191 = .ok (.laload, 1) := by decide +kernel
theorem dL_law_1192 : decode cL_law 1192 = .ok (.iload 6, 2) := by decide +kernel
theorem dL_law_1194 : decode cL_law 1194 = .ok (.ifCond .eq 7, 3) := by decide +kernel
theorem dL_law_1197 : decode cL_law 1197 = .ok (.lconst 1, 1) := by decide +kernel
theorem dL_law_1198 : decode cL_law 1198 = .ok (.goto 4, 3) := by decide +kernel
theorem dL_law_1201 : decode cL_law 1201 = .ok (.lconst 0, 1) := by decide +kernel
theorem dL_law_1202 : decode cL_law 1202 = .ok (.lcmp, 1) := by decide +kernel
theorem dL_law_1203 : decode cL_law 1203 = .ok (.ifCond .eq 5, 3) := by decide +kernel
theorem dL_law_1206 : decode cL_law 1206 = .ok (.iconst 0, 1) := by decide +kernel
theorem dL_law_1207 : decode cL_law 1207 = .ok (.ireturn, 1) := by decide +kernel
theorem dL_law_1208 : decode cL_law 1208 = .ok (.goto 96, 3) := by decide +kernel
theorem dL_law_1211 : decode cL_law 1211 = .ok (.aload_n 1, 1) := by decide +kernel
theorem dL_law_1212 : decode cL_law 1212 = .ok (.invokevirtual 144, 3) := by decide +kernel
theorem dL_law_1215 : decode cL_law 1215 = .ok (.aload_n 2, 1) := by decide +kernel
theorem dL_law_1216 : decode cL_law 1216 = .ok (.invokevirtual 147, 3) := by decide +kernel
theorem dL_law_1219 : decode cL_law 1219 = .ok (.if_icmp .eq 85, 3) := by decide +kernel
theorem dL_law_1222 : decode cL_law 1222 = .ok (.iconst 0, 1) := by decide +kernel
theorem dL_law_1223 : decode cL_law 1223 = .ok (.ireturn, 1) := by decide +kernel
theorem dL_law_1224 : decode cL_law 1224 = .ok (.aload_n 1, 1) := by decide +kernel
theorem dL_law_1225 : decode cL_law 1225 = .ok (.aload_n 0, 1) := by decide +kernel
theorem dL_law_1226 : decode cL_law 1226 = .ok (.iload 4, 2) := by decide +kernel
theorem dL_law_1228 : decode cL_law 1228 = .ok (.iconst 1, 1) := by decide +kernel
theorem dL_law_1229 : decode cL_law 1229 = .ok (.iadd, 1) := by decide +kernel
theorem dL_law_1230 : decode cL_law 1230 = .ok (.iaload, 1) := by decide +kernel
theorem dL_law_1231 : decode cL_law 1231 = .ok (.aload_n 3, 1) := by decide +kernel
theorem dL_law_1232 : decode cL_law 1232 = .ok (.invokestatic 148, 3) := by decide +kernel
theorem dL_law_1235 : decode cL_law 1235 = .ok (.istore 5, 2) := by decide +kernel
theorem dL_law_1237 : decode cL_law 1237 = .ok (.aload_n 2, 1) := by decide +kernel
theorem dL_law_1238 : decode cL_law 1238 = .ok (.aload_n 0, 1) := by decide +kernel
theorem dL_law_1239 : decode cL_law 1239 = .ok (.iload 4, 2) := by decide +kernel
theorem dL_law_1241 : decode cL_law 1241 = .ok (.iconst 1, 1) := by decide +kernel
theorem dL_law_1242 : decode cL_law 1242 = .ok (.iadd, 1) := by decide +kernel
theorem dL_law_1243 : decode cL_law 1243 = .ok (.iaload, 1) := by decide +kernel
theorem dL_law_1244 : decode cL_law 1244 = .ok (.invokevirtual 150, 3) := by decide +kernel
theorem dL_law_1247 : decode cL_law 1247 = .ok (.istore 6, 2) := by decide +kernel
theorem dL_law_1249 : decode cL_law 1249 = .ok (.aload_n 2, 1) := by decide +kernel
theorem dL_law_1250 : decode cL_law 1250 = .ok (.invokevirtual 88, 3) := by decide +kernel
theorem dL_law_1253 : decode cL_law 1253 = .ok (.iload 5, 2) := by decide +kernel
theorem dL_law_1255 : decode cL_law 1255 = .ok (.if_icmp .eq 5, 3) := by decide +kernel
theorem dL_law_1258 : decode cL_law 1258 = .ok (.iconst 0, 1) := by decide +kernel
theorem dL_law_1259 : decode cL_law 1259 = .ok (.ireturn, 1) := by decide +kernel
theorem dL_law_1260 : decode cL_law 1260 = .ok (.iload 5, 2) := by decide +kernel
theorem dL_law_1262 : decode cL_law 1262 = .ok (.ifCond .ne 15, 3) := by decide +kernel
theorem dL_law_1265 : decode cL_law 1265 = .ok (.aload_n 3, 1) := by decide +kernel
theorem dL_law_1266 : decode cL_law 1266 = .ok (.iconst 0, 1) := by decide +kernel
theorem dL_law_1267 : decode cL_law 1267 = .ok (.laload, 1) := by decide +kernel
theorem dL_law_1268 : decode cL_law 1268 = .ok (.iload 6, 2) := by decide +kernel
theorem dL_law_1270 : decode cL_law 1270 = .ok (.i2l, 1) := by decide +kernel
theorem dL_law_1271 : decode cL_law 1271 = .ok (.lcmp, 1) := by decide +kernel
theorem dL_law_1272 : decode cL_law 1272 = .ok (.ifCond .eq 5, 3) := by decide +kernel
theorem dL_law_1275 : decode cL_law 1275 = .ok (.iconst 0, 1) := by decide +kernel
theorem dL_law_1276 : decode cL_law 1276 = .ok (.ireturn, 1) := by decide +kernel
theorem dL_law_1277 : decode cL_law 1277 = .ok (.goto 27, 3) := by decide +kernel
theorem dL_law_1280 : decode cL_law 1280 = .ok (.aload_n 1, 1) := by decide +kernel
theorem dL_law_1281 : decode cL_law 1281 = .ok (.invokevirtual 151, 3) := by decide +kernel
theorem dL_law_1284 : decode cL_law 1284 = .ok (.aload_n 2, 1) := by decide +kernel
theorem dL_law_1285 : decode cL_law 1285 = .ok (.invokevirtual 155, 3) := by decide +kernel
theorem dL_law_1288 : decode cL_law 1288 = .ok (.if_icmp .eq 16, 3) := by decide +kernel
theorem dL_law_1291 : decode cL_law 1291 = .ok (.iconst 0, 1) := by decide +kernel
theorem dL_law_1292 : decode cL_law 1292 = .ok (.ireturn, 1) := by decide +kernel
theorem dL_law_1293 : decode cL_law 1293 = .ok (.aload_n 1, 1) := by decide +kernel
theorem dL_law_1294 : decode cL_law 1294 = .ok (.invokevirtual 156, 3) := by decide +kernel
theorem dL_law_1297 : decode cL_law 1297 = .ok (.aload_n 2, 1) := by decide +kernel
theorem dL_law_1298 : decode cL_law 1298 = .ok (.invokevirtual 159, 3) := by decide +kernel
theorem dL_law_1301 : decode cL_law 1301 = .ok (.goto 3, 3) := by decide +kernel
theorem dL_law_1304 : decode cL_law 1304 = .ok (.iinc 4 4, 3) := by decide +kernel
theorem dL_law_1307 : decode cL_law 1307 = .ok (.goto (-1274), 3) := by decide +kernel
theorem dL_law_1310 : decode cL_law 1310 = .ok (.iconst 1, 1) := by decide +kernel
theorem dL_law_1311 : decode cL_law 1311 = .ok (.ireturn, 1) := by decide +kernel
