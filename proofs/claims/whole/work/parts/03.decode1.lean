theorem dX7_leave_26 : decode cX7_leave 26 = .ok (.iastore, 1) := by decide +kernel
theorem dX7_leave_27 : decode cX7_leave 27 = .ok (.iconst 1, 1) := by decide +kernel
theorem dX7_leave_28 : decode cX7_leave 28 = .ok (.istore_n 3, 1) := by decide +kernel
theorem dX7_leave_29 : decode cX7_leave 29 = .ok (.iconst 0, 1) := by decide +kernel
theorem dX7_leave_30 : decode cX7_leave 30 = .ok (.istore 4, 2) := by decide +kernel
theorem dX7_leave_32 : decode cX7_leave 32 = .ok (.iload 4, 2) := by decide +kernel
theorem dX7_leave_34 : decode cX7_leave 34 = .ok (.sipush 1500, 3) := by decide +kernel
theorem dX7_leave_37 : decode cX7_leave 37 = .ok (.if_icmp .ge 138, 3) := by decide +kernel
theorem dX7_leave_40 : decode cX7_leave 40 = .ok (.iload_n 3, 1) := by decide +kernel
theorem dX7_leave_41 : decode cX7_leave 41 = .ok (.ifCond .le 134, 3) := by decide +kernel
theorem dX7_leave_44 : decode cX7_leave 44 = .ok (.aload_n 0, 1) := by decide +kernel
theorem dX7_leave_45 : decode cX7_leave 45 = .ok (.getfield 18, 3) := by decide +kernel
theorem dX7_leave_48 : decode cX7_leave 48 = .ok (.iload_n 3, 1) := by decide +kernel
theorem dX7_leave_49 : decode cX7_leave 49 = .ok (.iconst 1, 1) := by decide +kernel
theorem dX7_leave_50 : decode cX7_leave 50 = .ok (.isub, 1) := by decide +kernel
theorem dX7_leave_51 : decode cX7_leave 51 = .ok (.iaload, 1) := by decide +kernel
theorem dX7_leave_52 : decode cX7_leave 52 = .ok (.istore 5, 2) := by decide +kernel
theorem dX7_leave_54 : decode cX7_leave 54 = .ok (.aload_n 0, 1) := by decide +kernel
theorem dX7_leave_55 : decode cX7_leave 55 = .ok (.getfield 21, 3) := by decide +kernel
theorem dX7_leave_58 : decode cX7_leave 58 = .ok (.iload 5, 2) := by decide +kernel
theorem dX7_leave_60 : decode cX7_leave 60 = .ok (.iaload, 1) := by decide +kernel
theorem dX7_leave_61 : decode cX7_leave 61 = .ok (.aload_n 2, 1) := by decide +kernel
theorem dX7_leave_62 : decode cX7_leave 62 = .ok (.getfield 61, 3) := by decide +kernel
theorem dX7_leave_65 : decode cX7_leave 65 = .ok (.iload 5, 2) := by decide +kernel
theorem dX7_leave_67 : decode cX7_leave 67 = .ok (.iconst 1, 1) := by decide +kernel
theorem dX7_leave_68 : decode cX7_leave 68 = .ok (.iadd, 1) := by decide +kernel
theorem dX7_leave_69 : decode cX7_leave 69 = .ok (.iaload, 1) := by decide +kernel
theorem dX7_leave_70 : decode cX7_leave 70 = .ok (.if_icmp .ge 75, 3) := by decide +kernel
theorem dX7_leave_73 : decode cX7_leave 73 = .ok (.aload_n 0, 1) := by decide +kernel
theorem dX7_leave_74 : decode cX7_leave 74 = .ok (.getfield 24, 3) := by decide +kernel
theorem dX7_leave_77 : decode cX7_leave 77 = .ok (.getfield 66, 3) := by decide +kernel
theorem dX7_leave_80 : decode cX7_leave 80 = .ok (.aload_n 2, 1) := by decide +kernel
theorem dX7_leave_81 : decode cX7_leave 81 = .ok (.getfield 69, 3) := by decide +kernel
theorem dX7_leave_84 : decode cX7_leave 84 = .ok (.aload_n 0, 1) := by decide +kernel
theorem dX7_leave_85 : decode cX7_leave 85 = .ok (.getfield 21, 3) := by decide +kernel
theorem dX7_leave_88 : decode cX7_leave 88 = .ok (.iload 5, 2) := by decide +kernel
theorem dX7_leave_90 : decode cX7_leave 90 = .ok (.iaload, 1) := by decide +kernel
theorem dX7_leave_91 : decode cX7_leave 91 = .ok (.iaload, 1) := by decide +kernel
theorem dX7_leave_92 : decode cX7_leave 92 = .ok (.iaload, 1) := by decide +kernel
theorem dX7_leave_93 : decode cX7_leave 93 = .ok (.istore 6, 2) := by decide +kernel
theorem dX7_leave_95 : decode cX7_leave 95 = .ok (.aload_n 0, 1) := by decide +kernel
theorem dX7_leave_96 : decode cX7_leave 96 = .ok (.getfield 21, 3) := by decide +kernel
theorem dX7_leave_99 : decode cX7_leave 99 = .ok (.iload 5, 2) := by decide +kernel
theorem dX7_leave_101 : decode cX7_leave 101 = .ok (.dup2, 1) := by decide +kernel
theorem dX7_leave_102 : decode cX7_leave 102 = .ok (.iaload, 1) := by decide +kernel
theorem dX7_leave_103 : decode cX7_leave 103 = .ok (.iconst 1, 1) := by decide +kernel
theorem dX7_leave_104 : decode cX7_leave 104 = .ok (.iadd, 1) := by decide +kernel
theorem dX7_leave_105 : decode cX7_leave 105 = .ok (.iastore, 1) := by decide +kernel
theorem dX7_leave_106 : decode cX7_leave 106 = .ok (.aload_n 0, 1) := by decide +kernel
theorem dX7_leave_107 : decode cX7_leave 107 = .ok (.getfield 21, 3) := by decide +kernel
theorem dX7_leave_110 : decode cX7_leave 110 = .ok (.iload 6, 2) := by decide +kernel
theorem dX7_leave_112 : decode cX7_leave 112 = .ok (.iaload, 1) := by decide +kernel
theorem dX7_leave_113 : decode cX7_leave 113 = .ok (.iconst (-1), 1) := by decide +kernel
theorem dX7_leave_114 : decode cX7_leave 114 = .ok (.if_icmp .ne 28, 3) := by decide +kernel
theorem dX7_leave_117 : decode cX7_leave 117 = .ok (.aload_n 0, 1) := by decide +kernel
theorem dX7_leave_118 : decode cX7_leave 118 = .ok (.getfield 21, 3) := by decide +kernel
theorem dX7_leave_121 : decode cX7_leave 121 = .ok (.iload 6, 2) := by decide +kernel
theorem dX7_leave_123 : decode cX7_leave 123 = .ok (.aload_n 2, 1) := by decide +kernel
theorem dX7_leave_124 : decode cX7_leave 124 = .ok (.getfield 61, 3) := by decide +kernel
theorem dX7_leave_127 : decode cX7_leave 127 = .ok (.iload 6, 2) := by decide +kernel
theorem dX7_leave_129 : decode cX7_leave 129 = .ok (.iaload, 1) := by decide +kernel
theorem dX7_leave_130 : decode cX7_leave 130 = .ok (.iastore, 1) := by decide +kernel
theorem dX7_leave_131 : decode cX7_leave 131 = .ok (.aload_n 0, 1) := by decide +kernel
theorem dX7_leave_132 : decode cX7_leave 132 = .ok (.getfield 18, 3) := by decide +kernel
theorem dX7_leave_135 : decode cX7_leave 135 = .ok (.iload_n 3, 1) := by decide +kernel
theorem dX7_leave_136 : decode cX7_leave 136 = .ok (.iload 6, 2) := by decide +kernel
theorem dX7_leave_138 : decode cX7_leave 138 = .ok (.iastore, 1) := by decide +kernel
theorem dX7_leave_139 : decode cX7_leave 139 = .ok (.iinc 3 1, 3) := by decide +kernel
theorem dX7_leave_142 : decode cX7_leave 142 = .ok (.goto 27, 3) := by decide +kernel
theorem dX7_leave_145 : decode cX7_leave 145 = .ok (.aload_n 0, 1) := by decide +kernel
theorem dX7_leave_146 : decode cX7_leave 146 = .ok (.getfield 15, 3) := by decide +kernel
theorem dX7_leave_149 : decode cX7_leave 149 = .ok (.aload_n 0, 1) := by decide +kernel
theorem dX7_leave_150 : decode cX7_leave 150 = .ok (.getfield 47, 3) := by decide +kernel
theorem dX7_leave_153 : decode cX7_leave 153 = .ok (.iload 5, 2) := by decide +kernel
theorem dX7_leave_155 : decode cX7_leave 155 = .ok (.iastore, 1) := by decide +kernel
theorem dX7_leave_156 : decode cX7_leave 156 = .ok (.aload_n 0, 1) := by decide +kernel
theorem dX7_leave_157 : decode cX7_leave 157 = .ok (.dup, 1) := by decide +kernel
theorem dX7_leave_158 : decode cX7_leave 158 = .ok (.getfield 47, 3) := by decide +kernel
theorem dX7_leave_161 : decode cX7_leave 161 = .ok (.iconst 1, 1) := by decide +kernel
theorem dX7_leave_162 : decode cX7_leave 162 = .ok (.iadd, 1) := by decide +kernel
theorem dX7_leave_163 : decode cX7_leave 163 = .ok (.putfield 47, 3) := by decide +kernel
theorem dX7_leave_166 : decode cX7_leave 166 = .ok (.iinc 3 (-1), 3) := by decide +kernel
theorem dX7_leave_169 : decode cX7_leave 169 = .ok (.iinc 4 1, 3) := by decide +kernel
theorem dX7_leave_172 : decode cX7_leave 172 = .ok (.goto (-140), 3) := by decide +kernel
theorem dX7_leave_175 : decode cX7_leave 175 = .ok (.return_, 1) := by decide +kernel
theorem dX7_collect_0 : decode cX7_collect 0 = .ok (.aload_n 0, 1) := by decide +kernel
theorem dX7_collect_1 : decode cX7_collect 1 = .ok (.getfield 24, 3) := by decide +kernel
theorem dX7_collect_4 : decode cX7_collect 4 = .ok (.getfield 72, 3) := by decide +kernel
theorem dX7_collect_7 : decode cX7_collect 7 = .ok (.astore_n 2, 1) := by decide +kernel
theorem dX7_collect_8 : decode cX7_collect 8 = .ok (.aload_n 0, 1) := by decide +kernel
theorem dX7_collect_9 : decode cX7_collect 9 = .ok (.getfield 9, 3) := by decide +kernel
theorem dX7_collect_12 : decode cX7_collect 12 = .ok (.iload_n 1, 1) := by decide +kernel
theorem dX7_collect_13 : decode cX7_collect 13 = .ok (.iload_n 1, 1) := by decide +kernel
theorem dX7_collect_14 : decode cX7_collect 14 = .ok (.iastore, 1) := by decide +kernel
theorem dX7_collect_15 : decode cX7_collect 15 = .ok (.aload_n 0, 1) := by decide +kernel
theorem dX7_collect_16 : decode cX7_collect 16 = .ok (.getfield 18, 3) := by decide +kernel
theorem dX7_collect_19 : decode cX7_collect 19 = .ok (.iconst 0, 1) := by decide +kernel
theorem dX7_collect_20 : decode cX7_collect 20 = .ok (.iload_n 1, 1) := by decide +kernel
theorem dX7_collect_21 : decode cX7_collect 21 = .ok (.iastore, 1) := by decide +kernel
theorem dX7_collect_22 : decode cX7_collect 22 = .ok (.iload_n 1, 1) := by decide +kernel
theorem dX7_collect_23 : decode cX7_collect 23 = .ok (.istore_n 3, 1) := by decide +kernel
theorem dX7_collect_24 : decode cX7_collect 24 = .ok (.iconst 1, 1) := by decide +kernel
theorem dX7_collect_25 : decode cX7_collect 25 = .ok (.istore 4, 2) := by decide +kernel
theorem dX7_collect_27 : decode cX7_collect 27 = .ok (.iconst 0, 1) := by decide +kernel
theorem dX7_collect_28 : decode cX7_collect 28 = .ok (.istore 5, 2) := by decide +kernel
theorem dX7_collect_30 : decode cX7_collect 30 = .ok (.iload 5, 2) := by decide +kernel
theorem dX7_collect_32 : decode cX7_collect 32 = .ok (.sipush 300, 3) := by decide +kernel
theorem dX7_collect_35 : decode cX7_collect 35 = .ok (.if_icmp .ge 109, 3) := by decide +kernel
theorem dX7_collect_38 : decode cX7_collect 38 = .ok (.iload 5, 2) := by decide +kernel
theorem dX7_collect_40 : decode cX7_collect 40 = .ok (.iload 4, 2) := by decide +kernel
theorem dX7_collect_42 : decode cX7_collect 42 = .ok (.if_icmp .ge 102, 3) := by decide +kernel
theorem dX7_collect_45 : decode cX7_collect 45 = .ok (.aload_n 0, 1) := by decide +kernel
theorem dX7_collect_46 : decode cX7_collect 46 = .ok (.getfield 18, 3) := by decide +kernel
theorem dX7_collect_49 : decode cX7_collect 49 = .ok (.iload 5, 2) := by decide +kernel
theorem dX7_collect_51 : decode cX7_collect 51 = .ok (.iaload, 1) := by decide +kernel
theorem dX7_collect_52 : decode cX7_collect 52 = .ok (.istore 6, 2) := by decide +kernel
theorem dX7_collect_54 : decode cX7_collect 54 = .ok (.iload_n 3, 1) := by decide +kernel
theorem dX7_collect_55 : decode cX7_collect 55 = .ok (.iload 6, 2) := by decide +kernel
theorem dX7_collect_57 : decode cX7_collect 57 = .ok (.invokestatic 75, 3) := by decide +kernel
theorem dX7_collect_60 : decode cX7_collect 60 = .ok (.istore_n 3, 1) := by decide +kernel
theorem dX7_collect_61 : decode cX7_collect 61 = .ok (.aload_n 2, 1) := by decide +kernel
theorem dX7_collect_62 : decode cX7_collect 62 = .ok (.getfield 61, 3) := by decide +kernel
theorem dX7_collect_65 : decode cX7_collect 65 = .ok (.iload 6, 2) := by decide +kernel
theorem dX7_collect_67 : decode cX7_collect 67 = .ok (.iaload, 1) := by decide +kernel
theorem dX7_collect_68 : decode cX7_collect 68 = .ok (.istore 7, 2) := by decide +kernel
theorem dX7_collect_70 : decode cX7_collect 70 = .ok (.iload 7, 2) := by decide +kernel
theorem dX7_collect_72 : decode cX7_collect 72 = .ok (.aload_n 2, 1) := by decide +kernel
theorem dX7_collect_73 : decode cX7_collect 73 = .ok (.getfield 61, 3) := by decide +kernel
theorem dX7_collect_76 : decode cX7_collect 76 = .ok (.iload 6, 2) := by decide +kernel
theorem dX7_collect_78 : decode cX7_collect 78 = .ok (.iconst 1, 1) := by decide +kernel
theorem dX7_collect_79 : decode cX7_collect 79 = .ok (.iadd, 1) := by decide +kernel
theorem dX7_collect_80 : decode cX7_collect 80 = .ok (.iaload, 1) := by decide +kernel
theorem dX7_collect_81 : decode cX7_collect 81 = .ok (.if_icmp .ge 57, 3) := by decide +kernel
theorem dX7_collect_84 : decode cX7_collect 84 = .ok (.aload_n 0, 1) := by decide +kernel
theorem dX7_collect_85 : decode cX7_collect 85 = .ok (.getfield 24, 3) := by decide +kernel
theorem dX7_collect_88 : decode cX7_collect 88 = .ok (.getfield 81, 3) := by decide +kernel
theorem dX7_collect_91 : decode cX7_collect 91 = .ok (.aload_n 2, 1) := by decide +kernel
theorem dX7_collect_92 : decode cX7_collect 92 = .ok (.getfield 69, 3) := by decide +kernel
theorem dX7_collect_95 : decode cX7_collect 95 = .ok (.iload 7, 2) := by decide +kernel
theorem dX7_collect_97 : decode cX7_collect 97 = .ok (.iaload, 1) := by decide +kernel
theorem dX7_collect_98 : decode cX7_collect 98 = .ok (.iaload, 1) := by decide +kernel
theorem dX7_collect_99 : decode cX7_collect 99 = .ok (.istore 8, 2) := by decide +kernel
theorem dX7_collect_101 : decode cX7_collect 101 = .ok (.aload_n 0, 1) := by decide +kernel
theorem dX7_collect_102 : decode cX7_collect 102 = .ok (.getfield 9, 3) := by decide +kernel
theorem dX7_collect_105 : decode cX7_collect 105 = .ok (.iload 8, 2) := by decide +kernel
theorem dX7_collect_107 : decode cX7_collect 107 = .ok (.iaload, 1) := by decide +kernel
theorem dX7_collect_108 : decode cX7_collect 108 = .ok (.iconst (-1), 1) := by decide +kernel
theorem dX7_collect_109 : decode cX7_collect 109 = .ok (.if_icmp .ne 23, 3) := by decide +kernel
theorem dX7_collect_112 : decode cX7_collect 112 = .ok (.aload_n 0, 1) := by decide +kernel
theorem dX7_collect_113 : decode cX7_collect 113 = .ok (.getfield 9, 3) := by decide +kernel
theorem dX7_collect_116 : decode cX7_collect 116 = .ok (.iload 8, 2) := by decide +kernel
theorem dX7_collect_118 : decode cX7_collect 118 = .ok (.iload_n 1, 1) := by decide +kernel
theorem dX7_collect_119 : decode cX7_collect 119 = .ok (.iastore, 1) := by decide +kernel
theorem dX7_collect_120 : decode cX7_collect 120 = .ok (.aload_n 0, 1) := by decide +kernel
theorem dX7_collect_121 : decode cX7_collect 121 = .ok (.getfield 18, 3) := by decide +kernel
theorem dX7_collect_124 : decode cX7_collect 124 = .ok (.iload 4, 2) := by decide +kernel
theorem dX7_collect_126 : decode cX7_collect 126 = .ok (.iload 8, 2) := by decide +kernel
theorem dX7_collect_128 : decode cX7_collect 128 = .ok (.iastore, 1) := by decide +kernel
theorem dX7_collect_129 : decode cX7_collect 129 = .ok (.iinc 4 1, 3) := by decide +kernel
theorem dX7_collect_132 : decode cX7_collect 132 = .ok (.iinc 7 1, 3) := by decide +kernel
theorem dX7_collect_135 : decode cX7_collect 135 = .ok (.goto (-65), 3) := by decide +kernel
theorem dX7_collect_138 : decode cX7_collect 138 = .ok (.iinc 5 1, 3) := by decide +kernel
theorem dX7_collect_141 : decode cX7_collect 141 = .ok (.goto (-111), 3) := by decide +kernel
theorem dX7_collect_144 : decode cX7_collect 144 = .ok (.iconst 0, 1) := by decide +kernel
theorem dX7_collect_145 : decode cX7_collect 145 = .ok (.istore 5, 2) := by decide +kernel
theorem dX7_collect_147 : decode cX7_collect 147 = .ok (.iload 5, 2) := by decide +kernel
theorem dX7_collect_149 : decode cX7_collect 149 = .ok (.iload 4, 2) := by decide +kernel
theorem dX7_collect_151 : decode cX7_collect 151 = .ok (.if_icmp .ge 22, 3) := by decide +kernel
theorem dX7_collect_154 : decode cX7_collect 154 = .ok (.aload_n 0, 1) := by decide +kernel
theorem dX7_collect_155 : decode cX7_collect 155 = .ok (.getfield 9, 3) := by decide +kernel
theorem dX7_collect_158 : decode cX7_collect 158 = .ok (.aload_n 0, 1) := by decide +kernel
theorem dX7_collect_159 : decode cX7_collect 159 = .ok (.getfield 18, 3) := by decide +kernel
theorem dX7_collect_162 : decode cX7_collect 162 = .ok (.iload 5, 2) := by decide +kernel
theorem dX7_collect_164 : decode cX7_collect 164 = .ok (.iaload, 1) := by decide +kernel
theorem dX7_collect_165 : decode cX7_collect 165 = .ok (.iload_n 3, 1) := by decide +kernel
theorem dX7_collect_166 : decode cX7_collect 166 = .ok (.iastore, 1) := by decide +kernel
theorem dX7_collect_167 : decode cX7_collect 167 = .ok (.iinc 5 1, 3) := by decide +kernel
theorem dX7_collect_170 : decode cX7_collect 170 = .ok (.goto (-23), 3) := by decide +kernel
theorem dX7_collect_173 : decode cX7_collect 173 = .ok (.return_, 1) := by decide +kernel
theorem dX8_init_0 : decode cX8_init 0 = .ok (.aload_n 0, 1) := by decide +kernel
theorem dX8_init_1 : decode cX8_init 1 = .ok (.invokespecial 3, 3) := by decide +kernel
theorem dX8_init_4 : decode cX8_init 4 = .ok (.aload_n 0, 1) := by decide +kernel
theorem dX8_init_5 : decode cX8_init 5 = .ok (.sipush 5000, 3) := by decide +kernel
theorem dX8_init_8 : decode cX8_init 8 = .ok (.newarray .int, 2) := by decide +kernel
theorem dX8_init_10 : decode cX8_init 10 = .ok (.putfield 9, 3) := by decide +kernel
theorem dX8_init_13 : decode cX8_init 13 = .ok (.aload_n 0, 1) := by decide +kernel
theorem dX8_init_14 : decode cX8_init 14 = .ok (.sipush 5000, 3) := by decide +kernel
theorem dX8_init_17 : decode cX8_init 17 = .ok (.newarray .boolean, 2) := by decide +kernel
theorem dX8_init_19 : decode cX8_init 19 = .ok (.putfield 15, 3) := by decide +kernel
theorem dX8_init_22 : decode cX8_init 22 = .ok (.aload_n 0, 1) := by decide +kernel
theorem dX8_init_23 : decode cX8_init 23 = .ok (.sipush 300, 3) := by decide +kernel
theorem dX8_init_26 : decode cX8_init 26 = .ok (.newarray .int, 2) := by decide +kernel
theorem dX8_init_28 : decode cX8_init 28 = .ok (.putfield 19, 3) := by decide +kernel
theorem dX8_init_31 : decode cX8_init 31 = .ok (.aload_n 0, 1) := by decide +kernel
theorem dX8_init_32 : decode cX8_init 32 = .ok (.sipush 300, 3) := by decide +kernel
theorem dX8_init_35 : decode cX8_init 35 = .ok (.newarray .int, 2) := by decide +kernel
theorem dX8_init_37 : decode cX8_init 37 = .ok (.putfield 22, 3) := by decide +kernel
theorem dX8_init_40 : decode cX8_init 40 = .ok (.aload_n 0, 1) := by decide +kernel
theorem dX8_init_41 : decode cX8_init 41 = .ok (.sipush 300, 3) := by decide +kernel
theorem dX8_init_44 : decode cX8_init 44 = .ok (.newarray .int, 2) := by decide +kernel
theorem dX8_init_46 : decode cX8_init 46 = .ok (.putfield 25, 3) := by decide +kernel
theorem dX8_init_49 : decode cX8_init 49 = .ok (.aload_n 0, 1) := by decide +kernel
theorem dX8_init_50 : decode cX8_init 50 = .ok (.sipush 300, 3) := by decide +kernel
theorem dX8_init_53 : decode cX8_init 53 = .ok (.newarray .int, 2) := by decide +kernel
theorem dX8_init_55 : decode cX8_init 55 = .ok (.putfield 28, 3) := by decide +kernel
theorem dX8_init_58 : decode cX8_init 58 = .ok (.aload_n 0, 1) := by decide +kernel
theorem dX8_init_59 : decode cX8_init 59 = .ok (.sipush 300, 3) := by decide +kernel
theorem dX8_init_62 : decode cX8_init 62 = .ok (.newarray .int, 2) := by decide +kernel
theorem dX8_init_64 : decode cX8_init 64 = .ok (.putfield 31, 3) := by decide +kernel
theorem dX8_init_67 : decode cX8_init 67 = .ok (.aload_n 0, 1) := by decide +kernel
theorem dX8_init_68 : decode cX8_init 68 = .ok (.sipush 300, 3) := by decide +kernel
theorem dX8_init_71 : decode cX8_init 71 = .ok (.newarray .int, 2) := by decide +kernel
theorem dX8_init_73 : decode cX8_init 73 = .ok (.putfield 34, 3) := by decide +kernel
theorem dX8_init_76 : decode cX8_init 76 = .ok (.aload_n 0, 1) := by decide +kernel
theorem dX8_init_77 : decode cX8_init 77 = .ok (.aload_n 1, 1) := by decide +kernel
theorem dX8_init_78 : decode cX8_init 78 = .ok (.putfield 37, 3) := by decide +kernel
theorem dX8_init_81 : decode cX8_init 81 = .ok (.return_, 1) := by decide +kernel
theorem dX8_together_0 : decode cX8_together 0 = .ok (.aload_n 0, 1) := by decide +kernel
theorem dX8_together_1 : decode cX8_together 1 = .ok (.getfield 19, 3) := by decide +kernel
theorem dX8_together_4 : decode cX8_together 4 = .ok (.iload_n 1, 1) := by decide +kernel
theorem dX8_together_5 : decode cX8_together 5 = .ok (.iaload, 1) := by decide +kernel
theorem dX8_together_6 : decode cX8_together 6 = .ok (.aload_n 0, 1) := by decide +kernel
theorem dX8_together_7 : decode cX8_together 7 = .ok (.getfield 19, 3) := by decide +kernel
theorem dX8_together_10 : decode cX8_together 10 = .ok (.iload_n 2, 1) := by decide +kernel
theorem dX8_together_11 : decode cX8_together 11 = .ok (.iaload, 1) := by decide +kernel
theorem dX8_together_12 : decode cX8_together 12 = .ok (.if_icmp .ne 7, 3) := by decide +kernel
theorem dX8_together_15 : decode cX8_together 15 = .ok (.iconst 1, 1) := by decide +kernel
theorem dX8_together_16 : decode cX8_together 16 = .ok (.goto 4, 3) := by decide +kernel
theorem dX8_together_19 : decode cX8_together 19 = .ok (.iconst 0, 1) := by decide +kernel
theorem dX8_together_20 : decode cX8_together 20 = .ok (.ireturn, 1) := by decide +kernel
theorem dX8_parts_0 : decode cX8_parts 0 = .ok (.aload_n 0, 1) := by decide +kernel
theorem dX8_parts_1 : decode cX8_parts 1 = .ok (.getfield 37, 3) := by decide +kernel
theorem dX8_parts_4 : decode cX8_parts 4 = .ok (.getfield 41, 3) := by decide +kernel
theorem dX8_parts_7 : decode cX8_parts 7 = .ok (.aload_n 0, 1) := by decide +kernel
theorem dX8_parts_8 : decode cX8_parts 8 = .ok (.invokevirtual 47, 3) := by decide +kernel
theorem dX8_parts_11 : decode cX8_parts 11 = .ok (.isub, 1) := by decide +kernel
theorem dX8_parts_12 : decode cX8_parts 12 = .ok (.ireturn, 1) := by decide +kernel
theorem dX8_treeArcs_0 : decode cX8_treeArcs 0 = .ok (.iconst 0, 1) := by decide +kernel
theorem dX8_treeArcs_1 : decode cX8_treeArcs 1 = .ok (.istore_n 1, 1) := by decide +kernel
theorem dX8_treeArcs_2 : decode cX8_treeArcs 2 = .ok (.iconst 0, 1) := by decide +kernel
theorem dX8_treeArcs_3 : decode cX8_treeArcs 3 = .ok (.istore_n 2, 1) := by decide +kernel
theorem dX8_treeArcs_4 : decode cX8_treeArcs 4 = .ok (.iload_n 2, 1) := by decide +kernel
theorem dX8_treeArcs_5 : decode cX8_treeArcs 5 = .ok (.aload_n 0, 1) := by decide +kernel
theorem dX8_treeArcs_6 : decode cX8_treeArcs 6 = .ok (.getfield 37, 3) := by decide +kernel
theorem dX8_treeArcs_9 : decode cX8_treeArcs 9 = .ok (.getfield 51, 3) := by decide +kernel
theorem dX8_treeArcs_12 : decode cX8_treeArcs 12 = .ok (.if_icmp .ge 29, 3) := by decide +kernel
theorem dX8_treeArcs_15 : decode cX8_treeArcs 15 = .ok (.aload_n 0, 1) := by decide +kernel
theorem dX8_treeArcs_16 : decode cX8_treeArcs 16 = .ok (.getfield 15, 3) := by decide +kernel
theorem dX8_treeArcs_19 : decode cX8_treeArcs 19 = .ok (.aload_n 0, 1) := by decide +kernel
theorem dX8_treeArcs_20 : decode cX8_treeArcs 20 = .ok (.getfield 37, 3) := by decide +kernel
theorem dX8_treeArcs_23 : decode cX8_treeArcs 23 = .ok (.getfield 54, 3) := by decide +kernel
theorem dX8_treeArcs_26 : decode cX8_treeArcs 26 = .ok (.iload_n 2, 1) := by decide +kernel
theorem dX8_treeArcs_27 : decode cX8_treeArcs 27 = .ok (.iaload, 1) := by decide +kernel
theorem dX8_treeArcs_28 : decode cX8_treeArcs 28 = .ok (.baload, 1) := by decide +kernel
theorem dX8_treeArcs_29 : decode cX8_treeArcs 29 = .ok (.ifCond .eq 6, 3) := by decide +kernel
theorem dX8_treeArcs_32 : decode cX8_treeArcs 32 = .ok (.iinc 1 1, 3) := by decide +kernel
theorem dX8_treeArcs_35 : decode cX8_treeArcs 35 = .ok (.iinc 2 1, 3) := by decide +kernel
theorem dX8_treeArcs_38 : decode cX8_treeArcs 38 = .ok (.goto (-34), 3) := by decide +kernel
theorem dX8_treeArcs_41 : decode cX8_treeArcs 41 = .ok (.iload_n 1, 1) := by decide +kernel
theorem dX8_treeArcs_42 : decode cX8_treeArcs 42 = .ok (.ireturn, 1) := by decide +kernel
theorem dX8_greatestLevel_0 : decode cX8_greatestLevel 0 = .ok (.iconst 0, 1) := by decide +kernel
theorem dX8_greatestLevel_1 : decode cX8_greatestLevel 1 = .ok (.istore_n 1, 1) := by decide +kernel
theorem dX8_greatestLevel_2 : decode cX8_greatestLevel 2 = .ok (.iconst 0, 1) := by decide +kernel
theorem dX8_greatestLevel_3 : decode cX8_greatestLevel 3 = .ok (.istore_n 2, 1) := by decide +kernel
theorem dX8_greatestLevel_4 : decode cX8_greatestLevel 4 = .ok (.iload_n 2, 1) := by decide +kernel
theorem dX8_greatestLevel_5 : decode cX8_greatestLevel 5 = .ok (.aload_n 0, 1) := by decide +kernel
theorem dX8_greatestLevel_6 : decode cX8_greatestLevel 6 = .ok (.getfield 37, 3) := by decide +kernel
theorem dX8_greatestLevel_9 : decode cX8_greatestLevel 9 = .ok (.getfield 51, 3) := by decide +kernel
theorem dX8_greatestLevel_12 : decode cX8_greatestLevel 12 = .ok (.if_icmp .ge 28, 3) := by decide +kernel
theorem dX8_greatestLevel_15 : decode cX8_greatestLevel 15 = .ok (.iload_n 1, 1) := by decide +kernel
theorem dX8_greatestLevel_16 : decode cX8_greatestLevel 16 = .ok (.aload_n 0, 1) := by decide +kernel
theorem dX8_greatestLevel_17 : decode cX8_greatestLevel 17 = .ok (.getfield 9, 3) := by decide +kernel
theorem dX8_greatestLevel_20 : decode cX8_greatestLevel 20 = .ok (.aload_n 0, 1) := by decide +kernel
theorem dX8_greatestLevel_21 : decode cX8_greatestLevel 21 = .ok (.getfield 37, 3) := by decide +kernel
theorem dX8_greatestLevel_24 : decode cX8_greatestLevel 24 = .ok (.getfield 54, 3) := by decide +kernel
theorem dX8_greatestLevel_27 : decode cX8_greatestLevel 27 = .ok (.iload_n 2, 1) := by decide +kernel
theorem dX8_greatestLevel_28 : decode cX8_greatestLevel 28 = .ok (.iaload, 1) := by decide +kernel
theorem dX8_greatestLevel_29 : decode cX8_greatestLevel 29 = .ok (.iaload, 1) := by decide +kernel
theorem dX8_greatestLevel_30 : decode cX8_greatestLevel 30 = .ok (.invokestatic 57, 3) := by decide +kernel
theorem dX8_greatestLevel_33 : decode cX8_greatestLevel 33 = .ok (.istore_n 1, 1) := by decide +kernel
theorem dX8_greatestLevel_34 : decode cX8_greatestLevel 34 = .ok (.iinc 2 1, 3) := by decide +kernel
theorem dX8_greatestLevel_37 : decode cX8_greatestLevel 37 = .ok (.goto (-33), 3) := by decide +kernel
theorem dX8_greatestLevel_40 : decode cX8_greatestLevel 40 = .ok (.iload_n 1, 1) := by decide +kernel
theorem dX8_greatestLevel_41 : decode cX8_greatestLevel 41 = .ok (.ireturn, 1) := by decide +kernel
theorem dX8_nodeAdded_0 : decode cX8_nodeAdded 0 = .ok (.aload_n 0, 1) := by decide +kernel
theorem dX8_nodeAdded_1 : decode cX8_nodeAdded 1 = .ok (.iload_n 1, 1) := by decide +kernel
theorem dX8_nodeAdded_2 : decode cX8_nodeAdded 2 = .ok (.iconst (-1), 1) := by decide +kernel
theorem dX8_nodeAdded_3 : decode cX8_nodeAdded 3 = .ok (.iconst (-1), 1) := by decide +kernel
theorem dX8_nodeAdded_4 : decode cX8_nodeAdded 4 = .ok (.iload_n 1, 1) := by decide +kernel
theorem dX8_nodeAdded_5 : decode cX8_nodeAdded 5 = .ok (.iconst 0, 1) := by decide +kernel
theorem dX8_nodeAdded_6 : decode cX8_nodeAdded 6 = .ok (.invokevirtual 63, 3) := by decide +kernel
theorem dX8_nodeAdded_9 : decode cX8_nodeAdded 9 = .ok (.return_, 1) := by decide +kernel
theorem dX8_arcAdded_0 : decode cX8_arcAdded 0 = .ok (.aload_n 0, 1) := by decide +kernel
theorem dX8_arcAdded_1 : decode cX8_arcAdded 1 = .ok (.getfield 37, 3) := by decide +kernel
theorem dX8_arcAdded_4 : decode cX8_arcAdded 4 = .ok (.getfield 67, 3) := by decide +kernel
theorem dX8_arcAdded_7 : decode cX8_arcAdded 7 = .ok (.iload_n 1, 1) := by decide +kernel
theorem dX8_arcAdded_8 : decode cX8_arcAdded 8 = .ok (.iaload, 1) := by decide +kernel
theorem dX8_arcAdded_9 : decode cX8_arcAdded 9 = .ok (.istore_n 2, 1) := by decide +kernel
theorem dX8_arcAdded_10 : decode cX8_arcAdded 10 = .ok (.aload_n 0, 1) := by decide +kernel
theorem dX8_arcAdded_11 : decode cX8_arcAdded 11 = .ok (.getfield 37, 3) := by decide +kernel
theorem dX8_arcAdded_14 : decode cX8_arcAdded 14 = .ok (.getfield 70, 3) := by decide +kernel
theorem dX8_arcAdded_17 : decode cX8_arcAdded 17 = .ok (.iload_n 1, 1) := by decide +kernel
theorem dX8_arcAdded_18 : decode cX8_arcAdded 18 = .ok (.iaload, 1) := by decide +kernel
theorem dX8_arcAdded_19 : decode cX8_arcAdded 19 = .ok (.istore_n 3, 1) := by decide +kernel
theorem dX8_arcAdded_20 : decode cX8_arcAdded 20 = .ok (.aload_n 0, 1) := by decide +kernel
theorem dX8_arcAdded_21 : decode cX8_arcAdded 21 = .ok (.getfield 9, 3) := by decide +kernel
theorem dX8_arcAdded_24 : decode cX8_arcAdded 24 = .ok (.iload_n 1, 1) := by decide +kernel
theorem dX8_arcAdded_25 : decode cX8_arcAdded 25 = .ok (.iconst 0, 1) := by decide +kernel
theorem dX8_arcAdded_26 : decode cX8_arcAdded 26 = .ok (.iastore, 1) := by decide +kernel
theorem dX8_arcAdded_27 : decode cX8_arcAdded 27 = .ok (.aload_n 0, 1) := by decide +kernel
theorem dX8_arcAdded_28 : decode cX8_arcAdded 28 = .ok (.getfield 15, 3) := by decide +kernel
theorem dX8_arcAdded_31 : decode cX8_arcAdded 31 = .ok (.iload_n 1, 1) := by decide +kernel
theorem dX8_arcAdded_32 : decode cX8_arcAdded 32 = .ok (.aload_n 0, 1) := by decide +kernel
theorem dX8_arcAdded_33 : decode cX8_arcAdded 33 = .ok (.iload_n 2, 1) := by decide +kernel
theorem dX8_arcAdded_34 : decode cX8_arcAdded 34 = .ok (.iload_n 3, 1) := by decide +kernel
theorem dX8_arcAdded_35 : decode cX8_arcAdded 35 = .ok (.invokevirtual 73, 3) := by decide +kernel
theorem dX8_arcAdded_38 : decode cX8_arcAdded 38 = .ok (.ifCond .ne 7, 3) := by decide +kernel
theorem dX8_arcAdded_41 : decode cX8_arcAdded 41 = .ok (.iconst 1, 1) := by decide +kernel
theorem dX8_arcAdded_42 : decode cX8_arcAdded 42 = .ok (.goto 4, 3) := by decide +kernel
theorem dX8_arcAdded_45 : decode cX8_arcAdded 45 = .ok (.iconst 0, 1) := by decide +kernel
theorem dX8_arcAdded_46 : decode cX8_arcAdded 46 = .ok (.bastore, 1) := by decide +kernel
theorem dX8_arcAdded_47 : decode cX8_arcAdded 47 = .ok (.aload_n 0, 1) := by decide +kernel
theorem dX8_arcAdded_48 : decode cX8_arcAdded 48 = .ok (.getfield 15, 3) := by decide +kernel
theorem dX8_arcAdded_51 : decode cX8_arcAdded 51 = .ok (.iload_n 1, 1) := by decide +kernel
theorem dX8_arcAdded_52 : decode cX8_arcAdded 52 = .ok (.baload, 1) := by decide +kernel
theorem dX8_arcAdded_53 : decode cX8_arcAdded 53 = .ok (.ifCond .eq 70, 3) := by decide +kernel
theorem dX8_arcAdded_56 : decode cX8_arcAdded 56 = .ok (.aload_n 0, 1) := by decide +kernel
theorem dX8_arcAdded_57 : decode cX8_arcAdded 57 = .ok (.getfield 19, 3) := by decide +kernel
theorem dX8_arcAdded_60 : decode cX8_arcAdded 60 = .ok (.iload_n 2, 1) := by decide +kernel
theorem dX8_arcAdded_61 : decode cX8_arcAdded 61 = .ok (.iaload, 1) := by decide +kernel
theorem dX8_arcAdded_62 : decode cX8_arcAdded 62 = .ok (.aload_n 0, 1) := by decide +kernel
theorem dX8_arcAdded_63 : decode cX8_arcAdded 63 = .ok (.getfield 19, 3) := by decide +kernel
theorem dX8_arcAdded_66 : decode cX8_arcAdded 66 = .ok (.iload_n 3, 1) := by decide +kernel
theorem dX8_arcAdded_67 : decode cX8_arcAdded 67 = .ok (.iaload, 1) := by decide +kernel
theorem dX8_arcAdded_68 : decode cX8_arcAdded 68 = .ok (.if_icmp .ge 7, 3) := by decide +kernel
theorem dX8_arcAdded_71 : decode cX8_arcAdded 71 = .ok (.iconst 1, 1) := by decide +kernel
theorem dX8_arcAdded_72 : decode cX8_arcAdded 72 = .ok (.goto 4, 3) := by decide +kernel
theorem dX8_arcAdded_75 : decode cX8_arcAdded 75 = .ok (.iconst 0, 1) := by decide +kernel
theorem dX8_arcAdded_76 : decode cX8_arcAdded 76 = .ok (.istore 4, 2) := by decide +kernel
theorem dX8_arcAdded_78 : decode cX8_arcAdded 78 = .ok (.iload 4, 2) := by decide +kernel
theorem dX8_arcAdded_80 : decode cX8_arcAdded 80 = .ok (.ifCond .eq 7, 3) := by decide +kernel
theorem dX8_arcAdded_83 : decode cX8_arcAdded 83 = .ok (.iload_n 2, 1) := by decide +kernel
theorem dX8_arcAdded_84 : decode cX8_arcAdded 84 = .ok (.goto 4, 3) := by decide +kernel
theorem dX8_arcAdded_87 : decode cX8_arcAdded 87 = .ok (.iload_n 3, 1) := by decide +kernel
theorem dX8_arcAdded_88 : decode cX8_arcAdded 88 = .ok (.istore 5, 2) := by decide +kernel
theorem dX8_arcAdded_90 : decode cX8_arcAdded 90 = .ok (.aload_n 0, 1) := by decide +kernel
theorem dX8_arcAdded_91 : decode cX8_arcAdded 91 = .ok (.iload 4, 2) := by decide +kernel
theorem dX8_arcAdded_93 : decode cX8_arcAdded 93 = .ok (.ifCond .eq 7, 3) := by decide +kernel
theorem dX8_arcAdded_96 : decode cX8_arcAdded 96 = .ok (.iload_n 3, 1) := by decide +kernel
theorem dX8_arcAdded_97 : decode cX8_arcAdded 97 = .ok (.goto 4, 3) := by decide +kernel
theorem dX8_arcAdded_100 : decode cX8_arcAdded 100 = .ok (.iload_n 2, 1) := by decide +kernel
theorem dX8_arcAdded_101 : decode cX8_arcAdded 101 = .ok (.iload 5, 2) := by decide +kernel
theorem dX8_arcAdded_103 : decode cX8_arcAdded 103 = .ok (.iload_n 1, 1) := by decide +kernel
theorem dX8_arcAdded_104 : decode cX8_arcAdded 104 = .ok (.aload_n 0, 1) := by decide +kernel
theorem dX8_arcAdded_105 : decode cX8_arcAdded 105 = .ok (.getfield 19, 3) := by decide +kernel
theorem dX8_arcAdded_108 : decode cX8_arcAdded 108 = .ok (.iload 5, 2) := by decide +kernel
theorem dX8_arcAdded_110 : decode cX8_arcAdded 110 = .ok (.iaload, 1) := by decide +kernel
theorem dX8_arcAdded_111 : decode cX8_arcAdded 111 = .ok (.aload_n 0, 1) := by decide +kernel
theorem dX8_arcAdded_112 : decode cX8_arcAdded 112 = .ok (.getfield 28, 3) := by decide +kernel
theorem dX8_arcAdded_115 : decode cX8_arcAdded 115 = .ok (.iload 5, 2) := by decide +kernel
theorem dX8_arcAdded_117 : decode cX8_arcAdded 117 = .ok (.iaload, 1) := by decide +kernel
theorem dX8_arcAdded_118 : decode cX8_arcAdded 118 = .ok (.iconst 1, 1) := by decide +kernel
theorem dX8_arcAdded_119 : decode cX8_arcAdded 119 = .ok (.iadd, 1) := by decide +kernel
theorem dX8_arcAdded_120 : decode cX8_arcAdded 120 = .ok (.invokevirtual 63, 3) := by decide +kernel
theorem dX8_arcAdded_123 : decode cX8_arcAdded 123 = .ok (.return_, 1) := by decide +kernel
theorem dX8_arcRemoved_0 : decode cX8_arcRemoved 0 = .ok (.aload_n 0, 1) := by decide +kernel
theorem dX8_arcRemoved_1 : decode cX8_arcRemoved 1 = .ok (.getfield 15, 3) := by decide +kernel
theorem dX8_arcRemoved_4 : decode cX8_arcRemoved 4 = .ok (.iload_n 1, 1) := by decide +kernel
theorem dX8_arcRemoved_5 : decode cX8_arcRemoved 5 = .ok (.baload, 1) := by decide +kernel
theorem dX8_arcRemoved_6 : decode cX8_arcRemoved 6 = .ok (.ifCond .eq 12, 3) := by decide +kernel
theorem dX8_arcRemoved_9 : decode cX8_arcRemoved 9 = .ok (.aload_n 0, 1) := by decide +kernel
theorem dX8_arcRemoved_10 : decode cX8_arcRemoved 10 = .ok (.iload_n 1, 1) := by decide +kernel
theorem dX8_arcRemoved_11 : decode cX8_arcRemoved 11 = .ok (.invokevirtual 77, 3) := by decide +kernel
theorem dX8_arcRemoved_14 : decode cX8_arcRemoved 14 = .ok (.aload_n 0, 1) := by decide +kernel
theorem dX8_arcRemoved_15 : decode cX8_arcRemoved 15 = .ok (.invokevirtual 81, 3) := by decide +kernel
theorem dX8_arcRemoved_18 : decode cX8_arcRemoved 18 = .ok (.return_, 1) := by decide +kernel
theorem dX8_mend_0 : decode cX8_mend 0 = .ok (.iconst 0, 1) := by decide +kernel
theorem dX8_mend_1 : decode cX8_mend 1 = .ok (.istore_n 2, 1) := by decide +kernel
theorem dX8_mend_2 : decode cX8_mend 2 = .ok (.aload_n 0, 1) := by decide +kernel
theorem dX8_mend_3 : decode cX8_mend 3 = .ok (.getfield 9, 3) := by decide +kernel
theorem dX8_mend_6 : decode cX8_mend 6 = .ok (.iload_n 1, 1) := by decide +kernel
theorem dX8_mend_7 : decode cX8_mend 7 = .ok (.iaload, 1) := by decide +kernel
theorem dX8_mend_8 : decode cX8_mend 8 = .ok (.istore_n 3, 1) := by decide +kernel
theorem dX8_mend_9 : decode cX8_mend 9 = .ok (.iload_n 3, 1) := by decide +kernel
theorem dX8_mend_10 : decode cX8_mend 10 = .ok (.ifCond .lt 84, 3) := by decide +kernel
theorem dX8_mend_13 : decode cX8_mend 13 = .ok (.iload_n 2, 1) := by decide +kernel
theorem dX8_mend_14 : decode cX8_mend 14 = .ok (.ifCond .ne 80, 3) := by decide +kernel
theorem dX8_mend_17 : decode cX8_mend 17 = .ok (.aload_n 0, 1) := by decide +kernel
theorem dX8_mend_18 : decode cX8_mend 18 = .ok (.getfield 34, 3) := by decide +kernel
theorem dX8_mend_21 : decode cX8_mend 21 = .ok (.iconst 0, 1) := by decide +kernel
theorem dX8_mend_22 : decode cX8_mend 22 = .ok (.invokestatic 84, 3) := by decide +kernel
theorem dX8_mend_25 : decode cX8_mend 25 = .ok (.aload_n 0, 1) := by decide +kernel
theorem dX8_mend_26 : decode cX8_mend 26 = .ok (.aload_n 0, 1) := by decide +kernel
theorem dX8_mend_27 : decode cX8_mend 27 = .ok (.getfield 37, 3) := by decide +kernel
theorem dX8_mend_30 : decode cX8_mend 30 = .ok (.getfield 67, 3) := by decide +kernel
theorem dX8_mend_33 : decode cX8_mend 33 = .ok (.iload_n 1, 1) := by decide +kernel
theorem dX8_mend_34 : decode cX8_mend 34 = .ok (.iaload, 1) := by decide +kernel
theorem dX8_mend_35 : decode cX8_mend 35 = .ok (.iload_n 3, 1) := by decide +kernel
theorem dX8_mend_36 : decode cX8_mend 36 = .ok (.iconst 1, 1) := by decide +kernel
theorem dX8_mend_37 : decode cX8_mend 37 = .ok (.invokevirtual 90, 3) := by decide +kernel
theorem dX8_mend_40 : decode cX8_mend 40 = .ok (.istore 4, 2) := by decide +kernel
theorem dX8_mend_42 : decode cX8_mend 42 = .ok (.aload_n 0, 1) := by decide +kernel
theorem dX8_mend_43 : decode cX8_mend 43 = .ok (.aload_n 0, 1) := by decide +kernel
theorem dX8_mend_44 : decode cX8_mend 44 = .ok (.getfield 37, 3) := by decide +kernel
theorem dX8_mend_47 : decode cX8_mend 47 = .ok (.getfield 70, 3) := by decide +kernel
theorem dX8_mend_50 : decode cX8_mend 50 = .ok (.iload_n 1, 1) := by decide +kernel
theorem dX8_mend_51 : decode cX8_mend 51 = .ok (.iaload, 1) := by decide +kernel
theorem dX8_mend_52 : decode cX8_mend 52 = .ok (.iload_n 3, 1) := by decide +kernel
theorem dX8_mend_53 : decode cX8_mend 53 = .ok (.iconst 2, 1) := by decide +kernel
theorem dX8_mend_54 : decode cX8_mend 54 = .ok (.invokevirtual 90, 3) := by decide +kernel
theorem dX8_mend_57 : decode cX8_mend 57 = .ok (.istore 5, 2) := by decide +kernel
theorem dX8_mend_59 : decode cX8_mend 59 = .ok (.iload 4, 2) := by decide +kernel
theorem dX8_mend_61 : decode cX8_mend 61 = .ok (.iload 5, 2) := by decide +kernel
theorem dX8_mend_63 : decode cX8_mend 63 = .ok (.if_icmp .gt 7, 3) := by decide +kernel
theorem dX8_mend_66 : decode cX8_mend 66 = .ok (.iconst 1, 1) := by decide +kernel
theorem dX8_mend_67 : decode cX8_mend 67 = .ok (.goto 4, 3) := by decide +kernel
theorem dX8_mend_70 : decode cX8_mend 70 = .ok (.iconst 2, 1) := by decide +kernel
theorem dX8_mend_71 : decode cX8_mend 71 = .ok (.istore 6, 2) := by decide +kernel
theorem dX8_mend_73 : decode cX8_mend 73 = .ok (.aload_n 0, 1) := by decide +kernel
theorem dX8_mend_74 : decode cX8_mend 74 = .ok (.iload_n 3, 1) := by decide +kernel
theorem dX8_mend_75 : decode cX8_mend 75 = .ok (.iload 6, 2) := by decide +kernel
theorem dX8_mend_77 : decode cX8_mend 77 = .ok (.invokevirtual 94, 3) := by decide +kernel
theorem dX8_mend_80 : decode cX8_mend 80 = .ok (.aload_n 0, 1) := by decide +kernel
theorem dX8_mend_81 : decode cX8_mend 81 = .ok (.iload_n 3, 1) := by decide +kernel
theorem dX8_mend_82 : decode cX8_mend 82 = .ok (.iload 6, 2) := by decide +kernel
theorem dX8_mend_84 : decode cX8_mend 84 = .ok (.invokevirtual 98, 3) := by decide +kernel
theorem dX8_mend_87 : decode cX8_mend 87 = .ok (.istore_n 2, 1) := by decide +kernel
theorem dX8_mend_88 : decode cX8_mend 88 = .ok (.iinc 3 (-1), 3) := by decide +kernel
theorem dX8_mend_91 : decode cX8_mend 91 = .ok (.goto (-82), 3) := by decide +kernel
theorem dX8_mend_94 : decode cX8_mend 94 = .ok (.return_, 1) := by decide +kernel
theorem dX8_spanJust_0 : decode cX8_spanJust 0 = .ok (.aload_n 1, 1) := by decide +kernel
theorem dX8_spanJust_1 : decode cX8_spanJust 1 = .ok (.aload_n 0, 1) := by decide +kernel
theorem dX8_spanJust_2 : decode cX8_spanJust 2 = .ok (.getfield 37, 3) := by decide +kernel
theorem dX8_spanJust_5 : decode cX8_spanJust 5 = .ok (.getfield 41, 3) := by decide +kernel
theorem dX8_spanJust_8 : decode cX8_spanJust 8 = .ok (.invokevirtual 101, 3) := by decide +kernel
theorem dX8_spanJust_11 : decode cX8_spanJust 11 = .ok (.iconst 0, 1) := by decide +kernel
theorem dX8_spanJust_12 : decode cX8_spanJust 12 = .ok (.istore_n 2, 1) := by decide +kernel
theorem dX8_spanJust_13 : decode cX8_spanJust 13 = .ok (.iload_n 2, 1) := by decide +kernel
theorem dX8_spanJust_14 : decode cX8_spanJust 14 = .ok (.aload_n 0, 1) := by decide +kernel
theorem dX8_spanJust_15 : decode cX8_spanJust 15 = .ok (.getfield 37, 3) := by decide +kernel
theorem dX8_spanJust_18 : decode cX8_spanJust 18 = .ok (.getfield 51, 3) := by decide +kernel
theorem dX8_spanJust_21 : decode cX8_spanJust 21 = .ok (.if_icmp .ge 55, 3) := by decide +kernel
theorem dX8_spanJust_24 : decode cX8_spanJust 24 = .ok (.aload_n 0, 1) := by decide +kernel
theorem dX8_spanJust_25 : decode cX8_spanJust 25 = .ok (.getfield 37, 3) := by decide +kernel
theorem dX8_spanJust_28 : decode cX8_spanJust 28 = .ok (.getfield 54, 3) := by decide +kernel
theorem dX8_spanJust_31 : decode cX8_spanJust 31 = .ok (.iload_n 2, 1) := by decide +kernel
theorem dX8_spanJust_32 : decode cX8_spanJust 32 = .ok (.iaload, 1) := by decide +kernel
theorem dX8_spanJust_33 : decode cX8_spanJust 33 = .ok (.istore_n 3, 1) := by decide +kernel
theorem dX8_spanJust_34 : decode cX8_spanJust 34 = .ok (.aload_n 0, 1) := by decide +kernel
theorem dX8_spanJust_35 : decode cX8_spanJust 35 = .ok (.getfield 15, 3) := by decide +kernel
theorem dX8_spanJust_38 : decode cX8_spanJust 38 = .ok (.iload_n 3, 1) := by decide +kernel
theorem dX8_spanJust_39 : decode cX8_spanJust 39 = .ok (.baload, 1) := by decide +kernel
theorem dX8_spanJust_40 : decode cX8_spanJust 40 = .ok (.ifCond .eq 30, 3) := by decide +kernel
theorem dX8_spanJust_43 : decode cX8_spanJust 43 = .ok (.aload_n 1, 1) := by decide +kernel
theorem dX8_spanJust_44 : decode cX8_spanJust 44 = .ok (.aload_n 0, 1) := by decide +kernel
theorem dX8_spanJust_45 : decode cX8_spanJust 45 = .ok (.getfield 37, 3) := by decide +kernel
theorem dX8_spanJust_48 : decode cX8_spanJust 48 = .ok (.getfield 67, 3) := by decide +kernel
theorem dX8_spanJust_51 : decode cX8_spanJust 51 = .ok (.iload_n 3, 1) := by decide +kernel
theorem dX8_spanJust_52 : decode cX8_spanJust 52 = .ok (.iaload, 1) := by decide +kernel
theorem dX8_spanJust_53 : decode cX8_spanJust 53 = .ok (.aload_n 0, 1) := by decide +kernel
theorem dX8_spanJust_54 : decode cX8_spanJust 54 = .ok (.getfield 37, 3) := by decide +kernel
theorem dX8_spanJust_57 : decode cX8_spanJust 57 = .ok (.getfield 70, 3) := by decide +kernel
theorem dX8_spanJust_60 : decode cX8_spanJust 60 = .ok (.iload_n 3, 1) := by decide +kernel
theorem dX8_spanJust_61 : decode cX8_spanJust 61 = .ok (.iaload, 1) := by decide +kernel
theorem dX8_spanJust_62 : decode cX8_spanJust 62 = .ok (.invokevirtual 106, 3) := by decide +kernel
theorem dX8_spanJust_65 : decode cX8_spanJust 65 = .ok (.ifCond .ne 5, 3) := by decide +kernel
theorem dX8_spanJust_68 : decode cX8_spanJust 68 = .ok (.iconst 0, 1) := by decide +kernel
theorem dX8_spanJust_69 : decode cX8_spanJust 69 = .ok (.ireturn, 1) := by decide +kernel
theorem dX8_spanJust_70 : decode cX8_spanJust 70 = .ok (.iinc 2 1, 3) := by decide +kernel
theorem dX8_spanJust_73 : decode cX8_spanJust 73 = .ok (.goto (-60), 3) := by decide +kernel
theorem dX8_spanJust_76 : decode cX8_spanJust 76 = .ok (.iconst 0, 1) := by decide +kernel
theorem dX8_spanJust_77 : decode cX8_spanJust 77 = .ok (.istore_n 2, 1) := by decide +kernel
theorem dX8_spanJust_78 : decode cX8_spanJust 78 = .ok (.iload_n 2, 1) := by decide +kernel
theorem dX8_spanJust_79 : decode cX8_spanJust 79 = .ok (.aload_n 0, 1) := by decide +kernel
theorem dX8_spanJust_80 : decode cX8_spanJust 80 = .ok (.getfield 37, 3) := by decide +kernel
theorem dX8_spanJust_83 : decode cX8_spanJust 83 = .ok (.getfield 51, 3) := by decide +kernel
theorem dX8_spanJust_86 : decode cX8_spanJust 86 = .ok (.if_icmp .ge 46, 3) := by decide +kernel
theorem dX8_spanJust_89 : decode cX8_spanJust 89 = .ok (.aload_n 0, 1) := by decide +kernel
theorem dX8_spanJust_90 : decode cX8_spanJust 90 = .ok (.getfield 37, 3) := by decide +kernel
theorem dX8_spanJust_93 : decode cX8_spanJust 93 = .ok (.getfield 54, 3) := by decide +kernel
theorem dX8_spanJust_96 : decode cX8_spanJust 96 = .ok (.iload_n 2, 1) := by decide +kernel
theorem dX8_spanJust_97 : decode cX8_spanJust 97 = .ok (.iaload, 1) := by decide +kernel
theorem dX8_spanJust_98 : decode cX8_spanJust 98 = .ok (.istore_n 3, 1) := by decide +kernel
theorem dX8_spanJust_99 : decode cX8_spanJust 99 = .ok (.aload_n 1, 1) := by decide +kernel
theorem dX8_spanJust_100 : decode cX8_spanJust 100 = .ok (.aload_n 0, 1) := by decide +kernel
theorem dX8_spanJust_101 : decode cX8_spanJust 101 = .ok (.getfield 37, 3) := by decide +kernel
theorem dX8_spanJust_104 : decode cX8_spanJust 104 = .ok (.getfield 67, 3) := by decide +kernel
theorem dX8_spanJust_107 : decode cX8_spanJust 107 = .ok (.iload_n 3, 1) := by decide +kernel
theorem dX8_spanJust_108 : decode cX8_spanJust 108 = .ok (.iaload, 1) := by decide +kernel
theorem dX8_spanJust_109 : decode cX8_spanJust 109 = .ok (.aload_n 0, 1) := by decide +kernel
theorem dX8_spanJust_110 : decode cX8_spanJust 110 = .ok (.getfield 37, 3) := by decide +kernel
theorem dX8_spanJust_113 : decode cX8_spanJust 113 = .ok (.getfield 70, 3) := by decide +kernel
theorem dX8_spanJust_116 : decode cX8_spanJust 116 = .ok (.iload_n 3, 1) := by decide +kernel
theorem dX8_spanJust_117 : decode cX8_spanJust 117 = .ok (.iaload, 1) := by decide +kernel
theorem dX8_spanJust_118 : decode cX8_spanJust 118 = .ok (.invokevirtual 109, 3) := by decide +kernel
theorem dX8_spanJust_121 : decode cX8_spanJust 121 = .ok (.ifCond .ne 5, 3) := by decide +kernel
theorem dX8_spanJust_124 : decode cX8_spanJust 124 = .ok (.iconst 0, 1) := by decide +kernel
theorem dX8_spanJust_125 : decode cX8_spanJust 125 = .ok (.ireturn, 1) := by decide +kernel
theorem dX8_spanJust_126 : decode cX8_spanJust 126 = .ok (.iinc 2 1, 3) := by decide +kernel
theorem dX8_spanJust_129 : decode cX8_spanJust 129 = .ok (.goto (-51), 3) := by decide +kernel
theorem dX8_spanJust_132 : decode cX8_spanJust 132 = .ok (.iconst 1, 1) := by decide +kernel
theorem dX8_spanJust_133 : decode cX8_spanJust 133 = .ok (.ireturn, 1) := by decide +kernel
theorem dX8_levelsHold_0 : decode cX8_levelsHold 0 = .ok (.aload_n 0, 1) := by decide +kernel
theorem dX8_levelsHold_1 : decode cX8_levelsHold 1 = .ok (.getfield 37, 3) := by decide +kernel
theorem dX8_levelsHold_4 : decode cX8_levelsHold 4 = .ok (.getfield 41, 3) := by decide +kernel
theorem dX8_levelsHold_7 : decode cX8_levelsHold 7 = .ok (.istore_n 2, 1) := by decide +kernel
theorem dX8_levelsHold_8 : decode cX8_levelsHold 8 = .ok (.aload_n 0, 1) := by decide +kernel
theorem dX8_levelsHold_9 : decode cX8_levelsHold 9 = .ok (.invokevirtual 110, 3) := by decide +kernel
theorem dX8_levelsHold_12 : decode cX8_levelsHold 12 = .ok (.istore_n 3, 1) := by decide +kernel
theorem dX8_levelsHold_13 : decode cX8_levelsHold 13 = .ok (.iconst 0, 1) := by decide +kernel
theorem dX8_levelsHold_14 : decode cX8_levelsHold 14 = .ok (.istore 4, 2) := by decide +kernel
theorem dX8_levelsHold_16 : decode cX8_levelsHold 16 = .ok (.iload 4, 2) := by decide +kernel
theorem dX8_levelsHold_18 : decode cX8_levelsHold 18 = .ok (.iload_n 3, 1) := by decide +kernel
theorem dX8_levelsHold_19 : decode cX8_levelsHold 19 = .ok (.if_icmp .gt 26, 3) := by decide +kernel
theorem dX8_levelsHold_22 : decode cX8_levelsHold 22 = .ok (.aload_n 0, 1) := by decide +kernel
theorem dX8_levelsHold_23 : decode cX8_levelsHold 23 = .ok (.aload_n 1, 1) := by decide +kernel
theorem dX8_levelsHold_24 : decode cX8_levelsHold 24 = .ok (.iload 4, 2) := by decide +kernel
theorem dX8_levelsHold_26 : decode cX8_levelsHold 26 = .ok (.invokevirtual 113, 3) := by decide +kernel
theorem dX8_levelsHold_29 : decode cX8_levelsHold 29 = .ok (.iload_n 2, 1) := by decide +kernel
theorem dX8_levelsHold_30 : decode cX8_levelsHold 30 = .ok (.if_icmp .le 5, 3) := by decide +kernel
theorem dX8_levelsHold_33 : decode cX8_levelsHold 33 = .ok (.iconst 0, 1) := by decide +kernel
theorem dX8_levelsHold_34 : decode cX8_levelsHold 34 = .ok (.ireturn, 1) := by decide +kernel
theorem dX8_levelsHold_35 : decode cX8_levelsHold 35 = .ok (.iload_n 2, 1) := by decide +kernel
theorem dX8_levelsHold_36 : decode cX8_levelsHold 36 = .ok (.iconst 2, 1) := by decide +kernel
theorem dX8_levelsHold_37 : decode cX8_levelsHold 37 = .ok (.idiv, 1) := by decide +kernel
theorem dX8_levelsHold_38 : decode cX8_levelsHold 38 = .ok (.istore_n 2, 1) := by decide +kernel
theorem dX8_levelsHold_39 : decode cX8_levelsHold 39 = .ok (.iinc 4 1, 3) := by decide +kernel
theorem dX8_levelsHold_42 : decode cX8_levelsHold 42 = .ok (.goto (-26), 3) := by decide +kernel
theorem dX8_levelsHold_45 : decode cX8_levelsHold 45 = .ok (.iconst 1, 1) := by decide +kernel
theorem dX8_levelsHold_46 : decode cX8_levelsHold 46 = .ok (.ireturn, 1) := by decide +kernel
theorem dX8_greatestTree_0 : decode cX8_greatestTree 0 = .ok (.aload_n 1, 1) := by decide +kernel
theorem dX8_greatestTree_1 : decode cX8_greatestTree 1 = .ok (.aload_n 0, 1) := by decide +kernel
theorem dX8_greatestTree_2 : decode cX8_greatestTree 2 = .ok (.getfield 37, 3) := by decide +kernel
theorem dX8_greatestTree_5 : decode cX8_greatestTree 5 = .ok (.getfield 41, 3) := by decide +kernel
theorem dX8_greatestTree_8 : decode cX8_greatestTree 8 = .ok (.invokevirtual 101, 3) := by decide +kernel
theorem dX8_greatestTree_11 : decode cX8_greatestTree 11 = .ok (.iconst 0, 1) := by decide +kernel
theorem dX8_greatestTree_12 : decode cX8_greatestTree 12 = .ok (.istore_n 3, 1) := by decide +kernel
theorem dX8_greatestTree_13 : decode cX8_greatestTree 13 = .ok (.iload_n 3, 1) := by decide +kernel
theorem dX8_greatestTree_14 : decode cX8_greatestTree 14 = .ok (.aload_n 0, 1) := by decide +kernel
theorem dX8_greatestTree_15 : decode cX8_greatestTree 15 = .ok (.getfield 37, 3) := by decide +kernel
theorem dX8_greatestTree_18 : decode cX8_greatestTree 18 = .ok (.getfield 51, 3) := by decide +kernel
theorem dX8_greatestTree_21 : decode cX8_greatestTree 21 = .ok (.if_icmp .ge 66, 3) := by decide +kernel
theorem dX8_greatestTree_24 : decode cX8_greatestTree 24 = .ok (.aload_n 0, 1) := by decide +kernel
theorem dX8_greatestTree_25 : decode cX8_greatestTree 25 = .ok (.getfield 37, 3) := by decide +kernel
theorem dX8_greatestTree_28 : decode cX8_greatestTree 28 = .ok (.getfield 54, 3) := by decide +kernel
theorem dX8_greatestTree_31 : decode cX8_greatestTree 31 = .ok (.iload_n 3, 1) := by decide +kernel
theorem dX8_greatestTree_32 : decode cX8_greatestTree 32 = .ok (.iaload, 1) := by decide +kernel
theorem dX8_greatestTree_33 : decode cX8_greatestTree 33 = .ok (.istore 4, 2) := by decide +kernel
theorem dX8_greatestTree_35 : decode cX8_greatestTree 35 = .ok (.aload_n 0, 1) := by decide +kernel
theorem dX8_greatestTree_36 : decode cX8_greatestTree 36 = .ok (.getfield 15, 3) := by decide +kernel
theorem dX8_greatestTree_39 : decode cX8_greatestTree 39 = .ok (.iload 4, 2) := by decide +kernel
theorem dX8_greatestTree_41 : decode cX8_greatestTree 41 = .ok (.baload, 1) := by decide +kernel
theorem dX8_greatestTree_42 : decode cX8_greatestTree 42 = .ok (.ifCond .eq 39, 3) := by decide +kernel
theorem dX8_greatestTree_45 : decode cX8_greatestTree 45 = .ok (.aload_n 0, 1) := by decide +kernel
theorem dX8_greatestTree_46 : decode cX8_greatestTree 46 = .ok (.getfield 9, 3) := by decide +kernel
theorem dX8_greatestTree_49 : decode cX8_greatestTree 49 = .ok (.iload 4, 2) := by decide +kernel
theorem dX8_greatestTree_51 : decode cX8_greatestTree 51 = .ok (.iaload, 1) := by decide +kernel
theorem dX8_greatestTree_52 : decode cX8_greatestTree 52 = .ok (.iload_n 2, 1) := by decide +kernel
theorem dX8_greatestTree_53 : decode cX8_greatestTree 53 = .ok (.if_icmp .lt 28, 3) := by decide +kernel
theorem dX8_greatestTree_56 : decode cX8_greatestTree 56 = .ok (.aload_n 1, 1) := by decide +kernel
theorem dX8_greatestTree_57 : decode cX8_greatestTree 57 = .ok (.aload_n 0, 1) := by decide +kernel
theorem dX8_greatestTree_58 : decode cX8_greatestTree 58 = .ok (.getfield 37, 3) := by decide +kernel
theorem dX8_greatestTree_61 : decode cX8_greatestTree 61 = .ok (.getfield 67, 3) := by decide +kernel
theorem dX8_greatestTree_64 : decode cX8_greatestTree 64 = .ok (.iload 4, 2) := by decide +kernel
theorem dX8_greatestTree_66 : decode cX8_greatestTree 66 = .ok (.iaload, 1) := by decide +kernel
theorem dX8_greatestTree_67 : decode cX8_greatestTree 67 = .ok (.aload_n 0, 1) := by decide +kernel
theorem dX8_greatestTree_68 : decode cX8_greatestTree 68 = .ok (.getfield 37, 3) := by decide +kernel
theorem dX8_greatestTree_71 : decode cX8_greatestTree 71 = .ok (.getfield 70, 3) := by decide +kernel
theorem dX8_greatestTree_74 : decode cX8_greatestTree 74 = .ok (.iload 4, 2) := by decide +kernel
theorem dX8_greatestTree_76 : decode cX8_greatestTree 76 = .ok (.iaload, 1) := by decide +kernel
theorem dX8_greatestTree_77 : decode cX8_greatestTree 77 = .ok (.invokevirtual 106, 3) := by decide +kernel
theorem dX8_greatestTree_80 : decode cX8_greatestTree 80 = .ok (.pop, 1) := by decide +kernel
theorem dX8_greatestTree_81 : decode cX8_greatestTree 81 = .ok (.iinc 3 1, 3) := by decide +kernel
theorem dX8_greatestTree_84 : decode cX8_greatestTree 84 = .ok (.goto (-71), 3) := by decide +kernel
theorem dX8_greatestTree_87 : decode cX8_greatestTree 87 = .ok (.aload_n 1, 1) := by decide +kernel
theorem dX8_greatestTree_88 : decode cX8_greatestTree 88 = .ok (.getfield 117, 3) := by decide +kernel
theorem dX8_greatestTree_91 : decode cX8_greatestTree 91 = .ok (.ireturn, 1) := by decide +kernel
theorem dX8_gather_0 : decode cX8_gather 0 = .ok (.aload_n 0, 1) := by decide +kernel
theorem dX8_gather_1 : decode cX8_gather 1 = .ok (.getfield 34, 3) := by decide +kernel
theorem dX8_gather_4 : decode cX8_gather 4 = .ok (.iload_n 1, 1) := by decide +kernel
theorem dX8_gather_5 : decode cX8_gather 5 = .ok (.iload_n 3, 1) := by decide +kernel
theorem dX8_gather_6 : decode cX8_gather 6 = .ok (.iastore, 1) := by decide +kernel
theorem dX8_gather_7 : decode cX8_gather 7 = .ok (.aload_n 0, 1) := by decide +kernel
theorem dX8_gather_8 : decode cX8_gather 8 = .ok (.getfield 31, 3) := by decide +kernel
theorem dX8_gather_11 : decode cX8_gather 11 = .ok (.iconst 0, 1) := by decide +kernel
theorem dX8_gather_12 : decode cX8_gather 12 = .ok (.iload_n 1, 1) := by decide +kernel
theorem dX8_gather_13 : decode cX8_gather 13 = .ok (.iastore, 1) := by decide +kernel
theorem dX8_gather_14 : decode cX8_gather 14 = .ok (.iconst 1, 1) := by decide +kernel
theorem dX8_gather_15 : decode cX8_gather 15 = .ok (.istore 4, 2) := by decide +kernel
theorem dX8_gather_17 : decode cX8_gather 17 = .ok (.iconst 0, 1) := by decide +kernel
theorem dX8_gather_18 : decode cX8_gather 18 = .ok (.istore 5, 2) := by decide +kernel
theorem dX8_gather_20 : decode cX8_gather 20 = .ok (.iload 5, 2) := by decide +kernel
theorem dX8_gather_22 : decode cX8_gather 22 = .ok (.sipush 300, 3) := by decide +kernel
theorem dX8_gather_25 : decode cX8_gather 25 = .ok (.if_icmp .ge 130, 3) := by decide +kernel
theorem dX8_gather_28 : decode cX8_gather 28 = .ok (.iload 5, 2) := by decide +kernel
theorem dX8_gather_30 : decode cX8_gather 30 = .ok (.iload 4, 2) := by decide +kernel
theorem dX8_gather_32 : decode cX8_gather 32 = .ok (.if_icmp .ge 123, 3) := by decide +kernel
theorem dX8_gather_35 : decode cX8_gather 35 = .ok (.aload_n 0, 1) := by decide +kernel
theorem dX8_gather_36 : decode cX8_gather 36 = .ok (.getfield 31, 3) := by decide +kernel
theorem dX8_gather_39 : decode cX8_gather 39 = .ok (.iload 5, 2) := by decide +kernel
theorem dX8_gather_41 : decode cX8_gather 41 = .ok (.iaload, 1) := by decide +kernel
theorem dX8_gather_42 : decode cX8_gather 42 = .ok (.istore 6, 2) := by decide +kernel
theorem dX8_gather_44 : decode cX8_gather 44 = .ok (.aload_n 0, 1) := by decide +kernel
theorem dX8_gather_45 : decode cX8_gather 45 = .ok (.getfield 37, 3) := by decide +kernel
theorem dX8_gather_48 : decode cX8_gather 48 = .ok (.iload 6, 2) := by decide +kernel
theorem dX8_gather_50 : decode cX8_gather 50 = .ok (.invokevirtual 120, 3) := by decide +kernel
theorem dX8_gather_53 : decode cX8_gather 53 = .ok (.istore 7, 2) := by decide +kernel
theorem dX8_gather_55 : decode cX8_gather 55 = .ok (.iconst 0, 1) := by decide +kernel
theorem dX8_gather_56 : decode cX8_gather 56 = .ok (.istore 8, 2) := by decide +kernel
theorem dX8_gather_58 : decode cX8_gather 58 = .ok (.iload 8, 2) := by decide +kernel
theorem dX8_gather_60 : decode cX8_gather 60 = .ok (.iload 7, 2) := by decide +kernel
theorem dX8_gather_62 : decode cX8_gather 62 = .ok (.if_icmp .ge 87, 3) := by decide +kernel
theorem dX8_gather_65 : decode cX8_gather 65 = .ok (.aload_n 0, 1) := by decide +kernel
theorem dX8_gather_66 : decode cX8_gather 66 = .ok (.getfield 37, 3) := by decide +kernel
theorem dX8_gather_69 : decode cX8_gather 69 = .ok (.iload 6, 2) := by decide +kernel
theorem dX8_gather_71 : decode cX8_gather 71 = .ok (.iload 8, 2) := by decide +kernel
theorem dX8_gather_73 : decode cX8_gather 73 = .ok (.invokevirtual 124, 3) := by decide +kernel
theorem dX8_gather_76 : decode cX8_gather 76 = .ok (.istore 9, 2) := by decide +kernel
theorem dX8_gather_78 : decode cX8_gather 78 = .ok (.aload_n 0, 1) := by decide +kernel
theorem dX8_gather_79 : decode cX8_gather 79 = .ok (.getfield 37, 3) := by decide +kernel
theorem dX8_gather_82 : decode cX8_gather 82 = .ok (.iload 9, 2) := by decide +kernel
theorem dX8_gather_84 : decode cX8_gather 84 = .ok (.iload 6, 2) := by decide +kernel
theorem dX8_gather_86 : decode cX8_gather 86 = .ok (.invokevirtual 127, 3) := by decide +kernel
theorem dX8_gather_89 : decode cX8_gather 89 = .ok (.istore 10, 2) := by decide +kernel
theorem dX8_gather_91 : decode cX8_gather 91 = .ok (.aload_n 0, 1) := by decide +kernel
theorem dX8_gather_92 : decode cX8_gather 92 = .ok (.getfield 15, 3) := by decide +kernel
theorem dX8_gather_95 : decode cX8_gather 95 = .ok (.iload 9, 2) := by decide +kernel
theorem dX8_gather_97 : decode cX8_gather 97 = .ok (.baload, 1) := by decide +kernel
theorem dX8_gather_98 : decode cX8_gather 98 = .ok (.ifCond .eq 45, 3) := by decide +kernel
theorem dX8_gather_101 : decode cX8_gather 101 = .ok (.aload_n 0, 1) := by decide +kernel
theorem dX8_gather_102 : decode cX8_gather 102 = .ok (.getfield 9, 3) := by decide +kernel
theorem dX8_gather_105 : decode cX8_gather 105 = .ok (.iload 9, 2) := by decide +kernel
theorem dX8_gather_107 : decode cX8_gather 107 = .ok (.iaload, 1) := by decide +kernel
theorem dX8_gather_108 : decode cX8_gather 108 = .ok (.iload_n 2, 1) := by decide +kernel
theorem dX8_gather_109 : decode cX8_gather 109 = .ok (.if_icmp .lt 34, 3) := by decide +kernel
theorem dX8_gather_112 : decode cX8_gather 112 = .ok (.aload_n 0, 1) := by decide +kernel
theorem dX8_gather_113 : decode cX8_gather 113 = .ok (.getfield 34, 3) := by decide +kernel
theorem dX8_gather_116 : decode cX8_gather 116 = .ok (.iload 10, 2) := by decide +kernel
theorem dX8_gather_118 : decode cX8_gather 118 = .ok (.iaload, 1) := by decide +kernel
theorem dX8_gather_119 : decode cX8_gather 119 = .ok (.iload_n 3, 1) := by decide +kernel
theorem dX8_gather_120 : decode cX8_gather 120 = .ok (.if_icmp .eq 23, 3) := by decide +kernel
theorem dX8_gather_123 : decode cX8_gather 123 = .ok (.aload_n 0, 1) := by decide +kernel
theorem dX8_gather_124 : decode cX8_gather 124 = .ok (.getfield 34, 3) := by decide +kernel
theorem dX8_gather_127 : decode cX8_gather 127 = .ok (.iload 10, 2) := by decide +kernel
theorem dX8_gather_129 : decode cX8_gather 129 = .ok (.iload_n 3, 1) := by decide +kernel
theorem dX8_gather_130 : decode cX8_gather 130 = .ok (.iastore, 1) := by decide +kernel
theorem dX8_gather_131 : decode cX8_gather 131 = .ok (.aload_n 0, 1) := by decide +kernel
theorem dX8_gather_132 : decode cX8_gather 132 = .ok (.getfield 31, 3) := by decide +kernel
theorem dX8_gather_135 : decode cX8_gather 135 = .ok (.iload 4, 2) := by decide +kernel
theorem dX8_gather_137 : decode cX8_gather 137 = .ok (.iload 10, 2) := by decide +kernel
theorem dX8_gather_139 : decode cX8_gather 139 = .ok (.iastore, 1) := by decide +kernel
theorem dX8_gather_140 : decode cX8_gather 140 = .ok (.iinc 4 1, 3) := by decide +kernel
theorem dX8_gather_143 : decode cX8_gather 143 = .ok (.iinc 8 1, 3) := by decide +kernel
theorem dX8_gather_146 : decode cX8_gather 146 = .ok (.goto (-88), 3) := by decide +kernel
theorem dX8_gather_149 : decode cX8_gather 149 = .ok (.iinc 5 1, 3) := by decide +kernel
theorem dX8_gather_152 : decode cX8_gather 152 = .ok (.goto (-132), 3) := by decide +kernel
theorem dX8_gather_155 : decode cX8_gather 155 = .ok (.iload 4, 2) := by decide +kernel
theorem dX8_gather_157 : decode cX8_gather 157 = .ok (.ireturn, 1) := by decide +kernel
theorem dX8_raiseTree_0 : decode cX8_raiseTree 0 = .ok (.iconst 0, 1) := by decide +kernel
theorem dX8_raiseTree_1 : decode cX8_raiseTree 1 = .ok (.istore_n 3, 1) := by decide +kernel
theorem dX8_raiseTree_2 : decode cX8_raiseTree 2 = .ok (.iload_n 3, 1) := by decide +kernel
theorem dX8_raiseTree_3 : decode cX8_raiseTree 3 = .ok (.aload_n 0, 1) := by decide +kernel
theorem dX8_raiseTree_4 : decode cX8_raiseTree 4 = .ok (.getfield 37, 3) := by decide +kernel
theorem dX8_raiseTree_7 : decode cX8_raiseTree 7 = .ok (.getfield 51, 3) := by decide +kernel
theorem dX8_raiseTree_10 : decode cX8_raiseTree 10 = .ok (.if_icmp .ge 90, 3) := by decide +kernel
theorem dX8_raiseTree_13 : decode cX8_raiseTree 13 = .ok (.aload_n 0, 1) := by decide +kernel
theorem dX8_raiseTree_14 : decode cX8_raiseTree 14 = .ok (.getfield 37, 3) := by decide +kernel
theorem dX8_raiseTree_17 : decode cX8_raiseTree 17 = .ok (.getfield 54, 3) := by decide +kernel
theorem dX8_raiseTree_20 : decode cX8_raiseTree 20 = .ok (.iload_n 3, 1) := by decide +kernel
theorem dX8_raiseTree_21 : decode cX8_raiseTree 21 = .ok (.iaload, 1) := by decide +kernel
theorem dX8_raiseTree_22 : decode cX8_raiseTree 22 = .ok (.istore 4, 2) := by decide +kernel
theorem dX8_raiseTree_24 : decode cX8_raiseTree 24 = .ok (.aload_n 0, 1) := by decide +kernel
theorem dX8_raiseTree_25 : decode cX8_raiseTree 25 = .ok (.getfield 15, 3) := by decide +kernel
theorem dX8_raiseTree_28 : decode cX8_raiseTree 28 = .ok (.iload 4, 2) := by decide +kernel
theorem dX8_raiseTree_30 : decode cX8_raiseTree 30 = .ok (.baload, 1) := by decide +kernel
theorem dX8_raiseTree_31 : decode cX8_raiseTree 31 = .ok (.ifCond .eq 63, 3) := by decide +kernel
theorem dX8_raiseTree_34 : decode cX8_raiseTree 34 = .ok (.aload_n 0, 1) := by decide +kernel
theorem dX8_raiseTree_35 : decode cX8_raiseTree 35 = .ok (.getfield 9, 3) := by decide +kernel
theorem dX8_raiseTree_38 : decode cX8_raiseTree 38 = .ok (.iload 4, 2) := by decide +kernel
theorem dX8_raiseTree_40 : decode cX8_raiseTree 40 = .ok (.iaload, 1) := by decide +kernel
theorem dX8_raiseTree_41 : decode cX8_raiseTree 41 = .ok (.iload_n 1, 1) := by decide +kernel
theorem dX8_raiseTree_42 : decode cX8_raiseTree 42 = .ok (.if_icmp .ne 52, 3) := by decide +kernel
theorem dX8_raiseTree_45 : decode cX8_raiseTree 45 = .ok (.aload_n 0, 1) := by decide +kernel
theorem dX8_raiseTree_46 : decode cX8_raiseTree 46 = .ok (.getfield 34, 3) := by decide +kernel
theorem dX8_raiseTree_49 : decode cX8_raiseTree 49 = .ok (.aload_n 0, 1) := by decide +kernel
theorem dX8_raiseTree_50 : decode cX8_raiseTree 50 = .ok (.getfield 37, 3) := by decide +kernel
theorem dX8_raiseTree_53 : decode cX8_raiseTree 53 = .ok (.getfield 67, 3) := by decide +kernel
theorem dX8_raiseTree_56 : decode cX8_raiseTree 56 = .ok (.iload 4, 2) := by decide +kernel
theorem dX8_raiseTree_58 : decode cX8_raiseTree 58 = .ok (.iaload, 1) := by decide +kernel
theorem dX8_raiseTree_59 : decode cX8_raiseTree 59 = .ok (.iaload, 1) := by decide +kernel
theorem dX8_raiseTree_60 : decode cX8_raiseTree 60 = .ok (.iload_n 2, 1) := by decide +kernel
theorem dX8_raiseTree_61 : decode cX8_raiseTree 61 = .ok (.if_icmp .ne 33, 3) := by decide +kernel
theorem dX8_raiseTree_64 : decode cX8_raiseTree 64 = .ok (.aload_n 0, 1) := by decide +kernel
theorem dX8_raiseTree_65 : decode cX8_raiseTree 65 = .ok (.getfield 34, 3) := by decide +kernel
theorem dX8_raiseTree_68 : decode cX8_raiseTree 68 = .ok (.aload_n 0, 1) := by decide +kernel
theorem dX8_raiseTree_69 : decode cX8_raiseTree 69 = .ok (.getfield 37, 3) := by decide +kernel
theorem dX8_raiseTree_72 : decode cX8_raiseTree 72 = .ok (.getfield 70, 3) := by decide +kernel
theorem dX8_raiseTree_75 : decode cX8_raiseTree 75 = .ok (.iload 4, 2) := by decide +kernel
theorem dX8_raiseTree_77 : decode cX8_raiseTree 77 = .ok (.iaload, 1) := by decide +kernel
theorem dX8_raiseTree_78 : decode cX8_raiseTree 78 = .ok (.iaload, 1) := by decide +kernel
theorem dX8_raiseTree_79 : decode cX8_raiseTree 79 = .ok (.iload_n 2, 1) := by decide +kernel
theorem dX8_raiseTree_80 : decode cX8_raiseTree 80 = .ok (.if_icmp .ne 14, 3) := by decide +kernel
theorem dX8_raiseTree_83 : decode cX8_raiseTree 83 = .ok (.aload_n 0, 1) := by decide +kernel
theorem dX8_raiseTree_84 : decode cX8_raiseTree 84 = .ok (.getfield 9, 3) := by decide +kernel
theorem dX8_raiseTree_87 : decode cX8_raiseTree 87 = .ok (.iload 4, 2) := by decide +kernel
theorem dX8_raiseTree_89 : decode cX8_raiseTree 89 = .ok (.dup2, 1) := by decide +kernel
theorem dX8_raiseTree_90 : decode cX8_raiseTree 90 = .ok (.iaload, 1) := by decide +kernel
theorem dX8_raiseTree_91 : decode cX8_raiseTree 91 = .ok (.iconst 1, 1) := by decide +kernel
theorem dX8_raiseTree_92 : decode cX8_raiseTree 92 = .ok (.iadd, 1) := by decide +kernel
theorem dX8_raiseTree_93 : decode cX8_raiseTree 93 = .ok (.iastore, 1) := by decide +kernel
theorem dX8_raiseTree_94 : decode cX8_raiseTree 94 = .ok (.iinc 3 1, 3) := by decide +kernel
theorem dX8_raiseTree_97 : decode cX8_raiseTree 97 = .ok (.goto (-95), 3) := by decide +kernel
theorem dX8_raiseTree_100 : decode cX8_raiseTree 100 = .ok (.return_, 1) := by decide +kernel
theorem dX8_replace_0 : decode cX8_replace 0 = .ok (.iconst 3, 1) := by decide +kernel
theorem dX8_replace_1 : decode cX8_replace 1 = .ok (.istore_n 3, 1) := by decide +kernel
theorem dX8_replace_2 : decode cX8_replace 2 = .ok (.iconst 0, 1) := by decide +kernel
theorem dX8_replace_3 : decode cX8_replace 3 = .ok (.istore 4, 2) := by decide +kernel
theorem dX8_replace_5 : decode cX8_replace 5 = .ok (.iload 4, 2) := by decide +kernel
theorem dX8_replace_7 : decode cX8_replace 7 = .ok (.aload_n 0, 1) := by decide +kernel
theorem dX8_replace_8 : decode cX8_replace 8 = .ok (.getfield 37, 3) := by decide +kernel
theorem dX8_replace_11 : decode cX8_replace 11 = .ok (.getfield 51, 3) := by decide +kernel
theorem dX8_replace_14 : decode cX8_replace 14 = .ok (.if_icmp .ge 118, 3) := by decide +kernel
theorem dX8_replace_17 : decode cX8_replace 17 = .ok (.aload_n 0, 1) := by decide +kernel
theorem dX8_replace_18 : decode cX8_replace 18 = .ok (.getfield 37, 3) := by decide +kernel
theorem dX8_replace_21 : decode cX8_replace 21 = .ok (.getfield 54, 3) := by decide +kernel
theorem dX8_replace_24 : decode cX8_replace 24 = .ok (.iload 4, 2) := by decide +kernel
theorem dX8_replace_26 : decode cX8_replace 26 = .ok (.iaload, 1) := by decide +kernel
theorem dX8_replace_27 : decode cX8_replace 27 = .ok (.istore 5, 2) := by decide +kernel
theorem dX8_replace_29 : decode cX8_replace 29 = .ok (.aload_n 0, 1) := by decide +kernel
theorem dX8_replace_30 : decode cX8_replace 30 = .ok (.getfield 34, 3) := by decide +kernel
theorem dX8_replace_33 : decode cX8_replace 33 = .ok (.aload_n 0, 1) := by decide +kernel
theorem dX8_replace_34 : decode cX8_replace 34 = .ok (.getfield 37, 3) := by decide +kernel
theorem dX8_replace_37 : decode cX8_replace 37 = .ok (.getfield 67, 3) := by decide +kernel
theorem dX8_replace_40 : decode cX8_replace 40 = .ok (.iload 5, 2) := by decide +kernel
theorem dX8_replace_42 : decode cX8_replace 42 = .ok (.iaload, 1) := by decide +kernel
theorem dX8_replace_43 : decode cX8_replace 43 = .ok (.iaload, 1) := by decide +kernel
theorem dX8_replace_44 : decode cX8_replace 44 = .ok (.istore 6, 2) := by decide +kernel
theorem dX8_replace_46 : decode cX8_replace 46 = .ok (.aload_n 0, 1) := by decide +kernel
theorem dX8_replace_47 : decode cX8_replace 47 = .ok (.getfield 34, 3) := by decide +kernel
theorem dX8_replace_50 : decode cX8_replace 50 = .ok (.aload_n 0, 1) := by decide +kernel
theorem dX8_replace_51 : decode cX8_replace 51 = .ok (.getfield 37, 3) := by decide +kernel
theorem dX8_replace_54 : decode cX8_replace 54 = .ok (.getfield 70, 3) := by decide +kernel
theorem dX8_replace_57 : decode cX8_replace 57 = .ok (.iload 5, 2) := by decide +kernel
theorem dX8_replace_59 : decode cX8_replace 59 = .ok (.iaload, 1) := by decide +kernel
theorem dX8_replace_60 : decode cX8_replace 60 = .ok (.iaload, 1) := by decide +kernel
theorem dX8_replace_61 : decode cX8_replace 61 = .ok (.istore 7, 2) := by decide +kernel
theorem dX8_replace_63 : decode cX8_replace 63 = .ok (.aload_n 0, 1) := by decide +kernel
theorem dX8_replace_64 : decode cX8_replace 64 = .ok (.getfield 15, 3) := by decide +kernel
theorem dX8_replace_67 : decode cX8_replace 67 = .ok (.iload 5, 2) := by decide +kernel
theorem dX8_replace_69 : decode cX8_replace 69 = .ok (.baload, 1) := by decide +kernel
theorem dX8_replace_70 : decode cX8_replace 70 = .ok (.ifCond .ne 56, 3) := by decide +kernel
theorem dX8_replace_73 : decode cX8_replace 73 = .ok (.aload_n 0, 1) := by decide +kernel
theorem dX8_replace_74 : decode cX8_replace 74 = .ok (.getfield 9, 3) := by decide +kernel
theorem dX8_replace_77 : decode cX8_replace 77 = .ok (.iload 5, 2) := by decide +kernel
theorem dX8_replace_79 : decode cX8_replace 79 = .ok (.iaload, 1) := by decide +kernel
theorem dX8_replace_80 : decode cX8_replace 80 = .ok (.iload_n 1, 1) := by decide +kernel
theorem dX8_replace_81 : decode cX8_replace 81 = .ok (.if_icmp .ne 45, 3) := by decide +kernel
theorem dX8_replace_84 : decode cX8_replace 84 = .ok (.iload 6, 2) := by decide +kernel
theorem dX8_replace_86 : decode cX8_replace 86 = .ok (.iload_n 2, 1) := by decide +kernel
theorem dX8_replace_87 : decode cX8_replace 87 = .ok (.if_icmp .eq 9, 3) := by decide +kernel
theorem dX8_replace_90 : decode cX8_replace 90 = .ok (.iload 7, 2) := by decide +kernel
theorem dX8_replace_92 : decode cX8_replace 92 = .ok (.iload_n 2, 1) := by decide +kernel
theorem dX8_replace_93 : decode cX8_replace 93 = .ok (.if_icmp .ne 33, 3) := by decide +kernel
theorem dX8_replace_96 : decode cX8_replace 96 = .ok (.iload 6, 2) := by decide +kernel
theorem dX8_replace_98 : decode cX8_replace 98 = .ok (.iload 7, 2) := by decide +kernel
theorem dX8_replace_100 : decode cX8_replace 100 = .ok (.iadd, 1) := by decide +kernel
theorem dX8_replace_101 : decode cX8_replace 101 = .ok (.iload_n 3, 1) := by decide +kernel
theorem dX8_replace_102 : decode cX8_replace 102 = .ok (.if_icmp .ne 13, 3) := by decide +kernel
theorem dX8_replace_105 : decode cX8_replace 105 = .ok (.aload_n 0, 1) := by decide +kernel
theorem dX8_replace_106 : decode cX8_replace 106 = .ok (.getfield 15, 3) := by decide +kernel
theorem dX8_replace_109 : decode cX8_replace 109 = .ok (.iload 5, 2) := by decide +kernel
theorem dX8_replace_111 : decode cX8_replace 111 = .ok (.iconst 1, 1) := by decide +kernel
theorem dX8_replace_112 : decode cX8_replace 112 = .ok (.bastore, 1) := by decide +kernel
theorem dX8_replace_113 : decode cX8_replace 113 = .ok (.iconst 1, 1) := by decide +kernel
theorem dX8_replace_114 : decode cX8_replace 114 = .ok (.ireturn, 1) := by decide +kernel
theorem dX8_replace_115 : decode cX8_replace 115 = .ok (.aload_n 0, 1) := by decide +kernel
theorem dX8_replace_116 : decode cX8_replace 116 = .ok (.getfield 9, 3) := by decide +kernel
theorem dX8_replace_119 : decode cX8_replace 119 = .ok (.iload 5, 2) := by decide +kernel
theorem dX8_replace_121 : decode cX8_replace 121 = .ok (.dup2, 1) := by decide +kernel
theorem dX8_replace_122 : decode cX8_replace 122 = .ok (.iaload, 1) := by decide +kernel
theorem dX8_replace_123 : decode cX8_replace 123 = .ok (.iconst 1, 1) := by decide +kernel
theorem dX8_replace_124 : decode cX8_replace 124 = .ok (.iadd, 1) := by decide +kernel
theorem dX8_replace_125 : decode cX8_replace 125 = .ok (.iastore, 1) := by decide +kernel
theorem dX8_replace_126 : decode cX8_replace 126 = .ok (.iinc 4 1, 3) := by decide +kernel
theorem dX8_replace_129 : decode cX8_replace 129 = .ok (.goto (-124), 3) := by decide +kernel
theorem dX8_replace_132 : decode cX8_replace 132 = .ok (.iconst 0, 1) := by decide +kernel
theorem dX8_replace_133 : decode cX8_replace 133 = .ok (.ireturn, 1) := by decide +kernel
theorem dX8_hangAll_0 : decode cX8_hangAll 0 = .ok (.aload_n 0, 1) := by decide +kernel
theorem dX8_hangAll_1 : decode cX8_hangAll 1 = .ok (.getfield 19, 3) := by decide +kernel
theorem dX8_hangAll_4 : decode cX8_hangAll 4 = .ok (.iconst (-1), 1) := by decide +kernel
theorem dX8_hangAll_5 : decode cX8_hangAll 5 = .ok (.invokestatic 84, 3) := by decide +kernel
theorem dX8_hangAll_8 : decode cX8_hangAll 8 = .ok (.iconst 0, 1) := by decide +kernel
theorem dX8_hangAll_9 : decode cX8_hangAll 9 = .ok (.istore_n 1, 1) := by decide +kernel
theorem dX8_hangAll_10 : decode cX8_hangAll 10 = .ok (.iload_n 1, 1) := by decide +kernel
theorem dX8_hangAll_11 : decode cX8_hangAll 11 = .ok (.aload_n 0, 1) := by decide +kernel
theorem dX8_hangAll_12 : decode cX8_hangAll 12 = .ok (.getfield 37, 3) := by decide +kernel
theorem dX8_hangAll_15 : decode cX8_hangAll 15 = .ok (.getfield 41, 3) := by decide +kernel
theorem dX8_hangAll_18 : decode cX8_hangAll 18 = .ok (.if_icmp .ge 28, 3) := by decide +kernel
theorem dX8_hangAll_21 : decode cX8_hangAll 21 = .ok (.aload_n 0, 1) := by decide +kernel
theorem dX8_hangAll_22 : decode cX8_hangAll 22 = .ok (.getfield 19, 3) := by decide +kernel
theorem dX8_hangAll_25 : decode cX8_hangAll 25 = .ok (.iload_n 1, 1) := by decide +kernel
theorem dX8_hangAll_26 : decode cX8_hangAll 26 = .ok (.iaload, 1) := by decide +kernel
theorem dX8_hangAll_27 : decode cX8_hangAll 27 = .ok (.iconst (-1), 1) := by decide +kernel
theorem dX8_hangAll_28 : decode cX8_hangAll 28 = .ok (.if_icmp .ne 12, 3) := by decide +kernel
theorem dX8_hangAll_31 : decode cX8_hangAll 31 = .ok (.aload_n 0, 1) := by decide +kernel
theorem dX8_hangAll_32 : decode cX8_hangAll 32 = .ok (.iload_n 1, 1) := by decide +kernel
theorem dX8_hangAll_33 : decode cX8_hangAll 33 = .ok (.iconst (-1), 1) := by decide +kernel
theorem dX8_hangAll_34 : decode cX8_hangAll 34 = .ok (.iconst (-1), 1) := by decide +kernel
theorem dX8_hangAll_35 : decode cX8_hangAll 35 = .ok (.iload_n 1, 1) := by decide +kernel
theorem dX8_hangAll_36 : decode cX8_hangAll 36 = .ok (.iconst 0, 1) := by decide +kernel
theorem dX8_hangAll_37 : decode cX8_hangAll 37 = .ok (.invokevirtual 63, 3) := by decide +kernel
theorem dX8_hangAll_40 : decode cX8_hangAll 40 = .ok (.iinc 1 1, 3) := by decide +kernel
theorem dX8_hangAll_43 : decode cX8_hangAll 43 = .ok (.goto (-33), 3) := by decide +kernel
theorem dX8_hangAll_46 : decode cX8_hangAll 46 = .ok (.return_, 1) := by decide +kernel
theorem dX8_hang_0 : decode cX8_hang 0 = .ok (.aload_n 0, 1) := by decide +kernel
theorem dX8_hang_1 : decode cX8_hang 1 = .ok (.iload_n 1, 1) := by decide +kernel
theorem dX8_hang_2 : decode cX8_hang 2 = .ok (.iload_n 2, 1) := by decide +kernel
theorem dX8_hang_3 : decode cX8_hang 3 = .ok (.iload_n 3, 1) := by decide +kernel
theorem dX8_hang_4 : decode cX8_hang 4 = .ok (.iload 4, 2) := by decide +kernel
theorem dX8_hang_6 : decode cX8_hang 6 = .ok (.iload 5, 2) := by decide +kernel
theorem dX8_hang_8 : decode cX8_hang 8 = .ok (.invokevirtual 130, 3) := by decide +kernel
theorem dX8_hang_11 : decode cX8_hang 11 = .ok (.aload_n 0, 1) := by decide +kernel
theorem dX8_hang_12 : decode cX8_hang 12 = .ok (.getfield 31, 3) := by decide +kernel
theorem dX8_hang_15 : decode cX8_hang 15 = .ok (.iconst 0, 1) := by decide +kernel
theorem dX8_hang_16 : decode cX8_hang 16 = .ok (.iload_n 1, 1) := by decide +kernel
theorem dX8_hang_17 : decode cX8_hang 17 = .ok (.iastore, 1) := by decide +kernel
theorem dX8_hang_18 : decode cX8_hang 18 = .ok (.iconst 1, 1) := by decide +kernel
theorem dX8_hang_19 : decode cX8_hang 19 = .ok (.istore 6, 2) := by decide +kernel
theorem dX8_hang_21 : decode cX8_hang 21 = .ok (.iconst 0, 1) := by decide +kernel
theorem dX8_hang_22 : decode cX8_hang 22 = .ok (.istore 7, 2) := by decide +kernel
theorem dX8_hang_24 : decode cX8_hang 24 = .ok (.iload 7, 2) := by decide +kernel
theorem dX8_hang_26 : decode cX8_hang 26 = .ok (.sipush 300, 3) := by decide +kernel
theorem dX8_hang_29 : decode cX8_hang 29 = .ok (.if_icmp .ge 133, 3) := by decide +kernel
theorem dX8_hang_32 : decode cX8_hang 32 = .ok (.iload 7, 2) := by decide +kernel
theorem dX8_hang_34 : decode cX8_hang 34 = .ok (.iload 6, 2) := by decide +kernel
theorem dX8_hang_36 : decode cX8_hang 36 = .ok (.if_icmp .ge 126, 3) := by decide +kernel
theorem dX8_hang_39 : decode cX8_hang 39 = .ok (.aload_n 0, 1) := by decide +kernel
theorem dX8_hang_40 : decode cX8_hang 40 = .ok (.getfield 31, 3) := by decide +kernel
theorem dX8_hang_43 : decode cX8_hang 43 = .ok (.iload 7, 2) := by decide +kernel
theorem dX8_hang_45 : decode cX8_hang 45 = .ok (.iaload, 1) := by decide +kernel
theorem dX8_hang_46 : decode cX8_hang 46 = .ok (.istore 8, 2) := by decide +kernel
theorem dX8_hang_48 : decode cX8_hang 48 = .ok (.aload_n 0, 1) := by decide +kernel
theorem dX8_hang_49 : decode cX8_hang 49 = .ok (.getfield 37, 3) := by decide +kernel
theorem dX8_hang_52 : decode cX8_hang 52 = .ok (.iload 8, 2) := by decide +kernel
theorem dX8_hang_54 : decode cX8_hang 54 = .ok (.invokevirtual 120, 3) := by decide +kernel
theorem dX8_hang_57 : decode cX8_hang 57 = .ok (.istore 9, 2) := by decide +kernel
theorem dX8_hang_59 : decode cX8_hang 59 = .ok (.iconst 0, 1) := by decide +kernel
theorem dX8_hang_60 : decode cX8_hang 60 = .ok (.istore 10, 2) := by decide +kernel
theorem dX8_hang_62 : decode cX8_hang 62 = .ok (.iload 10, 2) := by decide +kernel
theorem dX8_hang_64 : decode cX8_hang 64 = .ok (.iload 9, 2) := by decide +kernel
theorem dX8_hang_66 : decode cX8_hang 66 = .ok (.if_icmp .ge 90, 3) := by decide +kernel
theorem dX8_hang_69 : decode cX8_hang 69 = .ok (.aload_n 0, 1) := by decide +kernel
theorem dX8_hang_70 : decode cX8_hang 70 = .ok (.getfield 37, 3) := by decide +kernel
theorem dX8_hang_73 : decode cX8_hang 73 = .ok (.iload 8, 2) := by decide +kernel
theorem dX8_hang_75 : decode cX8_hang 75 = .ok (.iload 10, 2) := by decide +kernel
theorem dX8_hang_77 : decode cX8_hang 77 = .ok (.invokevirtual 124, 3) := by decide +kernel
theorem dX8_hang_80 : decode cX8_hang 80 = .ok (.istore 11, 2) := by decide +kernel
theorem dX8_hang_82 : decode cX8_hang 82 = .ok (.aload_n 0, 1) := by decide +kernel
theorem dX8_hang_83 : decode cX8_hang 83 = .ok (.getfield 37, 3) := by decide +kernel
theorem dX8_hang_86 : decode cX8_hang 86 = .ok (.iload 11, 2) := by decide +kernel
theorem dX8_hang_88 : decode cX8_hang 88 = .ok (.iload 8, 2) := by decide +kernel
theorem dX8_hang_90 : decode cX8_hang 90 = .ok (.invokevirtual 127, 3) := by decide +kernel
theorem dX8_hang_93 : decode cX8_hang 93 = .ok (.istore 12, 2) := by decide +kernel
theorem dX8_hang_95 : decode cX8_hang 95 = .ok (.aload_n 0, 1) := by decide +kernel
theorem dX8_hang_96 : decode cX8_hang 96 = .ok (.getfield 15, 3) := by decide +kernel
theorem dX8_hang_99 : decode cX8_hang 99 = .ok (.iload 11, 2) := by decide +kernel
theorem dX8_hang_101 : decode cX8_hang 101 = .ok (.baload, 1) := by decide +kernel
theorem dX8_hang_102 : decode cX8_hang 102 = .ok (.ifCond .eq 48, 3) := by decide +kernel
theorem dX8_hang_105 : decode cX8_hang 105 = .ok (.aload_n 0, 1) := by decide +kernel
theorem dX8_hang_106 : decode cX8_hang 106 = .ok (.getfield 19, 3) := by decide +kernel
theorem dX8_hang_109 : decode cX8_hang 109 = .ok (.iload 12, 2) := by decide +kernel
theorem dX8_hang_111 : decode cX8_hang 111 = .ok (.iaload, 1) := by decide +kernel
theorem dX8_hang_112 : decode cX8_hang 112 = .ok (.iload 4, 2) := by decide +kernel
theorem dX8_hang_114 : decode cX8_hang 114 = .ok (.if_icmp .eq 36, 3) := by decide +kernel
theorem dX8_hang_117 : decode cX8_hang 117 = .ok (.aload_n 0, 1) := by decide +kernel
theorem dX8_hang_118 : decode cX8_hang 118 = .ok (.iload 12, 2) := by decide +kernel
theorem dX8_hang_120 : decode cX8_hang 120 = .ok (.iload 8, 2) := by decide +kernel
theorem dX8_hang_122 : decode cX8_hang 122 = .ok (.iload 11, 2) := by decide +kernel
theorem dX8_hang_124 : decode cX8_hang 124 = .ok (.iload 4, 2) := by decide +kernel
theorem dX8_hang_126 : decode cX8_hang 126 = .ok (.aload_n 0, 1) := by decide +kernel
theorem dX8_hang_127 : decode cX8_hang 127 = .ok (.getfield 28, 3) := by decide +kernel
theorem dX8_hang_130 : decode cX8_hang 130 = .ok (.iload 8, 2) := by decide +kernel
theorem dX8_hang_132 : decode cX8_hang 132 = .ok (.iaload, 1) := by decide +kernel
theorem dX8_hang_133 : decode cX8_hang 133 = .ok (.iconst 1, 1) := by decide +kernel
theorem dX8_hang_134 : decode cX8_hang 134 = .ok (.iadd, 1) := by decide +kernel
theorem dX8_hang_135 : decode cX8_hang 135 = .ok (.invokevirtual 130, 3) := by decide +kernel
theorem dX8_hang_138 : decode cX8_hang 138 = .ok (.aload_n 0, 1) := by decide +kernel
theorem dX8_hang_139 : decode cX8_hang 139 = .ok (.getfield 31, 3) := by decide +kernel
theorem dX8_hang_142 : decode cX8_hang 142 = .ok (.iload 6, 2) := by decide +kernel
theorem dX8_hang_144 : decode cX8_hang 144 = .ok (.iload 12, 2) := by decide +kernel
theorem dX8_hang_146 : decode cX8_hang 146 = .ok (.iastore, 1) := by decide +kernel
theorem dX8_hang_147 : decode cX8_hang 147 = .ok (.iinc 6 1, 3) := by decide +kernel
theorem dX8_hang_150 : decode cX8_hang 150 = .ok (.iinc 10 1, 3) := by decide +kernel
theorem dX8_hang_153 : decode cX8_hang 153 = .ok (.goto (-91), 3) := by decide +kernel
theorem dX8_hang_156 : decode cX8_hang 156 = .ok (.iinc 7 1, 3) := by decide +kernel
theorem dX8_hang_159 : decode cX8_hang 159 = .ok (.goto (-135), 3) := by decide +kernel
theorem dX8_hang_162 : decode cX8_hang 162 = .ok (.return_, 1) := by decide +kernel
theorem dX8_place_0 : decode cX8_place 0 = .ok (.aload_n 0, 1) := by decide +kernel
theorem dX8_place_1 : decode cX8_place 1 = .ok (.getfield 19, 3) := by decide +kernel
theorem dX8_place_4 : decode cX8_place 4 = .ok (.iload_n 1, 1) := by decide +kernel
theorem dX8_place_5 : decode cX8_place 5 = .ok (.iload 4, 2) := by decide +kernel
theorem dX8_place_7 : decode cX8_place 7 = .ok (.iastore, 1) := by decide +kernel
theorem dX8_place_8 : decode cX8_place 8 = .ok (.aload_n 0, 1) := by decide +kernel
theorem dX8_place_9 : decode cX8_place 9 = .ok (.getfield 22, 3) := by decide +kernel
theorem dX8_place_12 : decode cX8_place 12 = .ok (.iload_n 1, 1) := by decide +kernel
theorem dX8_place_13 : decode cX8_place 13 = .ok (.iload_n 2, 1) := by decide +kernel
theorem dX8_place_14 : decode cX8_place 14 = .ok (.iastore, 1) := by decide +kernel
theorem dX8_place_15 : decode cX8_place 15 = .ok (.aload_n 0, 1) := by decide +kernel
theorem dX8_place_16 : decode cX8_place 16 = .ok (.getfield 25, 3) := by decide +kernel
theorem dX8_place_19 : decode cX8_place 19 = .ok (.iload_n 1, 1) := by decide +kernel
theorem dX8_place_20 : decode cX8_place 20 = .ok (.iload_n 3, 1) := by decide +kernel
theorem dX8_place_21 : decode cX8_place 21 = .ok (.iastore, 1) := by decide +kernel
theorem dX8_place_22 : decode cX8_place 22 = .ok (.aload_n 0, 1) := by decide +kernel
theorem dX8_place_23 : decode cX8_place 23 = .ok (.getfield 28, 3) := by decide +kernel
theorem dX8_place_26 : decode cX8_place 26 = .ok (.iload_n 1, 1) := by decide +kernel
theorem dX8_place_27 : decode cX8_place 27 = .ok (.iload 5, 2) := by decide +kernel
theorem dX8_place_29 : decode cX8_place 29 = .ok (.iastore, 1) := by decide +kernel
theorem dX8_place_30 : decode cX8_place 30 = .ok (.return_, 1) := by decide +kernel
theorem dX9_init_0 : decode cX9_init 0 = .ok (.aload_n 0, 1) := by decide +kernel
theorem dX9_init_1 : decode cX9_init 1 = .ok (.invokespecial 3, 3) := by decide +kernel
theorem dX9_init_4 : decode cX9_init 4 = .ok (.aload_n 0, 1) := by decide +kernel
theorem dX9_init_5 : decode cX9_init 5 = .ok (.sipush 300, 3) := by decide +kernel
theorem dX9_init_8 : decode cX9_init 8 = .ok (.newarray .int, 2) := by decide +kernel
theorem dX9_init_10 : decode cX9_init 10 = .ok (.putfield 9, 3) := by decide +kernel
theorem dX9_init_13 : decode cX9_init 13 = .ok (.aload_n 0, 1) := by decide +kernel
theorem dX9_init_14 : decode cX9_init 14 = .ok (.aload_n 1, 1) := by decide +kernel
theorem dX9_init_15 : decode cX9_init 15 = .ok (.putfield 15, 3) := by decide +kernel
theorem dX9_init_18 : decode cX9_init 18 = .ok (.aload_n 0, 1) := by decide +kernel
theorem dX9_init_19 : decode cX9_init 19 = .ok (.aload_n 2, 1) := by decide +kernel
theorem dX9_init_20 : decode cX9_init 20 = .ok (.putfield 19, 3) := by decide +kernel
theorem dX9_init_23 : decode cX9_init 23 = .ok (.return_, 1) := by decide +kernel
theorem dX9_together_0 : decode cX9_together 0 = .ok (.aload_n 0, 1) := by decide +kernel
theorem dX9_together_1 : decode cX9_together 1 = .ok (.invokevirtual 23, 3) := by decide +kernel
theorem dX9_together_4 : decode cX9_together 4 = .ok (.aload_n 0, 1) := by decide +kernel
theorem dX9_together_5 : decode cX9_together 5 = .ok (.iload_n 1, 1) := by decide +kernel
theorem dX9_together_6 : decode cX9_together 6 = .ok (.invokevirtual 26, 3) := by decide +kernel
theorem dX9_together_9 : decode cX9_together 9 = .ok (.aload_n 0, 1) := by decide +kernel
theorem dX9_together_10 : decode cX9_together 10 = .ok (.iload_n 2, 1) := by decide +kernel
theorem dX9_together_11 : decode cX9_together 11 = .ok (.invokevirtual 26, 3) := by decide +kernel
theorem dX9_together_14 : decode cX9_together 14 = .ok (.if_icmp .ne 7, 3) := by decide +kernel
theorem dX9_together_17 : decode cX9_together 17 = .ok (.iconst 1, 1) := by decide +kernel
theorem dX9_together_18 : decode cX9_together 18 = .ok (.goto 4, 3) := by decide +kernel
theorem dX9_together_21 : decode cX9_together 21 = .ok (.iconst 0, 1) := by decide +kernel
theorem dX9_together_22 : decode cX9_together 22 = .ok (.ireturn, 1) := by decide +kernel
theorem dX9_isBridge_0 : decode cX9_isBridge 0 = .ok (.aload_n 0, 1) := by decide +kernel
theorem dX9_isBridge_1 : decode cX9_isBridge 1 = .ok (.getfield 19, 3) := by decide +kernel
theorem dX9_isBridge_4 : decode cX9_isBridge 4 = .ok (.getfield 30, 3) := by decide +kernel
theorem dX9_isBridge_7 : decode cX9_isBridge 7 = .ok (.iload_n 1, 1) := by decide +kernel
theorem dX9_isBridge_8 : decode cX9_isBridge 8 = .ok (.baload, 1) := by decide +kernel
theorem dX9_isBridge_9 : decode cX9_isBridge 9 = .ok (.ifCond .eq 32, 3) := by decide +kernel
theorem dX9_isBridge_12 : decode cX9_isBridge 12 = .ok (.aload_n 0, 1) := by decide +kernel
theorem dX9_isBridge_13 : decode cX9_isBridge 13 = .ok (.aload_n 0, 1) := by decide +kernel
theorem dX9_isBridge_14 : decode cX9_isBridge 14 = .ok (.getfield 15, 3) := by decide +kernel
theorem dX9_isBridge_17 : decode cX9_isBridge 17 = .ok (.getfield 36, 3) := by decide +kernel
theorem dX9_isBridge_20 : decode cX9_isBridge 20 = .ok (.iload_n 1, 1) := by decide +kernel
theorem dX9_isBridge_21 : decode cX9_isBridge 21 = .ok (.iaload, 1) := by decide +kernel
theorem dX9_isBridge_22 : decode cX9_isBridge 22 = .ok (.aload_n 0, 1) := by decide +kernel
theorem dX9_isBridge_23 : decode cX9_isBridge 23 = .ok (.getfield 15, 3) := by decide +kernel
theorem dX9_isBridge_26 : decode cX9_isBridge 26 = .ok (.getfield 41, 3) := by decide +kernel
theorem dX9_isBridge_29 : decode cX9_isBridge 29 = .ok (.iload_n 1, 1) := by decide +kernel
theorem dX9_isBridge_30 : decode cX9_isBridge 30 = .ok (.iaload, 1) := by decide +kernel
theorem dX9_isBridge_31 : decode cX9_isBridge 31 = .ok (.invokevirtual 44, 3) := by decide +kernel
theorem dX9_isBridge_34 : decode cX9_isBridge 34 = .ok (.ifCond .ne 7, 3) := by decide +kernel
theorem dX9_isBridge_37 : decode cX9_isBridge 37 = .ok (.iconst 1, 1) := by decide +kernel
theorem dX9_isBridge_38 : decode cX9_isBridge 38 = .ok (.goto 4, 3) := by decide +kernel
theorem dX9_isBridge_41 : decode cX9_isBridge 41 = .ok (.iconst 0, 1) := by decide +kernel
theorem dX9_isBridge_42 : decode cX9_isBridge 42 = .ok (.ireturn, 1) := by decide +kernel
theorem dX9_bridges_0 : decode cX9_bridges 0 = .ok (.iconst 0, 1) := by decide +kernel
theorem dX9_bridges_1 : decode cX9_bridges 1 = .ok (.istore_n 1, 1) := by decide +kernel
theorem dX9_bridges_2 : decode cX9_bridges 2 = .ok (.iconst 0, 1) := by decide +kernel
theorem dX9_bridges_3 : decode cX9_bridges 3 = .ok (.istore_n 2, 1) := by decide +kernel
theorem dX9_bridges_4 : decode cX9_bridges 4 = .ok (.iload_n 2, 1) := by decide +kernel
theorem dX9_bridges_5 : decode cX9_bridges 5 = .ok (.aload_n 0, 1) := by decide +kernel
theorem dX9_bridges_6 : decode cX9_bridges 6 = .ok (.getfield 15, 3) := by decide +kernel
theorem dX9_bridges_9 : decode cX9_bridges 9 = .ok (.getfield 48, 3) := by decide +kernel
theorem dX9_bridges_12 : decode cX9_bridges 12 = .ok (.if_icmp .ge 28, 3) := by decide +kernel
theorem dX9_bridges_15 : decode cX9_bridges 15 = .ok (.aload_n 0, 1) := by decide +kernel
theorem dX9_bridges_16 : decode cX9_bridges 16 = .ok (.aload_n 0, 1) := by decide +kernel
theorem dX9_bridges_17 : decode cX9_bridges 17 = .ok (.getfield 15, 3) := by decide +kernel
theorem dX9_bridges_20 : decode cX9_bridges 20 = .ok (.getfield 52, 3) := by decide +kernel
theorem dX9_bridges_23 : decode cX9_bridges 23 = .ok (.iload_n 2, 1) := by decide +kernel
theorem dX9_bridges_24 : decode cX9_bridges 24 = .ok (.iaload, 1) := by decide +kernel
theorem dX9_bridges_25 : decode cX9_bridges 25 = .ok (.invokevirtual 55, 3) := by decide +kernel
theorem dX9_bridges_28 : decode cX9_bridges 28 = .ok (.ifCond .eq 6, 3) := by decide +kernel
theorem dX9_bridges_31 : decode cX9_bridges 31 = .ok (.iinc 1 1, 3) := by decide +kernel
theorem dX9_bridges_34 : decode cX9_bridges 34 = .ok (.iinc 2 1, 3) := by decide +kernel
theorem dX9_bridges_37 : decode cX9_bridges 37 = .ok (.goto (-33), 3) := by decide +kernel
theorem dX9_bridges_40 : decode cX9_bridges 40 = .ok (.iload_n 1, 1) := by decide +kernel
theorem dX9_bridges_41 : decode cX9_bridges 41 = .ok (.ireturn, 1) := by decide +kernel
theorem dX9_look_0 : decode cX9_look 0 = .ok (.aload_n 0, 1) := by decide +kernel
theorem dX9_look_1 : decode cX9_look 1 = .ok (.getfield 59, 3) := by decide +kernel
theorem dX9_look_4 : decode cX9_look 4 = .ok (.aload_n 0, 1) := by decide +kernel
theorem dX9_look_5 : decode cX9_look 5 = .ok (.getfield 15, 3) := by decide +kernel
theorem dX9_look_8 : decode cX9_look 8 = .ok (.getfield 62, 3) := by decide +kernel
theorem dX9_look_11 : decode cX9_look 11 = .ok (.if_icmp .ne 4, 3) := by decide +kernel
theorem dX9_look_14 : decode cX9_look 14 = .ok (.return_, 1) := by decide +kernel
theorem dX9_look_15 : decode cX9_look 15 = .ok (.iconst 0, 1) := by decide +kernel
theorem dX9_look_16 : decode cX9_look 16 = .ok (.istore_n 1, 1) := by decide +kernel
theorem dX9_look_17 : decode cX9_look 17 = .ok (.iload_n 1, 1) := by decide +kernel
theorem dX9_look_18 : decode cX9_look 18 = .ok (.aload_n 0, 1) := by decide +kernel
theorem dX9_look_19 : decode cX9_look 19 = .ok (.getfield 15, 3) := by decide +kernel
theorem dX9_look_22 : decode cX9_look 22 = .ok (.getfield 63, 3) := by decide +kernel
theorem dX9_look_25 : decode cX9_look 25 = .ok (.if_icmp .ge 16, 3) := by decide +kernel
theorem dX9_look_28 : decode cX9_look 28 = .ok (.aload_n 0, 1) := by decide +kernel
theorem dX9_look_29 : decode cX9_look 29 = .ok (.getfield 9, 3) := by decide +kernel
theorem dX9_look_32 : decode cX9_look 32 = .ok (.iload_n 1, 1) := by decide +kernel
theorem dX9_look_33 : decode cX9_look 33 = .ok (.iload_n 1, 1) := by decide +kernel
theorem dX9_look_34 : decode cX9_look 34 = .ok (.iastore, 1) := by decide +kernel
theorem dX9_look_35 : decode cX9_look 35 = .ok (.iinc 1 1, 3) := by decide +kernel
theorem dX9_look_38 : decode cX9_look 38 = .ok (.goto (-21), 3) := by decide +kernel
theorem dX9_look_41 : decode cX9_look 41 = .ok (.iconst 0, 1) := by decide +kernel
theorem dX9_look_42 : decode cX9_look 42 = .ok (.istore_n 1, 1) := by decide +kernel
theorem dX9_look_43 : decode cX9_look 43 = .ok (.iload_n 1, 1) := by decide +kernel
theorem dX9_look_44 : decode cX9_look 44 = .ok (.aload_n 0, 1) := by decide +kernel
theorem dX9_look_45 : decode cX9_look 45 = .ok (.getfield 15, 3) := by decide +kernel
theorem dX9_look_48 : decode cX9_look 48 = .ok (.getfield 48, 3) := by decide +kernel
theorem dX9_look_51 : decode cX9_look 51 = .ok (.if_icmp .ge 53, 3) := by decide +kernel
theorem dX9_look_54 : decode cX9_look 54 = .ok (.aload_n 0, 1) := by decide +kernel
theorem dX9_look_55 : decode cX9_look 55 = .ok (.getfield 15, 3) := by decide +kernel
theorem dX9_look_58 : decode cX9_look 58 = .ok (.getfield 52, 3) := by decide +kernel
theorem dX9_look_61 : decode cX9_look 61 = .ok (.iload_n 1, 1) := by decide +kernel
theorem dX9_look_62 : decode cX9_look 62 = .ok (.iaload, 1) := by decide +kernel
theorem dX9_look_63 : decode cX9_look 63 = .ok (.istore_n 2, 1) := by decide +kernel
theorem dX9_look_64 : decode cX9_look 64 = .ok (.aload_n 0, 1) := by decide +kernel
theorem dX9_look_65 : decode cX9_look 65 = .ok (.getfield 19, 3) := by decide +kernel
theorem dX9_look_68 : decode cX9_look 68 = .ok (.getfield 30, 3) := by decide +kernel
theorem dX9_look_71 : decode cX9_look 71 = .ok (.iload_n 2, 1) := by decide +kernel
theorem dX9_look_72 : decode cX9_look 72 = .ok (.baload, 1) := by decide +kernel
theorem dX9_look_73 : decode cX9_look 73 = .ok (.ifCond .ne 25, 3) := by decide +kernel
theorem dX9_look_76 : decode cX9_look 76 = .ok (.aload_n 0, 1) := by decide +kernel
theorem dX9_look_77 : decode cX9_look 77 = .ok (.aload_n 0, 1) := by decide +kernel
theorem dX9_look_78 : decode cX9_look 78 = .ok (.getfield 15, 3) := by decide +kernel
theorem dX9_look_81 : decode cX9_look 81 = .ok (.getfield 36, 3) := by decide +kernel
theorem dX9_look_84 : decode cX9_look 84 = .ok (.iload_n 2, 1) := by decide +kernel
theorem dX9_look_85 : decode cX9_look 85 = .ok (.iaload, 1) := by decide +kernel
theorem dX9_look_86 : decode cX9_look 86 = .ok (.aload_n 0, 1) := by decide +kernel
theorem dX9_look_87 : decode cX9_look 87 = .ok (.getfield 15, 3) := by decide +kernel
theorem dX9_look_90 : decode cX9_look 90 = .ok (.getfield 41, 3) := by decide +kernel
theorem dX9_look_93 : decode cX9_look 93 = .ok (.iload_n 2, 1) := by decide +kernel
theorem dX9_look_94 : decode cX9_look 94 = .ok (.iaload, 1) := by decide +kernel
theorem dX9_look_95 : decode cX9_look 95 = .ok (.invokevirtual 66, 3) := by decide +kernel
theorem dX9_look_98 : decode cX9_look 98 = .ok (.iinc 1 1, 3) := by decide +kernel
theorem dX9_look_101 : decode cX9_look 101 = .ok (.goto (-58), 3) := by decide +kernel
theorem dX9_look_104 : decode cX9_look 104 = .ok (.aload_n 0, 1) := by decide +kernel
theorem dX9_look_105 : decode cX9_look 105 = .ok (.aload_n 0, 1) := by decide +kernel
theorem dX9_look_106 : decode cX9_look 106 = .ok (.getfield 15, 3) := by decide +kernel
theorem dX9_look_109 : decode cX9_look 109 = .ok (.getfield 62, 3) := by decide +kernel
theorem dX9_look_112 : decode cX9_look 112 = .ok (.putfield 59, 3) := by decide +kernel
theorem dX9_look_115 : decode cX9_look 115 = .ok (.return_, 1) := by decide +kernel
theorem dX9_tie_0 : decode cX9_tie 0 = .ok (.aload_n 0, 1) := by decide +kernel
theorem dX9_tie_1 : decode cX9_tie 1 = .ok (.iload_n 1, 1) := by decide +kernel
theorem dX9_tie_2 : decode cX9_tie 2 = .ok (.invokevirtual 26, 3) := by decide +kernel
theorem dX9_tie_5 : decode cX9_tie 5 = .ok (.istore_n 3, 1) := by decide +kernel
theorem dX9_tie_6 : decode cX9_tie 6 = .ok (.aload_n 0, 1) := by decide +kernel
theorem dX9_tie_7 : decode cX9_tie 7 = .ok (.iload_n 2, 1) := by decide +kernel
theorem dX9_tie_8 : decode cX9_tie 8 = .ok (.invokevirtual 26, 3) := by decide +kernel
theorem dX9_tie_11 : decode cX9_tie 11 = .ok (.istore 4, 2) := by decide +kernel
theorem dX9_tie_13 : decode cX9_tie 13 = .ok (.iconst 0, 1) := by decide +kernel
theorem dX9_tie_14 : decode cX9_tie 14 = .ok (.istore 5, 2) := by decide +kernel
theorem dX9_tie_16 : decode cX9_tie 16 = .ok (.iload 5, 2) := by decide +kernel
theorem dX9_tie_18 : decode cX9_tie 18 = .ok (.sipush 600, 3) := by decide +kernel
theorem dX9_tie_21 : decode cX9_tie 21 = .ok (.if_icmp .ge 98, 3) := by decide +kernel
theorem dX9_tie_24 : decode cX9_tie 24 = .ok (.iload_n 3, 1) := by decide +kernel
theorem dX9_tie_25 : decode cX9_tie 25 = .ok (.iload 4, 2) := by decide +kernel
theorem dX9_tie_27 : decode cX9_tie 27 = .ok (.if_icmp .eq 92, 3) := by decide +kernel
theorem dX9_tie_30 : decode cX9_tie 30 = .ok (.aload_n 0, 1) := by decide +kernel
theorem dX9_tie_31 : decode cX9_tie 31 = .ok (.getfield 19, 3) := by decide +kernel
theorem dX9_tie_34 : decode cX9_tie 34 = .ok (.getfield 70, 3) := by decide +kernel
theorem dX9_tie_37 : decode cX9_tie 37 = .ok (.iload_n 3, 1) := by decide +kernel
theorem dX9_tie_38 : decode cX9_tie 38 = .ok (.iaload, 1) := by decide +kernel
theorem dX9_tie_39 : decode cX9_tie 39 = .ok (.aload_n 0, 1) := by decide +kernel
theorem dX9_tie_40 : decode cX9_tie 40 = .ok (.getfield 19, 3) := by decide +kernel
theorem dX9_tie_43 : decode cX9_tie 43 = .ok (.getfield 70, 3) := by decide +kernel
theorem dX9_tie_46 : decode cX9_tie 46 = .ok (.iload 4, 2) := by decide +kernel
theorem dX9_tie_48 : decode cX9_tie 48 = .ok (.iaload, 1) := by decide +kernel
theorem dX9_tie_49 : decode cX9_tie 49 = .ok (.if_icmp .lt 7, 3) := by decide +kernel
theorem dX9_tie_52 : decode cX9_tie 52 = .ok (.iload_n 3, 1) := by decide +kernel
theorem dX9_tie_53 : decode cX9_tie 53 = .ok (.goto 5, 3) := by decide +kernel
theorem dX9_tie_56 : decode cX9_tie 56 = .ok (.iload 4, 2) := by decide +kernel
theorem dX9_tie_58 : decode cX9_tie 58 = .ok (.istore 6, 2) := by decide +kernel
theorem dX9_tie_60 : decode cX9_tie 60 = .ok (.iload 6, 2) := by decide +kernel
theorem dX9_tie_62 : decode cX9_tie 62 = .ok (.iload_n 3, 1) := by decide +kernel
theorem dX9_tie_63 : decode cX9_tie 63 = .ok (.if_icmp .ne 8, 3) := by decide +kernel
theorem dX9_tie_66 : decode cX9_tie 66 = .ok (.iload 4, 2) := by decide +kernel
theorem dX9_tie_68 : decode cX9_tie 68 = .ok (.goto 4, 3) := by decide +kernel
theorem dX9_tie_71 : decode cX9_tie 71 = .ok (.iload_n 3, 1) := by decide +kernel
theorem dX9_tie_72 : decode cX9_tie 72 = .ok (.istore 7, 2) := by decide +kernel
theorem dX9_tie_74 : decode cX9_tie 74 = .ok (.aload_n 0, 1) := by decide +kernel
theorem dX9_tie_75 : decode cX9_tie 75 = .ok (.getfield 19, 3) := by decide +kernel
theorem dX9_tie_78 : decode cX9_tie 78 = .ok (.getfield 73, 3) := by decide +kernel
theorem dX9_tie_81 : decode cX9_tie 81 = .ok (.iload 6, 2) := by decide +kernel
theorem dX9_tie_83 : decode cX9_tie 83 = .ok (.iaload, 1) := by decide +kernel
theorem dX9_tie_84 : decode cX9_tie 84 = .ok (.istore 8, 2) := by decide +kernel
theorem dX9_tie_86 : decode cX9_tie 86 = .ok (.iload 8, 2) := by decide +kernel
theorem dX9_tie_88 : decode cX9_tie 88 = .ok (.iconst (-1), 1) := by decide +kernel
theorem dX9_tie_89 : decode cX9_tie 89 = .ok (.if_icmp .ne 4, 3) := by decide +kernel
theorem dX9_tie_92 : decode cX9_tie 92 = .ok (.return_, 1) := by decide +kernel
theorem dX9_tie_93 : decode cX9_tie 93 = .ok (.aload_n 0, 1) := by decide +kernel
theorem dX9_tie_94 : decode cX9_tie 94 = .ok (.getfield 9, 3) := by decide +kernel
theorem dX9_tie_97 : decode cX9_tie 97 = .ok (.iload 6, 2) := by decide +kernel
theorem dX9_tie_99 : decode cX9_tie 99 = .ok (.iload 8, 2) := by decide +kernel
theorem dX9_tie_101 : decode cX9_tie 101 = .ok (.iastore, 1) := by decide +kernel
theorem dX9_tie_102 : decode cX9_tie 102 = .ok (.aload_n 0, 1) := by decide +kernel
theorem dX9_tie_103 : decode cX9_tie 103 = .ok (.iload 8, 2) := by decide +kernel
theorem dX9_tie_105 : decode cX9_tie 105 = .ok (.invokevirtual 26, 3) := by decide +kernel
theorem dX9_tie_108 : decode cX9_tie 108 = .ok (.istore_n 3, 1) := by decide +kernel
theorem dX9_tie_109 : decode cX9_tie 109 = .ok (.iload 7, 2) := by decide +kernel
theorem dX9_tie_111 : decode cX9_tie 111 = .ok (.istore 4, 2) := by decide +kernel
theorem dX9_tie_113 : decode cX9_tie 113 = .ok (.iinc 5 1, 3) := by decide +kernel
theorem dX9_tie_116 : decode cX9_tie 116 = .ok (.goto (-100), 3) := by decide +kernel
theorem dX9_tie_119 : decode cX9_tie 119 = .ok (.return_, 1) := by decide +kernel
theorem dX9_topOf_0 : decode cX9_topOf 0 = .ok (.iload_n 1, 1) := by decide +kernel
theorem dX9_topOf_1 : decode cX9_topOf 1 = .ok (.istore_n 2, 1) := by decide +kernel
theorem dX9_topOf_2 : decode cX9_topOf 2 = .ok (.iconst 0, 1) := by decide +kernel
theorem dX9_topOf_3 : decode cX9_topOf 3 = .ok (.istore_n 3, 1) := by decide +kernel
theorem dX9_topOf_4 : decode cX9_topOf 4 = .ok (.iload_n 3, 1) := by decide +kernel
theorem dX9_topOf_5 : decode cX9_topOf 5 = .ok (.sipush 300, 3) := by decide +kernel
theorem dX9_topOf_8 : decode cX9_topOf 8 = .ok (.if_icmp .ge 43, 3) := by decide +kernel
theorem dX9_topOf_11 : decode cX9_topOf 11 = .ok (.aload_n 0, 1) := by decide +kernel
theorem dX9_topOf_12 : decode cX9_topOf 12 = .ok (.getfield 9, 3) := by decide +kernel
theorem dX9_topOf_15 : decode cX9_topOf 15 = .ok (.iload_n 2, 1) := by decide +kernel
theorem dX9_topOf_16 : decode cX9_topOf 16 = .ok (.iaload, 1) := by decide +kernel
theorem dX9_topOf_17 : decode cX9_topOf 17 = .ok (.iload_n 2, 1) := by decide +kernel
theorem dX9_topOf_18 : decode cX9_topOf 18 = .ok (.if_icmp .eq 33, 3) := by decide +kernel
theorem dX9_topOf_21 : decode cX9_topOf 21 = .ok (.aload_n 0, 1) := by decide +kernel
theorem dX9_topOf_22 : decode cX9_topOf 22 = .ok (.getfield 9, 3) := by decide +kernel
theorem dX9_topOf_25 : decode cX9_topOf 25 = .ok (.iload_n 2, 1) := by decide +kernel
theorem dX9_topOf_26 : decode cX9_topOf 26 = .ok (.aload_n 0, 1) := by decide +kernel
theorem dX9_topOf_27 : decode cX9_topOf 27 = .ok (.getfield 9, 3) := by decide +kernel
theorem dX9_topOf_30 : decode cX9_topOf 30 = .ok (.aload_n 0, 1) := by decide +kernel
theorem dX9_topOf_31 : decode cX9_topOf 31 = .ok (.getfield 9, 3) := by decide +kernel
theorem dX9_topOf_34 : decode cX9_topOf 34 = .ok (.iload_n 2, 1) := by decide +kernel
theorem dX9_topOf_35 : decode cX9_topOf 35 = .ok (.iaload, 1) := by decide +kernel
theorem dX9_topOf_36 : decode cX9_topOf 36 = .ok (.iaload, 1) := by decide +kernel
theorem dX9_topOf_37 : decode cX9_topOf 37 = .ok (.iastore, 1) := by decide +kernel
theorem dX9_topOf_38 : decode cX9_topOf 38 = .ok (.aload_n 0, 1) := by decide +kernel
theorem dX9_topOf_39 : decode cX9_topOf 39 = .ok (.getfield 9, 3) := by decide +kernel
theorem dX9_topOf_42 : decode cX9_topOf 42 = .ok (.iload_n 2, 1) := by decide +kernel
theorem dX9_topOf_43 : decode cX9_topOf 43 = .ok (.iaload, 1) := by decide +kernel
theorem dX9_topOf_44 : decode cX9_topOf 44 = .ok (.istore_n 2, 1) := by decide +kernel
theorem dX9_topOf_45 : decode cX9_topOf 45 = .ok (.iinc 3 1, 3) := by decide +kernel
theorem dX9_topOf_48 : decode cX9_topOf 48 = .ok (.goto (-44), 3) := by decide +kernel
theorem dX9_topOf_51 : decode cX9_topOf 51 = .ok (.iload_n 2, 1) := by decide +kernel
theorem dX9_topOf_52 : decode cX9_topOf 52 = .ok (.ireturn, 1) := by decide +kernel
theorem dX10_init_0 : decode cX10_init 0 = .ok (.aload_n 0, 1) := by decide +kernel
theorem dX10_init_1 : decode cX10_init 1 = .ok (.invokespecial 3, 3) := by decide +kernel
theorem dX10_init_4 : decode cX10_init 4 = .ok (.aload_n 0, 1) := by decide +kernel
theorem dX10_init_5 : decode cX10_init 5 = .ok (.sipush 5000, 3) := by decide +kernel
theorem dX10_init_8 : decode cX10_init 8 = .ok (.newarray .int, 2) := by decide +kernel
theorem dX10_init_10 : decode cX10_init 10 = .ok (.putfield 9, 3) := by decide +kernel
theorem dX10_init_13 : decode cX10_init 13 = .ok (.aload_n 0, 1) := by decide +kernel
theorem dX10_init_14 : decode cX10_init 14 = .ok (.sipush 5000, 3) := by decide +kernel
theorem dX10_init_17 : decode cX10_init 17 = .ok (.newarray .int, 2) := by decide +kernel
theorem dX10_init_19 : decode cX10_init 19 = .ok (.putfield 15, 3) := by decide +kernel
theorem dX10_init_22 : decode cX10_init 22 = .ok (.aload_n 0, 1) := by decide +kernel
theorem dX10_init_23 : decode cX10_init 23 = .ok (.sipush 900, 3) := by decide +kernel
theorem dX10_init_26 : decode cX10_init 26 = .ok (.newarray .int, 2) := by decide +kernel
theorem dX10_init_28 : decode cX10_init 28 = .ok (.putfield 18, 3) := by decide +kernel
theorem dX10_init_31 : decode cX10_init 31 = .ok (.aload_n 0, 1) := by decide +kernel
theorem dX10_init_32 : decode cX10_init 32 = .ok (.new 21, 3) := by decide +kernel
theorem dX10_init_35 : decode cX10_init 35 = .ok (.dup, 1) := by decide +kernel
theorem dX10_init_36 : decode cX10_init 36 = .ok (.invokespecial 23, 3) := by decide +kernel
theorem dX10_init_39 : decode cX10_init 39 = .ok (.putfield 24, 3) := by decide +kernel
theorem dX10_init_42 : decode cX10_init 42 = .ok (.aload_n 0, 1) := by decide +kernel
theorem dX10_init_43 : decode cX10_init 43 = .ok (.new 21, 3) := by decide +kernel
theorem dX10_init_46 : decode cX10_init 46 = .ok (.dup, 1) := by decide +kernel
theorem dX10_init_47 : decode cX10_init 47 = .ok (.invokespecial 23, 3) := by decide +kernel
theorem dX10_init_50 : decode cX10_init 50 = .ok (.putfield 28, 3) := by decide +kernel
theorem dX10_init_53 : decode cX10_init 53 = .ok (.aload_n 0, 1) := by decide +kernel
theorem dX10_init_54 : decode cX10_init 54 = .ok (.sipush 5000, 3) := by decide +kernel
theorem dX10_init_57 : decode cX10_init 57 = .ok (.newarray .boolean, 2) := by decide +kernel
theorem dX10_init_59 : decode cX10_init 59 = .ok (.putfield 31, 3) := by decide +kernel
theorem dX10_init_62 : decode cX10_init 62 = .ok (.return_, 1) := by decide +kernel
theorem dX10_hasNode_0 : decode cX10_hasNode 0 = .ok (.iload_n 1, 1) := by decide +kernel
theorem dX10_hasNode_1 : decode cX10_hasNode 1 = .ok (.ifCond .lt 15, 3) := by decide +kernel
theorem dX10_hasNode_4 : decode cX10_hasNode 4 = .ok (.iload_n 1, 1) := by decide +kernel
theorem dX10_hasNode_5 : decode cX10_hasNode 5 = .ok (.aload_n 0, 1) := by decide +kernel
theorem dX10_hasNode_6 : decode cX10_hasNode 6 = .ok (.getfield 35, 3) := by decide +kernel
theorem dX10_hasNode_9 : decode cX10_hasNode 9 = .ok (.if_icmp .ge 7, 3) := by decide +kernel
theorem dX10_hasNode_12 : decode cX10_hasNode 12 = .ok (.iconst 1, 1) := by decide +kernel
theorem dX10_hasNode_13 : decode cX10_hasNode 13 = .ok (.goto 4, 3) := by decide +kernel
theorem dX10_hasNode_16 : decode cX10_hasNode 16 = .ok (.iconst 0, 1) := by decide +kernel
theorem dX10_hasNode_17 : decode cX10_hasNode 17 = .ok (.ireturn, 1) := by decide +kernel
theorem dX10_hasArc_0 : decode cX10_hasArc 0 = .ok (.iload_n 1, 1) := by decide +kernel
theorem dX10_hasArc_1 : decode cX10_hasArc 1 = .ok (.ifCond .lt 24, 3) := by decide +kernel
theorem dX10_hasArc_4 : decode cX10_hasArc 4 = .ok (.iload_n 1, 1) := by decide +kernel
theorem dX10_hasArc_5 : decode cX10_hasArc 5 = .ok (.aload_n 0, 1) := by decide +kernel
theorem dX10_hasArc_6 : decode cX10_hasArc 6 = .ok (.getfield 39, 3) := by decide +kernel
theorem dX10_hasArc_9 : decode cX10_hasArc 9 = .ok (.if_icmp .ge 16, 3) := by decide +kernel
theorem dX10_hasArc_12 : decode cX10_hasArc 12 = .ok (.aload_n 0, 1) := by decide +kernel
theorem dX10_hasArc_13 : decode cX10_hasArc 13 = .ok (.getfield 31, 3) := by decide +kernel
theorem dX10_hasArc_16 : decode cX10_hasArc 16 = .ok (.iload_n 1, 1) := by decide +kernel
theorem dX10_hasArc_17 : decode cX10_hasArc 17 = .ok (.baload, 1) := by decide +kernel
theorem dX10_hasArc_18 : decode cX10_hasArc 18 = .ok (.ifCond .eq 7, 3) := by decide +kernel
theorem dX10_hasArc_21 : decode cX10_hasArc 21 = .ok (.iconst 1, 1) := by decide +kernel
theorem dX10_hasArc_22 : decode cX10_hasArc 22 = .ok (.goto 4, 3) := by decide +kernel
theorem dX10_hasArc_25 : decode cX10_hasArc 25 = .ok (.iconst 0, 1) := by decide +kernel
theorem dX10_hasArc_26 : decode cX10_hasArc 26 = .ok (.ireturn, 1) := by decide +kernel
theorem dX10_hasRoom_0 : decode cX10_hasRoom 0 = .ok (.iload_n 1, 1) := by decide +kernel
theorem dX10_hasRoom_1 : decode cX10_hasRoom 1 = .ok (.sipush 900, 3) := by decide +kernel
theorem dX10_hasRoom_4 : decode cX10_hasRoom 4 = .ok (.aload_n 0, 1) := by decide +kernel
theorem dX10_hasRoom_5 : decode cX10_hasRoom 5 = .ok (.getfield 42, 3) := by decide +kernel
theorem dX10_hasRoom_8 : decode cX10_hasRoom 8 = .ok (.isub, 1) := by decide +kernel
theorem dX10_hasRoom_9 : decode cX10_hasRoom 9 = .ok (.if_icmp .gt 19, 3) := by decide +kernel
theorem dX10_hasRoom_12 : decode cX10_hasRoom 12 = .ok (.iload_n 1, 1) := by decide +kernel
theorem dX10_hasRoom_13 : decode cX10_hasRoom 13 = .ok (.sipush 5000, 3) := by decide +kernel
theorem dX10_hasRoom_16 : decode cX10_hasRoom 16 = .ok (.aload_n 0, 1) := by decide +kernel
theorem dX10_hasRoom_17 : decode cX10_hasRoom 17 = .ok (.getfield 39, 3) := by decide +kernel
theorem dX10_hasRoom_20 : decode cX10_hasRoom 20 = .ok (.isub, 1) := by decide +kernel
theorem dX10_hasRoom_21 : decode cX10_hasRoom 21 = .ok (.if_icmp .gt 7, 3) := by decide +kernel
theorem dX10_hasRoom_24 : decode cX10_hasRoom 24 = .ok (.iconst 1, 1) := by decide +kernel
theorem dX10_hasRoom_25 : decode cX10_hasRoom 25 = .ok (.goto 4, 3) := by decide +kernel
theorem dX10_hasRoom_28 : decode cX10_hasRoom 28 = .ok (.iconst 0, 1) := by decide +kernel
theorem dX10_hasRoom_29 : decode cX10_hasRoom 29 = .ok (.ireturn, 1) := by decide +kernel
theorem dX10_addNode_0 : decode cX10_addNode 0 = .ok (.aload_n 0, 1) := by decide +kernel
theorem dX10_addNode_1 : decode cX10_addNode 1 = .ok (.getfield 35, 3) := by decide +kernel
theorem dX10_addNode_4 : decode cX10_addNode 4 = .ok (.istore_n 1, 1) := by decide +kernel
theorem dX10_addNode_5 : decode cX10_addNode 5 = .ok (.aload_n 0, 1) := by decide +kernel
theorem dX10_addNode_6 : decode cX10_addNode 6 = .ok (.getfield 24, 3) := by decide +kernel
theorem dX10_addNode_9 : decode cX10_addNode 9 = .ok (.invokevirtual 45, 3) := by decide +kernel
theorem dX10_addNode_12 : decode cX10_addNode 12 = .ok (.aload_n 0, 1) := by decide +kernel
theorem dX10_addNode_13 : decode cX10_addNode 13 = .ok (.getfield 28, 3) := by decide +kernel
theorem dX10_addNode_16 : decode cX10_addNode 16 = .ok (.invokevirtual 45, 3) := by decide +kernel
theorem dX10_addNode_19 : decode cX10_addNode 19 = .ok (.aload_n 0, 1) := by decide +kernel
theorem dX10_addNode_20 : decode cX10_addNode 20 = .ok (.dup, 1) := by decide +kernel
theorem dX10_addNode_21 : decode cX10_addNode 21 = .ok (.getfield 35, 3) := by decide +kernel
theorem dX10_addNode_24 : decode cX10_addNode 24 = .ok (.iconst 1, 1) := by decide +kernel
theorem dX10_addNode_25 : decode cX10_addNode 25 = .ok (.iadd, 1) := by decide +kernel
theorem dX10_addNode_26 : decode cX10_addNode 26 = .ok (.putfield 35, 3) := by decide +kernel
theorem dX10_addNode_29 : decode cX10_addNode 29 = .ok (.aload_n 0, 1) := by decide +kernel
theorem dX10_addNode_30 : decode cX10_addNode 30 = .ok (.dup, 1) := by decide +kernel
theorem dX10_addNode_31 : decode cX10_addNode 31 = .ok (.getfield 48, 3) := by decide +kernel
theorem dX10_addNode_34 : decode cX10_addNode 34 = .ok (.iconst 1, 1) := by decide +kernel
theorem dX10_addNode_35 : decode cX10_addNode 35 = .ok (.iadd, 1) := by decide +kernel
theorem dX10_addNode_36 : decode cX10_addNode 36 = .ok (.putfield 48, 3) := by decide +kernel
theorem dX10_addNode_39 : decode cX10_addNode 39 = .ok (.iload_n 1, 1) := by decide +kernel
theorem dX10_addNode_40 : decode cX10_addNode 40 = .ok (.ireturn, 1) := by decide +kernel
theorem dX10_addArc_0 : decode cX10_addArc 0 = .ok (.aload_n 0, 1) := by decide +kernel
theorem dX10_addArc_1 : decode cX10_addArc 1 = .ok (.getfield 39, 3) := by decide +kernel
theorem dX10_addArc_4 : decode cX10_addArc 4 = .ok (.istore_n 3, 1) := by decide +kernel
theorem dX10_addArc_5 : decode cX10_addArc 5 = .ok (.aload_n 0, 1) := by decide +kernel
theorem dX10_addArc_6 : decode cX10_addArc 6 = .ok (.getfield 9, 3) := by decide +kernel
theorem dX10_addArc_9 : decode cX10_addArc 9 = .ok (.iload_n 3, 1) := by decide +kernel
theorem dX10_addArc_10 : decode cX10_addArc 10 = .ok (.iload_n 1, 1) := by decide +kernel
theorem dX10_addArc_11 : decode cX10_addArc 11 = .ok (.iastore, 1) := by decide +kernel
theorem dX10_addArc_12 : decode cX10_addArc 12 = .ok (.aload_n 0, 1) := by decide +kernel
theorem dX10_addArc_13 : decode cX10_addArc 13 = .ok (.getfield 15, 3) := by decide +kernel
theorem dX10_addArc_16 : decode cX10_addArc 16 = .ok (.iload_n 3, 1) := by decide +kernel
theorem dX10_addArc_17 : decode cX10_addArc 17 = .ok (.iload_n 2, 1) := by decide +kernel
theorem dX10_addArc_18 : decode cX10_addArc 18 = .ok (.iastore, 1) := by decide +kernel
theorem dX10_addArc_19 : decode cX10_addArc 19 = .ok (.aload_n 0, 1) := by decide +kernel
theorem dX10_addArc_20 : decode cX10_addArc 20 = .ok (.getfield 31, 3) := by decide +kernel
theorem dX10_addArc_23 : decode cX10_addArc 23 = .ok (.iload_n 3, 1) := by decide +kernel
theorem dX10_addArc_24 : decode cX10_addArc 24 = .ok (.iconst 1, 1) := by decide +kernel
theorem dX10_addArc_25 : decode cX10_addArc 25 = .ok (.bastore, 1) := by decide +kernel
theorem dX10_addArc_26 : decode cX10_addArc 26 = .ok (.aload_n 0, 1) := by decide +kernel
theorem dX10_addArc_27 : decode cX10_addArc 27 = .ok (.getfield 18, 3) := by decide +kernel
theorem dX10_addArc_30 : decode cX10_addArc 30 = .ok (.aload_n 0, 1) := by decide +kernel
theorem dX10_addArc_31 : decode cX10_addArc 31 = .ok (.getfield 42, 3) := by decide +kernel
theorem dX10_addArc_34 : decode cX10_addArc 34 = .ok (.iload_n 3, 1) := by decide +kernel
theorem dX10_addArc_35 : decode cX10_addArc 35 = .ok (.iastore, 1) := by decide +kernel
theorem dX10_addArc_36 : decode cX10_addArc 36 = .ok (.aload_n 0, 1) := by decide +kernel
theorem dX10_addArc_37 : decode cX10_addArc 37 = .ok (.getfield 24, 3) := by decide +kernel
theorem dX10_addArc_40 : decode cX10_addArc 40 = .ok (.iload_n 1, 1) := by decide +kernel
theorem dX10_addArc_41 : decode cX10_addArc 41 = .ok (.iload_n 3, 1) := by decide +kernel
theorem dX10_addArc_42 : decode cX10_addArc 42 = .ok (.invokevirtual 51, 3) := by decide +kernel
theorem dX10_addArc_45 : decode cX10_addArc 45 = .ok (.aload_n 0, 1) := by decide +kernel
theorem dX10_addArc_46 : decode cX10_addArc 46 = .ok (.getfield 28, 3) := by decide +kernel
theorem dX10_addArc_49 : decode cX10_addArc 49 = .ok (.iload_n 2, 1) := by decide +kernel
theorem dX10_addArc_50 : decode cX10_addArc 50 = .ok (.iload_n 3, 1) := by decide +kernel
theorem dX10_addArc_51 : decode cX10_addArc 51 = .ok (.invokevirtual 51, 3) := by decide +kernel
theorem dX10_addArc_54 : decode cX10_addArc 54 = .ok (.aload_n 0, 1) := by decide +kernel
theorem dX10_addArc_55 : decode cX10_addArc 55 = .ok (.dup, 1) := by decide +kernel
theorem dX10_addArc_56 : decode cX10_addArc 56 = .ok (.getfield 39, 3) := by decide +kernel
theorem dX10_addArc_59 : decode cX10_addArc 59 = .ok (.iconst 1, 1) := by decide +kernel
theorem dX10_addArc_60 : decode cX10_addArc 60 = .ok (.iadd, 1) := by decide +kernel
theorem dX10_addArc_61 : decode cX10_addArc 61 = .ok (.putfield 39, 3) := by decide +kernel
theorem dX10_addArc_64 : decode cX10_addArc 64 = .ok (.aload_n 0, 1) := by decide +kernel
theorem dX10_addArc_65 : decode cX10_addArc 65 = .ok (.dup, 1) := by decide +kernel
theorem dX10_addArc_66 : decode cX10_addArc 66 = .ok (.getfield 42, 3) := by decide +kernel
theorem dX10_addArc_69 : decode cX10_addArc 69 = .ok (.iconst 1, 1) := by decide +kernel
theorem dX10_addArc_70 : decode cX10_addArc 70 = .ok (.iadd, 1) := by decide +kernel
theorem dX10_addArc_71 : decode cX10_addArc 71 = .ok (.putfield 42, 3) := by decide +kernel
theorem dX10_addArc_74 : decode cX10_addArc 74 = .ok (.aload_n 0, 1) := by decide +kernel
theorem dX10_addArc_75 : decode cX10_addArc 75 = .ok (.dup, 1) := by decide +kernel
theorem dX10_addArc_76 : decode cX10_addArc 76 = .ok (.getfield 48, 3) := by decide +kernel
theorem dX10_addArc_79 : decode cX10_addArc 79 = .ok (.iconst 1, 1) := by decide +kernel
theorem dX10_addArc_80 : decode cX10_addArc 80 = .ok (.iadd, 1) := by decide +kernel
theorem dX10_addArc_81 : decode cX10_addArc 81 = .ok (.putfield 48, 3) := by decide +kernel
theorem dX10_addArc_84 : decode cX10_addArc 84 = .ok (.iload_n 3, 1) := by decide +kernel
theorem dX10_addArc_85 : decode cX10_addArc 85 = .ok (.ireturn, 1) := by decide +kernel
theorem dX10_removeArc_0 : decode cX10_removeArc 0 = .ok (.aload_n 0, 1) := by decide +kernel
theorem dX10_removeArc_1 : decode cX10_removeArc 1 = .ok (.aload_n 0, 1) := by decide +kernel
theorem dX10_removeArc_2 : decode cX10_removeArc 2 = .ok (.getfield 18, 3) := by decide +kernel
theorem dX10_removeArc_5 : decode cX10_removeArc 5 = .ok (.aload_n 0, 1) := by decide +kernel
theorem dX10_removeArc_6 : decode cX10_removeArc 6 = .ok (.getfield 42, 3) := by decide +kernel
theorem dX10_removeArc_9 : decode cX10_removeArc 9 = .ok (.iload_n 1, 1) := by decide +kernel
theorem dX10_removeArc_10 : decode cX10_removeArc 10 = .ok (.invokestatic 55, 3) := by decide +kernel
theorem dX10_removeArc_13 : decode cX10_removeArc 13 = .ok (.putfield 42, 3) := by decide +kernel
theorem dX10_removeArc_16 : decode cX10_removeArc 16 = .ok (.aload_n 0, 1) := by decide +kernel
theorem dX10_removeArc_17 : decode cX10_removeArc 17 = .ok (.getfield 24, 3) := by decide +kernel
theorem dX10_removeArc_20 : decode cX10_removeArc 20 = .ok (.aload_n 0, 1) := by decide +kernel
theorem dX10_removeArc_21 : decode cX10_removeArc 21 = .ok (.getfield 9, 3) := by decide +kernel
theorem dX10_removeArc_24 : decode cX10_removeArc 24 = .ok (.iload_n 1, 1) := by decide +kernel
theorem dX10_removeArc_25 : decode cX10_removeArc 25 = .ok (.iaload, 1) := by decide +kernel
theorem dX10_removeArc_26 : decode cX10_removeArc 26 = .ok (.iload_n 1, 1) := by decide +kernel
theorem dX10_removeArc_27 : decode cX10_removeArc 27 = .ok (.invokevirtual 59, 3) := by decide +kernel
theorem dX10_removeArc_30 : decode cX10_removeArc 30 = .ok (.aload_n 0, 1) := by decide +kernel
theorem dX10_removeArc_31 : decode cX10_removeArc 31 = .ok (.getfield 28, 3) := by decide +kernel
theorem dX10_removeArc_34 : decode cX10_removeArc 34 = .ok (.aload_n 0, 1) := by decide +kernel
theorem dX10_removeArc_35 : decode cX10_removeArc 35 = .ok (.getfield 15, 3) := by decide +kernel
theorem dX10_removeArc_38 : decode cX10_removeArc 38 = .ok (.iload_n 1, 1) := by decide +kernel
theorem dX10_removeArc_39 : decode cX10_removeArc 39 = .ok (.iaload, 1) := by decide +kernel
theorem dX10_removeArc_40 : decode cX10_removeArc 40 = .ok (.iload_n 1, 1) := by decide +kernel
theorem dX10_removeArc_41 : decode cX10_removeArc 41 = .ok (.invokevirtual 59, 3) := by decide +kernel
theorem dX10_removeArc_44 : decode cX10_removeArc 44 = .ok (.aload_n 0, 1) := by decide +kernel
theorem dX10_removeArc_45 : decode cX10_removeArc 45 = .ok (.getfield 31, 3) := by decide +kernel
theorem dX10_removeArc_48 : decode cX10_removeArc 48 = .ok (.iload_n 1, 1) := by decide +kernel
theorem dX10_removeArc_49 : decode cX10_removeArc 49 = .ok (.iconst 0, 1) := by decide +kernel
theorem dX10_removeArc_50 : decode cX10_removeArc 50 = .ok (.bastore, 1) := by decide +kernel
theorem dX10_removeArc_51 : decode cX10_removeArc 51 = .ok (.aload_n 0, 1) := by decide +kernel
theorem dX10_removeArc_52 : decode cX10_removeArc 52 = .ok (.dup, 1) := by decide +kernel
theorem dX10_removeArc_53 : decode cX10_removeArc 53 = .ok (.getfield 48, 3) := by decide +kernel
theorem dX10_removeArc_56 : decode cX10_removeArc 56 = .ok (.iconst 1, 1) := by decide +kernel
theorem dX10_removeArc_57 : decode cX10_removeArc 57 = .ok (.iadd, 1) := by decide +kernel
theorem dX10_removeArc_58 : decode cX10_removeArc 58 = .ok (.putfield 48, 3) := by decide +kernel
theorem dX10_removeArc_61 : decode cX10_removeArc 61 = .ok (.return_, 1) := by decide +kernel
theorem dX10_empty_0 : decode cX10_empty 0 = .ok (.aload_n 0, 1) := by decide +kernel
theorem dX10_empty_1 : decode cX10_empty 1 = .ok (.iconst 0, 1) := by decide +kernel
theorem dX10_empty_2 : decode cX10_empty 2 = .ok (.putfield 35, 3) := by decide +kernel
theorem dX10_empty_5 : decode cX10_empty 5 = .ok (.aload_n 0, 1) := by decide +kernel
theorem dX10_empty_6 : decode cX10_empty 6 = .ok (.iconst 0, 1) := by decide +kernel
theorem dX10_empty_7 : decode cX10_empty 7 = .ok (.putfield 42, 3) := by decide +kernel
theorem dX10_empty_10 : decode cX10_empty 10 = .ok (.aload_n 0, 1) := by decide +kernel
theorem dX10_empty_11 : decode cX10_empty 11 = .ok (.iconst 0, 1) := by decide +kernel
theorem dX10_empty_12 : decode cX10_empty 12 = .ok (.putfield 39, 3) := by decide +kernel
theorem dX10_empty_15 : decode cX10_empty 15 = .ok (.aload_n 0, 1) := by decide +kernel
theorem dX10_empty_16 : decode cX10_empty 16 = .ok (.getfield 24, 3) := by decide +kernel
theorem dX10_empty_19 : decode cX10_empty 19 = .ok (.invokevirtual 62, 3) := by decide +kernel
theorem dX10_empty_22 : decode cX10_empty 22 = .ok (.aload_n 0, 1) := by decide +kernel
theorem dX10_empty_23 : decode cX10_empty 23 = .ok (.getfield 28, 3) := by decide +kernel
theorem dX10_empty_26 : decode cX10_empty 26 = .ok (.invokevirtual 62, 3) := by decide +kernel
theorem dX10_empty_29 : decode cX10_empty 29 = .ok (.aload_n 0, 1) := by decide +kernel
theorem dX10_empty_30 : decode cX10_empty 30 = .ok (.dup, 1) := by decide +kernel
theorem dX10_empty_31 : decode cX10_empty 31 = .ok (.getfield 48, 3) := by decide +kernel
theorem dX10_empty_34 : decode cX10_empty 34 = .ok (.iconst 1, 1) := by decide +kernel
theorem dX10_empty_35 : decode cX10_empty 35 = .ok (.iadd, 1) := by decide +kernel
theorem dX10_empty_36 : decode cX10_empty 36 = .ok (.putfield 48, 3) := by decide +kernel
theorem dX10_empty_39 : decode cX10_empty 39 = .ok (.return_, 1) := by decide +kernel
theorem dX10_other_0 : decode cX10_other 0 = .ok (.aload_n 0, 1) := by decide +kernel
theorem dX10_other_1 : decode cX10_other 1 = .ok (.getfield 9, 3) := by decide +kernel
theorem dX10_other_4 : decode cX10_other 4 = .ok (.iload_n 1, 1) := by decide +kernel
theorem dX10_other_5 : decode cX10_other 5 = .ok (.iaload, 1) := by decide +kernel
theorem dX10_other_6 : decode cX10_other 6 = .ok (.iload_n 2, 1) := by decide +kernel
theorem dX10_other_7 : decode cX10_other 7 = .ok (.if_icmp .ne 12, 3) := by decide +kernel
theorem dX10_other_10 : decode cX10_other 10 = .ok (.aload_n 0, 1) := by decide +kernel
theorem dX10_other_11 : decode cX10_other 11 = .ok (.getfield 15, 3) := by decide +kernel
theorem dX10_other_14 : decode cX10_other 14 = .ok (.iload_n 1, 1) := by decide +kernel
theorem dX10_other_15 : decode cX10_other 15 = .ok (.iaload, 1) := by decide +kernel
theorem dX10_other_16 : decode cX10_other 16 = .ok (.goto 9, 3) := by decide +kernel
theorem dX10_other_19 : decode cX10_other 19 = .ok (.aload_n 0, 1) := by decide +kernel
theorem dX10_other_20 : decode cX10_other 20 = .ok (.getfield 9, 3) := by decide +kernel
theorem dX10_other_23 : decode cX10_other 23 = .ok (.iload_n 1, 1) := by decide +kernel
theorem dX10_other_24 : decode cX10_other 24 = .ok (.iaload, 1) := by decide +kernel
theorem dX10_other_25 : decode cX10_other 25 = .ok (.ireturn, 1) := by decide +kernel
theorem dX10_degree_0 : decode cX10_degree 0 = .ok (.aload_n 0, 1) := by decide +kernel
theorem dX10_degree_1 : decode cX10_degree 1 = .ok (.getfield 24, 3) := by decide +kernel
theorem dX10_degree_4 : decode cX10_degree 4 = .ok (.getfield 65, 3) := by decide +kernel
theorem dX10_degree_7 : decode cX10_degree 7 = .ok (.iload_n 1, 1) := by decide +kernel
theorem dX10_degree_8 : decode cX10_degree 8 = .ok (.iconst 1, 1) := by decide +kernel
theorem dX10_degree_9 : decode cX10_degree 9 = .ok (.iadd, 1) := by decide +kernel
theorem dX10_degree_10 : decode cX10_degree 10 = .ok (.iaload, 1) := by decide +kernel
theorem dX10_degree_11 : decode cX10_degree 11 = .ok (.aload_n 0, 1) := by decide +kernel
theorem dX10_degree_12 : decode cX10_degree 12 = .ok (.getfield 24, 3) := by decide +kernel
theorem dX10_degree_15 : decode cX10_degree 15 = .ok (.getfield 65, 3) := by decide +kernel
theorem dX10_degree_18 : decode cX10_degree 18 = .ok (.iload_n 1, 1) := by decide +kernel
theorem dX10_degree_19 : decode cX10_degree 19 = .ok (.iaload, 1) := by decide +kernel
theorem dX10_degree_20 : decode cX10_degree 20 = .ok (.isub, 1) := by decide +kernel
theorem dX10_degree_21 : decode cX10_degree 21 = .ok (.aload_n 0, 1) := by decide +kernel
theorem dX10_degree_22 : decode cX10_degree 22 = .ok (.getfield 28, 3) := by decide +kernel
theorem dX10_degree_25 : decode cX10_degree 25 = .ok (.getfield 65, 3) := by decide +kernel
theorem dX10_degree_28 : decode cX10_degree 28 = .ok (.iload_n 1, 1) := by decide +kernel
theorem dX10_degree_29 : decode cX10_degree 29 = .ok (.iconst 1, 1) := by decide +kernel
theorem dX10_degree_30 : decode cX10_degree 30 = .ok (.iadd, 1) := by decide +kernel
theorem dX10_degree_31 : decode cX10_degree 31 = .ok (.iaload, 1) := by decide +kernel
theorem dX10_degree_32 : decode cX10_degree 32 = .ok (.iadd, 1) := by decide +kernel
theorem dX10_degree_33 : decode cX10_degree 33 = .ok (.aload_n 0, 1) := by decide +kernel
theorem dX10_degree_34 : decode cX10_degree 34 = .ok (.getfield 28, 3) := by decide +kernel
theorem dX10_degree_37 : decode cX10_degree 37 = .ok (.getfield 65, 3) := by decide +kernel
theorem dX10_degree_40 : decode cX10_degree 40 = .ok (.iload_n 1, 1) := by decide +kernel
theorem dX10_degree_41 : decode cX10_degree 41 = .ok (.iaload, 1) := by decide +kernel
theorem dX10_degree_42 : decode cX10_degree 42 = .ok (.isub, 1) := by decide +kernel
theorem dX10_degree_43 : decode cX10_degree 43 = .ok (.ireturn, 1) := by decide +kernel
theorem dX10_arcAt_0 : decode cX10_arcAt 0 = .ok (.aload_n 0, 1) := by decide +kernel
theorem dX10_arcAt_1 : decode cX10_arcAt 1 = .ok (.getfield 24, 3) := by decide +kernel
theorem dX10_arcAt_4 : decode cX10_arcAt 4 = .ok (.getfield 65, 3) := by decide +kernel
theorem dX10_arcAt_7 : decode cX10_arcAt 7 = .ok (.iload_n 1, 1) := by decide +kernel
theorem dX10_arcAt_8 : decode cX10_arcAt 8 = .ok (.iconst 1, 1) := by decide +kernel
theorem dX10_arcAt_9 : decode cX10_arcAt 9 = .ok (.iadd, 1) := by decide +kernel
theorem dX10_arcAt_10 : decode cX10_arcAt 10 = .ok (.iaload, 1) := by decide +kernel
theorem dX10_arcAt_11 : decode cX10_arcAt 11 = .ok (.aload_n 0, 1) := by decide +kernel
theorem dX10_arcAt_12 : decode cX10_arcAt 12 = .ok (.getfield 24, 3) := by decide +kernel
theorem dX10_arcAt_15 : decode cX10_arcAt 15 = .ok (.getfield 65, 3) := by decide +kernel
theorem dX10_arcAt_18 : decode cX10_arcAt 18 = .ok (.iload_n 1, 1) := by decide +kernel
theorem dX10_arcAt_19 : decode cX10_arcAt 19 = .ok (.iaload, 1) := by decide +kernel
theorem dX10_arcAt_20 : decode cX10_arcAt 20 = .ok (.isub, 1) := by decide +kernel
theorem dX10_arcAt_21 : decode cX10_arcAt 21 = .ok (.istore_n 3, 1) := by decide +kernel
theorem dX10_arcAt_22 : decode cX10_arcAt 22 = .ok (.iload_n 2, 1) := by decide +kernel
theorem dX10_arcAt_23 : decode cX10_arcAt 23 = .ok (.iload_n 3, 1) := by decide +kernel
theorem dX10_arcAt_24 : decode cX10_arcAt 24 = .ok (.if_icmp .ge 25, 3) := by decide +kernel
theorem dX10_arcAt_27 : decode cX10_arcAt 27 = .ok (.aload_n 0, 1) := by decide +kernel
theorem dX10_arcAt_28 : decode cX10_arcAt 28 = .ok (.getfield 24, 3) := by decide +kernel
theorem dX10_arcAt_31 : decode cX10_arcAt 31 = .ok (.getfield 68, 3) := by decide +kernel
theorem dX10_arcAt_34 : decode cX10_arcAt 34 = .ok (.aload_n 0, 1) := by decide +kernel
theorem dX10_arcAt_35 : decode cX10_arcAt 35 = .ok (.getfield 24, 3) := by decide +kernel
theorem dX10_arcAt_38 : decode cX10_arcAt 38 = .ok (.getfield 65, 3) := by decide +kernel
theorem dX10_arcAt_41 : decode cX10_arcAt 41 = .ok (.iload_n 1, 1) := by decide +kernel
theorem dX10_arcAt_42 : decode cX10_arcAt 42 = .ok (.iaload, 1) := by decide +kernel
theorem dX10_arcAt_43 : decode cX10_arcAt 43 = .ok (.iload_n 2, 1) := by decide +kernel
theorem dX10_arcAt_44 : decode cX10_arcAt 44 = .ok (.iadd, 1) := by decide +kernel
theorem dX10_arcAt_45 : decode cX10_arcAt 45 = .ok (.iaload, 1) := by decide +kernel
theorem dX10_arcAt_46 : decode cX10_arcAt 46 = .ok (.goto 24, 3) := by decide +kernel
theorem dX10_arcAt_49 : decode cX10_arcAt 49 = .ok (.aload_n 0, 1) := by decide +kernel
theorem dX10_arcAt_50 : decode cX10_arcAt 50 = .ok (.getfield 28, 3) := by decide +kernel
theorem dX10_arcAt_53 : decode cX10_arcAt 53 = .ok (.getfield 68, 3) := by decide +kernel
theorem dX10_arcAt_56 : decode cX10_arcAt 56 = .ok (.aload_n 0, 1) := by decide +kernel
theorem dX10_arcAt_57 : decode cX10_arcAt 57 = .ok (.getfield 28, 3) := by decide +kernel
theorem dX10_arcAt_60 : decode cX10_arcAt 60 = .ok (.getfield 65, 3) := by decide +kernel
theorem dX10_arcAt_63 : decode cX10_arcAt 63 = .ok (.iload_n 1, 1) := by decide +kernel
theorem dX10_arcAt_64 : decode cX10_arcAt 64 = .ok (.iaload, 1) := by decide +kernel
theorem dX10_arcAt_65 : decode cX10_arcAt 65 = .ok (.iload_n 2, 1) := by decide +kernel
theorem dX10_arcAt_66 : decode cX10_arcAt 66 = .ok (.iadd, 1) := by decide +kernel
theorem dX10_arcAt_67 : decode cX10_arcAt 67 = .ok (.iload_n 3, 1) := by decide +kernel
theorem dX10_arcAt_68 : decode cX10_arcAt 68 = .ok (.isub, 1) := by decide +kernel
theorem dX10_arcAt_69 : decode cX10_arcAt 69 = .ok (.iaload, 1) := by decide +kernel
theorem dX10_arcAt_70 : decode cX10_arcAt 70 = .ok (.ireturn, 1) := by decide +kernel
theorem dX11_init_0 : decode cX11_init 0 = .ok (.aload_n 0, 1) := by decide +kernel
theorem dX11_init_1 : decode cX11_init 1 = .ok (.invokespecial 1, 3) := by decide +kernel
theorem dX11_init_4 : decode cX11_init 4 = .ok (.aload_n 0, 1) := by decide +kernel
theorem dX11_init_5 : decode cX11_init 5 = .ok (.iload_n 1, 1) := by decide +kernel
theorem dX11_init_6 : decode cX11_init 6 = .ok (.iconst 1, 1) := by decide +kernel
theorem dX11_init_7 : decode cX11_init 7 = .ok (.if_icmp .ne 7, 3) := by decide +kernel
theorem dX11_init_10 : decode cX11_init 10 = .ok (.iconst 1, 1) := by decide +kernel
theorem dX11_init_11 : decode cX11_init 11 = .ok (.goto 4, 3) := by decide +kernel
theorem dX11_init_14 : decode cX11_init 14 = .ok (.iconst 0, 1) := by decide +kernel
theorem dX11_init_15 : decode cX11_init 15 = .ok (.putfield 7, 3) := by decide +kernel
theorem dX11_init_18 : decode cX11_init 18 = .ok (.aload_n 0, 1) := by decide +kernel
theorem dX11_init_19 : decode cX11_init 19 = .ok (.new 13, 3) := by decide +kernel
theorem dX11_init_22 : decode cX11_init 22 = .ok (.dup, 1) := by decide +kernel
theorem dX11_init_23 : decode cX11_init 23 = .ok (.invokespecial 15, 3) := by decide +kernel
theorem dX11_init_26 : decode cX11_init 26 = .ok (.putfield 16, 3) := by decide +kernel
theorem dX11_init_29 : decode cX11_init 29 = .ok (.aload_n 0, 1) := by decide +kernel
theorem dX11_init_30 : decode cX11_init 30 = .ok (.new 20, 3) := by decide +kernel
theorem dX11_init_33 : decode cX11_init 33 = .ok (.dup, 1) := by decide +kernel
theorem dX11_init_34 : decode cX11_init 34 = .ok (.aload_n 0, 1) := by decide +kernel
theorem dX11_init_35 : decode cX11_init 35 = .ok (.getfield 16, 3) := by decide +kernel
theorem dX11_init_38 : decode cX11_init 38 = .ok (.invokespecial 22, 3) := by decide +kernel
theorem dX11_init_41 : decode cX11_init 41 = .ok (.putfield 25, 3) := by decide +kernel
theorem dX11_init_44 : decode cX11_init 44 = .ok (.aload_n 0, 1) := by decide +kernel
theorem dX11_init_45 : decode cX11_init 45 = .ok (.new 29, 3) := by decide +kernel
theorem dX11_init_48 : decode cX11_init 48 = .ok (.dup, 1) := by decide +kernel
theorem dX11_init_49 : decode cX11_init 49 = .ok (.aload_n 0, 1) := by decide +kernel
theorem dX11_init_50 : decode cX11_init 50 = .ok (.getfield 16, 3) := by decide +kernel
theorem dX11_init_53 : decode cX11_init 53 = .ok (.aload_n 0, 1) := by decide +kernel
theorem dX11_init_54 : decode cX11_init 54 = .ok (.getfield 25, 3) := by decide +kernel
theorem dX11_init_57 : decode cX11_init 57 = .ok (.invokespecial 31, 3) := by decide +kernel
theorem dX11_init_60 : decode cX11_init 60 = .ok (.putfield 34, 3) := by decide +kernel
theorem dX11_init_63 : decode cX11_init 63 = .ok (.aload_n 0, 1) := by decide +kernel
theorem dX11_init_64 : decode cX11_init 64 = .ok (.new 38, 3) := by decide +kernel
theorem dX11_init_67 : decode cX11_init 67 = .ok (.dup, 1) := by decide +kernel
theorem dX11_init_68 : decode cX11_init 68 = .ok (.aload_n 0, 1) := by decide +kernel
theorem dX11_init_69 : decode cX11_init 69 = .ok (.getfield 16, 3) := by decide +kernel
theorem dX11_init_72 : decode cX11_init 72 = .ok (.aload_n 0, 1) := by decide +kernel
theorem dX11_init_73 : decode cX11_init 73 = .ok (.getfield 25, 3) := by decide +kernel
theorem dX11_init_76 : decode cX11_init 76 = .ok (.invokespecial 40, 3) := by decide +kernel
theorem dX11_init_79 : decode cX11_init 79 = .ok (.putfield 41, 3) := by decide +kernel
theorem dX11_init_82 : decode cX11_init 82 = .ok (.aload_n 0, 1) := by decide +kernel
theorem dX11_init_83 : decode cX11_init 83 = .ok (.new 45, 3) := by decide +kernel
theorem dX11_init_86 : decode cX11_init 86 = .ok (.dup, 1) := by decide +kernel
theorem dX11_init_87 : decode cX11_init 87 = .ok (.aload_n 0, 1) := by decide +kernel
theorem dX11_init_88 : decode cX11_init 88 = .ok (.getfield 16, 3) := by decide +kernel
theorem dX11_init_91 : decode cX11_init 91 = .ok (.invokespecial 47, 3) := by decide +kernel
theorem dX11_init_94 : decode cX11_init 94 = .ok (.putfield 48, 3) := by decide +kernel
theorem dX11_init_97 : decode cX11_init 97 = .ok (.aload_n 0, 1) := by decide +kernel
theorem dX11_init_98 : decode cX11_init 98 = .ok (.new 52, 3) := by decide +kernel
theorem dX11_init_101 : decode cX11_init 101 = .ok (.dup, 1) := by decide +kernel
theorem dX11_init_102 : decode cX11_init 102 = .ok (.aload_n 0, 1) := by decide +kernel
theorem dX11_init_103 : decode cX11_init 103 = .ok (.getfield 16, 3) := by decide +kernel
theorem dX11_init_106 : decode cX11_init 106 = .ok (.invokespecial 54, 3) := by decide +kernel
theorem dX11_init_109 : decode cX11_init 109 = .ok (.putfield 55, 3) := by decide +kernel
theorem dX11_init_112 : decode cX11_init 112 = .ok (.aload_n 0, 1) := by decide +kernel
theorem dX11_init_113 : decode cX11_init 113 = .ok (.new 59, 3) := by decide +kernel
theorem dX11_init_116 : decode cX11_init 116 = .ok (.dup, 1) := by decide +kernel
theorem dX11_init_117 : decode cX11_init 117 = .ok (.aload_n 0, 1) := by decide +kernel
theorem dX11_init_118 : decode cX11_init 118 = .ok (.getfield 16, 3) := by decide +kernel
theorem dX11_init_121 : decode cX11_init 121 = .ok (.invokespecial 61, 3) := by decide +kernel
theorem dX11_init_124 : decode cX11_init 124 = .ok (.putfield 62, 3) := by decide +kernel
theorem dX11_init_127 : decode cX11_init 127 = .ok (.aload_n 0, 1) := by decide +kernel
theorem dX11_init_128 : decode cX11_init 128 = .ok (.new 66, 3) := by decide +kernel
theorem dX11_init_131 : decode cX11_init 131 = .ok (.dup, 1) := by decide +kernel
theorem dX11_init_132 : decode cX11_init 132 = .ok (.aload_n 0, 1) := by decide +kernel
theorem dX11_init_133 : decode cX11_init 133 = .ok (.getfield 16, 3) := by decide +kernel
theorem dX11_init_136 : decode cX11_init 136 = .ok (.invokespecial 68, 3) := by decide +kernel
theorem dX11_init_139 : decode cX11_init 139 = .ok (.putfield 69, 3) := by decide +kernel
theorem dX11_init_142 : decode cX11_init 142 = .ok (.aload_n 0, 1) := by decide +kernel
theorem dX11_init_143 : decode cX11_init 143 = .ok (.new 73, 3) := by decide +kernel
theorem dX11_init_146 : decode cX11_init 146 = .ok (.dup, 1) := by decide +kernel
theorem dX11_init_147 : decode cX11_init 147 = .ok (.invokespecial 75, 3) := by decide +kernel
theorem dX11_init_150 : decode cX11_init 150 = .ok (.putfield 76, 3) := by decide +kernel
theorem dX11_init_153 : decode cX11_init 153 = .ok (.aload_n 0, 1) := by decide +kernel
theorem dX11_init_154 : decode cX11_init 154 = .ok (.new 80, 3) := by decide +kernel
theorem dX11_init_157 : decode cX11_init 157 = .ok (.dup, 1) := by decide +kernel
theorem dX11_init_158 : decode cX11_init 158 = .ok (.aload_n 0, 1) := by decide +kernel
theorem dX11_init_159 : decode cX11_init 159 = .ok (.getfield 16, 3) := by decide +kernel
theorem dX11_init_162 : decode cX11_init 162 = .ok (.aload_n 0, 1) := by decide +kernel
theorem dX11_init_163 : decode cX11_init 163 = .ok (.getfield 76, 3) := by decide +kernel
theorem dX11_init_166 : decode cX11_init 166 = .ok (.invokespecial 82, 3) := by decide +kernel
theorem dX11_init_169 : decode cX11_init 169 = .ok (.putfield 85, 3) := by decide +kernel
theorem dX11_init_172 : decode cX11_init 172 = .ok (.aload_n 0, 1) := by decide +kernel
theorem dX11_init_173 : decode cX11_init 173 = .ok (.new 59, 3) := by decide +kernel
theorem dX11_init_176 : decode cX11_init 176 = .ok (.dup, 1) := by decide +kernel
theorem dX11_init_177 : decode cX11_init 177 = .ok (.aload_n 0, 1) := by decide +kernel
theorem dX11_init_178 : decode cX11_init 178 = .ok (.getfield 16, 3) := by decide +kernel
theorem dX11_init_181 : decode cX11_init 181 = .ok (.invokespecial 61, 3) := by decide +kernel
theorem dX11_init_184 : decode cX11_init 184 = .ok (.putfield 89, 3) := by decide +kernel
theorem dX11_init_187 : decode cX11_init 187 = .ok (.aload_n 0, 1) := by decide +kernel
theorem dX11_init_188 : decode cX11_init 188 = .ok (.iconst 0, 1) := by decide +kernel
theorem dX11_init_189 : decode cX11_init 189 = .ok (.putfield 92, 3) := by decide +kernel
theorem dX11_init_192 : decode cX11_init 192 = .ok (.return_, 1) := by decide +kernel
theorem dX11_node_0 : decode cX11_node 0 = .ok (.aload_n 0, 1) := by decide +kernel
theorem dX11_node_1 : decode cX11_node 1 = .ok (.getfield 16, 3) := by decide +kernel
theorem dX11_node_4 : decode cX11_node 4 = .ok (.getfield 96, 3) := by decide +kernel
theorem dX11_node_7 : decode cX11_node 7 = .ok (.sipush 300, 3) := by decide +kernel
theorem dX11_node_10 : decode cX11_node 10 = .ok (.if_icmp .lt 13, 3) := by decide +kernel
theorem dX11_node_13 : decode cX11_node 13 = .ok (.new 99, 3) := by decide +kernel
theorem dX11_node_16 : decode cX11_node 16 = .ok (.dup, 1) := by decide +kernel
theorem dX11_node_17 : decode cX11_node 17 = .ok (.ldc 101, 2) := by decide +kernel
theorem dX11_node_19 : decode cX11_node 19 = .ok (.invokespecial 103, 3) := by decide +kernel
theorem dX11_node_22 : decode cX11_node 22 = .ok (.athrow, 1) := by decide +kernel
theorem dX11_node_23 : decode cX11_node 23 = .ok (.aload_n 0, 1) := by decide +kernel
theorem dX11_node_24 : decode cX11_node 24 = .ok (.getfield 85, 3) := by decide +kernel
theorem dX11_node_27 : decode cX11_node 27 = .ok (.invokevirtual 106, 3) := by decide +kernel
theorem dX11_node_30 : decode cX11_node 30 = .ok (.pop, 1) := by decide +kernel
theorem dX11_node_31 : decode cX11_node 31 = .ok (.aload_n 0, 1) := by decide +kernel
theorem dX11_node_32 : decode cX11_node 32 = .ok (.iload_n 1, 1) := by decide +kernel
theorem dX11_node_33 : decode cX11_node 33 = .ok (.invokevirtual 110, 3) := by decide +kernel
theorem dX11_node_36 : decode cX11_node 36 = .ok (.ireturn, 1) := by decide +kernel
theorem dX11_chain_0 : decode cX11_chain 0 = .ok (.iload_n 1, 1) := by decide +kernel
theorem dX11_chain_1 : decode cX11_chain 1 = .ok (.iconst 1, 1) := by decide +kernel
theorem dX11_chain_2 : decode cX11_chain 2 = .ok (.if_icmp .lt 10, 3) := by decide +kernel
theorem dX11_chain_5 : decode cX11_chain 5 = .ok (.iload_n 1, 1) := by decide +kernel
theorem dX11_chain_6 : decode cX11_chain 6 = .ok (.sipush 300, 3) := by decide +kernel
theorem dX11_chain_9 : decode cX11_chain 9 = .ok (.if_icmp .le 13, 3) := by decide +kernel
theorem dX11_chain_12 : decode cX11_chain 12 = .ok (.new 114, 3) := by decide +kernel
theorem dX11_chain_15 : decode cX11_chain 15 = .ok (.dup, 1) := by decide +kernel
theorem dX11_chain_16 : decode cX11_chain 16 = .ok (.ldc 116, 2) := by decide +kernel
theorem dX11_chain_18 : decode cX11_chain 18 = .ok (.invokespecial 118, 3) := by decide +kernel
theorem dX11_chain_21 : decode cX11_chain 21 = .ok (.athrow, 1) := by decide +kernel
theorem dX11_chain_22 : decode cX11_chain 22 = .ok (.iload_n 1, 1) := by decide +kernel
theorem dX11_chain_23 : decode cX11_chain 23 = .ok (.sipush 300, 3) := by decide +kernel
theorem dX11_chain_26 : decode cX11_chain 26 = .ok (.aload_n 0, 1) := by decide +kernel
theorem dX11_chain_27 : decode cX11_chain 27 = .ok (.getfield 16, 3) := by decide +kernel
theorem dX11_chain_30 : decode cX11_chain 30 = .ok (.getfield 96, 3) := by decide +kernel
theorem dX11_chain_33 : decode cX11_chain 33 = .ok (.isub, 1) := by decide +kernel
theorem dX11_chain_34 : decode cX11_chain 34 = .ok (.if_icmp .gt 16, 3) := by decide +kernel
theorem dX11_chain_37 : decode cX11_chain 37 = .ok (.aload_n 0, 1) := by decide +kernel
theorem dX11_chain_38 : decode cX11_chain 38 = .ok (.getfield 16, 3) := by decide +kernel
theorem dX11_chain_41 : decode cX11_chain 41 = .ok (.iload_n 1, 1) := by decide +kernel
theorem dX11_chain_42 : decode cX11_chain 42 = .ok (.iconst 1, 1) := by decide +kernel
theorem dX11_chain_43 : decode cX11_chain 43 = .ok (.isub, 1) := by decide +kernel
theorem dX11_chain_44 : decode cX11_chain 44 = .ok (.invokevirtual 119, 3) := by decide +kernel
theorem dX11_chain_47 : decode cX11_chain 47 = .ok (.ifCond .ne 13, 3) := by decide +kernel
theorem dX11_chain_50 : decode cX11_chain 50 = .ok (.new 99, 3) := by decide +kernel
theorem dX11_chain_53 : decode cX11_chain 53 = .ok (.dup, 1) := by decide +kernel
theorem dX11_chain_54 : decode cX11_chain 54 = .ok (.ldc 123, 2) := by decide +kernel
theorem dX11_chain_56 : decode cX11_chain 56 = .ok (.invokespecial 103, 3) := by decide +kernel
theorem dX11_chain_59 : decode cX11_chain 59 = .ok (.athrow, 1) := by decide +kernel
theorem dX11_chain_60 : decode cX11_chain 60 = .ok (.aload_n 0, 1) := by decide +kernel
theorem dX11_chain_61 : decode cX11_chain 61 = .ok (.getfield 85, 3) := by decide +kernel
theorem dX11_chain_64 : decode cX11_chain 64 = .ok (.invokevirtual 106, 3) := by decide +kernel
theorem dX11_chain_67 : decode cX11_chain 67 = .ok (.pop, 1) := by decide +kernel
theorem dX11_chain_68 : decode cX11_chain 68 = .ok (.aload_n 0, 1) := by decide +kernel
theorem dX11_chain_69 : decode cX11_chain 69 = .ok (.getfield 16, 3) := by decide +kernel
theorem dX11_chain_72 : decode cX11_chain 72 = .ok (.getfield 96, 3) := by decide +kernel
theorem dX11_chain_75 : decode cX11_chain 75 = .ok (.istore_n 2, 1) := by decide +kernel
theorem dX11_chain_76 : decode cX11_chain 76 = .ok (.iconst 0, 1) := by decide +kernel
theorem dX11_chain_77 : decode cX11_chain 77 = .ok (.istore_n 3, 1) := by decide +kernel
theorem dX11_chain_78 : decode cX11_chain 78 = .ok (.iload_n 3, 1) := by decide +kernel
theorem dX11_chain_79 : decode cX11_chain 79 = .ok (.iload_n 1, 1) := by decide +kernel
theorem dX11_chain_80 : decode cX11_chain 80 = .ok (.if_icmp .ge 15, 3) := by decide +kernel
theorem dX11_chain_83 : decode cX11_chain 83 = .ok (.aload_n 0, 1) := by decide +kernel
theorem dX11_chain_84 : decode cX11_chain 84 = .ok (.iconst 0, 1) := by decide +kernel
theorem dX11_chain_85 : decode cX11_chain 85 = .ok (.invokevirtual 110, 3) := by decide +kernel
theorem dX11_chain_88 : decode cX11_chain 88 = .ok (.pop, 1) := by decide +kernel
theorem dX11_chain_89 : decode cX11_chain 89 = .ok (.iinc 3 1, 3) := by decide +kernel
theorem dX11_chain_92 : decode cX11_chain 92 = .ok (.goto (-14), 3) := by decide +kernel
theorem dX11_chain_95 : decode cX11_chain 95 = .ok (.iconst 1, 1) := by decide +kernel
theorem dX11_chain_96 : decode cX11_chain 96 = .ok (.istore_n 3, 1) := by decide +kernel
theorem dX11_chain_97 : decode cX11_chain 97 = .ok (.iload_n 3, 1) := by decide +kernel
theorem dX11_chain_98 : decode cX11_chain 98 = .ok (.iload_n 1, 1) := by decide +kernel
theorem dX11_chain_99 : decode cX11_chain 99 = .ok (.if_icmp .ge 23, 3) := by decide +kernel
theorem dX11_chain_102 : decode cX11_chain 102 = .ok (.aload_n 0, 1) := by decide +kernel
theorem dX11_chain_103 : decode cX11_chain 103 = .ok (.iload_n 2, 1) := by decide +kernel
theorem dX11_chain_104 : decode cX11_chain 104 = .ok (.iload_n 3, 1) := by decide +kernel
theorem dX11_chain_105 : decode cX11_chain 105 = .ok (.iadd, 1) := by decide +kernel
theorem dX11_chain_106 : decode cX11_chain 106 = .ok (.iconst 1, 1) := by decide +kernel
theorem dX11_chain_107 : decode cX11_chain 107 = .ok (.isub, 1) := by decide +kernel
theorem dX11_chain_108 : decode cX11_chain 108 = .ok (.iload_n 2, 1) := by decide +kernel
theorem dX11_chain_109 : decode cX11_chain 109 = .ok (.iload_n 3, 1) := by decide +kernel
theorem dX11_chain_110 : decode cX11_chain 110 = .ok (.iadd, 1) := by decide +kernel
theorem dX11_chain_111 : decode cX11_chain 111 = .ok (.iconst 0, 1) := by decide +kernel
theorem dX11_chain_112 : decode cX11_chain 112 = .ok (.invokevirtual 125, 3) := by decide +kernel
theorem dX11_chain_115 : decode cX11_chain 115 = .ok (.pop, 1) := by decide +kernel
theorem dX11_chain_116 : decode cX11_chain 116 = .ok (.iinc 3 1, 3) := by decide +kernel
theorem dX11_chain_119 : decode cX11_chain 119 = .ok (.goto (-22), 3) := by decide +kernel
theorem dX11_chain_122 : decode cX11_chain 122 = .ok (.iload_n 2, 1) := by decide +kernel
theorem dX11_chain_123 : decode cX11_chain 123 = .ok (.ireturn, 1) := by decide +kernel
theorem dX11_put_0 : decode cX11_put 0 = .ok (.aload_n 0, 1) := by decide +kernel
theorem dX11_put_1 : decode cX11_put 1 = .ok (.getfield 16, 3) := by decide +kernel
theorem dX11_put_4 : decode cX11_put 4 = .ok (.iload_n 1, 1) := by decide +kernel
theorem dX11_put_5 : decode cX11_put 5 = .ok (.invokevirtual 129, 3) := by decide +kernel
theorem dX11_put_8 : decode cX11_put 8 = .ok (.ifCond .eq 14, 3) := by decide +kernel
theorem dX11_put_11 : decode cX11_put 11 = .ok (.aload_n 0, 1) := by decide +kernel
theorem dX11_put_12 : decode cX11_put 12 = .ok (.getfield 16, 3) := by decide +kernel
theorem dX11_put_15 : decode cX11_put 15 = .ok (.iload_n 2, 1) := by decide +kernel
theorem dX11_put_16 : decode cX11_put 16 = .ok (.invokevirtual 129, 3) := by decide +kernel
theorem dX11_put_19 : decode cX11_put 19 = .ok (.ifCond .ne 13, 3) := by decide +kernel
theorem dX11_put_22 : decode cX11_put 22 = .ok (.new 132, 3) := by decide +kernel
theorem dX11_put_25 : decode cX11_put 25 = .ok (.dup, 1) := by decide +kernel
theorem dX11_put_26 : decode cX11_put 26 = .ok (.ldc 134, 2) := by decide +kernel
theorem dX11_put_28 : decode cX11_put 28 = .ok (.invokespecial 136, 3) := by decide +kernel
theorem dX11_put_31 : decode cX11_put 31 = .ok (.athrow, 1) := by decide +kernel
theorem dX11_put_32 : decode cX11_put 32 = .ok (.aload_n 0, 1) := by decide +kernel
theorem dX11_put_33 : decode cX11_put 33 = .ok (.getfield 16, 3) := by decide +kernel
theorem dX11_put_36 : decode cX11_put 36 = .ok (.iconst 1, 1) := by decide +kernel
theorem dX11_put_37 : decode cX11_put 37 = .ok (.invokevirtual 119, 3) := by decide +kernel
theorem dX11_put_40 : decode cX11_put 40 = .ok (.ifCond .ne 13, 3) := by decide +kernel
theorem dX11_put_43 : decode cX11_put 43 = .ok (.new 99, 3) := by decide +kernel
theorem dX11_put_46 : decode cX11_put 46 = .ok (.dup, 1) := by decide +kernel
theorem dX11_put_47 : decode cX11_put 47 = .ok (.ldc 137, 2) := by decide +kernel
theorem dX11_put_49 : decode cX11_put 49 = .ok (.invokespecial 103, 3) := by decide +kernel
theorem dX11_put_52 : decode cX11_put 52 = .ok (.athrow, 1) := by decide +kernel
theorem dX11_put_53 : decode cX11_put 53 = .ok (.aload_n 0, 1) := by decide +kernel
theorem dX11_put_54 : decode cX11_put 54 = .ok (.getfield 48, 3) := by decide +kernel
theorem dX11_put_57 : decode cX11_put 57 = .ok (.iload_n 1, 1) := by decide +kernel
theorem dX11_put_58 : decode cX11_put 58 = .ok (.iload_n 2, 1) := by decide +kernel
theorem dX11_put_59 : decode cX11_put 59 = .ok (.invokevirtual 139, 3) := by decide +kernel
theorem dX11_put_62 : decode cX11_put 62 = .ok (.istore_n 3, 1) := by decide +kernel
theorem dX11_put_63 : decode cX11_put 63 = .ok (.iload_n 3, 1) := by decide +kernel
theorem dX11_put_64 : decode cX11_put 64 = .ok (.ifCond .eq 12, 3) := by decide +kernel
theorem dX11_put_67 : decode cX11_put 67 = .ok (.aload_n 0, 1) := by decide +kernel
theorem dX11_put_68 : decode cX11_put 68 = .ok (.getfield 7, 3) := by decide +kernel
theorem dX11_put_71 : decode cX11_put 71 = .ok (.ifCond .eq 5, 3) := by decide +kernel
theorem dX11_put_74 : decode cX11_put 74 = .ok (.iconst (-1), 1) := by decide +kernel
theorem dX11_put_75 : decode cX11_put 75 = .ok (.ireturn, 1) := by decide +kernel
theorem dX11_put_76 : decode cX11_put 76 = .ok (.aload_n 0, 1) := by decide +kernel
theorem dX11_put_77 : decode cX11_put 77 = .ok (.getfield 85, 3) := by decide +kernel
theorem dX11_put_80 : decode cX11_put 80 = .ok (.invokevirtual 106, 3) := by decide +kernel
theorem dX11_put_83 : decode cX11_put 83 = .ok (.pop, 1) := by decide +kernel
theorem dX11_put_84 : decode cX11_put 84 = .ok (.aload_n 0, 1) := by decide +kernel
theorem dX11_put_85 : decode cX11_put 85 = .ok (.iload_n 1, 1) := by decide +kernel
theorem dX11_put_86 : decode cX11_put 86 = .ok (.iload_n 2, 1) := by decide +kernel
theorem dX11_put_87 : decode cX11_put 87 = .ok (.iload_n 3, 1) := by decide +kernel
theorem dX11_put_88 : decode cX11_put 88 = .ok (.invokevirtual 125, 3) := by decide +kernel
theorem dX11_put_91 : decode cX11_put 91 = .ok (.ireturn, 1) := by decide +kernel
theorem dX11_take_0 : decode cX11_take 0 = .ok (.aload_n 0, 1) := by decide +kernel
theorem dX11_take_1 : decode cX11_take 1 = .ok (.getfield 16, 3) := by decide +kernel
theorem dX11_take_4 : decode cX11_take 4 = .ok (.iload_n 1, 1) := by decide +kernel
theorem dX11_take_5 : decode cX11_take 5 = .ok (.invokevirtual 143, 3) := by decide +kernel
theorem dX11_take_8 : decode cX11_take 8 = .ok (.ifCond .ne 13, 3) := by decide +kernel
theorem dX11_take_11 : decode cX11_take 11 = .ok (.new 132, 3) := by decide +kernel
theorem dX11_take_14 : decode cX11_take 14 = .ok (.dup, 1) := by decide +kernel
theorem dX11_take_15 : decode cX11_take 15 = .ok (.ldc 146, 2) := by decide +kernel
theorem dX11_take_17 : decode cX11_take 17 = .ok (.invokespecial 136, 3) := by decide +kernel
theorem dX11_take_20 : decode cX11_take 20 = .ok (.athrow, 1) := by decide +kernel
theorem dX11_take_21 : decode cX11_take 21 = .ok (.aload_n 0, 1) := by decide +kernel
theorem dX11_take_22 : decode cX11_take 22 = .ok (.getfield 85, 3) := by decide +kernel
theorem dX11_take_25 : decode cX11_take 25 = .ok (.invokevirtual 106, 3) := by decide +kernel
theorem dX11_take_28 : decode cX11_take 28 = .ok (.pop, 1) := by decide +kernel
theorem dX11_take_29 : decode cX11_take 29 = .ok (.aload_n 0, 1) := by decide +kernel
theorem dX11_take_30 : decode cX11_take 30 = .ok (.getfield 16, 3) := by decide +kernel
theorem dX11_take_33 : decode cX11_take 33 = .ok (.iload_n 1, 1) := by decide +kernel
theorem dX11_take_34 : decode cX11_take 34 = .ok (.invokevirtual 148, 3) := by decide +kernel
theorem dX11_take_37 : decode cX11_take 37 = .ok (.aload_n 0, 1) := by decide +kernel
theorem dX11_take_38 : decode cX11_take 38 = .ok (.getfield 25, 3) := by decide +kernel
theorem dX11_take_41 : decode cX11_take 41 = .ok (.iload_n 1, 1) := by decide +kernel
theorem dX11_take_42 : decode cX11_take 42 = .ok (.invokevirtual 152, 3) := by decide +kernel
theorem dX11_take_45 : decode cX11_take 45 = .ok (.aload_n 0, 1) := by decide +kernel
theorem dX11_take_46 : decode cX11_take 46 = .ok (.getfield 48, 3) := by decide +kernel
theorem dX11_take_49 : decode cX11_take 49 = .ok (.iload_n 1, 1) := by decide +kernel
theorem dX11_take_50 : decode cX11_take 50 = .ok (.invokevirtual 155, 3) := by decide +kernel
theorem dX11_take_53 : decode cX11_take 53 = .ok (.aload_n 0, 1) := by decide +kernel
theorem dX11_take_54 : decode cX11_take 54 = .ok (.aload_n 0, 1) := by decide +kernel
theorem dX11_take_55 : decode cX11_take 55 = .ok (.getfield 69, 3) := by decide +kernel
theorem dX11_take_58 : decode cX11_take 58 = .ok (.aload_n 0, 1) := by decide +kernel
theorem dX11_take_59 : decode cX11_take 59 = .ok (.getfield 16, 3) := by decide +kernel
theorem dX11_take_62 : decode cX11_take 62 = .ok (.getfield 156, 3) := by decide +kernel
theorem dX11_take_65 : decode cX11_take 65 = .ok (.iload_n 1, 1) := by decide +kernel
theorem dX11_take_66 : decode cX11_take 66 = .ok (.iaload, 1) := by decide +kernel
theorem dX11_take_67 : decode cX11_take 67 = .ok (.aload_n 0, 1) := by decide +kernel
theorem dX11_take_68 : decode cX11_take 68 = .ok (.getfield 16, 3) := by decide +kernel
theorem dX11_take_71 : decode cX11_take 71 = .ok (.getfield 160, 3) := by decide +kernel
theorem dX11_take_74 : decode cX11_take 74 = .ok (.iload_n 1, 1) := by decide +kernel
theorem dX11_take_75 : decode cX11_take 75 = .ok (.iaload, 1) := by decide +kernel
theorem dX11_take_76 : decode cX11_take 76 = .ok (.invokevirtual 163, 3) := by decide +kernel
theorem dX11_take_79 : decode cX11_take 79 = .ok (.putfield 92, 3) := by decide +kernel
theorem dX11_take_82 : decode cX11_take 82 = .ok (.aload_n 0, 1) := by decide +kernel
theorem dX11_take_83 : decode cX11_take 83 = .ok (.getfield 25, 3) := by decide +kernel
theorem dX11_take_86 : decode cX11_take 86 = .ok (.invokevirtual 167, 3) := by decide +kernel
theorem dX11_take_89 : decode cX11_take 89 = .ok (.ireturn, 1) := by decide +kernel
theorem dX11_weigh_0 : decode cX11_weigh 0 = .ok (.aload_n 0, 1) := by decide +kernel
theorem dX11_weigh_1 : decode cX11_weigh 1 = .ok (.getfield 16, 3) := by decide +kernel
theorem dX11_weigh_4 : decode cX11_weigh 4 = .ok (.iload_n 1, 1) := by decide +kernel
theorem dX11_weigh_5 : decode cX11_weigh 5 = .ok (.invokevirtual 129, 3) := by decide +kernel
theorem dX11_weigh_8 : decode cX11_weigh 8 = .ok (.ifCond .ne 13, 3) := by decide +kernel
theorem dX11_weigh_11 : decode cX11_weigh 11 = .ok (.new 132, 3) := by decide +kernel
theorem dX11_weigh_14 : decode cX11_weigh 14 = .ok (.dup, 1) := by decide +kernel
theorem dX11_weigh_15 : decode cX11_weigh 15 = .ok (.ldc 134, 2) := by decide +kernel
theorem dX11_weigh_17 : decode cX11_weigh 17 = .ok (.invokespecial 136, 3) := by decide +kernel
theorem dX11_weigh_20 : decode cX11_weigh 20 = .ok (.athrow, 1) := by decide +kernel
theorem dX11_weigh_21 : decode cX11_weigh 21 = .ok (.aload_n 0, 1) := by decide +kernel
theorem dX11_weigh_22 : decode cX11_weigh 22 = .ok (.getfield 69, 3) := by decide +kernel
theorem dX11_weigh_25 : decode cX11_weigh 25 = .ok (.iload_n 1, 1) := by decide +kernel
theorem dX11_weigh_26 : decode cX11_weigh 26 = .ok (.iload_n 2, 1) := by decide +kernel
theorem dX11_weigh_27 : decode cX11_weigh 27 = .ok (.invokevirtual 170, 3) := by decide +kernel
theorem dX11_weigh_30 : decode cX11_weigh 30 = .ok (.ireturn, 1) := by decide +kernel
theorem dX11_joined_0 : decode cX11_joined 0 = .ok (.aload_n 0, 1) := by decide +kernel
theorem dX11_joined_1 : decode cX11_joined 1 = .ok (.getfield 16, 3) := by decide +kernel
theorem dX11_joined_4 : decode cX11_joined 4 = .ok (.iload_n 1, 1) := by decide +kernel
theorem dX11_joined_5 : decode cX11_joined 5 = .ok (.invokevirtual 129, 3) := by decide +kernel
theorem dX11_joined_8 : decode cX11_joined 8 = .ok (.ifCond .eq 14, 3) := by decide +kernel
theorem dX11_joined_11 : decode cX11_joined 11 = .ok (.aload_n 0, 1) := by decide +kernel
theorem dX11_joined_12 : decode cX11_joined 12 = .ok (.getfield 16, 3) := by decide +kernel
theorem dX11_joined_15 : decode cX11_joined 15 = .ok (.iload_n 2, 1) := by decide +kernel
theorem dX11_joined_16 : decode cX11_joined 16 = .ok (.invokevirtual 129, 3) := by decide +kernel
theorem dX11_joined_19 : decode cX11_joined 19 = .ok (.ifCond .ne 13, 3) := by decide +kernel
theorem dX11_joined_22 : decode cX11_joined 22 = .ok (.new 132, 3) := by decide +kernel
theorem dX11_joined_25 : decode cX11_joined 25 = .ok (.dup, 1) := by decide +kernel
theorem dX11_joined_26 : decode cX11_joined 26 = .ok (.ldc 134, 2) := by decide +kernel
theorem dX11_joined_28 : decode cX11_joined 28 = .ok (.invokespecial 136, 3) := by decide +kernel
theorem dX11_joined_31 : decode cX11_joined 31 = .ok (.athrow, 1) := by decide +kernel
theorem dX11_joined_32 : decode cX11_joined 32 = .ok (.aload_n 0, 1) := by decide +kernel
theorem dX11_joined_33 : decode cX11_joined 33 = .ok (.getfield 25, 3) := by decide +kernel
theorem dX11_joined_36 : decode cX11_joined 36 = .ok (.iload_n 1, 1) := by decide +kernel
theorem dX11_joined_37 : decode cX11_joined 37 = .ok (.iload_n 2, 1) := by decide +kernel
theorem dX11_joined_38 : decode cX11_joined 38 = .ok (.invokevirtual 173, 3) := by decide +kernel
theorem dX11_joined_41 : decode cX11_joined 41 = .ok (.ireturn, 1) := by decide +kernel
theorem dX11_two_0 : decode cX11_two 0 = .ok (.aload_n 0, 1) := by decide +kernel
theorem dX11_two_1 : decode cX11_two 1 = .ok (.getfield 16, 3) := by decide +kernel
theorem dX11_two_4 : decode cX11_two 4 = .ok (.iload_n 1, 1) := by decide +kernel
theorem dX11_two_5 : decode cX11_two 5 = .ok (.invokevirtual 129, 3) := by decide +kernel
theorem dX11_two_8 : decode cX11_two 8 = .ok (.ifCond .eq 14, 3) := by decide +kernel
theorem dX11_two_11 : decode cX11_two 11 = .ok (.aload_n 0, 1) := by decide +kernel
theorem dX11_two_12 : decode cX11_two 12 = .ok (.getfield 16, 3) := by decide +kernel
theorem dX11_two_15 : decode cX11_two 15 = .ok (.iload_n 2, 1) := by decide +kernel
theorem dX11_two_16 : decode cX11_two 16 = .ok (.invokevirtual 129, 3) := by decide +kernel
theorem dX11_two_19 : decode cX11_two 19 = .ok (.ifCond .ne 13, 3) := by decide +kernel
theorem dX11_two_22 : decode cX11_two 22 = .ok (.new 132, 3) := by decide +kernel
theorem dX11_two_25 : decode cX11_two 25 = .ok (.dup, 1) := by decide +kernel
theorem dX11_two_26 : decode cX11_two 26 = .ok (.ldc 134, 2) := by decide +kernel
theorem dX11_two_28 : decode cX11_two 28 = .ok (.invokespecial 136, 3) := by decide +kernel
theorem dX11_two_31 : decode cX11_two 31 = .ok (.athrow, 1) := by decide +kernel
theorem dX11_two_32 : decode cX11_two 32 = .ok (.aload_n 0, 1) := by decide +kernel
theorem dX11_two_33 : decode cX11_two 33 = .ok (.getfield 41, 3) := by decide +kernel
theorem dX11_two_36 : decode cX11_two 36 = .ok (.iload_n 1, 1) := by decide +kernel
theorem dX11_two_37 : decode cX11_two 37 = .ok (.iload_n 2, 1) := by decide +kernel
theorem dX11_two_38 : decode cX11_two 38 = .ok (.invokevirtual 176, 3) := by decide +kernel
theorem dX11_two_41 : decode cX11_two 41 = .ok (.ireturn, 1) := by decide +kernel
theorem dX11_of_0 : decode cX11_of 0 = .ok (.aload_n 0, 1) := by decide +kernel
theorem dX11_of_1 : decode cX11_of 1 = .ok (.getfield 16, 3) := by decide +kernel
theorem dX11_of_4 : decode cX11_of 4 = .ok (.iload_n 1, 1) := by decide +kernel
theorem dX11_of_5 : decode cX11_of 5 = .ok (.invokevirtual 129, 3) := by decide +kernel
theorem dX11_of_8 : decode cX11_of 8 = .ok (.ifCond .ne 13, 3) := by decide +kernel
theorem dX11_of_11 : decode cX11_of 11 = .ok (.new 132, 3) := by decide +kernel
theorem dX11_of_14 : decode cX11_of 14 = .ok (.dup, 1) := by decide +kernel
theorem dX11_of_15 : decode cX11_of 15 = .ok (.ldc 134, 2) := by decide +kernel
theorem dX11_of_17 : decode cX11_of 17 = .ok (.invokespecial 136, 3) := by decide +kernel
theorem dX11_of_20 : decode cX11_of 20 = .ok (.athrow, 1) := by decide +kernel
theorem dX11_of_21 : decode cX11_of 21 = .ok (.iload_n 2, 1) := by decide +kernel
theorem dX11_of_22 : decode cX11_of 22 = .ok (.tableswitch 150 0 8 #[50, 59, 69, 78, 87, 96, 113, 122, 132], 50) := by decide +kernel
theorem dX11_of_72 : decode cX11_of 72 = .ok (.aload_n 0, 1) := by decide +kernel
theorem dX11_of_73 : decode cX11_of 73 = .ok (.getfield 69, 3) := by decide +kernel
theorem dX11_of_76 : decode cX11_of 76 = .ok (.iload_n 1, 1) := by decide +kernel
theorem dX11_of_77 : decode cX11_of 77 = .ok (.invokevirtual 177, 3) := by decide +kernel
theorem dX11_of_80 : decode cX11_of 80 = .ok (.ireturn, 1) := by decide +kernel
theorem dX11_of_81 : decode cX11_of 81 = .ok (.aload_n 0, 1) := by decide +kernel
theorem dX11_of_82 : decode cX11_of 82 = .ok (.getfield 25, 3) := by decide +kernel
theorem dX11_of_85 : decode cX11_of 85 = .ok (.getfield 180, 3) := by decide +kernel
theorem dX11_of_88 : decode cX11_of 88 = .ok (.iload_n 1, 1) := by decide +kernel
theorem dX11_of_89 : decode cX11_of 89 = .ok (.iaload, 1) := by decide +kernel
theorem dX11_of_90 : decode cX11_of 90 = .ok (.ireturn, 1) := by decide +kernel
theorem dX11_of_91 : decode cX11_of 91 = .ok (.aload_n 0, 1) := by decide +kernel
theorem dX11_of_92 : decode cX11_of 92 = .ok (.getfield 55, 3) := by decide +kernel
theorem dX11_of_95 : decode cX11_of 95 = .ok (.iload_n 1, 1) := by decide +kernel
theorem dX11_of_96 : decode cX11_of 96 = .ok (.invokevirtual 183, 3) := by decide +kernel
theorem dX11_of_99 : decode cX11_of 99 = .ok (.ireturn, 1) := by decide +kernel
theorem dX11_of_100 : decode cX11_of 100 = .ok (.aload_n 0, 1) := by decide +kernel
theorem dX11_of_101 : decode cX11_of 101 = .ok (.getfield 48, 3) := by decide +kernel
theorem dX11_of_104 : decode cX11_of 104 = .ok (.iload_n 1, 1) := by decide +kernel
theorem dX11_of_105 : decode cX11_of 105 = .ok (.invokevirtual 186, 3) := by decide +kernel
theorem dX11_of_108 : decode cX11_of 108 = .ok (.ireturn, 1) := by decide +kernel
theorem dX11_of_109 : decode cX11_of 109 = .ok (.aload_n 0, 1) := by decide +kernel
theorem dX11_of_110 : decode cX11_of 110 = .ok (.getfield 62, 3) := by decide +kernel
theorem dX11_of_113 : decode cX11_of 113 = .ok (.iload_n 1, 1) := by decide +kernel
theorem dX11_of_114 : decode cX11_of 114 = .ok (.invokevirtual 189, 3) := by decide +kernel
theorem dX11_of_117 : decode cX11_of 117 = .ok (.ireturn, 1) := by decide +kernel
theorem dX11_of_118 : decode cX11_of 118 = .ok (.aload_n 0, 1) := by decide +kernel
theorem dX11_of_119 : decode cX11_of 119 = .ok (.getfield 69, 3) := by decide +kernel
theorem dX11_of_122 : decode cX11_of 122 = .ok (.iload_n 1, 1) := by decide +kernel
theorem dX11_of_123 : decode cX11_of 123 = .ok (.invokevirtual 192, 3) := by decide +kernel
theorem dX11_of_126 : decode cX11_of 126 = .ok (.ifCond .eq 7, 3) := by decide +kernel
theorem dX11_of_129 : decode cX11_of 129 = .ok (.iconst 1, 1) := by decide +kernel
theorem dX11_of_130 : decode cX11_of 130 = .ok (.goto 4, 3) := by decide +kernel
theorem dX11_of_133 : decode cX11_of 133 = .ok (.iconst 0, 1) := by decide +kernel
theorem dX11_of_134 : decode cX11_of 134 = .ok (.ireturn, 1) := by decide +kernel
theorem dX11_of_135 : decode cX11_of 135 = .ok (.aload_n 0, 1) := by decide +kernel
theorem dX11_of_136 : decode cX11_of 136 = .ok (.getfield 62, 3) := by decide +kernel
theorem dX11_of_139 : decode cX11_of 139 = .ok (.iload_n 1, 1) := by decide +kernel
theorem dX11_of_140 : decode cX11_of 140 = .ok (.invokevirtual 195, 3) := by decide +kernel
theorem dX11_of_143 : decode cX11_of 143 = .ok (.ireturn, 1) := by decide +kernel
theorem dX11_of_144 : decode cX11_of 144 = .ok (.aload_n 0, 1) := by decide +kernel
theorem dX11_of_145 : decode cX11_of 145 = .ok (.getfield 25, 3) := by decide +kernel
theorem dX11_of_148 : decode cX11_of 148 = .ok (.getfield 198, 3) := by decide +kernel
theorem dX11_of_151 : decode cX11_of 151 = .ok (.iload_n 1, 1) := by decide +kernel
theorem dX11_of_152 : decode cX11_of 152 = .ok (.iaload, 1) := by decide +kernel
theorem dX11_of_153 : decode cX11_of 153 = .ok (.ireturn, 1) := by decide +kernel
theorem dX11_of_154 : decode cX11_of 154 = .ok (.aload_n 0, 1) := by decide +kernel
theorem dX11_of_155 : decode cX11_of 155 = .ok (.getfield 34, 3) := by decide +kernel
theorem dX11_of_158 : decode cX11_of 158 = .ok (.iload_n 1, 1) := by decide +kernel
theorem dX11_of_159 : decode cX11_of 159 = .ok (.invokevirtual 201, 3) := by decide +kernel
theorem dX11_of_162 : decode cX11_of 162 = .ok (.iconst (-1), 1) := by decide +kernel
theorem dX11_of_163 : decode cX11_of 163 = .ok (.if_icmp .ne 7, 3) := by decide +kernel
theorem dX11_of_166 : decode cX11_of 166 = .ok (.iconst 1, 1) := by decide +kernel
theorem dX11_of_167 : decode cX11_of 167 = .ok (.goto 4, 3) := by decide +kernel
theorem dX11_of_170 : decode cX11_of 170 = .ok (.iconst 0, 1) := by decide +kernel
theorem dX11_of_171 : decode cX11_of 171 = .ok (.ireturn, 1) := by decide +kernel
theorem dX11_of_172 : decode cX11_of 172 = .ok (.new 114, 3) := by decide +kernel
theorem dX11_of_175 : decode cX11_of 175 = .ok (.dup, 1) := by decide +kernel
theorem dX11_of_176 : decode cX11_of 176 = .ok (.ldc 204, 2) := by decide +kernel
theorem dX11_of_178 : decode cX11_of 178 = .ok (.invokespecial 118, 3) := by decide +kernel
theorem dX11_of_181 : decode cX11_of 181 = .ok (.athrow, 1) := by decide +kernel
theorem dX11_arc_0 : decode cX11_arc 0 = .ok (.aload_n 0, 1) := by decide +kernel
theorem dX11_arc_1 : decode cX11_arc 1 = .ok (.getfield 16, 3) := by decide +kernel
theorem dX11_arc_4 : decode cX11_arc 4 = .ok (.iload_n 1, 1) := by decide +kernel
theorem dX11_arc_5 : decode cX11_arc 5 = .ok (.invokevirtual 143, 3) := by decide +kernel
theorem dX11_arc_8 : decode cX11_arc 8 = .ok (.ifCond .ne 13, 3) := by decide +kernel
theorem dX11_arc_11 : decode cX11_arc 11 = .ok (.new 132, 3) := by decide +kernel
theorem dX11_arc_14 : decode cX11_arc 14 = .ok (.dup, 1) := by decide +kernel
theorem dX11_arc_15 : decode cX11_arc 15 = .ok (.ldc 146, 2) := by decide +kernel
theorem dX11_arc_17 : decode cX11_arc 17 = .ok (.invokespecial 136, 3) := by decide +kernel
theorem dX11_arc_20 : decode cX11_arc 20 = .ok (.athrow, 1) := by decide +kernel
theorem dX11_arc_21 : decode cX11_arc 21 = .ok (.iload_n 2, 1) := by decide +kernel
theorem dX11_arc_22 : decode cX11_arc 22 = .ok (.tableswitch 142 0 6 #[42, 52, 62, 72, 90, 107, 124], 42) := by decide +kernel
theorem dX11_arc_64 : decode cX11_arc 64 = .ok (.aload_n 0, 1) := by decide +kernel
theorem dX11_arc_65 : decode cX11_arc 65 = .ok (.getfield 16, 3) := by decide +kernel
theorem dX11_arc_68 : decode cX11_arc 68 = .ok (.getfield 156, 3) := by decide +kernel
theorem dX11_arc_71 : decode cX11_arc 71 = .ok (.iload_n 1, 1) := by decide +kernel
theorem dX11_arc_72 : decode cX11_arc 72 = .ok (.iaload, 1) := by decide +kernel
theorem dX11_arc_73 : decode cX11_arc 73 = .ok (.ireturn, 1) := by decide +kernel
theorem dX11_arc_74 : decode cX11_arc 74 = .ok (.aload_n 0, 1) := by decide +kernel
theorem dX11_arc_75 : decode cX11_arc 75 = .ok (.getfield 16, 3) := by decide +kernel
theorem dX11_arc_78 : decode cX11_arc 78 = .ok (.getfield 160, 3) := by decide +kernel
theorem dX11_arc_81 : decode cX11_arc 81 = .ok (.iload_n 1, 1) := by decide +kernel
theorem dX11_arc_82 : decode cX11_arc 82 = .ok (.iaload, 1) := by decide +kernel
theorem dX11_arc_83 : decode cX11_arc 83 = .ok (.ireturn, 1) := by decide +kernel
theorem dX11_arc_84 : decode cX11_arc 84 = .ok (.aload_n 0, 1) := by decide +kernel
theorem dX11_arc_85 : decode cX11_arc 85 = .ok (.getfield 25, 3) := by decide +kernel
theorem dX11_arc_88 : decode cX11_arc 88 = .ok (.getfield 206, 3) := by decide +kernel
theorem dX11_arc_91 : decode cX11_arc 91 = .ok (.iload_n 1, 1) := by decide +kernel
theorem dX11_arc_92 : decode cX11_arc 92 = .ok (.iaload, 1) := by decide +kernel
theorem dX11_arc_93 : decode cX11_arc 93 = .ok (.ireturn, 1) := by decide +kernel
theorem dX11_arc_94 : decode cX11_arc 94 = .ok (.aload_n 0, 1) := by decide +kernel
theorem dX11_arc_95 : decode cX11_arc 95 = .ok (.getfield 25, 3) := by decide +kernel
theorem dX11_arc_98 : decode cX11_arc 98 = .ok (.getfield 209, 3) := by decide +kernel
theorem dX11_arc_101 : decode cX11_arc 101 = .ok (.iload_n 1, 1) := by decide +kernel
theorem dX11_arc_102 : decode cX11_arc 102 = .ok (.baload, 1) := by decide +kernel
theorem dX11_arc_103 : decode cX11_arc 103 = .ok (.ifCond .eq 7, 3) := by decide +kernel
theorem dX11_arc_106 : decode cX11_arc 106 = .ok (.iconst 1, 1) := by decide +kernel
theorem dX11_arc_107 : decode cX11_arc 107 = .ok (.goto 4, 3) := by decide +kernel
theorem dX11_arc_110 : decode cX11_arc 110 = .ok (.iconst 0, 1) := by decide +kernel
theorem dX11_arc_111 : decode cX11_arc 111 = .ok (.ireturn, 1) := by decide +kernel
theorem dX11_arc_112 : decode cX11_arc 112 = .ok (.aload_n 0, 1) := by decide +kernel
theorem dX11_arc_113 : decode cX11_arc 113 = .ok (.getfield 34, 3) := by decide +kernel
theorem dX11_arc_116 : decode cX11_arc 116 = .ok (.iload_n 1, 1) := by decide +kernel
theorem dX11_arc_117 : decode cX11_arc 117 = .ok (.invokevirtual 213, 3) := by decide +kernel
theorem dX11_arc_120 : decode cX11_arc 120 = .ok (.ifCond .eq 7, 3) := by decide +kernel
theorem dX11_arc_123 : decode cX11_arc 123 = .ok (.iconst 1, 1) := by decide +kernel
theorem dX11_arc_124 : decode cX11_arc 124 = .ok (.goto 4, 3) := by decide +kernel
theorem dX11_arc_127 : decode cX11_arc 127 = .ok (.iconst 0, 1) := by decide +kernel
theorem dX11_arc_128 : decode cX11_arc 128 = .ok (.ireturn, 1) := by decide +kernel
theorem dX11_arc_129 : decode cX11_arc 129 = .ok (.aload_n 0, 1) := by decide +kernel
theorem dX11_arc_130 : decode cX11_arc 130 = .ok (.getfield 41, 3) := by decide +kernel
theorem dX11_arc_133 : decode cX11_arc 133 = .ok (.iload_n 1, 1) := by decide +kernel
theorem dX11_arc_134 : decode cX11_arc 134 = .ok (.invokevirtual 214, 3) := by decide +kernel
theorem dX11_arc_137 : decode cX11_arc 137 = .ok (.ifCond .eq 7, 3) := by decide +kernel
theorem dX11_arc_140 : decode cX11_arc 140 = .ok (.iconst 1, 1) := by decide +kernel
theorem dX11_arc_141 : decode cX11_arc 141 = .ok (.goto 4, 3) := by decide +kernel
theorem dX11_arc_144 : decode cX11_arc 144 = .ok (.iconst 0, 1) := by decide +kernel
theorem dX11_arc_145 : decode cX11_arc 145 = .ok (.ireturn, 1) := by decide +kernel
theorem dX11_arc_146 : decode cX11_arc 146 = .ok (.aload_n 0, 1) := by decide +kernel
theorem dX11_arc_147 : decode cX11_arc 147 = .ok (.getfield 48, 3) := by decide +kernel
theorem dX11_arc_150 : decode cX11_arc 150 = .ok (.getfield 217, 3) := by decide +kernel
theorem dX11_arc_153 : decode cX11_arc 153 = .ok (.iload_n 1, 1) := by decide +kernel
theorem dX11_arc_154 : decode cX11_arc 154 = .ok (.baload, 1) := by decide +kernel
theorem dX11_arc_155 : decode cX11_arc 155 = .ok (.ifCond .eq 7, 3) := by decide +kernel
theorem dX11_arc_158 : decode cX11_arc 158 = .ok (.iconst 1, 1) := by decide +kernel
theorem dX11_arc_159 : decode cX11_arc 159 = .ok (.goto 4, 3) := by decide +kernel
theorem dX11_arc_162 : decode cX11_arc 162 = .ok (.iconst 0, 1) := by decide +kernel
theorem dX11_arc_163 : decode cX11_arc 163 = .ok (.ireturn, 1) := by decide +kernel
theorem dX11_arc_164 : decode cX11_arc 164 = .ok (.new 114, 3) := by decide +kernel
theorem dX11_arc_167 : decode cX11_arc 167 = .ok (.dup, 1) := by decide +kernel
theorem dX11_arc_168 : decode cX11_arc 168 = .ok (.ldc 204, 2) := by decide +kernel
theorem dX11_arc_170 : decode cX11_arc 170 = .ok (.invokespecial 118, 3) := by decide +kernel
theorem dX11_arc_173 : decode cX11_arc 173 = .ok (.athrow, 1) := by decide +kernel
theorem dX11_order_0 : decode cX11_order 0 = .ok (.iload_n 1, 1) := by decide +kernel
theorem dX11_order_1 : decode cX11_order 1 = .ok (.ifCond .lt 14, 3) := by decide +kernel
theorem dX11_order_4 : decode cX11_order 4 = .ok (.iload_n 1, 1) := by decide +kernel
theorem dX11_order_5 : decode cX11_order 5 = .ok (.aload_n 0, 1) := by decide +kernel
theorem dX11_order_6 : decode cX11_order 6 = .ok (.getfield 16, 3) := by decide +kernel
theorem dX11_order_9 : decode cX11_order 9 = .ok (.getfield 96, 3) := by decide +kernel
theorem dX11_order_12 : decode cX11_order 12 = .ok (.if_icmp .lt 13, 3) := by decide +kernel
theorem dX11_order_15 : decode cX11_order 15 = .ok (.new 132, 3) := by decide +kernel
theorem dX11_order_18 : decode cX11_order 18 = .ok (.dup, 1) := by decide +kernel
theorem dX11_order_19 : decode cX11_order 19 = .ok (.ldc 220, 2) := by decide +kernel
theorem dX11_order_21 : decode cX11_order 21 = .ok (.invokespecial 136, 3) := by decide +kernel
theorem dX11_order_24 : decode cX11_order 24 = .ok (.athrow, 1) := by decide +kernel
theorem dX11_order_25 : decode cX11_order 25 = .ok (.aload_n 0, 1) := by decide +kernel
theorem dX11_order_26 : decode cX11_order 26 = .ok (.getfield 48, 3) := by decide +kernel
theorem dX11_order_29 : decode cX11_order 29 = .ok (.iload_n 1, 1) := by decide +kernel
theorem dX11_order_30 : decode cX11_order 30 = .ok (.invokevirtual 222, 3) := by decide +kernel
theorem dX11_order_33 : decode cX11_order 33 = .ok (.ireturn, 1) := by decide +kernel
theorem dX11_odd_0 : decode cX11_odd 0 = .ok (.aload_n 0, 1) := by decide +kernel
theorem dX11_odd_1 : decode cX11_odd 1 = .ok (.getfield 16, 3) := by decide +kernel
theorem dX11_odd_4 : decode cX11_odd 4 = .ok (.iload_n 1, 1) := by decide +kernel
theorem dX11_odd_5 : decode cX11_odd 5 = .ok (.invokevirtual 129, 3) := by decide +kernel
theorem dX11_odd_8 : decode cX11_odd 8 = .ok (.ifCond .eq 7, 3) := by decide +kernel
theorem dX11_odd_11 : decode cX11_odd 11 = .ok (.iload_n 2, 1) := by decide +kernel
theorem dX11_odd_12 : decode cX11_odd 12 = .ok (.ifCond .ge 13, 3) := by decide +kernel
theorem dX11_odd_15 : decode cX11_odd 15 = .ok (.new 132, 3) := by decide +kernel
theorem dX11_odd_18 : decode cX11_odd 18 = .ok (.dup, 1) := by decide +kernel
theorem dX11_odd_19 : decode cX11_odd 19 = .ok (.ldc 225, 2) := by decide +kernel
theorem dX11_odd_21 : decode cX11_odd 21 = .ok (.invokespecial 136, 3) := by decide +kernel
theorem dX11_odd_24 : decode cX11_odd 24 = .ok (.athrow, 1) := by decide +kernel
theorem dX11_odd_25 : decode cX11_odd 25 = .ok (.aload_n 0, 1) := by decide +kernel
theorem dX11_odd_26 : decode cX11_odd 26 = .ok (.getfield 34, 3) := by decide +kernel
theorem dX11_odd_29 : decode cX11_odd 29 = .ok (.iload_n 1, 1) := by decide +kernel
theorem dX11_odd_30 : decode cX11_odd 30 = .ok (.iload_n 2, 1) := by decide +kernel
theorem dX11_odd_31 : decode cX11_odd 31 = .ok (.invokevirtual 227, 3) := by decide +kernel
theorem dX11_odd_34 : decode cX11_odd 34 = .ok (.ireturn, 1) := by decide +kernel
theorem dX11_ring_0 : decode cX11_ring 0 = .ok (.iload_n 1, 1) := by decide +kernel
theorem dX11_ring_1 : decode cX11_ring 1 = .ok (.ifCond .ge 13, 3) := by decide +kernel
theorem dX11_ring_4 : decode cX11_ring 4 = .ok (.new 132, 3) := by decide +kernel
theorem dX11_ring_7 : decode cX11_ring 7 = .ok (.dup, 1) := by decide +kernel
theorem dX11_ring_8 : decode cX11_ring 8 = .ok (.ldc 230, 2) := by decide +kernel
theorem dX11_ring_10 : decode cX11_ring 10 = .ok (.invokespecial 136, 3) := by decide +kernel
theorem dX11_ring_13 : decode cX11_ring 13 = .ok (.athrow, 1) := by decide +kernel
theorem dX11_ring_14 : decode cX11_ring 14 = .ok (.aload_n 0, 1) := by decide +kernel
theorem dX11_ring_15 : decode cX11_ring 15 = .ok (.getfield 48, 3) := by decide +kernel
theorem dX11_ring_18 : decode cX11_ring 18 = .ok (.iload_n 1, 1) := by decide +kernel
theorem dX11_ring_19 : decode cX11_ring 19 = .ok (.invokevirtual 232, 3) := by decide +kernel
theorem dX11_ring_22 : decode cX11_ring 22 = .ok (.ireturn, 1) := by decide +kernel
theorem dX11_triangles_0 : decode cX11_triangles 0 = .ok (.aload_n 0, 1) := by decide +kernel
theorem dX11_triangles_1 : decode cX11_triangles 1 = .ok (.getfield 62, 3) := by decide +kernel
theorem dX11_triangles_4 : decode cX11_triangles 4 = .ok (.invokevirtual 234, 3) := by decide +kernel
theorem dX11_triangles_7 : decode cX11_triangles 7 = .ok (.lreturn, 1) := by decide +kernel
theorem dX11_planPut_0 : decode cX11_planPut 0 = .ok (.aload_n 0, 1) := by decide +kernel
theorem dX11_planPut_1 : decode cX11_planPut 1 = .ok (.getfield 16, 3) := by decide +kernel
theorem dX11_planPut_4 : decode cX11_planPut 4 = .ok (.iload_n 1, 1) := by decide +kernel
theorem dX11_planPut_5 : decode cX11_planPut 5 = .ok (.invokevirtual 129, 3) := by decide +kernel
theorem dX11_planPut_8 : decode cX11_planPut 8 = .ok (.ifCond .eq 14, 3) := by decide +kernel
theorem dX11_planPut_11 : decode cX11_planPut 11 = .ok (.aload_n 0, 1) := by decide +kernel
theorem dX11_planPut_12 : decode cX11_planPut 12 = .ok (.getfield 16, 3) := by decide +kernel
theorem dX11_planPut_15 : decode cX11_planPut 15 = .ok (.iload_n 2, 1) := by decide +kernel
theorem dX11_planPut_16 : decode cX11_planPut 16 = .ok (.invokevirtual 129, 3) := by decide +kernel
theorem dX11_planPut_19 : decode cX11_planPut 19 = .ok (.ifCond .ne 13, 3) := by decide +kernel
theorem dX11_planPut_22 : decode cX11_planPut 22 = .ok (.new 132, 3) := by decide +kernel
theorem dX11_planPut_25 : decode cX11_planPut 25 = .ok (.dup, 1) := by decide +kernel
theorem dX11_planPut_26 : decode cX11_planPut 26 = .ok (.ldc 134, 2) := by decide +kernel
theorem dX11_planPut_28 : decode cX11_planPut 28 = .ok (.invokespecial 136, 3) := by decide +kernel
theorem dX11_planPut_31 : decode cX11_planPut 31 = .ok (.athrow, 1) := by decide +kernel
theorem dX11_planPut_32 : decode cX11_planPut 32 = .ok (.aload_n 0, 1) := by decide +kernel
theorem dX11_planPut_33 : decode cX11_planPut 33 = .ok (.getfield 85, 3) := by decide +kernel
theorem dX11_planPut_36 : decode cX11_planPut 36 = .ok (.invokevirtual 238, 3) := by decide +kernel
theorem dX11_planPut_39 : decode cX11_planPut 39 = .ok (.ifCond .eq 13, 3) := by decide +kernel
theorem dX11_planPut_42 : decode cX11_planPut 42 = .ok (.new 99, 3) := by decide +kernel
theorem dX11_planPut_45 : decode cX11_planPut 45 = .ok (.dup, 1) := by decide +kernel
theorem dX11_planPut_46 : decode cX11_planPut 46 = .ok (.ldc 242, 2) := by decide +kernel
theorem dX11_planPut_48 : decode cX11_planPut 48 = .ok (.invokespecial 103, 3) := by decide +kernel
theorem dX11_planPut_51 : decode cX11_planPut 51 = .ok (.athrow, 1) := by decide +kernel
theorem dX11_planPut_52 : decode cX11_planPut 52 = .ok (.aload_n 0, 1) := by decide +kernel
theorem dX11_planPut_53 : decode cX11_planPut 53 = .ok (.getfield 85, 3) := by decide +kernel
theorem dX11_planPut_56 : decode cX11_planPut 56 = .ok (.iload_n 1, 1) := by decide +kernel
theorem dX11_planPut_57 : decode cX11_planPut 57 = .ok (.iload_n 2, 1) := by decide +kernel
theorem dX11_planPut_58 : decode cX11_planPut 58 = .ok (.invokevirtual 244, 3) := by decide +kernel
theorem dX11_planPut_61 : decode cX11_planPut 61 = .ok (.ireturn, 1) := by decide +kernel
theorem dX11_planTake_0 : decode cX11_planTake 0 = .ok (.aload_n 0, 1) := by decide +kernel
theorem dX11_planTake_1 : decode cX11_planTake 1 = .ok (.getfield 16, 3) := by decide +kernel
theorem dX11_planTake_4 : decode cX11_planTake 4 = .ok (.iload_n 1, 1) := by decide +kernel
theorem dX11_planTake_5 : decode cX11_planTake 5 = .ok (.invokevirtual 143, 3) := by decide +kernel
theorem dX11_planTake_8 : decode cX11_planTake 8 = .ok (.ifCond .ne 26, 3) := by decide +kernel
theorem dX11_planTake_11 : decode cX11_planTake 11 = .ok (.aload_n 0, 1) := by decide +kernel
theorem dX11_planTake_12 : decode cX11_planTake 12 = .ok (.getfield 85, 3) := by decide +kernel
theorem dX11_planTake_15 : decode cX11_planTake 15 = .ok (.iconst (-1), 1) := by decide +kernel
theorem dX11_planTake_16 : decode cX11_planTake 16 = .ok (.iload_n 1, 1) := by decide +kernel
theorem dX11_planTake_17 : decode cX11_planTake 17 = .ok (.isub, 1) := by decide +kernel
theorem dX11_planTake_18 : decode cX11_planTake 18 = .ok (.invokevirtual 247, 3) := by decide +kernel
theorem dX11_planTake_21 : decode cX11_planTake 21 = .ok (.ifCond .ne 13, 3) := by decide +kernel
theorem dX11_planTake_24 : decode cX11_planTake 24 = .ok (.new 132, 3) := by decide +kernel
theorem dX11_planTake_27 : decode cX11_planTake 27 = .ok (.dup, 1) := by decide +kernel
theorem dX11_planTake_28 : decode cX11_planTake 28 = .ok (.ldc 250, 2) := by decide +kernel
theorem dX11_planTake_30 : decode cX11_planTake 30 = .ok (.invokespecial 136, 3) := by decide +kernel
theorem dX11_planTake_33 : decode cX11_planTake 33 = .ok (.athrow, 1) := by decide +kernel
theorem dX11_planTake_34 : decode cX11_planTake 34 = .ok (.aload_n 0, 1) := by decide +kernel
theorem dX11_planTake_35 : decode cX11_planTake 35 = .ok (.getfield 85, 3) := by decide +kernel
theorem dX11_planTake_38 : decode cX11_planTake 38 = .ok (.iload_n 1, 1) := by decide +kernel
theorem dX11_planTake_39 : decode cX11_planTake 39 = .ok (.invokevirtual 252, 3) := by decide +kernel
theorem dX11_planTake_42 : decode cX11_planTake 42 = .ok (.ifCond .eq 14, 3) := by decide +kernel
theorem dX11_planTake_45 : decode cX11_planTake 45 = .ok (.new 255, 3) := by decide +kernel
theorem dX11_planTake_48 : decode cX11_planTake 48 = .ok (.dup, 1) := by decide +kernel
theorem dX11_planTake_49 : decode cX11_planTake 49 = .ok (.ldc_w 257, 3) := by decide +kernel
theorem dX11_planTake_52 : decode cX11_planTake 52 = .ok (.invokespecial 259, 3) := by decide +kernel
theorem dX11_planTake_55 : decode cX11_planTake 55 = .ok (.athrow, 1) := by decide +kernel
theorem dX11_planTake_56 : decode cX11_planTake 56 = .ok (.aload_n 0, 1) := by decide +kernel
theorem dX11_planTake_57 : decode cX11_planTake 57 = .ok (.getfield 85, 3) := by decide +kernel
theorem dX11_planTake_60 : decode cX11_planTake 60 = .ok (.invokevirtual 238, 3) := by decide +kernel
theorem dX11_planTake_63 : decode cX11_planTake 63 = .ok (.ifCond .eq 13, 3) := by decide +kernel
theorem dX11_planTake_66 : decode cX11_planTake 66 = .ok (.new 99, 3) := by decide +kernel
theorem dX11_planTake_69 : decode cX11_planTake 69 = .ok (.dup, 1) := by decide +kernel
theorem dX11_planTake_70 : decode cX11_planTake 70 = .ok (.ldc 242, 2) := by decide +kernel
theorem dX11_planTake_72 : decode cX11_planTake 72 = .ok (.invokespecial 103, 3) := by decide +kernel
theorem dX11_planTake_75 : decode cX11_planTake 75 = .ok (.athrow, 1) := by decide +kernel
theorem dX11_planTake_76 : decode cX11_planTake 76 = .ok (.aload_n 0, 1) := by decide +kernel
theorem dX11_planTake_77 : decode cX11_planTake 77 = .ok (.getfield 85, 3) := by decide +kernel
theorem dX11_planTake_80 : decode cX11_planTake 80 = .ok (.iload_n 1, 1) := by decide +kernel
theorem dX11_planTake_81 : decode cX11_planTake 81 = .ok (.invokevirtual 260, 3) := by decide +kernel
theorem dX11_planTake_84 : decode cX11_planTake 84 = .ok (.ireturn, 1) := by decide +kernel
theorem dX11_later_0 : decode cX11_later 0 = .ok (.iload_n 1, 1) := by decide +kernel
theorem dX11_later_1 : decode cX11_later 1 = .ok (.ifCond .lt 14, 3) := by decide +kernel
theorem dX11_later_4 : decode cX11_later 4 = .ok (.iload_n 1, 1) := by decide +kernel
theorem dX11_later_5 : decode cX11_later 5 = .ok (.aload_n 0, 1) := by decide +kernel
theorem dX11_later_6 : decode cX11_later 6 = .ok (.getfield 85, 3) := by decide +kernel
theorem dX11_later_9 : decode cX11_later 9 = .ok (.getfield 263, 3) := by decide +kernel
theorem dX11_later_12 : decode cX11_later 12 = .ok (.if_icmp .le 14, 3) := by decide +kernel
theorem dX11_later_15 : decode cX11_later 15 = .ok (.new 132, 3) := by decide +kernel
theorem dX11_later_18 : decode cX11_later 18 = .ok (.dup, 1) := by decide +kernel
theorem dX11_later_19 : decode cX11_later 19 = .ok (.ldc_w 266, 3) := by decide +kernel
theorem dX11_later_22 : decode cX11_later 22 = .ok (.invokespecial 136, 3) := by decide +kernel
theorem dX11_later_25 : decode cX11_later 25 = .ok (.athrow, 1) := by decide +kernel
theorem dX11_later_26 : decode cX11_later 26 = .ok (.iload_n 2, 1) := by decide +kernel
theorem dX11_later_27 : decode cX11_later 27 = .ok (.tableswitch 74 0 3 #[29, 41, 53, 65], 29) := by decide +kernel
theorem dX11_later_56 : decode cX11_later 56 = .ok (.aload_n 0, 1) := by decide +kernel
theorem dX11_later_57 : decode cX11_later 57 = .ok (.getfield 85, 3) := by decide +kernel
theorem dX11_later_60 : decode cX11_later 60 = .ok (.iload_n 1, 1) := by decide +kernel
theorem dX11_later_61 : decode cX11_later 61 = .ok (.invokevirtual 268, 3) := by decide +kernel
theorem dX11_later_64 : decode cX11_later 64 = .ok (.getfield 272, 3) := by decide +kernel
theorem dX11_later_67 : decode cX11_later 67 = .ok (.ireturn, 1) := by decide +kernel
theorem dX11_later_68 : decode cX11_later 68 = .ok (.aload_n 0, 1) := by decide +kernel
theorem dX11_later_69 : decode cX11_later 69 = .ok (.getfield 85, 3) := by decide +kernel
theorem dX11_later_72 : decode cX11_later 72 = .ok (.iload_n 1, 1) := by decide +kernel
theorem dX11_later_73 : decode cX11_later 73 = .ok (.invokevirtual 268, 3) := by decide +kernel
theorem dX11_later_76 : decode cX11_later 76 = .ok (.getfield 274, 3) := by decide +kernel
theorem dX11_later_79 : decode cX11_later 79 = .ok (.ireturn, 1) := by decide +kernel
theorem dX11_later_80 : decode cX11_later 80 = .ok (.aload_n 0, 1) := by decide +kernel
theorem dX11_later_81 : decode cX11_later 81 = .ok (.getfield 85, 3) := by decide +kernel
theorem dX11_later_84 : decode cX11_later 84 = .ok (.iload_n 1, 1) := by decide +kernel
theorem dX11_later_85 : decode cX11_later 85 = .ok (.invokevirtual 268, 3) := by decide +kernel
theorem dX11_later_88 : decode cX11_later 88 = .ok (.getfield 277, 3) := by decide +kernel
theorem dX11_later_91 : decode cX11_later 91 = .ok (.ireturn, 1) := by decide +kernel
theorem dX11_later_92 : decode cX11_later 92 = .ok (.aload_n 0, 1) := by decide +kernel
theorem dX11_later_93 : decode cX11_later 93 = .ok (.getfield 85, 3) := by decide +kernel
theorem dX11_later_96 : decode cX11_later 96 = .ok (.iload_n 1, 1) := by decide +kernel
theorem dX11_later_97 : decode cX11_later 97 = .ok (.invokevirtual 280, 3) := by decide +kernel
theorem dX11_later_100 : decode cX11_later 100 = .ok (.ireturn, 1) := by decide +kernel
theorem dX11_later_101 : decode cX11_later 101 = .ok (.new 114, 3) := by decide +kernel
theorem dX11_later_104 : decode cX11_later 104 = .ok (.dup, 1) := by decide +kernel
theorem dX11_later_105 : decode cX11_later 105 = .ok (.ldc 204, 2) := by decide +kernel
theorem dX11_later_107 : decode cX11_later 107 = .ok (.invokespecial 118, 3) := by decide +kernel
theorem dX11_later_110 : decode cX11_later 110 = .ok (.athrow, 1) := by decide +kernel
theorem dX11_laterJoined_0 : decode cX11_laterJoined 0 = .ok (.iload_n 1, 1) := by decide +kernel
theorem dX11_laterJoined_1 : decode cX11_laterJoined 1 = .ok (.ifCond .lt 36, 3) := by decide +kernel
theorem dX11_laterJoined_4 : decode cX11_laterJoined 4 = .ok (.iload_n 1, 1) := by decide +kernel
theorem dX11_laterJoined_5 : decode cX11_laterJoined 5 = .ok (.aload_n 0, 1) := by decide +kernel
theorem dX11_laterJoined_6 : decode cX11_laterJoined 6 = .ok (.getfield 85, 3) := by decide +kernel
theorem dX11_laterJoined_9 : decode cX11_laterJoined 9 = .ok (.getfield 263, 3) := by decide +kernel
theorem dX11_laterJoined_12 : decode cX11_laterJoined 12 = .ok (.if_icmp .gt 25, 3) := by decide +kernel
theorem dX11_laterJoined_15 : decode cX11_laterJoined 15 = .ok (.aload_n 0, 1) := by decide +kernel
theorem dX11_laterJoined_16 : decode cX11_laterJoined 16 = .ok (.getfield 16, 3) := by decide +kernel
theorem dX11_laterJoined_19 : decode cX11_laterJoined 19 = .ok (.iload_n 2, 1) := by decide +kernel
theorem dX11_laterJoined_20 : decode cX11_laterJoined 20 = .ok (.invokevirtual 129, 3) := by decide +kernel
theorem dX11_laterJoined_23 : decode cX11_laterJoined 23 = .ok (.ifCond .eq 14, 3) := by decide +kernel
theorem dX11_laterJoined_26 : decode cX11_laterJoined 26 = .ok (.aload_n 0, 1) := by decide +kernel
theorem dX11_laterJoined_27 : decode cX11_laterJoined 27 = .ok (.getfield 16, 3) := by decide +kernel
theorem dX11_laterJoined_30 : decode cX11_laterJoined 30 = .ok (.iload_n 3, 1) := by decide +kernel
theorem dX11_laterJoined_31 : decode cX11_laterJoined 31 = .ok (.invokevirtual 129, 3) := by decide +kernel
theorem dX11_laterJoined_34 : decode cX11_laterJoined 34 = .ok (.ifCond .ne 14, 3) := by decide +kernel
theorem dX11_laterJoined_37 : decode cX11_laterJoined 37 = .ok (.new 132, 3) := by decide +kernel
theorem dX11_laterJoined_40 : decode cX11_laterJoined 40 = .ok (.dup, 1) := by decide +kernel
theorem dX11_laterJoined_41 : decode cX11_laterJoined 41 = .ok (.ldc_w 283, 3) := by decide +kernel
theorem dX11_laterJoined_44 : decode cX11_laterJoined 44 = .ok (.invokespecial 136, 3) := by decide +kernel
theorem dX11_laterJoined_47 : decode cX11_laterJoined 47 = .ok (.athrow, 1) := by decide +kernel
theorem dX11_laterJoined_48 : decode cX11_laterJoined 48 = .ok (.aload_n 0, 1) := by decide +kernel
theorem dX11_laterJoined_49 : decode cX11_laterJoined 49 = .ok (.getfield 85, 3) := by decide +kernel
theorem dX11_laterJoined_52 : decode cX11_laterJoined 52 = .ok (.iload_n 1, 1) := by decide +kernel
theorem dX11_laterJoined_53 : decode cX11_laterJoined 53 = .ok (.invokevirtual 268, 3) := by decide +kernel
theorem dX11_laterJoined_56 : decode cX11_laterJoined 56 = .ok (.iload_n 2, 1) := by decide +kernel
theorem dX11_laterJoined_57 : decode cX11_laterJoined 57 = .ok (.iload_n 3, 1) := by decide +kernel
theorem dX11_laterJoined_58 : decode cX11_laterJoined 58 = .ok (.invokevirtual 285, 3) := by decide +kernel
theorem dX11_laterJoined_61 : decode cX11_laterJoined 61 = .ok (.ireturn, 1) := by decide +kernel
theorem dX11_drop_0 : decode cX11_drop 0 = .ok (.aload_n 0, 1) := by decide +kernel
theorem dX11_drop_1 : decode cX11_drop 1 = .ok (.getfield 85, 3) := by decide +kernel
theorem dX11_drop_4 : decode cX11_drop 4 = .ok (.invokevirtual 106, 3) := by decide +kernel
theorem dX11_drop_7 : decode cX11_drop 7 = .ok (.ireturn, 1) := by decide +kernel
theorem dX11_told_0 : decode cX11_told 0 = .ok (.iload_n 1, 1) := by decide +kernel
theorem dX11_told_1 : decode cX11_told 1 = .ok (.tableswitch 168 0 12 #[67, 75, 83, 91, 99, 107, 115, 123, 131, 139, 147, 155, 163], 67) := by decide +kernel
theorem dX11_told_68 : decode cX11_told 68 = .ok (.aload_n 0, 1) := by decide +kernel
theorem dX11_told_69 : decode cX11_told 69 = .ok (.getfield 16, 3) := by decide +kernel
theorem dX11_told_72 : decode cX11_told 72 = .ok (.getfield 96, 3) := by decide +kernel
theorem dX11_told_75 : decode cX11_told 75 = .ok (.ireturn, 1) := by decide +kernel
theorem dX11_told_76 : decode cX11_told 76 = .ok (.aload_n 0, 1) := by decide +kernel
theorem dX11_told_77 : decode cX11_told 77 = .ok (.getfield 16, 3) := by decide +kernel
theorem dX11_told_80 : decode cX11_told 80 = .ok (.getfield 286, 3) := by decide +kernel
theorem dX11_told_83 : decode cX11_told 83 = .ok (.ireturn, 1) := by decide +kernel
theorem dX11_told_84 : decode cX11_told 84 = .ok (.aload_n 0, 1) := by decide +kernel
theorem dX11_told_85 : decode cX11_told 85 = .ok (.getfield 25, 3) := by decide +kernel
theorem dX11_told_88 : decode cX11_told 88 = .ok (.invokevirtual 167, 3) := by decide +kernel
theorem dX11_told_91 : decode cX11_told 91 = .ok (.ireturn, 1) := by decide +kernel
theorem dX11_told_92 : decode cX11_told 92 = .ok (.aload_n 0, 1) := by decide +kernel
theorem dX11_told_93 : decode cX11_told 93 = .ok (.getfield 34, 3) := by decide +kernel
theorem dX11_told_96 : decode cX11_told 96 = .ok (.invokevirtual 289, 3) := by decide +kernel
theorem dX11_told_99 : decode cX11_told 99 = .ok (.ireturn, 1) := by decide +kernel
theorem dX11_told_100 : decode cX11_told 100 = .ok (.aload_n 0, 1) := by decide +kernel
theorem dX11_told_101 : decode cX11_told 101 = .ok (.getfield 41, 3) := by decide +kernel
theorem dX11_told_104 : decode cX11_told 104 = .ok (.invokevirtual 291, 3) := by decide +kernel
theorem dX11_told_107 : decode cX11_told 107 = .ok (.ireturn, 1) := by decide +kernel
theorem dX11_told_108 : decode cX11_told 108 = .ok (.aload_n 0, 1) := by decide +kernel
theorem dX11_told_109 : decode cX11_told 109 = .ok (.getfield 55, 3) := by decide +kernel
theorem dX11_told_112 : decode cX11_told 112 = .ok (.invokevirtual 294, 3) := by decide +kernel
theorem dX11_told_115 : decode cX11_told 115 = .ok (.ireturn, 1) := by decide +kernel
theorem dX11_told_116 : decode cX11_told 116 = .ok (.aload_n 0, 1) := by decide +kernel
theorem dX11_told_117 : decode cX11_told 117 = .ok (.getfield 48, 3) := by decide +kernel
theorem dX11_told_120 : decode cX11_told 120 = .ok (.invokevirtual 295, 3) := by decide +kernel
theorem dX11_told_123 : decode cX11_told 123 = .ok (.ireturn, 1) := by decide +kernel
theorem dX11_told_124 : decode cX11_told 124 = .ok (.aload_n 0, 1) := by decide +kernel
theorem dX11_told_125 : decode cX11_told 125 = .ok (.getfield 69, 3) := by decide +kernel
theorem dX11_told_128 : decode cX11_told 128 = .ok (.invokevirtual 298, 3) := by decide +kernel
theorem dX11_told_131 : decode cX11_told 131 = .ok (.ireturn, 1) := by decide +kernel
theorem dX11_told_132 : decode cX11_told 132 = .ok (.aload_n 0, 1) := by decide +kernel
theorem dX11_told_133 : decode cX11_told 133 = .ok (.getfield 62, 3) := by decide +kernel
theorem dX11_told_136 : decode cX11_told 136 = .ok (.invokevirtual 301, 3) := by decide +kernel
theorem dX11_told_139 : decode cX11_told 139 = .ok (.ireturn, 1) := by decide +kernel
theorem dX11_told_140 : decode cX11_told 140 = .ok (.aload_n 0, 1) := by decide +kernel
theorem dX11_told_141 : decode cX11_told 141 = .ok (.getfield 25, 3) := by decide +kernel
theorem dX11_told_144 : decode cX11_told 144 = .ok (.invokevirtual 304, 3) := by decide +kernel
theorem dX11_told_147 : decode cX11_told 147 = .ok (.ireturn, 1) := by decide +kernel
theorem dX11_told_148 : decode cX11_told 148 = .ok (.aload_n 0, 1) := by decide +kernel
theorem dX11_told_149 : decode cX11_told 149 = .ok (.getfield 25, 3) := by decide +kernel
theorem dX11_told_152 : decode cX11_told 152 = .ok (.invokevirtual 307, 3) := by decide +kernel
theorem dX11_told_155 : decode cX11_told 155 = .ok (.ireturn, 1) := by decide +kernel
theorem dX11_told_156 : decode cX11_told 156 = .ok (.aload_n 0, 1) := by decide +kernel
theorem dX11_told_157 : decode cX11_told 157 = .ok (.getfield 85, 3) := by decide +kernel
theorem dX11_told_160 : decode cX11_told 160 = .ok (.getfield 263, 3) := by decide +kernel
theorem dX11_told_163 : decode cX11_told 163 = .ok (.ireturn, 1) := by decide +kernel
theorem dX11_told_164 : decode cX11_told 164 = .ok (.aload_n 0, 1) := by decide +kernel
theorem dX11_told_165 : decode cX11_told 165 = .ok (.getfield 92, 3) := by decide +kernel
theorem dX11_told_168 : decode cX11_told 168 = .ok (.ireturn, 1) := by decide +kernel
theorem dX11_told_169 : decode cX11_told 169 = .ok (.new 114, 3) := by decide +kernel
theorem dX11_told_172 : decode cX11_told 172 = .ok (.dup, 1) := by decide +kernel
theorem dX11_told_173 : decode cX11_told 173 = .ok (.ldc 204, 2) := by decide +kernel
theorem dX11_told_175 : decode cX11_told 175 = .ok (.invokespecial 118, 3) := by decide +kernel
theorem dX11_told_178 : decode cX11_told 178 = .ok (.athrow, 1) := by decide +kernel
theorem dX11_sound_0 : decode cX11_sound 0 = .ok (.aload_n 0, 1) := by decide +kernel
theorem dX11_sound_1 : decode cX11_sound 1 = .ok (.getfield 25, 3) := by decide +kernel
theorem dX11_sound_4 : decode cX11_sound 4 = .ok (.aload_n 0, 1) := by decide +kernel
theorem dX11_sound_5 : decode cX11_sound 5 = .ok (.getfield 76, 3) := by decide +kernel
theorem dX11_sound_8 : decode cX11_sound 8 = .ok (.invokevirtual 310, 3) := by decide +kernel
theorem dX11_sound_11 : decode cX11_sound 11 = .ok (.ifCond .eq 55, 3) := by decide +kernel
theorem dX11_sound_14 : decode cX11_sound 14 = .ok (.aload_n 0, 1) := by decide +kernel
theorem dX11_sound_15 : decode cX11_sound 15 = .ok (.getfield 25, 3) := by decide +kernel
theorem dX11_sound_18 : decode cX11_sound 18 = .ok (.aload_n 0, 1) := by decide +kernel
theorem dX11_sound_19 : decode cX11_sound 19 = .ok (.getfield 76, 3) := by decide +kernel
theorem dX11_sound_22 : decode cX11_sound 22 = .ok (.invokevirtual 314, 3) := by decide +kernel
theorem dX11_sound_25 : decode cX11_sound 25 = .ok (.ifCond .eq 41, 3) := by decide +kernel
theorem dX11_sound_28 : decode cX11_sound 28 = .ok (.aload_n 0, 1) := by decide +kernel
theorem dX11_sound_29 : decode cX11_sound 29 = .ok (.getfield 48, 3) := by decide +kernel
theorem dX11_sound_32 : decode cX11_sound 32 = .ok (.invokevirtual 317, 3) := by decide +kernel
theorem dX11_sound_35 : decode cX11_sound 35 = .ok (.ifCond .eq 31, 3) := by decide +kernel
theorem dX11_sound_38 : decode cX11_sound 38 = .ok (.aload_n 0, 1) := by decide +kernel
theorem dX11_sound_39 : decode cX11_sound 39 = .ok (.getfield 62, 3) := by decide +kernel
theorem dX11_sound_42 : decode cX11_sound 42 = .ok (.aload_n 0, 1) := by decide +kernel
theorem dX11_sound_43 : decode cX11_sound 43 = .ok (.getfield 89, 3) := by decide +kernel
theorem dX11_sound_46 : decode cX11_sound 46 = .ok (.invokevirtual 320, 3) := by decide +kernel
theorem dX11_sound_49 : decode cX11_sound 49 = .ok (.ifCond .eq 17, 3) := by decide +kernel
theorem dX11_sound_52 : decode cX11_sound 52 = .ok (.aload_n 0, 1) := by decide +kernel
theorem dX11_sound_53 : decode cX11_sound 53 = .ok (.getfield 69, 3) := by decide +kernel
theorem dX11_sound_56 : decode cX11_sound 56 = .ok (.invokevirtual 323, 3) := by decide +kernel
theorem dX11_sound_59 : decode cX11_sound 59 = .ok (.ifCond .eq 7, 3) := by decide +kernel
theorem dX11_sound_62 : decode cX11_sound 62 = .ok (.iconst 1, 1) := by decide +kernel
theorem dX11_sound_63 : decode cX11_sound 63 = .ok (.goto 4, 3) := by decide +kernel
theorem dX11_sound_66 : decode cX11_sound 66 = .ok (.iconst 0, 1) := by decide +kernel
theorem dX11_sound_67 : decode cX11_sound 67 = .ok (.ireturn, 1) := by decide +kernel
theorem dX11_clear_0 : decode cX11_clear 0 = .ok (.aload_n 0, 1) := by decide +kernel
theorem dX11_clear_1 : decode cX11_clear 1 = .ok (.getfield 85, 3) := by decide +kernel
theorem dX11_clear_4 : decode cX11_clear 4 = .ok (.invokevirtual 106, 3) := by decide +kernel
theorem dX11_clear_7 : decode cX11_clear 7 = .ok (.pop, 1) := by decide +kernel
theorem dX11_clear_8 : decode cX11_clear 8 = .ok (.aload_n 0, 1) := by decide +kernel
theorem dX11_clear_9 : decode cX11_clear 9 = .ok (.getfield 16, 3) := by decide +kernel
theorem dX11_clear_12 : decode cX11_clear 12 = .ok (.invokevirtual 324, 3) := by decide +kernel
theorem dX11_clear_15 : decode cX11_clear 15 = .ok (.aload_n 0, 1) := by decide +kernel
theorem dX11_clear_16 : decode cX11_clear 16 = .ok (.getfield 48, 3) := by decide +kernel
theorem dX11_clear_19 : decode cX11_clear 19 = .ok (.invokevirtual 327, 3) := by decide +kernel
theorem dX11_clear_22 : decode cX11_clear 22 = .ok (.aload_n 0, 1) := by decide +kernel
theorem dX11_clear_23 : decode cX11_clear 23 = .ok (.iconst 0, 1) := by decide +kernel
theorem dX11_clear_24 : decode cX11_clear 24 = .ok (.putfield 92, 3) := by decide +kernel
theorem dX11_clear_27 : decode cX11_clear 27 = .ok (.return_, 1) := by decide +kernel
theorem dX11_addNode_0 : decode cX11_addNode 0 = .ok (.aload_n 0, 1) := by decide +kernel
theorem dX11_addNode_1 : decode cX11_addNode 1 = .ok (.getfield 16, 3) := by decide +kernel
theorem dX11_addNode_4 : decode cX11_addNode 4 = .ok (.invokevirtual 328, 3) := by decide +kernel
theorem dX11_addNode_7 : decode cX11_addNode 7 = .ok (.istore_n 2, 1) := by decide +kernel
theorem dX11_addNode_8 : decode cX11_addNode 8 = .ok (.aload_n 0, 1) := by decide +kernel
theorem dX11_addNode_9 : decode cX11_addNode 9 = .ok (.getfield 25, 3) := by decide +kernel
theorem dX11_addNode_12 : decode cX11_addNode 12 = .ok (.iload_n 2, 1) := by decide +kernel
theorem dX11_addNode_13 : decode cX11_addNode 13 = .ok (.invokevirtual 330, 3) := by decide +kernel
theorem dX11_addNode_16 : decode cX11_addNode 16 = .ok (.aload_n 0, 1) := by decide +kernel
theorem dX11_addNode_17 : decode cX11_addNode 17 = .ok (.getfield 48, 3) := by decide +kernel
theorem dX11_addNode_20 : decode cX11_addNode 20 = .ok (.iload_n 2, 1) := by decide +kernel
theorem dX11_addNode_21 : decode cX11_addNode 21 = .ok (.invokevirtual 333, 3) := by decide +kernel
theorem dX11_addNode_24 : decode cX11_addNode 24 = .ok (.aload_n 0, 1) := by decide +kernel
theorem dX11_addNode_25 : decode cX11_addNode 25 = .ok (.getfield 69, 3) := by decide +kernel
theorem dX11_addNode_28 : decode cX11_addNode 28 = .ok (.iload_n 2, 1) := by decide +kernel
theorem dX11_addNode_29 : decode cX11_addNode 29 = .ok (.iload_n 1, 1) := by decide +kernel
theorem dX11_addNode_30 : decode cX11_addNode 30 = .ok (.invokevirtual 334, 3) := by decide +kernel
theorem dX11_addNode_33 : decode cX11_addNode 33 = .ok (.iload_n 2, 1) := by decide +kernel
theorem dX11_addNode_34 : decode cX11_addNode 34 = .ok (.ireturn, 1) := by decide +kernel
theorem dX11_addArc_0 : decode cX11_addArc 0 = .ok (.aload_n 0, 1) := by decide +kernel
theorem dX11_addArc_1 : decode cX11_addArc 1 = .ok (.getfield 16, 3) := by decide +kernel
theorem dX11_addArc_4 : decode cX11_addArc 4 = .ok (.iload_n 1, 1) := by decide +kernel
theorem dX11_addArc_5 : decode cX11_addArc 5 = .ok (.iload_n 2, 1) := by decide +kernel
theorem dX11_addArc_6 : decode cX11_addArc 6 = .ok (.invokevirtual 337, 3) := by decide +kernel
theorem dX11_addArc_9 : decode cX11_addArc 9 = .ok (.istore 4, 2) := by decide +kernel
theorem dX11_addArc_11 : decode cX11_addArc 11 = .ok (.aload_n 0, 1) := by decide +kernel
theorem dX11_addArc_12 : decode cX11_addArc 12 = .ok (.getfield 25, 3) := by decide +kernel
theorem dX11_addArc_15 : decode cX11_addArc 15 = .ok (.iload 4, 2) := by decide +kernel
theorem dX11_addArc_17 : decode cX11_addArc 17 = .ok (.invokevirtual 339, 3) := by decide +kernel
theorem dX11_addArc_20 : decode cX11_addArc 20 = .ok (.aload_n 0, 1) := by decide +kernel
theorem dX11_addArc_21 : decode cX11_addArc 21 = .ok (.getfield 48, 3) := by decide +kernel
theorem dX11_addArc_24 : decode cX11_addArc 24 = .ok (.iload 4, 2) := by decide +kernel
theorem dX11_addArc_26 : decode cX11_addArc 26 = .ok (.iload_n 3, 1) := by decide +kernel
theorem dX11_addArc_27 : decode cX11_addArc 27 = .ok (.invokevirtual 342, 3) := by decide +kernel
theorem dX11_addArc_30 : decode cX11_addArc 30 = .ok (.aload_n 0, 1) := by decide +kernel
theorem dX11_addArc_31 : decode cX11_addArc 31 = .ok (.aload_n 0, 1) := by decide +kernel
theorem dX11_addArc_32 : decode cX11_addArc 32 = .ok (.getfield 69, 3) := by decide +kernel
theorem dX11_addArc_35 : decode cX11_addArc 35 = .ok (.iload_n 1, 1) := by decide +kernel
theorem dX11_addArc_36 : decode cX11_addArc 36 = .ok (.iload_n 2, 1) := by decide +kernel
theorem dX11_addArc_37 : decode cX11_addArc 37 = .ok (.invokevirtual 163, 3) := by decide +kernel
theorem dX11_addArc_40 : decode cX11_addArc 40 = .ok (.putfield 92, 3) := by decide +kernel
theorem dX11_addArc_43 : decode cX11_addArc 43 = .ok (.iload 4, 2) := by decide +kernel
theorem dX11_addArc_45 : decode cX11_addArc 45 = .ok (.ireturn, 1) := by decide +kernel
theorem dX11_leaveOut_0 : decode cX11_leaveOut 0 = .ok (.iconst 0, 1) := by decide +kernel
theorem dX11_leaveOut_1 : decode cX11_leaveOut 1 = .ok (.istore_n 3, 1) := by decide +kernel
theorem dX11_leaveOut_2 : decode cX11_leaveOut 2 = .ok (.iconst 0, 1) := by decide +kernel
theorem dX11_leaveOut_3 : decode cX11_leaveOut 3 = .ok (.istore 4, 2) := by decide +kernel
theorem dX11_leaveOut_5 : decode cX11_leaveOut 5 = .ok (.iload 4, 2) := by decide +kernel
theorem dX11_leaveOut_7 : decode cX11_leaveOut 7 = .ok (.iload_n 1, 1) := by decide +kernel
theorem dX11_leaveOut_8 : decode cX11_leaveOut 8 = .ok (.if_icmp .ge 27, 3) := by decide +kernel
theorem dX11_leaveOut_11 : decode cX11_leaveOut 11 = .ok (.aload_n 0, 1) := by decide +kernel
theorem dX11_leaveOut_12 : decode cX11_leaveOut 12 = .ok (.iload 4, 2) := by decide +kernel
theorem dX11_leaveOut_14 : decode cX11_leaveOut 14 = .ok (.iaload, 1) := by decide +kernel
theorem dX11_leaveOut_15 : decode cX11_leaveOut 15 = .ok (.iload_n 2, 1) := by decide +kernel
theorem dX11_leaveOut_16 : decode cX11_leaveOut 16 = .ok (.if_icmp .eq 13, 3) := by decide +kernel
theorem dX11_leaveOut_19 : decode cX11_leaveOut 19 = .ok (.aload_n 0, 1) := by decide +kernel
theorem dX11_leaveOut_20 : decode cX11_leaveOut 20 = .ok (.iload_n 3, 1) := by decide +kernel
theorem dX11_leaveOut_21 : decode cX11_leaveOut 21 = .ok (.aload_n 0, 1) := by decide +kernel
theorem dX11_leaveOut_22 : decode cX11_leaveOut 22 = .ok (.iload 4, 2) := by decide +kernel
theorem dX11_leaveOut_24 : decode cX11_leaveOut 24 = .ok (.iaload, 1) := by decide +kernel
theorem dX11_leaveOut_25 : decode cX11_leaveOut 25 = .ok (.iastore, 1) := by decide +kernel
theorem dX11_leaveOut_26 : decode cX11_leaveOut 26 = .ok (.iinc 3 1, 3) := by decide +kernel
theorem dX11_leaveOut_29 : decode cX11_leaveOut 29 = .ok (.iinc 4 1, 3) := by decide +kernel
theorem dX11_leaveOut_32 : decode cX11_leaveOut 32 = .ok (.goto (-27), 3) := by decide +kernel
theorem dX11_leaveOut_35 : decode cX11_leaveOut 35 = .ok (.iload_n 3, 1) := by decide +kernel
theorem dX11_leaveOut_36 : decode cX11_leaveOut 36 = .ok (.ireturn, 1) := by decide +kernel
theorem dX12_init_0 : decode cX12_init 0 = .ok (.aload_n 0, 1) := by decide +kernel
theorem dX12_init_1 : decode cX12_init 1 = .ok (.invokespecial 1, 3) := by decide +kernel
theorem dX12_init_4 : decode cX12_init 4 = .ok (.aload_n 0, 1) := by decide +kernel
theorem dX12_init_5 : decode cX12_init 5 = .ok (.sipush 300, 3) := by decide +kernel
theorem dX12_init_8 : decode cX12_init 8 = .ok (.newarray .int, 2) := by decide +kernel
theorem dX12_init_10 : decode cX12_init 10 = .ok (.putfield 7, 3) := by decide +kernel
theorem dX12_init_13 : decode cX12_init 13 = .ok (.aload_n 0, 1) := by decide +kernel
theorem dX12_init_14 : decode cX12_init 14 = .ok (.sipush 5000, 3) := by decide +kernel
theorem dX12_init_17 : decode cX12_init 17 = .ok (.newarray .int, 2) := by decide +kernel
theorem dX12_init_19 : decode cX12_init 19 = .ok (.putfield 13, 3) := by decide +kernel
theorem dX12_init_22 : decode cX12_init 22 = .ok (.aload_n 0, 1) := by decide +kernel
theorem dX12_init_23 : decode cX12_init 23 = .ok (.sipush 5000, 3) := by decide +kernel
theorem dX12_init_26 : decode cX12_init 26 = .ok (.newarray .int, 2) := by decide +kernel
theorem dX12_init_28 : decode cX12_init 28 = .ok (.putfield 16, 3) := by decide +kernel
theorem dX12_init_31 : decode cX12_init 31 = .ok (.aload_n 0, 1) := by decide +kernel
theorem dX12_init_32 : decode cX12_init 32 = .ok (.sipush 5000, 3) := by decide +kernel
theorem dX12_init_35 : decode cX12_init 35 = .ok (.newarray .int, 2) := by decide +kernel
theorem dX12_init_37 : decode cX12_init 37 = .ok (.putfield 19, 3) := by decide +kernel
theorem dX12_init_40 : decode cX12_init 40 = .ok (.aload_n 0, 1) := by decide +kernel
theorem dX12_init_41 : decode cX12_init 41 = .ok (.sipush 5000, 3) := by decide +kernel
theorem dX12_init_44 : decode cX12_init 44 = .ok (.newarray .boolean, 2) := by decide +kernel
theorem dX12_init_46 : decode cX12_init 46 = .ok (.putfield 22, 3) := by decide +kernel
theorem dX12_init_49 : decode cX12_init 49 = .ok (.aload_n 0, 1) := by decide +kernel
theorem dX12_init_50 : decode cX12_init 50 = .ok (.sipush 5000, 3) := by decide +kernel
theorem dX12_init_53 : decode cX12_init 53 = .ok (.newarray .boolean, 2) := by decide +kernel
theorem dX12_init_55 : decode cX12_init 55 = .ok (.putfield 26, 3) := by decide +kernel
theorem dX12_init_58 : decode cX12_init 58 = .ok (.aload_n 0, 1) := by decide +kernel
theorem dX12_init_59 : decode cX12_init 59 = .ok (.sipush 5000, 3) := by decide +kernel
theorem dX12_init_62 : decode cX12_init 62 = .ok (.newarray .boolean, 2) := by decide +kernel
theorem dX12_init_64 : decode cX12_init 64 = .ok (.putfield 29, 3) := by decide +kernel
theorem dX12_init_67 : decode cX12_init 67 = .ok (.aload_n 0, 1) := by decide +kernel
theorem dX12_init_68 : decode cX12_init 68 = .ok (.sipush 901, 3) := by decide +kernel
theorem dX12_init_71 : decode cX12_init 71 = .ok (.newarray .int, 2) := by decide +kernel
theorem dX12_init_73 : decode cX12_init 73 = .ok (.putfield 32, 3) := by decide +kernel
theorem dX12_init_76 : decode cX12_init 76 = .ok (.aload_n 0, 1) := by decide +kernel
theorem dX12_init_77 : decode cX12_init 77 = .ok (.sipush 300, 3) := by decide +kernel
theorem dX12_init_80 : decode cX12_init 80 = .ok (.newarray .int, 2) := by decide +kernel
theorem dX12_init_82 : decode cX12_init 82 = .ok (.putfield 35, 3) := by decide +kernel
theorem dX12_init_85 : decode cX12_init 85 = .ok (.aload_n 0, 1) := by decide +kernel
theorem dX12_init_86 : decode cX12_init 86 = .ok (.sipush 300, 3) := by decide +kernel
theorem dX12_init_89 : decode cX12_init 89 = .ok (.newarray .int, 2) := by decide +kernel
theorem dX12_init_91 : decode cX12_init 91 = .ok (.putfield 38, 3) := by decide +kernel
theorem dX12_init_94 : decode cX12_init 94 = .ok (.aload_n 0, 1) := by decide +kernel
theorem dX12_init_95 : decode cX12_init 95 = .ok (.sipush 300, 3) := by decide +kernel
theorem dX12_init_98 : decode cX12_init 98 = .ok (.newarray .int, 2) := by decide +kernel
theorem dX12_init_100 : decode cX12_init 100 = .ok (.putfield 41, 3) := by decide +kernel
theorem dX12_init_103 : decode cX12_init 103 = .ok (.aload_n 0, 1) := by decide +kernel
theorem dX12_init_104 : decode cX12_init 104 = .ok (.bipush 60, 2) := by decide +kernel
theorem dX12_init_106 : decode cX12_init 106 = .ok (.newarray .boolean, 2) := by decide +kernel
theorem dX12_init_108 : decode cX12_init 108 = .ok (.putfield 44, 3) := by decide +kernel
theorem dX12_init_111 : decode cX12_init 111 = .ok (.aload_n 0, 1) := by decide +kernel
theorem dX12_init_112 : decode cX12_init 112 = .ok (.bipush 60, 2) := by decide +kernel
theorem dX12_init_114 : decode cX12_init 114 = .ok (.newarray .int, 2) := by decide +kernel
theorem dX12_init_116 : decode cX12_init 116 = .ok (.putfield 47, 3) := by decide +kernel
theorem dX12_init_119 : decode cX12_init 119 = .ok (.aload_n 0, 1) := by decide +kernel
theorem dX12_init_120 : decode cX12_init 120 = .ok (.bipush 60, 2) := by decide +kernel
theorem dX12_init_122 : decode cX12_init 122 = .ok (.newarray .int, 2) := by decide +kernel
theorem dX12_init_124 : decode cX12_init 124 = .ok (.putfield 50, 3) := by decide +kernel
theorem dX12_init_127 : decode cX12_init 127 = .ok (.aload_n 0, 1) := by decide +kernel
theorem dX12_init_128 : decode cX12_init 128 = .ok (.bipush 60, 2) := by decide +kernel
theorem dX12_init_130 : decode cX12_init 130 = .ok (.newarray .int, 2) := by decide +kernel
theorem dX12_init_132 : decode cX12_init 132 = .ok (.putfield 53, 3) := by decide +kernel
theorem dX12_init_135 : decode cX12_init 135 = .ok (.aload_n 0, 1) := by decide +kernel
theorem dX12_init_136 : decode cX12_init 136 = .ok (.sipush 300, 3) := by decide +kernel
theorem dX12_init_139 : decode cX12_init 139 = .ok (.newarray .boolean, 2) := by decide +kernel
theorem dX12_init_141 : decode cX12_init 141 = .ok (.putfield 56, 3) := by decide +kernel
theorem dX12_init_144 : decode cX12_init 144 = .ok (.aload_n 0, 1) := by decide +kernel
theorem dX12_init_145 : decode cX12_init 145 = .ok (.sipush 300, 3) := by decide +kernel
theorem dX12_init_148 : decode cX12_init 148 = .ok (.newarray .int, 2) := by decide +kernel
theorem dX12_init_150 : decode cX12_init 150 = .ok (.putfield 59, 3) := by decide +kernel
theorem dX12_init_153 : decode cX12_init 153 = .ok (.aload_n 0, 1) := by decide +kernel
theorem dX12_init_154 : decode cX12_init 154 = .ok (.sipush 300, 3) := by decide +kernel
theorem dX12_init_157 : decode cX12_init 157 = .ok (.newarray .int, 2) := by decide +kernel
theorem dX12_init_159 : decode cX12_init 159 = .ok (.putfield 62, 3) := by decide +kernel
theorem dX12_init_162 : decode cX12_init 162 = .ok (.aload_n 0, 1) := by decide +kernel
theorem dX12_init_163 : decode cX12_init 163 = .ok (.sipush 300, 3) := by decide +kernel
theorem dX12_init_166 : decode cX12_init 166 = .ok (.newarray .int, 2) := by decide +kernel
theorem dX12_init_168 : decode cX12_init 168 = .ok (.putfield 65, 3) := by decide +kernel
theorem dX12_init_171 : decode cX12_init 171 = .ok (.aload_n 0, 1) := by decide +kernel
theorem dX12_init_172 : decode cX12_init 172 = .ok (.sipush 300, 3) := by decide +kernel
theorem dX12_init_175 : decode cX12_init 175 = .ok (.newarray .int, 2) := by decide +kernel
theorem dX12_init_177 : decode cX12_init 177 = .ok (.putfield 68, 3) := by decide +kernel
theorem dX12_init_180 : decode cX12_init 180 = .ok (.aload_n 0, 1) := by decide +kernel
theorem dX12_init_181 : decode cX12_init 181 = .ok (.sipush 10000, 3) := by decide +kernel
theorem dX12_init_184 : decode cX12_init 184 = .ok (.newarray .int, 2) := by decide +kernel
theorem dX12_init_186 : decode cX12_init 186 = .ok (.putfield 71, 3) := by decide +kernel
theorem dX12_init_189 : decode cX12_init 189 = .ok (.aload_n 0, 1) := by decide +kernel
theorem dX12_init_190 : decode cX12_init 190 = .ok (.sipush 300, 3) := by decide +kernel
theorem dX12_init_193 : decode cX12_init 193 = .ok (.newarray .boolean, 2) := by decide +kernel
theorem dX12_init_195 : decode cX12_init 195 = .ok (.putfield 74, 3) := by decide +kernel
theorem dX12_init_198 : decode cX12_init 198 = .ok (.aload_n 0, 1) := by decide +kernel
theorem dX12_init_199 : decode cX12_init 199 = .ok (.sipush 300, 3) := by decide +kernel
theorem dX12_init_202 : decode cX12_init 202 = .ok (.newarray .boolean, 2) := by decide +kernel
theorem dX12_init_204 : decode cX12_init 204 = .ok (.putfield 77, 3) := by decide +kernel
theorem dX12_init_207 : decode cX12_init 207 = .ok (.aload_n 0, 1) := by decide +kernel
theorem dX12_init_208 : decode cX12_init 208 = .ok (.sipush 300, 3) := by decide +kernel
theorem dX12_init_211 : decode cX12_init 211 = .ok (.newarray .int, 2) := by decide +kernel
theorem dX12_init_213 : decode cX12_init 213 = .ok (.putfield 80, 3) := by decide +kernel
theorem dX12_init_216 : decode cX12_init 216 = .ok (.aload_n 0, 1) := by decide +kernel
theorem dX12_init_217 : decode cX12_init 217 = .ok (.sipush 300, 3) := by decide +kernel
theorem dX12_init_220 : decode cX12_init 220 = .ok (.newarray .boolean, 2) := by decide +kernel
theorem dX12_init_222 : decode cX12_init 222 = .ok (.putfield 83, 3) := by decide +kernel
theorem dX12_init_225 : decode cX12_init 225 = .ok (.aload_n 0, 1) := by decide +kernel
theorem dX12_init_226 : decode cX12_init 226 = .ok (.sipush 300, 3) := by decide +kernel
theorem dX12_init_229 : decode cX12_init 229 = .ok (.newarray .boolean, 2) := by decide +kernel
theorem dX12_init_231 : decode cX12_init 231 = .ok (.putfield 86, 3) := by decide +kernel
theorem dX12_init_234 : decode cX12_init 234 = .ok (.aload_n 0, 1) := by decide +kernel
theorem dX12_init_235 : decode cX12_init 235 = .ok (.sipush 300, 3) := by decide +kernel
theorem dX12_init_238 : decode cX12_init 238 = .ok (.newarray .boolean, 2) := by decide +kernel
theorem dX12_init_240 : decode cX12_init 240 = .ok (.putfield 89, 3) := by decide +kernel
theorem dX12_init_243 : decode cX12_init 243 = .ok (.aload_n 0, 1) := by decide +kernel
theorem dX12_init_244 : decode cX12_init 244 = .ok (.ldc 92, 2) := by decide +kernel
theorem dX12_init_246 : decode cX12_init 246 = .ok (.newarray .boolean, 2) := by decide +kernel
theorem dX12_init_248 : decode cX12_init 248 = .ok (.putfield 93, 3) := by decide +kernel
theorem dX12_init_251 : decode cX12_init 251 = .ok (.aload_n 0, 1) := by decide +kernel
theorem dX12_init_252 : decode cX12_init 252 = .ok (.sipush 300, 3) := by decide +kernel
theorem dX12_init_255 : decode cX12_init 255 = .ok (.newarray .int, 2) := by decide +kernel
theorem dX12_init_257 : decode cX12_init 257 = .ok (.putfield 96, 3) := by decide +kernel
theorem dX12_init_260 : decode cX12_init 260 = .ok (.aload_n 0, 1) := by decide +kernel
theorem dX12_init_261 : decode cX12_init 261 = .ok (.sipush 300, 3) := by decide +kernel
