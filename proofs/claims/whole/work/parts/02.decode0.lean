theorem dX0_init_0 : decode cX0_init 0 = .ok (.aload_n 0, 1) := by decide +kernel
theorem dX0_init_1 : decode cX0_init 1 = .ok (.invokespecial 3, 3) := by decide +kernel
theorem dX0_init_4 : decode cX0_init 4 = .ok (.aload_n 0, 1) := by decide +kernel
theorem dX0_init_5 : decode cX0_init 5 = .ok (.bipush 60, 2) := by decide +kernel
theorem dX0_init_7 : decode cX0_init 7 = .ok (.newarray .int, 2) := by decide +kernel
theorem dX0_init_9 : decode cX0_init 9 = .ok (.putfield 9, 3) := by decide +kernel
theorem dX0_init_12 : decode cX0_init 12 = .ok (.aload_n 0, 1) := by decide +kernel
theorem dX0_init_13 : decode cX0_init 13 = .ok (.bipush 60, 2) := by decide +kernel
theorem dX0_init_15 : decode cX0_init 15 = .ok (.newarray .int, 2) := by decide +kernel
theorem dX0_init_17 : decode cX0_init 17 = .ok (.putfield 15, 3) := by decide +kernel
theorem dX0_init_20 : decode cX0_init 20 = .ok (.aload_n 0, 1) := by decide +kernel
theorem dX0_init_21 : decode cX0_init 21 = .ok (.iload_n 1, 1) := by decide +kernel
theorem dX0_init_22 : decode cX0_init 22 = .ok (.putfield 18, 3) := by decide +kernel
theorem dX0_init_25 : decode cX0_init 25 = .ok (.return_, 1) := by decide +kernel
theorem dX0_copy_0 : decode cX0_copy 0 = .ok (.aload_n 0, 1) := by decide +kernel
theorem dX0_copy_1 : decode cX0_copy 1 = .ok (.iconst 0, 1) := by decide +kernel
theorem dX0_copy_2 : decode cX0_copy 2 = .ok (.iload_n 2, 1) := by decide +kernel
theorem dX0_copy_3 : decode cX0_copy 3 = .ok (.aload_n 1, 1) := by decide +kernel
theorem dX0_copy_4 : decode cX0_copy 4 = .ok (.arraylength, 1) := by decide +kernel
theorem dX0_copy_5 : decode cX0_copy 5 = .ok (.bipush 60, 2) := by decide +kernel
theorem dX0_copy_7 : decode cX0_copy 7 = .ok (.invokestatic 22, 3) := by decide +kernel
theorem dX0_copy_10 : decode cX0_copy 10 = .ok (.invokestatic 22, 3) := by decide +kernel
theorem dX0_copy_13 : decode cX0_copy 13 = .ok (.invokestatic 28, 3) := by decide +kernel
theorem dX0_copy_16 : decode cX0_copy 16 = .ok (.putfield 31, 3) := by decide +kernel
theorem dX0_copy_19 : decode cX0_copy 19 = .ok (.aload_n 1, 1) := by decide +kernel
theorem dX0_copy_20 : decode cX0_copy 20 = .ok (.iconst 0, 1) := by decide +kernel
theorem dX0_copy_21 : decode cX0_copy 21 = .ok (.aload_n 0, 1) := by decide +kernel
theorem dX0_copy_22 : decode cX0_copy 22 = .ok (.getfield 9, 3) := by decide +kernel
theorem dX0_copy_25 : decode cX0_copy 25 = .ok (.iconst 0, 1) := by decide +kernel
theorem dX0_copy_26 : decode cX0_copy 26 = .ok (.aload_n 0, 1) := by decide +kernel
theorem dX0_copy_27 : decode cX0_copy 27 = .ok (.getfield 31, 3) := by decide +kernel
theorem dX0_copy_30 : decode cX0_copy 30 = .ok (.invokestatic 34, 3) := by decide +kernel
theorem dX0_copy_33 : decode cX0_copy 33 = .ok (.return_, 1) := by decide +kernel
theorem dX0_gives_0 : decode cX0_gives 0 = .ok (.iconst 0, 1) := by decide +kernel
theorem dX0_gives_1 : decode cX0_gives 1 = .ok (.istore 4, 2) := by decide +kernel
theorem dX0_gives_3 : decode cX0_gives 3 = .ok (.aload_n 0, 1) := by decide +kernel
theorem dX0_gives_4 : decode cX0_gives 4 = .ok (.getfield 15, 3) := by decide +kernel
theorem dX0_gives_7 : decode cX0_gives 7 = .ok (.iconst 0, 1) := by decide +kernel
theorem dX0_gives_8 : decode cX0_gives 8 = .ok (.iload_n 1, 1) := by decide +kernel
theorem dX0_gives_9 : decode cX0_gives 9 = .ok (.iastore, 1) := by decide +kernel
theorem dX0_gives_10 : decode cX0_gives 10 = .ok (.iconst 0, 1) := by decide +kernel
theorem dX0_gives_11 : decode cX0_gives 11 = .ok (.istore 5, 2) := by decide +kernel
theorem dX0_gives_13 : decode cX0_gives 13 = .ok (.iload 5, 2) := by decide +kernel
theorem dX0_gives_15 : decode cX0_gives 15 = .ok (.aload_n 0, 1) := by decide +kernel
theorem dX0_gives_16 : decode cX0_gives 16 = .ok (.getfield 31, 3) := by decide +kernel
theorem dX0_gives_19 : decode cX0_gives 19 = .ok (.if_icmp .ge 151, 3) := by decide +kernel
theorem dX0_gives_22 : decode cX0_gives 22 = .ok (.aload_n 0, 1) := by decide +kernel
theorem dX0_gives_23 : decode cX0_gives 23 = .ok (.getfield 9, 3) := by decide +kernel
theorem dX0_gives_26 : decode cX0_gives 26 = .ok (.iload 5, 2) := by decide +kernel
theorem dX0_gives_28 : decode cX0_gives 28 = .ok (.iaload, 1) := by decide +kernel
theorem dX0_gives_29 : decode cX0_gives 29 = .ok (.istore 6, 2) := by decide +kernel
theorem dX0_gives_31 : decode cX0_gives 31 = .ok (.iload 6, 2) := by decide +kernel
theorem dX0_gives_33 : decode cX0_gives 33 = .ok (.bipush (-3), 2) := by decide +kernel
theorem dX0_gives_35 : decode cX0_gives 35 = .ok (.if_icmp .lt 43, 3) := by decide +kernel
theorem dX0_gives_38 : decode cX0_gives 38 = .ok (.iload 4, 2) := by decide +kernel
theorem dX0_gives_40 : decode cX0_gives 40 = .ok (.bipush 60, 2) := by decide +kernel
theorem dX0_gives_42 : decode cX0_gives 42 = .ok (.if_icmp .lt 5, 3) := by decide +kernel
theorem dX0_gives_45 : decode cX0_gives 45 = .ok (.iconst 0, 1) := by decide +kernel
theorem dX0_gives_46 : decode cX0_gives 46 = .ok (.ireturn, 1) := by decide +kernel
theorem dX0_gives_47 : decode cX0_gives 47 = .ok (.aload_n 0, 1) := by decide +kernel
theorem dX0_gives_48 : decode cX0_gives 48 = .ok (.getfield 15, 3) := by decide +kernel
theorem dX0_gives_51 : decode cX0_gives 51 = .ok (.iload 4, 2) := by decide +kernel
theorem dX0_gives_53 : decode cX0_gives 53 = .ok (.iload 6, 2) := by decide +kernel
theorem dX0_gives_55 : decode cX0_gives 55 = .ok (.ifCond .lt 8, 3) := by decide +kernel
theorem dX0_gives_58 : decode cX0_gives 58 = .ok (.iload 6, 2) := by decide +kernel
theorem dX0_gives_60 : decode cX0_gives 60 = .ok (.goto 11, 3) := by decide +kernel
theorem dX0_gives_63 : decode cX0_gives 63 = .ok (.iload 6, 2) := by decide +kernel
theorem dX0_gives_65 : decode cX0_gives 65 = .ok (.iload_n 1, 1) := by decide +kernel
theorem dX0_gives_66 : decode cX0_gives 66 = .ok (.iload_n 2, 1) := by decide +kernel
theorem dX0_gives_67 : decode cX0_gives 67 = .ok (.iload_n 3, 1) := by decide +kernel
theorem dX0_gives_68 : decode cX0_gives 68 = .ok (.invokestatic 40, 3) := by decide +kernel
theorem dX0_gives_71 : decode cX0_gives 71 = .ok (.iastore, 1) := by decide +kernel
theorem dX0_gives_72 : decode cX0_gives 72 = .ok (.iinc 4 1, 3) := by decide +kernel
theorem dX0_gives_75 : decode cX0_gives 75 = .ok (.goto 89, 3) := by decide +kernel
theorem dX0_gives_78 : decode cX0_gives 78 = .ok (.iload 6, 2) := by decide +kernel
theorem dX0_gives_80 : decode cX0_gives 80 = .ok (.bipush (-33), 2) := by decide +kernel
theorem dX0_gives_82 : decode cX0_gives 82 = .ok (.if_icmp .ne 40, 3) := by decide +kernel
theorem dX0_gives_85 : decode cX0_gives 85 = .ok (.iload 4, 2) := by decide +kernel
theorem dX0_gives_87 : decode cX0_gives 87 = .ok (.iconst 1, 1) := by decide +kernel
theorem dX0_gives_88 : decode cX0_gives 88 = .ok (.if_icmp .ge 5, 3) := by decide +kernel
theorem dX0_gives_91 : decode cX0_gives 91 = .ok (.iconst 0, 1) := by decide +kernel
theorem dX0_gives_92 : decode cX0_gives 92 = .ok (.ireturn, 1) := by decide +kernel
theorem dX0_gives_93 : decode cX0_gives 93 = .ok (.aload_n 0, 1) := by decide +kernel
theorem dX0_gives_94 : decode cX0_gives 94 = .ok (.getfield 15, 3) := by decide +kernel
theorem dX0_gives_97 : decode cX0_gives 97 = .ok (.iload 4, 2) := by decide +kernel
theorem dX0_gives_99 : decode cX0_gives 99 = .ok (.iconst 1, 1) := by decide +kernel
theorem dX0_gives_100 : decode cX0_gives 100 = .ok (.isub, 1) := by decide +kernel
theorem dX0_gives_101 : decode cX0_gives 101 = .ok (.aload_n 0, 1) := by decide +kernel
theorem dX0_gives_102 : decode cX0_gives 102 = .ok (.getfield 15, 3) := by decide +kernel
theorem dX0_gives_105 : decode cX0_gives 105 = .ok (.iload 4, 2) := by decide +kernel
theorem dX0_gives_107 : decode cX0_gives 107 = .ok (.iconst 1, 1) := by decide +kernel
theorem dX0_gives_108 : decode cX0_gives 108 = .ok (.isub, 1) := by decide +kernel
theorem dX0_gives_109 : decode cX0_gives 109 = .ok (.iaload, 1) := by decide +kernel
theorem dX0_gives_110 : decode cX0_gives 110 = .ok (.ifCond .ne 7, 3) := by decide +kernel
theorem dX0_gives_113 : decode cX0_gives 113 = .ok (.iconst 1, 1) := by decide +kernel
theorem dX0_gives_114 : decode cX0_gives 114 = .ok (.goto 4, 3) := by decide +kernel
theorem dX0_gives_117 : decode cX0_gives 117 = .ok (.iconst 0, 1) := by decide +kernel
theorem dX0_gives_118 : decode cX0_gives 118 = .ok (.iastore, 1) := by decide +kernel
theorem dX0_gives_119 : decode cX0_gives 119 = .ok (.goto 45, 3) := by decide +kernel
theorem dX0_gives_122 : decode cX0_gives 122 = .ok (.iload 4, 2) := by decide +kernel
theorem dX0_gives_124 : decode cX0_gives 124 = .ok (.iconst 2, 1) := by decide +kernel
theorem dX0_gives_125 : decode cX0_gives 125 = .ok (.if_icmp .ge 5, 3) := by decide +kernel
theorem dX0_gives_128 : decode cX0_gives 128 = .ok (.iconst 0, 1) := by decide +kernel
theorem dX0_gives_129 : decode cX0_gives 129 = .ok (.ireturn, 1) := by decide +kernel
theorem dX0_gives_130 : decode cX0_gives 130 = .ok (.iinc 4 (-1), 3) := by decide +kernel
theorem dX0_gives_133 : decode cX0_gives 133 = .ok (.aload_n 0, 1) := by decide +kernel
theorem dX0_gives_134 : decode cX0_gives 134 = .ok (.getfield 15, 3) := by decide +kernel
theorem dX0_gives_137 : decode cX0_gives 137 = .ok (.iload 4, 2) := by decide +kernel
theorem dX0_gives_139 : decode cX0_gives 139 = .ok (.iconst 1, 1) := by decide +kernel
theorem dX0_gives_140 : decode cX0_gives 140 = .ok (.isub, 1) := by decide +kernel
theorem dX0_gives_141 : decode cX0_gives 141 = .ok (.iload 6, 2) := by decide +kernel
theorem dX0_gives_143 : decode cX0_gives 143 = .ok (.ineg, 1) := by decide +kernel
theorem dX0_gives_144 : decode cX0_gives 144 = .ok (.aload_n 0, 1) := by decide +kernel
theorem dX0_gives_145 : decode cX0_gives 145 = .ok (.getfield 15, 3) := by decide +kernel
theorem dX0_gives_148 : decode cX0_gives 148 = .ok (.iload 4, 2) := by decide +kernel
theorem dX0_gives_150 : decode cX0_gives 150 = .ok (.iconst 1, 1) := by decide +kernel
theorem dX0_gives_151 : decode cX0_gives 151 = .ok (.isub, 1) := by decide +kernel
theorem dX0_gives_152 : decode cX0_gives 152 = .ok (.iaload, 1) := by decide +kernel
theorem dX0_gives_153 : decode cX0_gives 153 = .ok (.aload_n 0, 1) := by decide +kernel
theorem dX0_gives_154 : decode cX0_gives 154 = .ok (.getfield 15, 3) := by decide +kernel
theorem dX0_gives_157 : decode cX0_gives 157 = .ok (.iload 4, 2) := by decide +kernel
theorem dX0_gives_159 : decode cX0_gives 159 = .ok (.iaload, 1) := by decide +kernel
theorem dX0_gives_160 : decode cX0_gives 160 = .ok (.invokestatic 44, 3) := by decide +kernel
theorem dX0_gives_163 : decode cX0_gives 163 = .ok (.iastore, 1) := by decide +kernel
theorem dX0_gives_164 : decode cX0_gives 164 = .ok (.iinc 5 1, 3) := by decide +kernel
theorem dX0_gives_167 : decode cX0_gives 167 = .ok (.goto (-154), 3) := by decide +kernel
theorem dX0_gives_170 : decode cX0_gives 170 = .ok (.iconst 0, 1) := by decide +kernel
theorem dX0_gives_171 : decode cX0_gives 171 = .ok (.aload_n 0, 1) := by decide +kernel
theorem dX0_gives_172 : decode cX0_gives 172 = .ok (.getfield 18, 3) := by decide +kernel
theorem dX0_gives_175 : decode cX0_gives 175 = .ok (.aload_n 0, 1) := by decide +kernel
theorem dX0_gives_176 : decode cX0_gives 176 = .ok (.getfield 15, 3) := by decide +kernel
theorem dX0_gives_179 : decode cX0_gives 179 = .ok (.iconst 0, 1) := by decide +kernel
theorem dX0_gives_180 : decode cX0_gives 180 = .ok (.iaload, 1) := by decide +kernel
theorem dX0_gives_181 : decode cX0_gives 181 = .ok (.invokestatic 22, 3) := by decide +kernel
theorem dX0_gives_184 : decode cX0_gives 184 = .ok (.invokestatic 28, 3) := by decide +kernel
theorem dX0_gives_187 : decode cX0_gives 187 = .ok (.ireturn, 1) := by decide +kernel
theorem dX0_named_0 : decode cX0_named 0 = .ok (.iload_n 0, 1) := by decide +kernel
theorem dX0_named_1 : decode cX0_named 1 = .ok (.iconst (-1), 1) := by decide +kernel
theorem dX0_named_2 : decode cX0_named 2 = .ok (.if_icmp .ne 5, 3) := by decide +kernel
theorem dX0_named_5 : decode cX0_named 5 = .ok (.iload_n 1, 1) := by decide +kernel
theorem dX0_named_6 : decode cX0_named 6 = .ok (.ireturn, 1) := by decide +kernel
theorem dX0_named_7 : decode cX0_named 7 = .ok (.iload_n 0, 1) := by decide +kernel
theorem dX0_named_8 : decode cX0_named 8 = .ok (.bipush (-2), 2) := by decide +kernel
theorem dX0_named_10 : decode cX0_named 10 = .ok (.if_icmp .ne 7, 3) := by decide +kernel
theorem dX0_named_13 : decode cX0_named 13 = .ok (.iload_n 2, 1) := by decide +kernel
theorem dX0_named_14 : decode cX0_named 14 = .ok (.goto 4, 3) := by decide +kernel
theorem dX0_named_17 : decode cX0_named 17 = .ok (.iload_n 3, 1) := by decide +kernel
theorem dX0_named_18 : decode cX0_named 18 = .ok (.ireturn, 1) := by decide +kernel
theorem dX0_joined_0 : decode cX0_joined 0 = .ok (.iload_n 0, 1) := by decide +kernel
theorem dX0_joined_1 : decode cX0_joined 1 = .ok (.lookupswitch 188 #[(37, 115), (38, 160), (42, 99), (43, 91), (45, 95), (47, 103), (60, 127), (61, 149), (62, 138), (124, 174)], 91) := by decide +kernel
theorem dX0_joined_92 : decode cX0_joined 92 = .ok (.iload_n 1, 1) := by decide +kernel
theorem dX0_joined_93 : decode cX0_joined 93 = .ok (.iload_n 2, 1) := by decide +kernel
theorem dX0_joined_94 : decode cX0_joined 94 = .ok (.iadd, 1) := by decide +kernel
theorem dX0_joined_95 : decode cX0_joined 95 = .ok (.ireturn, 1) := by decide +kernel
theorem dX0_joined_96 : decode cX0_joined 96 = .ok (.iload_n 1, 1) := by decide +kernel
theorem dX0_joined_97 : decode cX0_joined 97 = .ok (.iload_n 2, 1) := by decide +kernel
theorem dX0_joined_98 : decode cX0_joined 98 = .ok (.isub, 1) := by decide +kernel
theorem dX0_joined_99 : decode cX0_joined 99 = .ok (.ireturn, 1) := by decide +kernel
theorem dX0_joined_100 : decode cX0_joined 100 = .ok (.iload_n 1, 1) := by decide +kernel
theorem dX0_joined_101 : decode cX0_joined 101 = .ok (.iload_n 2, 1) := by decide +kernel
theorem dX0_joined_102 : decode cX0_joined 102 = .ok (.imul, 1) := by decide +kernel
theorem dX0_joined_103 : decode cX0_joined 103 = .ok (.ireturn, 1) := by decide +kernel
theorem dX0_joined_104 : decode cX0_joined 104 = .ok (.iload_n 2, 1) := by decide +kernel
theorem dX0_joined_105 : decode cX0_joined 105 = .ok (.ifCond .ne 7, 3) := by decide +kernel
theorem dX0_joined_108 : decode cX0_joined 108 = .ok (.iconst 0, 1) := by decide +kernel
theorem dX0_joined_109 : decode cX0_joined 109 = .ok (.goto 6, 3) := by decide +kernel
theorem dX0_joined_112 : decode cX0_joined 112 = .ok (.iload_n 1, 1) := by decide +kernel
theorem dX0_joined_113 : decode cX0_joined 113 = .ok (.iload_n 2, 1) := by decide +kernel
theorem dX0_joined_114 : decode cX0_joined 114 = .ok (.idiv, 1) := by decide +kernel
theorem dX0_joined_115 : decode cX0_joined 115 = .ok (.ireturn, 1) := by decide +kernel
theorem dX0_joined_116 : decode cX0_joined 116 = .ok (.iload_n 2, 1) := by decide +kernel
theorem dX0_joined_117 : decode cX0_joined 117 = .ok (.ifCond .ne 7, 3) := by decide +kernel
theorem dX0_joined_120 : decode cX0_joined 120 = .ok (.iconst 0, 1) := by decide +kernel
theorem dX0_joined_121 : decode cX0_joined 121 = .ok (.goto 6, 3) := by decide +kernel
theorem dX0_joined_124 : decode cX0_joined 124 = .ok (.iload_n 1, 1) := by decide +kernel
theorem dX0_joined_125 : decode cX0_joined 125 = .ok (.iload_n 2, 1) := by decide +kernel
theorem dX0_joined_126 : decode cX0_joined 126 = .ok (.irem, 1) := by decide +kernel
theorem dX0_joined_127 : decode cX0_joined 127 = .ok (.ireturn, 1) := by decide +kernel
theorem dX0_joined_128 : decode cX0_joined 128 = .ok (.iload_n 1, 1) := by decide +kernel
theorem dX0_joined_129 : decode cX0_joined 129 = .ok (.iload_n 2, 1) := by decide +kernel
theorem dX0_joined_130 : decode cX0_joined 130 = .ok (.if_icmp .ge 7, 3) := by decide +kernel
theorem dX0_joined_133 : decode cX0_joined 133 = .ok (.iconst 1, 1) := by decide +kernel
theorem dX0_joined_134 : decode cX0_joined 134 = .ok (.goto 4, 3) := by decide +kernel
theorem dX0_joined_137 : decode cX0_joined 137 = .ok (.iconst 0, 1) := by decide +kernel
theorem dX0_joined_138 : decode cX0_joined 138 = .ok (.ireturn, 1) := by decide +kernel
theorem dX0_joined_139 : decode cX0_joined 139 = .ok (.iload_n 1, 1) := by decide +kernel
theorem dX0_joined_140 : decode cX0_joined 140 = .ok (.iload_n 2, 1) := by decide +kernel
theorem dX0_joined_141 : decode cX0_joined 141 = .ok (.if_icmp .le 7, 3) := by decide +kernel
theorem dX0_joined_144 : decode cX0_joined 144 = .ok (.iconst 1, 1) := by decide +kernel
theorem dX0_joined_145 : decode cX0_joined 145 = .ok (.goto 4, 3) := by decide +kernel
theorem dX0_joined_148 : decode cX0_joined 148 = .ok (.iconst 0, 1) := by decide +kernel
theorem dX0_joined_149 : decode cX0_joined 149 = .ok (.ireturn, 1) := by decide +kernel
theorem dX0_joined_150 : decode cX0_joined 150 = .ok (.iload_n 1, 1) := by decide +kernel
theorem dX0_joined_151 : decode cX0_joined 151 = .ok (.iload_n 2, 1) := by decide +kernel
theorem dX0_joined_152 : decode cX0_joined 152 = .ok (.if_icmp .ne 7, 3) := by decide +kernel
theorem dX0_joined_155 : decode cX0_joined 155 = .ok (.iconst 1, 1) := by decide +kernel
theorem dX0_joined_156 : decode cX0_joined 156 = .ok (.goto 4, 3) := by decide +kernel
theorem dX0_joined_159 : decode cX0_joined 159 = .ok (.iconst 0, 1) := by decide +kernel
theorem dX0_joined_160 : decode cX0_joined 160 = .ok (.ireturn, 1) := by decide +kernel
theorem dX0_joined_161 : decode cX0_joined 161 = .ok (.iload_n 1, 1) := by decide +kernel
theorem dX0_joined_162 : decode cX0_joined 162 = .ok (.ifCond .eq 11, 3) := by decide +kernel
theorem dX0_joined_165 : decode cX0_joined 165 = .ok (.iload_n 2, 1) := by decide +kernel
theorem dX0_joined_166 : decode cX0_joined 166 = .ok (.ifCond .eq 7, 3) := by decide +kernel
theorem dX0_joined_169 : decode cX0_joined 169 = .ok (.iconst 1, 1) := by decide +kernel
theorem dX0_joined_170 : decode cX0_joined 170 = .ok (.goto 4, 3) := by decide +kernel
theorem dX0_joined_173 : decode cX0_joined 173 = .ok (.iconst 0, 1) := by decide +kernel
theorem dX0_joined_174 : decode cX0_joined 174 = .ok (.ireturn, 1) := by decide +kernel
theorem dX0_joined_175 : decode cX0_joined 175 = .ok (.iload_n 1, 1) := by decide +kernel
theorem dX0_joined_176 : decode cX0_joined 176 = .ok (.ifCond .ne 7, 3) := by decide +kernel
theorem dX0_joined_179 : decode cX0_joined 179 = .ok (.iload_n 2, 1) := by decide +kernel
theorem dX0_joined_180 : decode cX0_joined 180 = .ok (.ifCond .eq 7, 3) := by decide +kernel
theorem dX0_joined_183 : decode cX0_joined 183 = .ok (.iconst 1, 1) := by decide +kernel
theorem dX0_joined_184 : decode cX0_joined 184 = .ok (.goto 4, 3) := by decide +kernel
theorem dX0_joined_187 : decode cX0_joined 187 = .ok (.iconst 0, 1) := by decide +kernel
theorem dX0_joined_188 : decode cX0_joined 188 = .ok (.ireturn, 1) := by decide +kernel
theorem dX0_joined_189 : decode cX0_joined 189 = .ok (.iconst 0, 1) := by decide +kernel
theorem dX0_joined_190 : decode cX0_joined 190 = .ok (.ireturn, 1) := by decide +kernel
theorem dX1_init_0 : decode cX1_init 0 = .ok (.aload_n 0, 1) := by decide +kernel
theorem dX1_init_1 : decode cX1_init 1 = .ok (.invokespecial 3, 3) := by decide +kernel
theorem dX1_init_4 : decode cX1_init 4 = .ok (.aload_n 0, 1) := by decide +kernel
theorem dX1_init_5 : decode cX1_init 5 = .ok (.bipush 60, 2) := by decide +kernel
theorem dX1_init_7 : decode cX1_init 7 = .ok (.newarray .byte, 2) := by decide +kernel
theorem dX1_init_9 : decode cX1_init 9 = .ok (.putfield 9, 3) := by decide +kernel
theorem dX1_init_12 : decode cX1_init 12 = .ok (.aload_n 0, 1) := by decide +kernel
theorem dX1_init_13 : decode cX1_init 13 = .ok (.ldc 15, 2) := by decide +kernel
theorem dX1_init_15 : decode cX1_init 15 = .ok (.putfield 17, 3) := by decide +kernel
theorem dX1_init_18 : decode cX1_init 18 = .ok (.aload_n 0, 1) := by decide +kernel
theorem dX1_init_19 : decode cX1_init 19 = .ok (.bipush 60, 2) := by decide +kernel
theorem dX1_init_21 : decode cX1_init 21 = .ok (.newarray .int, 2) := by decide +kernel
theorem dX1_init_23 : decode cX1_init 23 = .ok (.putfield 21, 3) := by decide +kernel
theorem dX1_init_26 : decode cX1_init 26 = .ok (.return_, 1) := by decide +kernel
theorem dX1_read_0 : decode cX1_read 0 = .ok (.aload_n 0, 1) := by decide +kernel
theorem dX1_read_1 : decode cX1_read 1 = .ok (.iconst 0, 1) := by decide +kernel
theorem dX1_read_2 : decode cX1_read 2 = .ok (.iload_n 2, 1) := by decide +kernel
theorem dX1_read_3 : decode cX1_read 3 = .ok (.aload_n 1, 1) := by decide +kernel
theorem dX1_read_4 : decode cX1_read 4 = .ok (.arraylength, 1) := by decide +kernel
theorem dX1_read_5 : decode cX1_read 5 = .ok (.bipush 60, 2) := by decide +kernel
theorem dX1_read_7 : decode cX1_read 7 = .ok (.invokestatic 25, 3) := by decide +kernel
theorem dX1_read_10 : decode cX1_read 10 = .ok (.invokestatic 25, 3) := by decide +kernel
theorem dX1_read_13 : decode cX1_read 13 = .ok (.invokestatic 31, 3) := by decide +kernel
theorem dX1_read_16 : decode cX1_read 16 = .ok (.putfield 34, 3) := by decide +kernel
theorem dX1_read_19 : decode cX1_read 19 = .ok (.aload_n 1, 1) := by decide +kernel
theorem dX1_read_20 : decode cX1_read 20 = .ok (.iconst 0, 1) := by decide +kernel
theorem dX1_read_21 : decode cX1_read 21 = .ok (.aload_n 0, 1) := by decide +kernel
theorem dX1_read_22 : decode cX1_read 22 = .ok (.getfield 9, 3) := by decide +kernel
theorem dX1_read_25 : decode cX1_read 25 = .ok (.iconst 0, 1) := by decide +kernel
theorem dX1_read_26 : decode cX1_read 26 = .ok (.aload_n 0, 1) := by decide +kernel
theorem dX1_read_27 : decode cX1_read 27 = .ok (.getfield 34, 3) := by decide +kernel
theorem dX1_read_30 : decode cX1_read 30 = .ok (.invokestatic 38, 3) := by decide +kernel
theorem dX1_read_33 : decode cX1_read 33 = .ok (.aload_n 0, 1) := by decide +kernel
theorem dX1_read_34 : decode cX1_read 34 = .ok (.iload_n 3, 1) := by decide +kernel
theorem dX1_read_35 : decode cX1_read 35 = .ok (.iconst 1, 1) := by decide +kernel
theorem dX1_read_36 : decode cX1_read 36 = .ok (.if_icmp .ne 8, 3) := by decide +kernel
theorem dX1_read_39 : decode cX1_read 39 = .ok (.ldc 44, 2) := by decide +kernel
theorem dX1_read_41 : decode cX1_read 41 = .ok (.goto 5, 3) := by decide +kernel
theorem dX1_read_44 : decode cX1_read 44 = .ok (.ldc 15, 2) := by decide +kernel
theorem dX1_read_46 : decode cX1_read 46 = .ok (.putfield 17, 3) := by decide +kernel
theorem dX1_read_49 : decode cX1_read 49 = .ok (.aload_n 0, 1) := by decide +kernel
theorem dX1_read_50 : decode cX1_read 50 = .ok (.iconst 0, 1) := by decide +kernel
theorem dX1_read_51 : decode cX1_read 51 = .ok (.putfield 46, 3) := by decide +kernel
theorem dX1_read_54 : decode cX1_read 54 = .ok (.aload_n 0, 1) := by decide +kernel
theorem dX1_read_55 : decode cX1_read 55 = .ok (.iconst 0, 1) := by decide +kernel
theorem dX1_read_56 : decode cX1_read 56 = .ok (.putfield 49, 3) := by decide +kernel
theorem dX1_read_59 : decode cX1_read 59 = .ok (.aload_n 0, 1) := by decide +kernel
theorem dX1_read_60 : decode cX1_read 60 = .ok (.iconst 0, 1) := by decide +kernel
theorem dX1_read_61 : decode cX1_read 61 = .ok (.iconst 0, 1) := by decide +kernel
theorem dX1_read_62 : decode cX1_read 62 = .ok (.invokevirtual 52, 3) := by decide +kernel
theorem dX1_read_65 : decode cX1_read 65 = .ok (.ifCond .eq 14, 3) := by decide +kernel
theorem dX1_read_68 : decode cX1_read 68 = .ok (.aload_n 0, 1) := by decide +kernel
theorem dX1_read_69 : decode cX1_read 69 = .ok (.getfield 46, 3) := by decide +kernel
theorem dX1_read_72 : decode cX1_read 72 = .ok (.aload_n 0, 1) := by decide +kernel
theorem dX1_read_73 : decode cX1_read 73 = .ok (.getfield 34, 3) := by decide +kernel
theorem dX1_read_76 : decode cX1_read 76 = .ok (.if_icmp .ge 8, 3) := by decide +kernel
theorem dX1_read_79 : decode cX1_read 79 = .ok (.aload_n 0, 1) := by decide +kernel
theorem dX1_read_80 : decode cX1_read 80 = .ok (.getfield 46, 3) := by decide +kernel
theorem dX1_read_83 : decode cX1_read 83 = .ok (.ireturn, 1) := by decide +kernel
theorem dX1_read_84 : decode cX1_read 84 = .ok (.aload 4, 2) := by decide +kernel
theorem dX1_read_86 : decode cX1_read 86 = .ok (.aload_n 0, 1) := by decide +kernel
theorem dX1_read_87 : decode cX1_read 87 = .ok (.getfield 21, 3) := by decide +kernel
theorem dX1_read_90 : decode cX1_read 90 = .ok (.aload_n 0, 1) := by decide +kernel
theorem dX1_read_91 : decode cX1_read 91 = .ok (.getfield 49, 3) := by decide +kernel
theorem dX1_read_94 : decode cX1_read 94 = .ok (.invokevirtual 56, 3) := by decide +kernel
theorem dX1_read_97 : decode cX1_read 97 = .ok (.iconst (-1), 1) := by decide +kernel
theorem dX1_read_98 : decode cX1_read 98 = .ok (.ireturn, 1) := by decide +kernel
theorem dX1_step_0 : decode cX1_step 0 = .ok (.aload_n 0, 1) := by decide +kernel
theorem dX1_step_1 : decode cX1_step 1 = .ok (.getfield 49, 3) := by decide +kernel
theorem dX1_step_4 : decode cX1_step 4 = .ok (.bipush 60, 2) := by decide +kernel
theorem dX1_step_6 : decode cX1_step 6 = .ok (.if_icmp .ge 23, 3) := by decide +kernel
theorem dX1_step_9 : decode cX1_step 9 = .ok (.aload_n 0, 1) := by decide +kernel
theorem dX1_step_10 : decode cX1_step 10 = .ok (.getfield 21, 3) := by decide +kernel
theorem dX1_step_13 : decode cX1_step 13 = .ok (.aload_n 0, 1) := by decide +kernel
theorem dX1_step_14 : decode cX1_step 14 = .ok (.getfield 49, 3) := by decide +kernel
theorem dX1_step_17 : decode cX1_step 17 = .ok (.iload_n 1, 1) := by decide +kernel
theorem dX1_step_18 : decode cX1_step 18 = .ok (.iastore, 1) := by decide +kernel
theorem dX1_step_19 : decode cX1_step 19 = .ok (.aload_n 0, 1) := by decide +kernel
theorem dX1_step_20 : decode cX1_step 20 = .ok (.dup, 1) := by decide +kernel
theorem dX1_step_21 : decode cX1_step 21 = .ok (.getfield 49, 3) := by decide +kernel
theorem dX1_step_24 : decode cX1_step 24 = .ok (.iconst 1, 1) := by decide +kernel
theorem dX1_step_25 : decode cX1_step 25 = .ok (.iadd, 1) := by decide +kernel
theorem dX1_step_26 : decode cX1_step 26 = .ok (.putfield 49, 3) := by decide +kernel
theorem dX1_step_29 : decode cX1_step 29 = .ok (.return_, 1) := by decide +kernel
theorem dX1_levelOf_0 : decode cX1_levelOf 0 = .ok (.iload_n 0, 1) := by decide +kernel
theorem dX1_levelOf_1 : decode cX1_levelOf 1 = .ok (.lookupswitch 101 #[(37, 99), (38, 93), (42, 99), (43, 97), (45, 97), (47, 99), (60, 95), (61, 95), (62, 95), (124, 91)], 91) := by decide +kernel
theorem dX1_levelOf_92 : decode cX1_levelOf 92 = .ok (.iconst 0, 1) := by decide +kernel
theorem dX1_levelOf_93 : decode cX1_levelOf 93 = .ok (.ireturn, 1) := by decide +kernel
theorem dX1_levelOf_94 : decode cX1_levelOf 94 = .ok (.iconst 1, 1) := by decide +kernel
theorem dX1_levelOf_95 : decode cX1_levelOf 95 = .ok (.ireturn, 1) := by decide +kernel
theorem dX1_levelOf_96 : decode cX1_levelOf 96 = .ok (.iconst 2, 1) := by decide +kernel
theorem dX1_levelOf_97 : decode cX1_levelOf 97 = .ok (.ireturn, 1) := by decide +kernel
theorem dX1_levelOf_98 : decode cX1_levelOf 98 = .ok (.iconst 3, 1) := by decide +kernel
theorem dX1_levelOf_99 : decode cX1_levelOf 99 = .ok (.ireturn, 1) := by decide +kernel
theorem dX1_levelOf_100 : decode cX1_levelOf 100 = .ok (.iconst 4, 1) := by decide +kernel
theorem dX1_levelOf_101 : decode cX1_levelOf 101 = .ok (.ireturn, 1) := by decide +kernel
theorem dX1_levelOf_102 : decode cX1_levelOf 102 = .ok (.iconst (-1), 1) := by decide +kernel
theorem dX1_levelOf_103 : decode cX1_levelOf 103 = .ok (.ireturn, 1) := by decide +kernel
theorem dX1_readLevel_0 : decode cX1_readLevel 0 = .ok (.iload_n 1, 1) := by decide +kernel
theorem dX1_readLevel_1 : decode cX1_readLevel 1 = .ok (.iconst 5, 1) := by decide +kernel
theorem dX1_readLevel_2 : decode cX1_readLevel 2 = .ok (.if_icmp .ge 8, 3) := by decide +kernel
theorem dX1_readLevel_5 : decode cX1_readLevel 5 = .ok (.iload_n 2, 1) := by decide +kernel
theorem dX1_readLevel_6 : decode cX1_readLevel 6 = .ok (.iconst 5, 1) := by decide +kernel
theorem dX1_readLevel_7 : decode cX1_readLevel 7 = .ok (.if_icmp .le 9, 3) := by decide +kernel
theorem dX1_readLevel_10 : decode cX1_readLevel 10 = .ok (.aload_n 0, 1) := by decide +kernel
theorem dX1_readLevel_11 : decode cX1_readLevel 11 = .ok (.iload_n 2, 1) := by decide +kernel
theorem dX1_readLevel_12 : decode cX1_readLevel 12 = .ok (.invokevirtual 62, 3) := by decide +kernel
theorem dX1_readLevel_15 : decode cX1_readLevel 15 = .ok (.ireturn, 1) := by decide +kernel
theorem dX1_readLevel_16 : decode cX1_readLevel 16 = .ok (.aload_n 0, 1) := by decide +kernel
theorem dX1_readLevel_17 : decode cX1_readLevel 17 = .ok (.iload_n 1, 1) := by decide +kernel
theorem dX1_readLevel_18 : decode cX1_readLevel 18 = .ok (.iconst 1, 1) := by decide +kernel
theorem dX1_readLevel_19 : decode cX1_readLevel 19 = .ok (.iadd, 1) := by decide +kernel
theorem dX1_readLevel_20 : decode cX1_readLevel 20 = .ok (.iload_n 2, 1) := by decide +kernel
theorem dX1_readLevel_21 : decode cX1_readLevel 21 = .ok (.invokevirtual 52, 3) := by decide +kernel
theorem dX1_readLevel_24 : decode cX1_readLevel 24 = .ok (.ifCond .ne 5, 3) := by decide +kernel
theorem dX1_readLevel_27 : decode cX1_readLevel 27 = .ok (.iconst 0, 1) := by decide +kernel
theorem dX1_readLevel_28 : decode cX1_readLevel 28 = .ok (.ireturn, 1) := by decide +kernel
theorem dX1_readLevel_29 : decode cX1_readLevel 29 = .ok (.iconst 1, 1) := by decide +kernel
theorem dX1_readLevel_30 : decode cX1_readLevel 30 = .ok (.istore_n 3, 1) := by decide +kernel
theorem dX1_readLevel_31 : decode cX1_readLevel 31 = .ok (.iload_n 3, 1) := by decide +kernel
theorem dX1_readLevel_32 : decode cX1_readLevel 32 = .ok (.ifCond .eq 85, 3) := by decide +kernel
theorem dX1_readLevel_35 : decode cX1_readLevel 35 = .ok (.aload_n 0, 1) := by decide +kernel
theorem dX1_readLevel_36 : decode cX1_readLevel 36 = .ok (.getfield 46, 3) := by decide +kernel
theorem dX1_readLevel_39 : decode cX1_readLevel 39 = .ok (.aload_n 0, 1) := by decide +kernel
theorem dX1_readLevel_40 : decode cX1_readLevel 40 = .ok (.getfield 34, 3) := by decide +kernel
theorem dX1_readLevel_43 : decode cX1_readLevel 43 = .ok (.if_icmp .ge 74, 3) := by decide +kernel
theorem dX1_readLevel_46 : decode cX1_readLevel 46 = .ok (.aload_n 0, 1) := by decide +kernel
theorem dX1_readLevel_47 : decode cX1_readLevel 47 = .ok (.getfield 9, 3) := by decide +kernel
theorem dX1_readLevel_50 : decode cX1_readLevel 50 = .ok (.aload_n 0, 1) := by decide +kernel
theorem dX1_readLevel_51 : decode cX1_readLevel 51 = .ok (.getfield 46, 3) := by decide +kernel
theorem dX1_readLevel_54 : decode cX1_readLevel 54 = .ok (.baload, 1) := by decide +kernel
theorem dX1_readLevel_55 : decode cX1_readLevel 55 = .ok (.invokestatic 66, 3) := by decide +kernel
theorem dX1_readLevel_58 : decode cX1_readLevel 58 = .ok (.iload_n 1, 1) := by decide +kernel
theorem dX1_readLevel_59 : decode cX1_readLevel 59 = .ok (.if_icmp .ne 58, 3) := by decide +kernel
theorem dX1_readLevel_62 : decode cX1_readLevel 62 = .ok (.aload_n 0, 1) := by decide +kernel
theorem dX1_readLevel_63 : decode cX1_readLevel 63 = .ok (.getfield 9, 3) := by decide +kernel
theorem dX1_readLevel_66 : decode cX1_readLevel 66 = .ok (.aload_n 0, 1) := by decide +kernel
theorem dX1_readLevel_67 : decode cX1_readLevel 67 = .ok (.getfield 46, 3) := by decide +kernel
theorem dX1_readLevel_70 : decode cX1_readLevel 70 = .ok (.baload, 1) := by decide +kernel
theorem dX1_readLevel_71 : decode cX1_readLevel 71 = .ok (.istore 4, 2) := by decide +kernel
theorem dX1_readLevel_73 : decode cX1_readLevel 73 = .ok (.aload_n 0, 1) := by decide +kernel
theorem dX1_readLevel_74 : decode cX1_readLevel 74 = .ok (.dup, 1) := by decide +kernel
theorem dX1_readLevel_75 : decode cX1_readLevel 75 = .ok (.getfield 46, 3) := by decide +kernel
theorem dX1_readLevel_78 : decode cX1_readLevel 78 = .ok (.iconst 1, 1) := by decide +kernel
theorem dX1_readLevel_79 : decode cX1_readLevel 79 = .ok (.iadd, 1) := by decide +kernel
theorem dX1_readLevel_80 : decode cX1_readLevel 80 = .ok (.putfield 46, 3) := by decide +kernel
theorem dX1_readLevel_83 : decode cX1_readLevel 83 = .ok (.aload_n 0, 1) := by decide +kernel
theorem dX1_readLevel_84 : decode cX1_readLevel 84 = .ok (.iload_n 1, 1) := by decide +kernel
theorem dX1_readLevel_85 : decode cX1_readLevel 85 = .ok (.iconst 1, 1) := by decide +kernel
theorem dX1_readLevel_86 : decode cX1_readLevel 86 = .ok (.iadd, 1) := by decide +kernel
theorem dX1_readLevel_87 : decode cX1_readLevel 87 = .ok (.iload_n 2, 1) := by decide +kernel
theorem dX1_readLevel_88 : decode cX1_readLevel 88 = .ok (.invokevirtual 52, 3) := by decide +kernel
theorem dX1_readLevel_91 : decode cX1_readLevel 91 = .ok (.ifCond .ne 5, 3) := by decide +kernel
theorem dX1_readLevel_94 : decode cX1_readLevel 94 = .ok (.iconst 0, 1) := by decide +kernel
theorem dX1_readLevel_95 : decode cX1_readLevel 95 = .ok (.ireturn, 1) := by decide +kernel
theorem dX1_readLevel_96 : decode cX1_readLevel 96 = .ok (.aload_n 0, 1) := by decide +kernel
theorem dX1_readLevel_97 : decode cX1_readLevel 97 = .ok (.iload 4, 2) := by decide +kernel
theorem dX1_readLevel_99 : decode cX1_readLevel 99 = .ok (.ineg, 1) := by decide +kernel
theorem dX1_readLevel_100 : decode cX1_readLevel 100 = .ok (.invokevirtual 70, 3) := by decide +kernel
theorem dX1_readLevel_103 : decode cX1_readLevel 103 = .ok (.iload_n 1, 1) := by decide +kernel
theorem dX1_readLevel_104 : decode cX1_readLevel 104 = .ok (.iconst 2, 1) := by decide +kernel
theorem dX1_readLevel_105 : decode cX1_readLevel 105 = .ok (.if_icmp .eq 7, 3) := by decide +kernel
theorem dX1_readLevel_108 : decode cX1_readLevel 108 = .ok (.iconst 1, 1) := by decide +kernel
theorem dX1_readLevel_109 : decode cX1_readLevel 109 = .ok (.goto 4, 3) := by decide +kernel
theorem dX1_readLevel_112 : decode cX1_readLevel 112 = .ok (.iconst 0, 1) := by decide +kernel
theorem dX1_readLevel_113 : decode cX1_readLevel 113 = .ok (.istore_n 3, 1) := by decide +kernel
theorem dX1_readLevel_114 : decode cX1_readLevel 114 = .ok (.goto (-83), 3) := by decide +kernel
theorem dX1_readLevel_117 : decode cX1_readLevel 117 = .ok (.iconst 1, 1) := by decide +kernel
theorem dX1_readLevel_118 : decode cX1_readLevel 118 = .ok (.ireturn, 1) := by decide +kernel
theorem dX1_readInner_0 : decode cX1_readInner 0 = .ok (.aload_n 0, 1) := by decide +kernel
theorem dX1_readInner_1 : decode cX1_readInner 1 = .ok (.getfield 46, 3) := by decide +kernel
theorem dX1_readInner_4 : decode cX1_readInner 4 = .ok (.aload_n 0, 1) := by decide +kernel
theorem dX1_readInner_5 : decode cX1_readInner 5 = .ok (.getfield 34, 3) := by decide +kernel
theorem dX1_readInner_8 : decode cX1_readInner 8 = .ok (.if_icmp .ge 8, 3) := by decide +kernel
theorem dX1_readInner_11 : decode cX1_readInner 11 = .ok (.iload_n 1, 1) := by decide +kernel
theorem dX1_readInner_12 : decode cX1_readInner 12 = .ok (.iconst 5, 1) := by decide +kernel
theorem dX1_readInner_13 : decode cX1_readInner 13 = .ok (.if_icmp .le 5, 3) := by decide +kernel
theorem dX1_readInner_16 : decode cX1_readInner 16 = .ok (.iconst 0, 1) := by decide +kernel
theorem dX1_readInner_17 : decode cX1_readInner 17 = .ok (.ireturn, 1) := by decide +kernel
theorem dX1_readInner_18 : decode cX1_readInner 18 = .ok (.aload_n 0, 1) := by decide +kernel
theorem dX1_readInner_19 : decode cX1_readInner 19 = .ok (.getfield 9, 3) := by decide +kernel
theorem dX1_readInner_22 : decode cX1_readInner 22 = .ok (.aload_n 0, 1) := by decide +kernel
theorem dX1_readInner_23 : decode cX1_readInner 23 = .ok (.getfield 46, 3) := by decide +kernel
theorem dX1_readInner_26 : decode cX1_readInner 26 = .ok (.baload, 1) := by decide +kernel
theorem dX1_readInner_27 : decode cX1_readInner 27 = .ok (.istore_n 2, 1) := by decide +kernel
theorem dX1_readInner_28 : decode cX1_readInner 28 = .ok (.iload_n 2, 1) := by decide +kernel
theorem dX1_readInner_29 : decode cX1_readInner 29 = .ok (.invokestatic 74, 3) := by decide +kernel
theorem dX1_readInner_32 : decode cX1_readInner 32 = .ok (.ifCond .eq 8, 3) := by decide +kernel
theorem dX1_readInner_35 : decode cX1_readInner 35 = .ok (.aload_n 0, 1) := by decide +kernel
theorem dX1_readInner_36 : decode cX1_readInner 36 = .ok (.invokevirtual 77, 3) := by decide +kernel
theorem dX1_readInner_39 : decode cX1_readInner 39 = .ok (.ireturn, 1) := by decide +kernel
theorem dX1_readInner_40 : decode cX1_readInner 40 = .ok (.iload_n 2, 1) := by decide +kernel
theorem dX1_readInner_41 : decode cX1_readInner 41 = .ok (.ifCond .le 15, 3) := by decide +kernel
theorem dX1_readInner_44 : decode cX1_readInner 44 = .ok (.aload_n 0, 1) := by decide +kernel
theorem dX1_readInner_45 : decode cX1_readInner 45 = .ok (.getfield 17, 3) := by decide +kernel
theorem dX1_readInner_48 : decode cX1_readInner 48 = .ok (.iload_n 2, 1) := by decide +kernel
theorem dX1_readInner_49 : decode cX1_readInner 49 = .ok (.i2c, 1) := by decide +kernel
theorem dX1_readInner_50 : decode cX1_readInner 50 = .ok (.invokevirtual 81, 3) := by decide +kernel
theorem dX1_readInner_53 : decode cX1_readInner 53 = .ok (.goto 4, 3) := by decide +kernel
theorem dX1_readInner_56 : decode cX1_readInner 56 = .ok (.iconst (-1), 1) := by decide +kernel
theorem dX1_readInner_57 : decode cX1_readInner 57 = .ok (.istore_n 3, 1) := by decide +kernel
theorem dX1_readInner_58 : decode cX1_readInner 58 = .ok (.iload_n 3, 1) := by decide +kernel
theorem dX1_readInner_59 : decode cX1_readInner 59 = .ok (.ifCond .lt 22, 3) := by decide +kernel
theorem dX1_readInner_62 : decode cX1_readInner 62 = .ok (.aload_n 0, 1) := by decide +kernel
theorem dX1_readInner_63 : decode cX1_readInner 63 = .ok (.dup, 1) := by decide +kernel
theorem dX1_readInner_64 : decode cX1_readInner 64 = .ok (.getfield 46, 3) := by decide +kernel
theorem dX1_readInner_67 : decode cX1_readInner 67 = .ok (.iconst 1, 1) := by decide +kernel
theorem dX1_readInner_68 : decode cX1_readInner 68 = .ok (.iadd, 1) := by decide +kernel
theorem dX1_readInner_69 : decode cX1_readInner 69 = .ok (.putfield 46, 3) := by decide +kernel
theorem dX1_readInner_72 : decode cX1_readInner 72 = .ok (.aload_n 0, 1) := by decide +kernel
theorem dX1_readInner_73 : decode cX1_readInner 73 = .ok (.iconst (-1), 1) := by decide +kernel
theorem dX1_readInner_74 : decode cX1_readInner 74 = .ok (.iload_n 3, 1) := by decide +kernel
theorem dX1_readInner_75 : decode cX1_readInner 75 = .ok (.isub, 1) := by decide +kernel
theorem dX1_readInner_76 : decode cX1_readInner 76 = .ok (.invokevirtual 70, 3) := by decide +kernel
theorem dX1_readInner_79 : decode cX1_readInner 79 = .ok (.iconst 1, 1) := by decide +kernel
theorem dX1_readInner_80 : decode cX1_readInner 80 = .ok (.ireturn, 1) := by decide +kernel
theorem dX1_readInner_81 : decode cX1_readInner 81 = .ok (.iload_n 2, 1) := by decide +kernel
theorem dX1_readInner_82 : decode cX1_readInner 82 = .ok (.bipush 33, 2) := by decide +kernel
theorem dX1_readInner_84 : decode cX1_readInner 84 = .ok (.if_icmp .eq 9, 3) := by decide +kernel
theorem dX1_readInner_87 : decode cX1_readInner 87 = .ok (.iload_n 2, 1) := by decide +kernel
theorem dX1_readInner_88 : decode cX1_readInner 88 = .ok (.bipush 40, 2) := by decide +kernel
theorem dX1_readInner_90 : decode cX1_readInner 90 = .ok (.if_icmp .ne 8, 3) := by decide +kernel
theorem dX1_readInner_93 : decode cX1_readInner 93 = .ok (.iload_n 1, 1) := by decide +kernel
theorem dX1_readInner_94 : decode cX1_readInner 94 = .ok (.iconst 5, 1) := by decide +kernel
theorem dX1_readInner_95 : decode cX1_readInner 95 = .ok (.if_icmp .ne 5, 3) := by decide +kernel
theorem dX1_readInner_98 : decode cX1_readInner 98 = .ok (.iconst 0, 1) := by decide +kernel
theorem dX1_readInner_99 : decode cX1_readInner 99 = .ok (.ireturn, 1) := by decide +kernel
theorem dX1_readInner_100 : decode cX1_readInner 100 = .ok (.aload_n 0, 1) := by decide +kernel
theorem dX1_readInner_101 : decode cX1_readInner 101 = .ok (.dup, 1) := by decide +kernel
theorem dX1_readInner_102 : decode cX1_readInner 102 = .ok (.getfield 46, 3) := by decide +kernel
theorem dX1_readInner_105 : decode cX1_readInner 105 = .ok (.iconst 1, 1) := by decide +kernel
theorem dX1_readInner_106 : decode cX1_readInner 106 = .ok (.iadd, 1) := by decide +kernel
theorem dX1_readInner_107 : decode cX1_readInner 107 = .ok (.putfield 46, 3) := by decide +kernel
theorem dX1_readInner_110 : decode cX1_readInner 110 = .ok (.iload_n 2, 1) := by decide +kernel
theorem dX1_readInner_111 : decode cX1_readInner 111 = .ok (.bipush 40, 2) := by decide +kernel
theorem dX1_readInner_113 : decode cX1_readInner 113 = .ok (.if_icmp .ne 27, 3) := by decide +kernel
theorem dX1_readInner_116 : decode cX1_readInner 116 = .ok (.aload_n 0, 1) := by decide +kernel
theorem dX1_readInner_117 : decode cX1_readInner 117 = .ok (.iconst 0, 1) := by decide +kernel
theorem dX1_readInner_118 : decode cX1_readInner 118 = .ok (.iload_n 1, 1) := by decide +kernel
theorem dX1_readInner_119 : decode cX1_readInner 119 = .ok (.iconst 1, 1) := by decide +kernel
theorem dX1_readInner_120 : decode cX1_readInner 120 = .ok (.iadd, 1) := by decide +kernel
theorem dX1_readInner_121 : decode cX1_readInner 121 = .ok (.invokevirtual 52, 3) := by decide +kernel
theorem dX1_readInner_124 : decode cX1_readInner 124 = .ok (.ifCond .eq 14, 3) := by decide +kernel
theorem dX1_readInner_127 : decode cX1_readInner 127 = .ok (.aload_n 0, 1) := by decide +kernel
theorem dX1_readInner_128 : decode cX1_readInner 128 = .ok (.invokevirtual 86, 3) := by decide +kernel
theorem dX1_readInner_131 : decode cX1_readInner 131 = .ok (.ifCond .eq 7, 3) := by decide +kernel
theorem dX1_readInner_134 : decode cX1_readInner 134 = .ok (.iconst 1, 1) := by decide +kernel
theorem dX1_readInner_135 : decode cX1_readInner 135 = .ok (.goto 4, 3) := by decide +kernel
theorem dX1_readInner_138 : decode cX1_readInner 138 = .ok (.iconst 0, 1) := by decide +kernel
theorem dX1_readInner_139 : decode cX1_readInner 139 = .ok (.ireturn, 1) := by decide +kernel
theorem dX1_readInner_140 : decode cX1_readInner 140 = .ok (.aload_n 0, 1) := by decide +kernel
theorem dX1_readInner_141 : decode cX1_readInner 141 = .ok (.iload_n 1, 1) := by decide +kernel
theorem dX1_readInner_142 : decode cX1_readInner 142 = .ok (.iconst 1, 1) := by decide +kernel
theorem dX1_readInner_143 : decode cX1_readInner 143 = .ok (.iadd, 1) := by decide +kernel
theorem dX1_readInner_144 : decode cX1_readInner 144 = .ok (.invokevirtual 62, 3) := by decide +kernel
theorem dX1_readInner_147 : decode cX1_readInner 147 = .ok (.istore 4, 2) := by decide +kernel
theorem dX1_readInner_149 : decode cX1_readInner 149 = .ok (.aload_n 0, 1) := by decide +kernel
theorem dX1_readInner_150 : decode cX1_readInner 150 = .ok (.bipush (-33), 2) := by decide +kernel
theorem dX1_readInner_152 : decode cX1_readInner 152 = .ok (.invokevirtual 70, 3) := by decide +kernel
theorem dX1_readInner_155 : decode cX1_readInner 155 = .ok (.iload 4, 2) := by decide +kernel
theorem dX1_readInner_157 : decode cX1_readInner 157 = .ok (.ireturn, 1) := by decide +kernel
theorem dX1_readClosing_0 : decode cX1_readClosing 0 = .ok (.aload_n 0, 1) := by decide +kernel
theorem dX1_readClosing_1 : decode cX1_readClosing 1 = .ok (.getfield 46, 3) := by decide +kernel
theorem dX1_readClosing_4 : decode cX1_readClosing 4 = .ok (.aload_n 0, 1) := by decide +kernel
theorem dX1_readClosing_5 : decode cX1_readClosing 5 = .ok (.getfield 34, 3) := by decide +kernel
theorem dX1_readClosing_8 : decode cX1_readClosing 8 = .ok (.if_icmp .ge 17, 3) := by decide +kernel
theorem dX1_readClosing_11 : decode cX1_readClosing 11 = .ok (.aload_n 0, 1) := by decide +kernel
theorem dX1_readClosing_12 : decode cX1_readClosing 12 = .ok (.getfield 9, 3) := by decide +kernel
theorem dX1_readClosing_15 : decode cX1_readClosing 15 = .ok (.aload_n 0, 1) := by decide +kernel
theorem dX1_readClosing_16 : decode cX1_readClosing 16 = .ok (.getfield 46, 3) := by decide +kernel
theorem dX1_readClosing_19 : decode cX1_readClosing 19 = .ok (.baload, 1) := by decide +kernel
theorem dX1_readClosing_20 : decode cX1_readClosing 20 = .ok (.bipush 41, 2) := by decide +kernel
theorem dX1_readClosing_22 : decode cX1_readClosing 22 = .ok (.if_icmp .eq 5, 3) := by decide +kernel
theorem dX1_readClosing_25 : decode cX1_readClosing 25 = .ok (.iconst 0, 1) := by decide +kernel
theorem dX1_readClosing_26 : decode cX1_readClosing 26 = .ok (.ireturn, 1) := by decide +kernel
theorem dX1_readClosing_27 : decode cX1_readClosing 27 = .ok (.aload_n 0, 1) := by decide +kernel
theorem dX1_readClosing_28 : decode cX1_readClosing 28 = .ok (.dup, 1) := by decide +kernel
theorem dX1_readClosing_29 : decode cX1_readClosing 29 = .ok (.getfield 46, 3) := by decide +kernel
theorem dX1_readClosing_32 : decode cX1_readClosing 32 = .ok (.iconst 1, 1) := by decide +kernel
theorem dX1_readClosing_33 : decode cX1_readClosing 33 = .ok (.iadd, 1) := by decide +kernel
theorem dX1_readClosing_34 : decode cX1_readClosing 34 = .ok (.putfield 46, 3) := by decide +kernel
theorem dX1_readClosing_37 : decode cX1_readClosing 37 = .ok (.iconst 1, 1) := by decide +kernel
theorem dX1_readClosing_38 : decode cX1_readClosing 38 = .ok (.ireturn, 1) := by decide +kernel
theorem dX1_readNumber_0 : decode cX1_readNumber 0 = .ok (.iconst 0, 1) := by decide +kernel
theorem dX1_readNumber_1 : decode cX1_readNumber 1 = .ok (.istore_n 1, 1) := by decide +kernel
theorem dX1_readNumber_2 : decode cX1_readNumber 2 = .ok (.iconst 0, 1) := by decide +kernel
theorem dX1_readNumber_3 : decode cX1_readNumber 3 = .ok (.istore_n 2, 1) := by decide +kernel
theorem dX1_readNumber_4 : decode cX1_readNumber 4 = .ok (.iload_n 2, 1) := by decide +kernel
theorem dX1_readNumber_5 : decode cX1_readNumber 5 = .ok (.iconst 4, 1) := by decide +kernel
theorem dX1_readNumber_6 : decode cX1_readNumber 6 = .ok (.if_icmp .ge 63, 3) := by decide +kernel
theorem dX1_readNumber_9 : decode cX1_readNumber 9 = .ok (.aload_n 0, 1) := by decide +kernel
theorem dX1_readNumber_10 : decode cX1_readNumber 10 = .ok (.getfield 46, 3) := by decide +kernel
theorem dX1_readNumber_13 : decode cX1_readNumber 13 = .ok (.aload_n 0, 1) := by decide +kernel
theorem dX1_readNumber_14 : decode cX1_readNumber 14 = .ok (.getfield 34, 3) := by decide +kernel
theorem dX1_readNumber_17 : decode cX1_readNumber 17 = .ok (.if_icmp .ge 52, 3) := by decide +kernel
theorem dX1_readNumber_20 : decode cX1_readNumber 20 = .ok (.aload_n 0, 1) := by decide +kernel
theorem dX1_readNumber_21 : decode cX1_readNumber 21 = .ok (.getfield 9, 3) := by decide +kernel
theorem dX1_readNumber_24 : decode cX1_readNumber 24 = .ok (.aload_n 0, 1) := by decide +kernel
theorem dX1_readNumber_25 : decode cX1_readNumber 25 = .ok (.getfield 46, 3) := by decide +kernel
theorem dX1_readNumber_28 : decode cX1_readNumber 28 = .ok (.baload, 1) := by decide +kernel
theorem dX1_readNumber_29 : decode cX1_readNumber 29 = .ok (.invokestatic 74, 3) := by decide +kernel
theorem dX1_readNumber_32 : decode cX1_readNumber 32 = .ok (.ifCond .eq 37, 3) := by decide +kernel
theorem dX1_readNumber_35 : decode cX1_readNumber 35 = .ok (.bipush 10, 2) := by decide +kernel
theorem dX1_readNumber_37 : decode cX1_readNumber 37 = .ok (.iload_n 1, 1) := by decide +kernel
theorem dX1_readNumber_38 : decode cX1_readNumber 38 = .ok (.imul, 1) := by decide +kernel
theorem dX1_readNumber_39 : decode cX1_readNumber 39 = .ok (.aload_n 0, 1) := by decide +kernel
theorem dX1_readNumber_40 : decode cX1_readNumber 40 = .ok (.getfield 9, 3) := by decide +kernel
theorem dX1_readNumber_43 : decode cX1_readNumber 43 = .ok (.aload_n 0, 1) := by decide +kernel
theorem dX1_readNumber_44 : decode cX1_readNumber 44 = .ok (.getfield 46, 3) := by decide +kernel
theorem dX1_readNumber_47 : decode cX1_readNumber 47 = .ok (.baload, 1) := by decide +kernel
theorem dX1_readNumber_48 : decode cX1_readNumber 48 = .ok (.iadd, 1) := by decide +kernel
theorem dX1_readNumber_49 : decode cX1_readNumber 49 = .ok (.bipush 48, 2) := by decide +kernel
theorem dX1_readNumber_51 : decode cX1_readNumber 51 = .ok (.isub, 1) := by decide +kernel
theorem dX1_readNumber_52 : decode cX1_readNumber 52 = .ok (.istore_n 1, 1) := by decide +kernel
theorem dX1_readNumber_53 : decode cX1_readNumber 53 = .ok (.aload_n 0, 1) := by decide +kernel
theorem dX1_readNumber_54 : decode cX1_readNumber 54 = .ok (.dup, 1) := by decide +kernel
theorem dX1_readNumber_55 : decode cX1_readNumber 55 = .ok (.getfield 46, 3) := by decide +kernel
theorem dX1_readNumber_58 : decode cX1_readNumber 58 = .ok (.iconst 1, 1) := by decide +kernel
theorem dX1_readNumber_59 : decode cX1_readNumber 59 = .ok (.iadd, 1) := by decide +kernel
theorem dX1_readNumber_60 : decode cX1_readNumber 60 = .ok (.putfield 46, 3) := by decide +kernel
theorem dX1_readNumber_63 : decode cX1_readNumber 63 = .ok (.iinc 2 1, 3) := by decide +kernel
theorem dX1_readNumber_66 : decode cX1_readNumber 66 = .ok (.goto (-62), 3) := by decide +kernel
theorem dX1_readNumber_69 : decode cX1_readNumber 69 = .ok (.aload_n 0, 1) := by decide +kernel
theorem dX1_readNumber_70 : decode cX1_readNumber 70 = .ok (.iload_n 1, 1) := by decide +kernel
theorem dX1_readNumber_71 : decode cX1_readNumber 71 = .ok (.invokevirtual 70, 3) := by decide +kernel
theorem dX1_readNumber_74 : decode cX1_readNumber 74 = .ok (.iconst 1, 1) := by decide +kernel
theorem dX1_readNumber_75 : decode cX1_readNumber 75 = .ok (.ireturn, 1) := by decide +kernel
theorem dX1_isDigit_0 : decode cX1_isDigit 0 = .ok (.iload_n 0, 1) := by decide +kernel
theorem dX1_isDigit_1 : decode cX1_isDigit 1 = .ok (.bipush 48, 2) := by decide +kernel
theorem dX1_isDigit_3 : decode cX1_isDigit 3 = .ok (.if_icmp .lt 13, 3) := by decide +kernel
theorem dX1_isDigit_6 : decode cX1_isDigit 6 = .ok (.iload_n 0, 1) := by decide +kernel
theorem dX1_isDigit_7 : decode cX1_isDigit 7 = .ok (.bipush 57, 2) := by decide +kernel
theorem dX1_isDigit_9 : decode cX1_isDigit 9 = .ok (.if_icmp .gt 7, 3) := by decide +kernel
theorem dX1_isDigit_12 : decode cX1_isDigit 12 = .ok (.iconst 1, 1) := by decide +kernel
theorem dX1_isDigit_13 : decode cX1_isDigit 13 = .ok (.goto 4, 3) := by decide +kernel
theorem dX1_isDigit_16 : decode cX1_isDigit 16 = .ok (.iconst 0, 1) := by decide +kernel
theorem dX1_isDigit_17 : decode cX1_isDigit 17 = .ok (.ireturn, 1) := by decide +kernel
theorem dX2_init_0 : decode cX2_init 0 = .ok (.aload_n 0, 1) := by decide +kernel
theorem dX2_init_1 : decode cX2_init 1 = .ok (.invokespecial 3, 3) := by decide +kernel
theorem dX2_init_4 : decode cX2_init 4 = .ok (.aload_n 0, 1) := by decide +kernel
theorem dX2_init_5 : decode cX2_init 5 = .ok (.bipush 24, 2) := by decide +kernel
theorem dX2_init_7 : decode cX2_init 7 = .ok (.newarray .int, 2) := by decide +kernel
theorem dX2_init_9 : decode cX2_init 9 = .ok (.putfield 9, 3) := by decide +kernel
theorem dX2_init_12 : decode cX2_init 12 = .ok (.return_, 1) := by decide +kernel
theorem dX2_isMissing_0 : decode cX2_isMissing 0 = .ok (.aload_n 0, 1) := by decide +kernel
theorem dX2_isMissing_1 : decode cX2_isMissing 1 = .ok (.getfield 15, 3) := by decide +kernel
theorem dX2_isMissing_4 : decode cX2_isMissing 4 = .ok (.ifCond .ne 7, 3) := by decide +kernel
theorem dX2_isMissing_7 : decode cX2_isMissing 7 = .ok (.iconst 1, 1) := by decide +kernel
theorem dX2_isMissing_8 : decode cX2_isMissing 8 = .ok (.goto 4, 3) := by decide +kernel
theorem dX2_isMissing_11 : decode cX2_isMissing 11 = .ok (.iconst 0, 1) := by decide +kernel
theorem dX2_isMissing_12 : decode cX2_isMissing 12 = .ok (.ireturn, 1) := by decide +kernel
theorem dX2_lay_0 : decode cX2_lay 0 = .ok (.aload_n 0, 1) := by decide +kernel
theorem dX2_lay_1 : decode cX2_lay 1 = .ok (.iload_n 1, 1) := by decide +kernel
theorem dX2_lay_2 : decode cX2_lay 2 = .ok (.putfield 15, 3) := by decide +kernel
theorem dX2_lay_5 : decode cX2_lay 5 = .ok (.aload_n 0, 1) := by decide +kernel
theorem dX2_lay_6 : decode cX2_lay 6 = .ok (.aload_n 0, 1) := by decide +kernel
theorem dX2_lay_7 : decode cX2_lay 7 = .ok (.getfield 15, 3) := by decide +kernel
theorem dX2_lay_10 : decode cX2_lay 10 = .ok (.ifCond .ne 7, 3) := by decide +kernel
theorem dX2_lay_13 : decode cX2_lay 13 = .ok (.iconst 0, 1) := by decide +kernel
theorem dX2_lay_14 : decode cX2_lay 14 = .ok (.goto 13, 3) := by decide +kernel
theorem dX2_lay_17 : decode cX2_lay 17 = .ok (.iconst 0, 1) := by decide +kernel
theorem dX2_lay_18 : decode cX2_lay 18 = .ok (.iload_n 2, 1) := by decide +kernel
theorem dX2_lay_19 : decode cX2_lay 19 = .ok (.bipush 24, 2) := by decide +kernel
theorem dX2_lay_21 : decode cX2_lay 21 = .ok (.invokestatic 19, 3) := by decide +kernel
theorem dX2_lay_24 : decode cX2_lay 24 = .ok (.invokestatic 25, 3) := by decide +kernel
theorem dX2_lay_27 : decode cX2_lay 27 = .ok (.putfield 28, 3) := by decide +kernel
theorem dX2_lay_30 : decode cX2_lay 30 = .ok (.iconst 0, 1) := by decide +kernel
theorem dX2_lay_31 : decode cX2_lay 31 = .ok (.istore_n 3, 1) := by decide +kernel
theorem dX2_lay_32 : decode cX2_lay 32 = .ok (.iload_n 3, 1) := by decide +kernel
theorem dX2_lay_33 : decode cX2_lay 33 = .ok (.bipush 24, 2) := by decide +kernel
theorem dX2_lay_35 : decode cX2_lay 35 = .ok (.if_icmp .ge 16, 3) := by decide +kernel
theorem dX2_lay_38 : decode cX2_lay 38 = .ok (.aload_n 0, 1) := by decide +kernel
theorem dX2_lay_39 : decode cX2_lay 39 = .ok (.getfield 9, 3) := by decide +kernel
theorem dX2_lay_42 : decode cX2_lay 42 = .ok (.iload_n 3, 1) := by decide +kernel
theorem dX2_lay_43 : decode cX2_lay 43 = .ok (.iconst 0, 1) := by decide +kernel
theorem dX2_lay_44 : decode cX2_lay 44 = .ok (.iastore, 1) := by decide +kernel
theorem dX2_lay_45 : decode cX2_lay 45 = .ok (.iinc 3 1, 3) := by decide +kernel
theorem dX2_lay_48 : decode cX2_lay 48 = .ok (.goto (-16), 3) := by decide +kernel
theorem dX2_lay_51 : decode cX2_lay 51 = .ok (.return_, 1) := by decide +kernel
theorem dX2_write_0 : decode cX2_write 0 = .ok (.iload_n 1, 1) := by decide +kernel
theorem dX2_write_1 : decode cX2_write 1 = .ok (.ifCond .lt 40, 3) := by decide +kernel
theorem dX2_write_4 : decode cX2_write 4 = .ok (.iload_n 1, 1) := by decide +kernel
theorem dX2_write_5 : decode cX2_write 5 = .ok (.aload_n 0, 1) := by decide +kernel
theorem dX2_write_6 : decode cX2_write 6 = .ok (.getfield 28, 3) := by decide +kernel
theorem dX2_write_9 : decode cX2_write 9 = .ok (.if_icmp .ge 32, 3) := by decide +kernel
theorem dX2_write_12 : decode cX2_write 12 = .ok (.aload_n 0, 1) := by decide +kernel
theorem dX2_write_13 : decode cX2_write 13 = .ok (.getfield 9, 3) := by decide +kernel
theorem dX2_write_16 : decode cX2_write 16 = .ok (.iload_n 1, 1) := by decide +kernel
theorem dX2_write_17 : decode cX2_write 17 = .ok (.aload_n 0, 1) := by decide +kernel
theorem dX2_write_18 : decode cX2_write 18 = .ok (.getfield 15, 3) := by decide +kernel
theorem dX2_write_21 : decode cX2_write 21 = .ok (.bipush 32, 2) := by decide +kernel
theorem dX2_write_23 : decode cX2_write 23 = .ok (.if_icmp .ne 7, 3) := by decide +kernel
theorem dX2_write_26 : decode cX2_write 26 = .ok (.iload_n 2, 1) := by decide +kernel
theorem dX2_write_27 : decode cX2_write 27 = .ok (.goto 13, 3) := by decide +kernel
theorem dX2_write_30 : decode cX2_write 30 = .ok (.iload_n 2, 1) := by decide +kernel
theorem dX2_write_31 : decode cX2_write 31 = .ok (.iconst 1, 1) := by decide +kernel
theorem dX2_write_32 : decode cX2_write 32 = .ok (.aload_n 0, 1) := by decide +kernel
theorem dX2_write_33 : decode cX2_write 33 = .ok (.getfield 15, 3) := by decide +kernel
theorem dX2_write_36 : decode cX2_write 36 = .ok (.ishl, 1) := by decide +kernel
theorem dX2_write_37 : decode cX2_write 37 = .ok (.iconst 1, 1) := by decide +kernel
theorem dX2_write_38 : decode cX2_write 38 = .ok (.isub, 1) := by decide +kernel
theorem dX2_write_39 : decode cX2_write 39 = .ok (.iand, 1) := by decide +kernel
theorem dX2_write_40 : decode cX2_write 40 = .ok (.iastore, 1) := by decide +kernel
theorem dX2_write_41 : decode cX2_write 41 = .ok (.return_, 1) := by decide +kernel
theorem dX2_holds_0 : decode cX2_holds 0 = .ok (.iload_n 2, 1) := by decide +kernel
theorem dX2_holds_1 : decode cX2_holds 1 = .ok (.ifCond .lt 29, 3) := by decide +kernel
theorem dX2_holds_4 : decode cX2_holds 4 = .ok (.iload_n 1, 1) := by decide +kernel
theorem dX2_holds_5 : decode cX2_holds 5 = .ok (.ifCond .lt 25, 3) := by decide +kernel
theorem dX2_holds_8 : decode cX2_holds 8 = .ok (.iload_n 2, 1) := by decide +kernel
theorem dX2_holds_9 : decode cX2_holds 9 = .ok (.aload_n 0, 1) := by decide +kernel
theorem dX2_holds_10 : decode cX2_holds 10 = .ok (.getfield 28, 3) := by decide +kernel
theorem dX2_holds_13 : decode cX2_holds 13 = .ok (.if_icmp .gt 17, 3) := by decide +kernel
theorem dX2_holds_16 : decode cX2_holds 16 = .ok (.iload_n 1, 1) := by decide +kernel
theorem dX2_holds_17 : decode cX2_holds 17 = .ok (.aload_n 0, 1) := by decide +kernel
theorem dX2_holds_18 : decode cX2_holds 18 = .ok (.getfield 28, 3) := by decide +kernel
theorem dX2_holds_21 : decode cX2_holds 21 = .ok (.iload_n 2, 1) := by decide +kernel
theorem dX2_holds_22 : decode cX2_holds 22 = .ok (.isub, 1) := by decide +kernel
theorem dX2_holds_23 : decode cX2_holds 23 = .ok (.if_icmp .gt 7, 3) := by decide +kernel
theorem dX2_holds_26 : decode cX2_holds 26 = .ok (.iconst 1, 1) := by decide +kernel
theorem dX2_holds_27 : decode cX2_holds 27 = .ok (.goto 4, 3) := by decide +kernel
theorem dX2_holds_30 : decode cX2_holds 30 = .ok (.iconst 0, 1) := by decide +kernel
theorem dX2_holds_31 : decode cX2_holds 31 = .ok (.ireturn, 1) := by decide +kernel
theorem dX3_init_0 : decode cX3_init 0 = .ok (.aload_n 0, 1) := by decide +kernel
theorem dX3_init_1 : decode cX3_init 1 = .ok (.invokespecial 3, 3) := by decide +kernel
theorem dX3_init_4 : decode cX3_init 4 = .ok (.aload_n 0, 1) := by decide +kernel
theorem dX3_init_5 : decode cX3_init 5 = .ok (.bipush 8, 2) := by decide +kernel
theorem dX3_init_7 : decode cX3_init 7 = .ok (.newarray .int, 2) := by decide +kernel
theorem dX3_init_9 : decode cX3_init 9 = .ok (.putfield 9, 3) := by decide +kernel
theorem dX3_init_12 : decode cX3_init 12 = .ok (.aload_n 0, 1) := by decide +kernel
theorem dX3_init_13 : decode cX3_init 13 = .ok (.bipush 8, 2) := by decide +kernel
theorem dX3_init_15 : decode cX3_init 15 = .ok (.newarray .int, 2) := by decide +kernel
theorem dX3_init_17 : decode cX3_init 17 = .ok (.putfield 15, 3) := by decide +kernel
theorem dX3_init_20 : decode cX3_init 20 = .ok (.return_, 1) := by decide +kernel
theorem dX3_copy_0 : decode cX3_copy 0 = .ok (.aload_n 1, 1) := by decide +kernel
theorem dX3_copy_1 : decode cX3_copy 1 = .ok (.getfield 9, 3) := by decide +kernel
theorem dX3_copy_4 : decode cX3_copy 4 = .ok (.iconst 0, 1) := by decide +kernel
theorem dX3_copy_5 : decode cX3_copy 5 = .ok (.aload_n 0, 1) := by decide +kernel
theorem dX3_copy_6 : decode cX3_copy 6 = .ok (.getfield 9, 3) := by decide +kernel
theorem dX3_copy_9 : decode cX3_copy 9 = .ok (.iconst 0, 1) := by decide +kernel
theorem dX3_copy_10 : decode cX3_copy 10 = .ok (.bipush 8, 2) := by decide +kernel
theorem dX3_copy_12 : decode cX3_copy 12 = .ok (.invokestatic 18, 3) := by decide +kernel
theorem dX3_copy_15 : decode cX3_copy 15 = .ok (.aload_n 1, 1) := by decide +kernel
theorem dX3_copy_16 : decode cX3_copy 16 = .ok (.getfield 15, 3) := by decide +kernel
theorem dX3_copy_19 : decode cX3_copy 19 = .ok (.iconst 0, 1) := by decide +kernel
theorem dX3_copy_20 : decode cX3_copy 20 = .ok (.aload_n 0, 1) := by decide +kernel
theorem dX3_copy_21 : decode cX3_copy 21 = .ok (.getfield 15, 3) := by decide +kernel
theorem dX3_copy_24 : decode cX3_copy 24 = .ok (.iconst 0, 1) := by decide +kernel
theorem dX3_copy_25 : decode cX3_copy 25 = .ok (.bipush 8, 2) := by decide +kernel
theorem dX3_copy_27 : decode cX3_copy 27 = .ok (.invokestatic 18, 3) := by decide +kernel
theorem dX3_copy_30 : decode cX3_copy 30 = .ok (.aload_n 0, 1) := by decide +kernel
theorem dX3_copy_31 : decode cX3_copy 31 = .ok (.aload_n 1, 1) := by decide +kernel
theorem dX3_copy_32 : decode cX3_copy 32 = .ok (.getfield 24, 3) := by decide +kernel
theorem dX3_copy_35 : decode cX3_copy 35 = .ok (.putfield 24, 3) := by decide +kernel
theorem dX3_copy_38 : decode cX3_copy 38 = .ok (.return_, 1) := by decide +kernel
theorem dX4_init_0 : decode cX4_init 0 = .ok (.aload_n 0, 1) := by decide +kernel
theorem dX4_init_1 : decode cX4_init 1 = .ok (.invokespecial 3, 3) := by decide +kernel
theorem dX4_init_4 : decode cX4_init 4 = .ok (.aload_n 0, 1) := by decide +kernel
theorem dX4_init_5 : decode cX4_init 5 = .ok (.bipush 8, 2) := by decide +kernel
theorem dX4_init_7 : decode cX4_init 7 = .ok (.newarray .int, 2) := by decide +kernel
theorem dX4_init_9 : decode cX4_init 9 = .ok (.putfield 9, 3) := by decide +kernel
theorem dX4_init_12 : decode cX4_init 12 = .ok (.aload_n 0, 1) := by decide +kernel
theorem dX4_init_13 : decode cX4_init 13 = .ok (.bipush 8, 2) := by decide +kernel
theorem dX4_init_15 : decode cX4_init 15 = .ok (.newarray .int, 2) := by decide +kernel
theorem dX4_init_17 : decode cX4_init 17 = .ok (.putfield 15, 3) := by decide +kernel
theorem dX4_init_20 : decode cX4_init 20 = .ok (.aload_n 0, 1) := by decide +kernel
theorem dX4_init_21 : decode cX4_init 21 = .ok (.bipush 8, 2) := by decide +kernel
theorem dX4_init_23 : decode cX4_init 23 = .ok (.newarray .int, 2) := by decide +kernel
theorem dX4_init_25 : decode cX4_init 25 = .ok (.putfield 18, 3) := by decide +kernel
theorem dX4_init_28 : decode cX4_init 28 = .ok (.aload_n 0, 1) := by decide +kernel
theorem dX4_init_29 : decode cX4_init 29 = .ok (.new 21, 3) := by decide +kernel
theorem dX4_init_32 : decode cX4_init 32 = .ok (.dup, 1) := by decide +kernel
theorem dX4_init_33 : decode cX4_init 33 = .ok (.invokespecial 23, 3) := by decide +kernel
theorem dX4_init_36 : decode cX4_init 36 = .ok (.putfield 24, 3) := by decide +kernel
theorem dX4_init_39 : decode cX4_init 39 = .ok (.aload_n 0, 1) := by decide +kernel
theorem dX4_init_40 : decode cX4_init 40 = .ok (.new 28, 3) := by decide +kernel
theorem dX4_init_43 : decode cX4_init 43 = .ok (.dup, 1) := by decide +kernel
theorem dX4_init_44 : decode cX4_init 44 = .ok (.bipush 99, 2) := by decide +kernel
theorem dX4_init_46 : decode cX4_init 46 = .ok (.invokespecial 30, 3) := by decide +kernel
theorem dX4_init_49 : decode cX4_init 49 = .ok (.putfield 33, 3) := by decide +kernel
theorem dX4_init_52 : decode cX4_init 52 = .ok (.aload_n 0, 1) := by decide +kernel
theorem dX4_init_53 : decode cX4_init 53 = .ok (.new 28, 3) := by decide +kernel
theorem dX4_init_56 : decode cX4_init 56 = .ok (.dup, 1) := by decide +kernel
theorem dX4_init_57 : decode cX4_init 57 = .ok (.bipush 9, 2) := by decide +kernel
theorem dX4_init_59 : decode cX4_init 59 = .ok (.invokespecial 30, 3) := by decide +kernel
theorem dX4_init_62 : decode cX4_init 62 = .ok (.putfield 37, 3) := by decide +kernel
theorem dX4_init_65 : decode cX4_init 65 = .ok (.aload_n 0, 1) := by decide +kernel
theorem dX4_init_66 : decode cX4_init 66 = .ok (.bipush 60, 2) := by decide +kernel
theorem dX4_init_68 : decode cX4_init 68 = .ok (.newarray .byte, 2) := by decide +kernel
theorem dX4_init_70 : decode cX4_init 70 = .ok (.putfield 40, 3) := by decide +kernel
theorem dX4_init_73 : decode cX4_init 73 = .ok (.aload_n 0, 1) := by decide +kernel
theorem dX4_init_74 : decode cX4_init 74 = .ok (.bipush 24, 2) := by decide +kernel
theorem dX4_init_76 : decode cX4_init 76 = .ok (.newarray .int, 2) := by decide +kernel
theorem dX4_init_78 : decode cX4_init 78 = .ok (.putfield 44, 3) := by decide +kernel
theorem dX4_init_81 : decode cX4_init 81 = .ok (.aload_n 0, 1) := by decide +kernel
theorem dX4_init_82 : decode cX4_init 82 = .ok (.iconst 1, 1) := by decide +kernel
theorem dX4_init_83 : decode cX4_init 83 = .ok (.putfield 47, 3) := by decide +kernel
theorem dX4_init_86 : decode cX4_init 86 = .ok (.return_, 1) := by decide +kernel
theorem dX4_copy_0 : decode cX4_copy 0 = .ok (.aload_n 0, 1) := by decide +kernel
theorem dX4_copy_1 : decode cX4_copy 1 = .ok (.aload_n 1, 1) := by decide +kernel
theorem dX4_copy_2 : decode cX4_copy 2 = .ok (.getfield 51, 3) := by decide +kernel
theorem dX4_copy_5 : decode cX4_copy 5 = .ok (.putfield 51, 3) := by decide +kernel
theorem dX4_copy_8 : decode cX4_copy 8 = .ok (.aload_n 1, 1) := by decide +kernel
theorem dX4_copy_9 : decode cX4_copy 9 = .ok (.getfield 9, 3) := by decide +kernel
theorem dX4_copy_12 : decode cX4_copy 12 = .ok (.iconst 0, 1) := by decide +kernel
theorem dX4_copy_13 : decode cX4_copy 13 = .ok (.aload_n 0, 1) := by decide +kernel
theorem dX4_copy_14 : decode cX4_copy 14 = .ok (.getfield 9, 3) := by decide +kernel
theorem dX4_copy_17 : decode cX4_copy 17 = .ok (.iconst 0, 1) := by decide +kernel
theorem dX4_copy_18 : decode cX4_copy 18 = .ok (.bipush 8, 2) := by decide +kernel
theorem dX4_copy_20 : decode cX4_copy 20 = .ok (.invokestatic 54, 3) := by decide +kernel
theorem dX4_copy_23 : decode cX4_copy 23 = .ok (.aload_n 1, 1) := by decide +kernel
theorem dX4_copy_24 : decode cX4_copy 24 = .ok (.getfield 15, 3) := by decide +kernel
theorem dX4_copy_27 : decode cX4_copy 27 = .ok (.iconst 0, 1) := by decide +kernel
theorem dX4_copy_28 : decode cX4_copy 28 = .ok (.aload_n 0, 1) := by decide +kernel
theorem dX4_copy_29 : decode cX4_copy 29 = .ok (.getfield 15, 3) := by decide +kernel
theorem dX4_copy_32 : decode cX4_copy 32 = .ok (.iconst 0, 1) := by decide +kernel
theorem dX4_copy_33 : decode cX4_copy 33 = .ok (.bipush 8, 2) := by decide +kernel
theorem dX4_copy_35 : decode cX4_copy 35 = .ok (.invokestatic 54, 3) := by decide +kernel
theorem dX4_copy_38 : decode cX4_copy 38 = .ok (.aload_n 1, 1) := by decide +kernel
theorem dX4_copy_39 : decode cX4_copy 39 = .ok (.getfield 18, 3) := by decide +kernel
theorem dX4_copy_42 : decode cX4_copy 42 = .ok (.iconst 0, 1) := by decide +kernel
theorem dX4_copy_43 : decode cX4_copy 43 = .ok (.aload_n 0, 1) := by decide +kernel
theorem dX4_copy_44 : decode cX4_copy 44 = .ok (.getfield 18, 3) := by decide +kernel
theorem dX4_copy_47 : decode cX4_copy 47 = .ok (.iconst 0, 1) := by decide +kernel
theorem dX4_copy_48 : decode cX4_copy 48 = .ok (.bipush 8, 2) := by decide +kernel
theorem dX4_copy_50 : decode cX4_copy 50 = .ok (.invokestatic 54, 3) := by decide +kernel
theorem dX4_copy_53 : decode cX4_copy 53 = .ok (.aload_n 0, 1) := by decide +kernel
theorem dX4_copy_54 : decode cX4_copy 54 = .ok (.getfield 24, 3) := by decide +kernel
theorem dX4_copy_57 : decode cX4_copy 57 = .ok (.aload_n 1, 1) := by decide +kernel
theorem dX4_copy_58 : decode cX4_copy 58 = .ok (.getfield 24, 3) := by decide +kernel
theorem dX4_copy_61 : decode cX4_copy 61 = .ok (.invokevirtual 60, 3) := by decide +kernel
theorem dX4_copy_64 : decode cX4_copy 64 = .ok (.aload_n 0, 1) := by decide +kernel
theorem dX4_copy_65 : decode cX4_copy 65 = .ok (.getfield 33, 3) := by decide +kernel
theorem dX4_copy_68 : decode cX4_copy 68 = .ok (.aload_n 1, 1) := by decide +kernel
theorem dX4_copy_69 : decode cX4_copy 69 = .ok (.getfield 33, 3) := by decide +kernel
theorem dX4_copy_72 : decode cX4_copy 72 = .ok (.getfield 64, 3) := by decide +kernel
theorem dX4_copy_75 : decode cX4_copy 75 = .ok (.aload_n 1, 1) := by decide +kernel
theorem dX4_copy_76 : decode cX4_copy 76 = .ok (.getfield 33, 3) := by decide +kernel
theorem dX4_copy_79 : decode cX4_copy 79 = .ok (.getfield 67, 3) := by decide +kernel
theorem dX4_copy_82 : decode cX4_copy 82 = .ok (.invokevirtual 70, 3) := by decide +kernel
theorem dX4_copy_85 : decode cX4_copy 85 = .ok (.aload_n 0, 1) := by decide +kernel
theorem dX4_copy_86 : decode cX4_copy 86 = .ok (.getfield 37, 3) := by decide +kernel
theorem dX4_copy_89 : decode cX4_copy 89 = .ok (.aload_n 1, 1) := by decide +kernel
theorem dX4_copy_90 : decode cX4_copy 90 = .ok (.getfield 37, 3) := by decide +kernel
theorem dX4_copy_93 : decode cX4_copy 93 = .ok (.getfield 64, 3) := by decide +kernel
theorem dX4_copy_96 : decode cX4_copy 96 = .ok (.aload_n 1, 1) := by decide +kernel
theorem dX4_copy_97 : decode cX4_copy 97 = .ok (.getfield 37, 3) := by decide +kernel
theorem dX4_copy_100 : decode cX4_copy 100 = .ok (.getfield 67, 3) := by decide +kernel
theorem dX4_copy_103 : decode cX4_copy 103 = .ok (.invokevirtual 70, 3) := by decide +kernel
theorem dX4_copy_106 : decode cX4_copy 106 = .ok (.aload_n 1, 1) := by decide +kernel
theorem dX4_copy_107 : decode cX4_copy 107 = .ok (.getfield 40, 3) := by decide +kernel
theorem dX4_copy_110 : decode cX4_copy 110 = .ok (.iconst 0, 1) := by decide +kernel
theorem dX4_copy_111 : decode cX4_copy 111 = .ok (.aload_n 0, 1) := by decide +kernel
theorem dX4_copy_112 : decode cX4_copy 112 = .ok (.getfield 40, 3) := by decide +kernel
theorem dX4_copy_115 : decode cX4_copy 115 = .ok (.iconst 0, 1) := by decide +kernel
theorem dX4_copy_116 : decode cX4_copy 116 = .ok (.bipush 60, 2) := by decide +kernel
theorem dX4_copy_118 : decode cX4_copy 118 = .ok (.invokestatic 54, 3) := by decide +kernel
theorem dX4_copy_121 : decode cX4_copy 121 = .ok (.aload_n 0, 1) := by decide +kernel
theorem dX4_copy_122 : decode cX4_copy 122 = .ok (.aload_n 1, 1) := by decide +kernel
theorem dX4_copy_123 : decode cX4_copy 123 = .ok (.getfield 73, 3) := by decide +kernel
theorem dX4_copy_126 : decode cX4_copy 126 = .ok (.putfield 73, 3) := by decide +kernel
theorem dX4_copy_129 : decode cX4_copy 129 = .ok (.aload_n 1, 1) := by decide +kernel
theorem dX4_copy_130 : decode cX4_copy 130 = .ok (.getfield 44, 3) := by decide +kernel
theorem dX4_copy_133 : decode cX4_copy 133 = .ok (.iconst 0, 1) := by decide +kernel
theorem dX4_copy_134 : decode cX4_copy 134 = .ok (.aload_n 0, 1) := by decide +kernel
theorem dX4_copy_135 : decode cX4_copy 135 = .ok (.getfield 44, 3) := by decide +kernel
theorem dX4_copy_138 : decode cX4_copy 138 = .ok (.iconst 0, 1) := by decide +kernel
theorem dX4_copy_139 : decode cX4_copy 139 = .ok (.bipush 24, 2) := by decide +kernel
theorem dX4_copy_141 : decode cX4_copy 141 = .ok (.invokestatic 54, 3) := by decide +kernel
theorem dX4_copy_144 : decode cX4_copy 144 = .ok (.aload_n 0, 1) := by decide +kernel
theorem dX4_copy_145 : decode cX4_copy 145 = .ok (.aload_n 1, 1) := by decide +kernel
theorem dX4_copy_146 : decode cX4_copy 146 = .ok (.getfield 76, 3) := by decide +kernel
theorem dX4_copy_149 : decode cX4_copy 149 = .ok (.putfield 76, 3) := by decide +kernel
theorem dX4_copy_152 : decode cX4_copy 152 = .ok (.aload_n 0, 1) := by decide +kernel
theorem dX4_copy_153 : decode cX4_copy 153 = .ok (.aload_n 1, 1) := by decide +kernel
theorem dX4_copy_154 : decode cX4_copy 154 = .ok (.getfield 47, 3) := by decide +kernel
theorem dX4_copy_157 : decode cX4_copy 157 = .ok (.putfield 47, 3) := by decide +kernel
theorem dX4_copy_160 : decode cX4_copy 160 = .ok (.return_, 1) := by decide +kernel
theorem dX4_has_0 : decode cX4_has 0 = .ok (.iload_n 1, 1) := by decide +kernel
theorem dX4_has_1 : decode cX4_has 1 = .ok (.ifCond .lt 15, 3) := by decide +kernel
theorem dX4_has_4 : decode cX4_has 4 = .ok (.iload_n 1, 1) := by decide +kernel
theorem dX4_has_5 : decode cX4_has 5 = .ok (.aload_n 0, 1) := by decide +kernel
theorem dX4_has_6 : decode cX4_has 6 = .ok (.getfield 51, 3) := by decide +kernel
theorem dX4_has_9 : decode cX4_has 9 = .ok (.if_icmp .ge 7, 3) := by decide +kernel
theorem dX4_has_12 : decode cX4_has 12 = .ok (.iconst 1, 1) := by decide +kernel
theorem dX4_has_13 : decode cX4_has 13 = .ok (.goto 4, 3) := by decide +kernel
theorem dX4_has_16 : decode cX4_has 16 = .ok (.iconst 0, 1) := by decide +kernel
theorem dX4_has_17 : decode cX4_has 17 = .ok (.ireturn, 1) := by decide +kernel
theorem dX4_lawOf_0 : decode cX4_lawOf 0 = .ok (.iload_n 1, 1) := by decide +kernel
theorem dX4_lawOf_1 : decode cX4_lawOf 1 = .ok (.iconst 1, 1) := by decide +kernel
theorem dX4_lawOf_2 : decode cX4_lawOf 2 = .ok (.if_icmp .ne 10, 3) := by decide +kernel
theorem dX4_lawOf_5 : decode cX4_lawOf 5 = .ok (.aload_n 0, 1) := by decide +kernel
theorem dX4_lawOf_6 : decode cX4_lawOf 6 = .ok (.getfield 37, 3) := by decide +kernel
theorem dX4_lawOf_9 : decode cX4_lawOf 9 = .ok (.goto 7, 3) := by decide +kernel
theorem dX4_lawOf_12 : decode cX4_lawOf 12 = .ok (.aload_n 0, 1) := by decide +kernel
theorem dX4_lawOf_13 : decode cX4_lawOf 13 = .ok (.getfield 33, 3) := by decide +kernel
theorem dX4_lawOf_16 : decode cX4_lawOf 16 = .ok (.areturn, 1) := by decide +kernel
theorem dX4_join_0 : decode cX4_join 0 = .ok (.aload_n 0, 1) := by decide +kernel
theorem dX4_join_1 : decode cX4_join 1 = .ok (.getfield 51, 3) := by decide +kernel
theorem dX4_join_4 : decode cX4_join 4 = .ok (.istore 4, 2) := by decide +kernel
theorem dX4_join_6 : decode cX4_join 6 = .ok (.iload 4, 2) := by decide +kernel
theorem dX4_join_8 : decode cX4_join 8 = .ok (.bipush 8, 2) := by decide +kernel
theorem dX4_join_10 : decode cX4_join 10 = .ok (.if_icmp .lt 6, 3) := by decide +kernel
theorem dX4_join_13 : decode cX4_join 13 = .ok (.iload 4, 2) := by decide +kernel
theorem dX4_join_15 : decode cX4_join 15 = .ok (.ireturn, 1) := by decide +kernel
theorem dX4_join_16 : decode cX4_join 16 = .ok (.aload_n 0, 1) := by decide +kernel
theorem dX4_join_17 : decode cX4_join 17 = .ok (.getfield 9, 3) := by decide +kernel
theorem dX4_join_20 : decode cX4_join 20 = .ok (.iload 4, 2) := by decide +kernel
theorem dX4_join_22 : decode cX4_join 22 = .ok (.iload_n 1, 1) := by decide +kernel
theorem dX4_join_23 : decode cX4_join 23 = .ok (.bipush 10, 2) := by decide +kernel
theorem dX4_join_25 : decode cX4_join 25 = .ok (.idiv, 1) := by decide +kernel
theorem dX4_join_26 : decode cX4_join 26 = .ok (.iastore, 1) := by decide +kernel
theorem dX4_join_27 : decode cX4_join 27 = .ok (.aload_n 0, 1) := by decide +kernel
theorem dX4_join_28 : decode cX4_join 28 = .ok (.getfield 15, 3) := by decide +kernel
theorem dX4_join_31 : decode cX4_join 31 = .ok (.iload 4, 2) := by decide +kernel
theorem dX4_join_33 : decode cX4_join 33 = .ok (.iload_n 1, 1) := by decide +kernel
theorem dX4_join_34 : decode cX4_join 34 = .ok (.bipush 10, 2) := by decide +kernel
theorem dX4_join_36 : decode cX4_join 36 = .ok (.irem, 1) := by decide +kernel
theorem dX4_join_37 : decode cX4_join 37 = .ok (.iastore, 1) := by decide +kernel
theorem dX4_join_38 : decode cX4_join 38 = .ok (.aload_n 0, 1) := by decide +kernel
theorem dX4_join_39 : decode cX4_join 39 = .ok (.getfield 18, 3) := by decide +kernel
theorem dX4_join_42 : decode cX4_join 42 = .ok (.iload 4, 2) := by decide +kernel
theorem dX4_join_44 : decode cX4_join 44 = .ok (.iconst 0, 1) := by decide +kernel
theorem dX4_join_45 : decode cX4_join 45 = .ok (.iastore, 1) := by decide +kernel
theorem dX4_join_46 : decode cX4_join 46 = .ok (.aload_n 0, 1) := by decide +kernel
theorem dX4_join_47 : decode cX4_join 47 = .ok (.getfield 24, 3) := by decide +kernel
theorem dX4_join_50 : decode cX4_join 50 = .ok (.getfield 79, 3) := by decide +kernel
theorem dX4_join_53 : decode cX4_join 53 = .ok (.iload 4, 2) := by decide +kernel
theorem dX4_join_55 : decode cX4_join 55 = .ok (.iload_n 2, 1) := by decide +kernel
theorem dX4_join_56 : decode cX4_join 56 = .ok (.iastore, 1) := by decide +kernel
theorem dX4_join_57 : decode cX4_join 57 = .ok (.aload_n 0, 1) := by decide +kernel
theorem dX4_join_58 : decode cX4_join 58 = .ok (.getfield 24, 3) := by decide +kernel
theorem dX4_join_61 : decode cX4_join 61 = .ok (.getfield 82, 3) := by decide +kernel
theorem dX4_join_64 : decode cX4_join 64 = .ok (.iload 4, 2) := by decide +kernel
theorem dX4_join_66 : decode cX4_join 66 = .ok (.iload_n 3, 1) := by decide +kernel
theorem dX4_join_67 : decode cX4_join 67 = .ok (.iastore, 1) := by decide +kernel
theorem dX4_join_68 : decode cX4_join 68 = .ok (.aload_n 0, 1) := by decide +kernel
theorem dX4_join_69 : decode cX4_join 69 = .ok (.dup, 1) := by decide +kernel
theorem dX4_join_70 : decode cX4_join 70 = .ok (.getfield 51, 3) := by decide +kernel
theorem dX4_join_73 : decode cX4_join 73 = .ok (.iconst 1, 1) := by decide +kernel
theorem dX4_join_74 : decode cX4_join 74 = .ok (.iadd, 1) := by decide +kernel
theorem dX4_join_75 : decode cX4_join 75 = .ok (.putfield 51, 3) := by decide +kernel
theorem dX4_join_78 : decode cX4_join 78 = .ok (.iload 4, 2) := by decide +kernel
theorem dX4_join_80 : decode cX4_join 80 = .ok (.ireturn, 1) := by decide +kernel
theorem dX4_meet_0 : decode cX4_meet 0 = .ok (.aload_n 0, 1) := by decide +kernel
theorem dX4_meet_1 : decode cX4_meet 1 = .ok (.getfield 24, 3) := by decide +kernel
theorem dX4_meet_4 : decode cX4_meet 4 = .ok (.getfield 79, 3) := by decide +kernel
theorem dX4_meet_7 : decode cX4_meet 7 = .ok (.iload_n 1, 1) := by decide +kernel
theorem dX4_meet_8 : decode cX4_meet 8 = .ok (.iaload, 1) := by decide +kernel
theorem dX4_meet_9 : decode cX4_meet 9 = .ok (.aload_n 0, 1) := by decide +kernel
theorem dX4_meet_10 : decode cX4_meet 10 = .ok (.getfield 24, 3) := by decide +kernel
theorem dX4_meet_13 : decode cX4_meet 13 = .ok (.getfield 79, 3) := by decide +kernel
theorem dX4_meet_16 : decode cX4_meet 16 = .ok (.iload_n 2, 1) := by decide +kernel
theorem dX4_meet_17 : decode cX4_meet 17 = .ok (.iaload, 1) := by decide +kernel
theorem dX4_meet_18 : decode cX4_meet 18 = .ok (.invokestatic 85, 3) := by decide +kernel
theorem dX4_meet_21 : decode cX4_meet 21 = .ok (.istore_n 3, 1) := by decide +kernel
theorem dX4_meet_22 : decode cX4_meet 22 = .ok (.aload_n 0, 1) := by decide +kernel
theorem dX4_meet_23 : decode cX4_meet 23 = .ok (.getfield 24, 3) := by decide +kernel
theorem dX4_meet_26 : decode cX4_meet 26 = .ok (.getfield 79, 3) := by decide +kernel
theorem dX4_meet_29 : decode cX4_meet 29 = .ok (.iload_n 1, 1) := by decide +kernel
theorem dX4_meet_30 : decode cX4_meet 30 = .ok (.iload_n 3, 1) := by decide +kernel
theorem dX4_meet_31 : decode cX4_meet 31 = .ok (.iastore, 1) := by decide +kernel
theorem dX4_meet_32 : decode cX4_meet 32 = .ok (.aload_n 0, 1) := by decide +kernel
theorem dX4_meet_33 : decode cX4_meet 33 = .ok (.getfield 24, 3) := by decide +kernel
theorem dX4_meet_36 : decode cX4_meet 36 = .ok (.getfield 79, 3) := by decide +kernel
theorem dX4_meet_39 : decode cX4_meet 39 = .ok (.iload_n 2, 1) := by decide +kernel
theorem dX4_meet_40 : decode cX4_meet 40 = .ok (.iload_n 3, 1) := by decide +kernel
theorem dX4_meet_41 : decode cX4_meet 41 = .ok (.iastore, 1) := by decide +kernel
theorem dX4_meet_42 : decode cX4_meet 42 = .ok (.aload_n 0, 1) := by decide +kernel
theorem dX4_meet_43 : decode cX4_meet 43 = .ok (.getfield 18, 3) := by decide +kernel
theorem dX4_meet_46 : decode cX4_meet 46 = .ok (.iload_n 1, 1) := by decide +kernel
theorem dX4_meet_47 : decode cX4_meet 47 = .ok (.dup2, 1) := by decide +kernel
theorem dX4_meet_48 : decode cX4_meet 48 = .ok (.iaload, 1) := by decide +kernel
theorem dX4_meet_49 : decode cX4_meet 49 = .ok (.iconst 1, 1) := by decide +kernel
theorem dX4_meet_50 : decode cX4_meet 50 = .ok (.iload_n 2, 1) := by decide +kernel
theorem dX4_meet_51 : decode cX4_meet 51 = .ok (.ishl, 1) := by decide +kernel
theorem dX4_meet_52 : decode cX4_meet 52 = .ok (.ior, 1) := by decide +kernel
theorem dX4_meet_53 : decode cX4_meet 53 = .ok (.iastore, 1) := by decide +kernel
theorem dX4_meet_54 : decode cX4_meet 54 = .ok (.iload_n 3, 1) := by decide +kernel
theorem dX4_meet_55 : decode cX4_meet 55 = .ok (.ireturn, 1) := by decide +kernel
theorem dX4_record_0 : decode cX4_record 0 = .ok (.iconst 0, 1) := by decide +kernel
theorem dX4_record_1 : decode cX4_record 1 = .ok (.istore 4, 2) := by decide +kernel
theorem dX4_record_3 : decode cX4_record 3 = .ok (.iload 4, 2) := by decide +kernel
theorem dX4_record_5 : decode cX4_record 5 = .ok (.iload_n 3, 1) := by decide +kernel
theorem dX4_record_6 : decode cX4_record 6 = .ok (.if_icmp .ge 46, 3) := by decide +kernel
theorem dX4_record_9 : decode cX4_record 9 = .ok (.aload_n 0, 1) := by decide +kernel
theorem dX4_record_10 : decode cX4_record 10 = .ok (.getfield 73, 3) := by decide +kernel
theorem dX4_record_13 : decode cX4_record 13 = .ok (.bipush 60, 2) := by decide +kernel
theorem dX4_record_15 : decode cX4_record 15 = .ok (.if_icmp .ge 37, 3) := by decide +kernel
theorem dX4_record_18 : decode cX4_record 18 = .ok (.aload_n 0, 1) := by decide +kernel
theorem dX4_record_19 : decode cX4_record 19 = .ok (.getfield 40, 3) := by decide +kernel
theorem dX4_record_22 : decode cX4_record 22 = .ok (.aload_n 0, 1) := by decide +kernel
theorem dX4_record_23 : decode cX4_record 23 = .ok (.getfield 73, 3) := by decide +kernel
theorem dX4_record_26 : decode cX4_record 26 = .ok (.lload_n 1, 1) := by decide +kernel
theorem dX4_record_27 : decode cX4_record 27 = .ok (.bipush 8, 2) := by decide +kernel
theorem dX4_record_29 : decode cX4_record 29 = .ok (.iload 4, 2) := by decide +kernel
theorem dX4_record_31 : decode cX4_record 31 = .ok (.imul, 1) := by decide +kernel
theorem dX4_record_32 : decode cX4_record 32 = .ok (.lushr, 1) := by decide +kernel
theorem dX4_record_33 : decode cX4_record 33 = .ok (.l2i, 1) := by decide +kernel
theorem dX4_record_34 : decode cX4_record 34 = .ok (.i2b, 1) := by decide +kernel
theorem dX4_record_35 : decode cX4_record 35 = .ok (.bastore, 1) := by decide +kernel
theorem dX4_record_36 : decode cX4_record 36 = .ok (.aload_n 0, 1) := by decide +kernel
theorem dX4_record_37 : decode cX4_record 37 = .ok (.dup, 1) := by decide +kernel
theorem dX4_record_38 : decode cX4_record 38 = .ok (.getfield 73, 3) := by decide +kernel
theorem dX4_record_41 : decode cX4_record 41 = .ok (.iconst 1, 1) := by decide +kernel
theorem dX4_record_42 : decode cX4_record 42 = .ok (.iadd, 1) := by decide +kernel
theorem dX4_record_43 : decode cX4_record 43 = .ok (.putfield 73, 3) := by decide +kernel
theorem dX4_record_46 : decode cX4_record 46 = .ok (.iinc 4 1, 3) := by decide +kernel
theorem dX4_record_49 : decode cX4_record 49 = .ok (.goto (-46), 3) := by decide +kernel
theorem dX4_record_52 : decode cX4_record 52 = .ok (.aload_n 0, 1) := by decide +kernel
theorem dX4_record_53 : decode cX4_record 53 = .ok (.getfield 73, 3) := by decide +kernel
theorem dX4_record_56 : decode cX4_record 56 = .ok (.ireturn, 1) := by decide +kernel
theorem dX4_draw_0 : decode cX4_draw 0 = .ok (.aload_n 0, 1) := by decide +kernel
theorem dX4_draw_1 : decode cX4_draw 1 = .ok (.aload_n 0, 1) := by decide +kernel
theorem dX4_draw_2 : decode cX4_draw 2 = .ok (.getfield 47, 3) := by decide +kernel
theorem dX4_draw_5 : decode cX4_draw 5 = .ok (.ldc 91, 2) := by decide +kernel
theorem dX4_draw_7 : decode cX4_draw 7 = .ok (.imul, 1) := by decide +kernel
theorem dX4_draw_8 : decode cX4_draw 8 = .ok (.sipush 12345, 3) := by decide +kernel
theorem dX4_draw_11 : decode cX4_draw 11 = .ok (.iadd, 1) := by decide +kernel
theorem dX4_draw_12 : decode cX4_draw 12 = .ok (.putfield 47, 3) := by decide +kernel
theorem dX4_draw_15 : decode cX4_draw 15 = .ok (.aload_n 0, 1) := by decide +kernel
theorem dX4_draw_16 : decode cX4_draw 16 = .ok (.getfield 47, 3) := by decide +kernel
theorem dX4_draw_19 : decode cX4_draw 19 = .ok (.bipush 8, 2) := by decide +kernel
theorem dX4_draw_21 : decode cX4_draw 21 = .ok (.iushr, 1) := by decide +kernel
theorem dX4_draw_22 : decode cX4_draw 22 = .ok (.ireturn, 1) := by decide +kernel
theorem dX4_drawMoves_0 : decode cX4_drawMoves 0 = .ok (.aload_n 0, 1) := by decide +kernel
theorem dX4_drawMoves_1 : decode cX4_drawMoves 1 = .ok (.getfield 51, 3) := by decide +kernel
theorem dX4_drawMoves_4 : decode cX4_drawMoves 4 = .ok (.iconst 2, 1) := by decide +kernel
theorem dX4_drawMoves_5 : decode cX4_drawMoves 5 = .ok (.if_icmp .ge 4, 3) := by decide +kernel
theorem dX4_drawMoves_8 : decode cX4_drawMoves 8 = .ok (.return_, 1) := by decide +kernel
theorem dX4_drawMoves_9 : decode cX4_drawMoves 9 = .ok (.aload_n 0, 1) := by decide +kernel
theorem dX4_drawMoves_10 : decode cX4_drawMoves 10 = .ok (.invokevirtual 92, 3) := by decide +kernel
theorem dX4_drawMoves_13 : decode cX4_drawMoves 13 = .ok (.aload_n 0, 1) := by decide +kernel
theorem dX4_drawMoves_14 : decode cX4_drawMoves 14 = .ok (.getfield 51, 3) := by decide +kernel
theorem dX4_drawMoves_17 : decode cX4_drawMoves 17 = .ok (.irem, 1) := by decide +kernel
theorem dX4_drawMoves_18 : decode cX4_drawMoves 18 = .ok (.istore_n 1, 1) := by decide +kernel
theorem dX4_drawMoves_19 : decode cX4_drawMoves 19 = .ok (.aload_n 0, 1) := by decide +kernel
theorem dX4_drawMoves_20 : decode cX4_drawMoves 20 = .ok (.getfield 24, 3) := by decide +kernel
theorem dX4_drawMoves_23 : decode cX4_drawMoves 23 = .ok (.getfield 82, 3) := by decide +kernel
theorem dX4_drawMoves_26 : decode cX4_drawMoves 26 = .ok (.iload_n 1, 1) := by decide +kernel
theorem dX4_drawMoves_27 : decode cX4_drawMoves 27 = .ok (.aload_n 0, 1) := by decide +kernel
theorem dX4_drawMoves_28 : decode cX4_drawMoves 28 = .ok (.invokevirtual 92, 3) := by decide +kernel
theorem dX4_drawMoves_31 : decode cX4_drawMoves 31 = .ok (.bipush 10, 2) := by decide +kernel
theorem dX4_drawMoves_33 : decode cX4_drawMoves 33 = .ok (.irem, 1) := by decide +kernel
theorem dX4_drawMoves_34 : decode cX4_drawMoves 34 = .ok (.iastore, 1) := by decide +kernel
theorem dX4_drawMoves_35 : decode cX4_drawMoves 35 = .ok (.aload_n 0, 1) := by decide +kernel
theorem dX4_drawMoves_36 : decode cX4_drawMoves 36 = .ok (.invokevirtual 92, 3) := by decide +kernel
theorem dX4_drawMoves_39 : decode cX4_drawMoves 39 = .ok (.aload_n 0, 1) := by decide +kernel
theorem dX4_drawMoves_40 : decode cX4_drawMoves 40 = .ok (.getfield 51, 3) := by decide +kernel
theorem dX4_drawMoves_43 : decode cX4_drawMoves 43 = .ok (.irem, 1) := by decide +kernel
theorem dX4_drawMoves_44 : decode cX4_drawMoves 44 = .ok (.istore_n 2, 1) := by decide +kernel
theorem dX4_drawMoves_45 : decode cX4_drawMoves 45 = .ok (.aload_n 0, 1) := by decide +kernel
theorem dX4_drawMoves_46 : decode cX4_drawMoves 46 = .ok (.invokevirtual 92, 3) := by decide +kernel
theorem dX4_drawMoves_49 : decode cX4_drawMoves 49 = .ok (.aload_n 0, 1) := by decide +kernel
theorem dX4_drawMoves_50 : decode cX4_drawMoves 50 = .ok (.getfield 51, 3) := by decide +kernel
theorem dX4_drawMoves_53 : decode cX4_drawMoves 53 = .ok (.irem, 1) := by decide +kernel
theorem dX4_drawMoves_54 : decode cX4_drawMoves 54 = .ok (.istore_n 3, 1) := by decide +kernel
theorem dX4_drawMoves_55 : decode cX4_drawMoves 55 = .ok (.iload_n 2, 1) := by decide +kernel
theorem dX4_drawMoves_56 : decode cX4_drawMoves 56 = .ok (.iload_n 3, 1) := by decide +kernel
theorem dX4_drawMoves_57 : decode cX4_drawMoves 57 = .ok (.if_icmp .eq 10, 3) := by decide +kernel
theorem dX4_drawMoves_60 : decode cX4_drawMoves 60 = .ok (.aload_n 0, 1) := by decide +kernel
theorem dX4_drawMoves_61 : decode cX4_drawMoves 61 = .ok (.iload_n 2, 1) := by decide +kernel
theorem dX4_drawMoves_62 : decode cX4_drawMoves 62 = .ok (.iload_n 3, 1) := by decide +kernel
theorem dX4_drawMoves_63 : decode cX4_drawMoves 63 = .ok (.invokevirtual 96, 3) := by decide +kernel
theorem dX4_drawMoves_66 : decode cX4_drawMoves 66 = .ok (.pop, 1) := by decide +kernel
theorem dX4_drawMoves_67 : decode cX4_drawMoves 67 = .ok (.return_, 1) := by decide +kernel
theorem dX4_takenBy_0 : decode cX4_takenBy 0 = .ok (.aload_n 0, 1) := by decide +kernel
theorem dX4_takenBy_1 : decode cX4_takenBy 1 = .ok (.getfield 33, 3) := by decide +kernel
theorem dX4_takenBy_4 : decode cX4_takenBy 4 = .ok (.aload_n 0, 1) := by decide +kernel
theorem dX4_takenBy_5 : decode cX4_takenBy 5 = .ok (.getfield 9, 3) := by decide +kernel
theorem dX4_takenBy_8 : decode cX4_takenBy 8 = .ok (.iload_n 1, 1) := by decide +kernel
theorem dX4_takenBy_9 : decode cX4_takenBy 9 = .ok (.iaload, 1) := by decide +kernel
theorem dX4_takenBy_10 : decode cX4_takenBy 10 = .ok (.aload_n 0, 1) := by decide +kernel
theorem dX4_takenBy_11 : decode cX4_takenBy 11 = .ok (.getfield 15, 3) := by decide +kernel
theorem dX4_takenBy_14 : decode cX4_takenBy 14 = .ok (.iload_n 1, 1) := by decide +kernel
theorem dX4_takenBy_15 : decode cX4_takenBy 15 = .ok (.iaload, 1) := by decide +kernel
theorem dX4_takenBy_16 : decode cX4_takenBy 16 = .ok (.iload_n 2, 1) := by decide +kernel
theorem dX4_takenBy_17 : decode cX4_takenBy 17 = .ok (.iload_n 3, 1) := by decide +kernel
theorem dX4_takenBy_18 : decode cX4_takenBy 18 = .ok (.iload 4, 2) := by decide +kernel
theorem dX4_takenBy_20 : decode cX4_takenBy 20 = .ok (.invokestatic 99, 3) := by decide +kernel
theorem dX4_takenBy_23 : decode cX4_takenBy 23 = .ok (.iload_n 2, 1) := by decide +kernel
theorem dX4_takenBy_24 : decode cX4_takenBy 24 = .ok (.iload_n 3, 1) := by decide +kernel
theorem dX4_takenBy_25 : decode cX4_takenBy 25 = .ok (.invokevirtual 103, 3) := by decide +kernel
theorem dX4_takenBy_28 : decode cX4_takenBy 28 = .ok (.ireturn, 1) := by decide +kernel
theorem dX4_signOf_0 : decode cX4_signOf 0 = .ok (.aload_n 0, 1) := by decide +kernel
theorem dX4_signOf_1 : decode cX4_signOf 1 = .ok (.getfield 9, 3) := by decide +kernel
theorem dX4_signOf_4 : decode cX4_signOf 4 = .ok (.iload_n 1, 1) := by decide +kernel
theorem dX4_signOf_5 : decode cX4_signOf 5 = .ok (.iaload, 1) := by decide +kernel
theorem dX4_signOf_6 : decode cX4_signOf 6 = .ok (.aload_n 2, 1) := by decide +kernel
theorem dX4_signOf_7 : decode cX4_signOf 7 = .ok (.getfield 79, 3) := by decide +kernel
theorem dX4_signOf_10 : decode cX4_signOf 10 = .ok (.iload_n 1, 1) := by decide +kernel
theorem dX4_signOf_11 : decode cX4_signOf 11 = .ok (.iaload, 1) := by decide +kernel
theorem dX4_signOf_12 : decode cX4_signOf 12 = .ok (.aload_n 2, 1) := by decide +kernel
theorem dX4_signOf_13 : decode cX4_signOf 13 = .ok (.getfield 82, 3) := by decide +kernel
theorem dX4_signOf_16 : decode cX4_signOf 16 = .ok (.iload_n 1, 1) := by decide +kernel
theorem dX4_signOf_17 : decode cX4_signOf 17 = .ok (.iaload, 1) := by decide +kernel
theorem dX4_signOf_18 : decode cX4_signOf 18 = .ok (.aload_n 2, 1) := by decide +kernel
theorem dX4_signOf_19 : decode cX4_signOf 19 = .ok (.getfield 107, 3) := by decide +kernel
theorem dX4_signOf_22 : decode cX4_signOf 22 = .ok (.invokestatic 110, 3) := by decide +kernel
theorem dX4_signOf_25 : decode cX4_signOf 25 = .ok (.istore_n 3, 1) := by decide +kernel
theorem dX4_signOf_26 : decode cX4_signOf 26 = .ok (.aload_n 0, 1) := by decide +kernel
theorem dX4_signOf_27 : decode cX4_signOf 27 = .ok (.getfield 37, 3) := by decide +kernel
theorem dX4_signOf_30 : decode cX4_signOf 30 = .ok (.iload_n 3, 1) := by decide +kernel
theorem dX4_signOf_31 : decode cX4_signOf 31 = .ok (.aload_n 2, 1) := by decide +kernel
theorem dX4_signOf_32 : decode cX4_signOf 32 = .ok (.getfield 79, 3) := by decide +kernel
theorem dX4_signOf_35 : decode cX4_signOf 35 = .ok (.iload_n 1, 1) := by decide +kernel
theorem dX4_signOf_36 : decode cX4_signOf 36 = .ok (.iaload, 1) := by decide +kernel
theorem dX4_signOf_37 : decode cX4_signOf 37 = .ok (.aload_n 2, 1) := by decide +kernel
theorem dX4_signOf_38 : decode cX4_signOf 38 = .ok (.getfield 107, 3) := by decide +kernel
theorem dX4_signOf_41 : decode cX4_signOf 41 = .ok (.bipush 7, 2) := by decide +kernel
theorem dX4_signOf_43 : decode cX4_signOf 43 = .ok (.irem, 1) := by decide +kernel
theorem dX4_signOf_44 : decode cX4_signOf 44 = .ok (.invokevirtual 103, 3) := by decide +kernel
theorem dX4_signOf_47 : decode cX4_signOf 47 = .ok (.ireturn, 1) := by decide +kernel
theorem dX4_nearAfter_0 : decode cX4_nearAfter 0 = .ok (.aload_n 0, 1) := by decide +kernel
theorem dX4_nearAfter_1 : decode cX4_nearAfter 1 = .ok (.getfield 51, 3) := by decide +kernel
theorem dX4_nearAfter_4 : decode cX4_nearAfter 4 = .ok (.iconst 2, 1) := by decide +kernel
theorem dX4_nearAfter_5 : decode cX4_nearAfter 5 = .ok (.if_icmp .ge 10, 3) := by decide +kernel
theorem dX4_nearAfter_8 : decode cX4_nearAfter 8 = .ok (.aload_n 2, 1) := by decide +kernel
theorem dX4_nearAfter_9 : decode cX4_nearAfter 9 = .ok (.getfield 79, 3) := by decide +kernel
theorem dX4_nearAfter_12 : decode cX4_nearAfter 12 = .ok (.iload_n 1, 1) := by decide +kernel
theorem dX4_nearAfter_13 : decode cX4_nearAfter 13 = .ok (.iaload, 1) := by decide +kernel
theorem dX4_nearAfter_14 : decode cX4_nearAfter 14 = .ok (.ireturn, 1) := by decide +kernel
theorem dX4_nearAfter_15 : decode cX4_nearAfter 15 = .ok (.iconst 0, 1) := by decide +kernel
theorem dX4_nearAfter_16 : decode cX4_nearAfter 16 = .ok (.istore_n 3, 1) := by decide +kernel
theorem dX4_nearAfter_17 : decode cX4_nearAfter 17 = .ok (.iconst 0, 1) := by decide +kernel
theorem dX4_nearAfter_18 : decode cX4_nearAfter 18 = .ok (.istore 4, 2) := by decide +kernel
theorem dX4_nearAfter_20 : decode cX4_nearAfter 20 = .ok (.iload 4, 2) := by decide +kernel
theorem dX4_nearAfter_22 : decode cX4_nearAfter 22 = .ok (.aload_n 0, 1) := by decide +kernel
theorem dX4_nearAfter_23 : decode cX4_nearAfter 23 = .ok (.getfield 51, 3) := by decide +kernel
theorem dX4_nearAfter_26 : decode cX4_nearAfter 26 = .ok (.if_icmp .ge 40, 3) := by decide +kernel
theorem dX4_nearAfter_29 : decode cX4_nearAfter 29 = .ok (.iload 4, 2) := by decide +kernel
theorem dX4_nearAfter_31 : decode cX4_nearAfter 31 = .ok (.iload_n 1, 1) := by decide +kernel
theorem dX4_nearAfter_32 : decode cX4_nearAfter 32 = .ok (.if_icmp .eq 28, 3) := by decide +kernel
theorem dX4_nearAfter_35 : decode cX4_nearAfter 35 = .ok (.iload_n 3, 1) := by decide +kernel
theorem dX4_nearAfter_36 : decode cX4_nearAfter 36 = .ok (.aload_n 0, 1) := by decide +kernel
theorem dX4_nearAfter_37 : decode cX4_nearAfter 37 = .ok (.iload 4, 2) := by decide +kernel
theorem dX4_nearAfter_39 : decode cX4_nearAfter 39 = .ok (.aload_n 2, 1) := by decide +kernel
theorem dX4_nearAfter_40 : decode cX4_nearAfter 40 = .ok (.getfield 79, 3) := by decide +kernel
theorem dX4_nearAfter_43 : decode cX4_nearAfter 43 = .ok (.iload_n 1, 1) := by decide +kernel
theorem dX4_nearAfter_44 : decode cX4_nearAfter 44 = .ok (.iaload, 1) := by decide +kernel
theorem dX4_nearAfter_45 : decode cX4_nearAfter 45 = .ok (.aload_n 2, 1) := by decide +kernel
theorem dX4_nearAfter_46 : decode cX4_nearAfter 46 = .ok (.getfield 82, 3) := by decide +kernel
theorem dX4_nearAfter_49 : decode cX4_nearAfter 49 = .ok (.iload_n 1, 1) := by decide +kernel
theorem dX4_nearAfter_50 : decode cX4_nearAfter 50 = .ok (.iaload, 1) := by decide +kernel
theorem dX4_nearAfter_51 : decode cX4_nearAfter 51 = .ok (.aload_n 2, 1) := by decide +kernel
theorem dX4_nearAfter_52 : decode cX4_nearAfter 52 = .ok (.getfield 107, 3) := by decide +kernel
theorem dX4_nearAfter_55 : decode cX4_nearAfter 55 = .ok (.invokevirtual 114, 3) := by decide +kernel
theorem dX4_nearAfter_58 : decode cX4_nearAfter 58 = .ok (.iadd, 1) := by decide +kernel
theorem dX4_nearAfter_59 : decode cX4_nearAfter 59 = .ok (.istore_n 3, 1) := by decide +kernel
theorem dX4_nearAfter_60 : decode cX4_nearAfter 60 = .ok (.iinc 4 1, 3) := by decide +kernel
theorem dX4_nearAfter_63 : decode cX4_nearAfter 63 = .ok (.goto (-43), 3) := by decide +kernel
theorem dX4_nearAfter_66 : decode cX4_nearAfter 66 = .ok (.iload_n 3, 1) := by decide +kernel
theorem dX4_nearAfter_67 : decode cX4_nearAfter 67 = .ok (.aload_n 0, 1) := by decide +kernel
theorem dX4_nearAfter_68 : decode cX4_nearAfter 68 = .ok (.getfield 51, 3) := by decide +kernel
theorem dX4_nearAfter_71 : decode cX4_nearAfter 71 = .ok (.iconst 1, 1) := by decide +kernel
theorem dX4_nearAfter_72 : decode cX4_nearAfter 72 = .ok (.isub, 1) := by decide +kernel
theorem dX4_nearAfter_73 : decode cX4_nearAfter 73 = .ok (.idiv, 1) := by decide +kernel
theorem dX4_nearAfter_74 : decode cX4_nearAfter 74 = .ok (.ireturn, 1) := by decide +kernel
theorem dX4_pass_0 : decode cX4_pass 0 = .ok (.iconst 0, 1) := by decide +kernel
theorem dX4_pass_1 : decode cX4_pass 1 = .ok (.istore_n 2, 1) := by decide +kernel
theorem dX4_pass_2 : decode cX4_pass 2 = .ok (.iconst 0, 1) := by decide +kernel
theorem dX4_pass_3 : decode cX4_pass 3 = .ok (.istore_n 3, 1) := by decide +kernel
theorem dX4_pass_4 : decode cX4_pass 4 = .ok (.iload_n 3, 1) := by decide +kernel
theorem dX4_pass_5 : decode cX4_pass 5 = .ok (.aload_n 0, 1) := by decide +kernel
theorem dX4_pass_6 : decode cX4_pass 6 = .ok (.getfield 51, 3) := by decide +kernel
theorem dX4_pass_9 : decode cX4_pass 9 = .ok (.if_icmp .ge 71, 3) := by decide +kernel
theorem dX4_pass_12 : decode cX4_pass 12 = .ok (.aload_n 0, 1) := by decide +kernel
theorem dX4_pass_13 : decode cX4_pass 13 = .ok (.iload_n 3, 1) := by decide +kernel
theorem dX4_pass_14 : decode cX4_pass 14 = .ok (.aload_n 1, 1) := by decide +kernel
theorem dX4_pass_15 : decode cX4_pass 15 = .ok (.invokevirtual 117, 3) := by decide +kernel
theorem dX4_pass_18 : decode cX4_pass 18 = .ok (.istore 4, 2) := by decide +kernel
theorem dX4_pass_20 : decode cX4_pass 20 = .ok (.aload_n 0, 1) := by decide +kernel
theorem dX4_pass_21 : decode cX4_pass 21 = .ok (.iload_n 3, 1) := by decide +kernel
theorem dX4_pass_22 : decode cX4_pass 22 = .ok (.aload_n 1, 1) := by decide +kernel
theorem dX4_pass_23 : decode cX4_pass 23 = .ok (.invokevirtual 121, 3) := by decide +kernel
theorem dX4_pass_26 : decode cX4_pass 26 = .ok (.istore 5, 2) := by decide +kernel
theorem dX4_pass_28 : decode cX4_pass 28 = .ok (.iload_n 2, 1) := by decide +kernel
theorem dX4_pass_29 : decode cX4_pass 29 = .ok (.iload 4, 2) := by decide +kernel
theorem dX4_pass_31 : decode cX4_pass 31 = .ok (.aload_n 1, 1) := by decide +kernel
theorem dX4_pass_32 : decode cX4_pass 32 = .ok (.getfield 79, 3) := by decide +kernel
theorem dX4_pass_35 : decode cX4_pass 35 = .ok (.iload_n 3, 1) := by decide +kernel
theorem dX4_pass_36 : decode cX4_pass 36 = .ok (.iaload, 1) := by decide +kernel
theorem dX4_pass_37 : decode cX4_pass 37 = .ok (.if_icmp .ne 14, 3) := by decide +kernel
theorem dX4_pass_40 : decode cX4_pass 40 = .ok (.iload 5, 2) := by decide +kernel
theorem dX4_pass_42 : decode cX4_pass 42 = .ok (.aload_n 1, 1) := by decide +kernel
theorem dX4_pass_43 : decode cX4_pass 43 = .ok (.getfield 82, 3) := by decide +kernel
theorem dX4_pass_46 : decode cX4_pass 46 = .ok (.iload_n 3, 1) := by decide +kernel
theorem dX4_pass_47 : decode cX4_pass 47 = .ok (.iaload, 1) := by decide +kernel
theorem dX4_pass_48 : decode cX4_pass 48 = .ok (.if_icmp .eq 7, 3) := by decide +kernel
theorem dX4_pass_51 : decode cX4_pass 51 = .ok (.iconst 1, 1) := by decide +kernel
theorem dX4_pass_52 : decode cX4_pass 52 = .ok (.goto 4, 3) := by decide +kernel
theorem dX4_pass_55 : decode cX4_pass 55 = .ok (.iconst 0, 1) := by decide +kernel
theorem dX4_pass_56 : decode cX4_pass 56 = .ok (.ior, 1) := by decide +kernel
theorem dX4_pass_57 : decode cX4_pass 57 = .ok (.istore_n 2, 1) := by decide +kernel
theorem dX4_pass_58 : decode cX4_pass 58 = .ok (.aload_n 1, 1) := by decide +kernel
theorem dX4_pass_59 : decode cX4_pass 59 = .ok (.getfield 79, 3) := by decide +kernel
theorem dX4_pass_62 : decode cX4_pass 62 = .ok (.iload_n 3, 1) := by decide +kernel
theorem dX4_pass_63 : decode cX4_pass 63 = .ok (.iload 4, 2) := by decide +kernel
theorem dX4_pass_65 : decode cX4_pass 65 = .ok (.iastore, 1) := by decide +kernel
theorem dX4_pass_66 : decode cX4_pass 66 = .ok (.aload_n 1, 1) := by decide +kernel
theorem dX4_pass_67 : decode cX4_pass 67 = .ok (.getfield 82, 3) := by decide +kernel
theorem dX4_pass_70 : decode cX4_pass 70 = .ok (.iload_n 3, 1) := by decide +kernel
theorem dX4_pass_71 : decode cX4_pass 71 = .ok (.iload 5, 2) := by decide +kernel
theorem dX4_pass_73 : decode cX4_pass 73 = .ok (.iastore, 1) := by decide +kernel
theorem dX4_pass_74 : decode cX4_pass 74 = .ok (.iinc 3 1, 3) := by decide +kernel
theorem dX4_pass_77 : decode cX4_pass 77 = .ok (.goto (-73), 3) := by decide +kernel
theorem dX4_pass_80 : decode cX4_pass 80 = .ok (.aload_n 1, 1) := by decide +kernel
theorem dX4_pass_81 : decode cX4_pass 81 = .ok (.dup, 1) := by decide +kernel
theorem dX4_pass_82 : decode cX4_pass 82 = .ok (.getfield 107, 3) := by decide +kernel
theorem dX4_pass_85 : decode cX4_pass 85 = .ok (.iconst 1, 1) := by decide +kernel
theorem dX4_pass_86 : decode cX4_pass 86 = .ok (.iadd, 1) := by decide +kernel
theorem dX4_pass_87 : decode cX4_pass 87 = .ok (.putfield 107, 3) := by decide +kernel
theorem dX4_pass_90 : decode cX4_pass 90 = .ok (.iload_n 2, 1) := by decide +kernel
theorem dX4_pass_91 : decode cX4_pass 91 = .ok (.ireturn, 1) := by decide +kernel
theorem dX4_nearestIn_0 : decode cX4_nearestIn 0 = .ok (.iconst (-1), 1) := by decide +kernel
theorem dX4_nearestIn_1 : decode cX4_nearestIn 1 = .ok (.istore_n 2, 1) := by decide +kernel
theorem dX4_nearestIn_2 : decode cX4_nearestIn 2 = .ok (.iconst 0, 1) := by decide +kernel
theorem dX4_nearestIn_3 : decode cX4_nearestIn 3 = .ok (.istore_n 3, 1) := by decide +kernel
theorem dX4_nearestIn_4 : decode cX4_nearestIn 4 = .ok (.iload_n 3, 1) := by decide +kernel
theorem dX4_nearestIn_5 : decode cX4_nearestIn 5 = .ok (.aload_n 0, 1) := by decide +kernel
theorem dX4_nearestIn_6 : decode cX4_nearestIn 6 = .ok (.getfield 51, 3) := by decide +kernel
theorem dX4_nearestIn_9 : decode cX4_nearestIn 9 = .ok (.if_icmp .ge 30, 3) := by decide +kernel
theorem dX4_nearestIn_12 : decode cX4_nearestIn 12 = .ok (.iload_n 2, 1) := by decide +kernel
theorem dX4_nearestIn_13 : decode cX4_nearestIn 13 = .ok (.ifCond .lt 18, 3) := by decide +kernel
theorem dX4_nearestIn_16 : decode cX4_nearestIn 16 = .ok (.aload_n 1, 1) := by decide +kernel
theorem dX4_nearestIn_17 : decode cX4_nearestIn 17 = .ok (.getfield 79, 3) := by decide +kernel
theorem dX4_nearestIn_20 : decode cX4_nearestIn 20 = .ok (.iload_n 3, 1) := by decide +kernel
theorem dX4_nearestIn_21 : decode cX4_nearestIn 21 = .ok (.iaload, 1) := by decide +kernel
theorem dX4_nearestIn_22 : decode cX4_nearestIn 22 = .ok (.aload_n 1, 1) := by decide +kernel
theorem dX4_nearestIn_23 : decode cX4_nearestIn 23 = .ok (.getfield 79, 3) := by decide +kernel
theorem dX4_nearestIn_26 : decode cX4_nearestIn 26 = .ok (.iload_n 2, 1) := by decide +kernel
theorem dX4_nearestIn_27 : decode cX4_nearestIn 27 = .ok (.iaload, 1) := by decide +kernel
theorem dX4_nearestIn_28 : decode cX4_nearestIn 28 = .ok (.if_icmp .le 5, 3) := by decide +kernel
theorem dX4_nearestIn_31 : decode cX4_nearestIn 31 = .ok (.iload_n 3, 1) := by decide +kernel
theorem dX4_nearestIn_32 : decode cX4_nearestIn 32 = .ok (.istore_n 2, 1) := by decide +kernel
theorem dX4_nearestIn_33 : decode cX4_nearestIn 33 = .ok (.iinc 3 1, 3) := by decide +kernel
theorem dX4_nearestIn_36 : decode cX4_nearestIn 36 = .ok (.goto (-32), 3) := by decide +kernel
theorem dX4_nearestIn_39 : decode cX4_nearestIn 39 = .ok (.iload_n 2, 1) := by decide +kernel
theorem dX4_nearestIn_40 : decode cX4_nearestIn 40 = .ok (.ireturn, 1) := by decide +kernel
theorem dX4_countNearer_0 : decode cX4_countNearer 0 = .ok (.iconst 0, 1) := by decide +kernel
theorem dX4_countNearer_1 : decode cX4_countNearer 1 = .ok (.istore_n 2, 1) := by decide +kernel
theorem dX4_countNearer_2 : decode cX4_countNearer 2 = .ok (.iconst 0, 1) := by decide +kernel
theorem dX4_countNearer_3 : decode cX4_countNearer 3 = .ok (.istore_n 3, 1) := by decide +kernel
theorem dX4_countNearer_4 : decode cX4_countNearer 4 = .ok (.iload_n 3, 1) := by decide +kernel
theorem dX4_countNearer_5 : decode cX4_countNearer 5 = .ok (.aload_n 0, 1) := by decide +kernel
theorem dX4_countNearer_6 : decode cX4_countNearer 6 = .ok (.getfield 51, 3) := by decide +kernel
theorem dX4_countNearer_9 : decode cX4_countNearer 9 = .ok (.if_icmp .ge 33, 3) := by decide +kernel
theorem dX4_countNearer_12 : decode cX4_countNearer 12 = .ok (.aload_n 0, 1) := by decide +kernel
theorem dX4_countNearer_13 : decode cX4_countNearer 13 = .ok (.getfield 24, 3) := by decide +kernel
theorem dX4_countNearer_16 : decode cX4_countNearer 16 = .ok (.getfield 79, 3) := by decide +kernel
theorem dX4_countNearer_19 : decode cX4_countNearer 19 = .ok (.iload_n 3, 1) := by decide +kernel
theorem dX4_countNearer_20 : decode cX4_countNearer 20 = .ok (.iaload, 1) := by decide +kernel
theorem dX4_countNearer_21 : decode cX4_countNearer 21 = .ok (.aload_n 0, 1) := by decide +kernel
theorem dX4_countNearer_22 : decode cX4_countNearer 22 = .ok (.getfield 24, 3) := by decide +kernel
theorem dX4_countNearer_25 : decode cX4_countNearer 25 = .ok (.getfield 79, 3) := by decide +kernel
theorem dX4_countNearer_28 : decode cX4_countNearer 28 = .ok (.iload_n 1, 1) := by decide +kernel
theorem dX4_countNearer_29 : decode cX4_countNearer 29 = .ok (.iaload, 1) := by decide +kernel
theorem dX4_countNearer_30 : decode cX4_countNearer 30 = .ok (.if_icmp .le 6, 3) := by decide +kernel
theorem dX4_countNearer_33 : decode cX4_countNearer 33 = .ok (.iinc 2 1, 3) := by decide +kernel
theorem dX4_countNearer_36 : decode cX4_countNearer 36 = .ok (.iinc 3 1, 3) := by decide +kernel
theorem dX4_countNearer_39 : decode cX4_countNearer 39 = .ok (.goto (-35), 3) := by decide +kernel
theorem dX4_countNearer_42 : decode cX4_countNearer 42 = .ok (.iload_n 2, 1) := by decide +kernel
theorem dX4_countNearer_43 : decode cX4_countNearer 43 = .ok (.ireturn, 1) := by decide +kernel
theorem dX4_countTakenNearer_0 : decode cX4_countTakenNearer 0 = .ok (.iconst 0, 1) := by decide +kernel
theorem dX4_countTakenNearer_1 : decode cX4_countTakenNearer 1 = .ok (.istore_n 2, 1) := by decide +kernel
theorem dX4_countTakenNearer_2 : decode cX4_countTakenNearer 2 = .ok (.iconst 0, 1) := by decide +kernel
theorem dX4_countTakenNearer_3 : decode cX4_countTakenNearer 3 = .ok (.istore_n 3, 1) := by decide +kernel
theorem dX4_countTakenNearer_4 : decode cX4_countTakenNearer 4 = .ok (.iload_n 3, 1) := by decide +kernel
theorem dX4_countTakenNearer_5 : decode cX4_countTakenNearer 5 = .ok (.aload_n 0, 1) := by decide +kernel
theorem dX4_countTakenNearer_6 : decode cX4_countTakenNearer 6 = .ok (.getfield 51, 3) := by decide +kernel
theorem dX4_countTakenNearer_9 : decode cX4_countTakenNearer 9 = .ok (.if_icmp .ge 59, 3) := by decide +kernel
theorem dX4_countTakenNearer_12 : decode cX4_countTakenNearer 12 = .ok (.iload_n 3, 1) := by decide +kernel
theorem dX4_countTakenNearer_13 : decode cX4_countTakenNearer 13 = .ok (.iload_n 1, 1) := by decide +kernel
theorem dX4_countTakenNearer_14 : decode cX4_countTakenNearer 14 = .ok (.if_icmp .eq 48, 3) := by decide +kernel
theorem dX4_countTakenNearer_17 : decode cX4_countTakenNearer 17 = .ok (.aload_n 0, 1) := by decide +kernel
theorem dX4_countTakenNearer_18 : decode cX4_countTakenNearer 18 = .ok (.iload_n 3, 1) := by decide +kernel
theorem dX4_countTakenNearer_19 : decode cX4_countTakenNearer 19 = .ok (.aload_n 0, 1) := by decide +kernel
theorem dX4_countTakenNearer_20 : decode cX4_countTakenNearer 20 = .ok (.getfield 24, 3) := by decide +kernel
theorem dX4_countTakenNearer_23 : decode cX4_countTakenNearer 23 = .ok (.getfield 79, 3) := by decide +kernel
theorem dX4_countTakenNearer_26 : decode cX4_countTakenNearer 26 = .ok (.iload_n 1, 1) := by decide +kernel
theorem dX4_countTakenNearer_27 : decode cX4_countTakenNearer 27 = .ok (.iaload, 1) := by decide +kernel
theorem dX4_countTakenNearer_28 : decode cX4_countTakenNearer 28 = .ok (.aload_n 0, 1) := by decide +kernel
theorem dX4_countTakenNearer_29 : decode cX4_countTakenNearer 29 = .ok (.getfield 24, 3) := by decide +kernel
theorem dX4_countTakenNearer_32 : decode cX4_countTakenNearer 32 = .ok (.getfield 82, 3) := by decide +kernel
theorem dX4_countTakenNearer_35 : decode cX4_countTakenNearer 35 = .ok (.iload_n 1, 1) := by decide +kernel
theorem dX4_countTakenNearer_36 : decode cX4_countTakenNearer 36 = .ok (.iaload, 1) := by decide +kernel
theorem dX4_countTakenNearer_37 : decode cX4_countTakenNearer 37 = .ok (.aload_n 0, 1) := by decide +kernel
theorem dX4_countTakenNearer_38 : decode cX4_countTakenNearer 38 = .ok (.getfield 24, 3) := by decide +kernel
theorem dX4_countTakenNearer_41 : decode cX4_countTakenNearer 41 = .ok (.getfield 107, 3) := by decide +kernel
theorem dX4_countTakenNearer_44 : decode cX4_countTakenNearer 44 = .ok (.invokevirtual 114, 3) := by decide +kernel
theorem dX4_countTakenNearer_47 : decode cX4_countTakenNearer 47 = .ok (.aload_n 0, 1) := by decide +kernel
theorem dX4_countTakenNearer_48 : decode cX4_countTakenNearer 48 = .ok (.getfield 24, 3) := by decide +kernel
theorem dX4_countTakenNearer_51 : decode cX4_countTakenNearer 51 = .ok (.getfield 79, 3) := by decide +kernel
theorem dX4_countTakenNearer_54 : decode cX4_countTakenNearer 54 = .ok (.iload_n 1, 1) := by decide +kernel
theorem dX4_countTakenNearer_55 : decode cX4_countTakenNearer 55 = .ok (.iaload, 1) := by decide +kernel
theorem dX4_countTakenNearer_56 : decode cX4_countTakenNearer 56 = .ok (.if_icmp .le 6, 3) := by decide +kernel
theorem dX4_countTakenNearer_59 : decode cX4_countTakenNearer 59 = .ok (.iinc 2 1, 3) := by decide +kernel
theorem dX4_countTakenNearer_62 : decode cX4_countTakenNearer 62 = .ok (.iinc 3 1, 3) := by decide +kernel
theorem dX4_countTakenNearer_65 : decode cX4_countTakenNearer 65 = .ok (.goto (-61), 3) := by decide +kernel
theorem dX4_countTakenNearer_68 : decode cX4_countTakenNearer 68 = .ok (.iload_n 2, 1) := by decide +kernel
theorem dX4_countTakenNearer_69 : decode cX4_countTakenNearer 69 = .ok (.ireturn, 1) := by decide +kernel
theorem dX4_comeToFrom_0 : decode cX4_comeToFrom 0 = .ok (.iconst 1, 1) := by decide +kernel
theorem dX4_comeToFrom_1 : decode cX4_comeToFrom 1 = .ok (.iload_n 1, 1) := by decide +kernel
theorem dX4_comeToFrom_2 : decode cX4_comeToFrom 2 = .ok (.ishl, 1) := by decide +kernel
theorem dX4_comeToFrom_3 : decode cX4_comeToFrom 3 = .ok (.istore_n 2, 1) := by decide +kernel
theorem dX4_comeToFrom_4 : decode cX4_comeToFrom 4 = .ok (.iconst 0, 1) := by decide +kernel
theorem dX4_comeToFrom_5 : decode cX4_comeToFrom 5 = .ok (.istore_n 3, 1) := by decide +kernel
theorem dX4_comeToFrom_6 : decode cX4_comeToFrom 6 = .ok (.iload_n 3, 1) := by decide +kernel
theorem dX4_comeToFrom_7 : decode cX4_comeToFrom 7 = .ok (.aload_n 0, 1) := by decide +kernel
theorem dX4_comeToFrom_8 : decode cX4_comeToFrom 8 = .ok (.getfield 51, 3) := by decide +kernel
theorem dX4_comeToFrom_11 : decode cX4_comeToFrom 11 = .ok (.if_icmp .ge 46, 3) := by decide +kernel
theorem dX4_comeToFrom_14 : decode cX4_comeToFrom 14 = .ok (.iconst 0, 1) := by decide +kernel
theorem dX4_comeToFrom_15 : decode cX4_comeToFrom 15 = .ok (.istore 4, 2) := by decide +kernel
theorem dX4_comeToFrom_17 : decode cX4_comeToFrom 17 = .ok (.iload 4, 2) := by decide +kernel
theorem dX4_comeToFrom_19 : decode cX4_comeToFrom 19 = .ok (.aload_n 0, 1) := by decide +kernel
theorem dX4_comeToFrom_20 : decode cX4_comeToFrom 20 = .ok (.getfield 51, 3) := by decide +kernel
theorem dX4_comeToFrom_23 : decode cX4_comeToFrom 23 = .ok (.if_icmp .ge 28, 3) := by decide +kernel
theorem dX4_comeToFrom_26 : decode cX4_comeToFrom 26 = .ok (.iload_n 2, 1) := by decide +kernel
theorem dX4_comeToFrom_27 : decode cX4_comeToFrom 27 = .ok (.iload 4, 2) := by decide +kernel
theorem dX4_comeToFrom_29 : decode cX4_comeToFrom 29 = .ok (.ishr, 1) := by decide +kernel
theorem dX4_comeToFrom_30 : decode cX4_comeToFrom 30 = .ok (.iconst 1, 1) := by decide +kernel
theorem dX4_comeToFrom_31 : decode cX4_comeToFrom 31 = .ok (.iand, 1) := by decide +kernel
theorem dX4_comeToFrom_32 : decode cX4_comeToFrom 32 = .ok (.ifCond .eq 13, 3) := by decide +kernel
theorem dX4_comeToFrom_35 : decode cX4_comeToFrom 35 = .ok (.iload_n 2, 1) := by decide +kernel
theorem dX4_comeToFrom_36 : decode cX4_comeToFrom 36 = .ok (.aload_n 0, 1) := by decide +kernel
theorem dX4_comeToFrom_37 : decode cX4_comeToFrom 37 = .ok (.getfield 18, 3) := by decide +kernel
theorem dX4_comeToFrom_40 : decode cX4_comeToFrom 40 = .ok (.iload 4, 2) := by decide +kernel
theorem dX4_comeToFrom_42 : decode cX4_comeToFrom 42 = .ok (.iaload, 1) := by decide +kernel
theorem dX4_comeToFrom_43 : decode cX4_comeToFrom 43 = .ok (.ior, 1) := by decide +kernel
theorem dX4_comeToFrom_44 : decode cX4_comeToFrom 44 = .ok (.istore_n 2, 1) := by decide +kernel
theorem dX4_comeToFrom_45 : decode cX4_comeToFrom 45 = .ok (.iinc 4 1, 3) := by decide +kernel
theorem dX4_comeToFrom_48 : decode cX4_comeToFrom 48 = .ok (.goto (-31), 3) := by decide +kernel
theorem dX4_comeToFrom_51 : decode cX4_comeToFrom 51 = .ok (.iinc 3 1, 3) := by decide +kernel
theorem dX4_comeToFrom_54 : decode cX4_comeToFrom 54 = .ok (.goto (-48), 3) := by decide +kernel
theorem dX4_comeToFrom_57 : decode cX4_comeToFrom 57 = .ok (.iload_n 2, 1) := by decide +kernel
theorem dX4_comeToFrom_58 : decode cX4_comeToFrom 58 = .ok (.ireturn, 1) := by decide +kernel
theorem dX4_readsOf_0 : decode cX4_readsOf 0 = .ok (.bipush 10, 2) := by decide +kernel
theorem dX4_readsOf_2 : decode cX4_readsOf 2 = .ok (.iload_n 3, 1) := by decide +kernel
theorem dX4_readsOf_3 : decode cX4_readsOf 3 = .ok (.imul, 1) := by decide +kernel
theorem dX4_readsOf_4 : decode cX4_readsOf 4 = .ok (.istore 5, 2) := by decide +kernel
theorem dX4_readsOf_6 : decode cX4_readsOf 6 = .ok (.iload_n 0, 1) := by decide +kernel
theorem dX4_readsOf_7 : decode cX4_readsOf 7 = .ok (.tableswitch 89 1 6 #[37, 44, 51, 57, 70, 75], 37) := by decide +kernel
theorem dX4_readsOf_44 : decode cX4_readsOf 44 = .ok (.iload 5, 2) := by decide +kernel
theorem dX4_readsOf_46 : decode cX4_readsOf 46 = .ok (.iconst 5, 1) := by decide +kernel
theorem dX4_readsOf_47 : decode cX4_readsOf 47 = .ok (.iadd, 1) := by decide +kernel
theorem dX4_readsOf_48 : decode cX4_readsOf 48 = .ok (.iload_n 1, 1) := by decide +kernel
theorem dX4_readsOf_49 : decode cX4_readsOf 49 = .ok (.iadd, 1) := by decide +kernel
theorem dX4_readsOf_50 : decode cX4_readsOf 50 = .ok (.ireturn, 1) := by decide +kernel
theorem dX4_readsOf_51 : decode cX4_readsOf 51 = .ok (.iload 5, 2) := by decide +kernel
theorem dX4_readsOf_53 : decode cX4_readsOf 53 = .ok (.iload_n 2, 1) := by decide +kernel
theorem dX4_readsOf_54 : decode cX4_readsOf 54 = .ok (.iadd, 1) := by decide +kernel
theorem dX4_readsOf_55 : decode cX4_readsOf 55 = .ok (.iconst 2, 1) := by decide +kernel
theorem dX4_readsOf_56 : decode cX4_readsOf 56 = .ok (.idiv, 1) := by decide +kernel
theorem dX4_readsOf_57 : decode cX4_readsOf 57 = .ok (.ireturn, 1) := by decide +kernel
theorem dX4_readsOf_58 : decode cX4_readsOf 58 = .ok (.bipush 99, 2) := by decide +kernel
theorem dX4_readsOf_60 : decode cX4_readsOf 60 = .ok (.iload 5, 2) := by decide +kernel
theorem dX4_readsOf_62 : decode cX4_readsOf 62 = .ok (.isub, 1) := by decide +kernel
theorem dX4_readsOf_63 : decode cX4_readsOf 63 = .ok (.ireturn, 1) := by decide +kernel
theorem dX4_readsOf_64 : decode cX4_readsOf 64 = .ok (.iload 5, 2) := by decide +kernel
theorem dX4_readsOf_66 : decode cX4_readsOf 66 = .ok (.iconst 5, 1) := by decide +kernel
theorem dX4_readsOf_67 : decode cX4_readsOf 67 = .ok (.iadd, 1) := by decide +kernel
theorem dX4_readsOf_68 : decode cX4_readsOf 68 = .ok (.iload_n 1, 1) := by decide +kernel
theorem dX4_readsOf_69 : decode cX4_readsOf 69 = .ok (.iadd, 1) := by decide +kernel
theorem dX4_readsOf_70 : decode cX4_readsOf 70 = .ok (.iload 4, 2) := by decide +kernel
theorem dX4_readsOf_72 : decode cX4_readsOf 72 = .ok (.bipush 7, 2) := by decide +kernel
theorem dX4_readsOf_74 : decode cX4_readsOf 74 = .ok (.irem, 1) := by decide +kernel
theorem dX4_readsOf_75 : decode cX4_readsOf 75 = .ok (.iadd, 1) := by decide +kernel
theorem dX4_readsOf_76 : decode cX4_readsOf 76 = .ok (.ireturn, 1) := by decide +kernel
theorem dX4_readsOf_77 : decode cX4_readsOf 77 = .ok (.bipush 11, 2) := by decide +kernel
theorem dX4_readsOf_79 : decode cX4_readsOf 79 = .ok (.iload_n 1, 1) := by decide +kernel
theorem dX4_readsOf_80 : decode cX4_readsOf 80 = .ok (.imul, 1) := by decide +kernel
theorem dX4_readsOf_81 : decode cX4_readsOf 81 = .ok (.ireturn, 1) := by decide +kernel
theorem dX4_readsOf_82 : decode cX4_readsOf 82 = .ok (.iload_n 3, 1) := by decide +kernel
theorem dX4_readsOf_83 : decode cX4_readsOf 83 = .ok (.ifCond .ne 10, 3) := by decide +kernel
theorem dX4_readsOf_86 : decode cX4_readsOf 86 = .ok (.bipush 90, 2) := by decide +kernel
theorem dX4_readsOf_88 : decode cX4_readsOf 88 = .ok (.iload_n 1, 1) := by decide +kernel
theorem dX4_readsOf_89 : decode cX4_readsOf 89 = .ok (.isub, 1) := by decide +kernel
theorem dX4_readsOf_90 : decode cX4_readsOf 90 = .ok (.goto 5, 3) := by decide +kernel
theorem dX4_readsOf_93 : decode cX4_readsOf 93 = .ok (.iload 5, 2) := by decide +kernel
theorem dX4_readsOf_95 : decode cX4_readsOf 95 = .ok (.ireturn, 1) := by decide +kernel
theorem dX4_readsOf_96 : decode cX4_readsOf 96 = .ok (.iload 5, 2) := by decide +kernel
theorem dX4_readsOf_98 : decode cX4_readsOf 98 = .ok (.ireturn, 1) := by decide +kernel
theorem dX4_tellsOf_0 : decode cX4_tellsOf 0 = .ok (.iload_n 2, 1) := by decide +kernel
theorem dX4_tellsOf_1 : decode cX4_tellsOf 1 = .ok (.iload_n 1, 1) := by decide +kernel
