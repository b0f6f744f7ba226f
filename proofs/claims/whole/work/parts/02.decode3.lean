theorem dX7_untell_20 : decode cX7_untell 20 = .ok (.ifCond .eq 7, 3) := by decide +kernel
theorem dX7_untell_23 : decode cX7_untell 23 = .ok (.iconst 1, 1) := by decide +kernel
theorem dX7_untell_24 : decode cX7_untell 24 = .ok (.goto 4, 3) := by decide +kernel
theorem dX7_untell_27 : decode cX7_untell 27 = .ok (.iconst 0, 1) := by decide +kernel
theorem dX7_untell_28 : decode cX7_untell 28 = .ok (.istore_n 2, 1) := by decide +kernel
theorem dX7_untell_29 : decode cX7_untell 29 = .ok (.aload_n 0, 1) := by decide +kernel
theorem dX7_untell_30 : decode cX7_untell 30 = .ok (.getfield 7, 3) := by decide +kernel
theorem dX7_untell_33 : decode cX7_untell 33 = .ok (.bipush 48, 2) := by decide +kernel
theorem dX7_untell_35 : decode cX7_untell 35 = .ok (.bipush 125, 2) := by decide +kernel
theorem dX7_untell_37 : decode cX7_untell 37 = .ok (.iload_n 1, 1) := by decide +kernel
theorem dX7_untell_38 : decode cX7_untell 38 = .ok (.imul, 1) := by decide +kernel
theorem dX7_untell_39 : decode cX7_untell 39 = .ok (.iadd, 1) := by decide +kernel
theorem dX7_untell_40 : decode cX7_untell 40 = .ok (.iconst 0, 1) := by decide +kernel
theorem dX7_untell_41 : decode cX7_untell 41 = .ok (.iastore, 1) := by decide +kernel
theorem dX7_untell_42 : decode cX7_untell 42 = .ok (.iload_n 2, 1) := by decide +kernel
theorem dX7_untell_43 : decode cX7_untell 43 = .ok (.ireturn, 1) := by decide +kernel
theorem dX7_joined_0 : decode cX7_joined 0 = .ok (.iload_n 0, 1) := by decide +kernel
theorem dX7_joined_1 : decode cX7_joined 1 = .ok (.tableswitch 217 37 62 #[153, 203, 217, 217, 217, 127, 119, 217, 123, 217, 131, 217, 217, 217, 217, 217, 217, 217, 217, 217, 217, 217, 217, 170, 192, 181], 119) := by decide +kernel
theorem dX7_joined_120 : decode cX7_joined 120 = .ok (.iload_n 1, 1) := by decide +kernel
theorem dX7_joined_121 : decode cX7_joined 121 = .ok (.iload_n 2, 1) := by decide +kernel
theorem dX7_joined_122 : decode cX7_joined 122 = .ok (.iadd, 1) := by decide +kernel
theorem dX7_joined_123 : decode cX7_joined 123 = .ok (.ireturn, 1) := by decide +kernel
theorem dX7_joined_124 : decode cX7_joined 124 = .ok (.iload_n 1, 1) := by decide +kernel
theorem dX7_joined_125 : decode cX7_joined 125 = .ok (.iload_n 2, 1) := by decide +kernel
theorem dX7_joined_126 : decode cX7_joined 126 = .ok (.isub, 1) := by decide +kernel
theorem dX7_joined_127 : decode cX7_joined 127 = .ok (.ireturn, 1) := by decide +kernel
theorem dX7_joined_128 : decode cX7_joined 128 = .ok (.iload_n 1, 1) := by decide +kernel
theorem dX7_joined_129 : decode cX7_joined 129 = .ok (.iload_n 2, 1) := by decide +kernel
theorem dX7_joined_130 : decode cX7_joined 130 = .ok (.imul, 1) := by decide +kernel
theorem dX7_joined_131 : decode cX7_joined 131 = .ok (.ireturn, 1) := by decide +kernel
theorem dX7_joined_132 : decode cX7_joined 132 = .ok (.iload_n 2, 1) := by decide +kernel
theorem dX7_joined_133 : decode cX7_joined 133 = .ok (.ifCond .ne 7, 3) := by decide +kernel
theorem dX7_joined_136 : decode cX7_joined 136 = .ok (.iconst 0, 1) := by decide +kernel
theorem dX7_joined_137 : decode cX7_joined 137 = .ok (.goto 16, 3) := by decide +kernel
theorem dX7_joined_140 : decode cX7_joined 140 = .ok (.iload_n 2, 1) := by decide +kernel
theorem dX7_joined_141 : decode cX7_joined 141 = .ok (.iconst (-1), 1) := by decide +kernel
theorem dX7_joined_142 : decode cX7_joined 142 = .ok (.if_icmp .ne 8, 3) := by decide +kernel
theorem dX7_joined_145 : decode cX7_joined 145 = .ok (.iload_n 1, 1) := by decide +kernel
theorem dX7_joined_146 : decode cX7_joined 146 = .ok (.ineg, 1) := by decide +kernel
theorem dX7_joined_147 : decode cX7_joined 147 = .ok (.goto 6, 3) := by decide +kernel
theorem dX7_joined_150 : decode cX7_joined 150 = .ok (.iload_n 1, 1) := by decide +kernel
theorem dX7_joined_151 : decode cX7_joined 151 = .ok (.iload_n 2, 1) := by decide +kernel
theorem dX7_joined_152 : decode cX7_joined 152 = .ok (.idiv, 1) := by decide +kernel
theorem dX7_joined_153 : decode cX7_joined 153 = .ok (.ireturn, 1) := by decide +kernel
theorem dX7_joined_154 : decode cX7_joined 154 = .ok (.iload_n 2, 1) := by decide +kernel
theorem dX7_joined_155 : decode cX7_joined 155 = .ok (.ifCond .eq 8, 3) := by decide +kernel
theorem dX7_joined_158 : decode cX7_joined 158 = .ok (.iload_n 2, 1) := by decide +kernel
theorem dX7_joined_159 : decode cX7_joined 159 = .ok (.iconst (-1), 1) := by decide +kernel
theorem dX7_joined_160 : decode cX7_joined 160 = .ok (.if_icmp .ne 7, 3) := by decide +kernel
theorem dX7_joined_163 : decode cX7_joined 163 = .ok (.iconst 0, 1) := by decide +kernel
theorem dX7_joined_164 : decode cX7_joined 164 = .ok (.goto 6, 3) := by decide +kernel
theorem dX7_joined_167 : decode cX7_joined 167 = .ok (.iload_n 1, 1) := by decide +kernel
theorem dX7_joined_168 : decode cX7_joined 168 = .ok (.iload_n 2, 1) := by decide +kernel
theorem dX7_joined_169 : decode cX7_joined 169 = .ok (.irem, 1) := by decide +kernel
theorem dX7_joined_170 : decode cX7_joined 170 = .ok (.ireturn, 1) := by decide +kernel
theorem dX7_joined_171 : decode cX7_joined 171 = .ok (.iload_n 1, 1) := by decide +kernel
theorem dX7_joined_172 : decode cX7_joined 172 = .ok (.iload_n 2, 1) := by decide +kernel
theorem dX7_joined_173 : decode cX7_joined 173 = .ok (.if_icmp .ge 7, 3) := by decide +kernel
theorem dX7_joined_176 : decode cX7_joined 176 = .ok (.iconst 1, 1) := by decide +kernel
theorem dX7_joined_177 : decode cX7_joined 177 = .ok (.goto 4, 3) := by decide +kernel
theorem dX7_joined_180 : decode cX7_joined 180 = .ok (.iconst 0, 1) := by decide +kernel
theorem dX7_joined_181 : decode cX7_joined 181 = .ok (.ireturn, 1) := by decide +kernel
theorem dX7_joined_182 : decode cX7_joined 182 = .ok (.iload_n 1, 1) := by decide +kernel
theorem dX7_joined_183 : decode cX7_joined 183 = .ok (.iload_n 2, 1) := by decide +kernel
theorem dX7_joined_184 : decode cX7_joined 184 = .ok (.if_icmp .le 7, 3) := by decide +kernel
theorem dX7_joined_187 : decode cX7_joined 187 = .ok (.iconst 1, 1) := by decide +kernel
theorem dX7_joined_188 : decode cX7_joined 188 = .ok (.goto 4, 3) := by decide +kernel
theorem dX7_joined_191 : decode cX7_joined 191 = .ok (.iconst 0, 1) := by decide +kernel
theorem dX7_joined_192 : decode cX7_joined 192 = .ok (.ireturn, 1) := by decide +kernel
theorem dX7_joined_193 : decode cX7_joined 193 = .ok (.iload_n 1, 1) := by decide +kernel
theorem dX7_joined_194 : decode cX7_joined 194 = .ok (.iload_n 2, 1) := by decide +kernel
theorem dX7_joined_195 : decode cX7_joined 195 = .ok (.if_icmp .ne 7, 3) := by decide +kernel
theorem dX7_joined_198 : decode cX7_joined 198 = .ok (.iconst 1, 1) := by decide +kernel
theorem dX7_joined_199 : decode cX7_joined 199 = .ok (.goto 4, 3) := by decide +kernel
theorem dX7_joined_202 : decode cX7_joined 202 = .ok (.iconst 0, 1) := by decide +kernel
theorem dX7_joined_203 : decode cX7_joined 203 = .ok (.ireturn, 1) := by decide +kernel
theorem dX7_joined_204 : decode cX7_joined 204 = .ok (.iload_n 1, 1) := by decide +kernel
theorem dX7_joined_205 : decode cX7_joined 205 = .ok (.ifCond .eq 11, 3) := by decide +kernel
theorem dX7_joined_208 : decode cX7_joined 208 = .ok (.iload_n 2, 1) := by decide +kernel
theorem dX7_joined_209 : decode cX7_joined 209 = .ok (.ifCond .eq 7, 3) := by decide +kernel
theorem dX7_joined_212 : decode cX7_joined 212 = .ok (.iconst 1, 1) := by decide +kernel
theorem dX7_joined_213 : decode cX7_joined 213 = .ok (.goto 4, 3) := by decide +kernel
theorem dX7_joined_216 : decode cX7_joined 216 = .ok (.iconst 0, 1) := by decide +kernel
theorem dX7_joined_217 : decode cX7_joined 217 = .ok (.ireturn, 1) := by decide +kernel
theorem dX7_joined_218 : decode cX7_joined 218 = .ok (.iload_n 1, 1) := by decide +kernel
theorem dX7_joined_219 : decode cX7_joined 219 = .ok (.ifCond .ne 7, 3) := by decide +kernel
theorem dX7_joined_222 : decode cX7_joined 222 = .ok (.iload_n 2, 1) := by decide +kernel
theorem dX7_joined_223 : decode cX7_joined 223 = .ok (.ifCond .eq 7, 3) := by decide +kernel
theorem dX7_joined_226 : decode cX7_joined 226 = .ok (.iconst 1, 1) := by decide +kernel
theorem dX7_joined_227 : decode cX7_joined 227 = .ok (.goto 4, 3) := by decide +kernel
theorem dX7_joined_230 : decode cX7_joined 230 = .ok (.iconst 0, 1) := by decide +kernel
theorem dX7_joined_231 : decode cX7_joined 231 = .ok (.ireturn, 1) := by decide +kernel
theorem dX7_worked_0 : decode cX7_worked 0 = .ok (.bipush 48, 2) := by decide +kernel
theorem dX7_worked_2 : decode cX7_worked 2 = .ok (.bipush 125, 2) := by decide +kernel
theorem dX7_worked_4 : decode cX7_worked 4 = .ok (.iload_n 1, 1) := by decide +kernel
theorem dX7_worked_5 : decode cX7_worked 5 = .ok (.imul, 1) := by decide +kernel
theorem dX7_worked_6 : decode cX7_worked 6 = .ok (.iadd, 1) := by decide +kernel
theorem dX7_worked_7 : decode cX7_worked 7 = .ok (.istore_n 2, 1) := by decide +kernel
theorem dX7_worked_8 : decode cX7_worked 8 = .ok (.iconst 0, 1) := by decide +kernel
theorem dX7_worked_9 : decode cX7_worked 9 = .ok (.istore_n 3, 1) := by decide +kernel
theorem dX7_worked_10 : decode cX7_worked 10 = .ok (.iconst 0, 1) := by decide +kernel
theorem dX7_worked_11 : decode cX7_worked 11 = .ok (.istore 4, 2) := by decide +kernel
theorem dX7_worked_13 : decode cX7_worked 13 = .ok (.iload 4, 2) := by decide +kernel
theorem dX7_worked_15 : decode cX7_worked 15 = .ok (.aload_n 0, 1) := by decide +kernel
theorem dX7_worked_16 : decode cX7_worked 16 = .ok (.getfield 7, 3) := by decide +kernel
theorem dX7_worked_19 : decode cX7_worked 19 = .ok (.iload_n 2, 1) := by decide +kernel
theorem dX7_worked_20 : decode cX7_worked 20 = .ok (.iaload, 1) := by decide +kernel
theorem dX7_worked_21 : decode cX7_worked 21 = .ok (.if_icmp .ge 142, 3) := by decide +kernel
theorem dX7_worked_24 : decode cX7_worked 24 = .ok (.aload_n 0, 1) := by decide +kernel
theorem dX7_worked_25 : decode cX7_worked 25 = .ok (.getfield 7, 3) := by decide +kernel
theorem dX7_worked_28 : decode cX7_worked 28 = .ok (.iload_n 2, 1) := by decide +kernel
theorem dX7_worked_29 : decode cX7_worked 29 = .ok (.iconst 1, 1) := by decide +kernel
theorem dX7_worked_30 : decode cX7_worked 30 = .ok (.iadd, 1) := by decide +kernel
theorem dX7_worked_31 : decode cX7_worked 31 = .ok (.iconst 2, 1) := by decide +kernel
theorem dX7_worked_32 : decode cX7_worked 32 = .ok (.iload 4, 2) := by decide +kernel
theorem dX7_worked_34 : decode cX7_worked 34 = .ok (.imul, 1) := by decide +kernel
theorem dX7_worked_35 : decode cX7_worked 35 = .ok (.iadd, 1) := by decide +kernel
theorem dX7_worked_36 : decode cX7_worked 36 = .ok (.iaload, 1) := by decide +kernel
theorem dX7_worked_37 : decode cX7_worked 37 = .ok (.istore 5, 2) := by decide +kernel
theorem dX7_worked_39 : decode cX7_worked 39 = .ok (.aload_n 0, 1) := by decide +kernel
theorem dX7_worked_40 : decode cX7_worked 40 = .ok (.getfield 7, 3) := by decide +kernel
theorem dX7_worked_43 : decode cX7_worked 43 = .ok (.iload_n 2, 1) := by decide +kernel
theorem dX7_worked_44 : decode cX7_worked 44 = .ok (.iconst 2, 1) := by decide +kernel
theorem dX7_worked_45 : decode cX7_worked 45 = .ok (.iadd, 1) := by decide +kernel
theorem dX7_worked_46 : decode cX7_worked 46 = .ok (.iconst 2, 1) := by decide +kernel
theorem dX7_worked_47 : decode cX7_worked 47 = .ok (.iload 4, 2) := by decide +kernel
theorem dX7_worked_49 : decode cX7_worked 49 = .ok (.imul, 1) := by decide +kernel
theorem dX7_worked_50 : decode cX7_worked 50 = .ok (.iadd, 1) := by decide +kernel
theorem dX7_worked_51 : decode cX7_worked 51 = .ok (.iaload, 1) := by decide +kernel
theorem dX7_worked_52 : decode cX7_worked 52 = .ok (.istore 6, 2) := by decide +kernel
theorem dX7_worked_54 : decode cX7_worked 54 = .ok (.iload 5, 2) := by decide +kernel
theorem dX7_worked_56 : decode cX7_worked 56 = .ok (.ifCond .eq 9, 3) := by decide +kernel
theorem dX7_worked_59 : decode cX7_worked 59 = .ok (.iload 5, 2) := by decide +kernel
theorem dX7_worked_61 : decode cX7_worked 61 = .ok (.iconst 1, 1) := by decide +kernel
theorem dX7_worked_62 : decode cX7_worked 62 = .ok (.if_icmp .ne 32, 3) := by decide +kernel
theorem dX7_worked_65 : decode cX7_worked 65 = .ok (.aload_n 0, 1) := by decide +kernel
theorem dX7_worked_66 : decode cX7_worked 66 = .ok (.getfield 28, 3) := by decide +kernel
theorem dX7_worked_69 : decode cX7_worked 69 = .ok (.iload_n 3, 1) := by decide +kernel
theorem dX7_worked_70 : decode cX7_worked 70 = .ok (.iload 5, 2) := by decide +kernel
theorem dX7_worked_72 : decode cX7_worked 72 = .ok (.ifCond .ne 8, 3) := by decide +kernel
theorem dX7_worked_75 : decode cX7_worked 75 = .ok (.iload 6, 2) := by decide +kernel
theorem dX7_worked_77 : decode cX7_worked 77 = .ok (.goto 10, 3) := by decide +kernel
theorem dX7_worked_80 : decode cX7_worked 80 = .ok (.aload_n 0, 1) := by decide +kernel
theorem dX7_worked_81 : decode cX7_worked 81 = .ok (.getfield 25, 3) := by decide +kernel
theorem dX7_worked_84 : decode cX7_worked 84 = .ok (.iload 6, 2) := by decide +kernel
theorem dX7_worked_86 : decode cX7_worked 86 = .ok (.iaload, 1) := by decide +kernel
theorem dX7_worked_87 : decode cX7_worked 87 = .ok (.iastore, 1) := by decide +kernel
theorem dX7_worked_88 : decode cX7_worked 88 = .ok (.iinc 3 1, 3) := by decide +kernel
theorem dX7_worked_91 : decode cX7_worked 91 = .ok (.goto 66, 3) := by decide +kernel
theorem dX7_worked_94 : decode cX7_worked 94 = .ok (.iload 5, 2) := by decide +kernel
theorem dX7_worked_96 : decode cX7_worked 96 = .ok (.iconst 2, 1) := by decide +kernel
theorem dX7_worked_97 : decode cX7_worked 97 = .ok (.if_icmp .ne 30, 3) := by decide +kernel
theorem dX7_worked_100 : decode cX7_worked 100 = .ok (.aload_n 0, 1) := by decide +kernel
theorem dX7_worked_101 : decode cX7_worked 101 = .ok (.getfield 28, 3) := by decide +kernel
theorem dX7_worked_104 : decode cX7_worked 104 = .ok (.iload_n 3, 1) := by decide +kernel
theorem dX7_worked_105 : decode cX7_worked 105 = .ok (.iconst 1, 1) := by decide +kernel
theorem dX7_worked_106 : decode cX7_worked 106 = .ok (.isub, 1) := by decide +kernel
theorem dX7_worked_107 : decode cX7_worked 107 = .ok (.aload_n 0, 1) := by decide +kernel
theorem dX7_worked_108 : decode cX7_worked 108 = .ok (.getfield 28, 3) := by decide +kernel
theorem dX7_worked_111 : decode cX7_worked 111 = .ok (.iload_n 3, 1) := by decide +kernel
theorem dX7_worked_112 : decode cX7_worked 112 = .ok (.iconst 1, 1) := by decide +kernel
theorem dX7_worked_113 : decode cX7_worked 113 = .ok (.isub, 1) := by decide +kernel
theorem dX7_worked_114 : decode cX7_worked 114 = .ok (.iaload, 1) := by decide +kernel
theorem dX7_worked_115 : decode cX7_worked 115 = .ok (.ifCond .ne 7, 3) := by decide +kernel
theorem dX7_worked_118 : decode cX7_worked 118 = .ok (.iconst 1, 1) := by decide +kernel
theorem dX7_worked_119 : decode cX7_worked 119 = .ok (.goto 4, 3) := by decide +kernel
theorem dX7_worked_122 : decode cX7_worked 122 = .ok (.iconst 0, 1) := by decide +kernel
theorem dX7_worked_123 : decode cX7_worked 123 = .ok (.iastore, 1) := by decide +kernel
theorem dX7_worked_124 : decode cX7_worked 124 = .ok (.goto 33, 3) := by decide +kernel
theorem dX7_worked_127 : decode cX7_worked 127 = .ok (.iinc 3 (-1), 3) := by decide +kernel
theorem dX7_worked_130 : decode cX7_worked 130 = .ok (.aload_n 0, 1) := by decide +kernel
theorem dX7_worked_131 : decode cX7_worked 131 = .ok (.getfield 28, 3) := by decide +kernel
theorem dX7_worked_134 : decode cX7_worked 134 = .ok (.iload_n 3, 1) := by decide +kernel
theorem dX7_worked_135 : decode cX7_worked 135 = .ok (.iconst 1, 1) := by decide +kernel
theorem dX7_worked_136 : decode cX7_worked 136 = .ok (.isub, 1) := by decide +kernel
theorem dX7_worked_137 : decode cX7_worked 137 = .ok (.iload 6, 2) := by decide +kernel
theorem dX7_worked_139 : decode cX7_worked 139 = .ok (.aload_n 0, 1) := by decide +kernel
theorem dX7_worked_140 : decode cX7_worked 140 = .ok (.getfield 28, 3) := by decide +kernel
theorem dX7_worked_143 : decode cX7_worked 143 = .ok (.iload_n 3, 1) := by decide +kernel
theorem dX7_worked_144 : decode cX7_worked 144 = .ok (.iconst 1, 1) := by decide +kernel
theorem dX7_worked_145 : decode cX7_worked 145 = .ok (.isub, 1) := by decide +kernel
theorem dX7_worked_146 : decode cX7_worked 146 = .ok (.iaload, 1) := by decide +kernel
theorem dX7_worked_147 : decode cX7_worked 147 = .ok (.aload_n 0, 1) := by decide +kernel
theorem dX7_worked_148 : decode cX7_worked 148 = .ok (.getfield 28, 3) := by decide +kernel
theorem dX7_worked_151 : decode cX7_worked 151 = .ok (.iload_n 3, 1) := by decide +kernel
theorem dX7_worked_152 : decode cX7_worked 152 = .ok (.iaload, 1) := by decide +kernel
theorem dX7_worked_153 : decode cX7_worked 153 = .ok (.invokestatic 116, 3) := by decide +kernel
theorem dX7_worked_156 : decode cX7_worked 156 = .ok (.iastore, 1) := by decide +kernel
theorem dX7_worked_157 : decode cX7_worked 157 = .ok (.iinc 4 1, 3) := by decide +kernel
theorem dX7_worked_160 : decode cX7_worked 160 = .ok (.goto (-147), 3) := by decide +kernel
theorem dX7_worked_163 : decode cX7_worked 163 = .ok (.aload_n 0, 1) := by decide +kernel
theorem dX7_worked_164 : decode cX7_worked 164 = .ok (.getfield 28, 3) := by decide +kernel
theorem dX7_worked_167 : decode cX7_worked 167 = .ok (.iconst 0, 1) := by decide +kernel
theorem dX7_worked_168 : decode cX7_worked 168 = .ok (.iaload, 1) := by decide +kernel
theorem dX7_worked_169 : decode cX7_worked 169 = .ok (.ireturn, 1) := by decide +kernel
theorem dX7_readsOf_0 : decode cX7_readsOf 0 = .ok (.bipush 10, 2) := by decide +kernel
theorem dX7_readsOf_2 : decode cX7_readsOf 2 = .ok (.aload_n 0, 1) := by decide +kernel
theorem dX7_readsOf_3 : decode cX7_readsOf 3 = .ok (.iload_n 2, 1) := by decide +kernel
theorem dX7_readsOf_4 : decode cX7_readsOf 4 = .ok (.iconst 3, 1) := by decide +kernel
theorem dX7_readsOf_5 : decode cX7_readsOf 5 = .ok (.invokevirtual 120, 3) := by decide +kernel
theorem dX7_readsOf_8 : decode cX7_readsOf 8 = .ok (.imul, 1) := by decide +kernel
theorem dX7_readsOf_9 : decode cX7_readsOf 9 = .ok (.istore_n 3, 1) := by decide +kernel
theorem dX7_readsOf_10 : decode cX7_readsOf 10 = .ok (.aload_n 0, 1) := by decide +kernel
theorem dX7_readsOf_11 : decode cX7_readsOf 11 = .ok (.iload_n 1, 1) := by decide +kernel
theorem dX7_readsOf_12 : decode cX7_readsOf 12 = .ok (.iconst 1, 1) := by decide +kernel
theorem dX7_readsOf_13 : decode cX7_readsOf 13 = .ok (.invokevirtual 120, 3) := by decide +kernel
theorem dX7_readsOf_16 : decode cX7_readsOf 16 = .ok (.istore 4, 2) := by decide +kernel
theorem dX7_readsOf_18 : decode cX7_readsOf 18 = .ok (.aload_n 0, 1) := by decide +kernel
theorem dX7_readsOf_19 : decode cX7_readsOf 19 = .ok (.iload_n 1, 1) := by decide +kernel
theorem dX7_readsOf_20 : decode cX7_readsOf 20 = .ok (.iconst 0, 1) := by decide +kernel
theorem dX7_readsOf_21 : decode cX7_readsOf 21 = .ok (.invokevirtual 120, 3) := by decide +kernel
theorem dX7_readsOf_24 : decode cX7_readsOf 24 = .ok (.tableswitch 105 1 6 #[40, 47, 58, 63, 80, 86], 40) := by decide +kernel
theorem dX7_readsOf_64 : decode cX7_readsOf 64 = .ok (.iload_n 3, 1) := by decide +kernel
theorem dX7_readsOf_65 : decode cX7_readsOf 65 = .ok (.iconst 5, 1) := by decide +kernel
theorem dX7_readsOf_66 : decode cX7_readsOf 66 = .ok (.iadd, 1) := by decide +kernel
theorem dX7_readsOf_67 : decode cX7_readsOf 67 = .ok (.iload 4, 2) := by decide +kernel
theorem dX7_readsOf_69 : decode cX7_readsOf 69 = .ok (.iadd, 1) := by decide +kernel
theorem dX7_readsOf_70 : decode cX7_readsOf 70 = .ok (.ireturn, 1) := by decide +kernel
theorem dX7_readsOf_71 : decode cX7_readsOf 71 = .ok (.iload_n 3, 1) := by decide +kernel
theorem dX7_readsOf_72 : decode cX7_readsOf 72 = .ok (.aload_n 0, 1) := by decide +kernel
theorem dX7_readsOf_73 : decode cX7_readsOf 73 = .ok (.iload_n 2, 1) := by decide +kernel
theorem dX7_readsOf_74 : decode cX7_readsOf 74 = .ok (.iconst 2, 1) := by decide +kernel
theorem dX7_readsOf_75 : decode cX7_readsOf 75 = .ok (.invokevirtual 120, 3) := by decide +kernel
theorem dX7_readsOf_78 : decode cX7_readsOf 78 = .ok (.iadd, 1) := by decide +kernel
theorem dX7_readsOf_79 : decode cX7_readsOf 79 = .ok (.iconst 2, 1) := by decide +kernel
theorem dX7_readsOf_80 : decode cX7_readsOf 80 = .ok (.idiv, 1) := by decide +kernel
theorem dX7_readsOf_81 : decode cX7_readsOf 81 = .ok (.ireturn, 1) := by decide +kernel
theorem dX7_readsOf_82 : decode cX7_readsOf 82 = .ok (.bipush 99, 2) := by decide +kernel
theorem dX7_readsOf_84 : decode cX7_readsOf 84 = .ok (.iload_n 3, 1) := by decide +kernel
theorem dX7_readsOf_85 : decode cX7_readsOf 85 = .ok (.isub, 1) := by decide +kernel
theorem dX7_readsOf_86 : decode cX7_readsOf 86 = .ok (.ireturn, 1) := by decide +kernel
theorem dX7_readsOf_87 : decode cX7_readsOf 87 = .ok (.iload_n 3, 1) := by decide +kernel
theorem dX7_readsOf_88 : decode cX7_readsOf 88 = .ok (.iconst 5, 1) := by decide +kernel
theorem dX7_readsOf_89 : decode cX7_readsOf 89 = .ok (.iadd, 1) := by decide +kernel
theorem dX7_readsOf_90 : decode cX7_readsOf 90 = .ok (.iload 4, 2) := by decide +kernel
theorem dX7_readsOf_92 : decode cX7_readsOf 92 = .ok (.iadd, 1) := by decide +kernel
theorem dX7_readsOf_93 : decode cX7_readsOf 93 = .ok (.aload_n 0, 1) := by decide +kernel
theorem dX7_readsOf_94 : decode cX7_readsOf 94 = .ok (.getfield 7, 3) := by decide +kernel
theorem dX7_readsOf_97 : decode cX7_readsOf 97 = .ok (.iconst 0, 1) := by decide +kernel
theorem dX7_readsOf_98 : decode cX7_readsOf 98 = .ok (.iaload, 1) := by decide +kernel
theorem dX7_readsOf_99 : decode cX7_readsOf 99 = .ok (.bipush 7, 2) := by decide +kernel
theorem dX7_readsOf_101 : decode cX7_readsOf 101 = .ok (.irem, 1) := by decide +kernel
theorem dX7_readsOf_102 : decode cX7_readsOf 102 = .ok (.iadd, 1) := by decide +kernel
theorem dX7_readsOf_103 : decode cX7_readsOf 103 = .ok (.ireturn, 1) := by decide +kernel
theorem dX7_readsOf_104 : decode cX7_readsOf 104 = .ok (.bipush 11, 2) := by decide +kernel
theorem dX7_readsOf_106 : decode cX7_readsOf 106 = .ok (.iload 4, 2) := by decide +kernel
theorem dX7_readsOf_108 : decode cX7_readsOf 108 = .ok (.imul, 1) := by decide +kernel
theorem dX7_readsOf_109 : decode cX7_readsOf 109 = .ok (.ireturn, 1) := by decide +kernel
theorem dX7_readsOf_110 : decode cX7_readsOf 110 = .ok (.aload_n 0, 1) := by decide +kernel
theorem dX7_readsOf_111 : decode cX7_readsOf 111 = .ok (.iload_n 2, 1) := by decide +kernel
theorem dX7_readsOf_112 : decode cX7_readsOf 112 = .ok (.iconst 3, 1) := by decide +kernel
theorem dX7_readsOf_113 : decode cX7_readsOf 113 = .ok (.invokevirtual 120, 3) := by decide +kernel
theorem dX7_readsOf_116 : decode cX7_readsOf 116 = .ok (.ifCond .ne 11, 3) := by decide +kernel
theorem dX7_readsOf_119 : decode cX7_readsOf 119 = .ok (.bipush 90, 2) := by decide +kernel
theorem dX7_readsOf_121 : decode cX7_readsOf 121 = .ok (.iload 4, 2) := by decide +kernel
theorem dX7_readsOf_123 : decode cX7_readsOf 123 = .ok (.isub, 1) := by decide +kernel
theorem dX7_readsOf_124 : decode cX7_readsOf 124 = .ok (.goto 4, 3) := by decide +kernel
theorem dX7_readsOf_127 : decode cX7_readsOf 127 = .ok (.iload_n 3, 1) := by decide +kernel
theorem dX7_readsOf_128 : decode cX7_readsOf 128 = .ok (.ireturn, 1) := by decide +kernel
theorem dX7_readsOf_129 : decode cX7_readsOf 129 = .ok (.iload_n 3, 1) := by decide +kernel
theorem dX7_readsOf_130 : decode cX7_readsOf 130 = .ok (.ireturn, 1) := by decide +kernel
theorem dX7_tellsOf_0 : decode cX7_tellsOf 0 = .ok (.aload_n 0, 1) := by decide +kernel
theorem dX7_tellsOf_1 : decode cX7_tellsOf 1 = .ok (.iload_n 1, 1) := by decide +kernel
theorem dX7_tellsOf_2 : decode cX7_tellsOf 2 = .ok (.iconst 3, 1) := by decide +kernel
theorem dX7_tellsOf_3 : decode cX7_tellsOf 3 = .ok (.invokevirtual 120, 3) := by decide +kernel
theorem dX7_tellsOf_6 : decode cX7_tellsOf 6 = .ok (.istore_n 2, 1) := by decide +kernel
theorem dX7_tellsOf_7 : decode cX7_tellsOf 7 = .ok (.aload_n 0, 1) := by decide +kernel
theorem dX7_tellsOf_8 : decode cX7_tellsOf 8 = .ok (.iload_n 1, 1) := by decide +kernel
theorem dX7_tellsOf_9 : decode cX7_tellsOf 9 = .ok (.iconst 2, 1) := by decide +kernel
theorem dX7_tellsOf_10 : decode cX7_tellsOf 10 = .ok (.invokevirtual 120, 3) := by decide +kernel
theorem dX7_tellsOf_13 : decode cX7_tellsOf 13 = .ok (.bipush 50, 2) := by decide +kernel
theorem dX7_tellsOf_15 : decode cX7_tellsOf 15 = .ok (.if_icmp .le 7, 3) := by decide +kernel
theorem dX7_tellsOf_18 : decode cX7_tellsOf 18 = .ok (.iconst 1, 1) := by decide +kernel
theorem dX7_tellsOf_19 : decode cX7_tellsOf 19 = .ok (.goto 4, 3) := by decide +kernel
theorem dX7_tellsOf_22 : decode cX7_tellsOf 22 = .ok (.iconst 0, 1) := by decide +kernel
theorem dX7_tellsOf_23 : decode cX7_tellsOf 23 = .ok (.istore_n 3, 1) := by decide +kernel
theorem dX7_tellsOf_24 : decode cX7_tellsOf 24 = .ok (.aload_n 0, 1) := by decide +kernel
theorem dX7_tellsOf_25 : decode cX7_tellsOf 25 = .ok (.iload_n 1, 1) := by decide +kernel
theorem dX7_tellsOf_26 : decode cX7_tellsOf 26 = .ok (.iconst 0, 1) := by decide +kernel
theorem dX7_tellsOf_27 : decode cX7_tellsOf 27 = .ok (.invokevirtual 120, 3) := by decide +kernel
theorem dX7_tellsOf_30 : decode cX7_tellsOf 30 = .ok (.tableswitch 79 1 6 #[38, 42, 79, 46, 67, 77], 38) := by decide +kernel
theorem dX7_tellsOf_68 : decode cX7_tellsOf 68 = .ok (.iload_n 2, 1) := by decide +kernel
theorem dX7_tellsOf_69 : decode cX7_tellsOf 69 = .ok (.iload_n 3, 1) := by decide +kernel
theorem dX7_tellsOf_70 : decode cX7_tellsOf 70 = .ok (.iadd, 1) := by decide +kernel
theorem dX7_tellsOf_71 : decode cX7_tellsOf 71 = .ok (.ireturn, 1) := by decide +kernel
theorem dX7_tellsOf_72 : decode cX7_tellsOf 72 = .ok (.iload_n 2, 1) := by decide +kernel
theorem dX7_tellsOf_73 : decode cX7_tellsOf 73 = .ok (.iconst 1, 1) := by decide +kernel
theorem dX7_tellsOf_74 : decode cX7_tellsOf 74 = .ok (.isub, 1) := by decide +kernel
theorem dX7_tellsOf_75 : decode cX7_tellsOf 75 = .ok (.ireturn, 1) := by decide +kernel
theorem dX7_tellsOf_76 : decode cX7_tellsOf 76 = .ok (.iload_n 2, 1) := by decide +kernel
theorem dX7_tellsOf_77 : decode cX7_tellsOf 77 = .ok (.iload_n 3, 1) := by decide +kernel
theorem dX7_tellsOf_78 : decode cX7_tellsOf 78 = .ok (.iadd, 1) := by decide +kernel
theorem dX7_tellsOf_79 : decode cX7_tellsOf 79 = .ok (.aload_n 0, 1) := by decide +kernel
theorem dX7_tellsOf_80 : decode cX7_tellsOf 80 = .ok (.getfield 7, 3) := by decide +kernel
theorem dX7_tellsOf_83 : decode cX7_tellsOf 83 = .ok (.iconst 0, 1) := by decide +kernel
theorem dX7_tellsOf_84 : decode cX7_tellsOf 84 = .ok (.iaload, 1) := by decide +kernel
theorem dX7_tellsOf_85 : decode cX7_tellsOf 85 = .ok (.iconst 3, 1) := by decide +kernel
theorem dX7_tellsOf_86 : decode cX7_tellsOf 86 = .ok (.irem, 1) := by decide +kernel
theorem dX7_tellsOf_87 : decode cX7_tellsOf 87 = .ok (.ifCond .ne 7, 3) := by decide +kernel
theorem dX7_tellsOf_90 : decode cX7_tellsOf 90 = .ok (.iconst 1, 1) := by decide +kernel
theorem dX7_tellsOf_91 : decode cX7_tellsOf 91 = .ok (.goto 4, 3) := by decide +kernel
theorem dX7_tellsOf_94 : decode cX7_tellsOf 94 = .ok (.iconst 0, 1) := by decide +kernel
theorem dX7_tellsOf_95 : decode cX7_tellsOf 95 = .ok (.iadd, 1) := by decide +kernel
theorem dX7_tellsOf_96 : decode cX7_tellsOf 96 = .ok (.ireturn, 1) := by decide +kernel
theorem dX7_tellsOf_97 : decode cX7_tellsOf 97 = .ok (.aload_n 0, 1) := by decide +kernel
theorem dX7_tellsOf_98 : decode cX7_tellsOf 98 = .ok (.iload_n 1, 1) := by decide +kernel
theorem dX7_tellsOf_99 : decode cX7_tellsOf 99 = .ok (.iconst 2, 1) := by decide +kernel
theorem dX7_tellsOf_100 : decode cX7_tellsOf 100 = .ok (.invokevirtual 120, 3) := by decide +kernel
theorem dX7_tellsOf_103 : decode cX7_tellsOf 103 = .ok (.bipush 10, 2) := by decide +kernel
theorem dX7_tellsOf_105 : decode cX7_tellsOf 105 = .ok (.idiv, 1) := by decide +kernel
theorem dX7_tellsOf_106 : decode cX7_tellsOf 106 = .ok (.ireturn, 1) := by decide +kernel
theorem dX7_tellsOf_107 : decode cX7_tellsOf 107 = .ok (.iconst 0, 1) := by decide +kernel
theorem dX7_tellsOf_108 : decode cX7_tellsOf 108 = .ok (.ireturn, 1) := by decide +kernel
theorem dX7_tellsOf_109 : decode cX7_tellsOf 109 = .ok (.iload_n 2, 1) := by decide +kernel
theorem dX7_tellsOf_110 : decode cX7_tellsOf 110 = .ok (.ireturn, 1) := by decide +kernel
theorem dX7_takesTold_0 : decode cX7_takesTold 0 = .ok (.aload_n 0, 1) := by decide +kernel
theorem dX7_takesTold_1 : decode cX7_takesTold 1 = .ok (.getfield 25, 3) := by decide +kernel
theorem dX7_takesTold_4 : decode cX7_takesTold 4 = .ok (.bipush 114, 2) := by decide +kernel
theorem dX7_takesTold_6 : decode cX7_takesTold 6 = .ok (.iload_n 1, 1) := by decide +kernel
theorem dX7_takesTold_7 : decode cX7_takesTold 7 = .ok (.iastore, 1) := by decide +kernel
theorem dX7_takesTold_8 : decode cX7_takesTold 8 = .ok (.aload_n 0, 1) := by decide +kernel
theorem dX7_takesTold_9 : decode cX7_takesTold 9 = .ok (.getfield 25, 3) := by decide +kernel
theorem dX7_takesTold_12 : decode cX7_takesTold 12 = .ok (.bipush 110, 2) := by decide +kernel
theorem dX7_takesTold_14 : decode cX7_takesTold 14 = .ok (.iload_n 2, 1) := by decide +kernel
theorem dX7_takesTold_15 : decode cX7_takesTold 15 = .ok (.iastore, 1) := by decide +kernel
theorem dX7_takesTold_16 : decode cX7_takesTold 16 = .ok (.aload_n 0, 1) := by decide +kernel
theorem dX7_takesTold_17 : decode cX7_takesTold 17 = .ok (.getfield 25, 3) := by decide +kernel
theorem dX7_takesTold_20 : decode cX7_takesTold 20 = .ok (.bipush 115, 2) := by decide +kernel
theorem dX7_takesTold_22 : decode cX7_takesTold 22 = .ok (.iload_n 3, 1) := by decide +kernel
theorem dX7_takesTold_23 : decode cX7_takesTold 23 = .ok (.iastore, 1) := by decide +kernel
theorem dX7_takesTold_24 : decode cX7_takesTold 24 = .ok (.aload_n 0, 1) := by decide +kernel
theorem dX7_takesTold_25 : decode cX7_takesTold 25 = .ok (.iconst 0, 1) := by decide +kernel
theorem dX7_takesTold_26 : decode cX7_takesTold 26 = .ok (.invokevirtual 113, 3) := by decide +kernel
theorem dX7_takesTold_29 : decode cX7_takesTold 29 = .ok (.ifCond .eq 11, 3) := by decide +kernel
theorem dX7_takesTold_32 : decode cX7_takesTold 32 = .ok (.aload_n 0, 1) := by decide +kernel
theorem dX7_takesTold_33 : decode cX7_takesTold 33 = .ok (.iconst 0, 1) := by decide +kernel
theorem dX7_takesTold_34 : decode cX7_takesTold 34 = .ok (.invokevirtual 124, 3) := by decide +kernel
theorem dX7_takesTold_37 : decode cX7_takesTold 37 = .ok (.goto 4, 3) := by decide +kernel
theorem dX7_takesTold_40 : decode cX7_takesTold 40 = .ok (.iload_n 1, 1) := by decide +kernel
theorem dX7_takesTold_41 : decode cX7_takesTold 41 = .ok (.iconst 0, 1) := by decide +kernel
theorem dX7_takesTold_42 : decode cX7_takesTold 42 = .ok (.bipush 99, 2) := by decide +kernel
theorem dX7_takesTold_44 : decode cX7_takesTold 44 = .ok (.invokestatic 127, 3) := by decide +kernel
theorem dX7_takesTold_47 : decode cX7_takesTold 47 = .ok (.ireturn, 1) := by decide +kernel
theorem dX7_signTold_0 : decode cX7_signTold 0 = .ok (.aload_n 0, 1) := by decide +kernel
theorem dX7_signTold_1 : decode cX7_signTold 1 = .ok (.getfield 25, 3) := by decide +kernel
theorem dX7_signTold_4 : decode cX7_signTold 4 = .ok (.bipush 103, 2) := by decide +kernel
theorem dX7_signTold_6 : decode cX7_signTold 6 = .ok (.iload_n 1, 1) := by decide +kernel
theorem dX7_signTold_7 : decode cX7_signTold 7 = .ok (.iastore, 1) := by decide +kernel
theorem dX7_signTold_8 : decode cX7_signTold 8 = .ok (.aload_n 0, 1) := by decide +kernel
theorem dX7_signTold_9 : decode cX7_signTold 9 = .ok (.getfield 25, 3) := by decide +kernel
theorem dX7_signTold_12 : decode cX7_signTold 12 = .ok (.bipush 110, 2) := by decide +kernel
theorem dX7_signTold_14 : decode cX7_signTold 14 = .ok (.iload_n 2, 1) := by decide +kernel
theorem dX7_signTold_15 : decode cX7_signTold 15 = .ok (.iastore, 1) := by decide +kernel
theorem dX7_signTold_16 : decode cX7_signTold 16 = .ok (.aload_n 0, 1) := by decide +kernel
theorem dX7_signTold_17 : decode cX7_signTold 17 = .ok (.getfield 25, 3) := by decide +kernel
theorem dX7_signTold_20 : decode cX7_signTold 20 = .ok (.bipush 100, 2) := by decide +kernel
theorem dX7_signTold_22 : decode cX7_signTold 22 = .ok (.iload_n 3, 1) := by decide +kernel
theorem dX7_signTold_23 : decode cX7_signTold 23 = .ok (.iastore, 1) := by decide +kernel
theorem dX7_signTold_24 : decode cX7_signTold 24 = .ok (.aload_n 0, 1) := by decide +kernel
theorem dX7_signTold_25 : decode cX7_signTold 25 = .ok (.iconst 1, 1) := by decide +kernel
theorem dX7_signTold_26 : decode cX7_signTold 26 = .ok (.invokevirtual 113, 3) := by decide +kernel
theorem dX7_signTold_29 : decode cX7_signTold 29 = .ok (.ifCond .eq 11, 3) := by decide +kernel
theorem dX7_signTold_32 : decode cX7_signTold 32 = .ok (.aload_n 0, 1) := by decide +kernel
theorem dX7_signTold_33 : decode cX7_signTold 33 = .ok (.iconst 1, 1) := by decide +kernel
theorem dX7_signTold_34 : decode cX7_signTold 34 = .ok (.invokevirtual 124, 3) := by decide +kernel
theorem dX7_signTold_37 : decode cX7_signTold 37 = .ok (.goto 4, 3) := by decide +kernel
theorem dX7_signTold_40 : decode cX7_signTold 40 = .ok (.iload_n 1, 1) := by decide +kernel
theorem dX7_signTold_41 : decode cX7_signTold 41 = .ok (.iconst 0, 1) := by decide +kernel
theorem dX7_signTold_42 : decode cX7_signTold 42 = .ok (.bipush 9, 2) := by decide +kernel
theorem dX7_signTold_44 : decode cX7_signTold 44 = .ok (.invokestatic 127, 3) := by decide +kernel
theorem dX7_signTold_47 : decode cX7_signTold 47 = .ok (.ireturn, 1) := by decide +kernel
theorem dX7_takes_0 : decode cX7_takes 0 = .ok (.aload_n 0, 1) := by decide +kernel
theorem dX7_takes_1 : decode cX7_takes 1 = .ok (.aload_n 0, 1) := by decide +kernel
theorem dX7_takes_2 : decode cX7_takes 2 = .ok (.iload_n 1, 1) := by decide +kernel
theorem dX7_takes_3 : decode cX7_takes 3 = .ok (.iload_n 2, 1) := by decide +kernel
theorem dX7_takes_4 : decode cX7_takes 4 = .ok (.invokevirtual 130, 3) := by decide +kernel
theorem dX7_takes_7 : decode cX7_takes 7 = .ok (.aload_n 0, 1) := by decide +kernel
theorem dX7_takes_8 : decode cX7_takes 8 = .ok (.iload_n 2, 1) := by decide +kernel
theorem dX7_takes_9 : decode cX7_takes 9 = .ok (.iconst 2, 1) := by decide +kernel
theorem dX7_takes_10 : decode cX7_takes 10 = .ok (.invokevirtual 120, 3) := by decide +kernel
theorem dX7_takes_13 : decode cX7_takes 13 = .ok (.aload_n 0, 1) := by decide +kernel
theorem dX7_takes_14 : decode cX7_takes 14 = .ok (.iload_n 2, 1) := by decide +kernel
theorem dX7_takes_15 : decode cX7_takes 15 = .ok (.iconst 3, 1) := by decide +kernel
theorem dX7_takes_16 : decode cX7_takes 16 = .ok (.invokevirtual 120, 3) := by decide +kernel
theorem dX7_takes_19 : decode cX7_takes 19 = .ok (.invokevirtual 133, 3) := by decide +kernel
theorem dX7_takes_22 : decode cX7_takes 22 = .ok (.ireturn, 1) := by decide +kernel
theorem dX7_signOf_0 : decode cX7_signOf 0 = .ok (.aload_n 0, 1) := by decide +kernel
theorem dX7_signOf_1 : decode cX7_signOf 1 = .ok (.aload_n 0, 1) := by decide +kernel
theorem dX7_signOf_2 : decode cX7_signOf 2 = .ok (.iload_n 1, 1) := by decide +kernel
theorem dX7_signOf_3 : decode cX7_signOf 3 = .ok (.invokevirtual 136, 3) := by decide +kernel
theorem dX7_signOf_6 : decode cX7_signOf 6 = .ok (.aload_n 0, 1) := by decide +kernel
theorem dX7_signOf_7 : decode cX7_signOf 7 = .ok (.iload_n 1, 1) := by decide +kernel
theorem dX7_signOf_8 : decode cX7_signOf 8 = .ok (.iconst 2, 1) := by decide +kernel
theorem dX7_signOf_9 : decode cX7_signOf 9 = .ok (.invokevirtual 120, 3) := by decide +kernel
theorem dX7_signOf_12 : decode cX7_signOf 12 = .ok (.aload_n 0, 1) := by decide +kernel
theorem dX7_signOf_13 : decode cX7_signOf 13 = .ok (.getfield 7, 3) := by decide +kernel
theorem dX7_signOf_16 : decode cX7_signOf 16 = .ok (.iconst 0, 1) := by decide +kernel
theorem dX7_signOf_17 : decode cX7_signOf 17 = .ok (.iaload, 1) := by decide +kernel
theorem dX7_signOf_18 : decode cX7_signOf 18 = .ok (.bipush 7, 2) := by decide +kernel
theorem dX7_signOf_20 : decode cX7_signOf 20 = .ok (.irem, 1) := by decide +kernel
theorem dX7_signOf_21 : decode cX7_signOf 21 = .ok (.invokevirtual 139, 3) := by decide +kernel
theorem dX7_signOf_24 : decode cX7_signOf 24 = .ok (.ireturn, 1) := by decide +kernel
theorem dX7_findThen_0 : decode cX7_findThen 0 = .ok (.iconst 0, 1) := by decide +kernel
theorem dX7_findThen_1 : decode cX7_findThen 1 = .ok (.istore_n 1, 1) := by decide +kernel
theorem dX7_findThen_2 : decode cX7_findThen 2 = .ok (.iload_n 1, 1) := by decide +kernel
theorem dX7_findThen_3 : decode cX7_findThen 3 = .ok (.aload_n 0, 1) := by decide +kernel
theorem dX7_findThen_4 : decode cX7_findThen 4 = .ok (.getfield 7, 3) := by decide +kernel
theorem dX7_findThen_7 : decode cX7_findThen 7 = .ok (.iconst 4, 1) := by decide +kernel
theorem dX7_findThen_8 : decode cX7_findThen 8 = .ok (.iaload, 1) := by decide +kernel
theorem dX7_findThen_9 : decode cX7_findThen 9 = .ok (.if_icmp .ge 93, 3) := by decide +kernel
theorem dX7_findThen_12 : decode cX7_findThen 12 = .ok (.iconst 0, 1) := by decide +kernel
theorem dX7_findThen_13 : decode cX7_findThen 13 = .ok (.istore_n 2, 1) := by decide +kernel
theorem dX7_findThen_14 : decode cX7_findThen 14 = .ok (.iconst 0, 1) := by decide +kernel
theorem dX7_findThen_15 : decode cX7_findThen 15 = .ok (.istore_n 3, 1) := by decide +kernel
theorem dX7_findThen_16 : decode cX7_findThen 16 = .ok (.iload_n 3, 1) := by decide +kernel
theorem dX7_findThen_17 : decode cX7_findThen 17 = .ok (.aload_n 0, 1) := by decide +kernel
theorem dX7_findThen_18 : decode cX7_findThen 18 = .ok (.getfield 7, 3) := by decide +kernel
theorem dX7_findThen_21 : decode cX7_findThen 21 = .ok (.iconst 4, 1) := by decide +kernel
theorem dX7_findThen_22 : decode cX7_findThen 22 = .ok (.iaload, 1) := by decide +kernel
theorem dX7_findThen_23 : decode cX7_findThen 23 = .ok (.if_icmp .ge 27, 3) := by decide +kernel
theorem dX7_findThen_26 : decode cX7_findThen 26 = .ok (.iload_n 2, 1) := by decide +kernel
theorem dX7_findThen_27 : decode cX7_findThen 27 = .ok (.iload_n 3, 1) := by decide +kernel
theorem dX7_findThen_28 : decode cX7_findThen 28 = .ok (.iload_n 1, 1) := by decide +kernel
theorem dX7_findThen_29 : decode cX7_findThen 29 = .ok (.if_icmp .ne 7, 3) := by decide +kernel
theorem dX7_findThen_32 : decode cX7_findThen 32 = .ok (.iconst 0, 1) := by decide +kernel
theorem dX7_findThen_33 : decode cX7_findThen 33 = .ok (.goto 9, 3) := by decide +kernel
theorem dX7_findThen_36 : decode cX7_findThen 36 = .ok (.aload_n 0, 1) := by decide +kernel
theorem dX7_findThen_37 : decode cX7_findThen 37 = .ok (.iload_n 3, 1) := by decide +kernel
theorem dX7_findThen_38 : decode cX7_findThen 38 = .ok (.iload_n 1, 1) := by decide +kernel
theorem dX7_findThen_39 : decode cX7_findThen 39 = .ok (.invokevirtual 142, 3) := by decide +kernel
theorem dX7_findThen_42 : decode cX7_findThen 42 = .ok (.iadd, 1) := by decide +kernel
theorem dX7_findThen_43 : decode cX7_findThen 43 = .ok (.istore_n 2, 1) := by decide +kernel
theorem dX7_findThen_44 : decode cX7_findThen 44 = .ok (.iinc 3 1, 3) := by decide +kernel
theorem dX7_findThen_47 : decode cX7_findThen 47 = .ok (.goto (-31), 3) := by decide +kernel
theorem dX7_findThen_50 : decode cX7_findThen 50 = .ok (.aload_n 0, 1) := by decide +kernel
theorem dX7_findThen_51 : decode cX7_findThen 51 = .ok (.getfield 31, 3) := by decide +kernel
theorem dX7_findThen_54 : decode cX7_findThen 54 = .ok (.iload_n 1, 1) := by decide +kernel
theorem dX7_findThen_55 : decode cX7_findThen 55 = .ok (.aload_n 0, 1) := by decide +kernel
theorem dX7_findThen_56 : decode cX7_findThen 56 = .ok (.getfield 7, 3) := by decide +kernel
theorem dX7_findThen_59 : decode cX7_findThen 59 = .ok (.iconst 4, 1) := by decide +kernel
theorem dX7_findThen_60 : decode cX7_findThen 60 = .ok (.iaload, 1) := by decide +kernel
theorem dX7_findThen_61 : decode cX7_findThen 61 = .ok (.iconst 1, 1) := by decide +kernel
theorem dX7_findThen_62 : decode cX7_findThen 62 = .ok (.if_icmp .ne 12, 3) := by decide +kernel
theorem dX7_findThen_65 : decode cX7_findThen 65 = .ok (.aload_n 0, 1) := by decide +kernel
theorem dX7_findThen_66 : decode cX7_findThen 66 = .ok (.iload_n 1, 1) := by decide +kernel
theorem dX7_findThen_67 : decode cX7_findThen 67 = .ok (.iconst 2, 1) := by decide +kernel
theorem dX7_findThen_68 : decode cX7_findThen 68 = .ok (.invokevirtual 120, 3) := by decide +kernel
theorem dX7_findThen_71 : decode cX7_findThen 71 = .ok (.goto 13, 3) := by decide +kernel
theorem dX7_findThen_74 : decode cX7_findThen 74 = .ok (.iload_n 2, 1) := by decide +kernel
theorem dX7_findThen_75 : decode cX7_findThen 75 = .ok (.aload_n 0, 1) := by decide +kernel
theorem dX7_findThen_76 : decode cX7_findThen 76 = .ok (.getfield 7, 3) := by decide +kernel
theorem dX7_findThen_79 : decode cX7_findThen 79 = .ok (.iconst 4, 1) := by decide +kernel
theorem dX7_findThen_80 : decode cX7_findThen 80 = .ok (.iaload, 1) := by decide +kernel
theorem dX7_findThen_81 : decode cX7_findThen 81 = .ok (.iconst 1, 1) := by decide +kernel
theorem dX7_findThen_82 : decode cX7_findThen 82 = .ok (.isub, 1) := by decide +kernel
theorem dX7_findThen_83 : decode cX7_findThen 83 = .ok (.idiv, 1) := by decide +kernel
theorem dX7_findThen_84 : decode cX7_findThen 84 = .ok (.iastore, 1) := by decide +kernel
theorem dX7_findThen_85 : decode cX7_findThen 85 = .ok (.aload_n 0, 1) := by decide +kernel
theorem dX7_findThen_86 : decode cX7_findThen 86 = .ok (.getfield 34, 3) := by decide +kernel
theorem dX7_findThen_89 : decode cX7_findThen 89 = .ok (.iload_n 1, 1) := by decide +kernel
theorem dX7_findThen_90 : decode cX7_findThen 90 = .ok (.aload_n 0, 1) := by decide +kernel
theorem dX7_findThen_91 : decode cX7_findThen 91 = .ok (.iload_n 1, 1) := by decide +kernel
theorem dX7_findThen_92 : decode cX7_findThen 92 = .ok (.invokevirtual 145, 3) := by decide +kernel
theorem dX7_findThen_95 : decode cX7_findThen 95 = .ok (.iastore, 1) := by decide +kernel
theorem dX7_findThen_96 : decode cX7_findThen 96 = .ok (.iinc 1 1, 3) := by decide +kernel
theorem dX7_findThen_99 : decode cX7_findThen 99 = .ok (.goto (-97), 3) := by decide +kernel
theorem dX7_findThen_102 : decode cX7_findThen 102 = .ok (.return_, 1) := by decide +kernel
theorem dX7_aDay_0 : decode cX7_aDay 0 = .ok (.aload_n 0, 1) := by decide +kernel
theorem dX7_aDay_1 : decode cX7_aDay 1 = .ok (.invokevirtual 148, 3) := by decide +kernel
theorem dX7_aDay_4 : decode cX7_aDay 4 = .ok (.iconst 0, 1) := by decide +kernel
theorem dX7_aDay_5 : decode cX7_aDay 5 = .ok (.istore_n 1, 1) := by decide +kernel
theorem dX7_aDay_6 : decode cX7_aDay 6 = .ok (.iload_n 1, 1) := by decide +kernel
theorem dX7_aDay_7 : decode cX7_aDay 7 = .ok (.aload_n 0, 1) := by decide +kernel
theorem dX7_aDay_8 : decode cX7_aDay 8 = .ok (.getfield 7, 3) := by decide +kernel
theorem dX7_aDay_11 : decode cX7_aDay 11 = .ok (.iconst 4, 1) := by decide +kernel
theorem dX7_aDay_12 : decode cX7_aDay 12 = .ok (.iaload, 1) := by decide +kernel
theorem dX7_aDay_13 : decode cX7_aDay 13 = .ok (.if_icmp .ge 33, 3) := by decide +kernel
theorem dX7_aDay_16 : decode cX7_aDay 16 = .ok (.aload_n 0, 1) := by decide +kernel
theorem dX7_aDay_17 : decode cX7_aDay 17 = .ok (.iload_n 1, 1) := by decide +kernel
theorem dX7_aDay_18 : decode cX7_aDay 18 = .ok (.iconst 2, 1) := by decide +kernel
theorem dX7_aDay_19 : decode cX7_aDay 19 = .ok (.aload_n 0, 1) := by decide +kernel
theorem dX7_aDay_20 : decode cX7_aDay 20 = .ok (.getfield 31, 3) := by decide +kernel
theorem dX7_aDay_23 : decode cX7_aDay 23 = .ok (.iload_n 1, 1) := by decide +kernel
theorem dX7_aDay_24 : decode cX7_aDay 24 = .ok (.iaload, 1) := by decide +kernel
theorem dX7_aDay_25 : decode cX7_aDay 25 = .ok (.invokevirtual 151, 3) := by decide +kernel
theorem dX7_aDay_28 : decode cX7_aDay 28 = .ok (.aload_n 0, 1) := by decide +kernel
theorem dX7_aDay_29 : decode cX7_aDay 29 = .ok (.iload_n 1, 1) := by decide +kernel
theorem dX7_aDay_30 : decode cX7_aDay 30 = .ok (.iconst 3, 1) := by decide +kernel
theorem dX7_aDay_31 : decode cX7_aDay 31 = .ok (.aload_n 0, 1) := by decide +kernel
theorem dX7_aDay_32 : decode cX7_aDay 32 = .ok (.getfield 34, 3) := by decide +kernel
theorem dX7_aDay_35 : decode cX7_aDay 35 = .ok (.iload_n 1, 1) := by decide +kernel
theorem dX7_aDay_36 : decode cX7_aDay 36 = .ok (.iaload, 1) := by decide +kernel
theorem dX7_aDay_37 : decode cX7_aDay 37 = .ok (.invokevirtual 151, 3) := by decide +kernel
theorem dX7_aDay_40 : decode cX7_aDay 40 = .ok (.iinc 1 1, 3) := by decide +kernel
theorem dX7_aDay_43 : decode cX7_aDay 43 = .ok (.goto (-37), 3) := by decide +kernel
theorem dX7_aDay_46 : decode cX7_aDay 46 = .ok (.aload_n 0, 1) := by decide +kernel
theorem dX7_aDay_47 : decode cX7_aDay 47 = .ok (.getfield 7, 3) := by decide +kernel
theorem dX7_aDay_50 : decode cX7_aDay 50 = .ok (.iconst 0, 1) := by decide +kernel
theorem dX7_aDay_51 : decode cX7_aDay 51 = .ok (.dup2, 1) := by decide +kernel
theorem dX7_aDay_52 : decode cX7_aDay 52 = .ok (.iaload, 1) := by decide +kernel
theorem dX7_aDay_53 : decode cX7_aDay 53 = .ok (.iconst 1, 1) := by decide +kernel
theorem dX7_aDay_54 : decode cX7_aDay 54 = .ok (.iadd, 1) := by decide +kernel
theorem dX7_aDay_55 : decode cX7_aDay 55 = .ok (.iastore, 1) := by decide +kernel
theorem dX7_aDay_56 : decode cX7_aDay 56 = .ok (.return_, 1) := by decide +kernel
theorem dX7_goes_0 : decode cX7_goes 0 = .ok (.iconst 0, 1) := by decide +kernel
theorem dX7_goes_1 : decode cX7_goes 1 = .ok (.istore_n 2, 1) := by decide +kernel
theorem dX7_goes_2 : decode cX7_goes 2 = .ok (.iload_n 2, 1) := by decide +kernel
theorem dX7_goes_3 : decode cX7_goes 3 = .ok (.iload_n 1, 1) := by decide +kernel
theorem dX7_goes_4 : decode cX7_goes 4 = .ok (.if_icmp .ge 13, 3) := by decide +kernel
theorem dX7_goes_7 : decode cX7_goes 7 = .ok (.aload_n 0, 1) := by decide +kernel
theorem dX7_goes_8 : decode cX7_goes 8 = .ok (.invokevirtual 155, 3) := by decide +kernel
theorem dX7_goes_11 : decode cX7_goes 11 = .ok (.iinc 2 1, 3) := by decide +kernel
theorem dX7_goes_14 : decode cX7_goes 14 = .ok (.goto (-12), 3) := by decide +kernel
theorem dX7_goes_17 : decode cX7_goes 17 = .ok (.return_, 1) := by decide +kernel
theorem dX7_nearestNow_0 : decode cX7_nearestNow 0 = .ok (.iconst (-1), 1) := by decide +kernel
theorem dX7_nearestNow_1 : decode cX7_nearestNow 1 = .ok (.istore_n 1, 1) := by decide +kernel
theorem dX7_nearestNow_2 : decode cX7_nearestNow 2 = .ok (.iconst 0, 1) := by decide +kernel
theorem dX7_nearestNow_3 : decode cX7_nearestNow 3 = .ok (.istore_n 2, 1) := by decide +kernel
theorem dX7_nearestNow_4 : decode cX7_nearestNow 4 = .ok (.iload_n 2, 1) := by decide +kernel
theorem dX7_nearestNow_5 : decode cX7_nearestNow 5 = .ok (.aload_n 0, 1) := by decide +kernel
theorem dX7_nearestNow_6 : decode cX7_nearestNow 6 = .ok (.getfield 7, 3) := by decide +kernel
theorem dX7_nearestNow_9 : decode cX7_nearestNow 9 = .ok (.iconst 4, 1) := by decide +kernel
theorem dX7_nearestNow_10 : decode cX7_nearestNow 10 = .ok (.iaload, 1) := by decide +kernel
theorem dX7_nearestNow_11 : decode cX7_nearestNow 11 = .ok (.if_icmp .ge 35, 3) := by decide +kernel
theorem dX7_nearestNow_14 : decode cX7_nearestNow 14 = .ok (.iload_n 1, 1) := by decide +kernel
theorem dX7_nearestNow_15 : decode cX7_nearestNow 15 = .ok (.iconst (-1), 1) := by decide +kernel
theorem dX7_nearestNow_16 : decode cX7_nearestNow 16 = .ok (.if_icmp .eq 18, 3) := by decide +kernel
theorem dX7_nearestNow_19 : decode cX7_nearestNow 19 = .ok (.aload_n 0, 1) := by decide +kernel
theorem dX7_nearestNow_20 : decode cX7_nearestNow 20 = .ok (.iload_n 2, 1) := by decide +kernel
theorem dX7_nearestNow_21 : decode cX7_nearestNow 21 = .ok (.iconst 2, 1) := by decide +kernel
theorem dX7_nearestNow_22 : decode cX7_nearestNow 22 = .ok (.invokevirtual 120, 3) := by decide +kernel
theorem dX7_nearestNow_25 : decode cX7_nearestNow 25 = .ok (.aload_n 0, 1) := by decide +kernel
theorem dX7_nearestNow_26 : decode cX7_nearestNow 26 = .ok (.iload_n 1, 1) := by decide +kernel
theorem dX7_nearestNow_27 : decode cX7_nearestNow 27 = .ok (.iconst 2, 1) := by decide +kernel
theorem dX7_nearestNow_28 : decode cX7_nearestNow 28 = .ok (.invokevirtual 120, 3) := by decide +kernel
theorem dX7_nearestNow_31 : decode cX7_nearestNow 31 = .ok (.if_icmp .le 7, 3) := by decide +kernel
theorem dX7_nearestNow_34 : decode cX7_nearestNow 34 = .ok (.iload_n 2, 1) := by decide +kernel
theorem dX7_nearestNow_35 : decode cX7_nearestNow 35 = .ok (.goto 4, 3) := by decide +kernel
theorem dX7_nearestNow_38 : decode cX7_nearestNow 38 = .ok (.iload_n 1, 1) := by decide +kernel
theorem dX7_nearestNow_39 : decode cX7_nearestNow 39 = .ok (.istore_n 1, 1) := by decide +kernel
theorem dX7_nearestNow_40 : decode cX7_nearestNow 40 = .ok (.iinc 2 1, 3) := by decide +kernel
theorem dX7_nearestNow_43 : decode cX7_nearestNow 43 = .ok (.goto (-39), 3) := by decide +kernel
theorem dX7_nearestNow_46 : decode cX7_nearestNow 46 = .ok (.iload_n 1, 1) := by decide +kernel
theorem dX7_nearestNow_47 : decode cX7_nearestNow 47 = .ok (.ireturn, 1) := by decide +kernel
theorem dX7_calls_0 : decode cX7_calls 0 = .ok (.aload_n 0, 1) := by decide +kernel
theorem dX7_calls_1 : decode cX7_calls 1 = .ok (.iload_n 1, 1) := by decide +kernel
theorem dX7_calls_2 : decode cX7_calls 2 = .ok (.iconst 2, 1) := by decide +kernel
theorem dX7_calls_3 : decode cX7_calls 3 = .ok (.invokevirtual 120, 3) := by decide +kernel
theorem dX7_calls_6 : decode cX7_calls 6 = .ok (.aload_n 0, 1) := by decide +kernel
theorem dX7_calls_7 : decode cX7_calls 7 = .ok (.iload_n 2, 1) := by decide +kernel
theorem dX7_calls_8 : decode cX7_calls 8 = .ok (.iconst 2, 1) := by decide +kernel
theorem dX7_calls_9 : decode cX7_calls 9 = .ok (.invokevirtual 120, 3) := by decide +kernel
theorem dX7_calls_12 : decode cX7_calls 12 = .ok (.if_icmp .le 12, 3) := by decide +kernel
theorem dX7_calls_15 : decode cX7_calls 15 = .ok (.aload_n 0, 1) := by decide +kernel
theorem dX7_calls_16 : decode cX7_calls 16 = .ok (.iload_n 1, 1) := by decide +kernel
theorem dX7_calls_17 : decode cX7_calls 17 = .ok (.iconst 2, 1) := by decide +kernel
theorem dX7_calls_18 : decode cX7_calls 18 = .ok (.invokevirtual 120, 3) := by decide +kernel
theorem dX7_calls_21 : decode cX7_calls 21 = .ok (.goto 9, 3) := by decide +kernel
theorem dX7_calls_24 : decode cX7_calls 24 = .ok (.aload_n 0, 1) := by decide +kernel
theorem dX7_calls_25 : decode cX7_calls 25 = .ok (.iload_n 2, 1) := by decide +kernel
theorem dX7_calls_26 : decode cX7_calls 26 = .ok (.iconst 2, 1) := by decide +kernel
theorem dX7_calls_27 : decode cX7_calls 27 = .ok (.invokevirtual 120, 3) := by decide +kernel
theorem dX7_calls_30 : decode cX7_calls 30 = .ok (.istore_n 3, 1) := by decide +kernel
theorem dX7_calls_31 : decode cX7_calls 31 = .ok (.aload_n 0, 1) := by decide +kernel
theorem dX7_calls_32 : decode cX7_calls 32 = .ok (.iload_n 1, 1) := by decide +kernel
theorem dX7_calls_33 : decode cX7_calls 33 = .ok (.iconst 2, 1) := by decide +kernel
theorem dX7_calls_34 : decode cX7_calls 34 = .ok (.iload_n 3, 1) := by decide +kernel
theorem dX7_calls_35 : decode cX7_calls 35 = .ok (.invokevirtual 151, 3) := by decide +kernel
theorem dX7_calls_38 : decode cX7_calls 38 = .ok (.aload_n 0, 1) := by decide +kernel
theorem dX7_calls_39 : decode cX7_calls 39 = .ok (.iload_n 2, 1) := by decide +kernel
theorem dX7_calls_40 : decode cX7_calls 40 = .ok (.iconst 2, 1) := by decide +kernel
theorem dX7_calls_41 : decode cX7_calls 41 = .ok (.iload_n 3, 1) := by decide +kernel
theorem dX7_calls_42 : decode cX7_calls 42 = .ok (.invokevirtual 151, 3) := by decide +kernel
theorem dX7_calls_45 : decode cX7_calls 45 = .ok (.aload_n 0, 1) := by decide +kernel
theorem dX7_calls_46 : decode cX7_calls 46 = .ok (.iload_n 1, 1) := by decide +kernel
theorem dX7_calls_47 : decode cX7_calls 47 = .ok (.iconst 4, 1) := by decide +kernel
theorem dX7_calls_48 : decode cX7_calls 48 = .ok (.aload_n 0, 1) := by decide +kernel
theorem dX7_calls_49 : decode cX7_calls 49 = .ok (.iload_n 1, 1) := by decide +kernel
theorem dX7_calls_50 : decode cX7_calls 50 = .ok (.iconst 4, 1) := by decide +kernel
theorem dX7_calls_51 : decode cX7_calls 51 = .ok (.invokevirtual 120, 3) := by decide +kernel
theorem dX7_calls_54 : decode cX7_calls 54 = .ok (.iconst 1, 1) := by decide +kernel
theorem dX7_calls_55 : decode cX7_calls 55 = .ok (.iload_n 2, 1) := by decide +kernel
theorem dX7_calls_56 : decode cX7_calls 56 = .ok (.ishl, 1) := by decide +kernel
theorem dX7_calls_57 : decode cX7_calls 57 = .ok (.ior, 1) := by decide +kernel
theorem dX7_calls_58 : decode cX7_calls 58 = .ok (.invokevirtual 151, 3) := by decide +kernel
theorem dX7_calls_61 : decode cX7_calls 61 = .ok (.iload_n 3, 1) := by decide +kernel
theorem dX7_calls_62 : decode cX7_calls 62 = .ok (.ireturn, 1) := by decide +kernel
theorem dX7_draw_0 : decode cX7_draw 0 = .ok (.aload_n 0, 1) := by decide +kernel
theorem dX7_draw_1 : decode cX7_draw 1 = .ok (.getfield 7, 3) := by decide +kernel
theorem dX7_draw_4 : decode cX7_draw 4 = .ok (.iconst 1, 1) := by decide +kernel
theorem dX7_draw_5 : decode cX7_draw 5 = .ok (.aload_n 0, 1) := by decide +kernel
theorem dX7_draw_6 : decode cX7_draw 6 = .ok (.getfield 7, 3) := by decide +kernel
theorem dX7_draw_9 : decode cX7_draw 9 = .ok (.iconst 1, 1) := by decide +kernel
theorem dX7_draw_10 : decode cX7_draw 10 = .ok (.iaload, 1) := by decide +kernel
theorem dX7_draw_11 : decode cX7_draw 11 = .ok (.ldc 158, 2) := by decide +kernel
theorem dX7_draw_13 : decode cX7_draw 13 = .ok (.imul, 1) := by decide +kernel
theorem dX7_draw_14 : decode cX7_draw 14 = .ok (.sipush 12345, 3) := by decide +kernel
theorem dX7_draw_17 : decode cX7_draw 17 = .ok (.iadd, 1) := by decide +kernel
theorem dX7_draw_18 : decode cX7_draw 18 = .ok (.iastore, 1) := by decide +kernel
theorem dX7_draw_19 : decode cX7_draw 19 = .ok (.aload_n 0, 1) := by decide +kernel
theorem dX7_draw_20 : decode cX7_draw 20 = .ok (.getfield 7, 3) := by decide +kernel
theorem dX7_draw_23 : decode cX7_draw 23 = .ok (.iconst 1, 1) := by decide +kernel
theorem dX7_draw_24 : decode cX7_draw 24 = .ok (.iaload, 1) := by decide +kernel
theorem dX7_draw_25 : decode cX7_draw 25 = .ok (.bipush 8, 2) := by decide +kernel
theorem dX7_draw_27 : decode cX7_draw 27 = .ok (.iushr, 1) := by decide +kernel
theorem dX7_draw_28 : decode cX7_draw 28 = .ok (.ireturn, 1) := by decide +kernel
theorem dX7_isKind_0 : decode cX7_isKind 0 = .ok (.iload_n 0, 1) := by decide +kernel
theorem dX7_isKind_1 : decode cX7_isKind 1 = .ok (.iconst 0, 1) := by decide +kernel
theorem dX7_isKind_2 : decode cX7_isKind 2 = .ok (.bipush 69, 2) := by decide +kernel
theorem dX7_isKind_4 : decode cX7_isKind 4 = .ok (.invokestatic 53, 3) := by decide +kernel
theorem dX7_isKind_7 : decode cX7_isKind 7 = .ok (.ireturn, 1) := by decide +kernel
theorem dX7_person_0 : decode cX7_person 0 = .ok (.iload_n 1, 1) := by decide +kernel
theorem dX7_person_1 : decode cX7_person 1 = .ok (.invokestatic 159, 3) := by decide +kernel
theorem dX7_person_4 : decode cX7_person 4 = .ok (.ifCond .eq 23, 3) := by decide +kernel
theorem dX7_person_7 : decode cX7_person 7 = .ok (.iload_n 2, 1) := by decide +kernel
theorem dX7_person_8 : decode cX7_person 8 = .ok (.iconst 0, 1) := by decide +kernel
theorem dX7_person_9 : decode cX7_person 9 = .ok (.bipush 99, 2) := by decide +kernel
theorem dX7_person_11 : decode cX7_person 11 = .ok (.invokestatic 53, 3) := by decide +kernel
theorem dX7_person_14 : decode cX7_person 14 = .ok (.ifCond .eq 13, 3) := by decide +kernel
theorem dX7_person_17 : decode cX7_person 17 = .ok (.iload_n 3, 1) := by decide +kernel
theorem dX7_person_18 : decode cX7_person 18 = .ok (.iconst 0, 1) := by decide +kernel
theorem dX7_person_19 : decode cX7_person 19 = .ok (.bipush 9, 2) := by decide +kernel
theorem dX7_person_21 : decode cX7_person 21 = .ok (.invokestatic 53, 3) := by decide +kernel
theorem dX7_person_24 : decode cX7_person 24 = .ok (.ifCond .ne 9, 3) := by decide +kernel
theorem dX7_person_27 : decode cX7_person 27 = .ok (.aload_n 0, 1) := by decide +kernel
theorem dX7_person_28 : decode cX7_person 28 = .ok (.iconst 1, 1) := by decide +kernel
theorem dX7_person_29 : decode cX7_person 29 = .ok (.invokevirtual 61, 3) := by decide +kernel
theorem dX7_person_32 : decode cX7_person 32 = .ok (.ireturn, 1) := by decide +kernel
theorem dX7_person_33 : decode cX7_person 33 = .ok (.aload_n 0, 1) := by decide +kernel
theorem dX7_person_34 : decode cX7_person 34 = .ok (.getfield 7, 3) := by decide +kernel
theorem dX7_person_37 : decode cX7_person 37 = .ok (.iconst 4, 1) := by decide +kernel
theorem dX7_person_38 : decode cX7_person 38 = .ok (.iaload, 1) := by decide +kernel
theorem dX7_person_39 : decode cX7_person 39 = .ok (.bipush 8, 2) := by decide +kernel
theorem dX7_person_41 : decode cX7_person 41 = .ok (.if_icmp .ne 9, 3) := by decide +kernel
theorem dX7_person_44 : decode cX7_person 44 = .ok (.aload_n 0, 1) := by decide +kernel
theorem dX7_person_45 : decode cX7_person 45 = .ok (.iconst 4, 1) := by decide +kernel
theorem dX7_person_46 : decode cX7_person 46 = .ok (.invokevirtual 61, 3) := by decide +kernel
theorem dX7_person_49 : decode cX7_person 49 = .ok (.ireturn, 1) := by decide +kernel
theorem dX7_person_50 : decode cX7_person 50 = .ok (.aload_n 0, 1) := by decide +kernel
theorem dX7_person_51 : decode cX7_person 51 = .ok (.getfield 7, 3) := by decide +kernel
theorem dX7_person_54 : decode cX7_person 54 = .ok (.iconst 4, 1) := by decide +kernel
theorem dX7_person_55 : decode cX7_person 55 = .ok (.iaload, 1) := by decide +kernel
theorem dX7_person_56 : decode cX7_person 56 = .ok (.istore 4, 2) := by decide +kernel
theorem dX7_person_58 : decode cX7_person 58 = .ok (.aload_n 0, 1) := by decide +kernel
theorem dX7_person_59 : decode cX7_person 59 = .ok (.iload 4, 2) := by decide +kernel
theorem dX7_person_61 : decode cX7_person 61 = .ok (.iconst 0, 1) := by decide +kernel
theorem dX7_person_62 : decode cX7_person 62 = .ok (.iload_n 1, 1) := by decide +kernel
theorem dX7_person_63 : decode cX7_person 63 = .ok (.bipush 10, 2) := by decide +kernel
theorem dX7_person_65 : decode cX7_person 65 = .ok (.idiv, 1) := by decide +kernel
theorem dX7_person_66 : decode cX7_person 66 = .ok (.invokevirtual 151, 3) := by decide +kernel
theorem dX7_person_69 : decode cX7_person 69 = .ok (.aload_n 0, 1) := by decide +kernel
theorem dX7_person_70 : decode cX7_person 70 = .ok (.iload 4, 2) := by decide +kernel
theorem dX7_person_72 : decode cX7_person 72 = .ok (.iconst 1, 1) := by decide +kernel
theorem dX7_person_73 : decode cX7_person 73 = .ok (.iload_n 1, 1) := by decide +kernel
theorem dX7_person_74 : decode cX7_person 74 = .ok (.bipush 10, 2) := by decide +kernel
theorem dX7_person_76 : decode cX7_person 76 = .ok (.irem, 1) := by decide +kernel
theorem dX7_person_77 : decode cX7_person 77 = .ok (.invokevirtual 151, 3) := by decide +kernel
theorem dX7_person_80 : decode cX7_person 80 = .ok (.aload_n 0, 1) := by decide +kernel
theorem dX7_person_81 : decode cX7_person 81 = .ok (.iload 4, 2) := by decide +kernel
theorem dX7_person_83 : decode cX7_person 83 = .ok (.iconst 2, 1) := by decide +kernel
theorem dX7_person_84 : decode cX7_person 84 = .ok (.iload_n 2, 1) := by decide +kernel
theorem dX7_person_85 : decode cX7_person 85 = .ok (.invokevirtual 151, 3) := by decide +kernel
theorem dX7_person_88 : decode cX7_person 88 = .ok (.aload_n 0, 1) := by decide +kernel
theorem dX7_person_89 : decode cX7_person 89 = .ok (.iload 4, 2) := by decide +kernel
theorem dX7_person_91 : decode cX7_person 91 = .ok (.iconst 3, 1) := by decide +kernel
theorem dX7_person_92 : decode cX7_person 92 = .ok (.iload_n 3, 1) := by decide +kernel
theorem dX7_person_93 : decode cX7_person 93 = .ok (.invokevirtual 151, 3) := by decide +kernel
theorem dX7_person_96 : decode cX7_person 96 = .ok (.aload_n 0, 1) := by decide +kernel
theorem dX7_person_97 : decode cX7_person 97 = .ok (.iload 4, 2) := by decide +kernel
theorem dX7_person_99 : decode cX7_person 99 = .ok (.iconst 4, 1) := by decide +kernel
theorem dX7_person_100 : decode cX7_person 100 = .ok (.iconst 0, 1) := by decide +kernel
theorem dX7_person_101 : decode cX7_person 101 = .ok (.invokevirtual 151, 3) := by decide +kernel
theorem dX7_person_104 : decode cX7_person 104 = .ok (.aload_n 0, 1) := by decide +kernel
theorem dX7_person_105 : decode cX7_person 105 = .ok (.getfield 7, 3) := by decide +kernel
theorem dX7_person_108 : decode cX7_person 108 = .ok (.iconst 4, 1) := by decide +kernel
theorem dX7_person_109 : decode cX7_person 109 = .ok (.dup2, 1) := by decide +kernel
theorem dX7_person_110 : decode cX7_person 110 = .ok (.iaload, 1) := by decide +kernel
theorem dX7_person_111 : decode cX7_person 111 = .ok (.iconst 1, 1) := by decide +kernel
theorem dX7_person_112 : decode cX7_person 112 = .ok (.iadd, 1) := by decide +kernel
theorem dX7_person_113 : decode cX7_person 113 = .ok (.iastore, 1) := by decide +kernel
theorem dX7_person_114 : decode cX7_person 114 = .ok (.iload 4, 2) := by decide +kernel
theorem dX7_person_116 : decode cX7_person 116 = .ok (.ireturn, 1) := by decide +kernel
theorem dX7_personIs_0 : decode cX7_personIs 0 = .ok (.aload_n 0, 1) := by decide +kernel
theorem dX7_personIs_1 : decode cX7_personIs 1 = .ok (.iload_n 1, 1) := by decide +kernel
theorem dX7_personIs_2 : decode cX7_personIs 2 = .ok (.invokevirtual 57, 3) := by decide +kernel
theorem dX7_personIs_5 : decode cX7_personIs 5 = .ok (.ifCond .eq 21, 3) := by decide +kernel
theorem dX7_personIs_8 : decode cX7_personIs 8 = .ok (.iload_n 2, 1) := by decide +kernel
theorem dX7_personIs_9 : decode cX7_personIs 9 = .ok (.iconst 0, 1) := by decide +kernel
theorem dX7_personIs_10 : decode cX7_personIs 10 = .ok (.iconst 4, 1) := by decide +kernel
theorem dX7_personIs_11 : decode cX7_personIs 11 = .ok (.invokestatic 53, 3) := by decide +kernel
theorem dX7_personIs_14 : decode cX7_personIs 14 = .ok (.ifCond .eq 12, 3) := by decide +kernel
theorem dX7_personIs_17 : decode cX7_personIs 17 = .ok (.aload_n 0, 1) := by decide +kernel
theorem dX7_personIs_18 : decode cX7_personIs 18 = .ok (.iload_n 1, 1) := by decide +kernel
theorem dX7_personIs_19 : decode cX7_personIs 19 = .ok (.iload_n 2, 1) := by decide +kernel
theorem dX7_personIs_20 : decode cX7_personIs 20 = .ok (.invokevirtual 120, 3) := by decide +kernel
theorem dX7_personIs_23 : decode cX7_personIs 23 = .ok (.goto 8, 3) := by decide +kernel
theorem dX7_personIs_26 : decode cX7_personIs 26 = .ok (.aload_n 0, 1) := by decide +kernel
theorem dX7_personIs_27 : decode cX7_personIs 27 = .ok (.iconst 1, 1) := by decide +kernel
theorem dX7_personIs_28 : decode cX7_personIs 28 = .ok (.invokevirtual 61, 3) := by decide +kernel
theorem dX7_personIs_31 : decode cX7_personIs 31 = .ok (.ireturn, 1) := by decide +kernel
theorem dX7_become_0 : decode cX7_become 0 = .ok (.aload_n 0, 1) := by decide +kernel
theorem dX7_become_1 : decode cX7_become 1 = .ok (.iload_n 1, 1) := by decide +kernel
theorem dX7_become_2 : decode cX7_become 2 = .ok (.invokevirtual 57, 3) := by decide +kernel
theorem dX7_become_5 : decode cX7_become 5 = .ok (.ifCond .eq 10, 3) := by decide +kernel
theorem dX7_become_8 : decode cX7_become 8 = .ok (.iload_n 2, 1) := by decide +kernel
theorem dX7_become_9 : decode cX7_become 9 = .ok (.invokestatic 159, 3) := by decide +kernel
theorem dX7_become_12 : decode cX7_become 12 = .ok (.ifCond .ne 9, 3) := by decide +kernel
theorem dX7_become_15 : decode cX7_become 15 = .ok (.aload_n 0, 1) := by decide +kernel
theorem dX7_become_16 : decode cX7_become 16 = .ok (.iconst 1, 1) := by decide +kernel
theorem dX7_become_17 : decode cX7_become 17 = .ok (.invokevirtual 61, 3) := by decide +kernel
theorem dX7_become_20 : decode cX7_become 20 = .ok (.ireturn, 1) := by decide +kernel
theorem dX7_become_21 : decode cX7_become 21 = .ok (.aload_n 0, 1) := by decide +kernel
theorem dX7_become_22 : decode cX7_become 22 = .ok (.iload_n 1, 1) := by decide +kernel
theorem dX7_become_23 : decode cX7_become 23 = .ok (.iconst 1, 1) := by decide +kernel
theorem dX7_become_24 : decode cX7_become 24 = .ok (.iload_n 2, 1) := by decide +kernel
theorem dX7_become_25 : decode cX7_become 25 = .ok (.bipush 10, 2) := by decide +kernel
theorem dX7_become_27 : decode cX7_become 27 = .ok (.irem, 1) := by decide +kernel
theorem dX7_become_28 : decode cX7_become 28 = .ok (.invokevirtual 151, 3) := by decide +kernel
theorem dX7_become_31 : decode cX7_become 31 = .ok (.aload_n 0, 1) := by decide +kernel
theorem dX7_become_32 : decode cX7_become 32 = .ok (.bipush 8, 2) := by decide +kernel
theorem dX7_become_34 : decode cX7_become 34 = .ok (.iconst 5, 1) := by decide +kernel
theorem dX7_become_35 : decode cX7_become 35 = .ok (.iload_n 1, 1) := by decide +kernel
theorem dX7_become_36 : decode cX7_become 36 = .ok (.imul, 1) := by decide +kernel
theorem dX7_become_37 : decode cX7_become 37 = .ok (.iadd, 1) := by decide +kernel
theorem dX7_become_38 : decode cX7_become 38 = .ok (.iconst 0, 1) := by decide +kernel
theorem dX7_become_39 : decode cX7_become 39 = .ok (.iadd, 1) := by decide +kernel
theorem dX7_become_40 : decode cX7_become 40 = .ok (.iload_n 2, 1) := by decide +kernel
theorem dX7_become_41 : decode cX7_become 41 = .ok (.bipush 10, 2) := by decide +kernel
theorem dX7_become_43 : decode cX7_become 43 = .ok (.idiv, 1) := by decide +kernel
theorem dX7_become_44 : decode cX7_become 44 = .ok (.invokevirtual 162, 3) := by decide +kernel
theorem dX7_become_47 : decode cX7_become 47 = .ok (.ireturn, 1) := by decide +kernel
theorem dX7_as_0 : decode cX7_as 0 = .ok (.aload_n 0, 1) := by decide +kernel
theorem dX7_as_1 : decode cX7_as 1 = .ok (.iload_n 1, 1) := by decide +kernel
theorem dX7_as_2 : decode cX7_as 2 = .ok (.invokevirtual 57, 3) := by decide +kernel
theorem dX7_as_5 : decode cX7_as 5 = .ok (.ifCond .eq 13, 3) := by decide +kernel
theorem dX7_as_8 : decode cX7_as 8 = .ok (.iload_n 2, 1) := by decide +kernel
theorem dX7_as_9 : decode cX7_as 9 = .ok (.iconst 0, 1) := by decide +kernel
theorem dX7_as_10 : decode cX7_as 10 = .ok (.bipush 6, 2) := by decide +kernel
theorem dX7_as_12 : decode cX7_as 12 = .ok (.invokestatic 53, 3) := by decide +kernel
theorem dX7_as_15 : decode cX7_as 15 = .ok (.ifCond .ne 9, 3) := by decide +kernel
theorem dX7_as_18 : decode cX7_as 18 = .ok (.aload_n 0, 1) := by decide +kernel
theorem dX7_as_19 : decode cX7_as 19 = .ok (.iconst 1, 1) := by decide +kernel
theorem dX7_as_20 : decode cX7_as 20 = .ok (.invokevirtual 61, 3) := by decide +kernel
theorem dX7_as_23 : decode cX7_as 23 = .ok (.ireturn, 1) := by decide +kernel
theorem dX7_as_24 : decode cX7_as 24 = .ok (.aload_n 0, 1) := by decide +kernel
theorem dX7_as_25 : decode cX7_as 25 = .ok (.iload_n 1, 1) := by decide +kernel
theorem dX7_as_26 : decode cX7_as 26 = .ok (.iconst 0, 1) := by decide +kernel
theorem dX7_as_27 : decode cX7_as 27 = .ok (.invokevirtual 120, 3) := by decide +kernel
theorem dX7_as_30 : decode cX7_as 30 = .ok (.istore_n 3, 1) := by decide +kernel
theorem dX7_as_31 : decode cX7_as 31 = .ok (.iload_n 3, 1) := by decide +kernel
theorem dX7_as_32 : decode cX7_as 32 = .ok (.iload_n 2, 1) := by decide +kernel
theorem dX7_as_33 : decode cX7_as 33 = .ok (.if_icmp .eq 15, 3) := by decide +kernel
theorem dX7_as_36 : decode cX7_as 36 = .ok (.iload_n 3, 1) := by decide +kernel
theorem dX7_as_37 : decode cX7_as 37 = .ok (.ifCond .eq 11, 3) := by decide +kernel
theorem dX7_as_40 : decode cX7_as 40 = .ok (.iload_n 3, 1) := by decide +kernel
theorem dX7_as_41 : decode cX7_as 41 = .ok (.invokestatic 165, 3) := by decide +kernel
theorem dX7_as_44 : decode cX7_as 44 = .ok (.istore_n 3, 1) := by decide +kernel
theorem dX7_as_45 : decode cX7_as 45 = .ok (.goto (-14), 3) := by decide +kernel
theorem dX7_as_48 : decode cX7_as 48 = .ok (.iload_n 3, 1) := by decide +kernel
theorem dX7_as_49 : decode cX7_as 49 = .ok (.iload_n 2, 1) := by decide +kernel
theorem dX7_as_50 : decode cX7_as 50 = .ok (.if_icmp .ne 12, 3) := by decide +kernel
theorem dX7_as_53 : decode cX7_as 53 = .ok (.aload_n 0, 1) := by decide +kernel
theorem dX7_as_54 : decode cX7_as 54 = .ok (.iload_n 1, 1) := by decide +kernel
theorem dX7_as_55 : decode cX7_as 55 = .ok (.iconst 1, 1) := by decide +kernel
theorem dX7_as_56 : decode cX7_as 56 = .ok (.invokevirtual 120, 3) := by decide +kernel
theorem dX7_as_59 : decode cX7_as 59 = .ok (.goto 8, 3) := by decide +kernel
theorem dX7_as_62 : decode cX7_as 62 = .ok (.aload_n 0, 1) := by decide +kernel
theorem dX7_as_63 : decode cX7_as 63 = .ok (.iconst 5, 1) := by decide +kernel
theorem dX7_as_64 : decode cX7_as 64 = .ok (.invokevirtual 61, 3) := by decide +kernel
theorem dX7_as_67 : decode cX7_as 67 = .ok (.ireturn, 1) := by decide +kernel
theorem dX7_shows_0 : decode cX7_shows 0 = .ok (.aload_n 0, 1) := by decide +kernel
theorem dX7_shows_1 : decode cX7_shows 1 = .ok (.iload_n 1, 1) := by decide +kernel
theorem dX7_shows_2 : decode cX7_shows 2 = .ok (.invokevirtual 57, 3) := by decide +kernel
theorem dX7_shows_5 : decode cX7_shows 5 = .ok (.ifCond .eq 29, 3) := by decide +kernel
theorem dX7_shows_8 : decode cX7_shows 8 = .ok (.iload_n 2, 1) := by decide +kernel
theorem dX7_shows_9 : decode cX7_shows 9 = .ok (.iconst 0, 1) := by decide +kernel
theorem dX7_shows_10 : decode cX7_shows 10 = .ok (.bipush 9, 2) := by decide +kernel
theorem dX7_shows_12 : decode cX7_shows 12 = .ok (.invokestatic 53, 3) := by decide +kernel
theorem dX7_shows_15 : decode cX7_shows 15 = .ok (.ifCond .eq 19, 3) := by decide +kernel
theorem dX7_shows_18 : decode cX7_shows 18 = .ok (.aload_n 0, 1) := by decide +kernel
theorem dX7_shows_19 : decode cX7_shows 19 = .ok (.bipush 8, 2) := by decide +kernel
theorem dX7_shows_21 : decode cX7_shows 21 = .ok (.iconst 5, 1) := by decide +kernel
theorem dX7_shows_22 : decode cX7_shows 22 = .ok (.iload_n 1, 1) := by decide +kernel
theorem dX7_shows_23 : decode cX7_shows 23 = .ok (.imul, 1) := by decide +kernel
theorem dX7_shows_24 : decode cX7_shows 24 = .ok (.iadd, 1) := by decide +kernel
theorem dX7_shows_25 : decode cX7_shows 25 = .ok (.iconst 3, 1) := by decide +kernel
theorem dX7_shows_26 : decode cX7_shows 26 = .ok (.iadd, 1) := by decide +kernel
theorem dX7_shows_27 : decode cX7_shows 27 = .ok (.iload_n 2, 1) := by decide +kernel
theorem dX7_shows_28 : decode cX7_shows 28 = .ok (.invokevirtual 162, 3) := by decide +kernel
theorem dX7_shows_31 : decode cX7_shows 31 = .ok (.goto 8, 3) := by decide +kernel
theorem dX7_shows_34 : decode cX7_shows 34 = .ok (.aload_n 0, 1) := by decide +kernel
theorem dX7_shows_35 : decode cX7_shows 35 = .ok (.iconst 1, 1) := by decide +kernel
theorem dX7_shows_36 : decode cX7_shows 36 = .ok (.invokevirtual 61, 3) := by decide +kernel
theorem dX7_shows_39 : decode cX7_shows 39 = .ok (.ireturn, 1) := by decide +kernel
theorem dX7_seems_0 : decode cX7_seems 0 = .ok (.aload_n 0, 1) := by decide +kernel
theorem dX7_seems_1 : decode cX7_seems 1 = .ok (.iload_n 1, 1) := by decide +kernel
theorem dX7_seems_2 : decode cX7_seems 2 = .ok (.invokevirtual 57, 3) := by decide +kernel
theorem dX7_seems_5 : decode cX7_seems 5 = .ok (.ifCond .eq 29, 3) := by decide +kernel
theorem dX7_seems_8 : decode cX7_seems 8 = .ok (.iload_n 2, 1) := by decide +kernel
theorem dX7_seems_9 : decode cX7_seems 9 = .ok (.iconst 0, 1) := by decide +kernel
theorem dX7_seems_10 : decode cX7_seems 10 = .ok (.bipush 99, 2) := by decide +kernel
theorem dX7_seems_12 : decode cX7_seems 12 = .ok (.invokestatic 53, 3) := by decide +kernel
theorem dX7_seems_15 : decode cX7_seems 15 = .ok (.ifCond .eq 19, 3) := by decide +kernel
theorem dX7_seems_18 : decode cX7_seems 18 = .ok (.aload_n 0, 1) := by decide +kernel
theorem dX7_seems_19 : decode cX7_seems 19 = .ok (.bipush 8, 2) := by decide +kernel
theorem dX7_seems_21 : decode cX7_seems 21 = .ok (.iconst 5, 1) := by decide +kernel
theorem dX7_seems_22 : decode cX7_seems 22 = .ok (.iload_n 1, 1) := by decide +kernel
theorem dX7_seems_23 : decode cX7_seems 23 = .ok (.imul, 1) := by decide +kernel
theorem dX7_seems_24 : decode cX7_seems 24 = .ok (.iadd, 1) := by decide +kernel
theorem dX7_seems_25 : decode cX7_seems 25 = .ok (.iconst 2, 1) := by decide +kernel
theorem dX7_seems_26 : decode cX7_seems 26 = .ok (.iadd, 1) := by decide +kernel
theorem dX7_seems_27 : decode cX7_seems 27 = .ok (.iload_n 2, 1) := by decide +kernel
theorem dX7_seems_28 : decode cX7_seems 28 = .ok (.invokevirtual 162, 3) := by decide +kernel
theorem dX7_seems_31 : decode cX7_seems 31 = .ok (.goto 8, 3) := by decide +kernel
theorem dX7_seems_34 : decode cX7_seems 34 = .ok (.aload_n 0, 1) := by decide +kernel
theorem dX7_seems_35 : decode cX7_seems 35 = .ok (.iconst 1, 1) := by decide +kernel
theorem dX7_seems_36 : decode cX7_seems 36 = .ok (.invokevirtual 61, 3) := by decide +kernel
theorem dX7_seems_39 : decode cX7_seems 39 = .ok (.ireturn, 1) := by decide +kernel
theorem dX7_taken_0 : decode cX7_taken 0 = .ok (.aload_n 0, 1) := by decide +kernel
theorem dX7_taken_1 : decode cX7_taken 1 = .ok (.iload_n 1, 1) := by decide +kernel
theorem dX7_taken_2 : decode cX7_taken 2 = .ok (.iload_n 2, 1) := by decide +kernel
theorem dX7_taken_3 : decode cX7_taken 3 = .ok (.invokevirtual 168, 3) := by decide +kernel
theorem dX7_taken_6 : decode cX7_taken 6 = .ok (.ifCond .eq 12, 3) := by decide +kernel
theorem dX7_taken_9 : decode cX7_taken 9 = .ok (.aload_n 0, 1) := by decide +kernel
theorem dX7_taken_10 : decode cX7_taken 10 = .ok (.iload_n 1, 1) := by decide +kernel
theorem dX7_taken_11 : decode cX7_taken 11 = .ok (.iload_n 2, 1) := by decide +kernel
theorem dX7_taken_12 : decode cX7_taken 12 = .ok (.invokevirtual 142, 3) := by decide +kernel
theorem dX7_taken_15 : decode cX7_taken 15 = .ok (.goto 8, 3) := by decide +kernel
theorem dX7_taken_18 : decode cX7_taken 18 = .ok (.aload_n 0, 1) := by decide +kernel
theorem dX7_taken_19 : decode cX7_taken 19 = .ok (.iconst 1, 1) := by decide +kernel
theorem dX7_taken_20 : decode cX7_taken 20 = .ok (.invokevirtual 61, 3) := by decide +kernel
theorem dX7_taken_23 : decode cX7_taken 23 = .ok (.ireturn, 1) := by decide +kernel
theorem dX7_call_0 : decode cX7_call 0 = .ok (.aload_n 0, 1) := by decide +kernel
theorem dX7_call_1 : decode cX7_call 1 = .ok (.iload_n 1, 1) := by decide +kernel
theorem dX7_call_2 : decode cX7_call 2 = .ok (.iload_n 2, 1) := by decide +kernel
theorem dX7_call_3 : decode cX7_call 3 = .ok (.invokevirtual 168, 3) := by decide +kernel
theorem dX7_call_6 : decode cX7_call 6 = .ok (.ifCond .eq 12, 3) := by decide +kernel
theorem dX7_call_9 : decode cX7_call 9 = .ok (.aload_n 0, 1) := by decide +kernel
theorem dX7_call_10 : decode cX7_call 10 = .ok (.iload_n 1, 1) := by decide +kernel
theorem dX7_call_11 : decode cX7_call 11 = .ok (.iload_n 2, 1) := by decide +kernel
theorem dX7_call_12 : decode cX7_call 12 = .ok (.invokevirtual 172, 3) := by decide +kernel
theorem dX7_call_15 : decode cX7_call 15 = .ok (.goto 8, 3) := by decide +kernel
theorem dX7_call_18 : decode cX7_call 18 = .ok (.aload_n 0, 1) := by decide +kernel
theorem dX7_call_19 : decode cX7_call 19 = .ok (.iconst 1, 1) := by decide +kernel
theorem dX7_call_20 : decode cX7_call 20 = .ok (.invokevirtual 61, 3) := by decide +kernel
theorem dX7_call_23 : decode cX7_call 23 = .ok (.ireturn, 1) := by decide +kernel
theorem dX7_law_0 : decode cX7_law 0 = .ok (.iload_n 1, 1) := by decide +kernel
theorem dX7_law_1 : decode cX7_law 1 = .ok (.iconst 0, 1) := by decide +kernel
theorem dX7_law_2 : decode cX7_law 2 = .ok (.iconst 1, 1) := by decide +kernel
theorem dX7_law_3 : decode cX7_law 3 = .ok (.invokestatic 53, 3) := by decide +kernel
theorem dX7_law_6 : decode cX7_law 6 = .ok (.ifCond .ne 9, 3) := by decide +kernel
theorem dX7_law_9 : decode cX7_law 9 = .ok (.aload_n 0, 1) := by decide +kernel
theorem dX7_law_10 : decode cX7_law 10 = .ok (.iconst 1, 1) := by decide +kernel
theorem dX7_law_11 : decode cX7_law 11 = .ok (.invokevirtual 61, 3) := by decide +kernel
theorem dX7_law_14 : decode cX7_law 14 = .ok (.ireturn, 1) := by decide +kernel
theorem dX7_law_15 : decode cX7_law 15 = .ok (.iload_n 1, 1) := by decide +kernel
theorem dX7_law_16 : decode cX7_law 16 = .ok (.ifCond .ne 14, 3) := by decide +kernel
theorem dX7_law_19 : decode cX7_law 19 = .ok (.aload_n 0, 1) := by decide +kernel
theorem dX7_law_20 : decode cX7_law 20 = .ok (.iload_n 2, 1) := by decide +kernel
theorem dX7_law_21 : decode cX7_law 21 = .ok (.iload_n 3, 1) := by decide +kernel
theorem dX7_law_22 : decode cX7_law 22 = .ok (.iload 4, 2) := by decide +kernel
theorem dX7_law_24 : decode cX7_law 24 = .ok (.invokevirtual 133, 3) := by decide +kernel
theorem dX7_law_27 : decode cX7_law 27 = .ok (.goto 11, 3) := by decide +kernel
theorem dX7_law_30 : decode cX7_law 30 = .ok (.aload_n 0, 1) := by decide +kernel
theorem dX7_law_31 : decode cX7_law 31 = .ok (.iload_n 2, 1) := by decide +kernel
theorem dX7_law_32 : decode cX7_law 32 = .ok (.iload_n 3, 1) := by decide +kernel
theorem dX7_law_33 : decode cX7_law 33 = .ok (.iload 4, 2) := by decide +kernel
theorem dX7_law_35 : decode cX7_law 35 = .ok (.invokevirtual 139, 3) := by decide +kernel
theorem dX7_law_38 : decode cX7_law 38 = .ok (.ireturn, 1) := by decide +kernel
theorem dX7_whyNot_0 : decode cX7_whyNot 0 = .ok (.iload_n 1, 1) := by decide +kernel
theorem dX7_whyNot_1 : decode cX7_whyNot 1 = .ok (.iconst 1, 1) := by decide +kernel
theorem dX7_whyNot_2 : decode cX7_whyNot 2 = .ok (.iload_n 2, 1) := by decide +kernel
theorem dX7_whyNot_3 : decode cX7_whyNot 3 = .ok (.invokestatic 53, 3) := by decide +kernel
theorem dX7_whyNot_6 : decode cX7_whyNot 6 = .ok (.ifCond .ne 7, 3) := by decide +kernel
theorem dX7_whyNot_9 : decode cX7_whyNot 9 = .ok (.iconst 1, 1) := by decide +kernel
theorem dX7_whyNot_10 : decode cX7_whyNot 10 = .ok (.goto 22, 3) := by decide +kernel
theorem dX7_whyNot_13 : decode cX7_whyNot 13 = .ok (.aload_n 0, 1) := by decide +kernel
theorem dX7_whyNot_14 : decode cX7_whyNot 14 = .ok (.getfield 7, 3) := by decide +kernel
theorem dX7_whyNot_17 : decode cX7_whyNot 17 = .ok (.iconst 0, 1) := by decide +kernel
theorem dX7_whyNot_18 : decode cX7_whyNot 18 = .ok (.iaload, 1) := by decide +kernel
theorem dX7_whyNot_19 : decode cX7_whyNot 19 = .ok (.iload_n 1, 1) := by decide +kernel
theorem dX7_whyNot_20 : decode cX7_whyNot 20 = .ok (.iadd, 1) := by decide +kernel
theorem dX7_whyNot_21 : decode cX7_whyNot 21 = .ok (.sipush 9999, 3) := by decide +kernel
theorem dX7_whyNot_24 : decode cX7_whyNot 24 = .ok (.if_icmp .le 7, 3) := by decide +kernel
theorem dX7_whyNot_27 : decode cX7_whyNot 27 = .ok (.iconst 3, 1) := by decide +kernel
theorem dX7_whyNot_28 : decode cX7_whyNot 28 = .ok (.goto 4, 3) := by decide +kernel
theorem dX7_whyNot_31 : decode cX7_whyNot 31 = .ok (.iconst 0, 1) := by decide +kernel
theorem dX7_whyNot_32 : decode cX7_whyNot 32 = .ok (.ireturn, 1) := by decide +kernel
theorem dX7_days_0 : decode cX7_days 0 = .ok (.aload_n 0, 1) := by decide +kernel
theorem dX7_days_1 : decode cX7_days 1 = .ok (.iload_n 1, 1) := by decide +kernel
theorem dX7_days_2 : decode cX7_days 2 = .ok (.bipush 100, 2) := by decide +kernel
theorem dX7_days_4 : decode cX7_days 4 = .ok (.invokevirtual 175, 3) := by decide +kernel
theorem dX7_days_7 : decode cX7_days 7 = .ok (.istore_n 2, 1) := by decide +kernel
theorem dX7_days_8 : decode cX7_days 8 = .ok (.iload_n 2, 1) := by decide +kernel
theorem dX7_days_9 : decode cX7_days 9 = .ok (.ifCond .eq 9, 3) := by decide +kernel
theorem dX7_days_12 : decode cX7_days 12 = .ok (.aload_n 0, 1) := by decide +kernel
theorem dX7_days_13 : decode cX7_days 13 = .ok (.iload_n 2, 1) := by decide +kernel
theorem dX7_days_14 : decode cX7_days 14 = .ok (.invokevirtual 61, 3) := by decide +kernel
theorem dX7_days_17 : decode cX7_days 17 = .ok (.ireturn, 1) := by decide +kernel
theorem dX7_days_18 : decode cX7_days 18 = .ok (.aload_n 0, 1) := by decide +kernel
theorem dX7_days_19 : decode cX7_days 19 = .ok (.iload_n 1, 1) := by decide +kernel
theorem dX7_days_20 : decode cX7_days 20 = .ok (.invokevirtual 178, 3) := by decide +kernel
theorem dX7_days_23 : decode cX7_days 23 = .ok (.aload_n 0, 1) := by decide +kernel
theorem dX7_days_24 : decode cX7_days 24 = .ok (.getfield 7, 3) := by decide +kernel
theorem dX7_days_27 : decode cX7_days 27 = .ok (.iconst 0, 1) := by decide +kernel
theorem dX7_days_28 : decode cX7_days 28 = .ok (.iaload, 1) := by decide +kernel
theorem dX7_days_29 : decode cX7_days 29 = .ok (.ireturn, 1) := by decide +kernel
theorem dX7_errands_0 : decode cX7_errands 0 = .ok (.aload_n 0, 1) := by decide +kernel
theorem dX7_errands_1 : decode cX7_errands 1 = .ok (.invokevirtual 182, 3) := by decide +kernel
theorem dX7_errands_4 : decode cX7_errands 4 = .ok (.aload_n 0, 1) := by decide +kernel
theorem dX7_errands_5 : decode cX7_errands 5 = .ok (.getfield 7, 3) := by decide +kernel
theorem dX7_errands_8 : decode cX7_errands 8 = .ok (.iconst 4, 1) := by decide +kernel
theorem dX7_errands_9 : decode cX7_errands 9 = .ok (.iaload, 1) := by decide +kernel
theorem dX7_errands_10 : decode cX7_errands 10 = .ok (.irem, 1) := by decide +kernel
theorem dX7_errands_11 : decode cX7_errands 11 = .ok (.istore_n 1, 1) := by decide +kernel
theorem dX7_errands_12 : decode cX7_errands 12 = .ok (.aload_n 0, 1) := by decide +kernel
theorem dX7_errands_13 : decode cX7_errands 13 = .ok (.iload_n 1, 1) := by decide +kernel
theorem dX7_errands_14 : decode cX7_errands 14 = .ok (.iconst 3, 1) := by decide +kernel
theorem dX7_errands_15 : decode cX7_errands 15 = .ok (.aload_n 0, 1) := by decide +kernel
theorem dX7_errands_16 : decode cX7_errands 16 = .ok (.invokevirtual 182, 3) := by decide +kernel
theorem dX7_errands_19 : decode cX7_errands 19 = .ok (.bipush 10, 2) := by decide +kernel
theorem dX7_errands_21 : decode cX7_errands 21 = .ok (.irem, 1) := by decide +kernel
theorem dX7_errands_22 : decode cX7_errands 22 = .ok (.invokevirtual 151, 3) := by decide +kernel
theorem dX7_errands_25 : decode cX7_errands 25 = .ok (.aload_n 0, 1) := by decide +kernel
theorem dX7_errands_26 : decode cX7_errands 26 = .ok (.invokevirtual 182, 3) := by decide +kernel
theorem dX7_errands_29 : decode cX7_errands 29 = .ok (.aload_n 0, 1) := by decide +kernel
theorem dX7_errands_30 : decode cX7_errands 30 = .ok (.getfield 7, 3) := by decide +kernel
theorem dX7_errands_33 : decode cX7_errands 33 = .ok (.iconst 4, 1) := by decide +kernel
theorem dX7_errands_34 : decode cX7_errands 34 = .ok (.iaload, 1) := by decide +kernel
theorem dX7_errands_35 : decode cX7_errands 35 = .ok (.irem, 1) := by decide +kernel
theorem dX7_errands_36 : decode cX7_errands 36 = .ok (.istore_n 2, 1) := by decide +kernel
theorem dX7_errands_37 : decode cX7_errands 37 = .ok (.aload_n 0, 1) := by decide +kernel
theorem dX7_errands_38 : decode cX7_errands 38 = .ok (.invokevirtual 182, 3) := by decide +kernel
theorem dX7_errands_41 : decode cX7_errands 41 = .ok (.aload_n 0, 1) := by decide +kernel
theorem dX7_errands_42 : decode cX7_errands 42 = .ok (.getfield 7, 3) := by decide +kernel
theorem dX7_errands_45 : decode cX7_errands 45 = .ok (.iconst 4, 1) := by decide +kernel
theorem dX7_errands_46 : decode cX7_errands 46 = .ok (.iaload, 1) := by decide +kernel
theorem dX7_errands_47 : decode cX7_errands 47 = .ok (.irem, 1) := by decide +kernel
theorem dX7_errands_48 : decode cX7_errands 48 = .ok (.istore_n 3, 1) := by decide +kernel
theorem dX7_errands_49 : decode cX7_errands 49 = .ok (.iload_n 2, 1) := by decide +kernel
theorem dX7_errands_50 : decode cX7_errands 50 = .ok (.iload_n 3, 1) := by decide +kernel
theorem dX7_errands_51 : decode cX7_errands 51 = .ok (.if_icmp .eq 11, 3) := by decide +kernel
theorem dX7_errands_54 : decode cX7_errands 54 = .ok (.aload_n 0, 1) := by decide +kernel
theorem dX7_errands_55 : decode cX7_errands 55 = .ok (.iload_n 2, 1) := by decide +kernel
theorem dX7_errands_56 : decode cX7_errands 56 = .ok (.iload_n 3, 1) := by decide +kernel
theorem dX7_errands_57 : decode cX7_errands 57 = .ok (.invokevirtual 172, 3) := by decide +kernel
theorem dX7_errands_60 : decode cX7_errands 60 = .ok (.istore 4, 2) := by decide +kernel
theorem dX7_errands_62 : decode cX7_errands 62 = .ok (.return_, 1) := by decide +kernel
theorem dX7_loose_0 : decode cX7_loose 0 = .ok (.aload_n 0, 1) := by decide +kernel
theorem dX7_loose_1 : decode cX7_loose 1 = .ok (.iload_n 1, 1) := by decide +kernel
theorem dX7_loose_2 : decode cX7_loose 2 = .ok (.bipush 30, 2) := by decide +kernel
theorem dX7_loose_4 : decode cX7_loose 4 = .ok (.invokevirtual 175, 3) := by decide +kernel
theorem dX7_loose_7 : decode cX7_loose 7 = .ok (.istore_n 2, 1) := by decide +kernel
theorem dX7_loose_8 : decode cX7_loose 8 = .ok (.iload_n 2, 1) := by decide +kernel
theorem dX7_loose_9 : decode cX7_loose 9 = .ok (.ifCond .eq 9, 3) := by decide +kernel
theorem dX7_loose_12 : decode cX7_loose 12 = .ok (.aload_n 0, 1) := by decide +kernel
theorem dX7_loose_13 : decode cX7_loose 13 = .ok (.iload_n 2, 1) := by decide +kernel
theorem dX7_loose_14 : decode cX7_loose 14 = .ok (.invokevirtual 61, 3) := by decide +kernel
theorem dX7_loose_17 : decode cX7_loose 17 = .ok (.ireturn, 1) := by decide +kernel
theorem dX7_loose_18 : decode cX7_loose 18 = .ok (.iconst 0, 1) := by decide +kernel
theorem dX7_loose_19 : decode cX7_loose 19 = .ok (.istore_n 3, 1) := by decide +kernel
theorem dX7_loose_20 : decode cX7_loose 20 = .ok (.iload_n 3, 1) := by decide +kernel
theorem dX7_loose_21 : decode cX7_loose 21 = .ok (.iload_n 1, 1) := by decide +kernel
theorem dX7_loose_22 : decode cX7_loose 22 = .ok (.if_icmp .ge 27, 3) := by decide +kernel
theorem dX7_loose_25 : decode cX7_loose 25 = .ok (.aload_n 0, 1) := by decide +kernel
theorem dX7_loose_26 : decode cX7_loose 26 = .ok (.getfield 7, 3) := by decide +kernel
theorem dX7_loose_29 : decode cX7_loose 29 = .ok (.iconst 4, 1) := by decide +kernel
theorem dX7_loose_30 : decode cX7_loose 30 = .ok (.iaload, 1) := by decide +kernel
theorem dX7_loose_31 : decode cX7_loose 31 = .ok (.iconst 1, 1) := by decide +kernel
theorem dX7_loose_32 : decode cX7_loose 32 = .ok (.if_icmp .le 7, 3) := by decide +kernel
theorem dX7_loose_35 : decode cX7_loose 35 = .ok (.aload_n 0, 1) := by decide +kernel
theorem dX7_loose_36 : decode cX7_loose 36 = .ok (.invokevirtual 185, 3) := by decide +kernel
theorem dX7_loose_39 : decode cX7_loose 39 = .ok (.aload_n 0, 1) := by decide +kernel
theorem dX7_loose_40 : decode cX7_loose 40 = .ok (.invokevirtual 155, 3) := by decide +kernel
theorem dX7_loose_43 : decode cX7_loose 43 = .ok (.iinc 3 1, 3) := by decide +kernel
theorem dX7_loose_46 : decode cX7_loose 46 = .ok (.goto (-26), 3) := by decide +kernel
theorem dX7_loose_49 : decode cX7_loose 49 = .ok (.aload_n 0, 1) := by decide +kernel
theorem dX7_loose_50 : decode cX7_loose 50 = .ok (.invokevirtual 188, 3) := by decide +kernel
theorem dX7_loose_53 : decode cX7_loose 53 = .ok (.ireturn, 1) := by decide +kernel
theorem dX7_seed_0 : decode cX7_seed 0 = .ok (.aload_n 0, 1) := by decide +kernel
theorem dX7_seed_1 : decode cX7_seed 1 = .ok (.iconst 1, 1) := by decide +kernel
theorem dX7_seed_2 : decode cX7_seed 2 = .ok (.iload_n 1, 1) := by decide +kernel
theorem dX7_seed_3 : decode cX7_seed 3 = .ok (.invokevirtual 162, 3) := by decide +kernel
theorem dX7_seed_6 : decode cX7_seed 6 = .ok (.ireturn, 1) := by decide +kernel
theorem dX7_nearest_0 : decode cX7_nearest 0 = .ok (.iload_n 1, 1) := by decide +kernel
theorem dX7_nearest_1 : decode cX7_nearest 1 = .ok (.iconst 0, 1) := by decide +kernel
theorem dX7_nearest_2 : decode cX7_nearest 2 = .ok (.bipush 100, 2) := by decide +kernel
theorem dX7_nearest_4 : decode cX7_nearest 4 = .ok (.invokestatic 53, 3) := by decide +kernel
theorem dX7_nearest_7 : decode cX7_nearest 7 = .ok (.ifCond .ne 9, 3) := by decide +kernel
theorem dX7_nearest_10 : decode cX7_nearest 10 = .ok (.aload_n 0, 1) := by decide +kernel
theorem dX7_nearest_11 : decode cX7_nearest 11 = .ok (.iconst 1, 1) := by decide +kernel
theorem dX7_nearest_12 : decode cX7_nearest 12 = .ok (.invokevirtual 61, 3) := by decide +kernel
theorem dX7_nearest_15 : decode cX7_nearest 15 = .ok (.ireturn, 1) := by decide +kernel
theorem dX7_nearest_16 : decode cX7_nearest 16 = .ok (.aload_n 0, 1) := by decide +kernel
theorem dX7_nearest_17 : decode cX7_nearest 17 = .ok (.getfield 7, 3) := by decide +kernel
theorem dX7_nearest_20 : decode cX7_nearest 20 = .ok (.iconst 4, 1) := by decide +kernel
theorem dX7_nearest_21 : decode cX7_nearest 21 = .ok (.iaload, 1) := by decide +kernel
theorem dX7_nearest_22 : decode cX7_nearest 22 = .ok (.ifCond .ne 9, 3) := by decide +kernel
theorem dX7_nearest_25 : decode cX7_nearest 25 = .ok (.aload_n 0, 1) := by decide +kernel
theorem dX7_nearest_26 : decode cX7_nearest 26 = .ok (.iconst 3, 1) := by decide +kernel
theorem dX7_nearest_27 : decode cX7_nearest 27 = .ok (.invokevirtual 61, 3) := by decide +kernel
theorem dX7_nearest_30 : decode cX7_nearest 30 = .ok (.ireturn, 1) := by decide +kernel
theorem dX7_nearest_31 : decode cX7_nearest 31 = .ok (.aload_n 0, 1) := by decide +kernel
theorem dX7_nearest_32 : decode cX7_nearest 32 = .ok (.invokevirtual 191, 3) := by decide +kernel
theorem dX7_nearest_35 : decode cX7_nearest 35 = .ok (.aload_n 0, 1) := by decide +kernel
theorem dX7_nearest_36 : decode cX7_nearest 36 = .ok (.iload_n 1, 1) := by decide +kernel
theorem dX7_nearest_37 : decode cX7_nearest 37 = .ok (.invokevirtual 178, 3) := by decide +kernel
theorem dX7_nearest_40 : decode cX7_nearest 40 = .ok (.aload_n 0, 1) := by decide +kernel
theorem dX7_nearest_41 : decode cX7_nearest 41 = .ok (.invokevirtual 188, 3) := by decide +kernel
theorem dX7_nearest_44 : decode cX7_nearest 44 = .ok (.istore_n 2, 1) := by decide +kernel
theorem dX7_nearest_45 : decode cX7_nearest 45 = .ok (.aload_n 0, 1) := by decide +kernel
theorem dX7_nearest_46 : decode cX7_nearest 46 = .ok (.invokevirtual 194, 3) := by decide +kernel
theorem dX7_nearest_49 : decode cX7_nearest 49 = .ok (.iload_n 2, 1) := by decide +kernel
theorem dX7_nearest_50 : decode cX7_nearest 50 = .ok (.ireturn, 1) := by decide +kernel
theorem dX7_then_0 : decode cX7_then 0 = .ok (.aload_n 0, 1) := by decide +kernel
theorem dX7_then_1 : decode cX7_then 1 = .ok (.iload_n 1, 1) := by decide +kernel
theorem dX7_then_2 : decode cX7_then 2 = .ok (.invokevirtual 57, 3) := by decide +kernel
theorem dX7_then_5 : decode cX7_then 5 = .ok (.ifCond .eq 22, 3) := by decide +kernel
theorem dX7_then_8 : decode cX7_then 8 = .ok (.iload_n 2, 1) := by decide +kernel
theorem dX7_then_9 : decode cX7_then 9 = .ok (.iconst 0, 1) := by decide +kernel
theorem dX7_then_10 : decode cX7_then 10 = .ok (.bipush 100, 2) := by decide +kernel
theorem dX7_then_12 : decode cX7_then 12 = .ok (.invokestatic 53, 3) := by decide +kernel
theorem dX7_then_15 : decode cX7_then 15 = .ok (.ifCond .eq 12, 3) := by decide +kernel
theorem dX7_then_18 : decode cX7_then 18 = .ok (.iload_n 3, 1) := by decide +kernel
theorem dX7_then_19 : decode cX7_then 19 = .ok (.iconst 0, 1) := by decide +kernel
theorem dX7_then_20 : decode cX7_then 20 = .ok (.iconst 1, 1) := by decide +kernel
theorem dX7_then_21 : decode cX7_then 21 = .ok (.invokestatic 53, 3) := by decide +kernel
theorem dX7_then_24 : decode cX7_then 24 = .ok (.ifCond .ne 9, 3) := by decide +kernel
theorem dX7_then_27 : decode cX7_then 27 = .ok (.aload_n 0, 1) := by decide +kernel
theorem dX7_then_28 : decode cX7_then 28 = .ok (.iconst 1, 1) := by decide +kernel
theorem dX7_then_29 : decode cX7_then 29 = .ok (.invokevirtual 61, 3) := by decide +kernel
theorem dX7_then_32 : decode cX7_then 32 = .ok (.ireturn, 1) := by decide +kernel
theorem dX7_then_33 : decode cX7_then 33 = .ok (.aload_n 0, 1) := by decide +kernel
theorem dX7_then_34 : decode cX7_then 34 = .ok (.invokevirtual 191, 3) := by decide +kernel
theorem dX7_then_37 : decode cX7_then 37 = .ok (.aload_n 0, 1) := by decide +kernel
theorem dX7_then_38 : decode cX7_then 38 = .ok (.iload_n 2, 1) := by decide +kernel
theorem dX7_then_39 : decode cX7_then 39 = .ok (.invokevirtual 178, 3) := by decide +kernel
theorem dX7_then_42 : decode cX7_then 42 = .ok (.aload_n 0, 1) := by decide +kernel
theorem dX7_then_43 : decode cX7_then 43 = .ok (.iload_n 1, 1) := by decide +kernel
theorem dX7_then_44 : decode cX7_then 44 = .ok (.iconst 2, 1) := by decide +kernel
theorem dX7_then_45 : decode cX7_then 45 = .ok (.iload_n 3, 1) := by decide +kernel
theorem dX7_then_46 : decode cX7_then 46 = .ok (.iadd, 1) := by decide +kernel
theorem dX7_then_47 : decode cX7_then 47 = .ok (.invokevirtual 120, 3) := by decide +kernel
theorem dX7_then_50 : decode cX7_then 50 = .ok (.istore 4, 2) := by decide +kernel
theorem dX7_then_52 : decode cX7_then 52 = .ok (.aload_n 0, 1) := by decide +kernel
theorem dX7_then_53 : decode cX7_then 53 = .ok (.invokevirtual 194, 3) := by decide +kernel
theorem dX7_then_56 : decode cX7_then 56 = .ok (.iload 4, 2) := by decide +kernel
theorem dX7_then_58 : decode cX7_then 58 = .ok (.ireturn, 1) := by decide +kernel
theorem dX7_isSettled_0 : decode cX7_isSettled 0 = .ok (.aload_n 0, 1) := by decide +kernel
theorem dX7_isSettled_1 : decode cX7_isSettled 1 = .ok (.invokevirtual 148, 3) := by decide +kernel
theorem dX7_isSettled_4 : decode cX7_isSettled 4 = .ok (.iconst 1, 1) := by decide +kernel
theorem dX7_isSettled_5 : decode cX7_isSettled 5 = .ok (.istore_n 1, 1) := by decide +kernel
theorem dX7_isSettled_6 : decode cX7_isSettled 6 = .ok (.iconst 0, 1) := by decide +kernel
theorem dX7_isSettled_7 : decode cX7_isSettled 7 = .ok (.istore_n 2, 1) := by decide +kernel
theorem dX7_isSettled_8 : decode cX7_isSettled 8 = .ok (.iload_n 2, 1) := by decide +kernel
theorem dX7_isSettled_9 : decode cX7_isSettled 9 = .ok (.aload_n 0, 1) := by decide +kernel
theorem dX7_isSettled_10 : decode cX7_isSettled 10 = .ok (.getfield 7, 3) := by decide +kernel
theorem dX7_isSettled_13 : decode cX7_isSettled 13 = .ok (.iconst 4, 1) := by decide +kernel
theorem dX7_isSettled_14 : decode cX7_isSettled 14 = .ok (.iaload, 1) := by decide +kernel
theorem dX7_isSettled_15 : decode cX7_isSettled 15 = .ok (.if_icmp .ge 49, 3) := by decide +kernel
theorem dX7_isSettled_18 : decode cX7_isSettled 18 = .ok (.iload_n 1, 1) := by decide +kernel
theorem dX7_isSettled_19 : decode cX7_isSettled 19 = .ok (.ifCond .eq 37, 3) := by decide +kernel
theorem dX7_isSettled_22 : decode cX7_isSettled 22 = .ok (.aload_n 0, 1) := by decide +kernel
theorem dX7_isSettled_23 : decode cX7_isSettled 23 = .ok (.getfield 31, 3) := by decide +kernel
theorem dX7_isSettled_26 : decode cX7_isSettled 26 = .ok (.iload_n 2, 1) := by decide +kernel
theorem dX7_isSettled_27 : decode cX7_isSettled 27 = .ok (.iaload, 1) := by decide +kernel
theorem dX7_isSettled_28 : decode cX7_isSettled 28 = .ok (.aload_n 0, 1) := by decide +kernel
theorem dX7_isSettled_29 : decode cX7_isSettled 29 = .ok (.iload_n 2, 1) := by decide +kernel
theorem dX7_isSettled_30 : decode cX7_isSettled 30 = .ok (.iconst 2, 1) := by decide +kernel
theorem dX7_isSettled_31 : decode cX7_isSettled 31 = .ok (.invokevirtual 120, 3) := by decide +kernel
theorem dX7_isSettled_34 : decode cX7_isSettled 34 = .ok (.if_icmp .ne 22, 3) := by decide +kernel
theorem dX7_isSettled_37 : decode cX7_isSettled 37 = .ok (.aload_n 0, 1) := by decide +kernel
theorem dX7_isSettled_38 : decode cX7_isSettled 38 = .ok (.getfield 34, 3) := by decide +kernel
theorem dX7_isSettled_41 : decode cX7_isSettled 41 = .ok (.iload_n 2, 1) := by decide +kernel
theorem dX7_isSettled_42 : decode cX7_isSettled 42 = .ok (.iaload, 1) := by decide +kernel
theorem dX7_isSettled_43 : decode cX7_isSettled 43 = .ok (.aload_n 0, 1) := by decide +kernel
theorem dX7_isSettled_44 : decode cX7_isSettled 44 = .ok (.iload_n 2, 1) := by decide +kernel
theorem dX7_isSettled_45 : decode cX7_isSettled 45 = .ok (.iconst 3, 1) := by decide +kernel
theorem dX7_isSettled_46 : decode cX7_isSettled 46 = .ok (.invokevirtual 120, 3) := by decide +kernel
theorem dX7_isSettled_49 : decode cX7_isSettled 49 = .ok (.if_icmp .ne 7, 3) := by decide +kernel
theorem dX7_isSettled_52 : decode cX7_isSettled 52 = .ok (.iconst 1, 1) := by decide +kernel
theorem dX7_isSettled_53 : decode cX7_isSettled 53 = .ok (.goto 4, 3) := by decide +kernel
theorem dX7_isSettled_56 : decode cX7_isSettled 56 = .ok (.iconst 0, 1) := by decide +kernel
theorem dX7_isSettled_57 : decode cX7_isSettled 57 = .ok (.istore_n 1, 1) := by decide +kernel
theorem dX7_isSettled_58 : decode cX7_isSettled 58 = .ok (.iinc 2 1, 3) := by decide +kernel
theorem dX7_isSettled_61 : decode cX7_isSettled 61 = .ok (.goto (-53), 3) := by decide +kernel
theorem dX7_isSettled_64 : decode cX7_isSettled 64 = .ok (.iload_n 1, 1) := by decide +kernel
theorem dX7_isSettled_65 : decode cX7_isSettled 65 = .ok (.ireturn, 1) := by decide +kernel
theorem dX7_settles_0 : decode cX7_settles 0 = .ok (.aload_n 0, 1) := by decide +kernel
theorem dX7_settles_1 : decode cX7_settles 1 = .ok (.invokevirtual 191, 3) := by decide +kernel
theorem dX7_settles_4 : decode cX7_settles 4 = .ok (.iconst 0, 1) := by decide +kernel
theorem dX7_settles_5 : decode cX7_settles 5 = .ok (.istore_n 1, 1) := by decide +kernel
theorem dX7_settles_6 : decode cX7_settles 6 = .ok (.iload_n 1, 1) := by decide +kernel
theorem dX7_settles_7 : decode cX7_settles 7 = .ok (.bipush 100, 2) := by decide +kernel
theorem dX7_settles_9 : decode cX7_settles 9 = .ok (.if_icmp .gt 20, 3) := by decide +kernel
theorem dX7_settles_12 : decode cX7_settles 12 = .ok (.aload_n 0, 1) := by decide +kernel
theorem dX7_settles_13 : decode cX7_settles 13 = .ok (.invokevirtual 197, 3) := by decide +kernel
theorem dX7_settles_16 : decode cX7_settles 16 = .ok (.ifCond .ne 13, 3) := by decide +kernel
theorem dX7_settles_19 : decode cX7_settles 19 = .ok (.aload_n 0, 1) := by decide +kernel
theorem dX7_settles_20 : decode cX7_settles 20 = .ok (.invokevirtual 155, 3) := by decide +kernel
theorem dX7_settles_23 : decode cX7_settles 23 = .ok (.iinc 1 1, 3) := by decide +kernel
theorem dX7_settles_26 : decode cX7_settles 26 = .ok (.goto (-20), 3) := by decide +kernel
theorem dX7_settles_29 : decode cX7_settles 29 = .ok (.aload_n 0, 1) := by decide +kernel
theorem dX7_settles_30 : decode cX7_settles 30 = .ok (.invokevirtual 194, 3) := by decide +kernel
theorem dX7_settles_33 : decode cX7_settles 33 = .ok (.iload_n 1, 1) := by decide +kernel
theorem dX7_settles_34 : decode cX7_settles 34 = .ok (.bipush 100, 2) := by decide +kernel
theorem dX7_settles_36 : decode cX7_settles 36 = .ok (.if_icmp .le 11, 3) := by decide +kernel
theorem dX7_settles_39 : decode cX7_settles 39 = .ok (.aload_n 0, 1) := by decide +kernel
theorem dX7_settles_40 : decode cX7_settles 40 = .ok (.iconst 2, 1) := by decide +kernel
theorem dX7_settles_41 : decode cX7_settles 41 = .ok (.invokevirtual 61, 3) := by decide +kernel
theorem dX7_settles_44 : decode cX7_settles 44 = .ok (.goto 4, 3) := by decide +kernel
theorem dX7_settles_47 : decode cX7_settles 47 = .ok (.iload_n 1, 1) := by decide +kernel
theorem dX7_settles_48 : decode cX7_settles 48 = .ok (.ireturn, 1) := by decide +kernel
theorem dX7_rank_0 : decode cX7_rank 0 = .ok (.aload_n 0, 1) := by decide +kernel
theorem dX7_rank_1 : decode cX7_rank 1 = .ok (.iload_n 1, 1) := by decide +kernel
theorem dX7_rank_2 : decode cX7_rank 2 = .ok (.invokevirtual 57, 3) := by decide +kernel
theorem dX7_rank_5 : decode cX7_rank 5 = .ok (.ifCond .ne 9, 3) := by decide +kernel
theorem dX7_rank_8 : decode cX7_rank 8 = .ok (.aload_n 0, 1) := by decide +kernel
theorem dX7_rank_9 : decode cX7_rank 9 = .ok (.iconst 1, 1) := by decide +kernel
theorem dX7_rank_10 : decode cX7_rank 10 = .ok (.invokevirtual 61, 3) := by decide +kernel
theorem dX7_rank_13 : decode cX7_rank 13 = .ok (.ireturn, 1) := by decide +kernel
theorem dX7_rank_14 : decode cX7_rank 14 = .ok (.iconst 0, 1) := by decide +kernel
theorem dX7_rank_15 : decode cX7_rank 15 = .ok (.istore_n 2, 1) := by decide +kernel
theorem dX7_rank_16 : decode cX7_rank 16 = .ok (.iconst 0, 1) := by decide +kernel
theorem dX7_rank_17 : decode cX7_rank 17 = .ok (.istore_n 3, 1) := by decide +kernel
theorem dX7_rank_18 : decode cX7_rank 18 = .ok (.iload_n 3, 1) := by decide +kernel
theorem dX7_rank_19 : decode cX7_rank 19 = .ok (.aload_n 0, 1) := by decide +kernel
theorem dX7_rank_20 : decode cX7_rank 20 = .ok (.getfield 7, 3) := by decide +kernel
theorem dX7_rank_23 : decode cX7_rank 23 = .ok (.iconst 4, 1) := by decide +kernel
theorem dX7_rank_24 : decode cX7_rank 24 = .ok (.iaload, 1) := by decide +kernel
theorem dX7_rank_25 : decode cX7_rank 25 = .ok (.if_icmp .ge 32, 3) := by decide +kernel
theorem dX7_rank_28 : decode cX7_rank 28 = .ok (.iload_n 2, 1) := by decide +kernel
theorem dX7_rank_29 : decode cX7_rank 29 = .ok (.aload_n 0, 1) := by decide +kernel
theorem dX7_rank_30 : decode cX7_rank 30 = .ok (.iload_n 3, 1) := by decide +kernel
theorem dX7_rank_31 : decode cX7_rank 31 = .ok (.iconst 2, 1) := by decide +kernel
theorem dX7_rank_32 : decode cX7_rank 32 = .ok (.invokevirtual 120, 3) := by decide +kernel
theorem dX7_rank_35 : decode cX7_rank 35 = .ok (.aload_n 0, 1) := by decide +kernel
theorem dX7_rank_36 : decode cX7_rank 36 = .ok (.iload_n 1, 1) := by decide +kernel
theorem dX7_rank_37 : decode cX7_rank 37 = .ok (.iconst 2, 1) := by decide +kernel
theorem dX7_rank_38 : decode cX7_rank 38 = .ok (.invokevirtual 120, 3) := by decide +kernel
theorem dX7_rank_41 : decode cX7_rank 41 = .ok (.if_icmp .le 7, 3) := by decide +kernel
theorem dX7_rank_44 : decode cX7_rank 44 = .ok (.iconst 1, 1) := by decide +kernel
theorem dX7_rank_45 : decode cX7_rank 45 = .ok (.goto 4, 3) := by decide +kernel
theorem dX7_rank_48 : decode cX7_rank 48 = .ok (.iconst 0, 1) := by decide +kernel
theorem dX7_rank_49 : decode cX7_rank 49 = .ok (.iadd, 1) := by decide +kernel
theorem dX7_rank_50 : decode cX7_rank 50 = .ok (.istore_n 2, 1) := by decide +kernel
theorem dX7_rank_51 : decode cX7_rank 51 = .ok (.iinc 3 1, 3) := by decide +kernel
theorem dX7_rank_54 : decode cX7_rank 54 = .ok (.goto (-36), 3) := by decide +kernel
theorem dX7_rank_57 : decode cX7_rank 57 = .ok (.iload_n 2, 1) := by decide +kernel
theorem dX7_rank_58 : decode cX7_rank 58 = .ok (.ireturn, 1) := by decide +kernel
theorem dX7_manyIn_0 : decode cX7_manyIn 0 = .ok (.iconst 0, 1) := by decide +kernel
theorem dX7_manyIn_1 : decode cX7_manyIn 1 = .ok (.istore_n 1, 1) := by decide +kernel
theorem dX7_manyIn_2 : decode cX7_manyIn 2 = .ok (.iconst 0, 1) := by decide +kernel
theorem dX7_manyIn_3 : decode cX7_manyIn 3 = .ok (.istore_n 2, 1) := by decide +kernel
theorem dX7_manyIn_4 : decode cX7_manyIn 4 = .ok (.iload_n 2, 1) := by decide +kernel
theorem dX7_manyIn_5 : decode cX7_manyIn 5 = .ok (.bipush 8, 2) := by decide +kernel
theorem dX7_manyIn_7 : decode cX7_manyIn 7 = .ok (.if_icmp .ge 17, 3) := by decide +kernel
theorem dX7_manyIn_10 : decode cX7_manyIn 10 = .ok (.iload_n 1, 1) := by decide +kernel
theorem dX7_manyIn_11 : decode cX7_manyIn 11 = .ok (.iload_n 0, 1) := by decide +kernel
theorem dX7_manyIn_12 : decode cX7_manyIn 12 = .ok (.iload_n 2, 1) := by decide +kernel
theorem dX7_manyIn_13 : decode cX7_manyIn 13 = .ok (.ishr, 1) := by decide +kernel
theorem dX7_manyIn_14 : decode cX7_manyIn 14 = .ok (.iconst 1, 1) := by decide +kernel
theorem dX7_manyIn_15 : decode cX7_manyIn 15 = .ok (.iand, 1) := by decide +kernel
theorem dX7_manyIn_16 : decode cX7_manyIn 16 = .ok (.iadd, 1) := by decide +kernel
theorem dX7_manyIn_17 : decode cX7_manyIn 17 = .ok (.istore_n 1, 1) := by decide +kernel
theorem dX7_manyIn_18 : decode cX7_manyIn 18 = .ok (.iinc 2 1, 3) := by decide +kernel
theorem dX7_manyIn_21 : decode cX7_manyIn 21 = .ok (.goto (-17), 3) := by decide +kernel
theorem dX7_manyIn_24 : decode cX7_manyIn 24 = .ok (.iload_n 1, 1) := by decide +kernel
theorem dX7_manyIn_25 : decode cX7_manyIn 25 = .ok (.ireturn, 1) := by decide +kernel
theorem dX7_doesLead_0 : decode cX7_doesLead 0 = .ok (.aload_n 0, 1) := by decide +kernel
theorem dX7_doesLead_1 : decode cX7_doesLead 1 = .ok (.invokevirtual 191, 3) := by decide +kernel
theorem dX7_doesLead_4 : decode cX7_doesLead 4 = .ok (.iconst 0, 1) := by decide +kernel
theorem dX7_doesLead_5 : decode cX7_doesLead 5 = .ok (.istore 5, 2) := by decide +kernel
theorem dX7_doesLead_7 : decode cX7_doesLead 7 = .ok (.iload 5, 2) := by decide +kernel
theorem dX7_doesLead_9 : decode cX7_doesLead 9 = .ok (.aload_n 0, 1) := by decide +kernel
theorem dX7_doesLead_10 : decode cX7_doesLead 10 = .ok (.getfield 7, 3) := by decide +kernel
theorem dX7_doesLead_13 : decode cX7_doesLead 13 = .ok (.iconst 4, 1) := by decide +kernel
theorem dX7_doesLead_14 : decode cX7_doesLead 14 = .ok (.iaload, 1) := by decide +kernel
theorem dX7_doesLead_15 : decode cX7_doesLead 15 = .ok (.if_icmp .ge 38, 3) := by decide +kernel
theorem dX7_doesLead_18 : decode cX7_doesLead 18 = .ok (.aload_n 0, 1) := by decide +kernel
theorem dX7_doesLead_19 : decode cX7_doesLead 19 = .ok (.iload 5, 2) := by decide +kernel
theorem dX7_doesLead_21 : decode cX7_doesLead 21 = .ok (.iconst 3, 1) := by decide +kernel
theorem dX7_doesLead_22 : decode cX7_doesLead 22 = .ok (.iload 4, 2) := by decide +kernel
theorem dX7_doesLead_24 : decode cX7_doesLead 24 = .ok (.iload 5, 2) := by decide +kernel
theorem dX7_doesLead_26 : decode cX7_doesLead 26 = .ok (.ishr, 1) := by decide +kernel
theorem dX7_doesLead_27 : decode cX7_doesLead 27 = .ok (.iconst 1, 1) := by decide +kernel
theorem dX7_doesLead_28 : decode cX7_doesLead 28 = .ok (.iand, 1) := by decide +kernel
theorem dX7_doesLead_29 : decode cX7_doesLead 29 = .ok (.iconst 1, 1) := by decide +kernel
theorem dX7_doesLead_30 : decode cX7_doesLead 30 = .ok (.if_icmp .ne 7, 3) := by decide +kernel
theorem dX7_doesLead_33 : decode cX7_doesLead 33 = .ok (.iload_n 2, 1) := by decide +kernel
theorem dX7_doesLead_34 : decode cX7_doesLead 34 = .ok (.goto 10, 3) := by decide +kernel
theorem dX7_doesLead_37 : decode cX7_doesLead 37 = .ok (.aload_n 0, 1) := by decide +kernel
theorem dX7_doesLead_38 : decode cX7_doesLead 38 = .ok (.iload 5, 2) := by decide +kernel
theorem dX7_doesLead_40 : decode cX7_doesLead 40 = .ok (.iconst 3, 1) := by decide +kernel
theorem dX7_doesLead_41 : decode cX7_doesLead 41 = .ok (.invokevirtual 120, 3) := by decide +kernel
theorem dX7_doesLead_44 : decode cX7_doesLead 44 = .ok (.invokevirtual 151, 3) := by decide +kernel
theorem dX7_doesLead_47 : decode cX7_doesLead 47 = .ok (.iinc 5 1, 3) := by decide +kernel
theorem dX7_doesLead_50 : decode cX7_doesLead 50 = .ok (.goto (-43), 3) := by decide +kernel
theorem dX7_doesLead_53 : decode cX7_doesLead 53 = .ok (.aload_n 0, 1) := by decide +kernel
theorem dX7_doesLead_54 : decode cX7_doesLead 54 = .ok (.iload_n 3, 1) := by decide +kernel
theorem dX7_doesLead_55 : decode cX7_doesLead 55 = .ok (.invokevirtual 178, 3) := by decide +kernel
theorem dX7_doesLead_58 : decode cX7_doesLead 58 = .ok (.aload_n 0, 1) := by decide +kernel
theorem dX7_doesLead_59 : decode cX7_doesLead 59 = .ok (.invokevirtual 188, 3) := by decide +kernel
theorem dX7_doesLead_62 : decode cX7_doesLead 62 = .ok (.iload_n 1, 1) := by decide +kernel
theorem dX7_doesLead_63 : decode cX7_doesLead 63 = .ok (.if_icmp .ne 7, 3) := by decide +kernel
theorem dX7_doesLead_66 : decode cX7_doesLead 66 = .ok (.iconst 1, 1) := by decide +kernel
theorem dX7_doesLead_67 : decode cX7_doesLead 67 = .ok (.goto 4, 3) := by decide +kernel
theorem dX7_doesLead_70 : decode cX7_doesLead 70 = .ok (.iconst 0, 1) := by decide +kernel
theorem dX7_doesLead_71 : decode cX7_doesLead 71 = .ok (.istore 5, 2) := by decide +kernel
theorem dX7_doesLead_73 : decode cX7_doesLead 73 = .ok (.aload_n 0, 1) := by decide +kernel
theorem dX7_doesLead_74 : decode cX7_doesLead 74 = .ok (.invokevirtual 194, 3) := by decide +kernel
theorem dX7_doesLead_77 : decode cX7_doesLead 77 = .ok (.iload 5, 2) := by decide +kernel
theorem dX7_doesLead_79 : decode cX7_doesLead 79 = .ok (.ireturn, 1) := by decide +kernel
theorem dX7_signs_0 : decode cX7_signs 0 = .ok (.aload_n 0, 1) := by decide +kernel
theorem dX7_signs_1 : decode cX7_signs 1 = .ok (.iload_n 1, 1) := by decide +kernel
theorem dX7_signs_2 : decode cX7_signs 2 = .ok (.invokevirtual 57, 3) := by decide +kernel
theorem dX7_signs_5 : decode cX7_signs 5 = .ok (.ifCond .eq 32, 3) := by decide +kernel
theorem dX7_signs_8 : decode cX7_signs 8 = .ok (.iload_n 2, 1) := by decide +kernel
theorem dX7_signs_9 : decode cX7_signs 9 = .ok (.iconst 0, 1) := by decide +kernel
theorem dX7_signs_10 : decode cX7_signs 10 = .ok (.bipush 9, 2) := by decide +kernel
theorem dX7_signs_12 : decode cX7_signs 12 = .ok (.invokestatic 53, 3) := by decide +kernel
theorem dX7_signs_15 : decode cX7_signs 15 = .ok (.ifCond .eq 22, 3) := by decide +kernel
theorem dX7_signs_18 : decode cX7_signs 18 = .ok (.iload_n 3, 1) := by decide +kernel
theorem dX7_signs_19 : decode cX7_signs 19 = .ok (.iconst 1, 1) := by decide +kernel
theorem dX7_signs_20 : decode cX7_signs 20 = .ok (.iconst 4, 1) := by decide +kernel
theorem dX7_signs_21 : decode cX7_signs 21 = .ok (.invokestatic 53, 3) := by decide +kernel
theorem dX7_signs_24 : decode cX7_signs 24 = .ok (.ifCond .eq 13, 3) := by decide +kernel
theorem dX7_signs_27 : decode cX7_signs 27 = .ok (.iload 4, 2) := by decide +kernel
theorem dX7_signs_29 : decode cX7_signs 29 = .ok (.iconst 0, 1) := by decide +kernel
theorem dX7_signs_30 : decode cX7_signs 30 = .ok (.iconst 1, 1) := by decide +kernel
theorem dX7_signs_31 : decode cX7_signs 31 = .ok (.invokestatic 53, 3) := by decide +kernel
theorem dX7_signs_34 : decode cX7_signs 34 = .ok (.ifCond .ne 9, 3) := by decide +kernel
theorem dX7_signs_37 : decode cX7_signs 37 = .ok (.aload_n 0, 1) := by decide +kernel
theorem dX7_signs_38 : decode cX7_signs 38 = .ok (.iconst 1, 1) := by decide +kernel
theorem dX7_signs_39 : decode cX7_signs 39 = .ok (.invokevirtual 61, 3) := by decide +kernel
theorem dX7_signs_42 : decode cX7_signs 42 = .ok (.ireturn, 1) := by decide +kernel
theorem dX7_signs_43 : decode cX7_signs 43 = .ok (.iconst (-1), 1) := by decide +kernel
theorem dX7_signs_44 : decode cX7_signs 44 = .ok (.istore 5, 2) := by decide +kernel
theorem dX7_signs_46 : decode cX7_signs 46 = .ok (.iconst 0, 1) := by decide +kernel
theorem dX7_signs_47 : decode cX7_signs 47 = .ok (.istore 6, 2) := by decide +kernel
theorem dX7_signs_49 : decode cX7_signs 49 = .ok (.iload 6, 2) := by decide +kernel
theorem dX7_signs_51 : decode cX7_signs 51 = .ok (.iconst 1, 1) := by decide +kernel
theorem dX7_signs_52 : decode cX7_signs 52 = .ok (.aload_n 0, 1) := by decide +kernel
theorem dX7_signs_53 : decode cX7_signs 53 = .ok (.getfield 7, 3) := by decide +kernel
theorem dX7_signs_56 : decode cX7_signs 56 = .ok (.iconst 4, 1) := by decide +kernel
theorem dX7_signs_57 : decode cX7_signs 57 = .ok (.iaload, 1) := by decide +kernel
theorem dX7_signs_58 : decode cX7_signs 58 = .ok (.ishl, 1) := by decide +kernel
theorem dX7_signs_59 : decode cX7_signs 59 = .ok (.if_icmp .ge 61, 3) := by decide +kernel
theorem dX7_signs_62 : decode cX7_signs 62 = .ok (.iload 5, 2) := by decide +kernel
theorem dX7_signs_64 : decode cX7_signs 64 = .ok (.iconst (-1), 1) := by decide +kernel
theorem dX7_signs_65 : decode cX7_signs 65 = .ok (.if_icmp .eq 16, 3) := by decide +kernel
theorem dX7_signs_68 : decode cX7_signs 68 = .ok (.iload 6, 2) := by decide +kernel
theorem dX7_signs_70 : decode cX7_signs 70 = .ok (.invokestatic 200, 3) := by decide +kernel
theorem dX7_signs_73 : decode cX7_signs 73 = .ok (.iload 5, 2) := by decide +kernel
theorem dX7_signs_75 : decode cX7_signs 75 = .ok (.invokestatic 200, 3) := by decide +kernel
theorem dX7_signs_78 : decode cX7_signs 78 = .ok (.if_icmp .ge 7, 3) := by decide +kernel
theorem dX7_signs_81 : decode cX7_signs 81 = .ok (.iconst 1, 1) := by decide +kernel
theorem dX7_signs_82 : decode cX7_signs 82 = .ok (.goto 4, 3) := by decide +kernel
theorem dX7_signs_85 : decode cX7_signs 85 = .ok (.iconst 0, 1) := by decide +kernel
theorem dX7_signs_86 : decode cX7_signs 86 = .ok (.istore 7, 2) := by decide +kernel
theorem dX7_signs_88 : decode cX7_signs 88 = .ok (.iload 7, 2) := by decide +kernel
theorem dX7_signs_90 : decode cX7_signs 90 = .ok (.ifCond .eq 20, 3) := by decide +kernel
theorem dX7_signs_93 : decode cX7_signs 93 = .ok (.aload_n 0, 1) := by decide +kernel
theorem dX7_signs_94 : decode cX7_signs 94 = .ok (.iload_n 1, 1) := by decide +kernel
theorem dX7_signs_95 : decode cX7_signs 95 = .ok (.iload_n 2, 1) := by decide +kernel
theorem dX7_signs_96 : decode cX7_signs 96 = .ok (.iload_n 3, 1) := by decide +kernel
theorem dX7_signs_97 : decode cX7_signs 97 = .ok (.iload 6, 2) := by decide +kernel
theorem dX7_signs_99 : decode cX7_signs 99 = .ok (.invokevirtual 203, 3) := by decide +kernel
theorem dX7_signs_102 : decode cX7_signs 102 = .ok (.ifCond .eq 8, 3) := by decide +kernel
theorem dX7_signs_105 : decode cX7_signs 105 = .ok (.iload 6, 2) := by decide +kernel
theorem dX7_signs_107 : decode cX7_signs 107 = .ok (.goto 5, 3) := by decide +kernel
theorem dX7_signs_110 : decode cX7_signs 110 = .ok (.iload 5, 2) := by decide +kernel
theorem dX7_signs_112 : decode cX7_signs 112 = .ok (.istore 5, 2) := by decide +kernel
theorem dX7_signs_114 : decode cX7_signs 114 = .ok (.iinc 6 1, 3) := by decide +kernel
theorem dX7_signs_117 : decode cX7_signs 117 = .ok (.goto (-68), 3) := by decide +kernel
theorem dX7_signs_120 : decode cX7_signs 120 = .ok (.iload 5, 2) := by decide +kernel
theorem dX7_signs_122 : decode cX7_signs 122 = .ok (.iconst (-1), 1) := by decide +kernel
theorem dX7_signs_123 : decode cX7_signs 123 = .ok (.if_icmp .ne 11, 3) := by decide +kernel
theorem dX7_signs_126 : decode cX7_signs 126 = .ok (.aload_n 0, 1) := by decide +kernel
theorem dX7_signs_127 : decode cX7_signs 127 = .ok (.iconst 2, 1) := by decide +kernel
theorem dX7_signs_128 : decode cX7_signs 128 = .ok (.invokevirtual 61, 3) := by decide +kernel
theorem dX7_signs_131 : decode cX7_signs 131 = .ok (.goto 18, 3) := by decide +kernel
theorem dX7_signs_134 : decode cX7_signs 134 = .ok (.iload 4, 2) := by decide +kernel
theorem dX7_signs_136 : decode cX7_signs 136 = .ok (.ifCond .ne 11, 3) := by decide +kernel
theorem dX7_signs_139 : decode cX7_signs 139 = .ok (.iload 5, 2) := by decide +kernel
theorem dX7_signs_141 : decode cX7_signs 141 = .ok (.invokestatic 200, 3) := by decide +kernel
theorem dX7_signs_144 : decode cX7_signs 144 = .ok (.goto 5, 3) := by decide +kernel
theorem dX7_signs_147 : decode cX7_signs 147 = .ok (.iload 5, 2) := by decide +kernel
theorem dX7_signs_149 : decode cX7_signs 149 = .ok (.ireturn, 1) := by decide +kernel
theorem dX7_heard_0 : decode cX7_heard 0 = .ok (.aload_n 0, 1) := by decide +kernel
theorem dX7_heard_1 : decode cX7_heard 1 = .ok (.iload_n 1, 1) := by decide +kernel
theorem dX7_heard_2 : decode cX7_heard 2 = .ok (.invokevirtual 57, 3) := by decide +kernel
theorem dX7_heard_5 : decode cX7_heard 5 = .ok (.ifCond .ne 9, 3) := by decide +kernel
theorem dX7_heard_8 : decode cX7_heard 8 = .ok (.aload_n 0, 1) := by decide +kernel
theorem dX7_heard_9 : decode cX7_heard 9 = .ok (.iconst 1, 1) := by decide +kernel
theorem dX7_heard_10 : decode cX7_heard 10 = .ok (.invokevirtual 61, 3) := by decide +kernel
theorem dX7_heard_13 : decode cX7_heard 13 = .ok (.ireturn, 1) := by decide +kernel
theorem dX7_heard_14 : decode cX7_heard 14 = .ok (.iconst 1, 1) := by decide +kernel
theorem dX7_heard_15 : decode cX7_heard 15 = .ok (.iload_n 1, 1) := by decide +kernel
theorem dX7_heard_16 : decode cX7_heard 16 = .ok (.ishl, 1) := by decide +kernel
