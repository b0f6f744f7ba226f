theorem dX4_tellsOf_2 : decode cX4_tellsOf 2 = .ok (.bipush 50, 2) := by decide +kernel
theorem dX4_tellsOf_4 : decode cX4_tellsOf 4 = .ok (.if_icmp .le 7, 3) := by decide +kernel
theorem dX4_tellsOf_7 : decode cX4_tellsOf 7 = .ok (.iconst 1, 1) := by decide +kernel
theorem dX4_tellsOf_8 : decode cX4_tellsOf 8 = .ok (.goto 4, 3) := by decide +kernel
theorem dX4_tellsOf_11 : decode cX4_tellsOf 11 = .ok (.iconst 0, 1) := by decide +kernel
theorem dX4_tellsOf_12 : decode cX4_tellsOf 12 = .ok (.iadd, 1) := by decide +kernel
theorem dX4_tellsOf_13 : decode cX4_tellsOf 13 = .ok (.istore 4, 2) := by decide +kernel
theorem dX4_tellsOf_15 : decode cX4_tellsOf 15 = .ok (.iload_n 0, 1) := by decide +kernel
theorem dX4_tellsOf_16 : decode cX4_tellsOf 16 = .ok (.tableswitch 69 1 6 #[40, 43, 69, 47, 62, 67], 40) := by decide +kernel
theorem dX4_tellsOf_56 : decode cX4_tellsOf 56 = .ok (.iload 4, 2) := by decide +kernel
theorem dX4_tellsOf_58 : decode cX4_tellsOf 58 = .ok (.ireturn, 1) := by decide +kernel
theorem dX4_tellsOf_59 : decode cX4_tellsOf 59 = .ok (.iload_n 2, 1) := by decide +kernel
theorem dX4_tellsOf_60 : decode cX4_tellsOf 60 = .ok (.iconst 1, 1) := by decide +kernel
theorem dX4_tellsOf_61 : decode cX4_tellsOf 61 = .ok (.isub, 1) := by decide +kernel
theorem dX4_tellsOf_62 : decode cX4_tellsOf 62 = .ok (.ireturn, 1) := by decide +kernel
theorem dX4_tellsOf_63 : decode cX4_tellsOf 63 = .ok (.iload 4, 2) := by decide +kernel
theorem dX4_tellsOf_65 : decode cX4_tellsOf 65 = .ok (.iload_n 3, 1) := by decide +kernel
theorem dX4_tellsOf_66 : decode cX4_tellsOf 66 = .ok (.iconst 3, 1) := by decide +kernel
theorem dX4_tellsOf_67 : decode cX4_tellsOf 67 = .ok (.irem, 1) := by decide +kernel
theorem dX4_tellsOf_68 : decode cX4_tellsOf 68 = .ok (.ifCond .ne 7, 3) := by decide +kernel
theorem dX4_tellsOf_71 : decode cX4_tellsOf 71 = .ok (.iconst 1, 1) := by decide +kernel
theorem dX4_tellsOf_72 : decode cX4_tellsOf 72 = .ok (.goto 4, 3) := by decide +kernel
theorem dX4_tellsOf_75 : decode cX4_tellsOf 75 = .ok (.iconst 0, 1) := by decide +kernel
theorem dX4_tellsOf_76 : decode cX4_tellsOf 76 = .ok (.iadd, 1) := by decide +kernel
theorem dX4_tellsOf_77 : decode cX4_tellsOf 77 = .ok (.ireturn, 1) := by decide +kernel
theorem dX4_tellsOf_78 : decode cX4_tellsOf 78 = .ok (.iload_n 1, 1) := by decide +kernel
theorem dX4_tellsOf_79 : decode cX4_tellsOf 79 = .ok (.bipush 10, 2) := by decide +kernel
theorem dX4_tellsOf_81 : decode cX4_tellsOf 81 = .ok (.idiv, 1) := by decide +kernel
theorem dX4_tellsOf_82 : decode cX4_tellsOf 82 = .ok (.ireturn, 1) := by decide +kernel
theorem dX4_tellsOf_83 : decode cX4_tellsOf 83 = .ok (.iconst 0, 1) := by decide +kernel
theorem dX4_tellsOf_84 : decode cX4_tellsOf 84 = .ok (.ireturn, 1) := by decide +kernel
theorem dX4_tellsOf_85 : decode cX4_tellsOf 85 = .ok (.iload_n 2, 1) := by decide +kernel
theorem dX4_tellsOf_86 : decode cX4_tellsOf 86 = .ok (.ireturn, 1) := by decide +kernel
theorem dX5_init_0 : decode cX5_init 0 = .ok (.aload_n 0, 1) := by decide +kernel
theorem dX5_init_1 : decode cX5_init 1 = .ok (.invokespecial 3, 3) := by decide +kernel
theorem dX5_init_4 : decode cX5_init 4 = .ok (.aload_n 0, 1) := by decide +kernel
theorem dX5_init_5 : decode cX5_init 5 = .ok (.bipush 30, 2) := by decide +kernel
theorem dX5_init_7 : decode cX5_init 7 = .ok (.newarray .int, 2) := by decide +kernel
theorem dX5_init_9 : decode cX5_init 9 = .ok (.putfield 11, 3) := by decide +kernel
theorem dX5_init_12 : decode cX5_init 12 = .ok (.return_, 1) := by decide +kernel
theorem dX5_hear_0 : decode cX5_hear 0 = .ok (.aload_n 0, 1) := by decide +kernel
theorem dX5_hear_1 : decode cX5_hear 1 = .ok (.iload_n 1, 1) := by decide +kernel
theorem dX5_hear_2 : decode cX5_hear 2 = .ok (.putfield 15, 3) := by decide +kernel
theorem dX5_hear_5 : decode cX5_hear 5 = .ok (.aload_n 0, 1) := by decide +kernel
theorem dX5_hear_6 : decode cX5_hear 6 = .ok (.iload_n 2, 1) := by decide +kernel
theorem dX5_hear_7 : decode cX5_hear 7 = .ok (.putfield 19, 3) := by decide +kernel
theorem dX5_hear_10 : decode cX5_hear 10 = .ok (.aload_n 0, 1) := by decide +kernel
theorem dX5_hear_11 : decode cX5_hear 11 = .ok (.iload_n 3, 1) := by decide +kernel
theorem dX5_hear_12 : decode cX5_hear 12 = .ok (.putfield 22, 3) := by decide +kernel
theorem dX5_hear_15 : decode cX5_hear 15 = .ok (.aload_n 0, 1) := by decide +kernel
theorem dX5_hear_16 : decode cX5_hear 16 = .ok (.iconst 0, 1) := by decide +kernel
theorem dX5_hear_17 : decode cX5_hear 17 = .ok (.putfield 25, 3) := by decide +kernel
theorem dX5_hear_20 : decode cX5_hear 20 = .ok (.aload_n 0, 1) := by decide +kernel
theorem dX5_hear_21 : decode cX5_hear 21 = .ok (.iconst 0, 1) := by decide +kernel
theorem dX5_hear_22 : decode cX5_hear 22 = .ok (.putfield 28, 3) := by decide +kernel
theorem dX5_hear_25 : decode cX5_hear 25 = .ok (.aload_n 0, 1) := by decide +kernel
theorem dX5_hear_26 : decode cX5_hear 26 = .ok (.aload_n 0, 1) := by decide +kernel
theorem dX5_hear_27 : decode cX5_hear 27 = .ok (.getfield 19, 3) := by decide +kernel
theorem dX5_hear_30 : decode cX5_hear 30 = .ok (.iload 4, 2) := by decide +kernel
theorem dX5_hear_32 : decode cX5_hear 32 = .ok (.iload 5, 2) := by decide +kernel
theorem dX5_hear_34 : decode cX5_hear 34 = .ok (.iconst 0, 1) := by decide +kernel
theorem dX5_hear_35 : decode cX5_hear 35 = .ok (.invokevirtual 32, 3) := by decide +kernel
theorem dX5_hear_38 : decode cX5_hear 38 = .ok (.ireturn, 1) := by decide +kernel
theorem dX5_speak_0 : decode cX5_speak 0 = .ok (.iload_n 1, 1) := by decide +kernel
theorem dX5_speak_1 : decode cX5_speak 1 = .ok (.istore 5, 2) := by decide +kernel
theorem dX5_speak_3 : decode cX5_speak 3 = .ok (.iload 5, 2) := by decide +kernel
theorem dX5_speak_5 : decode cX5_speak 5 = .ok (.ifCond .lt 25, 3) := by decide +kernel
theorem dX5_speak_8 : decode cX5_speak 8 = .ok (.iload 5, 2) := by decide +kernel
theorem dX5_speak_10 : decode cX5_speak 10 = .ok (.bipush 7, 2) := by decide +kernel
theorem dX5_speak_12 : decode cX5_speak 12 = .ok (.if_icmp .ge 18, 3) := by decide +kernel
theorem dX5_speak_15 : decode cX5_speak 15 = .ok (.iload_n 2, 1) := by decide +kernel
theorem dX5_speak_16 : decode cX5_speak 16 = .ok (.iconst 3, 1) := by decide +kernel
theorem dX5_speak_17 : decode cX5_speak 17 = .ok (.invokestatic 36, 3) := by decide +kernel
theorem dX5_speak_20 : decode cX5_speak 20 = .ok (.ifCond .eq 10, 3) := by decide +kernel
theorem dX5_speak_23 : decode cX5_speak 23 = .ok (.iload 4, 2) := by decide +kernel
theorem dX5_speak_25 : decode cX5_speak 25 = .ok (.bipush 20, 2) := by decide +kernel
theorem dX5_speak_27 : decode cX5_speak 27 = .ok (.if_icmp .le 5, 3) := by decide +kernel
theorem dX5_speak_30 : decode cX5_speak 30 = .ok (.iconst 0, 1) := by decide +kernel
theorem dX5_speak_31 : decode cX5_speak 31 = .ok (.ireturn, 1) := by decide +kernel
theorem dX5_speak_32 : decode cX5_speak 32 = .ok (.iconst 0, 1) := by decide +kernel
theorem dX5_speak_33 : decode cX5_speak 33 = .ok (.istore 6, 2) := by decide +kernel
theorem dX5_speak_35 : decode cX5_speak 35 = .ok (.iload 6, 2) := by decide +kernel
theorem dX5_speak_37 : decode cX5_speak 37 = .ok (.bipush 7, 2) := by decide +kernel
theorem dX5_speak_39 : decode cX5_speak 39 = .ok (.if_icmp .ge 35, 3) := by decide +kernel
theorem dX5_speak_42 : decode cX5_speak 42 = .ok (.iload 5, 2) := by decide +kernel
theorem dX5_speak_44 : decode cX5_speak 44 = .ok (.ifCond .le 30, 3) := by decide +kernel
theorem dX5_speak_47 : decode cX5_speak 47 = .ok (.getstatic 40, 3) := by decide +kernel
theorem dX5_speak_50 : decode cX5_speak 50 = .ok (.iload 5, 2) := by decide +kernel
theorem dX5_speak_52 : decode cX5_speak 52 = .ok (.iconst 4, 1) := by decide +kernel
theorem dX5_speak_53 : decode cX5_speak 53 = .ok (.imul, 1) := by decide +kernel
theorem dX5_speak_54 : decode cX5_speak 54 = .ok (.iload_n 2, 1) := by decide +kernel
theorem dX5_speak_55 : decode cX5_speak 55 = .ok (.iadd, 1) := by decide +kernel
theorem dX5_speak_56 : decode cX5_speak 56 = .ok (.iaload, 1) := by decide +kernel
theorem dX5_speak_57 : decode cX5_speak 57 = .ok (.ifCond .ne 17, 3) := by decide +kernel
theorem dX5_speak_60 : decode cX5_speak 60 = .ok (.getstatic 43, 3) := by decide +kernel
theorem dX5_speak_63 : decode cX5_speak 63 = .ok (.iload 5, 2) := by decide +kernel
theorem dX5_speak_65 : decode cX5_speak 65 = .ok (.iaload, 1) := by decide +kernel
theorem dX5_speak_66 : decode cX5_speak 66 = .ok (.istore 5, 2) := by decide +kernel
theorem dX5_speak_68 : decode cX5_speak 68 = .ok (.iinc 6 1, 3) := by decide +kernel
theorem dX5_speak_71 : decode cX5_speak 71 = .ok (.goto (-36), 3) := by decide +kernel
theorem dX5_speak_74 : decode cX5_speak 74 = .ok (.getstatic 40, 3) := by decide +kernel
theorem dX5_speak_77 : decode cX5_speak 77 = .ok (.iload 5, 2) := by decide +kernel
theorem dX5_speak_79 : decode cX5_speak 79 = .ok (.iconst 4, 1) := by decide +kernel
theorem dX5_speak_80 : decode cX5_speak 80 = .ok (.imul, 1) := by decide +kernel
theorem dX5_speak_81 : decode cX5_speak 81 = .ok (.iload_n 2, 1) := by decide +kernel
theorem dX5_speak_82 : decode cX5_speak 82 = .ok (.iadd, 1) := by decide +kernel
theorem dX5_speak_83 : decode cX5_speak 83 = .ok (.iaload, 1) := by decide +kernel
theorem dX5_speak_84 : decode cX5_speak 84 = .ok (.istore 6, 2) := by decide +kernel
theorem dX5_speak_86 : decode cX5_speak 86 = .ok (.aload_n 0, 1) := by decide +kernel
theorem dX5_speak_87 : decode cX5_speak 87 = .ok (.getfield 25, 3) := by decide +kernel
theorem dX5_speak_90 : decode cX5_speak 90 = .ok (.bipush 30, 2) := by decide +kernel
theorem dX5_speak_92 : decode cX5_speak 92 = .ok (.if_icmp .ge 24, 3) := by decide +kernel
theorem dX5_speak_95 : decode cX5_speak 95 = .ok (.aload_n 0, 1) := by decide +kernel
theorem dX5_speak_96 : decode cX5_speak 96 = .ok (.getfield 11, 3) := by decide +kernel
theorem dX5_speak_99 : decode cX5_speak 99 = .ok (.aload_n 0, 1) := by decide +kernel
theorem dX5_speak_100 : decode cX5_speak 100 = .ok (.getfield 25, 3) := by decide +kernel
theorem dX5_speak_103 : decode cX5_speak 103 = .ok (.iload 6, 2) := by decide +kernel
theorem dX5_speak_105 : decode cX5_speak 105 = .ok (.iastore, 1) := by decide +kernel
theorem dX5_speak_106 : decode cX5_speak 106 = .ok (.aload_n 0, 1) := by decide +kernel
theorem dX5_speak_107 : decode cX5_speak 107 = .ok (.dup, 1) := by decide +kernel
theorem dX5_speak_108 : decode cX5_speak 108 = .ok (.getfield 25, 3) := by decide +kernel
theorem dX5_speak_111 : decode cX5_speak 111 = .ok (.iconst 1, 1) := by decide +kernel
theorem dX5_speak_112 : decode cX5_speak 112 = .ok (.iadd, 1) := by decide +kernel
theorem dX5_speak_113 : decode cX5_speak 113 = .ok (.putfield 25, 3) := by decide +kernel
theorem dX5_speak_116 : decode cX5_speak 116 = .ok (.aload_n 0, 1) := by decide +kernel
theorem dX5_speak_117 : decode cX5_speak 117 = .ok (.iload 6, 2) := by decide +kernel
theorem dX5_speak_119 : decode cX5_speak 119 = .ok (.getstatic 43, 3) := by decide +kernel
theorem dX5_speak_122 : decode cX5_speak 122 = .ok (.iload 5, 2) := by decide +kernel
theorem dX5_speak_124 : decode cX5_speak 124 = .ok (.iaload, 1) := by decide +kernel
theorem dX5_speak_125 : decode cX5_speak 125 = .ok (.iload_n 3, 1) := by decide +kernel
theorem dX5_speak_126 : decode cX5_speak 126 = .ok (.iload 4, 2) := by decide +kernel
theorem dX5_speak_128 : decode cX5_speak 128 = .ok (.iconst 1, 1) := by decide +kernel
theorem dX5_speak_129 : decode cX5_speak 129 = .ok (.iadd, 1) := by decide +kernel
theorem dX5_speak_130 : decode cX5_speak 130 = .ok (.invokevirtual 46, 3) := by decide +kernel
theorem dX5_speak_133 : decode cX5_speak 133 = .ok (.ireturn, 1) := by decide +kernel
theorem dX5_workOut_0 : decode cX5_workOut 0 = .ok (.iload_n 1, 1) := by decide +kernel
theorem dX5_workOut_1 : decode cX5_workOut 1 = .ok (.lookupswitch 263 #[(10, 115), (11, 122), (12, 137), (13, 155), (20, 161), (21, 173), (30, 182), (40, 194), (50, 206), (51, 218), (60, 233), (70, 245), (71, 248)], 115) := by decide +kernel
theorem dX5_workOut_116 : decode cX5_workOut 116 = .ok (.iload_n 3, 1) := by decide +kernel
theorem dX5_workOut_117 : decode cX5_workOut 117 = .ok (.aload_n 0, 1) := by decide +kernel
theorem dX5_workOut_118 : decode cX5_workOut 118 = .ok (.getfield 15, 3) := by decide +kernel
theorem dX5_workOut_121 : decode cX5_workOut 121 = .ok (.iadd, 1) := by decide +kernel
theorem dX5_workOut_122 : decode cX5_workOut 122 = .ok (.ireturn, 1) := by decide +kernel
theorem dX5_workOut_123 : decode cX5_workOut 123 = .ok (.aload_n 0, 1) := by decide +kernel
theorem dX5_workOut_124 : decode cX5_workOut 124 = .ok (.aload_n 0, 1) := by decide +kernel
theorem dX5_workOut_125 : decode cX5_workOut 125 = .ok (.getfield 19, 3) := by decide +kernel
theorem dX5_workOut_128 : decode cX5_workOut 128 = .ok (.iconst 0, 1) := by decide +kernel
theorem dX5_workOut_129 : decode cX5_workOut 129 = .ok (.iload_n 3, 1) := by decide +kernel
theorem dX5_workOut_130 : decode cX5_workOut 130 = .ok (.iload 4, 2) := by decide +kernel
theorem dX5_workOut_132 : decode cX5_workOut 132 = .ok (.invokevirtual 32, 3) := by decide +kernel
theorem dX5_workOut_135 : decode cX5_workOut 135 = .ok (.iconst 2, 1) := by decide +kernel
theorem dX5_workOut_136 : decode cX5_workOut 136 = .ok (.imul, 1) := by decide +kernel
theorem dX5_workOut_137 : decode cX5_workOut 137 = .ok (.ireturn, 1) := by decide +kernel
theorem dX5_workOut_138 : decode cX5_workOut 138 = .ok (.aload_n 0, 1) := by decide +kernel
theorem dX5_workOut_139 : decode cX5_workOut 139 = .ok (.aload_n 0, 1) := by decide +kernel
theorem dX5_workOut_140 : decode cX5_workOut 140 = .ok (.getfield 19, 3) := by decide +kernel
theorem dX5_workOut_143 : decode cX5_workOut 143 = .ok (.iconst 1, 1) := by decide +kernel
theorem dX5_workOut_144 : decode cX5_workOut 144 = .ok (.iload_n 3, 1) := by decide +kernel
theorem dX5_workOut_145 : decode cX5_workOut 145 = .ok (.iload 4, 2) := by decide +kernel
theorem dX5_workOut_147 : decode cX5_workOut 147 = .ok (.invokevirtual 32, 3) := by decide +kernel
theorem dX5_workOut_150 : decode cX5_workOut 150 = .ok (.aload_n 0, 1) := by decide +kernel
theorem dX5_workOut_151 : decode cX5_workOut 151 = .ok (.getfield 22, 3) := by decide +kernel
theorem dX5_workOut_154 : decode cX5_workOut 154 = .ok (.isub, 1) := by decide +kernel
theorem dX5_workOut_155 : decode cX5_workOut 155 = .ok (.ireturn, 1) := by decide +kernel
theorem dX5_workOut_156 : decode cX5_workOut 156 = .ok (.aload_n 0, 1) := by decide +kernel
theorem dX5_workOut_157 : decode cX5_workOut 157 = .ok (.iload_n 3, 1) := by decide +kernel
theorem dX5_workOut_158 : decode cX5_workOut 158 = .ok (.invokevirtual 49, 3) := by decide +kernel
theorem dX5_workOut_161 : decode cX5_workOut 161 = .ok (.ireturn, 1) := by decide +kernel
theorem dX5_workOut_162 : decode cX5_workOut 162 = .ok (.aload_n 0, 1) := by decide +kernel
theorem dX5_workOut_163 : decode cX5_workOut 163 = .ok (.iload_n 2, 1) := by decide +kernel
theorem dX5_workOut_164 : decode cX5_workOut 164 = .ok (.iconst 0, 1) := by decide +kernel
theorem dX5_workOut_165 : decode cX5_workOut 165 = .ok (.iload_n 3, 1) := by decide +kernel
theorem dX5_workOut_166 : decode cX5_workOut 166 = .ok (.iload 4, 2) := by decide +kernel
theorem dX5_workOut_168 : decode cX5_workOut 168 = .ok (.invokevirtual 32, 3) := by decide +kernel
theorem dX5_workOut_171 : decode cX5_workOut 171 = .ok (.iconst 4, 1) := by decide +kernel
theorem dX5_workOut_172 : decode cX5_workOut 172 = .ok (.isub, 1) := by decide +kernel
theorem dX5_workOut_173 : decode cX5_workOut 173 = .ok (.ireturn, 1) := by decide +kernel
theorem dX5_workOut_174 : decode cX5_workOut 174 = .ok (.aload_n 0, 1) := by decide +kernel
theorem dX5_workOut_175 : decode cX5_workOut 175 = .ok (.iload_n 2, 1) := by decide +kernel
theorem dX5_workOut_176 : decode cX5_workOut 176 = .ok (.iload_n 3, 1) := by decide +kernel
theorem dX5_workOut_177 : decode cX5_workOut 177 = .ok (.iload 4, 2) := by decide +kernel
theorem dX5_workOut_179 : decode cX5_workOut 179 = .ok (.invokevirtual 53, 3) := by decide +kernel
theorem dX5_workOut_182 : decode cX5_workOut 182 = .ok (.ireturn, 1) := by decide +kernel
theorem dX5_workOut_183 : decode cX5_workOut 183 = .ok (.iconst 0, 1) := by decide +kernel
theorem dX5_workOut_184 : decode cX5_workOut 184 = .ok (.aload_n 0, 1) := by decide +kernel
theorem dX5_workOut_185 : decode cX5_workOut 185 = .ok (.iload_n 2, 1) := by decide +kernel
theorem dX5_workOut_186 : decode cX5_workOut 186 = .ok (.iconst 1, 1) := by decide +kernel
theorem dX5_workOut_187 : decode cX5_workOut 187 = .ok (.iload_n 3, 1) := by decide +kernel
theorem dX5_workOut_188 : decode cX5_workOut 188 = .ok (.iload 4, 2) := by decide +kernel
theorem dX5_workOut_190 : decode cX5_workOut 190 = .ok (.invokevirtual 32, 3) := by decide +kernel
theorem dX5_workOut_193 : decode cX5_workOut 193 = .ok (.isub, 1) := by decide +kernel
theorem dX5_workOut_194 : decode cX5_workOut 194 = .ok (.ireturn, 1) := by decide +kernel
theorem dX5_workOut_195 : decode cX5_workOut 195 = .ok (.aload_n 0, 1) := by decide +kernel
theorem dX5_workOut_196 : decode cX5_workOut 196 = .ok (.iload_n 2, 1) := by decide +kernel
theorem dX5_workOut_197 : decode cX5_workOut 197 = .ok (.iconst 2, 1) := by decide +kernel
theorem dX5_workOut_198 : decode cX5_workOut 198 = .ok (.iload_n 3, 1) := by decide +kernel
theorem dX5_workOut_199 : decode cX5_workOut 199 = .ok (.iconst 2, 1) := by decide +kernel
theorem dX5_workOut_200 : decode cX5_workOut 200 = .ok (.idiv, 1) := by decide +kernel
theorem dX5_workOut_201 : decode cX5_workOut 201 = .ok (.iload 4, 2) := by decide +kernel
theorem dX5_workOut_203 : decode cX5_workOut 203 = .ok (.invokevirtual 32, 3) := by decide +kernel
theorem dX5_workOut_206 : decode cX5_workOut 206 = .ok (.ireturn, 1) := by decide +kernel
theorem dX5_workOut_207 : decode cX5_workOut 207 = .ok (.aload_n 0, 1) := by decide +kernel
theorem dX5_workOut_208 : decode cX5_workOut 208 = .ok (.iload_n 2, 1) := by decide +kernel
theorem dX5_workOut_209 : decode cX5_workOut 209 = .ok (.iconst 0, 1) := by decide +kernel
theorem dX5_workOut_210 : decode cX5_workOut 210 = .ok (.iload_n 3, 1) := by decide +kernel
theorem dX5_workOut_211 : decode cX5_workOut 211 = .ok (.iload 4, 2) := by decide +kernel
theorem dX5_workOut_213 : decode cX5_workOut 213 = .ok (.invokevirtual 32, 3) := by decide +kernel
theorem dX5_workOut_216 : decode cX5_workOut 216 = .ok (.iconst 3, 1) := by decide +kernel
theorem dX5_workOut_217 : decode cX5_workOut 217 = .ok (.imul, 1) := by decide +kernel
theorem dX5_workOut_218 : decode cX5_workOut 218 = .ok (.ireturn, 1) := by decide +kernel
theorem dX5_workOut_219 : decode cX5_workOut 219 = .ok (.aload_n 0, 1) := by decide +kernel
theorem dX5_workOut_220 : decode cX5_workOut 220 = .ok (.iload_n 2, 1) := by decide +kernel
theorem dX5_workOut_221 : decode cX5_workOut 221 = .ok (.iconst 2, 1) := by decide +kernel
theorem dX5_workOut_222 : decode cX5_workOut 222 = .ok (.iload_n 3, 1) := by decide +kernel
theorem dX5_workOut_223 : decode cX5_workOut 223 = .ok (.iload 4, 2) := by decide +kernel
theorem dX5_workOut_225 : decode cX5_workOut 225 = .ok (.invokevirtual 32, 3) := by decide +kernel
theorem dX5_workOut_228 : decode cX5_workOut 228 = .ok (.aload_n 0, 1) := by decide +kernel
theorem dX5_workOut_229 : decode cX5_workOut 229 = .ok (.getfield 15, 3) := by decide +kernel
theorem dX5_workOut_232 : decode cX5_workOut 232 = .ok (.ixor, 1) := by decide +kernel
theorem dX5_workOut_233 : decode cX5_workOut 233 = .ok (.ireturn, 1) := by decide +kernel
theorem dX5_workOut_234 : decode cX5_workOut 234 = .ok (.aload_n 0, 1) := by decide +kernel
theorem dX5_workOut_235 : decode cX5_workOut 235 = .ok (.iload_n 2, 1) := by decide +kernel
theorem dX5_workOut_236 : decode cX5_workOut 236 = .ok (.iconst 1, 1) := by decide +kernel
theorem dX5_workOut_237 : decode cX5_workOut 237 = .ok (.iload_n 3, 1) := by decide +kernel
theorem dX5_workOut_238 : decode cX5_workOut 238 = .ok (.iconst 1, 1) := by decide +kernel
theorem dX5_workOut_239 : decode cX5_workOut 239 = .ok (.iadd, 1) := by decide +kernel
theorem dX5_workOut_240 : decode cX5_workOut 240 = .ok (.iload 4, 2) := by decide +kernel
theorem dX5_workOut_242 : decode cX5_workOut 242 = .ok (.invokevirtual 32, 3) := by decide +kernel
theorem dX5_workOut_245 : decode cX5_workOut 245 = .ok (.ireturn, 1) := by decide +kernel
theorem dX5_workOut_246 : decode cX5_workOut 246 = .ok (.bipush 9, 2) := by decide +kernel
theorem dX5_workOut_248 : decode cX5_workOut 248 = .ok (.ireturn, 1) := by decide +kernel
theorem dX5_workOut_249 : decode cX5_workOut 249 = .ok (.aload_n 0, 1) := by decide +kernel
theorem dX5_workOut_250 : decode cX5_workOut 250 = .ok (.iload_n 2, 1) := by decide +kernel
theorem dX5_workOut_251 : decode cX5_workOut 251 = .ok (.iconst 1, 1) := by decide +kernel
theorem dX5_workOut_252 : decode cX5_workOut 252 = .ok (.iload_n 3, 1) := by decide +kernel
theorem dX5_workOut_253 : decode cX5_workOut 253 = .ok (.iload 4, 2) := by decide +kernel
theorem dX5_workOut_255 : decode cX5_workOut 255 = .ok (.invokevirtual 32, 3) := by decide +kernel
theorem dX5_workOut_258 : decode cX5_workOut 258 = .ok (.aload_n 0, 1) := by decide +kernel
theorem dX5_workOut_259 : decode cX5_workOut 259 = .ok (.getfield 22, 3) := by decide +kernel
theorem dX5_workOut_262 : decode cX5_workOut 262 = .ok (.iadd, 1) := by decide +kernel
theorem dX5_workOut_263 : decode cX5_workOut 263 = .ok (.ireturn, 1) := by decide +kernel
theorem dX5_workOut_264 : decode cX5_workOut 264 = .ok (.iconst 0, 1) := by decide +kernel
theorem dX5_workOut_265 : decode cX5_workOut 265 = .ok (.ireturn, 1) := by decide +kernel
theorem dX5_part_0 : decode cX5_part 0 = .ok (.aload_n 0, 1) := by decide +kernel
theorem dX5_part_1 : decode cX5_part 1 = .ok (.getfield 22, 3) := by decide +kernel
theorem dX5_part_4 : decode cX5_part 4 = .ok (.aload_n 0, 1) := by decide +kernel
theorem dX5_part_5 : decode cX5_part 5 = .ok (.getfield 15, 3) := by decide +kernel
theorem dX5_part_8 : decode cX5_part 8 = .ok (.isub, 1) := by decide +kernel
theorem dX5_part_9 : decode cX5_part 9 = .ok (.istore_n 2, 1) := by decide +kernel
theorem dX5_part_10 : decode cX5_part 10 = .ok (.iload_n 2, 1) := by decide +kernel
theorem dX5_part_11 : decode cX5_part 11 = .ok (.ifCond .ne 10, 3) := by decide +kernel
theorem dX5_part_14 : decode cX5_part 14 = .ok (.aload_n 0, 1) := by decide +kernel
theorem dX5_part_15 : decode cX5_part 15 = .ok (.iconst 1, 1) := by decide +kernel
theorem dX5_part_16 : decode cX5_part 16 = .ok (.putfield 28, 3) := by decide +kernel
theorem dX5_part_19 : decode cX5_part 19 = .ok (.iconst 0, 1) := by decide +kernel
theorem dX5_part_20 : decode cX5_part 20 = .ok (.ireturn, 1) := by decide +kernel
theorem dX5_part_21 : decode cX5_part 21 = .ok (.iload_n 1, 1) := by decide +kernel
theorem dX5_part_22 : decode cX5_part 22 = .ok (.iload_n 2, 1) := by decide +kernel
theorem dX5_part_23 : decode cX5_part 23 = .ok (.idiv, 1) := by decide +kernel
theorem dX5_part_24 : decode cX5_part 24 = .ok (.ireturn, 1) := by decide +kernel
theorem dX5_partAndStir_0 : decode cX5_partAndStir 0 = .ok (.aload_n 0, 1) := by decide +kernel
theorem dX5_partAndStir_1 : decode cX5_partAndStir 1 = .ok (.iload_n 1, 1) := by decide +kernel
theorem dX5_partAndStir_2 : decode cX5_partAndStir 2 = .ok (.iconst 3, 1) := by decide +kernel
theorem dX5_partAndStir_3 : decode cX5_partAndStir 3 = .ok (.iload_n 2, 1) := by decide +kernel
theorem dX5_partAndStir_4 : decode cX5_partAndStir 4 = .ok (.iload_n 3, 1) := by decide +kernel
theorem dX5_partAndStir_5 : decode cX5_partAndStir 5 = .ok (.invokevirtual 32, 3) := by decide +kernel
theorem dX5_partAndStir_8 : decode cX5_partAndStir 8 = .ok (.istore 4, 2) := by decide +kernel
theorem dX5_partAndStir_10 : decode cX5_partAndStir 10 = .ok (.aload_n 0, 1) := by decide +kernel
theorem dX5_partAndStir_11 : decode cX5_partAndStir 11 = .ok (.getfield 28, 3) := by decide +kernel
theorem dX5_partAndStir_14 : decode cX5_partAndStir 14 = .ok (.ifCond .eq 7, 3) := by decide +kernel
theorem dX5_partAndStir_17 : decode cX5_partAndStir 17 = .ok (.iconst 0, 1) := by decide +kernel
theorem dX5_partAndStir_18 : decode cX5_partAndStir 18 = .ok (.goto 17, 3) := by decide +kernel
theorem dX5_partAndStir_21 : decode cX5_partAndStir 21 = .ok (.iload 4, 2) := by decide +kernel
theorem dX5_partAndStir_23 : decode cX5_partAndStir 23 = .ok (.aload_n 0, 1) := by decide +kernel
theorem dX5_partAndStir_24 : decode cX5_partAndStir 24 = .ok (.aload_n 0, 1) := by decide +kernel
theorem dX5_partAndStir_25 : decode cX5_partAndStir 25 = .ok (.getfield 19, 3) := by decide +kernel
theorem dX5_partAndStir_28 : decode cX5_partAndStir 28 = .ok (.iconst 1, 1) := by decide +kernel
theorem dX5_partAndStir_29 : decode cX5_partAndStir 29 = .ok (.iconst 1, 1) := by decide +kernel
theorem dX5_partAndStir_30 : decode cX5_partAndStir 30 = .ok (.iload_n 3, 1) := by decide +kernel
theorem dX5_partAndStir_31 : decode cX5_partAndStir 31 = .ok (.invokevirtual 32, 3) := by decide +kernel
theorem dX5_partAndStir_34 : decode cX5_partAndStir 34 = .ok (.iadd, 1) := by decide +kernel
theorem dX5_partAndStir_35 : decode cX5_partAndStir 35 = .ok (.ireturn, 1) := by decide +kernel
theorem dX6_init_0 : decode cX6_init 0 = .ok (.aload_n 0, 1) := by decide +kernel
theorem dX6_init_1 : decode cX6_init 1 = .ok (.invokespecial 1, 3) := by decide +kernel
theorem dX6_init_4 : decode cX6_init 4 = .ok (.aload_n 0, 1) := by decide +kernel
theorem dX6_init_5 : decode cX6_init 5 = .ok (.new 7, 3) := by decide +kernel
theorem dX6_init_8 : decode cX6_init 8 = .ok (.dup, 1) := by decide +kernel
theorem dX6_init_9 : decode cX6_init 9 = .ok (.invokespecial 9, 3) := by decide +kernel
theorem dX6_init_12 : decode cX6_init 12 = .ok (.putfield 10, 3) := by decide +kernel
theorem dX6_init_15 : decode cX6_init 15 = .ok (.aload_n 0, 1) := by decide +kernel
theorem dX6_init_16 : decode cX6_init 16 = .ok (.new 7, 3) := by decide +kernel
theorem dX6_init_19 : decode cX6_init 19 = .ok (.dup, 1) := by decide +kernel
theorem dX6_init_20 : decode cX6_init 20 = .ok (.invokespecial 9, 3) := by decide +kernel
theorem dX6_init_23 : decode cX6_init 23 = .ok (.putfield 16, 3) := by decide +kernel
theorem dX6_init_26 : decode cX6_init 26 = .ok (.aload_n 0, 1) := by decide +kernel
theorem dX6_init_27 : decode cX6_init 27 = .ok (.new 19, 3) := by decide +kernel
theorem dX6_init_30 : decode cX6_init 30 = .ok (.dup, 1) := by decide +kernel
theorem dX6_init_31 : decode cX6_init 31 = .ok (.invokespecial 21, 3) := by decide +kernel
theorem dX6_init_34 : decode cX6_init 34 = .ok (.putfield 22, 3) := by decide +kernel
theorem dX6_init_37 : decode cX6_init 37 = .ok (.aload_n 0, 1) := by decide +kernel
theorem dX6_init_38 : decode cX6_init 38 = .ok (.new 19, 3) := by decide +kernel
theorem dX6_init_41 : decode cX6_init 41 = .ok (.dup, 1) := by decide +kernel
theorem dX6_init_42 : decode cX6_init 42 = .ok (.invokespecial 21, 3) := by decide +kernel
theorem dX6_init_45 : decode cX6_init 45 = .ok (.putfield 26, 3) := by decide +kernel
theorem dX6_init_48 : decode cX6_init 48 = .ok (.aload_n 0, 1) := by decide +kernel
theorem dX6_init_49 : decode cX6_init 49 = .ok (.new 29, 3) := by decide +kernel
theorem dX6_init_52 : decode cX6_init 52 = .ok (.dup, 1) := by decide +kernel
theorem dX6_init_53 : decode cX6_init 53 = .ok (.invokespecial 31, 3) := by decide +kernel
theorem dX6_init_56 : decode cX6_init 56 = .ok (.putfield 32, 3) := by decide +kernel
theorem dX6_init_59 : decode cX6_init 59 = .ok (.aload_n 0, 1) := by decide +kernel
theorem dX6_init_60 : decode cX6_init 60 = .ok (.new 36, 3) := by decide +kernel
theorem dX6_init_63 : decode cX6_init 63 = .ok (.dup, 1) := by decide +kernel
theorem dX6_init_64 : decode cX6_init 64 = .ok (.invokespecial 38, 3) := by decide +kernel
theorem dX6_init_67 : decode cX6_init 67 = .ok (.putfield 39, 3) := by decide +kernel
theorem dX6_init_70 : decode cX6_init 70 = .ok (.aload_n 0, 1) := by decide +kernel
theorem dX6_init_71 : decode cX6_init 71 = .ok (.iconst 4, 1) := by decide +kernel
theorem dX6_init_72 : decode cX6_init 72 = .ok (.anewarray 43, 3) := by decide +kernel
theorem dX6_init_75 : decode cX6_init 75 = .ok (.dup, 1) := by decide +kernel
theorem dX6_init_76 : decode cX6_init 76 = .ok (.iconst 0, 1) := by decide +kernel
theorem dX6_init_77 : decode cX6_init 77 = .ok (.new 43, 3) := by decide +kernel
theorem dX6_init_80 : decode cX6_init 80 = .ok (.dup, 1) := by decide +kernel
theorem dX6_init_81 : decode cX6_init 81 = .ok (.invokespecial 45, 3) := by decide +kernel
theorem dX6_init_84 : decode cX6_init 84 = .ok (.aastore, 1) := by decide +kernel
theorem dX6_init_85 : decode cX6_init 85 = .ok (.dup, 1) := by decide +kernel
theorem dX6_init_86 : decode cX6_init 86 = .ok (.iconst 1, 1) := by decide +kernel
theorem dX6_init_87 : decode cX6_init 87 = .ok (.new 43, 3) := by decide +kernel
theorem dX6_init_90 : decode cX6_init 90 = .ok (.dup, 1) := by decide +kernel
theorem dX6_init_91 : decode cX6_init 91 = .ok (.invokespecial 45, 3) := by decide +kernel
theorem dX6_init_94 : decode cX6_init 94 = .ok (.aastore, 1) := by decide +kernel
theorem dX6_init_95 : decode cX6_init 95 = .ok (.dup, 1) := by decide +kernel
theorem dX6_init_96 : decode cX6_init 96 = .ok (.iconst 2, 1) := by decide +kernel
theorem dX6_init_97 : decode cX6_init 97 = .ok (.new 43, 3) := by decide +kernel
theorem dX6_init_100 : decode cX6_init 100 = .ok (.dup, 1) := by decide +kernel
theorem dX6_init_101 : decode cX6_init 101 = .ok (.invokespecial 45, 3) := by decide +kernel
theorem dX6_init_104 : decode cX6_init 104 = .ok (.aastore, 1) := by decide +kernel
theorem dX6_init_105 : decode cX6_init 105 = .ok (.dup, 1) := by decide +kernel
theorem dX6_init_106 : decode cX6_init 106 = .ok (.iconst 3, 1) := by decide +kernel
theorem dX6_init_107 : decode cX6_init 107 = .ok (.new 43, 3) := by decide +kernel
theorem dX6_init_110 : decode cX6_init 110 = .ok (.dup, 1) := by decide +kernel
theorem dX6_init_111 : decode cX6_init 111 = .ok (.invokespecial 45, 3) := by decide +kernel
theorem dX6_init_114 : decode cX6_init 114 = .ok (.aastore, 1) := by decide +kernel
theorem dX6_init_115 : decode cX6_init 115 = .ok (.putfield 46, 3) := by decide +kernel
theorem dX6_init_118 : decode cX6_init 118 = .ok (.aload_n 0, 1) := by decide +kernel
theorem dX6_init_119 : decode cX6_init 119 = .ok (.bipush 7, 2) := by decide +kernel
theorem dX6_init_121 : decode cX6_init 121 = .ok (.newarray .int, 2) := by decide +kernel
theorem dX6_init_123 : decode cX6_init 123 = .ok (.putfield 50, 3) := by decide +kernel
theorem dX6_init_126 : decode cX6_init 126 = .ok (.return_, 1) := by decide +kernel
theorem dX6_person_0 : decode cX6_person 0 = .ok (.iload_n 1, 1) := by decide +kernel
theorem dX6_person_1 : decode cX6_person 1 = .ok (.invokestatic 54, 3) := by decide +kernel
theorem dX6_person_4 : decode cX6_person 4 = .ok (.ifCond .eq 17, 3) := by decide +kernel
theorem dX6_person_7 : decode cX6_person 7 = .ok (.iload_n 2, 1) := by decide +kernel
theorem dX6_person_8 : decode cX6_person 8 = .ok (.invokestatic 58, 3) := by decide +kernel
theorem dX6_person_11 : decode cX6_person 11 = .ok (.ifCond .eq 10, 3) := by decide +kernel
theorem dX6_person_14 : decode cX6_person 14 = .ok (.iload_n 3, 1) := by decide +kernel
theorem dX6_person_15 : decode cX6_person 15 = .ok (.invokestatic 61, 3) := by decide +kernel
theorem dX6_person_18 : decode cX6_person 18 = .ok (.ifCond .ne 9, 3) := by decide +kernel
theorem dX6_person_21 : decode cX6_person 21 = .ok (.aload_n 0, 1) := by decide +kernel
theorem dX6_person_22 : decode cX6_person 22 = .ok (.iconst 1, 1) := by decide +kernel
theorem dX6_person_23 : decode cX6_person 23 = .ok (.invokevirtual 64, 3) := by decide +kernel
theorem dX6_person_26 : decode cX6_person 26 = .ok (.ireturn, 1) := by decide +kernel
theorem dX6_person_27 : decode cX6_person 27 = .ok (.aload_n 0, 1) := by decide +kernel
theorem dX6_person_28 : decode cX6_person 28 = .ok (.getfield 10, 3) := by decide +kernel
theorem dX6_person_31 : decode cX6_person 31 = .ok (.getfield 68, 3) := by decide +kernel
theorem dX6_person_34 : decode cX6_person 34 = .ok (.bipush 8, 2) := by decide +kernel
theorem dX6_person_36 : decode cX6_person 36 = .ok (.if_icmp .lt 9, 3) := by decide +kernel
theorem dX6_person_39 : decode cX6_person 39 = .ok (.aload_n 0, 1) := by decide +kernel
theorem dX6_person_40 : decode cX6_person 40 = .ok (.iconst 4, 1) := by decide +kernel
theorem dX6_person_41 : decode cX6_person 41 = .ok (.invokevirtual 64, 3) := by decide +kernel
theorem dX6_person_44 : decode cX6_person 44 = .ok (.ireturn, 1) := by decide +kernel
theorem dX6_person_45 : decode cX6_person 45 = .ok (.aload_n 0, 1) := by decide +kernel
theorem dX6_person_46 : decode cX6_person 46 = .ok (.getfield 10, 3) := by decide +kernel
theorem dX6_person_49 : decode cX6_person 49 = .ok (.iload_n 1, 1) := by decide +kernel
theorem dX6_person_50 : decode cX6_person 50 = .ok (.iload_n 2, 1) := by decide +kernel
theorem dX6_person_51 : decode cX6_person 51 = .ok (.iload_n 3, 1) := by decide +kernel
theorem dX6_person_52 : decode cX6_person 52 = .ok (.invokevirtual 72, 3) := by decide +kernel
theorem dX6_person_55 : decode cX6_person 55 = .ok (.ireturn, 1) := by decide +kernel
theorem dX6_personIs_0 : decode cX6_personIs 0 = .ok (.aload_n 0, 1) := by decide +kernel
theorem dX6_personIs_1 : decode cX6_personIs 1 = .ok (.getfield 10, 3) := by decide +kernel
theorem dX6_personIs_4 : decode cX6_personIs 4 = .ok (.iload_n 1, 1) := by decide +kernel
theorem dX6_personIs_5 : decode cX6_personIs 5 = .ok (.invokevirtual 76, 3) := by decide +kernel
theorem dX6_personIs_8 : decode cX6_personIs 8 = .ok (.ifCond .ne 9, 3) := by decide +kernel
theorem dX6_personIs_11 : decode cX6_personIs 11 = .ok (.aload_n 0, 1) := by decide +kernel
theorem dX6_personIs_12 : decode cX6_personIs 12 = .ok (.iconst 1, 1) := by decide +kernel
theorem dX6_personIs_13 : decode cX6_personIs 13 = .ok (.invokevirtual 64, 3) := by decide +kernel
theorem dX6_personIs_16 : decode cX6_personIs 16 = .ok (.ireturn, 1) := by decide +kernel
theorem dX6_personIs_17 : decode cX6_personIs 17 = .ok (.iload_n 2, 1) := by decide +kernel
theorem dX6_personIs_18 : decode cX6_personIs 18 = .ok (.tableswitch 90 0 4 #[34, 44, 54, 67, 80], 34) := by decide +kernel
theorem dX6_personIs_52 : decode cX6_personIs 52 = .ok (.aload_n 0, 1) := by decide +kernel
theorem dX6_personIs_53 : decode cX6_personIs 53 = .ok (.getfield 10, 3) := by decide +kernel
theorem dX6_personIs_56 : decode cX6_personIs 56 = .ok (.getfield 79, 3) := by decide +kernel
theorem dX6_personIs_59 : decode cX6_personIs 59 = .ok (.iload_n 1, 1) := by decide +kernel
theorem dX6_personIs_60 : decode cX6_personIs 60 = .ok (.iaload, 1) := by decide +kernel
theorem dX6_personIs_61 : decode cX6_personIs 61 = .ok (.ireturn, 1) := by decide +kernel
theorem dX6_personIs_62 : decode cX6_personIs 62 = .ok (.aload_n 0, 1) := by decide +kernel
theorem dX6_personIs_63 : decode cX6_personIs 63 = .ok (.getfield 10, 3) := by decide +kernel
theorem dX6_personIs_66 : decode cX6_personIs 66 = .ok (.getfield 82, 3) := by decide +kernel
theorem dX6_personIs_69 : decode cX6_personIs 69 = .ok (.iload_n 1, 1) := by decide +kernel
theorem dX6_personIs_70 : decode cX6_personIs 70 = .ok (.iaload, 1) := by decide +kernel
theorem dX6_personIs_71 : decode cX6_personIs 71 = .ok (.ireturn, 1) := by decide +kernel
theorem dX6_personIs_72 : decode cX6_personIs 72 = .ok (.aload_n 0, 1) := by decide +kernel
theorem dX6_personIs_73 : decode cX6_personIs 73 = .ok (.getfield 10, 3) := by decide +kernel
theorem dX6_personIs_76 : decode cX6_personIs 76 = .ok (.getfield 85, 3) := by decide +kernel
theorem dX6_personIs_79 : decode cX6_personIs 79 = .ok (.getfield 88, 3) := by decide +kernel
theorem dX6_personIs_82 : decode cX6_personIs 82 = .ok (.iload_n 1, 1) := by decide +kernel
theorem dX6_personIs_83 : decode cX6_personIs 83 = .ok (.iaload, 1) := by decide +kernel
theorem dX6_personIs_84 : decode cX6_personIs 84 = .ok (.ireturn, 1) := by decide +kernel
theorem dX6_personIs_85 : decode cX6_personIs 85 = .ok (.aload_n 0, 1) := by decide +kernel
theorem dX6_personIs_86 : decode cX6_personIs 86 = .ok (.getfield 10, 3) := by decide +kernel
theorem dX6_personIs_89 : decode cX6_personIs 89 = .ok (.getfield 85, 3) := by decide +kernel
theorem dX6_personIs_92 : decode cX6_personIs 92 = .ok (.getfield 91, 3) := by decide +kernel
theorem dX6_personIs_95 : decode cX6_personIs 95 = .ok (.iload_n 1, 1) := by decide +kernel
theorem dX6_personIs_96 : decode cX6_personIs 96 = .ok (.iaload, 1) := by decide +kernel
theorem dX6_personIs_97 : decode cX6_personIs 97 = .ok (.ireturn, 1) := by decide +kernel
theorem dX6_personIs_98 : decode cX6_personIs 98 = .ok (.aload_n 0, 1) := by decide +kernel
theorem dX6_personIs_99 : decode cX6_personIs 99 = .ok (.getfield 10, 3) := by decide +kernel
theorem dX6_personIs_102 : decode cX6_personIs 102 = .ok (.getfield 94, 3) := by decide +kernel
theorem dX6_personIs_105 : decode cX6_personIs 105 = .ok (.iload_n 1, 1) := by decide +kernel
theorem dX6_personIs_106 : decode cX6_personIs 106 = .ok (.iaload, 1) := by decide +kernel
theorem dX6_personIs_107 : decode cX6_personIs 107 = .ok (.ireturn, 1) := by decide +kernel
theorem dX6_personIs_108 : decode cX6_personIs 108 = .ok (.aload_n 0, 1) := by decide +kernel
theorem dX6_personIs_109 : decode cX6_personIs 109 = .ok (.iconst 1, 1) := by decide +kernel
theorem dX6_personIs_110 : decode cX6_personIs 110 = .ok (.invokevirtual 64, 3) := by decide +kernel
theorem dX6_personIs_113 : decode cX6_personIs 113 = .ok (.ireturn, 1) := by decide +kernel
theorem dX6_become_0 : decode cX6_become 0 = .ok (.aload_n 0, 1) := by decide +kernel
theorem dX6_become_1 : decode cX6_become 1 = .ok (.getfield 10, 3) := by decide +kernel
theorem dX6_become_4 : decode cX6_become 4 = .ok (.iload_n 1, 1) := by decide +kernel
theorem dX6_become_5 : decode cX6_become 5 = .ok (.invokevirtual 76, 3) := by decide +kernel
theorem dX6_become_8 : decode cX6_become 8 = .ok (.ifCond .eq 10, 3) := by decide +kernel
theorem dX6_become_11 : decode cX6_become 11 = .ok (.iload_n 2, 1) := by decide +kernel
theorem dX6_become_12 : decode cX6_become 12 = .ok (.invokestatic 54, 3) := by decide +kernel
theorem dX6_become_15 : decode cX6_become 15 = .ok (.ifCond .ne 9, 3) := by decide +kernel
theorem dX6_become_18 : decode cX6_become 18 = .ok (.aload_n 0, 1) := by decide +kernel
theorem dX6_become_19 : decode cX6_become 19 = .ok (.iconst 1, 1) := by decide +kernel
theorem dX6_become_20 : decode cX6_become 20 = .ok (.invokevirtual 64, 3) := by decide +kernel
theorem dX6_become_23 : decode cX6_become 23 = .ok (.ireturn, 1) := by decide +kernel
theorem dX6_become_24 : decode cX6_become 24 = .ok (.aload_n 0, 1) := by decide +kernel
theorem dX6_become_25 : decode cX6_become 25 = .ok (.getfield 10, 3) := by decide +kernel
theorem dX6_become_28 : decode cX6_become 28 = .ok (.getfield 79, 3) := by decide +kernel
theorem dX6_become_31 : decode cX6_become 31 = .ok (.iload_n 1, 1) := by decide +kernel
theorem dX6_become_32 : decode cX6_become 32 = .ok (.iaload, 1) := by decide +kernel
theorem dX6_become_33 : decode cX6_become 33 = .ok (.istore_n 3, 1) := by decide +kernel
theorem dX6_become_34 : decode cX6_become 34 = .ok (.aload_n 0, 1) := by decide +kernel
theorem dX6_become_35 : decode cX6_become 35 = .ok (.getfield 10, 3) := by decide +kernel
theorem dX6_become_38 : decode cX6_become 38 = .ok (.getfield 79, 3) := by decide +kernel
theorem dX6_become_41 : decode cX6_become 41 = .ok (.iload_n 1, 1) := by decide +kernel
theorem dX6_become_42 : decode cX6_become 42 = .ok (.iload_n 2, 1) := by decide +kernel
theorem dX6_become_43 : decode cX6_become 43 = .ok (.bipush 10, 2) := by decide +kernel
theorem dX6_become_45 : decode cX6_become 45 = .ok (.idiv, 1) := by decide +kernel
theorem dX6_become_46 : decode cX6_become 46 = .ok (.iastore, 1) := by decide +kernel
theorem dX6_become_47 : decode cX6_become 47 = .ok (.aload_n 0, 1) := by decide +kernel
theorem dX6_become_48 : decode cX6_become 48 = .ok (.getfield 10, 3) := by decide +kernel
theorem dX6_become_51 : decode cX6_become 51 = .ok (.getfield 82, 3) := by decide +kernel
theorem dX6_become_54 : decode cX6_become 54 = .ok (.iload_n 1, 1) := by decide +kernel
theorem dX6_become_55 : decode cX6_become 55 = .ok (.iload_n 2, 1) := by decide +kernel
theorem dX6_become_56 : decode cX6_become 56 = .ok (.bipush 10, 2) := by decide +kernel
theorem dX6_become_58 : decode cX6_become 58 = .ok (.irem, 1) := by decide +kernel
theorem dX6_become_59 : decode cX6_become 59 = .ok (.iastore, 1) := by decide +kernel
theorem dX6_become_60 : decode cX6_become 60 = .ok (.iload_n 3, 1) := by decide +kernel
theorem dX6_become_61 : decode cX6_become 61 = .ok (.ireturn, 1) := by decide +kernel
theorem dX6_as_0 : decode cX6_as 0 = .ok (.aload_n 0, 1) := by decide +kernel
theorem dX6_as_1 : decode cX6_as 1 = .ok (.getfield 10, 3) := by decide +kernel
theorem dX6_as_4 : decode cX6_as 4 = .ok (.iload_n 1, 1) := by decide +kernel
theorem dX6_as_5 : decode cX6_as 5 = .ok (.invokevirtual 76, 3) := by decide +kernel
theorem dX6_as_8 : decode cX6_as 8 = .ok (.ifCond .eq 12, 3) := by decide +kernel
theorem dX6_as_11 : decode cX6_as 11 = .ok (.iload_n 2, 1) := by decide +kernel
theorem dX6_as_12 : decode cX6_as 12 = .ok (.bipush 6, 2) := by decide +kernel
theorem dX6_as_14 : decode cX6_as 14 = .ok (.invokestatic 97, 3) := by decide +kernel
theorem dX6_as_17 : decode cX6_as 17 = .ok (.ifCond .ne 9, 3) := by decide +kernel
theorem dX6_as_20 : decode cX6_as 20 = .ok (.aload_n 0, 1) := by decide +kernel
theorem dX6_as_21 : decode cX6_as 21 = .ok (.iconst 1, 1) := by decide +kernel
theorem dX6_as_22 : decode cX6_as 22 = .ok (.invokevirtual 64, 3) := by decide +kernel
theorem dX6_as_25 : decode cX6_as 25 = .ok (.ireturn, 1) := by decide +kernel
theorem dX6_as_26 : decode cX6_as 26 = .ok (.aload_n 0, 1) := by decide +kernel
theorem dX6_as_27 : decode cX6_as 27 = .ok (.getfield 10, 3) := by decide +kernel
theorem dX6_as_30 : decode cX6_as 30 = .ok (.getfield 79, 3) := by decide +kernel
theorem dX6_as_33 : decode cX6_as 33 = .ok (.iload_n 1, 1) := by decide +kernel
theorem dX6_as_34 : decode cX6_as 34 = .ok (.iaload, 1) := by decide +kernel
theorem dX6_as_35 : decode cX6_as 35 = .ok (.iload_n 2, 1) := by decide +kernel
theorem dX6_as_36 : decode cX6_as 36 = .ok (.invokestatic 101, 3) := by decide +kernel
theorem dX6_as_39 : decode cX6_as 39 = .ok (.ifCond .eq 15, 3) := by decide +kernel
theorem dX6_as_42 : decode cX6_as 42 = .ok (.aload_n 0, 1) := by decide +kernel
theorem dX6_as_43 : decode cX6_as 43 = .ok (.getfield 10, 3) := by decide +kernel
theorem dX6_as_46 : decode cX6_as 46 = .ok (.getfield 82, 3) := by decide +kernel
theorem dX6_as_49 : decode cX6_as 49 = .ok (.iload_n 1, 1) := by decide +kernel
theorem dX6_as_50 : decode cX6_as 50 = .ok (.iaload, 1) := by decide +kernel
theorem dX6_as_51 : decode cX6_as 51 = .ok (.goto 8, 3) := by decide +kernel
theorem dX6_as_54 : decode cX6_as 54 = .ok (.aload_n 0, 1) := by decide +kernel
theorem dX6_as_55 : decode cX6_as 55 = .ok (.iconst 5, 1) := by decide +kernel
theorem dX6_as_56 : decode cX6_as 56 = .ok (.invokevirtual 64, 3) := by decide +kernel
theorem dX6_as_59 : decode cX6_as 59 = .ok (.ireturn, 1) := by decide +kernel
theorem dX6_shows_0 : decode cX6_shows 0 = .ok (.aload_n 0, 1) := by decide +kernel
theorem dX6_shows_1 : decode cX6_shows 1 = .ok (.getfield 10, 3) := by decide +kernel
theorem dX6_shows_4 : decode cX6_shows 4 = .ok (.iload_n 1, 1) := by decide +kernel
theorem dX6_shows_5 : decode cX6_shows 5 = .ok (.invokevirtual 76, 3) := by decide +kernel
theorem dX6_shows_8 : decode cX6_shows 8 = .ok (.ifCond .eq 10, 3) := by decide +kernel
theorem dX6_shows_11 : decode cX6_shows 11 = .ok (.iload_n 2, 1) := by decide +kernel
theorem dX6_shows_12 : decode cX6_shows 12 = .ok (.invokestatic 61, 3) := by decide +kernel
theorem dX6_shows_15 : decode cX6_shows 15 = .ok (.ifCond .ne 9, 3) := by decide +kernel
theorem dX6_shows_18 : decode cX6_shows 18 = .ok (.aload_n 0, 1) := by decide +kernel
theorem dX6_shows_19 : decode cX6_shows 19 = .ok (.iconst 1, 1) := by decide +kernel
theorem dX6_shows_20 : decode cX6_shows 20 = .ok (.invokevirtual 64, 3) := by decide +kernel
theorem dX6_shows_23 : decode cX6_shows 23 = .ok (.ireturn, 1) := by decide +kernel
theorem dX6_shows_24 : decode cX6_shows 24 = .ok (.aload_n 0, 1) := by decide +kernel
theorem dX6_shows_25 : decode cX6_shows 25 = .ok (.getfield 10, 3) := by decide +kernel
theorem dX6_shows_28 : decode cX6_shows 28 = .ok (.getfield 85, 3) := by decide +kernel
theorem dX6_shows_31 : decode cX6_shows 31 = .ok (.getfield 91, 3) := by decide +kernel
theorem dX6_shows_34 : decode cX6_shows 34 = .ok (.iload_n 1, 1) := by decide +kernel
theorem dX6_shows_35 : decode cX6_shows 35 = .ok (.iaload, 1) := by decide +kernel
theorem dX6_shows_36 : decode cX6_shows 36 = .ok (.istore_n 3, 1) := by decide +kernel
theorem dX6_shows_37 : decode cX6_shows 37 = .ok (.aload_n 0, 1) := by decide +kernel
theorem dX6_shows_38 : decode cX6_shows 38 = .ok (.getfield 10, 3) := by decide +kernel
theorem dX6_shows_41 : decode cX6_shows 41 = .ok (.getfield 85, 3) := by decide +kernel
theorem dX6_shows_44 : decode cX6_shows 44 = .ok (.getfield 91, 3) := by decide +kernel
theorem dX6_shows_47 : decode cX6_shows 47 = .ok (.iload_n 1, 1) := by decide +kernel
theorem dX6_shows_48 : decode cX6_shows 48 = .ok (.iload_n 2, 1) := by decide +kernel
theorem dX6_shows_49 : decode cX6_shows 49 = .ok (.iastore, 1) := by decide +kernel
theorem dX6_shows_50 : decode cX6_shows 50 = .ok (.iload_n 3, 1) := by decide +kernel
theorem dX6_shows_51 : decode cX6_shows 51 = .ok (.ireturn, 1) := by decide +kernel
theorem dX6_seems_0 : decode cX6_seems 0 = .ok (.aload_n 0, 1) := by decide +kernel
theorem dX6_seems_1 : decode cX6_seems 1 = .ok (.getfield 10, 3) := by decide +kernel
theorem dX6_seems_4 : decode cX6_seems 4 = .ok (.iload_n 1, 1) := by decide +kernel
theorem dX6_seems_5 : decode cX6_seems 5 = .ok (.invokevirtual 76, 3) := by decide +kernel
theorem dX6_seems_8 : decode cX6_seems 8 = .ok (.ifCond .eq 10, 3) := by decide +kernel
theorem dX6_seems_11 : decode cX6_seems 11 = .ok (.iload_n 2, 1) := by decide +kernel
theorem dX6_seems_12 : decode cX6_seems 12 = .ok (.invokestatic 58, 3) := by decide +kernel
theorem dX6_seems_15 : decode cX6_seems 15 = .ok (.ifCond .ne 9, 3) := by decide +kernel
theorem dX6_seems_18 : decode cX6_seems 18 = .ok (.aload_n 0, 1) := by decide +kernel
theorem dX6_seems_19 : decode cX6_seems 19 = .ok (.iconst 1, 1) := by decide +kernel
theorem dX6_seems_20 : decode cX6_seems 20 = .ok (.invokevirtual 64, 3) := by decide +kernel
theorem dX6_seems_23 : decode cX6_seems 23 = .ok (.ireturn, 1) := by decide +kernel
theorem dX6_seems_24 : decode cX6_seems 24 = .ok (.aload_n 0, 1) := by decide +kernel
theorem dX6_seems_25 : decode cX6_seems 25 = .ok (.getfield 10, 3) := by decide +kernel
theorem dX6_seems_28 : decode cX6_seems 28 = .ok (.getfield 85, 3) := by decide +kernel
theorem dX6_seems_31 : decode cX6_seems 31 = .ok (.getfield 88, 3) := by decide +kernel
theorem dX6_seems_34 : decode cX6_seems 34 = .ok (.iload_n 1, 1) := by decide +kernel
theorem dX6_seems_35 : decode cX6_seems 35 = .ok (.iaload, 1) := by decide +kernel
theorem dX6_seems_36 : decode cX6_seems 36 = .ok (.istore_n 3, 1) := by decide +kernel
theorem dX6_seems_37 : decode cX6_seems 37 = .ok (.aload_n 0, 1) := by decide +kernel
theorem dX6_seems_38 : decode cX6_seems 38 = .ok (.getfield 10, 3) := by decide +kernel
theorem dX6_seems_41 : decode cX6_seems 41 = .ok (.getfield 85, 3) := by decide +kernel
theorem dX6_seems_44 : decode cX6_seems 44 = .ok (.getfield 88, 3) := by decide +kernel
theorem dX6_seems_47 : decode cX6_seems 47 = .ok (.iload_n 1, 1) := by decide +kernel
theorem dX6_seems_48 : decode cX6_seems 48 = .ok (.iload_n 2, 1) := by decide +kernel
theorem dX6_seems_49 : decode cX6_seems 49 = .ok (.iastore, 1) := by decide +kernel
theorem dX6_seems_50 : decode cX6_seems 50 = .ok (.iload_n 3, 1) := by decide +kernel
theorem dX6_seems_51 : decode cX6_seems 51 = .ok (.ireturn, 1) := by decide +kernel
theorem dX6_taken_0 : decode cX6_taken 0 = .ok (.aload_n 0, 1) := by decide +kernel
theorem dX6_taken_1 : decode cX6_taken 1 = .ok (.getfield 10, 3) := by decide +kernel
theorem dX6_taken_4 : decode cX6_taken 4 = .ok (.iload_n 1, 1) := by decide +kernel
theorem dX6_taken_5 : decode cX6_taken 5 = .ok (.invokevirtual 76, 3) := by decide +kernel
theorem dX6_taken_8 : decode cX6_taken 8 = .ok (.ifCond .eq 19, 3) := by decide +kernel
theorem dX6_taken_11 : decode cX6_taken 11 = .ok (.aload_n 0, 1) := by decide +kernel
theorem dX6_taken_12 : decode cX6_taken 12 = .ok (.getfield 10, 3) := by decide +kernel
theorem dX6_taken_15 : decode cX6_taken 15 = .ok (.iload_n 2, 1) := by decide +kernel
theorem dX6_taken_16 : decode cX6_taken 16 = .ok (.invokevirtual 76, 3) := by decide +kernel
theorem dX6_taken_19 : decode cX6_taken 19 = .ok (.ifCond .eq 8, 3) := by decide +kernel
theorem dX6_taken_22 : decode cX6_taken 22 = .ok (.iload_n 1, 1) := by decide +kernel
theorem dX6_taken_23 : decode cX6_taken 23 = .ok (.iload_n 2, 1) := by decide +kernel
theorem dX6_taken_24 : decode cX6_taken 24 = .ok (.if_icmp .ne 9, 3) := by decide +kernel
theorem dX6_taken_27 : decode cX6_taken 27 = .ok (.aload_n 0, 1) := by decide +kernel
theorem dX6_taken_28 : decode cX6_taken 28 = .ok (.iconst 1, 1) := by decide +kernel
theorem dX6_taken_29 : decode cX6_taken 29 = .ok (.invokevirtual 64, 3) := by decide +kernel
theorem dX6_taken_32 : decode cX6_taken 32 = .ok (.ireturn, 1) := by decide +kernel
theorem dX6_taken_33 : decode cX6_taken 33 = .ok (.aload_n 0, 1) := by decide +kernel
theorem dX6_taken_34 : decode cX6_taken 34 = .ok (.getfield 10, 3) := by decide +kernel
theorem dX6_taken_37 : decode cX6_taken 37 = .ok (.getfield 85, 3) := by decide +kernel
theorem dX6_taken_40 : decode cX6_taken 40 = .ok (.astore_n 3, 1) := by decide +kernel
theorem dX6_taken_41 : decode cX6_taken 41 = .ok (.aload_n 0, 1) := by decide +kernel
theorem dX6_taken_42 : decode cX6_taken 42 = .ok (.getfield 10, 3) := by decide +kernel
theorem dX6_taken_45 : decode cX6_taken 45 = .ok (.iload_n 1, 1) := by decide +kernel
theorem dX6_taken_46 : decode cX6_taken 46 = .ok (.aload_n 3, 1) := by decide +kernel
theorem dX6_taken_47 : decode cX6_taken 47 = .ok (.getfield 88, 3) := by decide +kernel
theorem dX6_taken_50 : decode cX6_taken 50 = .ok (.iload_n 2, 1) := by decide +kernel
theorem dX6_taken_51 : decode cX6_taken 51 = .ok (.iaload, 1) := by decide +kernel
theorem dX6_taken_52 : decode cX6_taken 52 = .ok (.aload_n 3, 1) := by decide +kernel
theorem dX6_taken_53 : decode cX6_taken 53 = .ok (.getfield 91, 3) := by decide +kernel
theorem dX6_taken_56 : decode cX6_taken 56 = .ok (.iload_n 2, 1) := by decide +kernel
theorem dX6_taken_57 : decode cX6_taken 57 = .ok (.iaload, 1) := by decide +kernel
theorem dX6_taken_58 : decode cX6_taken 58 = .ok (.aload_n 3, 1) := by decide +kernel
theorem dX6_taken_59 : decode cX6_taken 59 = .ok (.getfield 104, 3) := by decide +kernel
theorem dX6_taken_62 : decode cX6_taken 62 = .ok (.invokevirtual 107, 3) := by decide +kernel
theorem dX6_taken_65 : decode cX6_taken 65 = .ok (.ireturn, 1) := by decide +kernel
theorem dX6_call_0 : decode cX6_call 0 = .ok (.aload_n 0, 1) := by decide +kernel
theorem dX6_call_1 : decode cX6_call 1 = .ok (.getfield 10, 3) := by decide +kernel
theorem dX6_call_4 : decode cX6_call 4 = .ok (.iload_n 1, 1) := by decide +kernel
theorem dX6_call_5 : decode cX6_call 5 = .ok (.invokevirtual 76, 3) := by decide +kernel
theorem dX6_call_8 : decode cX6_call 8 = .ok (.ifCond .eq 19, 3) := by decide +kernel
theorem dX6_call_11 : decode cX6_call 11 = .ok (.aload_n 0, 1) := by decide +kernel
theorem dX6_call_12 : decode cX6_call 12 = .ok (.getfield 10, 3) := by decide +kernel
theorem dX6_call_15 : decode cX6_call 15 = .ok (.iload_n 2, 1) := by decide +kernel
theorem dX6_call_16 : decode cX6_call 16 = .ok (.invokevirtual 76, 3) := by decide +kernel
theorem dX6_call_19 : decode cX6_call 19 = .ok (.ifCond .eq 8, 3) := by decide +kernel
theorem dX6_call_22 : decode cX6_call 22 = .ok (.iload_n 1, 1) := by decide +kernel
theorem dX6_call_23 : decode cX6_call 23 = .ok (.iload_n 2, 1) := by decide +kernel
theorem dX6_call_24 : decode cX6_call 24 = .ok (.if_icmp .ne 9, 3) := by decide +kernel
theorem dX6_call_27 : decode cX6_call 27 = .ok (.aload_n 0, 1) := by decide +kernel
theorem dX6_call_28 : decode cX6_call 28 = .ok (.iconst 1, 1) := by decide +kernel
theorem dX6_call_29 : decode cX6_call 29 = .ok (.invokevirtual 64, 3) := by decide +kernel
theorem dX6_call_32 : decode cX6_call 32 = .ok (.ireturn, 1) := by decide +kernel
theorem dX6_call_33 : decode cX6_call 33 = .ok (.aload_n 0, 1) := by decide +kernel
theorem dX6_call_34 : decode cX6_call 34 = .ok (.getfield 10, 3) := by decide +kernel
theorem dX6_call_37 : decode cX6_call 37 = .ok (.iload_n 1, 1) := by decide +kernel
theorem dX6_call_38 : decode cX6_call 38 = .ok (.iload_n 2, 1) := by decide +kernel
theorem dX6_call_39 : decode cX6_call 39 = .ok (.invokevirtual 111, 3) := by decide +kernel
theorem dX6_call_42 : decode cX6_call 42 = .ok (.ireturn, 1) := by decide +kernel
theorem dX6_feed_0 : decode cX6_feed 0 = .ok (.iload_n 3, 1) := by decide +kernel
theorem dX6_feed_1 : decode cX6_feed 1 = .ok (.iconst 1, 1) := by decide +kernel
theorem dX6_feed_2 : decode cX6_feed 2 = .ok (.if_icmp .lt 9, 3) := by decide +kernel
theorem dX6_feed_5 : decode cX6_feed 5 = .ok (.iload_n 3, 1) := by decide +kernel
theorem dX6_feed_6 : decode cX6_feed 6 = .ok (.bipush 8, 2) := by decide +kernel
theorem dX6_feed_8 : decode cX6_feed 8 = .ok (.if_icmp .le 9, 3) := by decide +kernel
theorem dX6_feed_11 : decode cX6_feed 11 = .ok (.aload_n 0, 1) := by decide +kernel
theorem dX6_feed_12 : decode cX6_feed 12 = .ok (.iconst 1, 1) := by decide +kernel
theorem dX6_feed_13 : decode cX6_feed 13 = .ok (.invokevirtual 64, 3) := by decide +kernel
theorem dX6_feed_16 : decode cX6_feed 16 = .ok (.ireturn, 1) := by decide +kernel
theorem dX6_feed_17 : decode cX6_feed 17 = .ok (.iload_n 3, 1) := by decide +kernel
theorem dX6_feed_18 : decode cX6_feed 18 = .ok (.bipush 60, 2) := by decide +kernel
theorem dX6_feed_20 : decode cX6_feed 20 = .ok (.aload_n 0, 1) := by decide +kernel
theorem dX6_feed_21 : decode cX6_feed 21 = .ok (.getfield 10, 3) := by decide +kernel
theorem dX6_feed_24 : decode cX6_feed 24 = .ok (.getfield 115, 3) := by decide +kernel
theorem dX6_feed_27 : decode cX6_feed 27 = .ok (.isub, 1) := by decide +kernel
theorem dX6_feed_28 : decode cX6_feed 28 = .ok (.if_icmp .le 9, 3) := by decide +kernel
theorem dX6_feed_31 : decode cX6_feed 31 = .ok (.aload_n 0, 1) := by decide +kernel
theorem dX6_feed_32 : decode cX6_feed 32 = .ok (.iconst 4, 1) := by decide +kernel
theorem dX6_feed_33 : decode cX6_feed 33 = .ok (.invokevirtual 64, 3) := by decide +kernel
theorem dX6_feed_36 : decode cX6_feed 36 = .ok (.ireturn, 1) := by decide +kernel
theorem dX6_feed_37 : decode cX6_feed 37 = .ok (.aload_n 0, 1) := by decide +kernel
theorem dX6_feed_38 : decode cX6_feed 38 = .ok (.getfield 10, 3) := by decide +kernel
theorem dX6_feed_41 : decode cX6_feed 41 = .ok (.lload_n 1, 1) := by decide +kernel
theorem dX6_feed_42 : decode cX6_feed 42 = .ok (.iload_n 3, 1) := by decide +kernel
theorem dX6_feed_43 : decode cX6_feed 43 = .ok (.invokevirtual 118, 3) := by decide +kernel
theorem dX6_feed_46 : decode cX6_feed 46 = .ok (.ireturn, 1) := by decide +kernel
theorem dX6_text_0 : decode cX6_text 0 = .ok (.iload_n 1, 1) := by decide +kernel
theorem dX6_text_1 : decode cX6_text 1 = .ok (.invokestatic 122, 3) := by decide +kernel
theorem dX6_text_4 : decode cX6_text 4 = .ok (.ifCond .ne 9, 3) := by decide +kernel
theorem dX6_text_7 : decode cX6_text 7 = .ok (.aload_n 0, 1) := by decide +kernel
theorem dX6_text_8 : decode cX6_text 8 = .ok (.iconst 1, 1) := by decide +kernel
theorem dX6_text_9 : decode cX6_text 9 = .ok (.invokevirtual 64, 3) := by decide +kernel
theorem dX6_text_12 : decode cX6_text 12 = .ok (.ireturn, 1) := by decide +kernel
theorem dX6_text_13 : decode cX6_text 13 = .ok (.aload_n 0, 1) := by decide +kernel
theorem dX6_text_14 : decode cX6_text 14 = .ok (.getfield 32, 3) := by decide +kernel
theorem dX6_text_17 : decode cX6_text 17 = .ok (.aload_n 0, 1) := by decide +kernel
theorem dX6_text_18 : decode cX6_text 18 = .ok (.getfield 10, 3) := by decide +kernel
theorem dX6_text_21 : decode cX6_text 21 = .ok (.getfield 125, 3) := by decide +kernel
theorem dX6_text_24 : decode cX6_text 24 = .ok (.aload_n 0, 1) := by decide +kernel
theorem dX6_text_25 : decode cX6_text 25 = .ok (.getfield 10, 3) := by decide +kernel
theorem dX6_text_28 : decode cX6_text 28 = .ok (.getfield 115, 3) := by decide +kernel
theorem dX6_text_31 : decode cX6_text 31 = .ok (.iload_n 1, 1) := by decide +kernel
theorem dX6_text_32 : decode cX6_text 32 = .ok (.aload_n 0, 1) := by decide +kernel
theorem dX6_text_33 : decode cX6_text 33 = .ok (.getfield 10, 3) := by decide +kernel
theorem dX6_text_36 : decode cX6_text 36 = .ok (.iload_n 1, 1) := by decide +kernel
theorem dX6_text_37 : decode cX6_text 37 = .ok (.invokevirtual 129, 3) := by decide +kernel
theorem dX6_text_40 : decode cX6_text 40 = .ok (.invokevirtual 133, 3) := by decide +kernel
theorem dX6_text_43 : decode cX6_text 43 = .ok (.istore_n 2, 1) := by decide +kernel
theorem dX6_text_44 : decode cX6_text 44 = .ok (.aload_n 0, 1) := by decide +kernel
theorem dX6_text_45 : decode cX6_text 45 = .ok (.getfield 10, 3) := by decide +kernel
theorem dX6_text_48 : decode cX6_text 48 = .ok (.iconst 0, 1) := by decide +kernel
theorem dX6_text_49 : decode cX6_text 49 = .ok (.putfield 115, 3) := by decide +kernel
theorem dX6_text_52 : decode cX6_text 52 = .ok (.iload_n 2, 1) := by decide +kernel
theorem dX6_text_53 : decode cX6_text 53 = .ok (.ifCond .ge 7, 3) := by decide +kernel
theorem dX6_text_56 : decode cX6_text 56 = .ok (.iconst 1, 1) := by decide +kernel
theorem dX6_text_57 : decode cX6_text 57 = .ok (.goto 7, 3) := by decide +kernel
theorem dX6_text_60 : decode cX6_text 60 = .ok (.bipush (-10), 2) := by decide +kernel
theorem dX6_text_62 : decode cX6_text 62 = .ok (.iload_n 2, 1) := by decide +kernel
theorem dX6_text_63 : decode cX6_text 63 = .ok (.isub, 1) := by decide +kernel
theorem dX6_text_64 : decode cX6_text 64 = .ok (.ireturn, 1) := by decide +kernel
theorem dX6_untell_0 : decode cX6_untell 0 = .ok (.iload_n 1, 1) := by decide +kernel
theorem dX6_untell_1 : decode cX6_untell 1 = .ok (.invokestatic 122, 3) := by decide +kernel
theorem dX6_untell_4 : decode cX6_untell 4 = .ok (.ifCond .ne 9, 3) := by decide +kernel
theorem dX6_untell_7 : decode cX6_untell 7 = .ok (.aload_n 0, 1) := by decide +kernel
theorem dX6_untell_8 : decode cX6_untell 8 = .ok (.iconst 1, 1) := by decide +kernel
theorem dX6_untell_9 : decode cX6_untell 9 = .ok (.invokevirtual 64, 3) := by decide +kernel
theorem dX6_untell_12 : decode cX6_untell 12 = .ok (.ireturn, 1) := by decide +kernel
theorem dX6_untell_13 : decode cX6_untell 13 = .ok (.aload_n 0, 1) := by decide +kernel
theorem dX6_untell_14 : decode cX6_untell 14 = .ok (.getfield 10, 3) := by decide +kernel
theorem dX6_untell_17 : decode cX6_untell 17 = .ok (.iload_n 1, 1) := by decide +kernel
theorem dX6_untell_18 : decode cX6_untell 18 = .ok (.invokevirtual 129, 3) := by decide +kernel
theorem dX6_untell_21 : decode cX6_untell 21 = .ok (.astore_n 2, 1) := by decide +kernel
theorem dX6_untell_22 : decode cX6_untell 22 = .ok (.aload_n 2, 1) := by decide +kernel
theorem dX6_untell_23 : decode cX6_untell 23 = .ok (.getfield 137, 3) := by decide +kernel
theorem dX6_untell_26 : decode cX6_untell 26 = .ok (.ifCond .le 7, 3) := by decide +kernel
theorem dX6_untell_29 : decode cX6_untell 29 = .ok (.iconst 1, 1) := by decide +kernel
theorem dX6_untell_30 : decode cX6_untell 30 = .ok (.goto 4, 3) := by decide +kernel
theorem dX6_untell_33 : decode cX6_untell 33 = .ok (.iconst 0, 1) := by decide +kernel
theorem dX6_untell_34 : decode cX6_untell 34 = .ok (.istore_n 3, 1) := by decide +kernel
theorem dX6_untell_35 : decode cX6_untell 35 = .ok (.aload_n 2, 1) := by decide +kernel
theorem dX6_untell_36 : decode cX6_untell 36 = .ok (.iconst 0, 1) := by decide +kernel
theorem dX6_untell_37 : decode cX6_untell 37 = .ok (.putfield 137, 3) := by decide +kernel
theorem dX6_untell_40 : decode cX6_untell 40 = .ok (.iload_n 3, 1) := by decide +kernel
theorem dX6_untell_41 : decode cX6_untell 41 = .ok (.ireturn, 1) := by decide +kernel
theorem dX6_law_0 : decode cX6_law 0 = .ok (.iload_n 1, 1) := by decide +kernel
theorem dX6_law_1 : decode cX6_law 1 = .ok (.invokestatic 122, 3) := by decide +kernel
theorem dX6_law_4 : decode cX6_law 4 = .ok (.ifCond .eq 21, 3) := by decide +kernel
theorem dX6_law_7 : decode cX6_law 7 = .ok (.aload_n 0, 1) := by decide +kernel
theorem dX6_law_8 : decode cX6_law 8 = .ok (.getfield 10, 3) := by decide +kernel
theorem dX6_law_11 : decode cX6_law 11 = .ok (.iload_n 1, 1) := by decide +kernel
theorem dX6_law_12 : decode cX6_law 12 = .ok (.invokevirtual 129, 3) := by decide +kernel
theorem dX6_law_15 : decode cX6_law 15 = .ok (.iload_n 2, 1) := by decide +kernel
theorem dX6_law_16 : decode cX6_law 16 = .ok (.iload_n 3, 1) := by decide +kernel
theorem dX6_law_17 : decode cX6_law 17 = .ok (.iload 4, 2) := by decide +kernel
theorem dX6_law_19 : decode cX6_law 19 = .ok (.invokevirtual 142, 3) := by decide +kernel
theorem dX6_law_22 : decode cX6_law 22 = .ok (.goto 8, 3) := by decide +kernel
theorem dX6_law_25 : decode cX6_law 25 = .ok (.aload_n 0, 1) := by decide +kernel
theorem dX6_law_26 : decode cX6_law 26 = .ok (.iconst 1, 1) := by decide +kernel
theorem dX6_law_27 : decode cX6_law 27 = .ok (.invokevirtual 64, 3) := by decide +kernel
theorem dX6_law_30 : decode cX6_law 30 = .ok (.ireturn, 1) := by decide +kernel
theorem dX6_days_0 : decode cX6_days 0 = .ok (.iload_n 1, 1) := by decide +kernel
theorem dX6_days_1 : decode cX6_days 1 = .ok (.iconst 1, 1) := by decide +kernel
theorem dX6_days_2 : decode cX6_days 2 = .ok (.if_icmp .lt 9, 3) := by decide +kernel
theorem dX6_days_5 : decode cX6_days 5 = .ok (.iload_n 1, 1) := by decide +kernel
theorem dX6_days_6 : decode cX6_days 6 = .ok (.bipush 100, 2) := by decide +kernel
theorem dX6_days_8 : decode cX6_days 8 = .ok (.if_icmp .le 9, 3) := by decide +kernel
theorem dX6_days_11 : decode cX6_days 11 = .ok (.aload_n 0, 1) := by decide +kernel
theorem dX6_days_12 : decode cX6_days 12 = .ok (.iconst 1, 1) := by decide +kernel
theorem dX6_days_13 : decode cX6_days 13 = .ok (.invokevirtual 64, 3) := by decide +kernel
theorem dX6_days_16 : decode cX6_days 16 = .ok (.ireturn, 1) := by decide +kernel
theorem dX6_days_17 : decode cX6_days 17 = .ok (.iload_n 1, 1) := by decide +kernel
theorem dX6_days_18 : decode cX6_days 18 = .ok (.sipush 9999, 3) := by decide +kernel
theorem dX6_days_21 : decode cX6_days 21 = .ok (.aload_n 0, 1) := by decide +kernel
theorem dX6_days_22 : decode cX6_days 22 = .ok (.getfield 10, 3) := by decide +kernel
theorem dX6_days_25 : decode cX6_days 25 = .ok (.getfield 85, 3) := by decide +kernel
theorem dX6_days_28 : decode cX6_days 28 = .ok (.getfield 104, 3) := by decide +kernel
theorem dX6_days_31 : decode cX6_days 31 = .ok (.isub, 1) := by decide +kernel
theorem dX6_days_32 : decode cX6_days 32 = .ok (.if_icmp .le 9, 3) := by decide +kernel
theorem dX6_days_35 : decode cX6_days 35 = .ok (.aload_n 0, 1) := by decide +kernel
theorem dX6_days_36 : decode cX6_days 36 = .ok (.iconst 3, 1) := by decide +kernel
theorem dX6_days_37 : decode cX6_days 37 = .ok (.invokevirtual 64, 3) := by decide +kernel
theorem dX6_days_40 : decode cX6_days 40 = .ok (.ireturn, 1) := by decide +kernel
theorem dX6_days_41 : decode cX6_days 41 = .ok (.iconst 0, 1) := by decide +kernel
theorem dX6_days_42 : decode cX6_days 42 = .ok (.istore_n 2, 1) := by decide +kernel
theorem dX6_days_43 : decode cX6_days 43 = .ok (.iload_n 2, 1) := by decide +kernel
theorem dX6_days_44 : decode cX6_days 44 = .ok (.iload_n 1, 1) := by decide +kernel
theorem dX6_days_45 : decode cX6_days 45 = .ok (.if_icmp .ge 24, 3) := by decide +kernel
theorem dX6_days_48 : decode cX6_days 48 = .ok (.aload_n 0, 1) := by decide +kernel
theorem dX6_days_49 : decode cX6_days 49 = .ok (.getfield 10, 3) := by decide +kernel
theorem dX6_days_52 : decode cX6_days 52 = .ok (.aload_n 0, 1) := by decide +kernel
theorem dX6_days_53 : decode cX6_days 53 = .ok (.getfield 10, 3) := by decide +kernel
theorem dX6_days_56 : decode cX6_days 56 = .ok (.getfield 85, 3) := by decide +kernel
theorem dX6_days_59 : decode cX6_days 59 = .ok (.invokevirtual 145, 3) := by decide +kernel
theorem dX6_days_62 : decode cX6_days 62 = .ok (.pop, 1) := by decide +kernel
theorem dX6_days_63 : decode cX6_days 63 = .ok (.iinc 2 1, 3) := by decide +kernel
theorem dX6_days_66 : decode cX6_days 66 = .ok (.goto (-23), 3) := by decide +kernel
theorem dX6_days_69 : decode cX6_days 69 = .ok (.aload_n 0, 1) := by decide +kernel
theorem dX6_days_70 : decode cX6_days 70 = .ok (.getfield 10, 3) := by decide +kernel
theorem dX6_days_73 : decode cX6_days 73 = .ok (.getfield 85, 3) := by decide +kernel
theorem dX6_days_76 : decode cX6_days 76 = .ok (.getfield 104, 3) := by decide +kernel
theorem dX6_days_79 : decode cX6_days 79 = .ok (.ireturn, 1) := by decide +kernel
theorem dX6_loose_0 : decode cX6_loose 0 = .ok (.iload_n 1, 1) := by decide +kernel
theorem dX6_loose_1 : decode cX6_loose 1 = .ok (.iconst 1, 1) := by decide +kernel
theorem dX6_loose_2 : decode cX6_loose 2 = .ok (.if_icmp .lt 9, 3) := by decide +kernel
theorem dX6_loose_5 : decode cX6_loose 5 = .ok (.iload_n 1, 1) := by decide +kernel
theorem dX6_loose_6 : decode cX6_loose 6 = .ok (.bipush 30, 2) := by decide +kernel
theorem dX6_loose_8 : decode cX6_loose 8 = .ok (.if_icmp .le 9, 3) := by decide +kernel
theorem dX6_loose_11 : decode cX6_loose 11 = .ok (.aload_n 0, 1) := by decide +kernel
theorem dX6_loose_12 : decode cX6_loose 12 = .ok (.iconst 1, 1) := by decide +kernel
theorem dX6_loose_13 : decode cX6_loose 13 = .ok (.invokevirtual 64, 3) := by decide +kernel
theorem dX6_loose_16 : decode cX6_loose 16 = .ok (.ireturn, 1) := by decide +kernel
theorem dX6_loose_17 : decode cX6_loose 17 = .ok (.iload_n 1, 1) := by decide +kernel
theorem dX6_loose_18 : decode cX6_loose 18 = .ok (.sipush 9999, 3) := by decide +kernel
theorem dX6_loose_21 : decode cX6_loose 21 = .ok (.aload_n 0, 1) := by decide +kernel
theorem dX6_loose_22 : decode cX6_loose 22 = .ok (.getfield 10, 3) := by decide +kernel
theorem dX6_loose_25 : decode cX6_loose 25 = .ok (.getfield 85, 3) := by decide +kernel
theorem dX6_loose_28 : decode cX6_loose 28 = .ok (.getfield 104, 3) := by decide +kernel
theorem dX6_loose_31 : decode cX6_loose 31 = .ok (.isub, 1) := by decide +kernel
theorem dX6_loose_32 : decode cX6_loose 32 = .ok (.if_icmp .le 9, 3) := by decide +kernel
theorem dX6_loose_35 : decode cX6_loose 35 = .ok (.aload_n 0, 1) := by decide +kernel
theorem dX6_loose_36 : decode cX6_loose 36 = .ok (.iconst 3, 1) := by decide +kernel
theorem dX6_loose_37 : decode cX6_loose 37 = .ok (.invokevirtual 64, 3) := by decide +kernel
theorem dX6_loose_40 : decode cX6_loose 40 = .ok (.ireturn, 1) := by decide +kernel
theorem dX6_loose_41 : decode cX6_loose 41 = .ok (.iconst 0, 1) := by decide +kernel
theorem dX6_loose_42 : decode cX6_loose 42 = .ok (.istore_n 2, 1) := by decide +kernel
theorem dX6_loose_43 : decode cX6_loose 43 = .ok (.iload_n 2, 1) := by decide +kernel
theorem dX6_loose_44 : decode cX6_loose 44 = .ok (.iload_n 1, 1) := by decide +kernel
theorem dX6_loose_45 : decode cX6_loose 45 = .ok (.if_icmp .ge 31, 3) := by decide +kernel
theorem dX6_loose_48 : decode cX6_loose 48 = .ok (.aload_n 0, 1) := by decide +kernel
theorem dX6_loose_49 : decode cX6_loose 49 = .ok (.getfield 10, 3) := by decide +kernel
theorem dX6_loose_52 : decode cX6_loose 52 = .ok (.invokevirtual 149, 3) := by decide +kernel
theorem dX6_loose_55 : decode cX6_loose 55 = .ok (.aload_n 0, 1) := by decide +kernel
theorem dX6_loose_56 : decode cX6_loose 56 = .ok (.getfield 10, 3) := by decide +kernel
theorem dX6_loose_59 : decode cX6_loose 59 = .ok (.aload_n 0, 1) := by decide +kernel
theorem dX6_loose_60 : decode cX6_loose 60 = .ok (.getfield 10, 3) := by decide +kernel
theorem dX6_loose_63 : decode cX6_loose 63 = .ok (.getfield 85, 3) := by decide +kernel
theorem dX6_loose_66 : decode cX6_loose 66 = .ok (.invokevirtual 145, 3) := by decide +kernel
theorem dX6_loose_69 : decode cX6_loose 69 = .ok (.pop, 1) := by decide +kernel
theorem dX6_loose_70 : decode cX6_loose 70 = .ok (.iinc 2 1, 3) := by decide +kernel
theorem dX6_loose_73 : decode cX6_loose 73 = .ok (.goto (-30), 3) := by decide +kernel
theorem dX6_loose_76 : decode cX6_loose 76 = .ok (.aload_n 0, 1) := by decide +kernel
theorem dX6_loose_77 : decode cX6_loose 77 = .ok (.getfield 10, 3) := by decide +kernel
theorem dX6_loose_80 : decode cX6_loose 80 = .ok (.aload_n 0, 1) := by decide +kernel
theorem dX6_loose_81 : decode cX6_loose 81 = .ok (.getfield 10, 3) := by decide +kernel
theorem dX6_loose_84 : decode cX6_loose 84 = .ok (.getfield 85, 3) := by decide +kernel
theorem dX6_loose_87 : decode cX6_loose 87 = .ok (.invokevirtual 152, 3) := by decide +kernel
theorem dX6_loose_90 : decode cX6_loose 90 = .ok (.ireturn, 1) := by decide +kernel
theorem dX6_seed_0 : decode cX6_seed 0 = .ok (.aload_n 0, 1) := by decide +kernel
theorem dX6_seed_1 : decode cX6_seed 1 = .ok (.getfield 10, 3) := by decide +kernel
theorem dX6_seed_4 : decode cX6_seed 4 = .ok (.getfield 156, 3) := by decide +kernel
theorem dX6_seed_7 : decode cX6_seed 7 = .ok (.istore_n 2, 1) := by decide +kernel
theorem dX6_seed_8 : decode cX6_seed 8 = .ok (.aload_n 0, 1) := by decide +kernel
theorem dX6_seed_9 : decode cX6_seed 9 = .ok (.getfield 10, 3) := by decide +kernel
theorem dX6_seed_12 : decode cX6_seed 12 = .ok (.iload_n 1, 1) := by decide +kernel
theorem dX6_seed_13 : decode cX6_seed 13 = .ok (.putfield 156, 3) := by decide +kernel
theorem dX6_seed_16 : decode cX6_seed 16 = .ok (.iload_n 2, 1) := by decide +kernel
theorem dX6_seed_17 : decode cX6_seed 17 = .ok (.ireturn, 1) := by decide +kernel
theorem dX6_nearest_0 : decode cX6_nearest 0 = .ok (.iload_n 1, 1) := by decide +kernel
theorem dX6_nearest_1 : decode cX6_nearest 1 = .ok (.bipush 100, 2) := by decide +kernel
theorem dX6_nearest_3 : decode cX6_nearest 3 = .ok (.invokestatic 97, 3) := by decide +kernel
theorem dX6_nearest_6 : decode cX6_nearest 6 = .ok (.ifCond .ne 9, 3) := by decide +kernel
theorem dX6_nearest_9 : decode cX6_nearest 9 = .ok (.aload_n 0, 1) := by decide +kernel
theorem dX6_nearest_10 : decode cX6_nearest 10 = .ok (.iconst 1, 1) := by decide +kernel
theorem dX6_nearest_11 : decode cX6_nearest 11 = .ok (.invokevirtual 64, 3) := by decide +kernel
theorem dX6_nearest_14 : decode cX6_nearest 14 = .ok (.ireturn, 1) := by decide +kernel
theorem dX6_nearest_15 : decode cX6_nearest 15 = .ok (.aload_n 0, 1) := by decide +kernel
theorem dX6_nearest_16 : decode cX6_nearest 16 = .ok (.getfield 10, 3) := by decide +kernel
theorem dX6_nearest_19 : decode cX6_nearest 19 = .ok (.getfield 68, 3) := by decide +kernel
theorem dX6_nearest_22 : decode cX6_nearest 22 = .ok (.ifCond .ne 9, 3) := by decide +kernel
theorem dX6_nearest_25 : decode cX6_nearest 25 = .ok (.aload_n 0, 1) := by decide +kernel
theorem dX6_nearest_26 : decode cX6_nearest 26 = .ok (.iconst 3, 1) := by decide +kernel
theorem dX6_nearest_27 : decode cX6_nearest 27 = .ok (.invokevirtual 64, 3) := by decide +kernel
theorem dX6_nearest_30 : decode cX6_nearest 30 = .ok (.ireturn, 1) := by decide +kernel
theorem dX6_nearest_31 : decode cX6_nearest 31 = .ok (.aload_n 0, 1) := by decide +kernel
theorem dX6_nearest_32 : decode cX6_nearest 32 = .ok (.iload_n 1, 1) := by decide +kernel
theorem dX6_nearest_33 : decode cX6_nearest 33 = .ok (.invokevirtual 159, 3) := by decide +kernel
theorem dX6_nearest_36 : decode cX6_nearest 36 = .ok (.aload_n 0, 1) := by decide +kernel
theorem dX6_nearest_37 : decode cX6_nearest 37 = .ok (.getfield 10, 3) := by decide +kernel
theorem dX6_nearest_40 : decode cX6_nearest 40 = .ok (.aload_n 0, 1) := by decide +kernel
theorem dX6_nearest_41 : decode cX6_nearest 41 = .ok (.getfield 22, 3) := by decide +kernel
theorem dX6_nearest_44 : decode cX6_nearest 44 = .ok (.invokevirtual 152, 3) := by decide +kernel
theorem dX6_nearest_47 : decode cX6_nearest 47 = .ok (.ireturn, 1) := by decide +kernel
theorem dX6_then_0 : decode cX6_then 0 = .ok (.aload_n 0, 1) := by decide +kernel
theorem dX6_then_1 : decode cX6_then 1 = .ok (.getfield 10, 3) := by decide +kernel
theorem dX6_then_4 : decode cX6_then 4 = .ok (.iload_n 1, 1) := by decide +kernel
theorem dX6_then_5 : decode cX6_then 5 = .ok (.invokevirtual 76, 3) := by decide +kernel
theorem dX6_then_8 : decode cX6_then 8 = .ok (.ifCond .eq 20, 3) := by decide +kernel
theorem dX6_then_11 : decode cX6_then 11 = .ok (.iload_n 2, 1) := by decide +kernel
theorem dX6_then_12 : decode cX6_then 12 = .ok (.bipush 100, 2) := by decide +kernel
theorem dX6_then_14 : decode cX6_then 14 = .ok (.invokestatic 97, 3) := by decide +kernel
theorem dX6_then_17 : decode cX6_then 17 = .ok (.ifCond .eq 11, 3) := by decide +kernel
theorem dX6_then_20 : decode cX6_then 20 = .ok (.iload_n 3, 1) := by decide +kernel
theorem dX6_then_21 : decode cX6_then 21 = .ok (.iconst 1, 1) := by decide +kernel
theorem dX6_then_22 : decode cX6_then 22 = .ok (.invokestatic 97, 3) := by decide +kernel
theorem dX6_then_25 : decode cX6_then 25 = .ok (.ifCond .ne 9, 3) := by decide +kernel
theorem dX6_then_28 : decode cX6_then 28 = .ok (.aload_n 0, 1) := by decide +kernel
theorem dX6_then_29 : decode cX6_then 29 = .ok (.iconst 1, 1) := by decide +kernel
theorem dX6_then_30 : decode cX6_then 30 = .ok (.invokevirtual 64, 3) := by decide +kernel
theorem dX6_then_33 : decode cX6_then 33 = .ok (.ireturn, 1) := by decide +kernel
theorem dX6_then_34 : decode cX6_then 34 = .ok (.aload_n 0, 1) := by decide +kernel
theorem dX6_then_35 : decode cX6_then 35 = .ok (.iload_n 2, 1) := by decide +kernel
theorem dX6_then_36 : decode cX6_then 36 = .ok (.invokevirtual 159, 3) := by decide +kernel
theorem dX6_then_39 : decode cX6_then 39 = .ok (.iload_n 3, 1) := by decide +kernel
theorem dX6_then_40 : decode cX6_then 40 = .ok (.ifCond .ne 15, 3) := by decide +kernel
theorem dX6_then_43 : decode cX6_then 43 = .ok (.aload_n 0, 1) := by decide +kernel
theorem dX6_then_44 : decode cX6_then 44 = .ok (.getfield 22, 3) := by decide +kernel
theorem dX6_then_47 : decode cX6_then 47 = .ok (.getfield 88, 3) := by decide +kernel
theorem dX6_then_50 : decode cX6_then 50 = .ok (.iload_n 1, 1) := by decide +kernel
theorem dX6_then_51 : decode cX6_then 51 = .ok (.iaload, 1) := by decide +kernel
theorem dX6_then_52 : decode cX6_then 52 = .ok (.goto 12, 3) := by decide +kernel
theorem dX6_then_55 : decode cX6_then 55 = .ok (.aload_n 0, 1) := by decide +kernel
theorem dX6_then_56 : decode cX6_then 56 = .ok (.getfield 22, 3) := by decide +kernel
theorem dX6_then_59 : decode cX6_then 59 = .ok (.getfield 91, 3) := by decide +kernel
theorem dX6_then_62 : decode cX6_then 62 = .ok (.iload_n 1, 1) := by decide +kernel
theorem dX6_then_63 : decode cX6_then 63 = .ok (.iaload, 1) := by decide +kernel
theorem dX6_then_64 : decode cX6_then 64 = .ok (.ireturn, 1) := by decide +kernel
theorem dX6_settles_0 : decode cX6_settles 0 = .ok (.aload_n 0, 1) := by decide +kernel
theorem dX6_settles_1 : decode cX6_settles 1 = .ok (.iconst 0, 1) := by decide +kernel
theorem dX6_settles_2 : decode cX6_settles 2 = .ok (.invokevirtual 159, 3) := by decide +kernel
theorem dX6_settles_5 : decode cX6_settles 5 = .ok (.iconst 0, 1) := by decide +kernel
theorem dX6_settles_6 : decode cX6_settles 6 = .ok (.istore_n 1, 1) := by decide +kernel
theorem dX6_settles_7 : decode cX6_settles 7 = .ok (.iload_n 1, 1) := by decide +kernel
theorem dX6_settles_8 : decode cX6_settles 8 = .ok (.bipush 100, 2) := by decide +kernel
theorem dX6_settles_10 : decode cX6_settles 10 = .ok (.if_icmp .gt 25, 3) := by decide +kernel
theorem dX6_settles_13 : decode cX6_settles 13 = .ok (.aload_n 0, 1) := by decide +kernel
theorem dX6_settles_14 : decode cX6_settles 14 = .ok (.getfield 10, 3) := by decide +kernel
theorem dX6_settles_17 : decode cX6_settles 17 = .ok (.aload_n 0, 1) := by decide +kernel
theorem dX6_settles_18 : decode cX6_settles 18 = .ok (.getfield 22, 3) := by decide +kernel
theorem dX6_settles_21 : decode cX6_settles 21 = .ok (.invokevirtual 145, 3) := by decide +kernel
theorem dX6_settles_24 : decode cX6_settles 24 = .ok (.ifCond .ne 5, 3) := by decide +kernel
theorem dX6_settles_27 : decode cX6_settles 27 = .ok (.iload_n 1, 1) := by decide +kernel
theorem dX6_settles_28 : decode cX6_settles 28 = .ok (.ireturn, 1) := by decide +kernel
theorem dX6_settles_29 : decode cX6_settles 29 = .ok (.iinc 1 1, 3) := by decide +kernel
theorem dX6_settles_32 : decode cX6_settles 32 = .ok (.goto (-25), 3) := by decide +kernel
theorem dX6_settles_35 : decode cX6_settles 35 = .ok (.aload_n 0, 1) := by decide +kernel
theorem dX6_settles_36 : decode cX6_settles 36 = .ok (.iconst 2, 1) := by decide +kernel
theorem dX6_settles_37 : decode cX6_settles 37 = .ok (.invokevirtual 64, 3) := by decide +kernel
theorem dX6_settles_40 : decode cX6_settles 40 = .ok (.ireturn, 1) := by decide +kernel
theorem dX6_rank_0 : decode cX6_rank 0 = .ok (.aload_n 0, 1) := by decide +kernel
theorem dX6_rank_1 : decode cX6_rank 1 = .ok (.getfield 10, 3) := by decide +kernel
theorem dX6_rank_4 : decode cX6_rank 4 = .ok (.iload_n 1, 1) := by decide +kernel
theorem dX6_rank_5 : decode cX6_rank 5 = .ok (.invokevirtual 76, 3) := by decide +kernel
theorem dX6_rank_8 : decode cX6_rank 8 = .ok (.ifCond .eq 14, 3) := by decide +kernel
theorem dX6_rank_11 : decode cX6_rank 11 = .ok (.aload_n 0, 1) := by decide +kernel
theorem dX6_rank_12 : decode cX6_rank 12 = .ok (.getfield 10, 3) := by decide +kernel
theorem dX6_rank_15 : decode cX6_rank 15 = .ok (.iload_n 1, 1) := by decide +kernel
theorem dX6_rank_16 : decode cX6_rank 16 = .ok (.invokevirtual 163, 3) := by decide +kernel
theorem dX6_rank_19 : decode cX6_rank 19 = .ok (.goto 8, 3) := by decide +kernel
theorem dX6_rank_22 : decode cX6_rank 22 = .ok (.aload_n 0, 1) := by decide +kernel
theorem dX6_rank_23 : decode cX6_rank 23 = .ok (.iconst 1, 1) := by decide +kernel
theorem dX6_rank_24 : decode cX6_rank 24 = .ok (.invokevirtual 64, 3) := by decide +kernel
theorem dX6_rank_27 : decode cX6_rank 27 = .ok (.ireturn, 1) := by decide +kernel
theorem dX6_signs_0 : decode cX6_signs 0 = .ok (.aload_n 0, 1) := by decide +kernel
theorem dX6_signs_1 : decode cX6_signs 1 = .ok (.getfield 10, 3) := by decide +kernel
theorem dX6_signs_4 : decode cX6_signs 4 = .ok (.iload_n 1, 1) := by decide +kernel
theorem dX6_signs_5 : decode cX6_signs 5 = .ok (.invokevirtual 76, 3) := by decide +kernel
theorem dX6_signs_8 : decode cX6_signs 8 = .ok (.ifCond .eq 29, 3) := by decide +kernel
theorem dX6_signs_11 : decode cX6_signs 11 = .ok (.iload_n 2, 1) := by decide +kernel
theorem dX6_signs_12 : decode cX6_signs 12 = .ok (.invokestatic 61, 3) := by decide +kernel
theorem dX6_signs_15 : decode cX6_signs 15 = .ok (.ifCond .eq 22, 3) := by decide +kernel
theorem dX6_signs_18 : decode cX6_signs 18 = .ok (.iload_n 3, 1) := by decide +kernel
theorem dX6_signs_19 : decode cX6_signs 19 = .ok (.iconst 1, 1) := by decide +kernel
theorem dX6_signs_20 : decode cX6_signs 20 = .ok (.if_icmp .lt 17, 3) := by decide +kernel
theorem dX6_signs_23 : decode cX6_signs 23 = .ok (.iload_n 3, 1) := by decide +kernel
theorem dX6_signs_24 : decode cX6_signs 24 = .ok (.iconst 4, 1) := by decide +kernel
theorem dX6_signs_25 : decode cX6_signs 25 = .ok (.if_icmp .gt 12, 3) := by decide +kernel
theorem dX6_signs_28 : decode cX6_signs 28 = .ok (.iload 4, 2) := by decide +kernel
theorem dX6_signs_30 : decode cX6_signs 30 = .ok (.iconst 1, 1) := by decide +kernel
theorem dX6_signs_31 : decode cX6_signs 31 = .ok (.invokestatic 97, 3) := by decide +kernel
theorem dX6_signs_34 : decode cX6_signs 34 = .ok (.ifCond .ne 9, 3) := by decide +kernel
theorem dX6_signs_37 : decode cX6_signs 37 = .ok (.aload_n 0, 1) := by decide +kernel
theorem dX6_signs_38 : decode cX6_signs 38 = .ok (.iconst 1, 1) := by decide +kernel
theorem dX6_signs_39 : decode cX6_signs 39 = .ok (.invokevirtual 64, 3) := by decide +kernel
theorem dX6_signs_42 : decode cX6_signs 42 = .ok (.ireturn, 1) := by decide +kernel
theorem dX6_signs_43 : decode cX6_signs 43 = .ok (.aload_n 0, 1) := by decide +kernel
theorem dX6_signs_44 : decode cX6_signs 44 = .ok (.iload_n 3, 1) := by decide +kernel
theorem dX6_signs_45 : decode cX6_signs 45 = .ok (.invokevirtual 159, 3) := by decide +kernel
theorem dX6_signs_48 : decode cX6_signs 48 = .ok (.aload_n 0, 1) := by decide +kernel
theorem dX6_signs_49 : decode cX6_signs 49 = .ok (.iload_n 2, 1) := by decide +kernel
theorem dX6_signs_50 : decode cX6_signs 50 = .ok (.iload_n 3, 1) := by decide +kernel
theorem dX6_signs_51 : decode cX6_signs 51 = .ok (.invokevirtual 166, 3) := by decide +kernel
theorem dX6_signs_54 : decode cX6_signs 54 = .ok (.aload_n 0, 1) := by decide +kernel
theorem dX6_signs_55 : decode cX6_signs 55 = .ok (.iload_n 1, 1) := by decide +kernel
theorem dX6_signs_56 : decode cX6_signs 56 = .ok (.invokevirtual 170, 3) := by decide +kernel
theorem dX6_signs_59 : decode cX6_signs 59 = .ok (.istore 5, 2) := by decide +kernel
theorem dX6_signs_61 : decode cX6_signs 61 = .ok (.iload 5, 2) := by decide +kernel
theorem dX6_signs_63 : decode cX6_signs 63 = .ok (.ifCond .ge 9, 3) := by decide +kernel
theorem dX6_signs_66 : decode cX6_signs 66 = .ok (.aload_n 0, 1) := by decide +kernel
theorem dX6_signs_67 : decode cX6_signs 67 = .ok (.iconst 2, 1) := by decide +kernel
theorem dX6_signs_68 : decode cX6_signs 68 = .ok (.invokevirtual 64, 3) := by decide +kernel
theorem dX6_signs_71 : decode cX6_signs 71 = .ok (.ireturn, 1) := by decide +kernel
theorem dX6_signs_72 : decode cX6_signs 72 = .ok (.iload 4, 2) := by decide +kernel
theorem dX6_signs_74 : decode cX6_signs 74 = .ok (.ifCond .ne 11, 3) := by decide +kernel
theorem dX6_signs_77 : decode cX6_signs 77 = .ok (.iload 5, 2) := by decide +kernel
theorem dX6_signs_79 : decode cX6_signs 79 = .ok (.invokestatic 173, 3) := by decide +kernel
theorem dX6_signs_82 : decode cX6_signs 82 = .ok (.goto 5, 3) := by decide +kernel
theorem dX6_signs_85 : decode cX6_signs 85 = .ok (.iload 5, 2) := by decide +kernel
theorem dX6_signs_87 : decode cX6_signs 87 = .ok (.ireturn, 1) := by decide +kernel
theorem dX6_heard_0 : decode cX6_heard 0 = .ok (.aload_n 0, 1) := by decide +kernel
theorem dX6_heard_1 : decode cX6_heard 1 = .ok (.getfield 10, 3) := by decide +kernel
theorem dX6_heard_4 : decode cX6_heard 4 = .ok (.iload_n 1, 1) := by decide +kernel
theorem dX6_heard_5 : decode cX6_heard 5 = .ok (.invokevirtual 76, 3) := by decide +kernel
theorem dX6_heard_8 : decode cX6_heard 8 = .ok (.ifCond .eq 14, 3) := by decide +kernel
theorem dX6_heard_11 : decode cX6_heard 11 = .ok (.aload_n 0, 1) := by decide +kernel
theorem dX6_heard_12 : decode cX6_heard 12 = .ok (.getfield 10, 3) := by decide +kernel
theorem dX6_heard_15 : decode cX6_heard 15 = .ok (.iload_n 1, 1) := by decide +kernel
theorem dX6_heard_16 : decode cX6_heard 16 = .ok (.invokevirtual 178, 3) := by decide +kernel
theorem dX6_heard_19 : decode cX6_heard 19 = .ok (.goto 8, 3) := by decide +kernel
theorem dX6_heard_22 : decode cX6_heard 22 = .ok (.aload_n 0, 1) := by decide +kernel
theorem dX6_heard_23 : decode cX6_heard 23 = .ok (.iconst 1, 1) := by decide +kernel
theorem dX6_heard_24 : decode cX6_heard 24 = .ok (.invokevirtual 64, 3) := by decide +kernel
theorem dX6_heard_27 : decode cX6_heard 27 = .ok (.ireturn, 1) := by decide +kernel
theorem dX6_odds_0 : decode cX6_odds 0 = .ok (.aload_n 0, 1) := by decide +kernel
theorem dX6_odds_1 : decode cX6_odds 1 = .ok (.getfield 10, 3) := by decide +kernel
theorem dX6_odds_4 : decode cX6_odds 4 = .ok (.iload_n 1, 1) := by decide +kernel
theorem dX6_odds_5 : decode cX6_odds 5 = .ok (.invokevirtual 76, 3) := by decide +kernel
theorem dX6_odds_8 : decode cX6_odds 8 = .ok (.ifCond .eq 11, 3) := by decide +kernel
theorem dX6_odds_11 : decode cX6_odds 11 = .ok (.iload_n 2, 1) := by decide +kernel
theorem dX6_odds_12 : decode cX6_odds 12 = .ok (.iconst 1, 1) := by decide +kernel
theorem dX6_odds_13 : decode cX6_odds 13 = .ok (.invokestatic 97, 3) := by decide +kernel
theorem dX6_odds_16 : decode cX6_odds 16 = .ok (.ifCond .ne 9, 3) := by decide +kernel
theorem dX6_odds_19 : decode cX6_odds 19 = .ok (.aload_n 0, 1) := by decide +kernel
theorem dX6_odds_20 : decode cX6_odds 20 = .ok (.iconst 1, 1) := by decide +kernel
theorem dX6_odds_21 : decode cX6_odds 21 = .ok (.invokevirtual 64, 3) := by decide +kernel
theorem dX6_odds_24 : decode cX6_odds 24 = .ok (.ireturn, 1) := by decide +kernel
theorem dX6_odds_25 : decode cX6_odds 25 = .ok (.aload_n 0, 1) := by decide +kernel
theorem dX6_odds_26 : decode cX6_odds 26 = .ok (.getfield 10, 3) := by decide +kernel
theorem dX6_odds_29 : decode cX6_odds 29 = .ok (.getfield 68, 3) := by decide +kernel
theorem dX6_odds_32 : decode cX6_odds 32 = .ok (.iconst 1, 1) := by decide +kernel
theorem dX6_odds_33 : decode cX6_odds 33 = .ok (.isub, 1) := by decide +kernel
theorem dX6_odds_34 : decode cX6_odds 34 = .ok (.istore_n 3, 1) := by decide +kernel
theorem dX6_odds_35 : decode cX6_odds 35 = .ok (.iload_n 3, 1) := by decide +kernel
theorem dX6_odds_36 : decode cX6_odds 36 = .ok (.iconst 1, 1) := by decide +kernel
theorem dX6_odds_37 : decode cX6_odds 37 = .ok (.if_icmp .ge 9, 3) := by decide +kernel
theorem dX6_odds_40 : decode cX6_odds 40 = .ok (.aload_n 0, 1) := by decide +kernel
theorem dX6_odds_41 : decode cX6_odds 41 = .ok (.iconst 3, 1) := by decide +kernel
theorem dX6_odds_42 : decode cX6_odds 42 = .ok (.invokevirtual 64, 3) := by decide +kernel
theorem dX6_odds_45 : decode cX6_odds 45 = .ok (.ireturn, 1) := by decide +kernel
theorem dX6_odds_46 : decode cX6_odds 46 = .ok (.aload_n 0, 1) := by decide +kernel
theorem dX6_odds_47 : decode cX6_odds 47 = .ok (.getfield 10, 3) := by decide +kernel
theorem dX6_odds_50 : decode cX6_odds 50 = .ok (.iload_n 1, 1) := by decide +kernel
theorem dX6_odds_51 : decode cX6_odds 51 = .ok (.invokevirtual 181, 3) := by decide +kernel
theorem dX6_odds_54 : decode cX6_odds 54 = .ok (.istore 4, 2) := by decide +kernel
theorem dX6_odds_56 : decode cX6_odds 56 = .ok (.iload 4, 2) := by decide +kernel
theorem dX6_odds_58 : decode cX6_odds 58 = .ok (.iload_n 3, 1) := by decide +kernel
theorem dX6_odds_59 : decode cX6_odds 59 = .ok (.invokestatic 184, 3) := by decide +kernel
theorem dX6_odds_62 : decode cX6_odds 62 = .ok (.istore 5, 2) := by decide +kernel
theorem dX6_odds_64 : decode cX6_odds 64 = .ok (.iload 5, 2) := by decide +kernel
theorem dX6_odds_66 : decode cX6_odds 66 = .ok (.iconst 1, 1) := by decide +kernel
theorem dX6_odds_67 : decode cX6_odds 67 = .ok (.if_icmp .ge 9, 3) := by decide +kernel
theorem dX6_odds_70 : decode cX6_odds 70 = .ok (.aload_n 0, 1) := by decide +kernel
theorem dX6_odds_71 : decode cX6_odds 71 = .ok (.iconst 3, 1) := by decide +kernel
theorem dX6_odds_72 : decode cX6_odds 72 = .ok (.invokevirtual 64, 3) := by decide +kernel
theorem dX6_odds_75 : decode cX6_odds 75 = .ok (.ireturn, 1) := by decide +kernel
theorem dX6_odds_76 : decode cX6_odds 76 = .ok (.iload_n 2, 1) := by decide +kernel
theorem dX6_odds_77 : decode cX6_odds 77 = .ok (.ifCond .ne 11, 3) := by decide +kernel
theorem dX6_odds_80 : decode cX6_odds 80 = .ok (.iload 4, 2) := by decide +kernel
theorem dX6_odds_82 : decode cX6_odds 82 = .ok (.iload 5, 2) := by decide +kernel
theorem dX6_odds_84 : decode cX6_odds 84 = .ok (.idiv, 1) := by decide +kernel
theorem dX6_odds_85 : decode cX6_odds 85 = .ok (.goto 7, 3) := by decide +kernel
theorem dX6_odds_88 : decode cX6_odds 88 = .ok (.iload_n 3, 1) := by decide +kernel
theorem dX6_odds_89 : decode cX6_odds 89 = .ok (.iload 5, 2) := by decide +kernel
theorem dX6_odds_91 : decode cX6_odds 91 = .ok (.idiv, 1) := by decide +kernel
theorem dX6_odds_92 : decode cX6_odds 92 = .ok (.ireturn, 1) := by decide +kernel
theorem dX6_began_0 : decode cX6_began 0 = .ok (.iload_n 1, 1) := by decide +kernel
theorem dX6_began_1 : decode cX6_began 1 = .ok (.invokestatic 187, 3) := by decide +kernel
theorem dX6_began_4 : decode cX6_began 4 = .ok (.ifCond .eq 20, 3) := by decide +kernel
theorem dX6_began_7 : decode cX6_began 7 = .ok (.iload_n 2, 1) := by decide +kernel
theorem dX6_began_8 : decode cX6_began 8 = .ok (.bipush 20, 2) := by decide +kernel
theorem dX6_began_10 : decode cX6_began 10 = .ok (.invokestatic 97, 3) := by decide +kernel
theorem dX6_began_13 : decode cX6_began 13 = .ok (.ifCond .eq 11, 3) := by decide +kernel
theorem dX6_began_16 : decode cX6_began 16 = .ok (.iload_n 3, 1) := by decide +kernel
theorem dX6_began_17 : decode cX6_began 17 = .ok (.iconst 1, 1) := by decide +kernel
theorem dX6_began_18 : decode cX6_began 18 = .ok (.invokestatic 97, 3) := by decide +kernel
theorem dX6_began_21 : decode cX6_began 21 = .ok (.ifCond .ne 9, 3) := by decide +kernel
theorem dX6_began_24 : decode cX6_began 24 = .ok (.aload_n 0, 1) := by decide +kernel
theorem dX6_began_25 : decode cX6_began 25 = .ok (.iconst 1, 1) := by decide +kernel
theorem dX6_began_26 : decode cX6_began 26 = .ok (.invokevirtual 64, 3) := by decide +kernel
theorem dX6_began_29 : decode cX6_began 29 = .ok (.ireturn, 1) := by decide +kernel
theorem dX6_began_30 : decode cX6_began 30 = .ok (.aload_n 0, 1) := by decide +kernel
theorem dX6_began_31 : decode cX6_began 31 = .ok (.getfield 46, 3) := by decide +kernel
theorem dX6_began_34 : decode cX6_began 34 = .ok (.iload_n 1, 1) := by decide +kernel
theorem dX6_began_35 : decode cX6_began 35 = .ok (.aaload, 1) := by decide +kernel
theorem dX6_began_36 : decode cX6_began 36 = .ok (.invokevirtual 190, 3) := by decide +kernel
theorem dX6_began_39 : decode cX6_began 39 = .ok (.ifCond .eq 9, 3) := by decide +kernel
theorem dX6_began_42 : decode cX6_began 42 = .ok (.aload_n 0, 1) := by decide +kernel
theorem dX6_began_43 : decode cX6_began 43 = .ok (.iconst 2, 1) := by decide +kernel
theorem dX6_began_44 : decode cX6_began 44 = .ok (.invokevirtual 64, 3) := by decide +kernel
theorem dX6_began_47 : decode cX6_began 47 = .ok (.ireturn, 1) := by decide +kernel
theorem dX6_began_48 : decode cX6_began 48 = .ok (.aload_n 0, 1) := by decide +kernel
theorem dX6_began_49 : decode cX6_began 49 = .ok (.iload_n 2, 1) := by decide +kernel
theorem dX6_began_50 : decode cX6_began 50 = .ok (.invokevirtual 159, 3) := by decide +kernel
theorem dX6_began_53 : decode cX6_began 53 = .ok (.iconst 0, 1) := by decide +kernel
theorem dX6_began_54 : decode cX6_began 54 = .ok (.istore 4, 2) := by decide +kernel
theorem dX6_began_56 : decode cX6_began 56 = .ok (.iconst 0, 1) := by decide +kernel
theorem dX6_began_57 : decode cX6_began 57 = .ok (.istore 5, 2) := by decide +kernel
theorem dX6_began_59 : decode cX6_began 59 = .ok (.iconst 1, 1) := by decide +kernel
theorem dX6_began_60 : decode cX6_began 60 = .ok (.istore 6, 2) := by decide +kernel
theorem dX6_began_62 : decode cX6_began 62 = .ok (.iload 6, 2) := by decide +kernel
theorem dX6_began_64 : decode cX6_began 64 = .ok (.bipush 9, 2) := by decide +kernel
theorem dX6_began_66 : decode cX6_began 66 = .ok (.if_icmp .gt 86, 3) := by decide +kernel
theorem dX6_began_69 : decode cX6_began 69 = .ok (.aload_n 0, 1) := by decide +kernel
theorem dX6_began_70 : decode cX6_began 70 = .ok (.iload 6, 2) := by decide +kernel
theorem dX6_began_72 : decode cX6_began 72 = .ok (.iload_n 2, 1) := by decide +kernel
theorem dX6_began_73 : decode cX6_began 73 = .ok (.invokevirtual 166, 3) := by decide +kernel
theorem dX6_began_76 : decode cX6_began 76 = .ok (.iconst 0, 1) := by decide +kernel
theorem dX6_began_77 : decode cX6_began 77 = .ok (.istore 7, 2) := by decide +kernel
theorem dX6_began_79 : decode cX6_began 79 = .ok (.iload 7, 2) := by decide +kernel
theorem dX6_began_81 : decode cX6_began 81 = .ok (.aload_n 0, 1) := by decide +kernel
theorem dX6_began_82 : decode cX6_began 82 = .ok (.getfield 10, 3) := by decide +kernel
theorem dX6_began_85 : decode cX6_began 85 = .ok (.getfield 68, 3) := by decide +kernel
theorem dX6_began_88 : decode cX6_began 88 = .ok (.if_icmp .ge 58, 3) := by decide +kernel
theorem dX6_began_91 : decode cX6_began 91 = .ok (.aload_n 0, 1) := by decide +kernel
theorem dX6_began_92 : decode cX6_began 92 = .ok (.aload_n 0, 1) := by decide +kernel
theorem dX6_began_93 : decode cX6_began 93 = .ok (.getfield 46, 3) := by decide +kernel
theorem dX6_began_96 : decode cX6_began 96 = .ok (.iload_n 1, 1) := by decide +kernel
theorem dX6_began_97 : decode cX6_began 97 = .ok (.aaload, 1) := by decide +kernel
theorem dX6_began_98 : decode cX6_began 98 = .ok (.iconst 1, 1) := by decide +kernel
theorem dX6_began_99 : decode cX6_began 99 = .ok (.iload 7, 2) := by decide +kernel
theorem dX6_began_101 : decode cX6_began 101 = .ok (.ishl, 1) := by decide +kernel
theorem dX6_began_102 : decode cX6_began 102 = .ok (.invokevirtual 194, 3) := by decide +kernel
theorem dX6_began_105 : decode cX6_began 105 = .ok (.ifCond .eq 35, 3) := by decide +kernel
theorem dX6_began_108 : decode cX6_began 108 = .ok (.bipush 10, 2) := by decide +kernel
theorem dX6_began_110 : decode cX6_began 110 = .ok (.iload 7, 2) := by decide +kernel
theorem dX6_began_112 : decode cX6_began 112 = .ok (.imul, 1) := by decide +kernel
theorem dX6_began_113 : decode cX6_began 113 = .ok (.iload 6, 2) := by decide +kernel
theorem dX6_began_115 : decode cX6_began 115 = .ok (.iadd, 1) := by decide +kernel
theorem dX6_began_116 : decode cX6_began 116 = .ok (.istore 8, 2) := by decide +kernel
theorem dX6_began_118 : decode cX6_began 118 = .ok (.iload 4, 2) := by decide +kernel
theorem dX6_began_120 : decode cX6_began 120 = .ok (.ifCond .ne 8, 3) := by decide +kernel
theorem dX6_began_123 : decode cX6_began 123 = .ok (.iload 8, 2) := by decide +kernel
theorem dX6_began_125 : decode cX6_began 125 = .ok (.goto 10, 3) := by decide +kernel
theorem dX6_began_128 : decode cX6_began 128 = .ok (.iload 5, 2) := by decide +kernel
theorem dX6_began_130 : decode cX6_began 130 = .ok (.iload 8, 2) := by decide +kernel
theorem dX6_began_132 : decode cX6_began 132 = .ok (.invokestatic 198, 3) := by decide +kernel
theorem dX6_began_135 : decode cX6_began 135 = .ok (.istore 5, 2) := by decide +kernel
theorem dX6_began_137 : decode cX6_began 137 = .ok (.iinc 4 1, 3) := by decide +kernel
theorem dX6_began_140 : decode cX6_began 140 = .ok (.iinc 7 1, 3) := by decide +kernel
theorem dX6_began_143 : decode cX6_began 143 = .ok (.goto (-64), 3) := by decide +kernel
theorem dX6_began_146 : decode cX6_began 146 = .ok (.iinc 6 1, 3) := by decide +kernel
theorem dX6_began_149 : decode cX6_began 149 = .ok (.goto (-87), 3) := by decide +kernel
theorem dX6_began_152 : decode cX6_began 152 = .ok (.iload_n 3, 1) := by decide +kernel
theorem dX6_began_153 : decode cX6_began 153 = .ok (.ifCond .ne 6, 3) := by decide +kernel
theorem dX6_began_156 : decode cX6_began 156 = .ok (.iload 4, 2) := by decide +kernel
theorem dX6_began_158 : decode cX6_began 158 = .ok (.ireturn, 1) := by decide +kernel
theorem dX6_began_159 : decode cX6_began 159 = .ok (.iload 4, 2) := by decide +kernel
theorem dX6_began_161 : decode cX6_began 161 = .ok (.ifCond .ne 11, 3) := by decide +kernel
theorem dX6_began_164 : decode cX6_began 164 = .ok (.aload_n 0, 1) := by decide +kernel
theorem dX6_began_165 : decode cX6_began 165 = .ok (.iconst 2, 1) := by decide +kernel
theorem dX6_began_166 : decode cX6_began 166 = .ok (.invokevirtual 64, 3) := by decide +kernel
theorem dX6_began_169 : decode cX6_began 169 = .ok (.goto 5, 3) := by decide +kernel
theorem dX6_began_172 : decode cX6_began 172 = .ok (.iload 5, 2) := by decide +kernel
theorem dX6_began_174 : decode cX6_began 174 = .ok (.ireturn, 1) := by decide +kernel
theorem dX6_fits_0 : decode cX6_fits 0 = .ok (.iload_n 1, 1) := by decide +kernel
theorem dX6_fits_1 : decode cX6_fits 1 = .ok (.invokestatic 187, 3) := by decide +kernel
theorem dX6_fits_4 : decode cX6_fits 4 = .ok (.ifCond .ne 9, 3) := by decide +kernel
theorem dX6_fits_7 : decode cX6_fits 7 = .ok (.aload_n 0, 1) := by decide +kernel
theorem dX6_fits_8 : decode cX6_fits 8 = .ok (.iconst 1, 1) := by decide +kernel
theorem dX6_fits_9 : decode cX6_fits 9 = .ok (.invokevirtual 64, 3) := by decide +kernel
theorem dX6_fits_12 : decode cX6_fits 12 = .ok (.ireturn, 1) := by decide +kernel
theorem dX6_fits_13 : decode cX6_fits 13 = .ok (.aload_n 0, 1) := by decide +kernel
theorem dX6_fits_14 : decode cX6_fits 14 = .ok (.getfield 46, 3) := by decide +kernel
theorem dX6_fits_17 : decode cX6_fits 17 = .ok (.iload_n 1, 1) := by decide +kernel
theorem dX6_fits_18 : decode cX6_fits 18 = .ok (.aaload, 1) := by decide +kernel
theorem dX6_fits_19 : decode cX6_fits 19 = .ok (.invokevirtual 190, 3) := by decide +kernel
theorem dX6_fits_22 : decode cX6_fits 22 = .ok (.ifCond .eq 9, 3) := by decide +kernel
theorem dX6_fits_25 : decode cX6_fits 25 = .ok (.aload_n 0, 1) := by decide +kernel
theorem dX6_fits_26 : decode cX6_fits 26 = .ok (.iconst 2, 1) := by decide +kernel
theorem dX6_fits_27 : decode cX6_fits 27 = .ok (.invokevirtual 64, 3) := by decide +kernel
theorem dX6_fits_30 : decode cX6_fits 30 = .ok (.ireturn, 1) := by decide +kernel
theorem dX6_fits_31 : decode cX6_fits 31 = .ok (.aload_n 0, 1) := by decide +kernel
theorem dX6_fits_32 : decode cX6_fits 32 = .ok (.iconst 0, 1) := by decide +kernel
theorem dX6_fits_33 : decode cX6_fits 33 = .ok (.invokevirtual 159, 3) := by decide +kernel
theorem dX6_fits_36 : decode cX6_fits 36 = .ok (.iconst 0, 1) := by decide +kernel
theorem dX6_fits_37 : decode cX6_fits 37 = .ok (.istore_n 2, 1) := by decide +kernel
theorem dX6_fits_38 : decode cX6_fits 38 = .ok (.iload_n 2, 1) := by decide +kernel
theorem dX6_fits_39 : decode cX6_fits 39 = .ok (.bipush 100, 2) := by decide +kernel
theorem dX6_fits_41 : decode cX6_fits 41 = .ok (.if_icmp .gt 37, 3) := by decide +kernel
theorem dX6_fits_44 : decode cX6_fits 44 = .ok (.aload_n 0, 1) := by decide +kernel
theorem dX6_fits_45 : decode cX6_fits 45 = .ok (.aload_n 0, 1) := by decide +kernel
theorem dX6_fits_46 : decode cX6_fits 46 = .ok (.getfield 46, 3) := by decide +kernel
theorem dX6_fits_49 : decode cX6_fits 49 = .ok (.iload_n 1, 1) := by decide +kernel
theorem dX6_fits_50 : decode cX6_fits 50 = .ok (.aaload, 1) := by decide +kernel
theorem dX6_fits_51 : decode cX6_fits 51 = .ok (.iconst 0, 1) := by decide +kernel
theorem dX6_fits_52 : decode cX6_fits 52 = .ok (.invokevirtual 194, 3) := by decide +kernel
theorem dX6_fits_55 : decode cX6_fits 55 = .ok (.ifCond .eq 5, 3) := by decide +kernel
theorem dX6_fits_58 : decode cX6_fits 58 = .ok (.iload_n 2, 1) := by decide +kernel
theorem dX6_fits_59 : decode cX6_fits 59 = .ok (.ireturn, 1) := by decide +kernel
theorem dX6_fits_60 : decode cX6_fits 60 = .ok (.aload_n 0, 1) := by decide +kernel
theorem dX6_fits_61 : decode cX6_fits 61 = .ok (.getfield 10, 3) := by decide +kernel
theorem dX6_fits_64 : decode cX6_fits 64 = .ok (.aload_n 0, 1) := by decide +kernel
theorem dX6_fits_65 : decode cX6_fits 65 = .ok (.getfield 22, 3) := by decide +kernel
theorem dX6_fits_68 : decode cX6_fits 68 = .ok (.invokevirtual 145, 3) := by decide +kernel
theorem dX6_fits_71 : decode cX6_fits 71 = .ok (.pop, 1) := by decide +kernel
theorem dX6_fits_72 : decode cX6_fits 72 = .ok (.iinc 2 1, 3) := by decide +kernel
theorem dX6_fits_75 : decode cX6_fits 75 = .ok (.goto (-37), 3) := by decide +kernel
theorem dX6_fits_78 : decode cX6_fits 78 = .ok (.aload_n 0, 1) := by decide +kernel
theorem dX6_fits_79 : decode cX6_fits 79 = .ok (.iconst 2, 1) := by decide +kernel
theorem dX6_fits_80 : decode cX6_fits 80 = .ok (.invokevirtual 64, 3) := by decide +kernel
theorem dX6_fits_83 : decode cX6_fits 83 = .ok (.ireturn, 1) := by decide +kernel
theorem dX6_voice_0 : decode cX6_voice 0 = .ok (.aload_n 0, 1) := by decide +kernel
theorem dX6_voice_1 : decode cX6_voice 1 = .ok (.getfield 10, 3) := by decide +kernel
theorem dX6_voice_4 : decode cX6_voice 4 = .ok (.iload_n 1, 1) := by decide +kernel
theorem dX6_voice_5 : decode cX6_voice 5 = .ok (.invokevirtual 76, 3) := by decide +kernel
theorem dX6_voice_8 : decode cX6_voice 8 = .ok (.ifCond .eq 11, 3) := by decide +kernel
theorem dX6_voice_11 : decode cX6_voice 11 = .ok (.iload_n 2, 1) := by decide +kernel
theorem dX6_voice_12 : decode cX6_voice 12 = .ok (.iconst 3, 1) := by decide +kernel
theorem dX6_voice_13 : decode cX6_voice 13 = .ok (.invokestatic 97, 3) := by decide +kernel
theorem dX6_voice_16 : decode cX6_voice 16 = .ok (.ifCond .ne 9, 3) := by decide +kernel
theorem dX6_voice_19 : decode cX6_voice 19 = .ok (.aload_n 0, 1) := by decide +kernel
theorem dX6_voice_20 : decode cX6_voice 20 = .ok (.iconst 1, 1) := by decide +kernel
theorem dX6_voice_21 : decode cX6_voice 21 = .ok (.invokevirtual 64, 3) := by decide +kernel
theorem dX6_voice_24 : decode cX6_voice 24 = .ok (.ireturn, 1) := by decide +kernel
theorem dX6_voice_25 : decode cX6_voice 25 = .ok (.aload_n 0, 1) := by decide +kernel
theorem dX6_voice_26 : decode cX6_voice 26 = .ok (.getfield 39, 3) := by decide +kernel
theorem dX6_voice_29 : decode cX6_voice 29 = .ok (.iload_n 1, 1) := by decide +kernel
theorem dX6_voice_30 : decode cX6_voice 30 = .ok (.aload_n 0, 1) := by decide +kernel
theorem dX6_voice_31 : decode cX6_voice 31 = .ok (.getfield 10, 3) := by decide +kernel
theorem dX6_voice_34 : decode cX6_voice 34 = .ok (.getfield 79, 3) := by decide +kernel
theorem dX6_voice_37 : decode cX6_voice 37 = .ok (.iload_n 1, 1) := by decide +kernel
theorem dX6_voice_38 : decode cX6_voice 38 = .ok (.iaload, 1) := by decide +kernel
theorem dX6_voice_39 : decode cX6_voice 39 = .ok (.aload_n 0, 1) := by decide +kernel
theorem dX6_voice_40 : decode cX6_voice 40 = .ok (.getfield 10, 3) := by decide +kernel
theorem dX6_voice_43 : decode cX6_voice 43 = .ok (.getfield 82, 3) := by decide +kernel
theorem dX6_voice_46 : decode cX6_voice 46 = .ok (.iload_n 1, 1) := by decide +kernel
theorem dX6_voice_47 : decode cX6_voice 47 = .ok (.iaload, 1) := by decide +kernel
theorem dX6_voice_48 : decode cX6_voice 48 = .ok (.iload_n 2, 1) := by decide +kernel
theorem dX6_voice_49 : decode cX6_voice 49 = .ok (.iload_n 3, 1) := by decide +kernel
theorem dX6_voice_50 : decode cX6_voice 50 = .ok (.invokevirtual 203, 3) := by decide +kernel
theorem dX6_voice_53 : decode cX6_voice 53 = .ok (.istore 4, 2) := by decide +kernel
theorem dX6_voice_55 : decode cX6_voice 55 = .ok (.aload_n 0, 1) := by decide +kernel
theorem dX6_voice_56 : decode cX6_voice 56 = .ok (.getfield 39, 3) := by decide +kernel
theorem dX6_voice_59 : decode cX6_voice 59 = .ok (.getfield 207, 3) := by decide +kernel
theorem dX6_voice_62 : decode cX6_voice 62 = .ok (.ifCond .eq 12, 3) := by decide +kernel
theorem dX6_voice_65 : decode cX6_voice 65 = .ok (.aload_n 0, 1) := by decide +kernel
theorem dX6_voice_66 : decode cX6_voice 66 = .ok (.bipush 6, 2) := by decide +kernel
theorem dX6_voice_68 : decode cX6_voice 68 = .ok (.invokevirtual 64, 3) := by decide +kernel
theorem dX6_voice_71 : decode cX6_voice 71 = .ok (.goto 5, 3) := by decide +kernel
theorem dX6_voice_74 : decode cX6_voice 74 = .ok (.iload 4, 2) := by decide +kernel
theorem dX6_voice_76 : decode cX6_voice 76 = .ok (.ireturn, 1) := by decide +kernel
theorem dX6_body_0 : decode cX6_body 0 = .ok (.iload_n 1, 1) := by decide +kernel
theorem dX6_body_1 : decode cX6_body 1 = .ok (.ifCond .lt 26, 3) := by decide +kernel
theorem dX6_body_4 : decode cX6_body 4 = .ok (.iload_n 1, 1) := by decide +kernel
theorem dX6_body_5 : decode cX6_body 5 = .ok (.aload_n 0, 1) := by decide +kernel
theorem dX6_body_6 : decode cX6_body 6 = .ok (.getfield 39, 3) := by decide +kernel
theorem dX6_body_9 : decode cX6_body 9 = .ok (.getfield 211, 3) := by decide +kernel
theorem dX6_body_12 : decode cX6_body 12 = .ok (.if_icmp .ge 15, 3) := by decide +kernel
theorem dX6_body_15 : decode cX6_body 15 = .ok (.aload_n 0, 1) := by decide +kernel
theorem dX6_body_16 : decode cX6_body 16 = .ok (.getfield 39, 3) := by decide +kernel
theorem dX6_body_19 : decode cX6_body 19 = .ok (.getfield 214, 3) := by decide +kernel
theorem dX6_body_22 : decode cX6_body 22 = .ok (.iload_n 1, 1) := by decide +kernel
theorem dX6_body_23 : decode cX6_body 23 = .ok (.iaload, 1) := by decide +kernel
theorem dX6_body_24 : decode cX6_body 24 = .ok (.goto 8, 3) := by decide +kernel
theorem dX6_body_27 : decode cX6_body 27 = .ok (.aload_n 0, 1) := by decide +kernel
theorem dX6_body_28 : decode cX6_body 28 = .ok (.iconst 2, 1) := by decide +kernel
theorem dX6_body_29 : decode cX6_body 29 = .ok (.invokevirtual 64, 3) := by decide +kernel
theorem dX6_body_32 : decode cX6_body 32 = .ok (.ireturn, 1) := by decide +kernel
theorem dX6_sheet_0 : decode cX6_sheet 0 = .ok (.iload_n 1, 1) := by decide +kernel
theorem dX6_sheet_1 : decode cX6_sheet 1 = .ok (.invokestatic 187, 3) := by decide +kernel
theorem dX6_sheet_4 : decode cX6_sheet 4 = .ok (.ifCond .eq 25, 3) := by decide +kernel
theorem dX6_sheet_7 : decode cX6_sheet 7 = .ok (.iload_n 2, 1) := by decide +kernel
theorem dX6_sheet_8 : decode cX6_sheet 8 = .ok (.ifCond .eq 27, 3) := by decide +kernel
theorem dX6_sheet_11 : decode cX6_sheet 11 = .ok (.iload_n 2, 1) := by decide +kernel
theorem dX6_sheet_12 : decode cX6_sheet 12 = .ok (.bipush 8, 2) := by decide +kernel
theorem dX6_sheet_14 : decode cX6_sheet 14 = .ok (.if_icmp .eq 21, 3) := by decide +kernel
theorem dX6_sheet_17 : decode cX6_sheet 17 = .ok (.iload_n 2, 1) := by decide +kernel
theorem dX6_sheet_18 : decode cX6_sheet 18 = .ok (.bipush 16, 2) := by decide +kernel
theorem dX6_sheet_20 : decode cX6_sheet 20 = .ok (.if_icmp .eq 15, 3) := by decide +kernel
theorem dX6_sheet_23 : decode cX6_sheet 23 = .ok (.iload_n 2, 1) := by decide +kernel
theorem dX6_sheet_24 : decode cX6_sheet 24 = .ok (.bipush 32, 2) := by decide +kernel
theorem dX6_sheet_26 : decode cX6_sheet 26 = .ok (.if_icmp .eq 9, 3) := by decide +kernel
theorem dX6_sheet_29 : decode cX6_sheet 29 = .ok (.aload_n 0, 1) := by decide +kernel
theorem dX6_sheet_30 : decode cX6_sheet 30 = .ok (.iconst 1, 1) := by decide +kernel
theorem dX6_sheet_31 : decode cX6_sheet 31 = .ok (.invokevirtual 64, 3) := by decide +kernel
theorem dX6_sheet_34 : decode cX6_sheet 34 = .ok (.ireturn, 1) := by decide +kernel
theorem dX6_sheet_35 : decode cX6_sheet 35 = .ok (.iload_n 2, 1) := by decide +kernel
theorem dX6_sheet_36 : decode cX6_sheet 36 = .ok (.ifCond .eq 13, 3) := by decide +kernel
theorem dX6_sheet_39 : decode cX6_sheet 39 = .ok (.iload_n 3, 1) := by decide +kernel
theorem dX6_sheet_40 : decode cX6_sheet 40 = .ok (.ifCond .ge 9, 3) := by decide +kernel
theorem dX6_sheet_43 : decode cX6_sheet 43 = .ok (.aload_n 0, 1) := by decide +kernel
theorem dX6_sheet_44 : decode cX6_sheet 44 = .ok (.iconst 3, 1) := by decide +kernel
theorem dX6_sheet_45 : decode cX6_sheet 45 = .ok (.invokevirtual 64, 3) := by decide +kernel
theorem dX6_sheet_48 : decode cX6_sheet 48 = .ok (.ireturn, 1) := by decide +kernel
theorem dX6_sheet_49 : decode cX6_sheet 49 = .ok (.iload_n 2, 1) := by decide +kernel
theorem dX6_sheet_50 : decode cX6_sheet 50 = .ok (.ifCond .eq 15, 3) := by decide +kernel
theorem dX6_sheet_53 : decode cX6_sheet 53 = .ok (.iload_n 3, 1) := by decide +kernel
theorem dX6_sheet_54 : decode cX6_sheet 54 = .ok (.bipush 24, 2) := by decide +kernel
theorem dX6_sheet_56 : decode cX6_sheet 56 = .ok (.if_icmp .le 9, 3) := by decide +kernel
theorem dX6_sheet_59 : decode cX6_sheet 59 = .ok (.aload_n 0, 1) := by decide +kernel
theorem dX6_sheet_60 : decode cX6_sheet 60 = .ok (.iconst 1, 1) := by decide +kernel
theorem dX6_sheet_61 : decode cX6_sheet 61 = .ok (.invokevirtual 64, 3) := by decide +kernel
theorem dX6_sheet_64 : decode cX6_sheet 64 = .ok (.ireturn, 1) := by decide +kernel
theorem dX6_sheet_65 : decode cX6_sheet 65 = .ok (.aload_n 0, 1) := by decide +kernel
theorem dX6_sheet_66 : decode cX6_sheet 66 = .ok (.getfield 46, 3) := by decide +kernel
theorem dX6_sheet_69 : decode cX6_sheet 69 = .ok (.iload_n 1, 1) := by decide +kernel
theorem dX6_sheet_70 : decode cX6_sheet 70 = .ok (.aaload, 1) := by decide +kernel
theorem dX6_sheet_71 : decode cX6_sheet 71 = .ok (.iload_n 2, 1) := by decide +kernel
theorem dX6_sheet_72 : decode cX6_sheet 72 = .ok (.iload_n 3, 1) := by decide +kernel
theorem dX6_sheet_73 : decode cX6_sheet 73 = .ok (.invokevirtual 217, 3) := by decide +kernel
theorem dX6_sheet_76 : decode cX6_sheet 76 = .ok (.iconst 1, 1) := by decide +kernel
theorem dX6_sheet_77 : decode cX6_sheet 77 = .ok (.ireturn, 1) := by decide +kernel
theorem dX6_put_0 : decode cX6_put 0 = .ok (.iload_n 1, 1) := by decide +kernel
theorem dX6_put_1 : decode cX6_put 1 = .ok (.invokestatic 187, 3) := by decide +kernel
theorem dX6_put_4 : decode cX6_put 4 = .ok (.ifCond .ne 9, 3) := by decide +kernel
theorem dX6_put_7 : decode cX6_put 7 = .ok (.aload_n 0, 1) := by decide +kernel
theorem dX6_put_8 : decode cX6_put 8 = .ok (.iconst 1, 1) := by decide +kernel
theorem dX6_put_9 : decode cX6_put 9 = .ok (.invokevirtual 64, 3) := by decide +kernel
theorem dX6_put_12 : decode cX6_put 12 = .ok (.ireturn, 1) := by decide +kernel
theorem dX6_put_13 : decode cX6_put 13 = .ok (.aload_n 0, 1) := by decide +kernel
theorem dX6_put_14 : decode cX6_put 14 = .ok (.getfield 46, 3) := by decide +kernel
theorem dX6_put_17 : decode cX6_put 17 = .ok (.iload_n 1, 1) := by decide +kernel
theorem dX6_put_18 : decode cX6_put 18 = .ok (.aaload, 1) := by decide +kernel
theorem dX6_put_19 : decode cX6_put 19 = .ok (.invokevirtual 190, 3) := by decide +kernel
theorem dX6_put_22 : decode cX6_put 22 = .ok (.ifCond .eq 9, 3) := by decide +kernel
theorem dX6_put_25 : decode cX6_put 25 = .ok (.aload_n 0, 1) := by decide +kernel
theorem dX6_put_26 : decode cX6_put 26 = .ok (.iconst 2, 1) := by decide +kernel
theorem dX6_put_27 : decode cX6_put 27 = .ok (.invokevirtual 64, 3) := by decide +kernel
theorem dX6_put_30 : decode cX6_put 30 = .ok (.ireturn, 1) := by decide +kernel
theorem dX6_put_31 : decode cX6_put 31 = .ok (.iload_n 2, 1) := by decide +kernel
theorem dX6_put_32 : decode cX6_put 32 = .ok (.ifCond .lt 16, 3) := by decide +kernel
theorem dX6_put_35 : decode cX6_put 35 = .ok (.iload_n 2, 1) := by decide +kernel
theorem dX6_put_36 : decode cX6_put 36 = .ok (.aload_n 0, 1) := by decide +kernel
theorem dX6_put_37 : decode cX6_put 37 = .ok (.getfield 46, 3) := by decide +kernel
theorem dX6_put_40 : decode cX6_put 40 = .ok (.iload_n 1, 1) := by decide +kernel
theorem dX6_put_41 : decode cX6_put 41 = .ok (.aaload, 1) := by decide +kernel
theorem dX6_put_42 : decode cX6_put 42 = .ok (.getfield 220, 3) := by decide +kernel
theorem dX6_put_45 : decode cX6_put 45 = .ok (.if_icmp .lt 9, 3) := by decide +kernel
theorem dX6_put_48 : decode cX6_put 48 = .ok (.aload_n 0, 1) := by decide +kernel
theorem dX6_put_49 : decode cX6_put 49 = .ok (.iconst 1, 1) := by decide +kernel
theorem dX6_put_50 : decode cX6_put 50 = .ok (.invokevirtual 64, 3) := by decide +kernel
theorem dX6_put_53 : decode cX6_put 53 = .ok (.ireturn, 1) := by decide +kernel
theorem dX6_put_54 : decode cX6_put 54 = .ok (.aload_n 0, 1) := by decide +kernel
theorem dX6_put_55 : decode cX6_put 55 = .ok (.getfield 46, 3) := by decide +kernel
theorem dX6_put_58 : decode cX6_put 58 = .ok (.iload_n 1, 1) := by decide +kernel
theorem dX6_put_59 : decode cX6_put 59 = .ok (.aaload, 1) := by decide +kernel
theorem dX6_put_60 : decode cX6_put 60 = .ok (.iload_n 2, 1) := by decide +kernel
theorem dX6_put_61 : decode cX6_put 61 = .ok (.iload_n 3, 1) := by decide +kernel
theorem dX6_put_62 : decode cX6_put 62 = .ok (.invokevirtual 221, 3) := by decide +kernel
theorem dX6_put_65 : decode cX6_put 65 = .ok (.iconst 1, 1) := by decide +kernel
theorem dX6_put_66 : decode cX6_put 66 = .ok (.ireturn, 1) := by decide +kernel
theorem dX6_move_0 : decode cX6_move 0 = .ok (.iload_n 1, 1) := by decide +kernel
theorem dX6_move_1 : decode cX6_move 1 = .ok (.invokestatic 187, 3) := by decide +kernel
theorem dX6_move_4 : decode cX6_move 4 = .ok (.ifCond .eq 10, 3) := by decide +kernel
theorem dX6_move_7 : decode cX6_move 7 = .ok (.iload_n 3, 1) := by decide +kernel
theorem dX6_move_8 : decode cX6_move 8 = .ok (.invokestatic 187, 3) := by decide +kernel
theorem dX6_move_11 : decode cX6_move 11 = .ok (.ifCond .ne 9, 3) := by decide +kernel
theorem dX6_move_14 : decode cX6_move 14 = .ok (.aload_n 0, 1) := by decide +kernel
theorem dX6_move_15 : decode cX6_move 15 = .ok (.iconst 1, 1) := by decide +kernel
theorem dX6_move_16 : decode cX6_move 16 = .ok (.invokevirtual 64, 3) := by decide +kernel
theorem dX6_move_19 : decode cX6_move 19 = .ok (.ireturn, 1) := by decide +kernel
theorem dX6_move_20 : decode cX6_move 20 = .ok (.aload_n 0, 1) := by decide +kernel
theorem dX6_move_21 : decode cX6_move 21 = .ok (.getfield 46, 3) := by decide +kernel
theorem dX6_move_24 : decode cX6_move 24 = .ok (.iload_n 1, 1) := by decide +kernel
theorem dX6_move_25 : decode cX6_move 25 = .ok (.aaload, 1) := by decide +kernel
theorem dX6_move_26 : decode cX6_move 26 = .ok (.astore 6, 2) := by decide +kernel
