theorem dX12_lives_0 : decode cX12_lives 0 = .ok (.aload_n 0, 1) := by decide +kernel
theorem dX12_lives_1 : decode cX12_lives 1 = .ok (.iconst 0, 1) := by decide +kernel
theorem dX12_lives_2 : decode cX12_lives 2 = .ok (.putfield 341, 3) := by decide +kernel
theorem dX12_lives_5 : decode cX12_lives 5 = .ok (.iconst 0, 1) := by decide +kernel
theorem dX12_lives_6 : decode cX12_lives 6 = .ok (.istore_n 1, 1) := by decide +kernel
theorem dX12_lives_7 : decode cX12_lives 7 = .ok (.iload_n 1, 1) := by decide +kernel
theorem dX12_lives_8 : decode cX12_lives 8 = .ok (.aload_n 0, 1) := by decide +kernel
theorem dX12_lives_9 : decode cX12_lives 9 = .ok (.getfield 250, 3) := by decide +kernel
theorem dX12_lives_12 : decode cX12_lives 12 = .ok (.if_icmp .ge 31, 3) := by decide +kernel
theorem dX12_lives_15 : decode cX12_lives 15 = .ok (.aload_n 0, 1) := by decide +kernel
theorem dX12_lives_16 : decode cX12_lives 16 = .ok (.getfield 106, 3) := by decide +kernel
theorem dX12_lives_19 : decode cX12_lives 19 = .ok (.iload_n 1, 1) := by decide +kernel
theorem dX12_lives_20 : decode cX12_lives 20 = .ok (.baload, 1) := by decide +kernel
theorem dX12_lives_21 : decode cX12_lives 21 = .ok (.ifCond .eq 16, 3) := by decide +kernel
theorem dX12_lives_24 : decode cX12_lives 24 = .ok (.aload_n 0, 1) := by decide +kernel
theorem dX12_lives_25 : decode cX12_lives 25 = .ok (.iload_n 1, 1) := by decide +kernel
theorem dX12_lives_26 : decode cX12_lives 26 = .ok (.invokevirtual 350, 3) := by decide +kernel
theorem dX12_lives_29 : decode cX12_lives 29 = .ok (.ifCond .le 8, 3) := by decide +kernel
theorem dX12_lives_32 : decode cX12_lives 32 = .ok (.aload_n 0, 1) := by decide +kernel
theorem dX12_lives_33 : decode cX12_lives 33 = .ok (.iload_n 1, 1) := by decide +kernel
theorem dX12_lives_34 : decode cX12_lives 34 = .ok (.invokevirtual 353, 3) := by decide +kernel
theorem dX12_lives_37 : decode cX12_lives 37 = .ok (.iinc 1 1, 3) := by decide +kernel
theorem dX12_lives_40 : decode cX12_lives 40 = .ok (.goto (-33), 3) := by decide +kernel
theorem dX12_lives_43 : decode cX12_lives 43 = .ok (.iconst 0, 1) := by decide +kernel
theorem dX12_lives_44 : decode cX12_lives 44 = .ok (.istore_n 1, 1) := by decide +kernel
theorem dX12_lives_45 : decode cX12_lives 45 = .ok (.iload_n 1, 1) := by decide +kernel
theorem dX12_lives_46 : decode cX12_lives 46 = .ok (.aload_n 0, 1) := by decide +kernel
theorem dX12_lives_47 : decode cX12_lives 47 = .ok (.getfield 247, 3) := by decide +kernel
theorem dX12_lives_50 : decode cX12_lives 50 = .ok (.if_icmp .ge 42, 3) := by decide +kernel
theorem dX12_lives_53 : decode cX12_lives 53 = .ok (.aload_n 0, 1) := by decide +kernel
theorem dX12_lives_54 : decode cX12_lives 54 = .ok (.getfield 70, 3) := by decide +kernel
theorem dX12_lives_57 : decode cX12_lives 57 = .ok (.iload_n 1, 1) := by decide +kernel
theorem dX12_lives_58 : decode cX12_lives 58 = .ok (.baload, 1) := by decide +kernel
theorem dX12_lives_59 : decode cX12_lives 59 = .ok (.ifCond .eq 27, 3) := by decide +kernel
theorem dX12_lives_62 : decode cX12_lives 62 = .ok (.aload_n 0, 1) := by decide +kernel
theorem dX12_lives_63 : decode cX12_lives 63 = .ok (.iload_n 1, 1) := by decide +kernel
theorem dX12_lives_64 : decode cX12_lives 64 = .ok (.iconst 1, 1) := by decide +kernel
theorem dX12_lives_65 : decode cX12_lives 65 = .ok (.aload_n 0, 1) := by decide +kernel
theorem dX12_lives_66 : decode cX12_lives 66 = .ok (.getfield 286, 3) := by decide +kernel
theorem dX12_lives_69 : decode cX12_lives 69 = .ok (.invokevirtual 295, 3) := by decide +kernel
theorem dX12_lives_72 : decode cX12_lives 72 = .ok (.iconst 1, 1) := by decide +kernel
theorem dX12_lives_73 : decode cX12_lives 73 = .ok (.if_icmp .ne 13, 3) := by decide +kernel
theorem dX12_lives_76 : decode cX12_lives 76 = .ok (.aload_n 0, 1) := by decide +kernel
theorem dX12_lives_77 : decode cX12_lives 77 = .ok (.getfield 42, 3) := by decide +kernel
theorem dX12_lives_80 : decode cX12_lives 80 = .ok (.iload_n 1, 1) := by decide +kernel
theorem dX12_lives_81 : decode cX12_lives 81 = .ok (.dup2, 1) := by decide +kernel
theorem dX12_lives_82 : decode cX12_lives 82 = .ok (.iaload, 1) := by decide +kernel
theorem dX12_lives_83 : decode cX12_lives 83 = .ok (.iconst 1, 1) := by decide +kernel
theorem dX12_lives_84 : decode cX12_lives 84 = .ok (.iadd, 1) := by decide +kernel
theorem dX12_lives_85 : decode cX12_lives 85 = .ok (.iastore, 1) := by decide +kernel
theorem dX12_lives_86 : decode cX12_lives 86 = .ok (.iinc 1 1, 3) := by decide +kernel
theorem dX12_lives_89 : decode cX12_lives 89 = .ok (.goto (-44), 3) := by decide +kernel
theorem dX12_lives_92 : decode cX12_lives 92 = .ok (.aload_n 0, 1) := by decide +kernel
theorem dX12_lives_93 : decode cX12_lives 93 = .ok (.getfield 286, 3) := by decide +kernel
theorem dX12_lives_96 : decode cX12_lives 96 = .ok (.bipush 7, 2) := by decide +kernel
theorem dX12_lives_98 : decode cX12_lives 98 = .ok (.irem, 1) := by decide +kernel
theorem dX12_lives_99 : decode cX12_lives 99 = .ok (.bipush 6, 2) := by decide +kernel
theorem dX12_lives_101 : decode cX12_lives 101 = .ok (.if_icmp .ne 119, 3) := by decide +kernel
theorem dX12_lives_104 : decode cX12_lives 104 = .ok (.iconst 0, 1) := by decide +kernel
theorem dX12_lives_105 : decode cX12_lives 105 = .ok (.istore_n 1, 1) := by decide +kernel
theorem dX12_lives_106 : decode cX12_lives 106 = .ok (.iload_n 1, 1) := by decide +kernel
theorem dX12_lives_107 : decode cX12_lives 107 = .ok (.aload_n 0, 1) := by decide +kernel
theorem dX12_lives_108 : decode cX12_lives 108 = .ok (.getfield 247, 3) := by decide +kernel
theorem dX12_lives_111 : decode cX12_lives 111 = .ok (.if_icmp .ge 109, 3) := by decide +kernel
theorem dX12_lives_114 : decode cX12_lives 114 = .ok (.aload_n 0, 1) := by decide +kernel
theorem dX12_lives_115 : decode cX12_lives 115 = .ok (.iload_n 1, 1) := by decide +kernel
theorem dX12_lives_116 : decode cX12_lives 116 = .ok (.invokevirtual 302, 3) := by decide +kernel
theorem dX12_lives_119 : decode cX12_lives 119 = .ok (.ifCond .ne 6, 3) := by decide +kernel
theorem dX12_lives_122 : decode cX12_lives 122 = .ok (.goto 92, 3) := by decide +kernel
theorem dX12_lives_125 : decode cX12_lives 125 = .ok (.aload_n 0, 1) := by decide +kernel
theorem dX12_lives_126 : decode cX12_lives 126 = .ok (.getfield 51, 3) := by decide +kernel
theorem dX12_lives_129 : decode cX12_lives 129 = .ok (.iload_n 1, 1) := by decide +kernel
theorem dX12_lives_130 : decode cX12_lives 130 = .ok (.iaload, 1) := by decide +kernel
theorem dX12_lives_131 : decode cX12_lives 131 = .ok (.aload_n 0, 1) := by decide +kernel
theorem dX12_lives_132 : decode cX12_lives 132 = .ok (.iload_n 1, 1) := by decide +kernel
theorem dX12_lives_133 : decode cX12_lives 133 = .ok (.invokevirtual 305, 3) := by decide +kernel
theorem dX12_lives_136 : decode cX12_lives 136 = .ok (.if_icmp .eq 21, 3) := by decide +kernel
theorem dX12_lives_139 : decode cX12_lives 139 = .ok (.aload_n 0, 1) := by decide +kernel
theorem dX12_lives_140 : decode cX12_lives 140 = .ok (.getfield 51, 3) := by decide +kernel
theorem dX12_lives_143 : decode cX12_lives 143 = .ok (.iload_n 1, 1) := by decide +kernel
theorem dX12_lives_144 : decode cX12_lives 144 = .ok (.aload_n 0, 1) := by decide +kernel
theorem dX12_lives_145 : decode cX12_lives 145 = .ok (.iload_n 1, 1) := by decide +kernel
theorem dX12_lives_146 : decode cX12_lives 146 = .ok (.invokevirtual 305, 3) := by decide +kernel
theorem dX12_lives_149 : decode cX12_lives 149 = .ok (.iastore, 1) := by decide +kernel
theorem dX12_lives_150 : decode cX12_lives 150 = .ok (.aload_n 0, 1) := by decide +kernel
theorem dX12_lives_151 : decode cX12_lives 151 = .ok (.getfield 54, 3) := by decide +kernel
theorem dX12_lives_154 : decode cX12_lives 154 = .ok (.iload_n 1, 1) := by decide +kernel
theorem dX12_lives_155 : decode cX12_lives 155 = .ok (.iconst 0, 1) := by decide +kernel
theorem dX12_lives_156 : decode cX12_lives 156 = .ok (.iastore, 1) := by decide +kernel
theorem dX12_lives_157 : decode cX12_lives 157 = .ok (.aload_n 0, 1) := by decide +kernel
theorem dX12_lives_158 : decode cX12_lives 158 = .ok (.getfield 54, 3) := by decide +kernel
theorem dX12_lives_161 : decode cX12_lives 161 = .ok (.iload_n 1, 1) := by decide +kernel
theorem dX12_lives_162 : decode cX12_lives 162 = .ok (.iaload, 1) := by decide +kernel
theorem dX12_lives_163 : decode cX12_lives 163 = .ok (.aload_n 0, 1) := by decide +kernel
theorem dX12_lives_164 : decode cX12_lives 164 = .ok (.iload_n 1, 1) := by decide +kernel
theorem dX12_lives_165 : decode cX12_lives 165 = .ok (.iconst 0, 1) := by decide +kernel
theorem dX12_lives_166 : decode cX12_lives 166 = .ok (.aload_n 0, 1) := by decide +kernel
theorem dX12_lives_167 : decode cX12_lives 167 = .ok (.getfield 286, 3) := by decide +kernel
theorem dX12_lives_170 : decode cX12_lives 170 = .ok (.invokevirtual 295, 3) := by decide +kernel
theorem dX12_lives_173 : decode cX12_lives 173 = .ok (.if_icmp .lt 6, 3) := by decide +kernel
theorem dX12_lives_176 : decode cX12_lives 176 = .ok (.goto 38, 3) := by decide +kernel
theorem dX12_lives_179 : decode cX12_lives 179 = .ok (.aload_n 0, 1) := by decide +kernel
theorem dX12_lives_180 : decode cX12_lives 180 = .ok (.getfield 54, 3) := by decide +kernel
theorem dX12_lives_183 : decode cX12_lives 183 = .ok (.iload_n 1, 1) := by decide +kernel
theorem dX12_lives_184 : decode cX12_lives 184 = .ok (.dup2, 1) := by decide +kernel
theorem dX12_lives_185 : decode cX12_lives 185 = .ok (.iaload, 1) := by decide +kernel
theorem dX12_lives_186 : decode cX12_lives 186 = .ok (.iconst 1, 1) := by decide +kernel
theorem dX12_lives_187 : decode cX12_lives 187 = .ok (.iadd, 1) := by decide +kernel
theorem dX12_lives_188 : decode cX12_lives 188 = .ok (.iastore, 1) := by decide +kernel
theorem dX12_lives_189 : decode cX12_lives 189 = .ok (.aload_n 0, 1) := by decide +kernel
theorem dX12_lives_190 : decode cX12_lives 190 = .ok (.getfield 48, 3) := by decide +kernel
theorem dX12_lives_193 : decode cX12_lives 193 = .ok (.iload_n 1, 1) := by decide +kernel
theorem dX12_lives_194 : decode cX12_lives 194 = .ok (.dup2, 1) := by decide +kernel
theorem dX12_lives_195 : decode cX12_lives 195 = .ok (.iaload, 1) := by decide +kernel
theorem dX12_lives_196 : decode cX12_lives 196 = .ok (.iconst 1, 1) := by decide +kernel
theorem dX12_lives_197 : decode cX12_lives 197 = .ok (.iadd, 1) := by decide +kernel
theorem dX12_lives_198 : decode cX12_lives 198 = .ok (.iastore, 1) := by decide +kernel
theorem dX12_lives_199 : decode cX12_lives 199 = .ok (.aload_n 0, 1) := by decide +kernel
theorem dX12_lives_200 : decode cX12_lives 200 = .ok (.dup, 1) := by decide +kernel
theorem dX12_lives_201 : decode cX12_lives 201 = .ok (.getfield 309, 3) := by decide +kernel
theorem dX12_lives_204 : decode cX12_lives 204 = .ok (.aload_n 0, 1) := by decide +kernel
theorem dX12_lives_205 : decode cX12_lives 205 = .ok (.getfield 36, 3) := by decide +kernel
theorem dX12_lives_208 : decode cX12_lives 208 = .ok (.iload_n 1, 1) := by decide +kernel
theorem dX12_lives_209 : decode cX12_lives 209 = .ok (.iaload, 1) := by decide +kernel
theorem dX12_lives_210 : decode cX12_lives 210 = .ok (.isub, 1) := by decide +kernel
theorem dX12_lives_211 : decode cX12_lives 211 = .ok (.putfield 309, 3) := by decide +kernel
theorem dX12_lives_214 : decode cX12_lives 214 = .ok (.iinc 1 1, 3) := by decide +kernel
theorem dX12_lives_217 : decode cX12_lives 217 = .ok (.goto (-111), 3) := by decide +kernel
theorem dX12_lives_220 : decode cX12_lives 220 = .ok (.aload_n 0, 1) := by decide +kernel
theorem dX12_lives_221 : decode cX12_lives 221 = .ok (.dup, 1) := by decide +kernel
theorem dX12_lives_222 : decode cX12_lives 222 = .ok (.getfield 286, 3) := by decide +kernel
theorem dX12_lives_225 : decode cX12_lives 225 = .ok (.iconst 1, 1) := by decide +kernel
theorem dX12_lives_226 : decode cX12_lives 226 = .ok (.iadd, 1) := by decide +kernel
theorem dX12_lives_227 : decode cX12_lives 227 = .ok (.putfield 286, 3) := by decide +kernel
theorem dX12_lives_230 : decode cX12_lives 230 = .ok (.iconst 0, 1) := by decide +kernel
theorem dX12_lives_231 : decode cX12_lives 231 = .ok (.istore_n 1, 1) := by decide +kernel
theorem dX12_lives_232 : decode cX12_lives 232 = .ok (.iload_n 1, 1) := by decide +kernel
theorem dX12_lives_233 : decode cX12_lives 233 = .ok (.aload_n 0, 1) := by decide +kernel
theorem dX12_lives_234 : decode cX12_lives 234 = .ok (.getfield 247, 3) := by decide +kernel
theorem dX12_lives_237 : decode cX12_lives 237 = .ok (.if_icmp .ge 38, 3) := by decide +kernel
theorem dX12_lives_240 : decode cX12_lives 240 = .ok (.aload_n 0, 1) := by decide +kernel
theorem dX12_lives_241 : decode cX12_lives 241 = .ok (.iload_n 1, 1) := by decide +kernel
theorem dX12_lives_242 : decode cX12_lives 242 = .ok (.aload_n 0, 1) := by decide +kernel
theorem dX12_lives_243 : decode cX12_lives 243 = .ok (.getfield 286, 3) := by decide +kernel
theorem dX12_lives_246 : decode cX12_lives 246 = .ok (.invokevirtual 289, 3) := by decide +kernel
theorem dX12_lives_249 : decode cX12_lives 249 = .ok (.ifCond .eq 6, 3) := by decide +kernel
theorem dX12_lives_252 : decode cX12_lives 252 = .ok (.goto 17, 3) := by decide +kernel
theorem dX12_lives_255 : decode cX12_lives 255 = .ok (.aload_n 0, 1) := by decide +kernel
theorem dX12_lives_256 : decode cX12_lives 256 = .ok (.getfield 70, 3) := by decide +kernel
theorem dX12_lives_259 : decode cX12_lives 259 = .ok (.iload_n 1, 1) := by decide +kernel
theorem dX12_lives_260 : decode cX12_lives 260 = .ok (.iconst 0, 1) := by decide +kernel
theorem dX12_lives_261 : decode cX12_lives 261 = .ok (.bastore, 1) := by decide +kernel
theorem dX12_lives_262 : decode cX12_lives 262 = .ok (.aload_n 0, 1) := by decide +kernel
theorem dX12_lives_263 : decode cX12_lives 263 = .ok (.getfield 45, 3) := by decide +kernel
theorem dX12_lives_266 : decode cX12_lives 266 = .ok (.iload_n 1, 1) := by decide +kernel
theorem dX12_lives_267 : decode cX12_lives 267 = .ok (.iconst (-1), 1) := by decide +kernel
theorem dX12_lives_268 : decode cX12_lives 268 = .ok (.iastore, 1) := by decide +kernel
theorem dX12_lives_269 : decode cX12_lives 269 = .ok (.iinc 1 1, 3) := by decide +kernel
theorem dX12_lives_272 : decode cX12_lives 272 = .ok (.goto (-40), 3) := by decide +kernel
theorem dX12_lives_275 : decode cX12_lives 275 = .ok (.return_, 1) := by decide +kernel
theorem dX12_days_0 : decode cX12_days 0 = .ok (.iload_n 1, 1) := by decide +kernel
theorem dX12_days_1 : decode cX12_days 1 = .ok (.iconst 1, 1) := by decide +kernel
theorem dX12_days_2 : decode cX12_days 2 = .ok (.if_icmp .lt 9, 3) := by decide +kernel
theorem dX12_days_5 : decode cX12_days 5 = .ok (.iload_n 1, 1) := by decide +kernel
theorem dX12_days_6 : decode cX12_days 6 = .ok (.bipush 100, 2) := by decide +kernel
theorem dX12_days_8 : decode cX12_days 8 = .ok (.if_icmp .le 10, 3) := by decide +kernel
theorem dX12_days_11 : decode cX12_days 11 = .ok (.aload_n 0, 1) := by decide +kernel
theorem dX12_days_12 : decode cX12_days 12 = .ok (.bipush (-6), 2) := by decide +kernel
theorem dX12_days_14 : decode cX12_days 14 = .ok (.invokevirtual 263, 3) := by decide +kernel
theorem dX12_days_17 : decode cX12_days 17 = .ok (.ireturn, 1) := by decide +kernel
theorem dX12_days_18 : decode cX12_days 18 = .ok (.aload_n 0, 1) := by decide +kernel
theorem dX12_days_19 : decode cX12_days 19 = .ok (.getfield 286, 3) := by decide +kernel
theorem dX12_days_22 : decode cX12_days 22 = .ok (.iload_n 1, 1) := by decide +kernel
theorem dX12_days_23 : decode cX12_days 23 = .ok (.iadd, 1) := by decide +kernel
theorem dX12_days_24 : decode cX12_days 24 = .ok (.sipush 4000, 3) := by decide +kernel
theorem dX12_days_27 : decode cX12_days 27 = .ok (.if_icmp .le 10, 3) := by decide +kernel
theorem dX12_days_30 : decode cX12_days 30 = .ok (.aload_n 0, 1) := by decide +kernel
theorem dX12_days_31 : decode cX12_days 31 = .ok (.bipush (-7), 2) := by decide +kernel
theorem dX12_days_33 : decode cX12_days 33 = .ok (.invokevirtual 263, 3) := by decide +kernel
theorem dX12_days_36 : decode cX12_days 36 = .ok (.ireturn, 1) := by decide +kernel
theorem dX12_days_37 : decode cX12_days 37 = .ok (.iconst 0, 1) := by decide +kernel
theorem dX12_days_38 : decode cX12_days 38 = .ok (.istore_n 2, 1) := by decide +kernel
theorem dX12_days_39 : decode cX12_days 39 = .ok (.iload_n 2, 1) := by decide +kernel
theorem dX12_days_40 : decode cX12_days 40 = .ok (.iload_n 1, 1) := by decide +kernel
theorem dX12_days_41 : decode cX12_days 41 = .ok (.if_icmp .ge 13, 3) := by decide +kernel
theorem dX12_days_44 : decode cX12_days 44 = .ok (.aload_n 0, 1) := by decide +kernel
theorem dX12_days_45 : decode cX12_days 45 = .ok (.invokevirtual 357, 3) := by decide +kernel
theorem dX12_days_48 : decode cX12_days 48 = .ok (.iinc 2 1, 3) := by decide +kernel
theorem dX12_days_51 : decode cX12_days 51 = .ok (.goto (-12), 3) := by decide +kernel
theorem dX12_days_54 : decode cX12_days 54 = .ok (.aload_n 0, 1) := by decide +kernel
theorem dX12_days_55 : decode cX12_days 55 = .ok (.getfield 286, 3) := by decide +kernel
theorem dX12_days_58 : decode cX12_days 58 = .ok (.ireturn, 1) := by decide +kernel
theorem dX12_who_0 : decode cX12_who 0 = .ok (.aload_n 0, 1) := by decide +kernel
theorem dX12_who_1 : decode cX12_who 1 = .ok (.iload_n 1, 1) := by decide +kernel
theorem dX12_who_2 : decode cX12_who 2 = .ok (.invokevirtual 277, 3) := by decide +kernel
theorem dX12_who_5 : decode cX12_who 5 = .ok (.ifCond .ne 5, 3) := by decide +kernel
theorem dX12_who_8 : decode cX12_who 8 = .ok (.iconst (-1), 1) := by decide +kernel
theorem dX12_who_9 : decode cX12_who 9 = .ok (.ireturn, 1) := by decide +kernel
theorem dX12_who_10 : decode cX12_who 10 = .ok (.iload_n 2, 1) := by decide +kernel
theorem dX12_who_11 : decode cX12_who 11 = .ok (.tableswitch 190 0 7 #[45, 52, 72, 90, 105, 128, 135, 172], 45) := by decide +kernel
theorem dX12_who_56 : decode cX12_who 56 = .ok (.aload_n 0, 1) := by decide +kernel
theorem dX12_who_57 : decode cX12_who 57 = .ok (.getfield 36, 3) := by decide +kernel
theorem dX12_who_60 : decode cX12_who 60 = .ok (.iload_n 1, 1) := by decide +kernel
theorem dX12_who_61 : decode cX12_who 61 = .ok (.iaload, 1) := by decide +kernel
theorem dX12_who_62 : decode cX12_who 62 = .ok (.ireturn, 1) := by decide +kernel
theorem dX12_who_63 : decode cX12_who 63 = .ok (.aload_n 0, 1) := by decide +kernel
theorem dX12_who_64 : decode cX12_who 64 = .ok (.getfield 66, 3) := by decide +kernel
theorem dX12_who_67 : decode cX12_who 67 = .ok (.iload_n 1, 1) := by decide +kernel
theorem dX12_who_68 : decode cX12_who 68 = .ok (.baload, 1) := by decide +kernel
theorem dX12_who_69 : decode cX12_who 69 = .ok (.ifCond .eq 12, 3) := by decide +kernel
theorem dX12_who_72 : decode cX12_who 72 = .ok (.aload_n 0, 1) := by decide +kernel
theorem dX12_who_73 : decode cX12_who 73 = .ok (.getfield 42, 3) := by decide +kernel
theorem dX12_who_76 : decode cX12_who 76 = .ok (.iload_n 1, 1) := by decide +kernel
theorem dX12_who_77 : decode cX12_who 77 = .ok (.iaload, 1) := by decide +kernel
theorem dX12_who_78 : decode cX12_who 78 = .ok (.goto 4, 3) := by decide +kernel
theorem dX12_who_81 : decode cX12_who 81 = .ok (.iconst (-1), 1) := by decide +kernel
theorem dX12_who_82 : decode cX12_who 82 = .ok (.ireturn, 1) := by decide +kernel
theorem dX12_who_83 : decode cX12_who 83 = .ok (.aload_n 0, 1) := by decide +kernel
theorem dX12_who_84 : decode cX12_who 84 = .ok (.iload_n 1, 1) := by decide +kernel
theorem dX12_who_85 : decode cX12_who 85 = .ok (.aload_n 0, 1) := by decide +kernel
theorem dX12_who_86 : decode cX12_who 86 = .ok (.getfield 286, 3) := by decide +kernel
theorem dX12_who_89 : decode cX12_who 89 = .ok (.invokevirtual 289, 3) := by decide +kernel
theorem dX12_who_92 : decode cX12_who 92 = .ok (.ifCond .eq 7, 3) := by decide +kernel
theorem dX12_who_95 : decode cX12_who 95 = .ok (.iconst 1, 1) := by decide +kernel
theorem dX12_who_96 : decode cX12_who 96 = .ok (.goto 4, 3) := by decide +kernel
theorem dX12_who_99 : decode cX12_who 99 = .ok (.iconst 0, 1) := by decide +kernel
theorem dX12_who_100 : decode cX12_who 100 = .ok (.ireturn, 1) := by decide +kernel
theorem dX12_who_101 : decode cX12_who 101 = .ok (.aload_n 0, 1) := by decide +kernel
theorem dX12_who_102 : decode cX12_who 102 = .ok (.getfield 70, 3) := by decide +kernel
theorem dX12_who_105 : decode cX12_who 105 = .ok (.iload_n 1, 1) := by decide +kernel
theorem dX12_who_106 : decode cX12_who 106 = .ok (.baload, 1) := by decide +kernel
theorem dX12_who_107 : decode cX12_who 107 = .ok (.ifCond .eq 7, 3) := by decide +kernel
theorem dX12_who_110 : decode cX12_who 110 = .ok (.iconst 1, 1) := by decide +kernel
theorem dX12_who_111 : decode cX12_who 111 = .ok (.goto 4, 3) := by decide +kernel
theorem dX12_who_114 : decode cX12_who 114 = .ok (.iconst 0, 1) := by decide +kernel
theorem dX12_who_115 : decode cX12_who 115 = .ok (.ireturn, 1) := by decide +kernel
theorem dX12_who_116 : decode cX12_who 116 = .ok (.aload_n 0, 1) := by decide +kernel
theorem dX12_who_117 : decode cX12_who 117 = .ok (.iload_n 1, 1) := by decide +kernel
theorem dX12_who_118 : decode cX12_who 118 = .ok (.aload_n 0, 1) := by decide +kernel
theorem dX12_who_119 : decode cX12_who 119 = .ok (.getfield 286, 3) := by decide +kernel
theorem dX12_who_122 : decode cX12_who 122 = .ok (.invokevirtual 299, 3) := by decide +kernel
theorem dX12_who_125 : decode cX12_who 125 = .ok (.ifCond .eq 12, 3) := by decide +kernel
theorem dX12_who_128 : decode cX12_who 128 = .ok (.aload_n 0, 1) := by decide +kernel
theorem dX12_who_129 : decode cX12_who 129 = .ok (.getfield 45, 3) := by decide +kernel
theorem dX12_who_132 : decode cX12_who 132 = .ok (.iload_n 1, 1) := by decide +kernel
theorem dX12_who_133 : decode cX12_who 133 = .ok (.iaload, 1) := by decide +kernel
theorem dX12_who_134 : decode cX12_who 134 = .ok (.goto 4, 3) := by decide +kernel
theorem dX12_who_137 : decode cX12_who 137 = .ok (.iconst (-1), 1) := by decide +kernel
theorem dX12_who_138 : decode cX12_who 138 = .ok (.ireturn, 1) := by decide +kernel
theorem dX12_who_139 : decode cX12_who 139 = .ok (.aload_n 0, 1) := by decide +kernel
theorem dX12_who_140 : decode cX12_who 140 = .ok (.getfield 48, 3) := by decide +kernel
theorem dX12_who_143 : decode cX12_who 143 = .ok (.iload_n 1, 1) := by decide +kernel
theorem dX12_who_144 : decode cX12_who 144 = .ok (.iaload, 1) := by decide +kernel
theorem dX12_who_145 : decode cX12_who 145 = .ok (.ireturn, 1) := by decide +kernel
theorem dX12_who_146 : decode cX12_who 146 = .ok (.aload_n 0, 1) := by decide +kernel
theorem dX12_who_147 : decode cX12_who 147 = .ok (.iload_n 1, 1) := by decide +kernel
theorem dX12_who_148 : decode cX12_who 148 = .ok (.aload_n 0, 1) := by decide +kernel
theorem dX12_who_149 : decode cX12_who 149 = .ok (.getfield 286, 3) := by decide +kernel
theorem dX12_who_152 : decode cX12_who 152 = .ok (.invokevirtual 289, 3) := by decide +kernel
theorem dX12_who_155 : decode cX12_who 155 = .ok (.ifCond .eq 26, 3) := by decide +kernel
theorem dX12_who_158 : decode cX12_who 158 = .ok (.aload_n 0, 1) := by decide +kernel
theorem dX12_who_159 : decode cX12_who 159 = .ok (.getfield 57, 3) := by decide +kernel
theorem dX12_who_162 : decode cX12_who 162 = .ok (.iload_n 1, 1) := by decide +kernel
theorem dX12_who_163 : decode cX12_who 163 = .ok (.iaload, 1) := by decide +kernel
theorem dX12_who_164 : decode cX12_who 164 = .ok (.aload_n 0, 1) := by decide +kernel
theorem dX12_who_165 : decode cX12_who 165 = .ok (.iload_n 1, 1) := by decide +kernel
theorem dX12_who_166 : decode cX12_who 166 = .ok (.invokevirtual 305, 3) := by decide +kernel
theorem dX12_who_169 : decode cX12_who 169 = .ok (.if_icmp .ne 12, 3) := by decide +kernel
theorem dX12_who_172 : decode cX12_who 172 = .ok (.aload_n 0, 1) := by decide +kernel
theorem dX12_who_173 : decode cX12_who 173 = .ok (.getfield 60, 3) := by decide +kernel
theorem dX12_who_176 : decode cX12_who 176 = .ok (.iload_n 1, 1) := by decide +kernel
theorem dX12_who_177 : decode cX12_who 177 = .ok (.iaload, 1) := by decide +kernel
theorem dX12_who_178 : decode cX12_who 178 = .ok (.goto 4, 3) := by decide +kernel
theorem dX12_who_181 : decode cX12_who 181 = .ok (.iconst 0, 1) := by decide +kernel
theorem dX12_who_182 : decode cX12_who 182 = .ok (.ireturn, 1) := by decide +kernel
theorem dX12_who_183 : decode cX12_who 183 = .ok (.aload_n 0, 1) := by decide +kernel
theorem dX12_who_184 : decode cX12_who 184 = .ok (.iload_n 1, 1) := by decide +kernel
theorem dX12_who_185 : decode cX12_who 185 = .ok (.aload_n 0, 1) := by decide +kernel
theorem dX12_who_186 : decode cX12_who 186 = .ok (.getfield 286, 3) := by decide +kernel
theorem dX12_who_189 : decode cX12_who 189 = .ok (.invokevirtual 344, 3) := by decide +kernel
theorem dX12_who_192 : decode cX12_who 192 = .ok (.ifCond .eq 7, 3) := by decide +kernel
theorem dX12_who_195 : decode cX12_who 195 = .ok (.iconst 1, 1) := by decide +kernel
theorem dX12_who_196 : decode cX12_who 196 = .ok (.goto 4, 3) := by decide +kernel
theorem dX12_who_199 : decode cX12_who 199 = .ok (.iconst 0, 1) := by decide +kernel
theorem dX12_who_200 : decode cX12_who 200 = .ok (.ireturn, 1) := by decide +kernel
theorem dX12_who_201 : decode cX12_who 201 = .ok (.iconst (-1), 1) := by decide +kernel
theorem dX12_who_202 : decode cX12_who 202 = .ok (.ireturn, 1) := by decide +kernel
theorem dX12_about_0 : decode cX12_about 0 = .ok (.aload_n 0, 1) := by decide +kernel
theorem dX12_about_1 : decode cX12_about 1 = .ok (.iload_n 1, 1) := by decide +kernel
theorem dX12_about_2 : decode cX12_about 2 = .ok (.invokevirtual 253, 3) := by decide +kernel
theorem dX12_about_5 : decode cX12_about 5 = .ok (.ifCond .ne 5, 3) := by decide +kernel
theorem dX12_about_8 : decode cX12_about 8 = .ok (.iconst (-1), 1) := by decide +kernel
theorem dX12_about_9 : decode cX12_about 9 = .ok (.ireturn, 1) := by decide +kernel
theorem dX12_about_10 : decode cX12_about 10 = .ok (.iload_n 2, 1) := by decide +kernel
theorem dX12_about_11 : decode cX12_about 11 = .ok (.tableswitch 119 0 8 #[49, 56, 63, 78, 84, 91, 98, 105, 112], 49) := by decide +kernel
theorem dX12_about_60 : decode cX12_about 60 = .ok (.aload_n 0, 1) := by decide +kernel
theorem dX12_about_61 : decode cX12_about 61 = .ok (.getfield 88, 3) := by decide +kernel
theorem dX12_about_64 : decode cX12_about 64 = .ok (.iload_n 1, 1) := by decide +kernel
theorem dX12_about_65 : decode cX12_about 65 = .ok (.iaload, 1) := by decide +kernel
theorem dX12_about_66 : decode cX12_about 66 = .ok (.ireturn, 1) := by decide +kernel
theorem dX12_about_67 : decode cX12_about 67 = .ok (.aload_n 0, 1) := by decide +kernel
theorem dX12_about_68 : decode cX12_about 68 = .ok (.getfield 91, 3) := by decide +kernel
theorem dX12_about_71 : decode cX12_about 71 = .ok (.iload_n 1, 1) := by decide +kernel
theorem dX12_about_72 : decode cX12_about 72 = .ok (.iaload, 1) := by decide +kernel
theorem dX12_about_73 : decode cX12_about 73 = .ok (.ireturn, 1) := by decide +kernel
theorem dX12_about_74 : decode cX12_about 74 = .ok (.aload_n 0, 1) := by decide +kernel
theorem dX12_about_75 : decode cX12_about 75 = .ok (.getfield 106, 3) := by decide +kernel
theorem dX12_about_78 : decode cX12_about 78 = .ok (.iload_n 1, 1) := by decide +kernel
theorem dX12_about_79 : decode cX12_about 79 = .ok (.baload, 1) := by decide +kernel
theorem dX12_about_80 : decode cX12_about 80 = .ok (.ifCond .eq 7, 3) := by decide +kernel
theorem dX12_about_83 : decode cX12_about 83 = .ok (.iconst 1, 1) := by decide +kernel
theorem dX12_about_84 : decode cX12_about 84 = .ok (.goto 4, 3) := by decide +kernel
theorem dX12_about_87 : decode cX12_about 87 = .ok (.iconst 0, 1) := by decide +kernel
theorem dX12_about_88 : decode cX12_about 88 = .ok (.ireturn, 1) := by decide +kernel
theorem dX12_about_89 : decode cX12_about 89 = .ok (.aload_n 0, 1) := by decide +kernel
theorem dX12_about_90 : decode cX12_about 90 = .ok (.iload_n 1, 1) := by decide +kernel
theorem dX12_about_91 : decode cX12_about 91 = .ok (.invokevirtual 350, 3) := by decide +kernel
theorem dX12_about_94 : decode cX12_about 94 = .ok (.ireturn, 1) := by decide +kernel
theorem dX12_about_95 : decode cX12_about 95 = .ok (.aload_n 0, 1) := by decide +kernel
theorem dX12_about_96 : decode cX12_about 96 = .ok (.getfield 115, 3) := by decide +kernel
theorem dX12_about_99 : decode cX12_about 99 = .ok (.iload_n 1, 1) := by decide +kernel
theorem dX12_about_100 : decode cX12_about 100 = .ok (.iaload, 1) := by decide +kernel
theorem dX12_about_101 : decode cX12_about 101 = .ok (.ireturn, 1) := by decide +kernel
theorem dX12_about_102 : decode cX12_about 102 = .ok (.aload_n 0, 1) := by decide +kernel
theorem dX12_about_103 : decode cX12_about 103 = .ok (.getfield 118, 3) := by decide +kernel
theorem dX12_about_106 : decode cX12_about 106 = .ok (.iload_n 1, 1) := by decide +kernel
theorem dX12_about_107 : decode cX12_about 107 = .ok (.iaload, 1) := by decide +kernel
theorem dX12_about_108 : decode cX12_about 108 = .ok (.ireturn, 1) := by decide +kernel
theorem dX12_about_109 : decode cX12_about 109 = .ok (.aload_n 0, 1) := by decide +kernel
theorem dX12_about_110 : decode cX12_about 110 = .ok (.getfield 121, 3) := by decide +kernel
theorem dX12_about_113 : decode cX12_about 113 = .ok (.iload_n 1, 1) := by decide +kernel
theorem dX12_about_114 : decode cX12_about 114 = .ok (.iaload, 1) := by decide +kernel
theorem dX12_about_115 : decode cX12_about 115 = .ok (.ireturn, 1) := by decide +kernel
theorem dX12_about_116 : decode cX12_about 116 = .ok (.aload_n 0, 1) := by decide +kernel
theorem dX12_about_117 : decode cX12_about 117 = .ok (.getfield 124, 3) := by decide +kernel
theorem dX12_about_120 : decode cX12_about 120 = .ok (.iload_n 1, 1) := by decide +kernel
theorem dX12_about_121 : decode cX12_about 121 = .ok (.iaload, 1) := by decide +kernel
theorem dX12_about_122 : decode cX12_about 122 = .ok (.ireturn, 1) := by decide +kernel
theorem dX12_about_123 : decode cX12_about 123 = .ok (.aload_n 0, 1) := by decide +kernel
theorem dX12_about_124 : decode cX12_about 124 = .ok (.getfield 127, 3) := by decide +kernel
theorem dX12_about_127 : decode cX12_about 127 = .ok (.iload_n 1, 1) := by decide +kernel
theorem dX12_about_128 : decode cX12_about 128 = .ok (.iaload, 1) := by decide +kernel
theorem dX12_about_129 : decode cX12_about 129 = .ok (.ireturn, 1) := by decide +kernel
theorem dX12_about_130 : decode cX12_about 130 = .ok (.iconst (-1), 1) := by decide +kernel
theorem dX12_about_131 : decode cX12_about 131 = .ok (.ireturn, 1) := by decide +kernel
theorem dX12_left_0 : decode cX12_left 0 = .ok (.aload_n 0, 1) := by decide +kernel
theorem dX12_left_1 : decode cX12_left 1 = .ok (.iload_n 1, 1) := by decide +kernel
theorem dX12_left_2 : decode cX12_left 2 = .ok (.iload_n 2, 1) := by decide +kernel
theorem dX12_left_3 : decode cX12_left 3 = .ok (.invokevirtual 312, 3) := by decide +kernel
theorem dX12_left_6 : decode cX12_left 6 = .ok (.ifCond .eq 17, 3) := by decide +kernel
theorem dX12_left_9 : decode cX12_left 9 = .ok (.aload_n 0, 1) := by decide +kernel
theorem dX12_left_10 : decode cX12_left 10 = .ok (.getfield 112, 3) := by decide +kernel
theorem dX12_left_13 : decode cX12_left 13 = .ok (.bipush 8, 2) := by decide +kernel
theorem dX12_left_15 : decode cX12_left 15 = .ok (.iload_n 1, 1) := by decide +kernel
theorem dX12_left_16 : decode cX12_left 16 = .ok (.imul, 1) := by decide +kernel
theorem dX12_left_17 : decode cX12_left 17 = .ok (.iload_n 2, 1) := by decide +kernel
theorem dX12_left_18 : decode cX12_left 18 = .ok (.iadd, 1) := by decide +kernel
theorem dX12_left_19 : decode cX12_left 19 = .ok (.iaload, 1) := by decide +kernel
theorem dX12_left_20 : decode cX12_left 20 = .ok (.goto 4, 3) := by decide +kernel
theorem dX12_left_23 : decode cX12_left 23 = .ok (.iconst (-1), 1) := by decide +kernel
theorem dX12_left_24 : decode cX12_left 24 = .ok (.ireturn, 1) := by decide +kernel
theorem dX12_draft_0 : decode cX12_draft 0 = .ok (.aload_n 0, 1) := by decide +kernel
theorem dX12_draft_1 : decode cX12_draft 1 = .ok (.iload_n 1, 1) := by decide +kernel
theorem dX12_draft_2 : decode cX12_draft 2 = .ok (.invokevirtual 253, 3) := by decide +kernel
theorem dX12_draft_5 : decode cX12_draft 5 = .ok (.ifCond .eq 12, 3) := by decide +kernel
theorem dX12_draft_8 : decode cX12_draft 8 = .ok (.iload_n 2, 1) := by decide +kernel
theorem dX12_draft_9 : decode cX12_draft 9 = .ok (.ifCond .lt 8, 3) := by decide +kernel
theorem dX12_draft_12 : decode cX12_draft 12 = .ok (.iload_n 2, 1) := by decide +kernel
theorem dX12_draft_13 : decode cX12_draft 13 = .ok (.iconst 5, 1) := by decide +kernel
theorem dX12_draft_14 : decode cX12_draft 14 = .ok (.if_icmp .le 9, 3) := by decide +kernel
theorem dX12_draft_17 : decode cX12_draft 17 = .ok (.aload_n 0, 1) := by decide +kernel
theorem dX12_draft_18 : decode cX12_draft 18 = .ok (.iconst (-1), 1) := by decide +kernel
theorem dX12_draft_19 : decode cX12_draft 19 = .ok (.invokevirtual 263, 3) := by decide +kernel
theorem dX12_draft_22 : decode cX12_draft 22 = .ok (.ireturn, 1) := by decide +kernel
theorem dX12_draft_23 : decode cX12_draft 23 = .ok (.aload_n 0, 1) := by decide +kernel
theorem dX12_draft_24 : decode cX12_draft 24 = .ok (.iload_n 3, 1) := by decide +kernel
theorem dX12_draft_25 : decode cX12_draft 25 = .ok (.invokevirtual 280, 3) := by decide +kernel
theorem dX12_draft_28 : decode cX12_draft 28 = .ok (.istore 4, 2) := by decide +kernel
theorem dX12_draft_30 : decode cX12_draft 30 = .ok (.iload 4, 2) := by decide +kernel
theorem dX12_draft_32 : decode cX12_draft 32 = .ok (.ifCond .eq 10, 3) := by decide +kernel
theorem dX12_draft_35 : decode cX12_draft 35 = .ok (.aload_n 0, 1) := by decide +kernel
theorem dX12_draft_36 : decode cX12_draft 36 = .ok (.iload 4, 2) := by decide +kernel
theorem dX12_draft_38 : decode cX12_draft 38 = .ok (.invokevirtual 263, 3) := by decide +kernel
theorem dX12_draft_41 : decode cX12_draft 41 = .ok (.ireturn, 1) := by decide +kernel
theorem dX12_draft_42 : decode cX12_draft 42 = .ok (.aload_n 0, 1) := by decide +kernel
theorem dX12_draft_43 : decode cX12_draft 43 = .ok (.getfield 127, 3) := by decide +kernel
theorem dX12_draft_46 : decode cX12_draft 46 = .ok (.iload_n 1, 1) := by decide +kernel
theorem dX12_draft_47 : decode cX12_draft 47 = .ok (.iaload, 1) := by decide +kernel
theorem dX12_draft_48 : decode cX12_draft 48 = .ok (.bipush 8, 2) := by decide +kernel
theorem dX12_draft_50 : decode cX12_draft 50 = .ok (.if_icmp .ne 10, 3) := by decide +kernel
theorem dX12_draft_53 : decode cX12_draft 53 = .ok (.aload_n 0, 1) := by decide +kernel
theorem dX12_draft_54 : decode cX12_draft 54 = .ok (.bipush (-7), 2) := by decide +kernel
theorem dX12_draft_56 : decode cX12_draft 56 = .ok (.invokevirtual 263, 3) := by decide +kernel
theorem dX12_draft_59 : decode cX12_draft 59 = .ok (.ireturn, 1) := by decide +kernel
theorem dX12_draft_60 : decode cX12_draft 60 = .ok (.aload_n 0, 1) := by decide +kernel
theorem dX12_draft_61 : decode cX12_draft 61 = .ok (.getfield 130, 3) := by decide +kernel
theorem dX12_draft_64 : decode cX12_draft 64 = .ok (.iload_n 1, 1) := by decide +kernel
theorem dX12_draft_65 : decode cX12_draft 65 = .ok (.iaload, 1) := by decide +kernel
theorem dX12_draft_66 : decode cX12_draft 66 = .ok (.istore 5, 2) := by decide +kernel
theorem dX12_draft_68 : decode cX12_draft 68 = .ok (.aload_n 0, 1) := by decide +kernel
theorem dX12_draft_69 : decode cX12_draft 69 = .ok (.getfield 23, 3) := by decide +kernel
theorem dX12_draft_72 : decode cX12_draft 72 = .ok (.iload_n 3, 1) := by decide +kernel
theorem dX12_draft_73 : decode cX12_draft 73 = .ok (.iaload, 1) := by decide +kernel
theorem dX12_draft_74 : decode cX12_draft 74 = .ok (.istore 6, 2) := by decide +kernel
theorem dX12_draft_76 : decode cX12_draft 76 = .ok (.iload 5, 2) := by decide +kernel
theorem dX12_draft_78 : decode cX12_draft 78 = .ok (.istore 7, 2) := by decide +kernel
theorem dX12_draft_80 : decode cX12_draft 80 = .ok (.iload 7, 2) := by decide +kernel
theorem dX12_draft_82 : decode cX12_draft 82 = .ok (.ifCond .lt 197, 3) := by decide +kernel
theorem dX12_draft_85 : decode cX12_draft 85 = .ok (.iload 6, 2) := by decide +kernel
theorem dX12_draft_87 : decode cX12_draft 87 = .ok (.istore 8, 2) := by decide +kernel
theorem dX12_draft_89 : decode cX12_draft 89 = .ok (.iload 8, 2) := by decide +kernel
theorem dX12_draft_91 : decode cX12_draft 91 = .ok (.ifCond .lt 182, 3) := by decide +kernel
theorem dX12_draft_94 : decode cX12_draft 94 = .ok (.iconst 0, 1) := by decide +kernel
theorem dX12_draft_95 : decode cX12_draft 95 = .ok (.istore 9, 2) := by decide +kernel
theorem dX12_draft_97 : decode cX12_draft 97 = .ok (.iload 7, 2) := by decide +kernel
theorem dX12_draft_99 : decode cX12_draft 99 = .ok (.iload 5, 2) := by decide +kernel
theorem dX12_draft_101 : decode cX12_draft 101 = .ok (.if_icmp .ge 151, 3) := by decide +kernel
theorem dX12_draft_104 : decode cX12_draft 104 = .ok (.iload 8, 2) := by decide +kernel
theorem dX12_draft_106 : decode cX12_draft 106 = .ok (.iload 6, 2) := by decide +kernel
theorem dX12_draft_108 : decode cX12_draft 108 = .ok (.if_icmp .ge 144, 3) := by decide +kernel
theorem dX12_draft_111 : decode cX12_draft 111 = .ok (.aload_n 0, 1) := by decide +kernel
theorem dX12_draft_112 : decode cX12_draft 112 = .ok (.getfield 211, 3) := by decide +kernel
theorem dX12_draft_115 : decode cX12_draft 115 = .ok (.bipush 61, 2) := by decide +kernel
theorem dX12_draft_117 : decode cX12_draft 117 = .ok (.iload 7, 2) := by decide +kernel
theorem dX12_draft_119 : decode cX12_draft 119 = .ok (.iconst 1, 1) := by decide +kernel
theorem dX12_draft_120 : decode cX12_draft 120 = .ok (.iadd, 1) := by decide +kernel
theorem dX12_draft_121 : decode cX12_draft 121 = .ok (.imul, 1) := by decide +kernel
theorem dX12_draft_122 : decode cX12_draft 122 = .ok (.iload 8, 2) := by decide +kernel
theorem dX12_draft_124 : decode cX12_draft 124 = .ok (.iadd, 1) := by decide +kernel
theorem dX12_draft_125 : decode cX12_draft 125 = .ok (.iaload, 1) := by decide +kernel
theorem dX12_draft_126 : decode cX12_draft 126 = .ok (.aload_n 0, 1) := by decide +kernel
theorem dX12_draft_127 : decode cX12_draft 127 = .ok (.getfield 211, 3) := by decide +kernel
theorem dX12_draft_130 : decode cX12_draft 130 = .ok (.bipush 61, 2) := by decide +kernel
theorem dX12_draft_132 : decode cX12_draft 132 = .ok (.iload 7, 2) := by decide +kernel
theorem dX12_draft_134 : decode cX12_draft 134 = .ok (.imul, 1) := by decide +kernel
theorem dX12_draft_135 : decode cX12_draft 135 = .ok (.iload 8, 2) := by decide +kernel
theorem dX12_draft_137 : decode cX12_draft 137 = .ok (.iadd, 1) := by decide +kernel
theorem dX12_draft_138 : decode cX12_draft 138 = .ok (.iconst 1, 1) := by decide +kernel
theorem dX12_draft_139 : decode cX12_draft 139 = .ok (.iadd, 1) := by decide +kernel
theorem dX12_draft_140 : decode cX12_draft 140 = .ok (.iaload, 1) := by decide +kernel
theorem dX12_draft_141 : decode cX12_draft 141 = .ok (.if_icmp .le 21, 3) := by decide +kernel
theorem dX12_draft_144 : decode cX12_draft 144 = .ok (.aload_n 0, 1) := by decide +kernel
theorem dX12_draft_145 : decode cX12_draft 145 = .ok (.getfield 211, 3) := by decide +kernel
theorem dX12_draft_148 : decode cX12_draft 148 = .ok (.bipush 61, 2) := by decide +kernel
theorem dX12_draft_150 : decode cX12_draft 150 = .ok (.iload 7, 2) := by decide +kernel
theorem dX12_draft_152 : decode cX12_draft 152 = .ok (.iconst 1, 1) := by decide +kernel
theorem dX12_draft_153 : decode cX12_draft 153 = .ok (.iadd, 1) := by decide +kernel
theorem dX12_draft_154 : decode cX12_draft 154 = .ok (.imul, 1) := by decide +kernel
theorem dX12_draft_155 : decode cX12_draft 155 = .ok (.iload 8, 2) := by decide +kernel
theorem dX12_draft_157 : decode cX12_draft 157 = .ok (.iadd, 1) := by decide +kernel
theorem dX12_draft_158 : decode cX12_draft 158 = .ok (.iaload, 1) := by decide +kernel
theorem dX12_draft_159 : decode cX12_draft 159 = .ok (.goto 18, 3) := by decide +kernel
theorem dX12_draft_162 : decode cX12_draft 162 = .ok (.aload_n 0, 1) := by decide +kernel
theorem dX12_draft_163 : decode cX12_draft 163 = .ok (.getfield 211, 3) := by decide +kernel
theorem dX12_draft_166 : decode cX12_draft 166 = .ok (.bipush 61, 2) := by decide +kernel
theorem dX12_draft_168 : decode cX12_draft 168 = .ok (.iload 7, 2) := by decide +kernel
theorem dX12_draft_170 : decode cX12_draft 170 = .ok (.imul, 1) := by decide +kernel
theorem dX12_draft_171 : decode cX12_draft 171 = .ok (.iload 8, 2) := by decide +kernel
theorem dX12_draft_173 : decode cX12_draft 173 = .ok (.iadd, 1) := by decide +kernel
theorem dX12_draft_174 : decode cX12_draft 174 = .ok (.iconst 1, 1) := by decide +kernel
theorem dX12_draft_175 : decode cX12_draft 175 = .ok (.iadd, 1) := by decide +kernel
theorem dX12_draft_176 : decode cX12_draft 176 = .ok (.iaload, 1) := by decide +kernel
theorem dX12_draft_177 : decode cX12_draft 177 = .ok (.istore 9, 2) := by decide +kernel
theorem dX12_draft_179 : decode cX12_draft 179 = .ok (.aload_n 0, 1) := by decide +kernel
theorem dX12_draft_180 : decode cX12_draft 180 = .ok (.getfield 136, 3) := by decide +kernel
theorem dX12_draft_183 : decode cX12_draft 183 = .ok (.bipush 60, 2) := by decide +kernel
theorem dX12_draft_185 : decode cX12_draft 185 = .ok (.iload_n 1, 1) := by decide +kernel
theorem dX12_draft_186 : decode cX12_draft 186 = .ok (.imul, 1) := by decide +kernel
theorem dX12_draft_187 : decode cX12_draft 187 = .ok (.iload 7, 2) := by decide +kernel
theorem dX12_draft_189 : decode cX12_draft 189 = .ok (.iadd, 1) := by decide +kernel
theorem dX12_draft_190 : decode cX12_draft 190 = .ok (.laload, 1) := by decide +kernel
theorem dX12_draft_191 : decode cX12_draft 191 = .ok (.aload_n 0, 1) := by decide +kernel
theorem dX12_draft_192 : decode cX12_draft 192 = .ok (.getfield 29, 3) := by decide +kernel
theorem dX12_draft_195 : decode cX12_draft 195 = .ok (.bipush 60, 2) := by decide +kernel
theorem dX12_draft_197 : decode cX12_draft 197 = .ok (.iload_n 3, 1) := by decide +kernel
theorem dX12_draft_198 : decode cX12_draft 198 = .ok (.imul, 1) := by decide +kernel
theorem dX12_draft_199 : decode cX12_draft 199 = .ok (.iload 8, 2) := by decide +kernel
theorem dX12_draft_201 : decode cX12_draft 201 = .ok (.iadd, 1) := by decide +kernel
theorem dX12_draft_202 : decode cX12_draft 202 = .ok (.laload, 1) := by decide +kernel
theorem dX12_draft_203 : decode cX12_draft 203 = .ok (.lcmp, 1) := by decide +kernel
theorem dX12_draft_204 : decode cX12_draft 204 = .ok (.ifCond .ne 48, 3) := by decide +kernel
theorem dX12_draft_207 : decode cX12_draft 207 = .ok (.aload_n 0, 1) := by decide +kernel
theorem dX12_draft_208 : decode cX12_draft 208 = .ok (.getfield 211, 3) := by decide +kernel
theorem dX12_draft_211 : decode cX12_draft 211 = .ok (.bipush 61, 2) := by decide +kernel
theorem dX12_draft_213 : decode cX12_draft 213 = .ok (.iload 7, 2) := by decide +kernel
theorem dX12_draft_215 : decode cX12_draft 215 = .ok (.iconst 1, 1) := by decide +kernel
theorem dX12_draft_216 : decode cX12_draft 216 = .ok (.iadd, 1) := by decide +kernel
theorem dX12_draft_217 : decode cX12_draft 217 = .ok (.imul, 1) := by decide +kernel
theorem dX12_draft_218 : decode cX12_draft 218 = .ok (.iload 8, 2) := by decide +kernel
theorem dX12_draft_220 : decode cX12_draft 220 = .ok (.iadd, 1) := by decide +kernel
theorem dX12_draft_221 : decode cX12_draft 221 = .ok (.iconst 1, 1) := by decide +kernel
theorem dX12_draft_222 : decode cX12_draft 222 = .ok (.iadd, 1) := by decide +kernel
theorem dX12_draft_223 : decode cX12_draft 223 = .ok (.iaload, 1) := by decide +kernel
theorem dX12_draft_224 : decode cX12_draft 224 = .ok (.iconst 1, 1) := by decide +kernel
theorem dX12_draft_225 : decode cX12_draft 225 = .ok (.iadd, 1) := by decide +kernel
theorem dX12_draft_226 : decode cX12_draft 226 = .ok (.iload 9, 2) := by decide +kernel
theorem dX12_draft_228 : decode cX12_draft 228 = .ok (.if_icmp .le 24, 3) := by decide +kernel
theorem dX12_draft_231 : decode cX12_draft 231 = .ok (.aload_n 0, 1) := by decide +kernel
theorem dX12_draft_232 : decode cX12_draft 232 = .ok (.getfield 211, 3) := by decide +kernel
theorem dX12_draft_235 : decode cX12_draft 235 = .ok (.bipush 61, 2) := by decide +kernel
theorem dX12_draft_237 : decode cX12_draft 237 = .ok (.iload 7, 2) := by decide +kernel
theorem dX12_draft_239 : decode cX12_draft 239 = .ok (.iconst 1, 1) := by decide +kernel
theorem dX12_draft_240 : decode cX12_draft 240 = .ok (.iadd, 1) := by decide +kernel
theorem dX12_draft_241 : decode cX12_draft 241 = .ok (.imul, 1) := by decide +kernel
theorem dX12_draft_242 : decode cX12_draft 242 = .ok (.iload 8, 2) := by decide +kernel
theorem dX12_draft_244 : decode cX12_draft 244 = .ok (.iadd, 1) := by decide +kernel
theorem dX12_draft_245 : decode cX12_draft 245 = .ok (.iconst 1, 1) := by decide +kernel
theorem dX12_draft_246 : decode cX12_draft 246 = .ok (.iadd, 1) := by decide +kernel
theorem dX12_draft_247 : decode cX12_draft 247 = .ok (.iaload, 1) := by decide +kernel
theorem dX12_draft_248 : decode cX12_draft 248 = .ok (.iconst 1, 1) := by decide +kernel
theorem dX12_draft_249 : decode cX12_draft 249 = .ok (.iadd, 1) := by decide +kernel
theorem dX12_draft_250 : decode cX12_draft 250 = .ok (.istore 9, 2) := by decide +kernel
theorem dX12_draft_252 : decode cX12_draft 252 = .ok (.aload_n 0, 1) := by decide +kernel
theorem dX12_draft_253 : decode cX12_draft 253 = .ok (.getfield 211, 3) := by decide +kernel
theorem dX12_draft_256 : decode cX12_draft 256 = .ok (.bipush 61, 2) := by decide +kernel
theorem dX12_draft_258 : decode cX12_draft 258 = .ok (.iload 7, 2) := by decide +kernel
theorem dX12_draft_260 : decode cX12_draft 260 = .ok (.imul, 1) := by decide +kernel
theorem dX12_draft_261 : decode cX12_draft 261 = .ok (.iload 8, 2) := by decide +kernel
theorem dX12_draft_263 : decode cX12_draft 263 = .ok (.iadd, 1) := by decide +kernel
theorem dX12_draft_264 : decode cX12_draft 264 = .ok (.iload 9, 2) := by decide +kernel
theorem dX12_draft_266 : decode cX12_draft 266 = .ok (.iastore, 1) := by decide +kernel
theorem dX12_draft_267 : decode cX12_draft 267 = .ok (.iinc 8 (-1), 3) := by decide +kernel
theorem dX12_draft_270 : decode cX12_draft 270 = .ok (.goto (-181), 3) := by decide +kernel
theorem dX12_draft_273 : decode cX12_draft 273 = .ok (.iinc 7 (-1), 3) := by decide +kernel
theorem dX12_draft_276 : decode cX12_draft 276 = .ok (.goto (-196), 3) := by decide +kernel
theorem dX12_draft_279 : decode cX12_draft 279 = .ok (.iconst 0, 1) := by decide +kernel
theorem dX12_draft_280 : decode cX12_draft 280 = .ok (.istore 7, 2) := by decide +kernel
theorem dX12_draft_282 : decode cX12_draft 282 = .ok (.iload 7, 2) := by decide +kernel
theorem dX12_draft_284 : decode cX12_draft 284 = .ok (.iload 6, 2) := by decide +kernel
theorem dX12_draft_286 : decode cX12_draft 286 = .ok (.if_icmp .ge 17, 3) := by decide +kernel
theorem dX12_draft_289 : decode cX12_draft 289 = .ok (.aload_n 0, 1) := by decide +kernel
theorem dX12_draft_290 : decode cX12_draft 290 = .ok (.getfield 214, 3) := by decide +kernel
theorem dX12_draft_293 : decode cX12_draft 293 = .ok (.iload 7, 2) := by decide +kernel
theorem dX12_draft_295 : decode cX12_draft 295 = .ok (.iload_n 2, 1) := by decide +kernel
theorem dX12_draft_296 : decode cX12_draft 296 = .ok (.iastore, 1) := by decide +kernel
theorem dX12_draft_297 : decode cX12_draft 297 = .ok (.iinc 7 1, 3) := by decide +kernel
theorem dX12_draft_300 : decode cX12_draft 300 = .ok (.goto (-18), 3) := by decide +kernel
theorem dX12_draft_303 : decode cX12_draft 303 = .ok (.iconst 0, 1) := by decide +kernel
theorem dX12_draft_304 : decode cX12_draft 304 = .ok (.istore 7, 2) := by decide +kernel
theorem dX12_draft_306 : decode cX12_draft 306 = .ok (.iconst 0, 1) := by decide +kernel
theorem dX12_draft_307 : decode cX12_draft 307 = .ok (.istore 8, 2) := by decide +kernel
theorem dX12_draft_309 : decode cX12_draft 309 = .ok (.iconst 0, 1) := by decide +kernel
theorem dX12_draft_310 : decode cX12_draft 310 = .ok (.istore 9, 2) := by decide +kernel
theorem dX12_draft_312 : decode cX12_draft 312 = .ok (.iload 7, 2) := by decide +kernel
theorem dX12_draft_314 : decode cX12_draft 314 = .ok (.iload 5, 2) := by decide +kernel
theorem dX12_draft_316 : decode cX12_draft 316 = .ok (.if_icmp .ge 140, 3) := by decide +kernel
theorem dX12_draft_319 : decode cX12_draft 319 = .ok (.iload 8, 2) := by decide +kernel
theorem dX12_draft_321 : decode cX12_draft 321 = .ok (.iload 6, 2) := by decide +kernel
theorem dX12_draft_323 : decode cX12_draft 323 = .ok (.if_icmp .ge 133, 3) := by decide +kernel
theorem dX12_draft_326 : decode cX12_draft 326 = .ok (.aload_n 0, 1) := by decide +kernel
theorem dX12_draft_327 : decode cX12_draft 327 = .ok (.getfield 211, 3) := by decide +kernel
theorem dX12_draft_330 : decode cX12_draft 330 = .ok (.bipush 61, 2) := by decide +kernel
theorem dX12_draft_332 : decode cX12_draft 332 = .ok (.iload 7, 2) := by decide +kernel
theorem dX12_draft_334 : decode cX12_draft 334 = .ok (.imul, 1) := by decide +kernel
theorem dX12_draft_335 : decode cX12_draft 335 = .ok (.iload 8, 2) := by decide +kernel
theorem dX12_draft_337 : decode cX12_draft 337 = .ok (.iadd, 1) := by decide +kernel
theorem dX12_draft_338 : decode cX12_draft 338 = .ok (.iaload, 1) := by decide +kernel
theorem dX12_draft_339 : decode cX12_draft 339 = .ok (.istore 10, 2) := by decide +kernel
theorem dX12_draft_341 : decode cX12_draft 341 = .ok (.aload_n 0, 1) := by decide +kernel
theorem dX12_draft_342 : decode cX12_draft 342 = .ok (.getfield 136, 3) := by decide +kernel
theorem dX12_draft_345 : decode cX12_draft 345 = .ok (.bipush 60, 2) := by decide +kernel
theorem dX12_draft_347 : decode cX12_draft 347 = .ok (.iload_n 1, 1) := by decide +kernel
theorem dX12_draft_348 : decode cX12_draft 348 = .ok (.imul, 1) := by decide +kernel
theorem dX12_draft_349 : decode cX12_draft 349 = .ok (.iload 7, 2) := by decide +kernel
theorem dX12_draft_351 : decode cX12_draft 351 = .ok (.iadd, 1) := by decide +kernel
theorem dX12_draft_352 : decode cX12_draft 352 = .ok (.laload, 1) := by decide +kernel
theorem dX12_draft_353 : decode cX12_draft 353 = .ok (.aload_n 0, 1) := by decide +kernel
theorem dX12_draft_354 : decode cX12_draft 354 = .ok (.getfield 29, 3) := by decide +kernel
theorem dX12_draft_357 : decode cX12_draft 357 = .ok (.bipush 60, 2) := by decide +kernel
theorem dX12_draft_359 : decode cX12_draft 359 = .ok (.iload_n 3, 1) := by decide +kernel
theorem dX12_draft_360 : decode cX12_draft 360 = .ok (.imul, 1) := by decide +kernel
theorem dX12_draft_361 : decode cX12_draft 361 = .ok (.iload 8, 2) := by decide +kernel
theorem dX12_draft_363 : decode cX12_draft 363 = .ok (.iadd, 1) := by decide +kernel
theorem dX12_draft_364 : decode cX12_draft 364 = .ok (.laload, 1) := by decide +kernel
theorem dX12_draft_365 : decode cX12_draft 365 = .ok (.lcmp, 1) := by decide +kernel
theorem dX12_draft_366 : decode cX12_draft 366 = .ok (.ifCond .ne 58, 3) := by decide +kernel
theorem dX12_draft_369 : decode cX12_draft 369 = .ok (.aload_n 0, 1) := by decide +kernel
theorem dX12_draft_370 : decode cX12_draft 370 = .ok (.getfield 211, 3) := by decide +kernel
theorem dX12_draft_373 : decode cX12_draft 373 = .ok (.bipush 61, 2) := by decide +kernel
theorem dX12_draft_375 : decode cX12_draft 375 = .ok (.iload 7, 2) := by decide +kernel
theorem dX12_draft_377 : decode cX12_draft 377 = .ok (.iconst 1, 1) := by decide +kernel
theorem dX12_draft_378 : decode cX12_draft 378 = .ok (.iadd, 1) := by decide +kernel
theorem dX12_draft_379 : decode cX12_draft 379 = .ok (.imul, 1) := by decide +kernel
theorem dX12_draft_380 : decode cX12_draft 380 = .ok (.iload 8, 2) := by decide +kernel
theorem dX12_draft_382 : decode cX12_draft 382 = .ok (.iadd, 1) := by decide +kernel
theorem dX12_draft_383 : decode cX12_draft 383 = .ok (.iconst 1, 1) := by decide +kernel
theorem dX12_draft_384 : decode cX12_draft 384 = .ok (.iadd, 1) := by decide +kernel
theorem dX12_draft_385 : decode cX12_draft 385 = .ok (.iaload, 1) := by decide +kernel
theorem dX12_draft_386 : decode cX12_draft 386 = .ok (.iconst 1, 1) := by decide +kernel
theorem dX12_draft_387 : decode cX12_draft 387 = .ok (.iadd, 1) := by decide +kernel
theorem dX12_draft_388 : decode cX12_draft 388 = .ok (.iload 10, 2) := by decide +kernel
theorem dX12_draft_390 : decode cX12_draft 390 = .ok (.if_icmp .ne 34, 3) := by decide +kernel
theorem dX12_draft_393 : decode cX12_draft 393 = .ok (.aload_n 0, 1) := by decide +kernel
theorem dX12_draft_394 : decode cX12_draft 394 = .ok (.getfield 214, 3) := by decide +kernel
theorem dX12_draft_397 : decode cX12_draft 397 = .ok (.iload 8, 2) := by decide +kernel
theorem dX12_draft_399 : decode cX12_draft 399 = .ok (.aload_n 0, 1) := by decide +kernel
theorem dX12_draft_400 : decode cX12_draft 400 = .ok (.getfield 133, 3) := by decide +kernel
theorem dX12_draft_403 : decode cX12_draft 403 = .ok (.bipush 60, 2) := by decide +kernel
theorem dX12_draft_405 : decode cX12_draft 405 = .ok (.iload_n 1, 1) := by decide +kernel
theorem dX12_draft_406 : decode cX12_draft 406 = .ok (.imul, 1) := by decide +kernel
theorem dX12_draft_407 : decode cX12_draft 407 = .ok (.iload 7, 2) := by decide +kernel
theorem dX12_draft_409 : decode cX12_draft 409 = .ok (.iadd, 1) := by decide +kernel
theorem dX12_draft_410 : decode cX12_draft 410 = .ok (.iaload, 1) := by decide +kernel
theorem dX12_draft_411 : decode cX12_draft 411 = .ok (.iastore, 1) := by decide +kernel
theorem dX12_draft_412 : decode cX12_draft 412 = .ok (.iinc 7 1, 3) := by decide +kernel
theorem dX12_draft_415 : decode cX12_draft 415 = .ok (.iinc 8 1, 3) := by decide +kernel
theorem dX12_draft_418 : decode cX12_draft 418 = .ok (.iinc 9 1, 3) := by decide +kernel
theorem dX12_draft_421 : decode cX12_draft 421 = .ok (.goto 32, 3) := by decide +kernel
theorem dX12_draft_424 : decode cX12_draft 424 = .ok (.aload_n 0, 1) := by decide +kernel
theorem dX12_draft_425 : decode cX12_draft 425 = .ok (.getfield 211, 3) := by decide +kernel
theorem dX12_draft_428 : decode cX12_draft 428 = .ok (.bipush 61, 2) := by decide +kernel
theorem dX12_draft_430 : decode cX12_draft 430 = .ok (.iload 7, 2) := by decide +kernel
theorem dX12_draft_432 : decode cX12_draft 432 = .ok (.iconst 1, 1) := by decide +kernel
theorem dX12_draft_433 : decode cX12_draft 433 = .ok (.iadd, 1) := by decide +kernel
theorem dX12_draft_434 : decode cX12_draft 434 = .ok (.imul, 1) := by decide +kernel
theorem dX12_draft_435 : decode cX12_draft 435 = .ok (.iload 8, 2) := by decide +kernel
theorem dX12_draft_437 : decode cX12_draft 437 = .ok (.iadd, 1) := by decide +kernel
theorem dX12_draft_438 : decode cX12_draft 438 = .ok (.iaload, 1) := by decide +kernel
theorem dX12_draft_439 : decode cX12_draft 439 = .ok (.iload 10, 2) := by decide +kernel
theorem dX12_draft_441 : decode cX12_draft 441 = .ok (.if_icmp .ne 9, 3) := by decide +kernel
theorem dX12_draft_444 : decode cX12_draft 444 = .ok (.iinc 7 1, 3) := by decide +kernel
theorem dX12_draft_447 : decode cX12_draft 447 = .ok (.goto 6, 3) := by decide +kernel
theorem dX12_draft_450 : decode cX12_draft 450 = .ok (.iinc 8 1, 3) := by decide +kernel
theorem dX12_draft_453 : decode cX12_draft 453 = .ok (.goto (-141), 3) := by decide +kernel
theorem dX12_draft_456 : decode cX12_draft 456 = .ok (.aload_n 0, 1) := by decide +kernel
theorem dX12_draft_457 : decode cX12_draft 457 = .ok (.getfield 130, 3) := by decide +kernel
theorem dX12_draft_460 : decode cX12_draft 460 = .ok (.iload_n 1, 1) := by decide +kernel
theorem dX12_draft_461 : decode cX12_draft 461 = .ok (.iload 6, 2) := by decide +kernel
theorem dX12_draft_463 : decode cX12_draft 463 = .ok (.iastore, 1) := by decide +kernel
theorem dX12_draft_464 : decode cX12_draft 464 = .ok (.iconst 0, 1) := by decide +kernel
theorem dX12_draft_465 : decode cX12_draft 465 = .ok (.istore 10, 2) := by decide +kernel
theorem dX12_draft_467 : decode cX12_draft 467 = .ok (.iload 10, 2) := by decide +kernel
theorem dX12_draft_469 : decode cX12_draft 469 = .ok (.iload 6, 2) := by decide +kernel
theorem dX12_draft_471 : decode cX12_draft 471 = .ok (.if_icmp .ge 52, 3) := by decide +kernel
theorem dX12_draft_474 : decode cX12_draft 474 = .ok (.aload_n 0, 1) := by decide +kernel
theorem dX12_draft_475 : decode cX12_draft 475 = .ok (.getfield 136, 3) := by decide +kernel
theorem dX12_draft_478 : decode cX12_draft 478 = .ok (.bipush 60, 2) := by decide +kernel
theorem dX12_draft_480 : decode cX12_draft 480 = .ok (.iload_n 1, 1) := by decide +kernel
theorem dX12_draft_481 : decode cX12_draft 481 = .ok (.imul, 1) := by decide +kernel
theorem dX12_draft_482 : decode cX12_draft 482 = .ok (.iload 10, 2) := by decide +kernel
theorem dX12_draft_484 : decode cX12_draft 484 = .ok (.iadd, 1) := by decide +kernel
theorem dX12_draft_485 : decode cX12_draft 485 = .ok (.aload_n 0, 1) := by decide +kernel
theorem dX12_draft_486 : decode cX12_draft 486 = .ok (.getfield 29, 3) := by decide +kernel
theorem dX12_draft_489 : decode cX12_draft 489 = .ok (.bipush 60, 2) := by decide +kernel
theorem dX12_draft_491 : decode cX12_draft 491 = .ok (.iload_n 3, 1) := by decide +kernel
theorem dX12_draft_492 : decode cX12_draft 492 = .ok (.imul, 1) := by decide +kernel
theorem dX12_draft_493 : decode cX12_draft 493 = .ok (.iload 10, 2) := by decide +kernel
theorem dX12_draft_495 : decode cX12_draft 495 = .ok (.iadd, 1) := by decide +kernel
theorem dX12_draft_496 : decode cX12_draft 496 = .ok (.laload, 1) := by decide +kernel
theorem dX12_draft_497 : decode cX12_draft 497 = .ok (.lastore, 1) := by decide +kernel
theorem dX12_draft_498 : decode cX12_draft 498 = .ok (.aload_n 0, 1) := by decide +kernel
theorem dX12_draft_499 : decode cX12_draft 499 = .ok (.getfield 133, 3) := by decide +kernel
theorem dX12_draft_502 : decode cX12_draft 502 = .ok (.bipush 60, 2) := by decide +kernel
theorem dX12_draft_504 : decode cX12_draft 504 = .ok (.iload_n 1, 1) := by decide +kernel
theorem dX12_draft_505 : decode cX12_draft 505 = .ok (.imul, 1) := by decide +kernel
theorem dX12_draft_506 : decode cX12_draft 506 = .ok (.iload 10, 2) := by decide +kernel
theorem dX12_draft_508 : decode cX12_draft 508 = .ok (.iadd, 1) := by decide +kernel
theorem dX12_draft_509 : decode cX12_draft 509 = .ok (.aload_n 0, 1) := by decide +kernel
theorem dX12_draft_510 : decode cX12_draft 510 = .ok (.getfield 214, 3) := by decide +kernel
theorem dX12_draft_513 : decode cX12_draft 513 = .ok (.iload 10, 2) := by decide +kernel
theorem dX12_draft_515 : decode cX12_draft 515 = .ok (.iaload, 1) := by decide +kernel
theorem dX12_draft_516 : decode cX12_draft 516 = .ok (.iastore, 1) := by decide +kernel
theorem dX12_draft_517 : decode cX12_draft 517 = .ok (.iinc 10 1, 3) := by decide +kernel
theorem dX12_draft_520 : decode cX12_draft 520 = .ok (.goto (-53), 3) := by decide +kernel
theorem dX12_draft_523 : decode cX12_draft 523 = .ok (.aload_n 0, 1) := by decide +kernel
theorem dX12_draft_524 : decode cX12_draft 524 = .ok (.getfield 127, 3) := by decide +kernel
theorem dX12_draft_527 : decode cX12_draft 527 = .ok (.iload_n 1, 1) := by decide +kernel
theorem dX12_draft_528 : decode cX12_draft 528 = .ok (.dup2, 1) := by decide +kernel
theorem dX12_draft_529 : decode cX12_draft 529 = .ok (.iaload, 1) := by decide +kernel
theorem dX12_draft_530 : decode cX12_draft 530 = .ok (.iconst 1, 1) := by decide +kernel
theorem dX12_draft_531 : decode cX12_draft 531 = .ok (.iadd, 1) := by decide +kernel
theorem dX12_draft_532 : decode cX12_draft 532 = .ok (.iastore, 1) := by decide +kernel
theorem dX12_draft_533 : decode cX12_draft 533 = .ok (.iload 9, 2) := by decide +kernel
theorem dX12_draft_535 : decode cX12_draft 535 = .ok (.ireturn, 1) := by decide +kernel
theorem dX12_creditOf_0 : decode cX12_creditOf 0 = .ok (.iconst 0, 1) := by decide +kernel
theorem dX12_creditOf_1 : decode cX12_creditOf 1 = .ok (.istore_n 3, 1) := by decide +kernel
theorem dX12_creditOf_2 : decode cX12_creditOf 2 = .ok (.iconst 0, 1) := by decide +kernel
theorem dX12_creditOf_3 : decode cX12_creditOf 3 = .ok (.istore 4, 2) := by decide +kernel
theorem dX12_creditOf_5 : decode cX12_creditOf 5 = .ok (.iload 4, 2) := by decide +kernel
theorem dX12_creditOf_7 : decode cX12_creditOf 7 = .ok (.aload_n 0, 1) := by decide +kernel
theorem dX12_creditOf_8 : decode cX12_creditOf 8 = .ok (.getfield 130, 3) := by decide +kernel
theorem dX12_creditOf_11 : decode cX12_creditOf 11 = .ok (.iload_n 1, 1) := by decide +kernel
theorem dX12_creditOf_12 : decode cX12_creditOf 12 = .ok (.iaload, 1) := by decide +kernel
theorem dX12_creditOf_13 : decode cX12_creditOf 13 = .ok (.if_icmp .ge 28, 3) := by decide +kernel
theorem dX12_creditOf_16 : decode cX12_creditOf 16 = .ok (.aload_n 0, 1) := by decide +kernel
theorem dX12_creditOf_17 : decode cX12_creditOf 17 = .ok (.getfield 133, 3) := by decide +kernel
theorem dX12_creditOf_20 : decode cX12_creditOf 20 = .ok (.bipush 60, 2) := by decide +kernel
theorem dX12_creditOf_22 : decode cX12_creditOf 22 = .ok (.iload_n 1, 1) := by decide +kernel
theorem dX12_creditOf_23 : decode cX12_creditOf 23 = .ok (.imul, 1) := by decide +kernel
theorem dX12_creditOf_24 : decode cX12_creditOf 24 = .ok (.iload 4, 2) := by decide +kernel
theorem dX12_creditOf_26 : decode cX12_creditOf 26 = .ok (.iadd, 1) := by decide +kernel
theorem dX12_creditOf_27 : decode cX12_creditOf 27 = .ok (.iaload, 1) := by decide +kernel
theorem dX12_creditOf_28 : decode cX12_creditOf 28 = .ok (.iload_n 2, 1) := by decide +kernel
theorem dX12_creditOf_29 : decode cX12_creditOf 29 = .ok (.if_icmp .ne 6, 3) := by decide +kernel
theorem dX12_creditOf_32 : decode cX12_creditOf 32 = .ok (.iinc 3 1, 3) := by decide +kernel
theorem dX12_creditOf_35 : decode cX12_creditOf 35 = .ok (.iinc 4 1, 3) := by decide +kernel
theorem dX12_creditOf_38 : decode cX12_creditOf 38 = .ok (.goto (-33), 3) := by decide +kernel
theorem dX12_creditOf_41 : decode cX12_creditOf 41 = .ok (.iload_n 3, 1) := by decide +kernel
theorem dX12_creditOf_42 : decode cX12_creditOf 42 = .ok (.ireturn, 1) := by decide +kernel
theorem dX12_credit_0 : decode cX12_credit 0 = .ok (.aload_n 0, 1) := by decide +kernel
theorem dX12_credit_1 : decode cX12_credit 1 = .ok (.iload_n 1, 1) := by decide +kernel
theorem dX12_credit_2 : decode cX12_credit 2 = .ok (.invokevirtual 253, 3) := by decide +kernel
theorem dX12_credit_5 : decode cX12_credit 5 = .ok (.ifCond .eq 22, 3) := by decide +kernel
theorem dX12_credit_8 : decode cX12_credit 8 = .ok (.iload_n 2, 1) := by decide +kernel
theorem dX12_credit_9 : decode cX12_credit 9 = .ok (.ifCond .lt 18, 3) := by decide +kernel
theorem dX12_credit_12 : decode cX12_credit 12 = .ok (.iload_n 2, 1) := by decide +kernel
theorem dX12_credit_13 : decode cX12_credit 13 = .ok (.bipush 6, 2) := by decide +kernel
theorem dX12_credit_15 : decode cX12_credit 15 = .ok (.if_icmp .ge 12, 3) := by decide +kernel
theorem dX12_credit_18 : decode cX12_credit 18 = .ok (.aload_n 0, 1) := by decide +kernel
theorem dX12_credit_19 : decode cX12_credit 19 = .ok (.iload_n 1, 1) := by decide +kernel
theorem dX12_credit_20 : decode cX12_credit 20 = .ok (.iload_n 2, 1) := by decide +kernel
theorem dX12_credit_21 : decode cX12_credit 21 = .ok (.invokevirtual 360, 3) := by decide +kernel
theorem dX12_credit_24 : decode cX12_credit 24 = .ok (.goto 4, 3) := by decide +kernel
theorem dX12_credit_27 : decode cX12_credit 27 = .ok (.iconst (-1), 1) := by decide +kernel
theorem dX12_credit_28 : decode cX12_credit 28 = .ok (.ireturn, 1) := by decide +kernel
theorem dX12_named_0 : decode cX12_named 0 = .ok (.aload_n 0, 1) := by decide +kernel
theorem dX12_named_1 : decode cX12_named 1 = .ok (.iload_n 1, 1) := by decide +kernel
theorem dX12_named_2 : decode cX12_named 2 = .ok (.invokevirtual 253, 3) := by decide +kernel
theorem dX12_named_5 : decode cX12_named 5 = .ok (.ifCond .ne 9, 3) := by decide +kernel
theorem dX12_named_8 : decode cX12_named 8 = .ok (.aload_n 0, 1) := by decide +kernel
theorem dX12_named_9 : decode cX12_named 9 = .ok (.iconst (-1), 1) := by decide +kernel
theorem dX12_named_10 : decode cX12_named 10 = .ok (.invokevirtual 263, 3) := by decide +kernel
theorem dX12_named_13 : decode cX12_named 13 = .ok (.ireturn, 1) := by decide +kernel
theorem dX12_named_14 : decode cX12_named 14 = .ok (.iconst 0, 1) := by decide +kernel
theorem dX12_named_15 : decode cX12_named 15 = .ok (.istore_n 2, 1) := by decide +kernel
theorem dX12_named_16 : decode cX12_named 16 = .ok (.iconst 0, 1) := by decide +kernel
theorem dX12_named_17 : decode cX12_named 17 = .ok (.istore_n 3, 1) := by decide +kernel
theorem dX12_named_18 : decode cX12_named 18 = .ok (.iload_n 3, 1) := by decide +kernel
theorem dX12_named_19 : decode cX12_named 19 = .ok (.bipush 6, 2) := by decide +kernel
theorem dX12_named_21 : decode cX12_named 21 = .ok (.if_icmp .ge 41, 3) := by decide +kernel
theorem dX12_named_24 : decode cX12_named 24 = .ok (.aload_n 0, 1) := by decide +kernel
theorem dX12_named_25 : decode cX12_named 25 = .ok (.iload_n 1, 1) := by decide +kernel
theorem dX12_named_26 : decode cX12_named 26 = .ok (.iload_n 3, 1) := by decide +kernel
theorem dX12_named_27 : decode cX12_named 27 = .ok (.invokevirtual 360, 3) := by decide +kernel
theorem dX12_named_30 : decode cX12_named 30 = .ok (.ifCond .le 26, 3) := by decide +kernel
theorem dX12_named_33 : decode cX12_named 33 = .ok (.iconst 5, 1) := by decide +kernel
theorem dX12_named_34 : decode cX12_named 34 = .ok (.aload_n 0, 1) := by decide +kernel
theorem dX12_named_35 : decode cX12_named 35 = .ok (.iload_n 1, 1) := by decide +kernel
theorem dX12_named_36 : decode cX12_named 36 = .ok (.iload_n 3, 1) := by decide +kernel
theorem dX12_named_37 : decode cX12_named 37 = .ok (.invokevirtual 360, 3) := by decide +kernel
theorem dX12_named_40 : decode cX12_named 40 = .ok (.imul, 1) := by decide +kernel
theorem dX12_named_41 : decode cX12_named 41 = .ok (.aload_n 0, 1) := by decide +kernel
theorem dX12_named_42 : decode cX12_named 42 = .ok (.getfield 130, 3) := by decide +kernel
theorem dX12_named_45 : decode cX12_named 45 = .ok (.iload_n 1, 1) := by decide +kernel
theorem dX12_named_46 : decode cX12_named 46 = .ok (.iaload, 1) := by decide +kernel
theorem dX12_named_47 : decode cX12_named 47 = .ok (.if_icmp .lt 9, 3) := by decide +kernel
theorem dX12_named_50 : decode cX12_named 50 = .ok (.iload_n 2, 1) := by decide +kernel
theorem dX12_named_51 : decode cX12_named 51 = .ok (.iconst 1, 1) := by decide +kernel
theorem dX12_named_52 : decode cX12_named 52 = .ok (.iload_n 3, 1) := by decide +kernel
theorem dX12_named_53 : decode cX12_named 53 = .ok (.ishl, 1) := by decide +kernel
theorem dX12_named_54 : decode cX12_named 54 = .ok (.ior, 1) := by decide +kernel
theorem dX12_named_55 : decode cX12_named 55 = .ok (.istore_n 2, 1) := by decide +kernel
theorem dX12_named_56 : decode cX12_named 56 = .ok (.iinc 3 1, 3) := by decide +kernel
theorem dX12_named_59 : decode cX12_named 59 = .ok (.goto (-41), 3) := by decide +kernel
theorem dX12_named_62 : decode cX12_named 62 = .ok (.iload_n 2, 1) := by decide +kernel
theorem dX12_named_63 : decode cX12_named 63 = .ok (.ireturn, 1) := by decide +kernel
theorem dX12_code_0 : decode cX12_code 0 = .ok (.iload_n 1, 1) := by decide +kernel
theorem dX12_code_1 : decode cX12_code 1 = .ok (.ifCond .lt 8, 3) := by decide +kernel
theorem dX12_code_4 : decode cX12_code 4 = .ok (.iload_n 1, 1) := by decide +kernel
theorem dX12_code_5 : decode cX12_code 5 = .ok (.iconst 3, 1) := by decide +kernel
theorem dX12_code_6 : decode cX12_code 6 = .ok (.if_icmp .le 9, 3) := by decide +kernel
theorem dX12_code_9 : decode cX12_code 9 = .ok (.aload_n 0, 1) := by decide +kernel
theorem dX12_code_10 : decode cX12_code 10 = .ok (.iconst (-1), 1) := by decide +kernel
theorem dX12_code_11 : decode cX12_code 11 = .ok (.invokevirtual 263, 3) := by decide +kernel
theorem dX12_code_14 : decode cX12_code 14 = .ok (.ireturn, 1) := by decide +kernel
theorem dX12_code_15 : decode cX12_code 15 = .ok (.iload_n 2, 1) := by decide +kernel
theorem dX12_code_16 : decode cX12_code 16 = .ok (.ifCond .lt 9, 3) := by decide +kernel
theorem dX12_code_19 : decode cX12_code 19 = .ok (.iload_n 2, 1) := by decide +kernel
theorem dX12_code_20 : decode cX12_code 20 = .ok (.bipush 9, 2) := by decide +kernel
theorem dX12_code_22 : decode cX12_code 22 = .ok (.if_icmp .le 10, 3) := by decide +kernel
theorem dX12_code_25 : decode cX12_code 25 = .ok (.aload_n 0, 1) := by decide +kernel
theorem dX12_code_26 : decode cX12_code 26 = .ok (.bipush (-6), 2) := by decide +kernel
theorem dX12_code_28 : decode cX12_code 28 = .ok (.invokevirtual 263, 3) := by decide +kernel
theorem dX12_code_31 : decode cX12_code 31 = .ok (.ireturn, 1) := by decide +kernel
theorem dX12_code_32 : decode cX12_code 32 = .ok (.aload_n 0, 1) := by decide +kernel
theorem dX12_code_33 : decode cX12_code 33 = .ok (.getfield 139, 3) := by decide +kernel
theorem dX12_code_36 : decode cX12_code 36 = .ok (.iload_n 1, 1) := by decide +kernel
theorem dX12_code_37 : decode cX12_code 37 = .ok (.iaload, 1) := by decide +kernel
theorem dX12_code_38 : decode cX12_code 38 = .ok (.istore_n 3, 1) := by decide +kernel
theorem dX12_code_39 : decode cX12_code 39 = .ok (.aload_n 0, 1) := by decide +kernel
theorem dX12_code_40 : decode cX12_code 40 = .ok (.getfield 139, 3) := by decide +kernel
theorem dX12_code_43 : decode cX12_code 43 = .ok (.iload_n 1, 1) := by decide +kernel
theorem dX12_code_44 : decode cX12_code 44 = .ok (.iload_n 2, 1) := by decide +kernel
theorem dX12_code_45 : decode cX12_code 45 = .ok (.iastore, 1) := by decide +kernel
theorem dX12_code_46 : decode cX12_code 46 = .ok (.iload_n 3, 1) := by decide +kernel
theorem dX12_code_47 : decode cX12_code 47 = .ok (.ireturn, 1) := by decide +kernel
theorem dX12_barred_0 : decode cX12_barred 0 = .ok (.aload_n 0, 1) := by decide +kernel
theorem dX12_barred_1 : decode cX12_barred 1 = .ok (.iload_n 1, 1) := by decide +kernel
theorem dX12_barred_2 : decode cX12_barred 2 = .ok (.iload_n 2, 1) := by decide +kernel
theorem dX12_barred_3 : decode cX12_barred 3 = .ok (.invokevirtual 312, 3) := by decide +kernel
theorem dX12_barred_6 : decode cX12_barred 6 = .ok (.ifCond .ne 9, 3) := by decide +kernel
theorem dX12_barred_9 : decode cX12_barred 9 = .ok (.aload_n 0, 1) := by decide +kernel
theorem dX12_barred_10 : decode cX12_barred 10 = .ok (.iconst (-1), 1) := by decide +kernel
theorem dX12_barred_11 : decode cX12_barred 11 = .ok (.invokevirtual 263, 3) := by decide +kernel
theorem dX12_barred_14 : decode cX12_barred 14 = .ok (.ireturn, 1) := by decide +kernel
theorem dX12_barred_15 : decode cX12_barred 15 = .ok (.iconst 0, 1) := by decide +kernel
theorem dX12_barred_16 : decode cX12_barred 16 = .ok (.istore_n 3, 1) := by decide +kernel
theorem dX12_barred_17 : decode cX12_barred 17 = .ok (.iconst 0, 1) := by decide +kernel
theorem dX12_barred_18 : decode cX12_barred 18 = .ok (.istore 4, 2) := by decide +kernel
theorem dX12_barred_20 : decode cX12_barred 20 = .ok (.iload 4, 2) := by decide +kernel
theorem dX12_barred_22 : decode cX12_barred 22 = .ok (.iconst 4, 1) := by decide +kernel
theorem dX12_barred_23 : decode cX12_barred 23 = .ok (.if_icmp .ge 42, 3) := by decide +kernel
theorem dX12_barred_26 : decode cX12_barred 26 = .ok (.aload_n 0, 1) := by decide +kernel
theorem dX12_barred_27 : decode cX12_barred 27 = .ok (.getfield 103, 3) := by decide +kernel
theorem dX12_barred_30 : decode cX12_barred 30 = .ok (.iconst 4, 1) := by decide +kernel
theorem dX12_barred_31 : decode cX12_barred 31 = .ok (.bipush 8, 2) := by decide +kernel
theorem dX12_barred_33 : decode cX12_barred 33 = .ok (.iload_n 1, 1) := by decide +kernel
theorem dX12_barred_34 : decode cX12_barred 34 = .ok (.imul, 1) := by decide +kernel
theorem dX12_barred_35 : decode cX12_barred 35 = .ok (.iload_n 2, 1) := by decide +kernel
theorem dX12_barred_36 : decode cX12_barred 36 = .ok (.iadd, 1) := by decide +kernel
theorem dX12_barred_37 : decode cX12_barred 37 = .ok (.imul, 1) := by decide +kernel
theorem dX12_barred_38 : decode cX12_barred 38 = .ok (.iload 4, 2) := by decide +kernel
theorem dX12_barred_40 : decode cX12_barred 40 = .ok (.iadd, 1) := by decide +kernel
theorem dX12_barred_41 : decode cX12_barred 41 = .ok (.iaload, 1) := by decide +kernel
theorem dX12_barred_42 : decode cX12_barred 42 = .ok (.aload_n 0, 1) := by decide +kernel
theorem dX12_barred_43 : decode cX12_barred 43 = .ok (.getfield 139, 3) := by decide +kernel
theorem dX12_barred_46 : decode cX12_barred 46 = .ok (.iload 4, 2) := by decide +kernel
theorem dX12_barred_48 : decode cX12_barred 48 = .ok (.iaload, 1) := by decide +kernel
theorem dX12_barred_49 : decode cX12_barred 49 = .ok (.if_icmp .le 10, 3) := by decide +kernel
theorem dX12_barred_52 : decode cX12_barred 52 = .ok (.iload_n 3, 1) := by decide +kernel
theorem dX12_barred_53 : decode cX12_barred 53 = .ok (.iconst 1, 1) := by decide +kernel
theorem dX12_barred_54 : decode cX12_barred 54 = .ok (.iload 4, 2) := by decide +kernel
theorem dX12_barred_56 : decode cX12_barred 56 = .ok (.ishl, 1) := by decide +kernel
theorem dX12_barred_57 : decode cX12_barred 57 = .ok (.ior, 1) := by decide +kernel
theorem dX12_barred_58 : decode cX12_barred 58 = .ok (.istore_n 3, 1) := by decide +kernel
theorem dX12_barred_59 : decode cX12_barred 59 = .ok (.iinc 4 1, 3) := by decide +kernel
theorem dX12_barred_62 : decode cX12_barred 62 = .ok (.goto (-42), 3) := by decide +kernel
theorem dX12_barred_65 : decode cX12_barred 65 = .ok (.iload_n 3, 1) := by decide +kernel
theorem dX12_barred_66 : decode cX12_barred 66 = .ok (.ireturn, 1) := by decide +kernel
theorem dX12_mend_0 : decode cX12_mend 0 = .ok (.aload_n 0, 1) := by decide +kernel
theorem dX12_mend_1 : decode cX12_mend 1 = .ok (.iload_n 1, 1) := by decide +kernel
theorem dX12_mend_2 : decode cX12_mend 2 = .ok (.invokevirtual 253, 3) := by decide +kernel
theorem dX12_mend_5 : decode cX12_mend 5 = .ok (.ifCond .ne 9, 3) := by decide +kernel
theorem dX12_mend_8 : decode cX12_mend 8 = .ok (.aload_n 0, 1) := by decide +kernel
theorem dX12_mend_9 : decode cX12_mend 9 = .ok (.iconst (-1), 1) := by decide +kernel
theorem dX12_mend_10 : decode cX12_mend 10 = .ok (.invokevirtual 263, 3) := by decide +kernel
theorem dX12_mend_13 : decode cX12_mend 13 = .ok (.ireturn, 1) := by decide +kernel
theorem dX12_mend_14 : decode cX12_mend 14 = .ok (.iconst 0, 1) := by decide +kernel
theorem dX12_mend_15 : decode cX12_mend 15 = .ok (.istore_n 2, 1) := by decide +kernel
theorem dX12_mend_16 : decode cX12_mend 16 = .ok (.iconst 0, 1) := by decide +kernel
theorem dX12_mend_17 : decode cX12_mend 17 = .ok (.istore_n 3, 1) := by decide +kernel
theorem dX12_mend_18 : decode cX12_mend 18 = .ok (.iload_n 3, 1) := by decide +kernel
theorem dX12_mend_19 : decode cX12_mend 19 = .ok (.aload_n 0, 1) := by decide +kernel
theorem dX12_mend_20 : decode cX12_mend 20 = .ok (.getfield 91, 3) := by decide +kernel
theorem dX12_mend_23 : decode cX12_mend 23 = .ok (.iload_n 1, 1) := by decide +kernel
theorem dX12_mend_24 : decode cX12_mend 24 = .ok (.iaload, 1) := by decide +kernel
theorem dX12_mend_25 : decode cX12_mend 25 = .ok (.if_icmp .ge 60, 3) := by decide +kernel
theorem dX12_mend_28 : decode cX12_mend 28 = .ok (.iconst 0, 1) := by decide +kernel
theorem dX12_mend_29 : decode cX12_mend 29 = .ok (.istore 4, 2) := by decide +kernel
theorem dX12_mend_31 : decode cX12_mend 31 = .ok (.iload 4, 2) := by decide +kernel
theorem dX12_mend_33 : decode cX12_mend 33 = .ok (.iconst 4, 1) := by decide +kernel
theorem dX12_mend_34 : decode cX12_mend 34 = .ok (.if_icmp .ge 45, 3) := by decide +kernel
theorem dX12_mend_37 : decode cX12_mend 37 = .ok (.aload_n 0, 1) := by decide +kernel
theorem dX12_mend_38 : decode cX12_mend 38 = .ok (.getfield 103, 3) := by decide +kernel
theorem dX12_mend_41 : decode cX12_mend 41 = .ok (.iconst 4, 1) := by decide +kernel
theorem dX12_mend_42 : decode cX12_mend 42 = .ok (.bipush 8, 2) := by decide +kernel
theorem dX12_mend_44 : decode cX12_mend 44 = .ok (.iload_n 1, 1) := by decide +kernel
theorem dX12_mend_45 : decode cX12_mend 45 = .ok (.imul, 1) := by decide +kernel
theorem dX12_mend_46 : decode cX12_mend 46 = .ok (.iload_n 3, 1) := by decide +kernel
theorem dX12_mend_47 : decode cX12_mend 47 = .ok (.iadd, 1) := by decide +kernel
theorem dX12_mend_48 : decode cX12_mend 48 = .ok (.imul, 1) := by decide +kernel
theorem dX12_mend_49 : decode cX12_mend 49 = .ok (.iload 4, 2) := by decide +kernel
theorem dX12_mend_51 : decode cX12_mend 51 = .ok (.iadd, 1) := by decide +kernel
theorem dX12_mend_52 : decode cX12_mend 52 = .ok (.iaload, 1) := by decide +kernel
theorem dX12_mend_53 : decode cX12_mend 53 = .ok (.aload_n 0, 1) := by decide +kernel
theorem dX12_mend_54 : decode cX12_mend 54 = .ok (.getfield 139, 3) := by decide +kernel
theorem dX12_mend_57 : decode cX12_mend 57 = .ok (.iload 4, 2) := by decide +kernel
theorem dX12_mend_59 : decode cX12_mend 59 = .ok (.iaload, 1) := by decide +kernel
theorem dX12_mend_60 : decode cX12_mend 60 = .ok (.isub, 1) := by decide +kernel
theorem dX12_mend_61 : decode cX12_mend 61 = .ok (.istore 5, 2) := by decide +kernel
theorem dX12_mend_63 : decode cX12_mend 63 = .ok (.iload 5, 2) := by decide +kernel
theorem dX12_mend_65 : decode cX12_mend 65 = .ok (.ifCond .le 8, 3) := by decide +kernel
theorem dX12_mend_68 : decode cX12_mend 68 = .ok (.iload_n 2, 1) := by decide +kernel
theorem dX12_mend_69 : decode cX12_mend 69 = .ok (.iload 5, 2) := by decide +kernel
theorem dX12_mend_71 : decode cX12_mend 71 = .ok (.iadd, 1) := by decide +kernel
theorem dX12_mend_72 : decode cX12_mend 72 = .ok (.istore_n 2, 1) := by decide +kernel
theorem dX12_mend_73 : decode cX12_mend 73 = .ok (.iinc 4 1, 3) := by decide +kernel
theorem dX12_mend_76 : decode cX12_mend 76 = .ok (.goto (-45), 3) := by decide +kernel
theorem dX12_mend_79 : decode cX12_mend 79 = .ok (.iinc 3 1, 3) := by decide +kernel
theorem dX12_mend_82 : decode cX12_mend 82 = .ok (.goto (-64), 3) := by decide +kernel
theorem dX12_mend_85 : decode cX12_mend 85 = .ok (.iload_n 2, 1) := by decide +kernel
theorem dX12_mend_86 : decode cX12_mend 86 = .ok (.ireturn, 1) := by decide +kernel
theorem dX12_take_0 : decode cX12_take 0 = .ok (.aload_n 0, 1) := by decide +kernel
theorem dX12_take_1 : decode cX12_take 1 = .ok (.iload_n 1, 1) := by decide +kernel
theorem dX12_take_2 : decode cX12_take 2 = .ok (.iload_n 2, 1) := by decide +kernel
theorem dX12_take_3 : decode cX12_take 3 = .ok (.invokevirtual 312, 3) := by decide +kernel
theorem dX12_take_6 : decode cX12_take 6 = .ok (.ifCond .ne 9, 3) := by decide +kernel
theorem dX12_take_9 : decode cX12_take 9 = .ok (.aload_n 0, 1) := by decide +kernel
theorem dX12_take_10 : decode cX12_take 10 = .ok (.iconst (-1), 1) := by decide +kernel
theorem dX12_take_11 : decode cX12_take 11 = .ok (.invokevirtual 263, 3) := by decide +kernel
theorem dX12_take_14 : decode cX12_take 14 = .ok (.ireturn, 1) := by decide +kernel
theorem dX12_take_15 : decode cX12_take 15 = .ok (.iload_n 3, 1) := by decide +kernel
theorem dX12_take_16 : decode cX12_take 16 = .ok (.iconst 1, 1) := by decide +kernel
theorem dX12_take_17 : decode cX12_take 17 = .ok (.if_icmp .lt 33, 3) := by decide +kernel
theorem dX12_take_20 : decode cX12_take 20 = .ok (.iload_n 3, 1) := by decide +kernel
theorem dX12_take_21 : decode cX12_take 21 = .ok (.bipush 99, 2) := by decide +kernel
theorem dX12_take_23 : decode cX12_take 23 = .ok (.if_icmp .gt 27, 3) := by decide +kernel
theorem dX12_take_26 : decode cX12_take 26 = .ok (.iload 4, 2) := by decide +kernel
theorem dX12_take_28 : decode cX12_take 28 = .ok (.ifCond .lt 22, 3) := by decide +kernel
theorem dX12_take_31 : decode cX12_take 31 = .ok (.iload 4, 2) := by decide +kernel
theorem dX12_take_33 : decode cX12_take 33 = .ok (.bipush 99, 2) := by decide +kernel
theorem dX12_take_35 : decode cX12_take 35 = .ok (.if_icmp .gt 15, 3) := by decide +kernel
theorem dX12_take_38 : decode cX12_take 38 = .ok (.iload 5, 2) := by decide +kernel
theorem dX12_take_40 : decode cX12_take 40 = .ok (.ifCond .lt 10, 3) := by decide +kernel
theorem dX12_take_43 : decode cX12_take 43 = .ok (.iload 5, 2) := by decide +kernel
theorem dX12_take_45 : decode cX12_take 45 = .ok (.bipush 99, 2) := by decide +kernel
theorem dX12_take_47 : decode cX12_take 47 = .ok (.if_icmp .le 10, 3) := by decide +kernel
theorem dX12_take_50 : decode cX12_take 50 = .ok (.aload_n 0, 1) := by decide +kernel
theorem dX12_take_51 : decode cX12_take 51 = .ok (.bipush (-6), 2) := by decide +kernel
theorem dX12_take_53 : decode cX12_take 53 = .ok (.invokevirtual 263, 3) := by decide +kernel
theorem dX12_take_56 : decode cX12_take 56 = .ok (.ireturn, 1) := by decide +kernel
theorem dX12_take_57 : decode cX12_take 57 = .ok (.bipush 8, 2) := by decide +kernel
theorem dX12_take_59 : decode cX12_take 59 = .ok (.iload_n 1, 1) := by decide +kernel
theorem dX12_take_60 : decode cX12_take 60 = .ok (.imul, 1) := by decide +kernel
theorem dX12_take_61 : decode cX12_take 61 = .ok (.iload_n 2, 1) := by decide +kernel
theorem dX12_take_62 : decode cX12_take 62 = .ok (.iadd, 1) := by decide +kernel
theorem dX12_take_63 : decode cX12_take 63 = .ok (.istore 6, 2) := by decide +kernel
theorem dX12_take_65 : decode cX12_take 65 = .ok (.aload_n 0, 1) := by decide +kernel
theorem dX12_take_66 : decode cX12_take 66 = .ok (.getfield 142, 3) := by decide +kernel
theorem dX12_take_69 : decode cX12_take 69 = .ok (.iload 6, 2) := by decide +kernel
theorem dX12_take_71 : decode cX12_take 71 = .ok (.iaload, 1) := by decide +kernel
theorem dX12_take_72 : decode cX12_take 72 = .ok (.iconst 4, 1) := by decide +kernel
theorem dX12_take_73 : decode cX12_take 73 = .ok (.if_icmp .ne 10, 3) := by decide +kernel
theorem dX12_take_76 : decode cX12_take 76 = .ok (.aload_n 0, 1) := by decide +kernel
theorem dX12_take_77 : decode cX12_take 77 = .ok (.bipush (-7), 2) := by decide +kernel
theorem dX12_take_79 : decode cX12_take 79 = .ok (.invokevirtual 263, 3) := by decide +kernel
theorem dX12_take_82 : decode cX12_take 82 = .ok (.ireturn, 1) := by decide +kernel
theorem dX12_take_83 : decode cX12_take 83 = .ok (.aload_n 0, 1) := by decide +kernel
theorem dX12_take_84 : decode cX12_take 84 = .ok (.getfield 145, 3) := by decide +kernel
theorem dX12_take_87 : decode cX12_take 87 = .ok (.iconst 4, 1) := by decide +kernel
theorem dX12_take_88 : decode cX12_take 88 = .ok (.iload 6, 2) := by decide +kernel
theorem dX12_take_90 : decode cX12_take 90 = .ok (.imul, 1) := by decide +kernel
theorem dX12_take_91 : decode cX12_take 91 = .ok (.aload_n 0, 1) := by decide +kernel
theorem dX12_take_92 : decode cX12_take 92 = .ok (.getfield 142, 3) := by decide +kernel
theorem dX12_take_95 : decode cX12_take 95 = .ok (.iload 6, 2) := by decide +kernel
theorem dX12_take_97 : decode cX12_take 97 = .ok (.iaload, 1) := by decide +kernel
theorem dX12_take_98 : decode cX12_take 98 = .ok (.iadd, 1) := by decide +kernel
theorem dX12_take_99 : decode cX12_take 99 = .ok (.iload_n 3, 1) := by decide +kernel
theorem dX12_take_100 : decode cX12_take 100 = .ok (.iastore, 1) := by decide +kernel
theorem dX12_take_101 : decode cX12_take 101 = .ok (.aload_n 0, 1) := by decide +kernel
theorem dX12_take_102 : decode cX12_take 102 = .ok (.getfield 148, 3) := by decide +kernel
theorem dX12_take_105 : decode cX12_take 105 = .ok (.iconst 4, 1) := by decide +kernel
theorem dX12_take_106 : decode cX12_take 106 = .ok (.iload 6, 2) := by decide +kernel
theorem dX12_take_108 : decode cX12_take 108 = .ok (.imul, 1) := by decide +kernel
theorem dX12_take_109 : decode cX12_take 109 = .ok (.aload_n 0, 1) := by decide +kernel
theorem dX12_take_110 : decode cX12_take 110 = .ok (.getfield 142, 3) := by decide +kernel
theorem dX12_take_113 : decode cX12_take 113 = .ok (.iload 6, 2) := by decide +kernel
theorem dX12_take_115 : decode cX12_take 115 = .ok (.iaload, 1) := by decide +kernel
theorem dX12_take_116 : decode cX12_take 116 = .ok (.iadd, 1) := by decide +kernel
theorem dX12_take_117 : decode cX12_take 117 = .ok (.iload 4, 2) := by decide +kernel
theorem dX12_take_119 : decode cX12_take 119 = .ok (.iastore, 1) := by decide +kernel
theorem dX12_take_120 : decode cX12_take 120 = .ok (.aload_n 0, 1) := by decide +kernel
theorem dX12_take_121 : decode cX12_take 121 = .ok (.getfield 151, 3) := by decide +kernel
theorem dX12_take_124 : decode cX12_take 124 = .ok (.iconst 4, 1) := by decide +kernel
theorem dX12_take_125 : decode cX12_take 125 = .ok (.iload 6, 2) := by decide +kernel
theorem dX12_take_127 : decode cX12_take 127 = .ok (.imul, 1) := by decide +kernel
theorem dX12_take_128 : decode cX12_take 128 = .ok (.aload_n 0, 1) := by decide +kernel
theorem dX12_take_129 : decode cX12_take 129 = .ok (.getfield 142, 3) := by decide +kernel
theorem dX12_take_132 : decode cX12_take 132 = .ok (.iload 6, 2) := by decide +kernel
theorem dX12_take_134 : decode cX12_take 134 = .ok (.iaload, 1) := by decide +kernel
theorem dX12_take_135 : decode cX12_take 135 = .ok (.iadd, 1) := by decide +kernel
theorem dX12_take_136 : decode cX12_take 136 = .ok (.iload 5, 2) := by decide +kernel
theorem dX12_take_138 : decode cX12_take 138 = .ok (.iastore, 1) := by decide +kernel
theorem dX12_take_139 : decode cX12_take 139 = .ok (.aload_n 0, 1) := by decide +kernel
theorem dX12_take_140 : decode cX12_take 140 = .ok (.getfield 142, 3) := by decide +kernel
theorem dX12_take_143 : decode cX12_take 143 = .ok (.iload 6, 2) := by decide +kernel
theorem dX12_take_145 : decode cX12_take 145 = .ok (.dup2, 1) := by decide +kernel
theorem dX12_take_146 : decode cX12_take 146 = .ok (.iaload, 1) := by decide +kernel
theorem dX12_take_147 : decode cX12_take 147 = .ok (.dup_x2, 1) := by decide +kernel
theorem dX12_take_148 : decode cX12_take 148 = .ok (.iconst 1, 1) := by decide +kernel
theorem dX12_take_149 : decode cX12_take 149 = .ok (.iadd, 1) := by decide +kernel
theorem dX12_take_150 : decode cX12_take 150 = .ok (.iastore, 1) := by decide +kernel
theorem dX12_take_151 : decode cX12_take 151 = .ok (.ireturn, 1) := by decide +kernel
theorem dX12_reel_0 : decode cX12_reel 0 = .ok (.aload_n 0, 1) := by decide +kernel
theorem dX12_reel_1 : decode cX12_reel 1 = .ok (.iload_n 1, 1) := by decide +kernel
theorem dX12_reel_2 : decode cX12_reel 2 = .ok (.invokevirtual 253, 3) := by decide +kernel
theorem dX12_reel_5 : decode cX12_reel 5 = .ok (.ifCond .ne 9, 3) := by decide +kernel
theorem dX12_reel_8 : decode cX12_reel 8 = .ok (.aload_n 0, 1) := by decide +kernel
theorem dX12_reel_9 : decode cX12_reel 9 = .ok (.iconst (-1), 1) := by decide +kernel
theorem dX12_reel_10 : decode cX12_reel 10 = .ok (.invokevirtual 263, 3) := by decide +kernel
theorem dX12_reel_13 : decode cX12_reel 13 = .ok (.ireturn, 1) := by decide +kernel
theorem dX12_reel_14 : decode cX12_reel 14 = .ok (.iload_n 2, 1) := by decide +kernel
theorem dX12_reel_15 : decode cX12_reel 15 = .ok (.ifCond .lt 10, 3) := by decide +kernel
theorem dX12_reel_18 : decode cX12_reel 18 = .ok (.iload_n 2, 1) := by decide +kernel
theorem dX12_reel_19 : decode cX12_reel 19 = .ok (.sipush 400, 3) := by decide +kernel
theorem dX12_reel_22 : decode cX12_reel 22 = .ok (.if_icmp .le 10, 3) := by decide +kernel
theorem dX12_reel_25 : decode cX12_reel 25 = .ok (.aload_n 0, 1) := by decide +kernel
theorem dX12_reel_26 : decode cX12_reel 26 = .ok (.bipush (-6), 2) := by decide +kernel
theorem dX12_reel_28 : decode cX12_reel 28 = .ok (.invokevirtual 263, 3) := by decide +kernel
theorem dX12_reel_31 : decode cX12_reel 31 = .ok (.ireturn, 1) := by decide +kernel
theorem dX12_reel_32 : decode cX12_reel 32 = .ok (.aload_n 0, 1) := by decide +kernel
theorem dX12_reel_33 : decode cX12_reel 33 = .ok (.getfield 91, 3) := by decide +kernel
theorem dX12_reel_36 : decode cX12_reel 36 = .ok (.iload_n 1, 1) := by decide +kernel
theorem dX12_reel_37 : decode cX12_reel 37 = .ok (.iaload, 1) := by decide +kernel
theorem dX12_reel_38 : decode cX12_reel 38 = .ok (.istore_n 3, 1) := by decide +kernel
theorem dX12_reel_39 : decode cX12_reel 39 = .ok (.aload_n 0, 1) := by decide +kernel
theorem dX12_reel_40 : decode cX12_reel 40 = .ok (.getfield 229, 3) := by decide +kernel
theorem dX12_reel_43 : decode cX12_reel 43 = .ok (.iload_n 3, 1) := by decide +kernel
theorem dX12_reel_44 : decode cX12_reel 44 = .ok (.iconst 0, 1) := by decide +kernel
theorem dX12_reel_45 : decode cX12_reel 45 = .ok (.iastore, 1) := by decide +kernel
theorem dX12_reel_46 : decode cX12_reel 46 = .ok (.iload_n 3, 1) := by decide +kernel
theorem dX12_reel_47 : decode cX12_reel 47 = .ok (.iconst 1, 1) := by decide +kernel
theorem dX12_reel_48 : decode cX12_reel 48 = .ok (.isub, 1) := by decide +kernel
theorem dX12_reel_49 : decode cX12_reel 49 = .ok (.istore 4, 2) := by decide +kernel
theorem dX12_reel_51 : decode cX12_reel 51 = .ok (.iload 4, 2) := by decide +kernel
theorem dX12_reel_53 : decode cX12_reel 53 = .ok (.ifCond .lt 98, 3) := by decide +kernel
theorem dX12_reel_56 : decode cX12_reel 56 = .ok (.iconst 0, 1) := by decide +kernel
theorem dX12_reel_57 : decode cX12_reel 57 = .ok (.istore 5, 2) := by decide +kernel
theorem dX12_reel_59 : decode cX12_reel 59 = .ok (.iconst 0, 1) := by decide +kernel
theorem dX12_reel_60 : decode cX12_reel 60 = .ok (.istore 6, 2) := by decide +kernel
theorem dX12_reel_62 : decode cX12_reel 62 = .ok (.iload 6, 2) := by decide +kernel
theorem dX12_reel_64 : decode cX12_reel 64 = .ok (.aload_n 0, 1) := by decide +kernel
theorem dX12_reel_65 : decode cX12_reel 65 = .ok (.getfield 142, 3) := by decide +kernel
theorem dX12_reel_68 : decode cX12_reel 68 = .ok (.bipush 8, 2) := by decide +kernel
theorem dX12_reel_70 : decode cX12_reel 70 = .ok (.iload_n 1, 1) := by decide +kernel
theorem dX12_reel_71 : decode cX12_reel 71 = .ok (.imul, 1) := by decide +kernel
theorem dX12_reel_72 : decode cX12_reel 72 = .ok (.iload 4, 2) := by decide +kernel
theorem dX12_reel_74 : decode cX12_reel 74 = .ok (.iadd, 1) := by decide +kernel
theorem dX12_reel_75 : decode cX12_reel 75 = .ok (.iaload, 1) := by decide +kernel
theorem dX12_reel_76 : decode cX12_reel 76 = .ok (.if_icmp .ge 50, 3) := by decide +kernel
theorem dX12_reel_79 : decode cX12_reel 79 = .ok (.aload_n 0, 1) := by decide +kernel
theorem dX12_reel_80 : decode cX12_reel 80 = .ok (.getfield 148, 3) := by decide +kernel
theorem dX12_reel_83 : decode cX12_reel 83 = .ok (.iconst 4, 1) := by decide +kernel
theorem dX12_reel_84 : decode cX12_reel 84 = .ok (.bipush 8, 2) := by decide +kernel
theorem dX12_reel_86 : decode cX12_reel 86 = .ok (.iload_n 1, 1) := by decide +kernel
theorem dX12_reel_87 : decode cX12_reel 87 = .ok (.imul, 1) := by decide +kernel
theorem dX12_reel_88 : decode cX12_reel 88 = .ok (.iload 4, 2) := by decide +kernel
theorem dX12_reel_90 : decode cX12_reel 90 = .ok (.iadd, 1) := by decide +kernel
theorem dX12_reel_91 : decode cX12_reel 91 = .ok (.imul, 1) := by decide +kernel
theorem dX12_reel_92 : decode cX12_reel 92 = .ok (.iload 6, 2) := by decide +kernel
theorem dX12_reel_94 : decode cX12_reel 94 = .ok (.iadd, 1) := by decide +kernel
theorem dX12_reel_95 : decode cX12_reel 95 = .ok (.iaload, 1) := by decide +kernel
theorem dX12_reel_96 : decode cX12_reel 96 = .ok (.iload 5, 2) := by decide +kernel
theorem dX12_reel_98 : decode cX12_reel 98 = .ok (.if_icmp .le 22, 3) := by decide +kernel
theorem dX12_reel_101 : decode cX12_reel 101 = .ok (.aload_n 0, 1) := by decide +kernel
theorem dX12_reel_102 : decode cX12_reel 102 = .ok (.getfield 148, 3) := by decide +kernel
theorem dX12_reel_105 : decode cX12_reel 105 = .ok (.iconst 4, 1) := by decide +kernel
theorem dX12_reel_106 : decode cX12_reel 106 = .ok (.bipush 8, 2) := by decide +kernel
theorem dX12_reel_108 : decode cX12_reel 108 = .ok (.iload_n 1, 1) := by decide +kernel
theorem dX12_reel_109 : decode cX12_reel 109 = .ok (.imul, 1) := by decide +kernel
theorem dX12_reel_110 : decode cX12_reel 110 = .ok (.iload 4, 2) := by decide +kernel
theorem dX12_reel_112 : decode cX12_reel 112 = .ok (.iadd, 1) := by decide +kernel
theorem dX12_reel_113 : decode cX12_reel 113 = .ok (.imul, 1) := by decide +kernel
theorem dX12_reel_114 : decode cX12_reel 114 = .ok (.iload 6, 2) := by decide +kernel
theorem dX12_reel_116 : decode cX12_reel 116 = .ok (.iadd, 1) := by decide +kernel
theorem dX12_reel_117 : decode cX12_reel 117 = .ok (.iaload, 1) := by decide +kernel
theorem dX12_reel_118 : decode cX12_reel 118 = .ok (.istore 5, 2) := by decide +kernel
theorem dX12_reel_120 : decode cX12_reel 120 = .ok (.iinc 6 1, 3) := by decide +kernel
theorem dX12_reel_123 : decode cX12_reel 123 = .ok (.goto (-61), 3) := by decide +kernel
theorem dX12_reel_126 : decode cX12_reel 126 = .ok (.aload_n 0, 1) := by decide +kernel
theorem dX12_reel_127 : decode cX12_reel 127 = .ok (.getfield 229, 3) := by decide +kernel
theorem dX12_reel_130 : decode cX12_reel 130 = .ok (.iload 4, 2) := by decide +kernel
theorem dX12_reel_132 : decode cX12_reel 132 = .ok (.aload_n 0, 1) := by decide +kernel
theorem dX12_reel_133 : decode cX12_reel 133 = .ok (.getfield 229, 3) := by decide +kernel
theorem dX12_reel_136 : decode cX12_reel 136 = .ok (.iload 4, 2) := by decide +kernel
theorem dX12_reel_138 : decode cX12_reel 138 = .ok (.iconst 1, 1) := by decide +kernel
theorem dX12_reel_139 : decode cX12_reel 139 = .ok (.iadd, 1) := by decide +kernel
theorem dX12_reel_140 : decode cX12_reel 140 = .ok (.iaload, 1) := by decide +kernel
theorem dX12_reel_141 : decode cX12_reel 141 = .ok (.iload 5, 2) := by decide +kernel
theorem dX12_reel_143 : decode cX12_reel 143 = .ok (.iadd, 1) := by decide +kernel
theorem dX12_reel_144 : decode cX12_reel 144 = .ok (.iastore, 1) := by decide +kernel
theorem dX12_reel_145 : decode cX12_reel 145 = .ok (.iinc 4 (-1), 3) := by decide +kernel
theorem dX12_reel_148 : decode cX12_reel 148 = .ok (.goto (-97), 3) := by decide +kernel
theorem dX12_reel_151 : decode cX12_reel 151 = .ok (.iconst (-1), 1) := by decide +kernel
theorem dX12_reel_152 : decode cX12_reel 152 = .ok (.istore 4, 2) := by decide +kernel
theorem dX12_reel_154 : decode cX12_reel 154 = .ok (.iconst 0, 1) := by decide +kernel
theorem dX12_reel_155 : decode cX12_reel 155 = .ok (.istore 5, 2) := by decide +kernel
theorem dX12_reel_157 : decode cX12_reel 157 = .ok (.iconst 0, 1) := by decide +kernel
theorem dX12_reel_158 : decode cX12_reel 158 = .ok (.istore 6, 2) := by decide +kernel
theorem dX12_reel_160 : decode cX12_reel 160 = .ok (.aload_n 0, 1) := by decide +kernel
theorem dX12_reel_161 : decode cX12_reel 161 = .ok (.getfield 220, 3) := by decide +kernel
theorem dX12_reel_164 : decode cX12_reel 164 = .ok (.iconst 0, 1) := by decide +kernel
theorem dX12_reel_165 : decode cX12_reel 165 = .ok (.iconst 0, 1) := by decide +kernel
theorem dX12_reel_166 : decode cX12_reel 166 = .ok (.iastore, 1) := by decide +kernel
theorem dX12_reel_167 : decode cX12_reel 167 = .ok (.aload_n 0, 1) := by decide +kernel
theorem dX12_reel_168 : decode cX12_reel 168 = .ok (.getfield 223, 3) := by decide +kernel
theorem dX12_reel_171 : decode cX12_reel 171 = .ok (.iconst 0, 1) := by decide +kernel
theorem dX12_reel_172 : decode cX12_reel 172 = .ok (.iconst 0, 1) := by decide +kernel
theorem dX12_reel_173 : decode cX12_reel 173 = .ok (.iastore, 1) := by decide +kernel
theorem dX12_reel_174 : decode cX12_reel 174 = .ok (.aload_n 0, 1) := by decide +kernel
theorem dX12_reel_175 : decode cX12_reel 175 = .ok (.getfield 226, 3) := by decide +kernel
theorem dX12_reel_178 : decode cX12_reel 178 = .ok (.iconst 0, 1) := by decide +kernel
theorem dX12_reel_179 : decode cX12_reel 179 = .ok (.iconst (-1), 1) := by decide +kernel
theorem dX12_reel_180 : decode cX12_reel 180 = .ok (.iastore, 1) := by decide +kernel
theorem dX12_reel_181 : decode cX12_reel 181 = .ok (.aload_n 0, 1) := by decide +kernel
theorem dX12_reel_182 : decode cX12_reel 182 = .ok (.getfield 217, 3) := by decide +kernel
theorem dX12_reel_185 : decode cX12_reel 185 = .ok (.iconst 0, 1) := by decide +kernel
theorem dX12_reel_186 : decode cX12_reel 186 = .ok (.iconst (-1), 1) := by decide +kernel
theorem dX12_reel_187 : decode cX12_reel 187 = .ok (.iastore, 1) := by decide +kernel
theorem dX12_reel_188 : decode cX12_reel 188 = .ok (.iload 6, 2) := by decide +kernel
theorem dX12_reel_190 : decode cX12_reel 190 = .ok (.ifCond .lt 417, 3) := by decide +kernel
theorem dX12_reel_193 : decode cX12_reel 193 = .ok (.iload 6, 2) := by decide +kernel
theorem dX12_reel_195 : decode cX12_reel 195 = .ok (.iload_n 3, 1) := by decide +kernel
theorem dX12_reel_196 : decode cX12_reel 196 = .ok (.if_icmp .ne 118, 3) := by decide +kernel
theorem dX12_reel_199 : decode cX12_reel 199 = .ok (.aload_n 0, 1) := by decide +kernel
theorem dX12_reel_200 : decode cX12_reel 200 = .ok (.getfield 223, 3) := by decide +kernel
theorem dX12_reel_203 : decode cX12_reel 203 = .ok (.iload_n 3, 1) := by decide +kernel
theorem dX12_reel_204 : decode cX12_reel 204 = .ok (.iaload, 1) := by decide +kernel
theorem dX12_reel_205 : decode cX12_reel 205 = .ok (.iload 4, 2) := by decide +kernel
theorem dX12_reel_207 : decode cX12_reel 207 = .ok (.if_icmp .gt 25, 3) := by decide +kernel
theorem dX12_reel_210 : decode cX12_reel 210 = .ok (.aload_n 0, 1) := by decide +kernel
theorem dX12_reel_211 : decode cX12_reel 211 = .ok (.getfield 223, 3) := by decide +kernel
theorem dX12_reel_214 : decode cX12_reel 214 = .ok (.iload_n 3, 1) := by decide +kernel
theorem dX12_reel_215 : decode cX12_reel 215 = .ok (.iaload, 1) := by decide +kernel
theorem dX12_reel_216 : decode cX12_reel 216 = .ok (.iload 4, 2) := by decide +kernel
theorem dX12_reel_218 : decode cX12_reel 218 = .ok (.if_icmp .ne 90, 3) := by decide +kernel
theorem dX12_reel_221 : decode cX12_reel 221 = .ok (.aload_n 0, 1) := by decide +kernel
theorem dX12_reel_222 : decode cX12_reel 222 = .ok (.getfield 220, 3) := by decide +kernel
theorem dX12_reel_225 : decode cX12_reel 225 = .ok (.iload_n 3, 1) := by decide +kernel
theorem dX12_reel_226 : decode cX12_reel 226 = .ok (.iaload, 1) := by decide +kernel
theorem dX12_reel_227 : decode cX12_reel 227 = .ok (.iload 5, 2) := by decide +kernel
theorem dX12_reel_229 : decode cX12_reel 229 = .ok (.if_icmp .ge 79, 3) := by decide +kernel
theorem dX12_reel_232 : decode cX12_reel 232 = .ok (.aload_n 0, 1) := by decide +kernel
theorem dX12_reel_233 : decode cX12_reel 233 = .ok (.getfield 223, 3) := by decide +kernel
theorem dX12_reel_236 : decode cX12_reel 236 = .ok (.iload_n 3, 1) := by decide +kernel
theorem dX12_reel_237 : decode cX12_reel 237 = .ok (.iaload, 1) := by decide +kernel
theorem dX12_reel_238 : decode cX12_reel 238 = .ok (.istore 4, 2) := by decide +kernel
theorem dX12_reel_240 : decode cX12_reel 240 = .ok (.aload_n 0, 1) := by decide +kernel
theorem dX12_reel_241 : decode cX12_reel 241 = .ok (.getfield 220, 3) := by decide +kernel
theorem dX12_reel_244 : decode cX12_reel 244 = .ok (.iload_n 3, 1) := by decide +kernel
theorem dX12_reel_245 : decode cX12_reel 245 = .ok (.iaload, 1) := by decide +kernel
theorem dX12_reel_246 : decode cX12_reel 246 = .ok (.istore 5, 2) := by decide +kernel
theorem dX12_reel_248 : decode cX12_reel 248 = .ok (.iconst 0, 1) := by decide +kernel
theorem dX12_reel_249 : decode cX12_reel 249 = .ok (.istore 7, 2) := by decide +kernel
theorem dX12_reel_251 : decode cX12_reel 251 = .ok (.iload 7, 2) := by decide +kernel
theorem dX12_reel_253 : decode cX12_reel 253 = .ok (.iload_n 3, 1) := by decide +kernel
theorem dX12_reel_254 : decode cX12_reel 254 = .ok (.if_icmp .ge 54, 3) := by decide +kernel
theorem dX12_reel_257 : decode cX12_reel 257 = .ok (.aload_n 0, 1) := by decide +kernel
theorem dX12_reel_258 : decode cX12_reel 258 = .ok (.getfield 154, 3) := by decide +kernel
theorem dX12_reel_261 : decode cX12_reel 261 = .ok (.bipush 8, 2) := by decide +kernel
theorem dX12_reel_263 : decode cX12_reel 263 = .ok (.iload_n 1, 1) := by decide +kernel
theorem dX12_reel_264 : decode cX12_reel 264 = .ok (.imul, 1) := by decide +kernel
theorem dX12_reel_265 : decode cX12_reel 265 = .ok (.iload 7, 2) := by decide +kernel
theorem dX12_reel_267 : decode cX12_reel 267 = .ok (.iadd, 1) := by decide +kernel
theorem dX12_reel_268 : decode cX12_reel 268 = .ok (.aload_n 0, 1) := by decide +kernel
theorem dX12_reel_269 : decode cX12_reel 269 = .ok (.getfield 217, 3) := by decide +kernel
theorem dX12_reel_272 : decode cX12_reel 272 = .ok (.iload 7, 2) := by decide +kernel
theorem dX12_reel_274 : decode cX12_reel 274 = .ok (.iaload, 1) := by decide +kernel
theorem dX12_reel_275 : decode cX12_reel 275 = .ok (.aload_n 0, 1) := by decide +kernel
theorem dX12_reel_276 : decode cX12_reel 276 = .ok (.getfield 142, 3) := by decide +kernel
theorem dX12_reel_279 : decode cX12_reel 279 = .ok (.bipush 8, 2) := by decide +kernel
theorem dX12_reel_281 : decode cX12_reel 281 = .ok (.iload_n 1, 1) := by decide +kernel
theorem dX12_reel_282 : decode cX12_reel 282 = .ok (.imul, 1) := by decide +kernel
theorem dX12_reel_283 : decode cX12_reel 283 = .ok (.iload 7, 2) := by decide +kernel
theorem dX12_reel_285 : decode cX12_reel 285 = .ok (.iadd, 1) := by decide +kernel
theorem dX12_reel_286 : decode cX12_reel 286 = .ok (.iaload, 1) := by decide +kernel
theorem dX12_reel_287 : decode cX12_reel 287 = .ok (.if_icmp .ge 13, 3) := by decide +kernel
theorem dX12_reel_290 : decode cX12_reel 290 = .ok (.aload_n 0, 1) := by decide +kernel
theorem dX12_reel_291 : decode cX12_reel 291 = .ok (.getfield 217, 3) := by decide +kernel
theorem dX12_reel_294 : decode cX12_reel 294 = .ok (.iload 7, 2) := by decide +kernel
theorem dX12_reel_296 : decode cX12_reel 296 = .ok (.iaload, 1) := by decide +kernel
theorem dX12_reel_297 : decode cX12_reel 297 = .ok (.goto 4, 3) := by decide +kernel
theorem dX12_reel_300 : decode cX12_reel 300 = .ok (.iconst (-1), 1) := by decide +kernel
theorem dX12_reel_301 : decode cX12_reel 301 = .ok (.iastore, 1) := by decide +kernel
theorem dX12_reel_302 : decode cX12_reel 302 = .ok (.iinc 7 1, 3) := by decide +kernel
theorem dX12_reel_305 : decode cX12_reel 305 = .ok (.goto (-54), 3) := by decide +kernel
theorem dX12_reel_308 : decode cX12_reel 308 = .ok (.iinc 6 (-1), 3) := by decide +kernel
theorem dX12_reel_311 : decode cX12_reel 311 = .ok (.goto (-123), 3) := by decide +kernel
theorem dX12_reel_314 : decode cX12_reel 314 = .ok (.bipush 8, 2) := by decide +kernel
theorem dX12_reel_316 : decode cX12_reel 316 = .ok (.iload_n 1, 1) := by decide +kernel
theorem dX12_reel_317 : decode cX12_reel 317 = .ok (.imul, 1) := by decide +kernel
theorem dX12_reel_318 : decode cX12_reel 318 = .ok (.iload 6, 2) := by decide +kernel
theorem dX12_reel_320 : decode cX12_reel 320 = .ok (.iadd, 1) := by decide +kernel
theorem dX12_reel_321 : decode cX12_reel 321 = .ok (.istore 7, 2) := by decide +kernel
theorem dX12_reel_323 : decode cX12_reel 323 = .ok (.aload_n 0, 1) := by decide +kernel
theorem dX12_reel_324 : decode cX12_reel 324 = .ok (.getfield 217, 3) := by decide +kernel
theorem dX12_reel_327 : decode cX12_reel 327 = .ok (.iload 6, 2) := by decide +kernel
theorem dX12_reel_329 : decode cX12_reel 329 = .ok (.iaload, 1) := by decide +kernel
theorem dX12_reel_330 : decode cX12_reel 330 = .ok (.iconst 1, 1) := by decide +kernel
theorem dX12_reel_331 : decode cX12_reel 331 = .ok (.iadd, 1) := by decide +kernel
theorem dX12_reel_332 : decode cX12_reel 332 = .ok (.istore 8, 2) := by decide +kernel
theorem dX12_reel_334 : decode cX12_reel 334 = .ok (.iconst 0, 1) := by decide +kernel
theorem dX12_reel_335 : decode cX12_reel 335 = .ok (.istore 9, 2) := by decide +kernel
theorem dX12_reel_337 : decode cX12_reel 337 = .ok (.iload 8, 2) := by decide +kernel
theorem dX12_reel_339 : decode cX12_reel 339 = .ok (.aload_n 0, 1) := by decide +kernel
theorem dX12_reel_340 : decode cX12_reel 340 = .ok (.getfield 142, 3) := by decide +kernel
theorem dX12_reel_343 : decode cX12_reel 343 = .ok (.iload 7, 2) := by decide +kernel
theorem dX12_reel_345 : decode cX12_reel 345 = .ok (.iaload, 1) := by decide +kernel
theorem dX12_reel_346 : decode cX12_reel 346 = .ok (.if_icmp .gt 227, 3) := by decide +kernel
theorem dX12_reel_349 : decode cX12_reel 349 = .ok (.iload 9, 2) := by decide +kernel
theorem dX12_reel_351 : decode cX12_reel 351 = .ok (.ifCond .ne 222, 3) := by decide +kernel
theorem dX12_reel_354 : decode cX12_reel 354 = .ok (.iconst 4, 1) := by decide +kernel
theorem dX12_reel_355 : decode cX12_reel 355 = .ok (.iload 7, 2) := by decide +kernel
theorem dX12_reel_357 : decode cX12_reel 357 = .ok (.imul, 1) := by decide +kernel
theorem dX12_reel_358 : decode cX12_reel 358 = .ok (.iload 8, 2) := by decide +kernel
theorem dX12_reel_360 : decode cX12_reel 360 = .ok (.iadd, 1) := by decide +kernel
theorem dX12_reel_361 : decode cX12_reel 361 = .ok (.istore 10, 2) := by decide +kernel
theorem dX12_reel_363 : decode cX12_reel 363 = .ok (.iload 8, 2) := by decide +kernel
theorem dX12_reel_365 : decode cX12_reel 365 = .ok (.aload_n 0, 1) := by decide +kernel
theorem dX12_reel_366 : decode cX12_reel 366 = .ok (.getfield 142, 3) := by decide +kernel
theorem dX12_reel_369 : decode cX12_reel 369 = .ok (.iload 7, 2) := by decide +kernel
theorem dX12_reel_371 : decode cX12_reel 371 = .ok (.iaload, 1) := by decide +kernel
theorem dX12_reel_372 : decode cX12_reel 372 = .ok (.if_icmp .ge 7, 3) := by decide +kernel
theorem dX12_reel_375 : decode cX12_reel 375 = .ok (.iconst 1, 1) := by decide +kernel
theorem dX12_reel_376 : decode cX12_reel 376 = .ok (.goto 4, 3) := by decide +kernel
theorem dX12_reel_379 : decode cX12_reel 379 = .ok (.iconst 0, 1) := by decide +kernel
theorem dX12_reel_380 : decode cX12_reel 380 = .ok (.istore 11, 2) := by decide +kernel
theorem dX12_reel_382 : decode cX12_reel 382 = .ok (.aload_n 0, 1) := by decide +kernel
theorem dX12_reel_383 : decode cX12_reel 383 = .ok (.getfield 220, 3) := by decide +kernel
theorem dX12_reel_386 : decode cX12_reel 386 = .ok (.iload 6, 2) := by decide +kernel
theorem dX12_reel_388 : decode cX12_reel 388 = .ok (.iconst 1, 1) := by decide +kernel
theorem dX12_reel_389 : decode cX12_reel 389 = .ok (.iadd, 1) := by decide +kernel
theorem dX12_reel_390 : decode cX12_reel 390 = .ok (.aload_n 0, 1) := by decide +kernel
theorem dX12_reel_391 : decode cX12_reel 391 = .ok (.getfield 220, 3) := by decide +kernel
theorem dX12_reel_394 : decode cX12_reel 394 = .ok (.iload 6, 2) := by decide +kernel
theorem dX12_reel_396 : decode cX12_reel 396 = .ok (.iaload, 1) := by decide +kernel
theorem dX12_reel_397 : decode cX12_reel 397 = .ok (.iload 11, 2) := by decide +kernel
theorem dX12_reel_399 : decode cX12_reel 399 = .ok (.ifCond .eq 13, 3) := by decide +kernel
theorem dX12_reel_402 : decode cX12_reel 402 = .ok (.aload_n 0, 1) := by decide +kernel
theorem dX12_reel_403 : decode cX12_reel 403 = .ok (.getfield 145, 3) := by decide +kernel
theorem dX12_reel_406 : decode cX12_reel 406 = .ok (.iload 10, 2) := by decide +kernel
theorem dX12_reel_408 : decode cX12_reel 408 = .ok (.iaload, 1) := by decide +kernel
theorem dX12_reel_409 : decode cX12_reel 409 = .ok (.goto 4, 3) := by decide +kernel
theorem dX12_reel_412 : decode cX12_reel 412 = .ok (.iconst 0, 1) := by decide +kernel
theorem dX12_reel_413 : decode cX12_reel 413 = .ok (.iadd, 1) := by decide +kernel
theorem dX12_reel_414 : decode cX12_reel 414 = .ok (.iastore, 1) := by decide +kernel
theorem dX12_reel_415 : decode cX12_reel 415 = .ok (.aload_n 0, 1) := by decide +kernel
theorem dX12_reel_416 : decode cX12_reel 416 = .ok (.getfield 223, 3) := by decide +kernel
theorem dX12_reel_419 : decode cX12_reel 419 = .ok (.iload 6, 2) := by decide +kernel
theorem dX12_reel_421 : decode cX12_reel 421 = .ok (.iconst 1, 1) := by decide +kernel
theorem dX12_reel_422 : decode cX12_reel 422 = .ok (.iadd, 1) := by decide +kernel
theorem dX12_reel_423 : decode cX12_reel 423 = .ok (.aload_n 0, 1) := by decide +kernel
theorem dX12_reel_424 : decode cX12_reel 424 = .ok (.getfield 223, 3) := by decide +kernel
theorem dX12_reel_427 : decode cX12_reel 427 = .ok (.iload 6, 2) := by decide +kernel
theorem dX12_reel_429 : decode cX12_reel 429 = .ok (.iaload, 1) := by decide +kernel
theorem dX12_reel_430 : decode cX12_reel 430 = .ok (.iload 11, 2) := by decide +kernel
theorem dX12_reel_432 : decode cX12_reel 432 = .ok (.ifCond .eq 13, 3) := by decide +kernel
theorem dX12_reel_435 : decode cX12_reel 435 = .ok (.aload_n 0, 1) := by decide +kernel
theorem dX12_reel_436 : decode cX12_reel 436 = .ok (.getfield 148, 3) := by decide +kernel
theorem dX12_reel_439 : decode cX12_reel 439 = .ok (.iload 10, 2) := by decide +kernel
theorem dX12_reel_441 : decode cX12_reel 441 = .ok (.iaload, 1) := by decide +kernel
theorem dX12_reel_442 : decode cX12_reel 442 = .ok (.goto 4, 3) := by decide +kernel
theorem dX12_reel_445 : decode cX12_reel 445 = .ok (.iconst 0, 1) := by decide +kernel
theorem dX12_reel_446 : decode cX12_reel 446 = .ok (.iadd, 1) := by decide +kernel
theorem dX12_reel_447 : decode cX12_reel 447 = .ok (.iastore, 1) := by decide +kernel
theorem dX12_reel_448 : decode cX12_reel 448 = .ok (.aload_n 0, 1) := by decide +kernel
theorem dX12_reel_449 : decode cX12_reel 449 = .ok (.getfield 226, 3) := by decide +kernel
theorem dX12_reel_452 : decode cX12_reel 452 = .ok (.iload 6, 2) := by decide +kernel
theorem dX12_reel_454 : decode cX12_reel 454 = .ok (.iconst 1, 1) := by decide +kernel
theorem dX12_reel_455 : decode cX12_reel 455 = .ok (.iadd, 1) := by decide +kernel
theorem dX12_reel_456 : decode cX12_reel 456 = .ok (.iload 11, 2) := by decide +kernel
theorem dX12_reel_458 : decode cX12_reel 458 = .ok (.ifCond .eq 16, 3) := by decide +kernel
theorem dX12_reel_461 : decode cX12_reel 461 = .ok (.aload_n 0, 1) := by decide +kernel
theorem dX12_reel_462 : decode cX12_reel 462 = .ok (.getfield 151, 3) := by decide +kernel
theorem dX12_reel_465 : decode cX12_reel 465 = .ok (.iload 10, 2) := by decide +kernel
theorem dX12_reel_467 : decode cX12_reel 467 = .ok (.iaload, 1) := by decide +kernel
theorem dX12_reel_468 : decode cX12_reel 468 = .ok (.bipush 10, 2) := by decide +kernel
theorem dX12_reel_470 : decode cX12_reel 470 = .ok (.irem, 1) := by decide +kernel
theorem dX12_reel_471 : decode cX12_reel 471 = .ok (.goto 10, 3) := by decide +kernel
theorem dX12_reel_474 : decode cX12_reel 474 = .ok (.aload_n 0, 1) := by decide +kernel
theorem dX12_reel_475 : decode cX12_reel 475 = .ok (.getfield 226, 3) := by decide +kernel
theorem dX12_reel_478 : decode cX12_reel 478 = .ok (.iload 6, 2) := by decide +kernel
theorem dX12_reel_480 : decode cX12_reel 480 = .ok (.iaload, 1) := by decide +kernel
theorem dX12_reel_481 : decode cX12_reel 481 = .ok (.iastore, 1) := by decide +kernel
theorem dX12_reel_482 : decode cX12_reel 482 = .ok (.aload_n 0, 1) := by decide +kernel
theorem dX12_reel_483 : decode cX12_reel 483 = .ok (.getfield 220, 3) := by decide +kernel
theorem dX12_reel_486 : decode cX12_reel 486 = .ok (.iload 6, 2) := by decide +kernel
theorem dX12_reel_488 : decode cX12_reel 488 = .ok (.iconst 1, 1) := by decide +kernel
theorem dX12_reel_489 : decode cX12_reel 489 = .ok (.iadd, 1) := by decide +kernel
theorem dX12_reel_490 : decode cX12_reel 490 = .ok (.iaload, 1) := by decide +kernel
theorem dX12_reel_491 : decode cX12_reel 491 = .ok (.iload_n 2, 1) := by decide +kernel
theorem dX12_reel_492 : decode cX12_reel 492 = .ok (.if_icmp .gt 67, 3) := by decide +kernel
theorem dX12_reel_495 : decode cX12_reel 495 = .ok (.aload_n 0, 1) := by decide +kernel
theorem dX12_reel_496 : decode cX12_reel 496 = .ok (.getfield 223, 3) := by decide +kernel
theorem dX12_reel_499 : decode cX12_reel 499 = .ok (.iload 6, 2) := by decide +kernel
theorem dX12_reel_501 : decode cX12_reel 501 = .ok (.iconst 1, 1) := by decide +kernel
theorem dX12_reel_502 : decode cX12_reel 502 = .ok (.iadd, 1) := by decide +kernel
theorem dX12_reel_503 : decode cX12_reel 503 = .ok (.iaload, 1) := by decide +kernel
theorem dX12_reel_504 : decode cX12_reel 504 = .ok (.aload_n 0, 1) := by decide +kernel
theorem dX12_reel_505 : decode cX12_reel 505 = .ok (.getfield 229, 3) := by decide +kernel
theorem dX12_reel_508 : decode cX12_reel 508 = .ok (.iload 6, 2) := by decide +kernel
theorem dX12_reel_510 : decode cX12_reel 510 = .ok (.iconst 1, 1) := by decide +kernel
theorem dX12_reel_511 : decode cX12_reel 511 = .ok (.iadd, 1) := by decide +kernel
theorem dX12_reel_512 : decode cX12_reel 512 = .ok (.iaload, 1) := by decide +kernel
theorem dX12_reel_513 : decode cX12_reel 513 = .ok (.iadd, 1) := by decide +kernel
theorem dX12_reel_514 : decode cX12_reel 514 = .ok (.iload 4, 2) := by decide +kernel
theorem dX12_reel_516 : decode cX12_reel 516 = .ok (.if_icmp .lt 43, 3) := by decide +kernel
theorem dX12_reel_519 : decode cX12_reel 519 = .ok (.iload 11, 2) := by decide +kernel
theorem dX12_reel_521 : decode cX12_reel 521 = .ok (.ifCond .eq 34, 3) := by decide +kernel
theorem dX12_reel_524 : decode cX12_reel 524 = .ok (.aload_n 0, 1) := by decide +kernel
theorem dX12_reel_525 : decode cX12_reel 525 = .ok (.getfield 226, 3) := by decide +kernel
theorem dX12_reel_528 : decode cX12_reel 528 = .ok (.iload 6, 2) := by decide +kernel
theorem dX12_reel_530 : decode cX12_reel 530 = .ok (.iaload, 1) := by decide +kernel
theorem dX12_reel_531 : decode cX12_reel 531 = .ok (.iconst (-1), 1) := by decide +kernel
theorem dX12_reel_532 : decode cX12_reel 532 = .ok (.if_icmp .eq 23, 3) := by decide +kernel
theorem dX12_reel_535 : decode cX12_reel 535 = .ok (.aload_n 0, 1) := by decide +kernel
theorem dX12_reel_536 : decode cX12_reel 536 = .ok (.getfield 226, 3) := by decide +kernel
theorem dX12_reel_539 : decode cX12_reel 539 = .ok (.iload 6, 2) := by decide +kernel
theorem dX12_reel_541 : decode cX12_reel 541 = .ok (.iaload, 1) := by decide +kernel
theorem dX12_reel_542 : decode cX12_reel 542 = .ok (.aload_n 0, 1) := by decide +kernel
theorem dX12_reel_543 : decode cX12_reel 543 = .ok (.getfield 151, 3) := by decide +kernel
theorem dX12_reel_546 : decode cX12_reel 546 = .ok (.iload 10, 2) := by decide +kernel
theorem dX12_reel_548 : decode cX12_reel 548 = .ok (.iaload, 1) := by decide +kernel
theorem dX12_reel_549 : decode cX12_reel 549 = .ok (.bipush 10, 2) := by decide +kernel
theorem dX12_reel_551 : decode cX12_reel 551 = .ok (.idiv, 1) := by decide +kernel
theorem dX12_reel_552 : decode cX12_reel 552 = .ok (.if_icmp .ne 7, 3) := by decide +kernel
theorem dX12_reel_555 : decode cX12_reel 555 = .ok (.iconst 1, 1) := by decide +kernel
theorem dX12_reel_556 : decode cX12_reel 556 = .ok (.goto 4, 3) := by decide +kernel
theorem dX12_reel_559 : decode cX12_reel 559 = .ok (.iconst 0, 1) := by decide +kernel
theorem dX12_reel_560 : decode cX12_reel 560 = .ok (.istore 9, 2) := by decide +kernel
theorem dX12_reel_562 : decode cX12_reel 562 = .ok (.iload 9, 2) := by decide +kernel
theorem dX12_reel_564 : decode cX12_reel 564 = .ok (.ifCond .ne 6, 3) := by decide +kernel
theorem dX12_reel_567 : decode cX12_reel 567 = .ok (.iinc 8 1, 3) := by decide +kernel
theorem dX12_reel_570 : decode cX12_reel 570 = .ok (.goto (-233), 3) := by decide +kernel
theorem dX12_reel_573 : decode cX12_reel 573 = .ok (.iload 9, 2) := by decide +kernel
theorem dX12_reel_575 : decode cX12_reel 575 = .ok (.ifCond .ne 9, 3) := by decide +kernel
theorem dX12_reel_578 : decode cX12_reel 578 = .ok (.iinc 6 (-1), 3) := by decide +kernel
theorem dX12_reel_581 : decode cX12_reel 581 = .ok (.goto (-393), 3) := by decide +kernel
theorem dX12_reel_584 : decode cX12_reel 584 = .ok (.aload_n 0, 1) := by decide +kernel
theorem dX12_reel_585 : decode cX12_reel 585 = .ok (.getfield 217, 3) := by decide +kernel
theorem dX12_reel_588 : decode cX12_reel 588 = .ok (.iload 6, 2) := by decide +kernel
theorem dX12_reel_590 : decode cX12_reel 590 = .ok (.iload 8, 2) := by decide +kernel
theorem dX12_reel_592 : decode cX12_reel 592 = .ok (.iastore, 1) := by decide +kernel
theorem dX12_reel_593 : decode cX12_reel 593 = .ok (.iinc 6 1, 3) := by decide +kernel
theorem dX12_reel_596 : decode cX12_reel 596 = .ok (.aload_n 0, 1) := by decide +kernel
theorem dX12_reel_597 : decode cX12_reel 597 = .ok (.getfield 217, 3) := by decide +kernel
theorem dX12_reel_600 : decode cX12_reel 600 = .ok (.iload 6, 2) := by decide +kernel
theorem dX12_reel_602 : decode cX12_reel 602 = .ok (.iconst (-1), 1) := by decide +kernel
theorem dX12_reel_603 : decode cX12_reel 603 = .ok (.iastore, 1) := by decide +kernel
theorem dX12_reel_604 : decode cX12_reel 604 = .ok (.goto (-416), 3) := by decide +kernel
theorem dX12_reel_607 : decode cX12_reel 607 = .ok (.iload 4, 2) := by decide +kernel
theorem dX12_reel_609 : decode cX12_reel 609 = .ok (.ireturn, 1) := by decide +kernel
theorem dX12_reelTake_0 : decode cX12_reelTake 0 = .ok (.aload_n 0, 1) := by decide +kernel
theorem dX12_reelTake_1 : decode cX12_reelTake 1 = .ok (.iload_n 1, 1) := by decide +kernel
theorem dX12_reelTake_2 : decode cX12_reelTake 2 = .ok (.iload_n 2, 1) := by decide +kernel
theorem dX12_reelTake_3 : decode cX12_reelTake 3 = .ok (.invokevirtual 312, 3) := by decide +kernel
theorem dX12_reelTake_6 : decode cX12_reelTake 6 = .ok (.ifCond .eq 17, 3) := by decide +kernel
theorem dX12_reelTake_9 : decode cX12_reelTake 9 = .ok (.aload_n 0, 1) := by decide +kernel
theorem dX12_reelTake_10 : decode cX12_reelTake 10 = .ok (.getfield 154, 3) := by decide +kernel
theorem dX12_reelTake_13 : decode cX12_reelTake 13 = .ok (.bipush 8, 2) := by decide +kernel
theorem dX12_reelTake_15 : decode cX12_reelTake 15 = .ok (.iload_n 1, 1) := by decide +kernel
theorem dX12_reelTake_16 : decode cX12_reelTake 16 = .ok (.imul, 1) := by decide +kernel
theorem dX12_reelTake_17 : decode cX12_reelTake 17 = .ok (.iload_n 2, 1) := by decide +kernel
theorem dX12_reelTake_18 : decode cX12_reelTake 18 = .ok (.iadd, 1) := by decide +kernel
theorem dX12_reelTake_19 : decode cX12_reelTake 19 = .ok (.iaload, 1) := by decide +kernel
theorem dX12_reelTake_20 : decode cX12_reelTake 20 = .ok (.goto 4, 3) := by decide +kernel
theorem dX12_reelTake_23 : decode cX12_reelTake 23 = .ok (.iconst (-1), 1) := by decide +kernel
theorem dX12_reelTake_24 : decode cX12_reelTake 24 = .ok (.ireturn, 1) := by decide +kernel
theorem dX12_land_0 : decode cX12_land 0 = .ok (.iload_n 1, 1) := by decide +kernel
theorem dX12_land_1 : decode cX12_land 1 = .ok (.ifCond .lt 8, 3) := by decide +kernel
theorem dX12_land_4 : decode cX12_land 4 = .ok (.iload_n 1, 1) := by decide +kernel
theorem dX12_land_5 : decode cX12_land 5 = .ok (.iconst 3, 1) := by decide +kernel
theorem dX12_land_6 : decode cX12_land 6 = .ok (.if_icmp .le 9, 3) := by decide +kernel
theorem dX12_land_9 : decode cX12_land 9 = .ok (.aload_n 0, 1) := by decide +kernel
theorem dX12_land_10 : decode cX12_land 10 = .ok (.iconst (-1), 1) := by decide +kernel
theorem dX12_land_11 : decode cX12_land 11 = .ok (.invokevirtual 263, 3) := by decide +kernel
theorem dX12_land_14 : decode cX12_land 14 = .ok (.ireturn, 1) := by decide +kernel
theorem dX12_land_15 : decode cX12_land 15 = .ok (.iload_n 2, 1) := by decide +kernel
theorem dX12_land_16 : decode cX12_land 16 = .ok (.ifCond .lt 9, 3) := by decide +kernel
theorem dX12_land_19 : decode cX12_land 19 = .ok (.iload_n 2, 1) := by decide +kernel
theorem dX12_land_20 : decode cX12_land 20 = .ok (.bipush 99, 2) := by decide +kernel
theorem dX12_land_22 : decode cX12_land 22 = .ok (.if_icmp .le 10, 3) := by decide +kernel
theorem dX12_land_25 : decode cX12_land 25 = .ok (.aload_n 0, 1) := by decide +kernel
theorem dX12_land_26 : decode cX12_land 26 = .ok (.bipush (-6), 2) := by decide +kernel
theorem dX12_land_28 : decode cX12_land 28 = .ok (.invokevirtual 263, 3) := by decide +kernel
theorem dX12_land_31 : decode cX12_land 31 = .ok (.ireturn, 1) := by decide +kernel
theorem dX12_land_32 : decode cX12_land 32 = .ok (.aload_n 0, 1) := by decide +kernel
theorem dX12_land_33 : decode cX12_land 33 = .ok (.getfield 157, 3) := by decide +kernel
theorem dX12_land_36 : decode cX12_land 36 = .ok (.iload_n 1, 1) := by decide +kernel
theorem dX12_land_37 : decode cX12_land 37 = .ok (.iaload, 1) := by decide +kernel
theorem dX12_land_38 : decode cX12_land 38 = .ok (.istore_n 3, 1) := by decide +kernel
theorem dX12_land_39 : decode cX12_land 39 = .ok (.aload_n 0, 1) := by decide +kernel
theorem dX12_land_40 : decode cX12_land 40 = .ok (.getfield 157, 3) := by decide +kernel
theorem dX12_land_43 : decode cX12_land 43 = .ok (.iload_n 1, 1) := by decide +kernel
theorem dX12_land_44 : decode cX12_land 44 = .ok (.iload_n 2, 1) := by decide +kernel
theorem dX12_land_45 : decode cX12_land 45 = .ok (.iastore, 1) := by decide +kernel
theorem dX12_land_46 : decode cX12_land 46 = .ok (.iload_n 3, 1) := by decide +kernel
theorem dX12_land_47 : decode cX12_land 47 = .ok (.ireturn, 1) := by decide +kernel
theorem dX12_preview_0 : decode cX12_preview 0 = .ok (.aload_n 0, 1) := by decide +kernel
theorem dX12_preview_1 : decode cX12_preview 1 = .ok (.iload_n 1, 1) := by decide +kernel
theorem dX12_preview_2 : decode cX12_preview 2 = .ok (.invokevirtual 253, 3) := by decide +kernel
theorem dX12_preview_5 : decode cX12_preview 5 = .ok (.ifCond .eq 12, 3) := by decide +kernel
theorem dX12_preview_8 : decode cX12_preview 8 = .ok (.iload_n 2, 1) := by decide +kernel
theorem dX12_preview_9 : decode cX12_preview 9 = .ok (.ifCond .lt 8, 3) := by decide +kernel
theorem dX12_preview_12 : decode cX12_preview 12 = .ok (.iload_n 2, 1) := by decide +kernel
theorem dX12_preview_13 : decode cX12_preview 13 = .ok (.iconst 3, 1) := by decide +kernel
theorem dX12_preview_14 : decode cX12_preview 14 = .ok (.if_icmp .le 9, 3) := by decide +kernel
theorem dX12_preview_17 : decode cX12_preview 17 = .ok (.aload_n 0, 1) := by decide +kernel
theorem dX12_preview_18 : decode cX12_preview 18 = .ok (.iconst (-1), 1) := by decide +kernel
theorem dX12_preview_19 : decode cX12_preview 19 = .ok (.invokevirtual 263, 3) := by decide +kernel
theorem dX12_preview_22 : decode cX12_preview 22 = .ok (.ireturn, 1) := by decide +kernel
theorem dX12_preview_23 : decode cX12_preview 23 = .ok (.iload_n 3, 1) := by decide +kernel
theorem dX12_preview_24 : decode cX12_preview 24 = .ok (.iconst 1, 1) := by decide +kernel
theorem dX12_preview_25 : decode cX12_preview 25 = .ok (.if_icmp .lt 20, 3) := by decide +kernel
theorem dX12_preview_28 : decode cX12_preview 28 = .ok (.iload_n 3, 1) := by decide +kernel
theorem dX12_preview_29 : decode cX12_preview 29 = .ok (.bipush 99, 2) := by decide +kernel
theorem dX12_preview_31 : decode cX12_preview 31 = .ok (.if_icmp .gt 14, 3) := by decide +kernel
theorem dX12_preview_34 : decode cX12_preview 34 = .ok (.iload 4, 2) := by decide +kernel
theorem dX12_preview_36 : decode cX12_preview 36 = .ok (.ifCond .lt 9, 3) := by decide +kernel
theorem dX12_preview_39 : decode cX12_preview 39 = .ok (.iload 4, 2) := by decide +kernel
theorem dX12_preview_41 : decode cX12_preview 41 = .ok (.iload_n 3, 1) := by decide +kernel
theorem dX12_preview_42 : decode cX12_preview 42 = .ok (.if_icmp .le 10, 3) := by decide +kernel
theorem dX12_preview_45 : decode cX12_preview 45 = .ok (.aload_n 0, 1) := by decide +kernel
theorem dX12_preview_46 : decode cX12_preview 46 = .ok (.bipush (-6), 2) := by decide +kernel
theorem dX12_preview_48 : decode cX12_preview 48 = .ok (.invokevirtual 263, 3) := by decide +kernel
theorem dX12_preview_51 : decode cX12_preview 51 = .ok (.ireturn, 1) := by decide +kernel
theorem dX12_preview_52 : decode cX12_preview 52 = .ok (.aload_n 0, 1) := by decide +kernel
theorem dX12_preview_53 : decode cX12_preview 53 = .ok (.getfield 160, 3) := by decide +kernel
theorem dX12_preview_56 : decode cX12_preview 56 = .ok (.iconst 4, 1) := by decide +kernel
theorem dX12_preview_57 : decode cX12_preview 57 = .ok (.iload_n 1, 1) := by decide +kernel
theorem dX12_preview_58 : decode cX12_preview 58 = .ok (.imul, 1) := by decide +kernel
theorem dX12_preview_59 : decode cX12_preview 59 = .ok (.iload_n 2, 1) := by decide +kernel
theorem dX12_preview_60 : decode cX12_preview 60 = .ok (.iadd, 1) := by decide +kernel
theorem dX12_preview_61 : decode cX12_preview 61 = .ok (.iaload, 1) := by decide +kernel
theorem dX12_preview_62 : decode cX12_preview 62 = .ok (.iload_n 3, 1) := by decide +kernel
theorem dX12_preview_63 : decode cX12_preview 63 = .ok (.iadd, 1) := by decide +kernel
theorem dX12_preview_64 : decode cX12_preview 64 = .ok (.sipush 999, 3) := by decide +kernel
theorem dX12_preview_67 : decode cX12_preview 67 = .ok (.if_icmp .le 10, 3) := by decide +kernel
theorem dX12_preview_70 : decode cX12_preview 70 = .ok (.aload_n 0, 1) := by decide +kernel
theorem dX12_preview_71 : decode cX12_preview 71 = .ok (.bipush (-7), 2) := by decide +kernel
theorem dX12_preview_73 : decode cX12_preview 73 = .ok (.invokevirtual 263, 3) := by decide +kernel
theorem dX12_preview_76 : decode cX12_preview 76 = .ok (.ireturn, 1) := by decide +kernel
theorem dX12_preview_77 : decode cX12_preview 77 = .ok (.aload_n 0, 1) := by decide +kernel
theorem dX12_preview_78 : decode cX12_preview 78 = .ok (.getfield 160, 3) := by decide +kernel
theorem dX12_preview_81 : decode cX12_preview 81 = .ok (.iconst 4, 1) := by decide +kernel
theorem dX12_preview_82 : decode cX12_preview 82 = .ok (.iload_n 1, 1) := by decide +kernel
theorem dX12_preview_83 : decode cX12_preview 83 = .ok (.imul, 1) := by decide +kernel
theorem dX12_preview_84 : decode cX12_preview 84 = .ok (.iload_n 2, 1) := by decide +kernel
theorem dX12_preview_85 : decode cX12_preview 85 = .ok (.iadd, 1) := by decide +kernel
theorem dX12_preview_86 : decode cX12_preview 86 = .ok (.dup2, 1) := by decide +kernel
theorem dX12_preview_87 : decode cX12_preview 87 = .ok (.iaload, 1) := by decide +kernel
theorem dX12_preview_88 : decode cX12_preview 88 = .ok (.iload_n 3, 1) := by decide +kernel
theorem dX12_preview_89 : decode cX12_preview 89 = .ok (.iadd, 1) := by decide +kernel
theorem dX12_preview_90 : decode cX12_preview 90 = .ok (.iastore, 1) := by decide +kernel
theorem dX12_preview_91 : decode cX12_preview 91 = .ok (.aload_n 0, 1) := by decide +kernel
theorem dX12_preview_92 : decode cX12_preview 92 = .ok (.getfield 163, 3) := by decide +kernel
theorem dX12_preview_95 : decode cX12_preview 95 = .ok (.iconst 4, 1) := by decide +kernel
theorem dX12_preview_96 : decode cX12_preview 96 = .ok (.iload_n 1, 1) := by decide +kernel
theorem dX12_preview_97 : decode cX12_preview 97 = .ok (.imul, 1) := by decide +kernel
theorem dX12_preview_98 : decode cX12_preview 98 = .ok (.iload_n 2, 1) := by decide +kernel
theorem dX12_preview_99 : decode cX12_preview 99 = .ok (.iadd, 1) := by decide +kernel
theorem dX12_preview_100 : decode cX12_preview 100 = .ok (.dup2, 1) := by decide +kernel
theorem dX12_preview_101 : decode cX12_preview 101 = .ok (.iaload, 1) := by decide +kernel
theorem dX12_preview_102 : decode cX12_preview 102 = .ok (.iload 4, 2) := by decide +kernel
theorem dX12_preview_104 : decode cX12_preview 104 = .ok (.iadd, 1) := by decide +kernel
theorem dX12_preview_105 : decode cX12_preview 105 = .ok (.iastore, 1) := by decide +kernel
theorem dX12_preview_106 : decode cX12_preview 106 = .ok (.aload_n 0, 1) := by decide +kernel
theorem dX12_preview_107 : decode cX12_preview 107 = .ok (.getfield 160, 3) := by decide +kernel
theorem dX12_preview_110 : decode cX12_preview 110 = .ok (.iconst 4, 1) := by decide +kernel
theorem dX12_preview_111 : decode cX12_preview 111 = .ok (.iload_n 1, 1) := by decide +kernel
theorem dX12_preview_112 : decode cX12_preview 112 = .ok (.imul, 1) := by decide +kernel
theorem dX12_preview_113 : decode cX12_preview 113 = .ok (.iload_n 2, 1) := by decide +kernel
theorem dX12_preview_114 : decode cX12_preview 114 = .ok (.iadd, 1) := by decide +kernel
theorem dX12_preview_115 : decode cX12_preview 115 = .ok (.iaload, 1) := by decide +kernel
theorem dX12_preview_116 : decode cX12_preview 116 = .ok (.ireturn, 1) := by decide +kernel
theorem dX12_common_0 : decode cX12_common 0 = .ok (.lload_n 0, 1) := by decide +kernel
theorem dX12_common_1 : decode cX12_common 1 = .ok (.lstore 4, 2) := by decide +kernel
theorem dX12_common_3 : decode cX12_common 3 = .ok (.lload_n 2, 1) := by decide +kernel
theorem dX12_common_4 : decode cX12_common 4 = .ok (.lstore 6, 2) := by decide +kernel
theorem dX12_common_6 : decode cX12_common 6 = .ok (.lload 6, 2) := by decide +kernel
theorem dX12_common_8 : decode cX12_common 8 = .ok (.lconst 0, 1) := by decide +kernel
theorem dX12_common_9 : decode cX12_common 9 = .ok (.lcmp, 1) := by decide +kernel
theorem dX12_common_10 : decode cX12_common 10 = .ok (.ifCond .eq 21, 3) := by decide +kernel
theorem dX12_common_13 : decode cX12_common 13 = .ok (.lload 4, 2) := by decide +kernel
theorem dX12_common_15 : decode cX12_common 15 = .ok (.lload 6, 2) := by decide +kernel
theorem dX12_common_17 : decode cX12_common 17 = .ok (.lrem, 1) := by decide +kernel
theorem dX12_common_18 : decode cX12_common 18 = .ok (.lstore 8, 2) := by decide +kernel
theorem dX12_common_20 : decode cX12_common 20 = .ok (.lload 6, 2) := by decide +kernel
theorem dX12_common_22 : decode cX12_common 22 = .ok (.lstore 4, 2) := by decide +kernel
theorem dX12_common_24 : decode cX12_common 24 = .ok (.lload 8, 2) := by decide +kernel
theorem dX12_common_26 : decode cX12_common 26 = .ok (.lstore 6, 2) := by decide +kernel
theorem dX12_common_28 : decode cX12_common 28 = .ok (.goto (-22), 3) := by decide +kernel
theorem dX12_common_31 : decode cX12_common 31 = .ok (.lload 4, 2) := by decide +kernel
theorem dX12_common_33 : decode cX12_common 33 = .ok (.lreturn, 1) := by decide +kernel
theorem dX12_putRight_0 : decode cX12_putRight 0 = .ok (.aload_n 0, 1) := by decide +kernel
theorem dX12_putRight_1 : decode cX12_putRight 1 = .ok (.iload_n 1, 1) := by decide +kernel
theorem dX12_putRight_2 : decode cX12_putRight 2 = .ok (.invokevirtual 253, 3) := by decide +kernel
theorem dX12_putRight_5 : decode cX12_putRight 5 = .ok (.ifCond .ne 7, 3) := by decide +kernel
theorem dX12_putRight_8 : decode cX12_putRight 8 = .ok (.ldc2_w 363, 3) := by decide +kernel
theorem dX12_putRight_11 : decode cX12_putRight 11 = .ok (.lreturn, 1) := by decide +kernel
theorem dX12_putRight_12 : decode cX12_putRight 12 = .ok (.lconst 0, 1) := by decide +kernel
theorem dX12_putRight_13 : decode cX12_putRight 13 = .ok (.lstore_n 3, 1) := by decide +kernel
theorem dX12_putRight_14 : decode cX12_putRight 14 = .ok (.lconst 1, 1) := by decide +kernel
theorem dX12_putRight_15 : decode cX12_putRight 15 = .ok (.lstore 5, 2) := by decide +kernel
theorem dX12_putRight_17 : decode cX12_putRight 17 = .ok (.iconst 0, 1) := by decide +kernel
theorem dX12_putRight_18 : decode cX12_putRight 18 = .ok (.istore 7, 2) := by decide +kernel
theorem dX12_putRight_20 : decode cX12_putRight 20 = .ok (.iconst 0, 1) := by decide +kernel
theorem dX12_putRight_21 : decode cX12_putRight 21 = .ok (.istore 8, 2) := by decide +kernel
theorem dX12_putRight_23 : decode cX12_putRight 23 = .ok (.iload 8, 2) := by decide +kernel
theorem dX12_putRight_25 : decode cX12_putRight 25 = .ok (.iconst 4, 1) := by decide +kernel
theorem dX12_putRight_26 : decode cX12_putRight 26 = .ok (.if_icmp .ge 146, 3) := by decide +kernel
theorem dX12_putRight_29 : decode cX12_putRight 29 = .ok (.aload_n 0, 1) := by decide +kernel
theorem dX12_putRight_30 : decode cX12_putRight 30 = .ok (.getfield 160, 3) := by decide +kernel
theorem dX12_putRight_33 : decode cX12_putRight 33 = .ok (.iconst 4, 1) := by decide +kernel
theorem dX12_putRight_34 : decode cX12_putRight 34 = .ok (.iload_n 1, 1) := by decide +kernel
theorem dX12_putRight_35 : decode cX12_putRight 35 = .ok (.imul, 1) := by decide +kernel
theorem dX12_putRight_36 : decode cX12_putRight 36 = .ok (.iload 8, 2) := by decide +kernel
theorem dX12_putRight_38 : decode cX12_putRight 38 = .ok (.iadd, 1) := by decide +kernel
theorem dX12_putRight_39 : decode cX12_putRight 39 = .ok (.iaload, 1) := by decide +kernel
theorem dX12_putRight_40 : decode cX12_putRight 40 = .ok (.istore 9, 2) := by decide +kernel
theorem dX12_putRight_42 : decode cX12_putRight 42 = .ok (.iload 9, 2) := by decide +kernel
theorem dX12_putRight_44 : decode cX12_putRight 44 = .ok (.ifCond .ne 6, 3) := by decide +kernel
theorem dX12_putRight_47 : decode cX12_putRight 47 = .ok (.goto 119, 3) := by decide +kernel
theorem dX12_putRight_50 : decode cX12_putRight 50 = .ok (.iload 7, 2) := by decide +kernel
theorem dX12_putRight_52 : decode cX12_putRight 52 = .ok (.aload_n 0, 1) := by decide +kernel
theorem dX12_putRight_53 : decode cX12_putRight 53 = .ok (.getfield 157, 3) := by decide +kernel
theorem dX12_putRight_56 : decode cX12_putRight 56 = .ok (.iload 8, 2) := by decide +kernel
theorem dX12_putRight_58 : decode cX12_putRight 58 = .ok (.iaload, 1) := by decide +kernel
theorem dX12_putRight_59 : decode cX12_putRight 59 = .ok (.iadd, 1) := by decide +kernel
theorem dX12_putRight_60 : decode cX12_putRight 60 = .ok (.istore 7, 2) := by decide +kernel
theorem dX12_putRight_62 : decode cX12_putRight 62 = .ok (.aload_n 0, 1) := by decide +kernel
theorem dX12_putRight_63 : decode cX12_putRight 63 = .ok (.getfield 157, 3) := by decide +kernel
theorem dX12_putRight_66 : decode cX12_putRight 66 = .ok (.iload 8, 2) := by decide +kernel
theorem dX12_putRight_68 : decode cX12_putRight 68 = .ok (.iaload, 1) := by decide +kernel
theorem dX12_putRight_69 : decode cX12_putRight 69 = .ok (.i2l, 1) := by decide +kernel
theorem dX12_putRight_70 : decode cX12_putRight 70 = .ok (.aload_n 0, 1) := by decide +kernel
theorem dX12_putRight_71 : decode cX12_putRight 71 = .ok (.getfield 163, 3) := by decide +kernel
theorem dX12_putRight_74 : decode cX12_putRight 74 = .ok (.iconst 4, 1) := by decide +kernel
theorem dX12_putRight_75 : decode cX12_putRight 75 = .ok (.iload_n 1, 1) := by decide +kernel
theorem dX12_putRight_76 : decode cX12_putRight 76 = .ok (.imul, 1) := by decide +kernel
theorem dX12_putRight_77 : decode cX12_putRight 77 = .ok (.iload 8, 2) := by decide +kernel
theorem dX12_putRight_79 : decode cX12_putRight 79 = .ok (.iadd, 1) := by decide +kernel
theorem dX12_putRight_80 : decode cX12_putRight 80 = .ok (.iaload, 1) := by decide +kernel
theorem dX12_putRight_81 : decode cX12_putRight 81 = .ok (.i2l, 1) := by decide +kernel
theorem dX12_putRight_82 : decode cX12_putRight 82 = .ok (.lmul, 1) := by decide +kernel
theorem dX12_putRight_83 : decode cX12_putRight 83 = .ok (.lstore 10, 2) := by decide +kernel
theorem dX12_putRight_85 : decode cX12_putRight 85 = .ok (.iload 9, 2) := by decide +kernel
theorem dX12_putRight_87 : decode cX12_putRight 87 = .ok (.i2l, 1) := by decide +kernel
theorem dX12_putRight_88 : decode cX12_putRight 88 = .ok (.lload 10, 2) := by decide +kernel
theorem dX12_putRight_90 : decode cX12_putRight 90 = .ok (.invokestatic 365, 3) := by decide +kernel
theorem dX12_putRight_93 : decode cX12_putRight 93 = .ok (.lstore 12, 2) := by decide +kernel
theorem dX12_putRight_95 : decode cX12_putRight 95 = .ok (.iload 9, 2) := by decide +kernel
theorem dX12_putRight_97 : decode cX12_putRight 97 = .ok (.i2l, 1) := by decide +kernel
theorem dX12_putRight_98 : decode cX12_putRight 98 = .ok (.lload 12, 2) := by decide +kernel
theorem dX12_putRight_100 : decode cX12_putRight 100 = .ok (.ldiv, 1) := by decide +kernel
theorem dX12_putRight_101 : decode cX12_putRight 101 = .ok (.lstore 14, 2) := by decide +kernel
theorem dX12_putRight_103 : decode cX12_putRight 103 = .ok (.lload 10, 2) := by decide +kernel
theorem dX12_putRight_105 : decode cX12_putRight 105 = .ok (.lload 12, 2) := by decide +kernel
theorem dX12_putRight_107 : decode cX12_putRight 107 = .ok (.ldiv, 1) := by decide +kernel
theorem dX12_putRight_108 : decode cX12_putRight 108 = .ok (.lstore 10, 2) := by decide +kernel
theorem dX12_putRight_110 : decode cX12_putRight 110 = .ok (.lload 5, 2) := by decide +kernel
theorem dX12_putRight_112 : decode cX12_putRight 112 = .ok (.lload 14, 2) := by decide +kernel
theorem dX12_putRight_114 : decode cX12_putRight 114 = .ok (.invokestatic 365, 3) := by decide +kernel
theorem dX12_putRight_117 : decode cX12_putRight 117 = .ok (.lstore 16, 2) := by decide +kernel
theorem dX12_putRight_119 : decode cX12_putRight 119 = .ok (.lload_n 3, 1) := by decide +kernel
theorem dX12_putRight_120 : decode cX12_putRight 120 = .ok (.lload 14, 2) := by decide +kernel
theorem dX12_putRight_122 : decode cX12_putRight 122 = .ok (.lload 16, 2) := by decide +kernel
theorem dX12_putRight_124 : decode cX12_putRight 124 = .ok (.ldiv, 1) := by decide +kernel
theorem dX12_putRight_125 : decode cX12_putRight 125 = .ok (.lmul, 1) := by decide +kernel
theorem dX12_putRight_126 : decode cX12_putRight 126 = .ok (.lload 10, 2) := by decide +kernel
theorem dX12_putRight_128 : decode cX12_putRight 128 = .ok (.lload 5, 2) := by decide +kernel
theorem dX12_putRight_130 : decode cX12_putRight 130 = .ok (.lload 16, 2) := by decide +kernel
theorem dX12_putRight_132 : decode cX12_putRight 132 = .ok (.ldiv, 1) := by decide +kernel
theorem dX12_putRight_133 : decode cX12_putRight 133 = .ok (.lmul, 1) := by decide +kernel
theorem dX12_putRight_134 : decode cX12_putRight 134 = .ok (.ladd, 1) := by decide +kernel
theorem dX12_putRight_135 : decode cX12_putRight 135 = .ok (.lstore_n 3, 1) := by decide +kernel
theorem dX12_putRight_136 : decode cX12_putRight 136 = .ok (.lload 5, 2) := by decide +kernel
theorem dX12_putRight_138 : decode cX12_putRight 138 = .ok (.lload 16, 2) := by decide +kernel
theorem dX12_putRight_140 : decode cX12_putRight 140 = .ok (.ldiv, 1) := by decide +kernel
theorem dX12_putRight_141 : decode cX12_putRight 141 = .ok (.lload 14, 2) := by decide +kernel
theorem dX12_putRight_143 : decode cX12_putRight 143 = .ok (.lmul, 1) := by decide +kernel
theorem dX12_putRight_144 : decode cX12_putRight 144 = .ok (.lstore 5, 2) := by decide +kernel
theorem dX12_putRight_146 : decode cX12_putRight 146 = .ok (.lload 5, 2) := by decide +kernel
theorem dX12_putRight_148 : decode cX12_putRight 148 = .ok (.lload_n 3, 1) := by decide +kernel
theorem dX12_putRight_149 : decode cX12_putRight 149 = .ok (.invokestatic 365, 3) := by decide +kernel
theorem dX12_putRight_152 : decode cX12_putRight 152 = .ok (.lstore 18, 2) := by decide +kernel
theorem dX12_putRight_154 : decode cX12_putRight 154 = .ok (.lload_n 3, 1) := by decide +kernel
theorem dX12_putRight_155 : decode cX12_putRight 155 = .ok (.lload 18, 2) := by decide +kernel
theorem dX12_putRight_157 : decode cX12_putRight 157 = .ok (.ldiv, 1) := by decide +kernel
theorem dX12_putRight_158 : decode cX12_putRight 158 = .ok (.lstore_n 3, 1) := by decide +kernel
theorem dX12_putRight_159 : decode cX12_putRight 159 = .ok (.lload 5, 2) := by decide +kernel
theorem dX12_putRight_161 : decode cX12_putRight 161 = .ok (.lload 18, 2) := by decide +kernel
theorem dX12_putRight_163 : decode cX12_putRight 163 = .ok (.ldiv, 1) := by decide +kernel
theorem dX12_putRight_164 : decode cX12_putRight 164 = .ok (.lstore 5, 2) := by decide +kernel
theorem dX12_putRight_166 : decode cX12_putRight 166 = .ok (.iinc 8 1, 3) := by decide +kernel
theorem dX12_putRight_169 : decode cX12_putRight 169 = .ok (.goto (-146), 3) := by decide +kernel
theorem dX12_putRight_172 : decode cX12_putRight 172 = .ok (.iload 7, 2) := by decide +kernel
theorem dX12_putRight_174 : decode cX12_putRight 174 = .ok (.ifCond .ne 13, 3) := by decide +kernel
theorem dX12_putRight_177 : decode cX12_putRight 177 = .ok (.iload_n 2, 1) := by decide +kernel
theorem dX12_putRight_178 : decode cX12_putRight 178 = .ok (.ifCond .eq 7, 3) := by decide +kernel
theorem dX12_putRight_181 : decode cX12_putRight 181 = .ok (.lconst 1, 1) := by decide +kernel
theorem dX12_putRight_182 : decode cX12_putRight 182 = .ok (.goto 4, 3) := by decide +kernel
theorem dX12_putRight_185 : decode cX12_putRight 185 = .ok (.lconst 0, 1) := by decide +kernel
theorem dX12_putRight_186 : decode cX12_putRight 186 = .ok (.lreturn, 1) := by decide +kernel
theorem dX12_putRight_187 : decode cX12_putRight 187 = .ok (.iload 7, 2) := by decide +kernel
theorem dX12_putRight_189 : decode cX12_putRight 189 = .ok (.i2l, 1) := by decide +kernel
theorem dX12_putRight_190 : decode cX12_putRight 190 = .ok (.lload_n 3, 1) := by decide +kernel
theorem dX12_putRight_191 : decode cX12_putRight 191 = .ok (.invokestatic 365, 3) := by decide +kernel
theorem dX12_putRight_194 : decode cX12_putRight 194 = .ok (.lstore 8, 2) := by decide +kernel
theorem dX12_putRight_196 : decode cX12_putRight 196 = .ok (.lload_n 3, 1) := by decide +kernel
theorem dX12_putRight_197 : decode cX12_putRight 197 = .ok (.lload 8, 2) := by decide +kernel
theorem dX12_putRight_199 : decode cX12_putRight 199 = .ok (.ldiv, 1) := by decide +kernel
theorem dX12_putRight_200 : decode cX12_putRight 200 = .ok (.lstore_n 3, 1) := by decide +kernel
theorem dX12_putRight_201 : decode cX12_putRight 201 = .ok (.lload 5, 2) := by decide +kernel
theorem dX12_putRight_203 : decode cX12_putRight 203 = .ok (.iload 7, 2) := by decide +kernel
theorem dX12_putRight_205 : decode cX12_putRight 205 = .ok (.i2l, 1) := by decide +kernel
theorem dX12_putRight_206 : decode cX12_putRight 206 = .ok (.lload 8, 2) := by decide +kernel
theorem dX12_putRight_208 : decode cX12_putRight 208 = .ok (.ldiv, 1) := by decide +kernel
theorem dX12_putRight_209 : decode cX12_putRight 209 = .ok (.lmul, 1) := by decide +kernel
theorem dX12_putRight_210 : decode cX12_putRight 210 = .ok (.lstore 5, 2) := by decide +kernel
theorem dX12_putRight_212 : decode cX12_putRight 212 = .ok (.iload_n 2, 1) := by decide +kernel
theorem dX12_putRight_213 : decode cX12_putRight 213 = .ok (.ifCond .eq 8, 3) := by decide +kernel
theorem dX12_putRight_216 : decode cX12_putRight 216 = .ok (.lload 5, 2) := by decide +kernel
theorem dX12_putRight_218 : decode cX12_putRight 218 = .ok (.goto 4, 3) := by decide +kernel
theorem dX12_putRight_221 : decode cX12_putRight 221 = .ok (.lload_n 3, 1) := by decide +kernel
theorem dX12_putRight_222 : decode cX12_putRight 222 = .ok (.lreturn, 1) := by decide +kernel
theorem dX12_hall_0 : decode cX12_hall 0 = .ok (.iload_n 1, 1) := by decide +kernel
theorem dX12_hall_1 : decode cX12_hall 1 = .ok (.ifCond .lt 8, 3) := by decide +kernel
theorem dX12_hall_4 : decode cX12_hall 4 = .ok (.iload_n 1, 1) := by decide +kernel
theorem dX12_hall_5 : decode cX12_hall 5 = .ok (.iconst 2, 1) := by decide +kernel
theorem dX12_hall_6 : decode cX12_hall 6 = .ok (.if_icmp .le 9, 3) := by decide +kernel
theorem dX12_hall_9 : decode cX12_hall 9 = .ok (.aload_n 0, 1) := by decide +kernel
theorem dX12_hall_10 : decode cX12_hall 10 = .ok (.iconst (-1), 1) := by decide +kernel
theorem dX12_hall_11 : decode cX12_hall 11 = .ok (.invokevirtual 263, 3) := by decide +kernel
theorem dX12_hall_14 : decode cX12_hall 14 = .ok (.ireturn, 1) := by decide +kernel
theorem dX12_hall_15 : decode cX12_hall 15 = .ok (.iload_n 2, 1) := by decide +kernel
theorem dX12_hall_16 : decode cX12_hall 16 = .ok (.ifCond .lt 18, 3) := by decide +kernel
theorem dX12_hall_19 : decode cX12_hall 19 = .ok (.iload_n 2, 1) := by decide +kernel
theorem dX12_hall_20 : decode cX12_hall 20 = .ok (.iconst 3, 1) := by decide +kernel
theorem dX12_hall_21 : decode cX12_hall 21 = .ok (.if_icmp .gt 13, 3) := by decide +kernel
theorem dX12_hall_24 : decode cX12_hall 24 = .ok (.iload_n 3, 1) := by decide +kernel
theorem dX12_hall_25 : decode cX12_hall 25 = .ok (.ifCond .lt 9, 3) := by decide +kernel
theorem dX12_hall_28 : decode cX12_hall 28 = .ok (.iload_n 3, 1) := by decide +kernel
theorem dX12_hall_29 : decode cX12_hall 29 = .ok (.bipush 90, 2) := by decide +kernel
theorem dX12_hall_31 : decode cX12_hall 31 = .ok (.if_icmp .le 10, 3) := by decide +kernel
theorem dX12_hall_34 : decode cX12_hall 34 = .ok (.aload_n 0, 1) := by decide +kernel
theorem dX12_hall_35 : decode cX12_hall 35 = .ok (.bipush (-6), 2) := by decide +kernel
theorem dX12_hall_37 : decode cX12_hall 37 = .ok (.invokevirtual 263, 3) := by decide +kernel
theorem dX12_hall_40 : decode cX12_hall 40 = .ok (.ireturn, 1) := by decide +kernel
theorem dX12_hall_41 : decode cX12_hall 41 = .ok (.aload_n 0, 1) := by decide +kernel
theorem dX12_hall_42 : decode cX12_hall 42 = .ok (.getfield 257, 3) := by decide +kernel
theorem dX12_hall_45 : decode cX12_hall 45 = .ok (.bipush 6, 2) := by decide +kernel
theorem dX12_hall_47 : decode cX12_hall 47 = .ok (.if_icmp .ne 10, 3) := by decide +kernel
theorem dX12_hall_50 : decode cX12_hall 50 = .ok (.aload_n 0, 1) := by decide +kernel
theorem dX12_hall_51 : decode cX12_hall 51 = .ok (.bipush (-7), 2) := by decide +kernel
theorem dX12_hall_53 : decode cX12_hall 53 = .ok (.invokevirtual 263, 3) := by decide +kernel
theorem dX12_hall_56 : decode cX12_hall 56 = .ok (.ireturn, 1) := by decide +kernel
theorem dX12_hall_57 : decode cX12_hall 57 = .ok (.aload_n 0, 1) := by decide +kernel
theorem dX12_hall_58 : decode cX12_hall 58 = .ok (.getfield 166, 3) := by decide +kernel
theorem dX12_hall_61 : decode cX12_hall 61 = .ok (.aload_n 0, 1) := by decide +kernel
theorem dX12_hall_62 : decode cX12_hall 62 = .ok (.getfield 257, 3) := by decide +kernel
theorem dX12_hall_65 : decode cX12_hall 65 = .ok (.iload_n 1, 1) := by decide +kernel
theorem dX12_hall_66 : decode cX12_hall 66 = .ok (.iastore, 1) := by decide +kernel
theorem dX12_hall_67 : decode cX12_hall 67 = .ok (.aload_n 0, 1) := by decide +kernel
theorem dX12_hall_68 : decode cX12_hall 68 = .ok (.getfield 169, 3) := by decide +kernel
theorem dX12_hall_71 : decode cX12_hall 71 = .ok (.aload_n 0, 1) := by decide +kernel
theorem dX12_hall_72 : decode cX12_hall 72 = .ok (.getfield 257, 3) := by decide +kernel
theorem dX12_hall_75 : decode cX12_hall 75 = .ok (.iload_n 2, 1) := by decide +kernel
theorem dX12_hall_76 : decode cX12_hall 76 = .ok (.iastore, 1) := by decide +kernel
theorem dX12_hall_77 : decode cX12_hall 77 = .ok (.aload_n 0, 1) := by decide +kernel
theorem dX12_hall_78 : decode cX12_hall 78 = .ok (.getfield 172, 3) := by decide +kernel
theorem dX12_hall_81 : decode cX12_hall 81 = .ok (.aload_n 0, 1) := by decide +kernel
theorem dX12_hall_82 : decode cX12_hall 82 = .ok (.getfield 257, 3) := by decide +kernel
theorem dX12_hall_85 : decode cX12_hall 85 = .ok (.iload_n 3, 1) := by decide +kernel
theorem dX12_hall_86 : decode cX12_hall 86 = .ok (.iastore, 1) := by decide +kernel
theorem dX12_hall_87 : decode cX12_hall 87 = .ok (.aload_n 0, 1) := by decide +kernel
theorem dX12_hall_88 : decode cX12_hall 88 = .ok (.dup, 1) := by decide +kernel
theorem dX12_hall_89 : decode cX12_hall 89 = .ok (.getfield 257, 3) := by decide +kernel
theorem dX12_hall_92 : decode cX12_hall 92 = .ok (.dup_x1, 1) := by decide +kernel
theorem dX12_hall_93 : decode cX12_hall 93 = .ok (.iconst 1, 1) := by decide +kernel
theorem dX12_hall_94 : decode cX12_hall 94 = .ok (.iadd, 1) := by decide +kernel
theorem dX12_hall_95 : decode cX12_hall 95 = .ok (.putfield 257, 3) := by decide +kernel
theorem dX12_hall_98 : decode cX12_hall 98 = .ok (.ireturn, 1) := by decide +kernel
theorem dX12_clearance_0 : decode cX12_clearance 0 = .ok (.iload_n 1, 1) := by decide +kernel
theorem dX12_clearance_1 : decode cX12_clearance 1 = .ok (.ifCond .lt 9, 3) := by decide +kernel
theorem dX12_clearance_4 : decode cX12_clearance 4 = .ok (.iload_n 1, 1) := by decide +kernel
theorem dX12_clearance_5 : decode cX12_clearance 5 = .ok (.bipush 9, 2) := by decide +kernel
theorem dX12_clearance_7 : decode cX12_clearance 7 = .ok (.if_icmp .le 10, 3) := by decide +kernel
theorem dX12_clearance_10 : decode cX12_clearance 10 = .ok (.aload_n 0, 1) := by decide +kernel
theorem dX12_clearance_11 : decode cX12_clearance 11 = .ok (.bipush (-6), 2) := by decide +kernel
theorem dX12_clearance_13 : decode cX12_clearance 13 = .ok (.invokevirtual 263, 3) := by decide +kernel
theorem dX12_clearance_16 : decode cX12_clearance 16 = .ok (.ireturn, 1) := by decide +kernel
theorem dX12_clearance_17 : decode cX12_clearance 17 = .ok (.aload_n 0, 1) := by decide +kernel
theorem dX12_clearance_18 : decode cX12_clearance 18 = .ok (.getfield 7, 3) := by decide +kernel
theorem dX12_clearance_21 : decode cX12_clearance 21 = .ok (.istore_n 2, 1) := by decide +kernel
theorem dX12_clearance_22 : decode cX12_clearance 22 = .ok (.aload_n 0, 1) := by decide +kernel
theorem dX12_clearance_23 : decode cX12_clearance 23 = .ok (.iload_n 1, 1) := by decide +kernel
theorem dX12_clearance_24 : decode cX12_clearance 24 = .ok (.putfield 7, 3) := by decide +kernel
theorem dX12_clearance_27 : decode cX12_clearance 27 = .ok (.iload_n 2, 1) := by decide +kernel
theorem dX12_clearance_28 : decode cX12_clearance 28 = .ok (.ireturn, 1) := by decide +kernel
theorem dX12_mayBook_0 : decode cX12_mayBook 0 = .ok (.aload_n 0, 1) := by decide +kernel
theorem dX12_mayBook_1 : decode cX12_mayBook 1 = .ok (.getfield 178, 3) := by decide +kernel
theorem dX12_mayBook_4 : decode cX12_mayBook 4 = .ok (.bipush 40, 2) := by decide +kernel
theorem dX12_mayBook_6 : decode cX12_mayBook 6 = .ok (.iload_n 2, 1) := by decide +kernel
theorem dX12_mayBook_7 : decode cX12_mayBook 7 = .ok (.imul, 1) := by decide +kernel
theorem dX12_mayBook_8 : decode cX12_mayBook 8 = .ok (.iload_n 3, 1) := by decide +kernel
theorem dX12_mayBook_9 : decode cX12_mayBook 9 = .ok (.iadd, 1) := by decide +kernel
theorem dX12_mayBook_10 : decode cX12_mayBook 10 = .ok (.iaload, 1) := by decide +kernel
theorem dX12_mayBook_11 : decode cX12_mayBook 11 = .ok (.iconst (-1), 1) := by decide +kernel
theorem dX12_mayBook_12 : decode cX12_mayBook 12 = .ok (.if_icmp .eq 5, 3) := by decide +kernel
theorem dX12_mayBook_15 : decode cX12_mayBook 15 = .ok (.iconst 0, 1) := by decide +kernel
theorem dX12_mayBook_16 : decode cX12_mayBook 16 = .ok (.ireturn, 1) := by decide +kernel
theorem dX12_mayBook_17 : decode cX12_mayBook 17 = .ok (.iconst 0, 1) := by decide +kernel
theorem dX12_mayBook_18 : decode cX12_mayBook 18 = .ok (.istore 4, 2) := by decide +kernel
theorem dX12_mayBook_20 : decode cX12_mayBook 20 = .ok (.iload 4, 2) := by decide +kernel
theorem dX12_mayBook_22 : decode cX12_mayBook 22 = .ok (.aload_n 0, 1) := by decide +kernel
theorem dX12_mayBook_23 : decode cX12_mayBook 23 = .ok (.getfield 257, 3) := by decide +kernel
theorem dX12_mayBook_26 : decode cX12_mayBook 26 = .ok (.if_icmp .ge 100, 3) := by decide +kernel
theorem dX12_mayBook_29 : decode cX12_mayBook 29 = .ok (.aload_n 0, 1) := by decide +kernel
theorem dX12_mayBook_30 : decode cX12_mayBook 30 = .ok (.getfield 166, 3) := by decide +kernel
theorem dX12_mayBook_33 : decode cX12_mayBook 33 = .ok (.iload 4, 2) := by decide +kernel
theorem dX12_mayBook_35 : decode cX12_mayBook 35 = .ok (.iaload, 1) := by decide +kernel
theorem dX12_mayBook_36 : decode cX12_mayBook 36 = .ok (.aload_n 0, 1) := by decide +kernel
theorem dX12_mayBook_37 : decode cX12_mayBook 37 = .ok (.getfield 166, 3) := by decide +kernel
theorem dX12_mayBook_40 : decode cX12_mayBook 40 = .ok (.iload_n 2, 1) := by decide +kernel
theorem dX12_mayBook_41 : decode cX12_mayBook 41 = .ok (.iaload, 1) := by decide +kernel
theorem dX12_mayBook_42 : decode cX12_mayBook 42 = .ok (.if_icmp .ne 78, 3) := by decide +kernel
theorem dX12_mayBook_45 : decode cX12_mayBook 45 = .ok (.aload_n 0, 1) := by decide +kernel
theorem dX12_mayBook_46 : decode cX12_mayBook 46 = .ok (.getfield 169, 3) := by decide +kernel
theorem dX12_mayBook_49 : decode cX12_mayBook 49 = .ok (.iload 4, 2) := by decide +kernel
theorem dX12_mayBook_51 : decode cX12_mayBook 51 = .ok (.iaload, 1) := by decide +kernel
theorem dX12_mayBook_52 : decode cX12_mayBook 52 = .ok (.aload_n 0, 1) := by decide +kernel
theorem dX12_mayBook_53 : decode cX12_mayBook 53 = .ok (.getfield 169, 3) := by decide +kernel
theorem dX12_mayBook_56 : decode cX12_mayBook 56 = .ok (.iload_n 2, 1) := by decide +kernel
theorem dX12_mayBook_57 : decode cX12_mayBook 57 = .ok (.iaload, 1) := by decide +kernel
theorem dX12_mayBook_58 : decode cX12_mayBook 58 = .ok (.if_icmp .ne 6, 3) := by decide +kernel
theorem dX12_mayBook_61 : decode cX12_mayBook 61 = .ok (.goto 59, 3) := by decide +kernel
theorem dX12_mayBook_64 : decode cX12_mayBook 64 = .ok (.iload_n 3, 1) := by decide +kernel
theorem dX12_mayBook_65 : decode cX12_mayBook 65 = .ok (.aload_n 0, 1) := by decide +kernel
theorem dX12_mayBook_66 : decode cX12_mayBook 66 = .ok (.getfield 7, 3) := by decide +kernel
theorem dX12_mayBook_69 : decode cX12_mayBook 69 = .ok (.isub, 1) := by decide +kernel
theorem dX12_mayBook_70 : decode cX12_mayBook 70 = .ok (.istore 5, 2) := by decide +kernel
theorem dX12_mayBook_72 : decode cX12_mayBook 72 = .ok (.iload 5, 2) := by decide +kernel
theorem dX12_mayBook_74 : decode cX12_mayBook 74 = .ok (.iload_n 3, 1) := by decide +kernel
theorem dX12_mayBook_75 : decode cX12_mayBook 75 = .ok (.aload_n 0, 1) := by decide +kernel
theorem dX12_mayBook_76 : decode cX12_mayBook 76 = .ok (.getfield 7, 3) := by decide +kernel
theorem dX12_mayBook_79 : decode cX12_mayBook 79 = .ok (.iadd, 1) := by decide +kernel
theorem dX12_mayBook_80 : decode cX12_mayBook 80 = .ok (.if_icmp .gt 40, 3) := by decide +kernel
theorem dX12_mayBook_83 : decode cX12_mayBook 83 = .ok (.iload 5, 2) := by decide +kernel
theorem dX12_mayBook_85 : decode cX12_mayBook 85 = .ok (.ifCond .lt 29, 3) := by decide +kernel
theorem dX12_mayBook_88 : decode cX12_mayBook 88 = .ok (.iload 5, 2) := by decide +kernel
theorem dX12_mayBook_90 : decode cX12_mayBook 90 = .ok (.bipush 40, 2) := by decide +kernel
theorem dX12_mayBook_92 : decode cX12_mayBook 92 = .ok (.if_icmp .ge 22, 3) := by decide +kernel
theorem dX12_mayBook_95 : decode cX12_mayBook 95 = .ok (.aload_n 0, 1) := by decide +kernel
theorem dX12_mayBook_96 : decode cX12_mayBook 96 = .ok (.getfield 178, 3) := by decide +kernel
theorem dX12_mayBook_99 : decode cX12_mayBook 99 = .ok (.bipush 40, 2) := by decide +kernel
theorem dX12_mayBook_101 : decode cX12_mayBook 101 = .ok (.iload 4, 2) := by decide +kernel
theorem dX12_mayBook_103 : decode cX12_mayBook 103 = .ok (.imul, 1) := by decide +kernel
theorem dX12_mayBook_104 : decode cX12_mayBook 104 = .ok (.iload 5, 2) := by decide +kernel
theorem dX12_mayBook_106 : decode cX12_mayBook 106 = .ok (.iadd, 1) := by decide +kernel
theorem dX12_mayBook_107 : decode cX12_mayBook 107 = .ok (.iaload, 1) := by decide +kernel
theorem dX12_mayBook_108 : decode cX12_mayBook 108 = .ok (.iload_n 1, 1) := by decide +kernel
theorem dX12_mayBook_109 : decode cX12_mayBook 109 = .ok (.if_icmp .ne 5, 3) := by decide +kernel
theorem dX12_mayBook_112 : decode cX12_mayBook 112 = .ok (.iconst 0, 1) := by decide +kernel
theorem dX12_mayBook_113 : decode cX12_mayBook 113 = .ok (.ireturn, 1) := by decide +kernel
theorem dX12_mayBook_114 : decode cX12_mayBook 114 = .ok (.iinc 5 1, 3) := by decide +kernel
theorem dX12_mayBook_117 : decode cX12_mayBook 117 = .ok (.goto (-45), 3) := by decide +kernel
theorem dX12_mayBook_120 : decode cX12_mayBook 120 = .ok (.iinc 4 1, 3) := by decide +kernel
theorem dX12_mayBook_123 : decode cX12_mayBook 123 = .ok (.goto (-103), 3) := by decide +kernel
theorem dX12_mayBook_126 : decode cX12_mayBook 126 = .ok (.iconst 1, 1) := by decide +kernel
theorem dX12_mayBook_127 : decode cX12_mayBook 127 = .ok (.ireturn, 1) := by decide +kernel
theorem dX12_book_0 : decode cX12_book 0 = .ok (.aload_n 0, 1) := by decide +kernel
theorem dX12_book_1 : decode cX12_book 1 = .ok (.iload_n 1, 1) := by decide +kernel
theorem dX12_book_2 : decode cX12_book 2 = .ok (.invokevirtual 253, 3) := by decide +kernel
theorem dX12_book_5 : decode cX12_book 5 = .ok (.ifCond .eq 11, 3) := by decide +kernel
theorem dX12_book_8 : decode cX12_book 8 = .ok (.aload_n 0, 1) := by decide +kernel
theorem dX12_book_9 : decode cX12_book 9 = .ok (.iload_n 2, 1) := by decide +kernel
theorem dX12_book_10 : decode cX12_book 10 = .ok (.invokevirtual 369, 3) := by decide +kernel
theorem dX12_book_13 : decode cX12_book 13 = .ok (.ifCond .ne 9, 3) := by decide +kernel
theorem dX12_book_16 : decode cX12_book 16 = .ok (.aload_n 0, 1) := by decide +kernel
theorem dX12_book_17 : decode cX12_book 17 = .ok (.iconst (-1), 1) := by decide +kernel
theorem dX12_book_18 : decode cX12_book 18 = .ok (.invokevirtual 263, 3) := by decide +kernel
theorem dX12_book_21 : decode cX12_book 21 = .ok (.ireturn, 1) := by decide +kernel
theorem dX12_book_22 : decode cX12_book 22 = .ok (.iload_n 3, 1) := by decide +kernel
theorem dX12_book_23 : decode cX12_book 23 = .ok (.ifCond .lt 19, 3) := by decide +kernel
theorem dX12_book_26 : decode cX12_book 26 = .ok (.iload_n 3, 1) := by decide +kernel
theorem dX12_book_27 : decode cX12_book 27 = .ok (.bipush 39, 2) := by decide +kernel
theorem dX12_book_29 : decode cX12_book 29 = .ok (.if_icmp .gt 13, 3) := by decide +kernel
theorem dX12_book_32 : decode cX12_book 32 = .ok (.aload_n 0, 1) := by decide +kernel
theorem dX12_book_33 : decode cX12_book 33 = .ok (.iload_n 1, 1) := by decide +kernel
theorem dX12_book_34 : decode cX12_book 34 = .ok (.iload_n 2, 1) := by decide +kernel
theorem dX12_book_35 : decode cX12_book 35 = .ok (.iload_n 3, 1) := by decide +kernel
theorem dX12_book_36 : decode cX12_book 36 = .ok (.invokevirtual 372, 3) := by decide +kernel
theorem dX12_book_39 : decode cX12_book 39 = .ok (.ifCond .ne 10, 3) := by decide +kernel
theorem dX12_book_42 : decode cX12_book 42 = .ok (.aload_n 0, 1) := by decide +kernel
theorem dX12_book_43 : decode cX12_book 43 = .ok (.bipush (-6), 2) := by decide +kernel
theorem dX12_book_45 : decode cX12_book 45 = .ok (.invokevirtual 263, 3) := by decide +kernel
theorem dX12_book_48 : decode cX12_book 48 = .ok (.ireturn, 1) := by decide +kernel
theorem dX12_book_49 : decode cX12_book 49 = .ok (.aload_n 0, 1) := by decide +kernel
theorem dX12_book_50 : decode cX12_book 50 = .ok (.getfield 178, 3) := by decide +kernel
theorem dX12_book_53 : decode cX12_book 53 = .ok (.bipush 40, 2) := by decide +kernel
theorem dX12_book_55 : decode cX12_book 55 = .ok (.iload_n 2, 1) := by decide +kernel
theorem dX12_book_56 : decode cX12_book 56 = .ok (.imul, 1) := by decide +kernel
theorem dX12_book_57 : decode cX12_book 57 = .ok (.iload_n 3, 1) := by decide +kernel
theorem dX12_book_58 : decode cX12_book 58 = .ok (.iadd, 1) := by decide +kernel
theorem dX12_book_59 : decode cX12_book 59 = .ok (.iload_n 1, 1) := by decide +kernel
theorem dX12_book_60 : decode cX12_book 60 = .ok (.iastore, 1) := by decide +kernel
theorem dX12_book_61 : decode cX12_book 61 = .ok (.aload_n 0, 1) := by decide +kernel
theorem dX12_book_62 : decode cX12_book 62 = .ok (.dup, 1) := by decide +kernel
theorem dX12_book_63 : decode cX12_book 63 = .ok (.getfield 376, 3) := by decide +kernel
theorem dX12_book_66 : decode cX12_book 66 = .ok (.iconst 1, 1) := by decide +kernel
theorem dX12_book_67 : decode cX12_book 67 = .ok (.iadd, 1) := by decide +kernel
theorem dX12_book_68 : decode cX12_book 68 = .ok (.putfield 376, 3) := by decide +kernel
theorem dX12_book_71 : decode cX12_book 71 = .ok (.iconst 1, 1) := by decide +kernel
theorem dX12_book_72 : decode cX12_book 72 = .ok (.ireturn, 1) := by decide +kernel
theorem dX12_block_0 : decode cX12_block 0 = .ok (.aload_n 0, 1) := by decide +kernel
theorem dX12_block_1 : decode cX12_block 1 = .ok (.iload_n 1, 1) := by decide +kernel
theorem dX12_block_2 : decode cX12_block 2 = .ok (.invokevirtual 369, 3) := by decide +kernel
theorem dX12_block_5 : decode cX12_block 5 = .ok (.ifCond .eq 17, 3) := by decide +kernel
theorem dX12_block_8 : decode cX12_block 8 = .ok (.iload_n 2, 1) := by decide +kernel
theorem dX12_block_9 : decode cX12_block 9 = .ok (.ifCond .lt 13, 3) := by decide +kernel
theorem dX12_block_12 : decode cX12_block 12 = .ok (.iload_n 2, 1) := by decide +kernel
theorem dX12_block_13 : decode cX12_block 13 = .ok (.iconst 1, 1) := by decide +kernel
theorem dX12_block_14 : decode cX12_block 14 = .ok (.aload_n 0, 1) := by decide +kernel
theorem dX12_block_15 : decode cX12_block 15 = .ok (.getfield 250, 3) := by decide +kernel
theorem dX12_block_18 : decode cX12_block 18 = .ok (.ishl, 1) := by decide +kernel
theorem dX12_block_19 : decode cX12_block 19 = .ok (.if_icmp .lt 9, 3) := by decide +kernel
theorem dX12_block_22 : decode cX12_block 22 = .ok (.aload_n 0, 1) := by decide +kernel
theorem dX12_block_23 : decode cX12_block 23 = .ok (.iconst (-1), 1) := by decide +kernel
theorem dX12_block_24 : decode cX12_block 24 = .ok (.invokevirtual 263, 3) := by decide +kernel
theorem dX12_block_27 : decode cX12_block 27 = .ok (.ireturn, 1) := by decide +kernel
theorem dX12_block_28 : decode cX12_block 28 = .ok (.iload_n 3, 1) := by decide +kernel
theorem dX12_block_29 : decode cX12_block 29 = .ok (.ifCond .lt 13, 3) := by decide +kernel
theorem dX12_block_32 : decode cX12_block 32 = .ok (.iload_n 3, 1) := by decide +kernel
theorem dX12_block_33 : decode cX12_block 33 = .ok (.bipush 39, 2) := by decide +kernel
theorem dX12_block_35 : decode cX12_block 35 = .ok (.if_icmp .gt 7, 3) := by decide +kernel
theorem dX12_block_38 : decode cX12_block 38 = .ok (.iload_n 2, 1) := by decide +kernel
theorem dX12_block_39 : decode cX12_block 39 = .ok (.ifCond .ne 10, 3) := by decide +kernel
theorem dX12_block_42 : decode cX12_block 42 = .ok (.aload_n 0, 1) := by decide +kernel
theorem dX12_block_43 : decode cX12_block 43 = .ok (.bipush (-6), 2) := by decide +kernel
theorem dX12_block_45 : decode cX12_block 45 = .ok (.invokevirtual 263, 3) := by decide +kernel
theorem dX12_block_48 : decode cX12_block 48 = .ok (.ireturn, 1) := by decide +kernel
theorem dX12_block_49 : decode cX12_block 49 = .ok (.iconst 0, 1) := by decide +kernel
theorem dX12_block_50 : decode cX12_block 50 = .ok (.istore 4, 2) := by decide +kernel
theorem dX12_block_52 : decode cX12_block 52 = .ok (.iconst (-1), 1) := by decide +kernel
theorem dX12_block_53 : decode cX12_block 53 = .ok (.istore 5, 2) := by decide +kernel
theorem dX12_block_55 : decode cX12_block 55 = .ok (.iconst 1, 1) := by decide +kernel
theorem dX12_block_56 : decode cX12_block 56 = .ok (.istore 6, 2) := by decide +kernel
theorem dX12_block_58 : decode cX12_block 58 = .ok (.iconst 0, 1) := by decide +kernel
theorem dX12_block_59 : decode cX12_block 59 = .ok (.istore 7, 2) := by decide +kernel
theorem dX12_block_61 : decode cX12_block 61 = .ok (.iload 7, 2) := by decide +kernel
theorem dX12_block_63 : decode cX12_block 63 = .ok (.aload_n 0, 1) := by decide +kernel
theorem dX12_block_64 : decode cX12_block 64 = .ok (.getfield 250, 3) := by decide +kernel
theorem dX12_block_67 : decode cX12_block 67 = .ok (.if_icmp .ge 113, 3) := by decide +kernel
theorem dX12_block_70 : decode cX12_block 70 = .ok (.iload 6, 2) := by decide +kernel
theorem dX12_block_72 : decode cX12_block 72 = .ok (.ifCond .eq 108, 3) := by decide +kernel
theorem dX12_block_75 : decode cX12_block 75 = .ok (.iload_n 2, 1) := by decide +kernel
theorem dX12_block_76 : decode cX12_block 76 = .ok (.iload 7, 2) := by decide +kernel
theorem dX12_block_78 : decode cX12_block 78 = .ok (.ishr, 1) := by decide +kernel
theorem dX12_block_79 : decode cX12_block 79 = .ok (.iconst 1, 1) := by decide +kernel
theorem dX12_block_80 : decode cX12_block 80 = .ok (.iand, 1) := by decide +kernel
theorem dX12_block_81 : decode cX12_block 81 = .ok (.ifCond .ne 6, 3) := by decide +kernel
theorem dX12_block_84 : decode cX12_block 84 = .ok (.goto 90, 3) := by decide +kernel
theorem dX12_block_87 : decode cX12_block 87 = .ok (.iload_n 3, 1) := by decide +kernel
theorem dX12_block_88 : decode cX12_block 88 = .ok (.istore 8, 2) := by decide +kernel
theorem dX12_block_90 : decode cX12_block 90 = .ok (.iload 8, 2) := by decide +kernel
theorem dX12_block_92 : decode cX12_block 92 = .ok (.bipush 40, 2) := by decide +kernel
theorem dX12_block_94 : decode cX12_block 94 = .ok (.if_icmp .ge 21, 3) := by decide +kernel
theorem dX12_block_97 : decode cX12_block 97 = .ok (.aload_n 0, 1) := by decide +kernel
theorem dX12_block_98 : decode cX12_block 98 = .ok (.iload 7, 2) := by decide +kernel
theorem dX12_block_100 : decode cX12_block 100 = .ok (.iload_n 1, 1) := by decide +kernel
theorem dX12_block_101 : decode cX12_block 101 = .ok (.iload 8, 2) := by decide +kernel
theorem dX12_block_103 : decode cX12_block 103 = .ok (.invokevirtual 372, 3) := by decide +kernel
theorem dX12_block_106 : decode cX12_block 106 = .ok (.ifCond .ne 9, 3) := by decide +kernel
theorem dX12_block_109 : decode cX12_block 109 = .ok (.iinc 8 1, 3) := by decide +kernel
theorem dX12_block_112 : decode cX12_block 112 = .ok (.goto (-22), 3) := by decide +kernel
theorem dX12_block_115 : decode cX12_block 115 = .ok (.iload 8, 2) := by decide +kernel
theorem dX12_block_117 : decode cX12_block 117 = .ok (.bipush 40, 2) := by decide +kernel
theorem dX12_block_119 : decode cX12_block 119 = .ok (.if_icmp .ge 7, 3) := by decide +kernel
theorem dX12_block_122 : decode cX12_block 122 = .ok (.iconst 1, 1) := by decide +kernel
theorem dX12_block_123 : decode cX12_block 123 = .ok (.goto 4, 3) := by decide +kernel
theorem dX12_block_126 : decode cX12_block 126 = .ok (.iconst 0, 1) := by decide +kernel
theorem dX12_block_127 : decode cX12_block 127 = .ok (.istore 6, 2) := by decide +kernel
theorem dX12_block_129 : decode cX12_block 129 = .ok (.iload 6, 2) := by decide +kernel
theorem dX12_block_131 : decode cX12_block 131 = .ok (.ifCond .ne 6, 3) := by decide +kernel
theorem dX12_block_134 : decode cX12_block 134 = .ok (.goto 40, 3) := by decide +kernel
theorem dX12_block_137 : decode cX12_block 137 = .ok (.aload_n 0, 1) := by decide +kernel
theorem dX12_block_138 : decode cX12_block 138 = .ok (.getfield 178, 3) := by decide +kernel
theorem dX12_block_141 : decode cX12_block 141 = .ok (.bipush 40, 2) := by decide +kernel
theorem dX12_block_143 : decode cX12_block 143 = .ok (.iload_n 1, 1) := by decide +kernel
theorem dX12_block_144 : decode cX12_block 144 = .ok (.imul, 1) := by decide +kernel
theorem dX12_block_145 : decode cX12_block 145 = .ok (.iload 8, 2) := by decide +kernel
theorem dX12_block_147 : decode cX12_block 147 = .ok (.iadd, 1) := by decide +kernel
theorem dX12_block_148 : decode cX12_block 148 = .ok (.iload 7, 2) := by decide +kernel
theorem dX12_block_150 : decode cX12_block 150 = .ok (.iastore, 1) := by decide +kernel
theorem dX12_block_151 : decode cX12_block 151 = .ok (.aload_n 0, 1) := by decide +kernel
theorem dX12_block_152 : decode cX12_block 152 = .ok (.getfield 232, 3) := by decide +kernel
theorem dX12_block_155 : decode cX12_block 155 = .ok (.iload 4, 2) := by decide +kernel
theorem dX12_block_157 : decode cX12_block 157 = .ok (.iinc 4 1, 3) := by decide +kernel
theorem dX12_block_160 : decode cX12_block 160 = .ok (.iload 8, 2) := by decide +kernel
theorem dX12_block_162 : decode cX12_block 162 = .ok (.iastore, 1) := by decide +kernel
theorem dX12_block_163 : decode cX12_block 163 = .ok (.iload 8, 2) := by decide +kernel
theorem dX12_block_165 : decode cX12_block 165 = .ok (.iload 5, 2) := by decide +kernel
theorem dX12_block_167 : decode cX12_block 167 = .ok (.if_icmp .le 7, 3) := by decide +kernel
theorem dX12_block_170 : decode cX12_block 170 = .ok (.iload 8, 2) := by decide +kernel
theorem dX12_block_172 : decode cX12_block 172 = .ok (.istore 5, 2) := by decide +kernel
theorem dX12_block_174 : decode cX12_block 174 = .ok (.iinc 7 1, 3) := by decide +kernel
theorem dX12_block_177 : decode cX12_block 177 = .ok (.goto (-116), 3) := by decide +kernel
theorem dX12_block_180 : decode cX12_block 180 = .ok (.iload 6, 2) := by decide +kernel
theorem dX12_block_182 : decode cX12_block 182 = .ok (.ifCond .ne 44, 3) := by decide +kernel
theorem dX12_block_185 : decode cX12_block 185 = .ok (.iconst 0, 1) := by decide +kernel
theorem dX12_block_186 : decode cX12_block 186 = .ok (.istore 7, 2) := by decide +kernel
theorem dX12_block_188 : decode cX12_block 188 = .ok (.iload 7, 2) := by decide +kernel
theorem dX12_block_190 : decode cX12_block 190 = .ok (.iload 4, 2) := by decide +kernel
theorem dX12_block_192 : decode cX12_block 192 = .ok (.if_icmp .ge 27, 3) := by decide +kernel
theorem dX12_block_195 : decode cX12_block 195 = .ok (.aload_n 0, 1) := by decide +kernel
theorem dX12_block_196 : decode cX12_block 196 = .ok (.getfield 178, 3) := by decide +kernel
theorem dX12_block_199 : decode cX12_block 199 = .ok (.bipush 40, 2) := by decide +kernel
theorem dX12_block_201 : decode cX12_block 201 = .ok (.iload_n 1, 1) := by decide +kernel
theorem dX12_block_202 : decode cX12_block 202 = .ok (.imul, 1) := by decide +kernel
theorem dX12_block_203 : decode cX12_block 203 = .ok (.aload_n 0, 1) := by decide +kernel
theorem dX12_block_204 : decode cX12_block 204 = .ok (.getfield 232, 3) := by decide +kernel
theorem dX12_block_207 : decode cX12_block 207 = .ok (.iload 7, 2) := by decide +kernel
theorem dX12_block_209 : decode cX12_block 209 = .ok (.iaload, 1) := by decide +kernel
theorem dX12_block_210 : decode cX12_block 210 = .ok (.iadd, 1) := by decide +kernel
theorem dX12_block_211 : decode cX12_block 211 = .ok (.iconst (-1), 1) := by decide +kernel
theorem dX12_block_212 : decode cX12_block 212 = .ok (.iastore, 1) := by decide +kernel
theorem dX12_block_213 : decode cX12_block 213 = .ok (.iinc 7 1, 3) := by decide +kernel
theorem dX12_block_216 : decode cX12_block 216 = .ok (.goto (-28), 3) := by decide +kernel
theorem dX12_block_219 : decode cX12_block 219 = .ok (.aload_n 0, 1) := by decide +kernel
theorem dX12_block_220 : decode cX12_block 220 = .ok (.bipush (-6), 2) := by decide +kernel
theorem dX12_block_222 : decode cX12_block 222 = .ok (.invokevirtual 263, 3) := by decide +kernel
theorem dX12_block_225 : decode cX12_block 225 = .ok (.ireturn, 1) := by decide +kernel
theorem dX12_block_226 : decode cX12_block 226 = .ok (.aload_n 0, 1) := by decide +kernel
theorem dX12_block_227 : decode cX12_block 227 = .ok (.dup, 1) := by decide +kernel
theorem dX12_block_228 : decode cX12_block 228 = .ok (.getfield 376, 3) := by decide +kernel
theorem dX12_block_231 : decode cX12_block 231 = .ok (.iload 4, 2) := by decide +kernel
theorem dX12_block_233 : decode cX12_block 233 = .ok (.iadd, 1) := by decide +kernel
theorem dX12_block_234 : decode cX12_block 234 = .ok (.putfield 376, 3) := by decide +kernel
theorem dX12_block_237 : decode cX12_block 237 = .ok (.iload 5, 2) := by decide +kernel
theorem dX12_block_239 : decode cX12_block 239 = .ok (.ireturn, 1) := by decide +kernel
theorem dX12_shown_0 : decode cX12_shown 0 = .ok (.aload_n 0, 1) := by decide +kernel
theorem dX12_shown_1 : decode cX12_shown 1 = .ok (.iload_n 1, 1) := by decide +kernel
theorem dX12_shown_2 : decode cX12_shown 2 = .ok (.invokevirtual 369, 3) := by decide +kernel
theorem dX12_shown_5 : decode cX12_shown 5 = .ok (.ifCond .eq 27, 3) := by decide +kernel
theorem dX12_shown_8 : decode cX12_shown 8 = .ok (.iload_n 2, 1) := by decide +kernel
theorem dX12_shown_9 : decode cX12_shown 9 = .ok (.ifCond .lt 23, 3) := by decide +kernel
theorem dX12_shown_12 : decode cX12_shown 12 = .ok (.iload_n 2, 1) := by decide +kernel
theorem dX12_shown_13 : decode cX12_shown 13 = .ok (.bipush 40, 2) := by decide +kernel
theorem dX12_shown_15 : decode cX12_shown 15 = .ok (.if_icmp .ge 17, 3) := by decide +kernel
theorem dX12_shown_18 : decode cX12_shown 18 = .ok (.aload_n 0, 1) := by decide +kernel
theorem dX12_shown_19 : decode cX12_shown 19 = .ok (.getfield 178, 3) := by decide +kernel
theorem dX12_shown_22 : decode cX12_shown 22 = .ok (.bipush 40, 2) := by decide +kernel
theorem dX12_shown_24 : decode cX12_shown 24 = .ok (.iload_n 1, 1) := by decide +kernel
theorem dX12_shown_25 : decode cX12_shown 25 = .ok (.imul, 1) := by decide +kernel
theorem dX12_shown_26 : decode cX12_shown 26 = .ok (.iload_n 2, 1) := by decide +kernel
theorem dX12_shown_27 : decode cX12_shown 27 = .ok (.iadd, 1) := by decide +kernel
theorem dX12_shown_28 : decode cX12_shown 28 = .ok (.iaload, 1) := by decide +kernel
theorem dX12_shown_29 : decode cX12_shown 29 = .ok (.goto 4, 3) := by decide +kernel
theorem dX12_shown_32 : decode cX12_shown 32 = .ok (.iconst (-1), 1) := by decide +kernel
theorem dX12_shown_33 : decode cX12_shown 33 = .ok (.ireturn, 1) := by decide +kernel
theorem dX12_takings_0 : decode cX12_takings 0 = .ok (.aload_n 0, 1) := by decide +kernel
theorem dX12_takings_1 : decode cX12_takings 1 = .ok (.iload_n 1, 1) := by decide +kernel
theorem dX12_takings_2 : decode cX12_takings 2 = .ok (.invokevirtual 369, 3) := by decide +kernel
theorem dX12_takings_5 : decode cX12_takings 5 = .ok (.ifCond .ne 9, 3) := by decide +kernel
theorem dX12_takings_8 : decode cX12_takings 8 = .ok (.aload_n 0, 1) := by decide +kernel
theorem dX12_takings_9 : decode cX12_takings 9 = .ok (.iconst (-1), 1) := by decide +kernel
theorem dX12_takings_10 : decode cX12_takings 10 = .ok (.invokevirtual 263, 3) := by decide +kernel
theorem dX12_takings_13 : decode cX12_takings 13 = .ok (.ireturn, 1) := by decide +kernel
theorem dX12_takings_14 : decode cX12_takings 14 = .ok (.iload_n 2, 1) := by decide +kernel
theorem dX12_takings_15 : decode cX12_takings 15 = .ok (.ifCond .lt 20, 3) := by decide +kernel
theorem dX12_takings_18 : decode cX12_takings 18 = .ok (.iload_n 2, 1) := by decide +kernel
theorem dX12_takings_19 : decode cX12_takings 19 = .ok (.bipush 39, 2) := by decide +kernel
theorem dX12_takings_21 : decode cX12_takings 21 = .ok (.if_icmp .gt 14, 3) := by decide +kernel
theorem dX12_takings_24 : decode cX12_takings 24 = .ok (.iload_n 3, 1) := by decide +kernel
theorem dX12_takings_25 : decode cX12_takings 25 = .ok (.ifCond .lt 10, 3) := by decide +kernel
theorem dX12_takings_28 : decode cX12_takings 28 = .ok (.iload_n 3, 1) := by decide +kernel
theorem dX12_takings_29 : decode cX12_takings 29 = .ok (.ldc_w 308, 3) := by decide +kernel
theorem dX12_takings_32 : decode cX12_takings 32 = .ok (.if_icmp .le 10, 3) := by decide +kernel
theorem dX12_takings_35 : decode cX12_takings 35 = .ok (.aload_n 0, 1) := by decide +kernel
theorem dX12_takings_36 : decode cX12_takings 36 = .ok (.bipush (-6), 2) := by decide +kernel
theorem dX12_takings_38 : decode cX12_takings 38 = .ok (.invokevirtual 263, 3) := by decide +kernel
theorem dX12_takings_41 : decode cX12_takings 41 = .ok (.ireturn, 1) := by decide +kernel
theorem dX12_takings_42 : decode cX12_takings 42 = .ok (.bipush 40, 2) := by decide +kernel
theorem dX12_takings_44 : decode cX12_takings 44 = .ok (.iload_n 1, 1) := by decide +kernel
theorem dX12_takings_45 : decode cX12_takings 45 = .ok (.imul, 1) := by decide +kernel
theorem dX12_takings_46 : decode cX12_takings 46 = .ok (.iload_n 2, 1) := by decide +kernel
theorem dX12_takings_47 : decode cX12_takings 47 = .ok (.iadd, 1) := by decide +kernel
theorem dX12_takings_48 : decode cX12_takings 48 = .ok (.istore 4, 2) := by decide +kernel
theorem dX12_takings_50 : decode cX12_takings 50 = .ok (.aload_n 0, 1) := by decide +kernel
theorem dX12_takings_51 : decode cX12_takings 51 = .ok (.getfield 178, 3) := by decide +kernel
theorem dX12_takings_54 : decode cX12_takings 54 = .ok (.iload 4, 2) := by decide +kernel
theorem dX12_takings_56 : decode cX12_takings 56 = .ok (.iaload, 1) := by decide +kernel
theorem dX12_takings_57 : decode cX12_takings 57 = .ok (.iconst (-1), 1) := by decide +kernel
theorem dX12_takings_58 : decode cX12_takings 58 = .ok (.if_icmp .eq 13, 3) := by decide +kernel
theorem dX12_takings_61 : decode cX12_takings 61 = .ok (.aload_n 0, 1) := by decide +kernel
theorem dX12_takings_62 : decode cX12_takings 62 = .ok (.getfield 181, 3) := by decide +kernel
theorem dX12_takings_65 : decode cX12_takings 65 = .ok (.iload 4, 2) := by decide +kernel
theorem dX12_takings_67 : decode cX12_takings 67 = .ok (.baload, 1) := by decide +kernel
theorem dX12_takings_68 : decode cX12_takings 68 = .ok (.ifCond .eq 10, 3) := by decide +kernel
theorem dX12_takings_71 : decode cX12_takings 71 = .ok (.aload_n 0, 1) := by decide +kernel
theorem dX12_takings_72 : decode cX12_takings 72 = .ok (.bipush (-6), 2) := by decide +kernel
theorem dX12_takings_74 : decode cX12_takings 74 = .ok (.invokevirtual 263, 3) := by decide +kernel
theorem dX12_takings_77 : decode cX12_takings 77 = .ok (.ireturn, 1) := by decide +kernel
theorem dX12_takings_78 : decode cX12_takings 78 = .ok (.aload_n 0, 1) := by decide +kernel
theorem dX12_takings_79 : decode cX12_takings 79 = .ok (.getfield 181, 3) := by decide +kernel
theorem dX12_takings_82 : decode cX12_takings 82 = .ok (.iload 4, 2) := by decide +kernel
theorem dX12_takings_84 : decode cX12_takings 84 = .ok (.iconst 1, 1) := by decide +kernel
theorem dX12_takings_85 : decode cX12_takings 85 = .ok (.bastore, 1) := by decide +kernel
theorem dX12_takings_86 : decode cX12_takings 86 = .ok (.iload_n 3, 1) := by decide +kernel
theorem dX12_takings_87 : decode cX12_takings 87 = .ok (.aload_n 0, 1) := by decide +kernel
theorem dX12_takings_88 : decode cX12_takings 88 = .ok (.getfield 172, 3) := by decide +kernel
theorem dX12_takings_91 : decode cX12_takings 91 = .ok (.iload_n 1, 1) := by decide +kernel
theorem dX12_takings_92 : decode cX12_takings 92 = .ok (.iaload, 1) := by decide +kernel
theorem dX12_takings_93 : decode cX12_takings 93 = .ok (.imul, 1) := by decide +kernel
theorem dX12_takings_94 : decode cX12_takings 94 = .ok (.bipush 100, 2) := by decide +kernel
theorem dX12_takings_96 : decode cX12_takings 96 = .ok (.idiv, 1) := by decide +kernel
theorem dX12_takings_97 : decode cX12_takings 97 = .ok (.istore 5, 2) := by decide +kernel
theorem dX12_takings_99 : decode cX12_takings 99 = .ok (.aload_n 0, 1) := by decide +kernel
theorem dX12_takings_100 : decode cX12_takings 100 = .ok (.getfield 175, 3) := by decide +kernel
theorem dX12_takings_103 : decode cX12_takings 103 = .ok (.iload_n 1, 1) := by decide +kernel
theorem dX12_takings_104 : decode cX12_takings 104 = .ok (.dup2, 1) := by decide +kernel
theorem dX12_takings_105 : decode cX12_takings 105 = .ok (.iaload, 1) := by decide +kernel
theorem dX12_takings_106 : decode cX12_takings 106 = .ok (.iload 5, 2) := by decide +kernel
theorem dX12_takings_108 : decode cX12_takings 108 = .ok (.iadd, 1) := by decide +kernel
theorem dX12_takings_109 : decode cX12_takings 109 = .ok (.iastore, 1) := by decide +kernel
theorem dX12_takings_110 : decode cX12_takings 110 = .ok (.iload_n 3, 1) := by decide +kernel
theorem dX12_takings_111 : decode cX12_takings 111 = .ok (.iload 5, 2) := by decide +kernel
theorem dX12_takings_113 : decode cX12_takings 113 = .ok (.isub, 1) := by decide +kernel
theorem dX12_takings_114 : decode cX12_takings 114 = .ok (.istore 6, 2) := by decide +kernel
theorem dX12_takings_116 : decode cX12_takings 116 = .ok (.iload 6, 2) := by decide +kernel
theorem dX12_takings_118 : decode cX12_takings 118 = .ok (.istore 7, 2) := by decide +kernel
theorem dX12_takings_120 : decode cX12_takings 120 = .ok (.aload_n 0, 1) := by decide +kernel
theorem dX12_takings_121 : decode cX12_takings 121 = .ok (.aload_n 0, 1) := by decide +kernel
theorem dX12_takings_122 : decode cX12_takings 122 = .ok (.getfield 178, 3) := by decide +kernel
theorem dX12_takings_125 : decode cX12_takings 125 = .ok (.iload 4, 2) := by decide +kernel
theorem dX12_takings_127 : decode cX12_takings 127 = .ok (.iaload, 1) := by decide +kernel
theorem dX12_takings_128 : decode cX12_takings 128 = .ok (.iconst 1, 1) := by decide +kernel
theorem dX12_takings_129 : decode cX12_takings 129 = .ok (.aload_n 0, 1) := by decide +kernel
theorem dX12_takings_130 : decode cX12_takings 130 = .ok (.getfield 91, 3) := by decide +kernel
theorem dX12_takings_133 : decode cX12_takings 133 = .ok (.aload_n 0, 1) := by decide +kernel
theorem dX12_takings_134 : decode cX12_takings 134 = .ok (.getfield 178, 3) := by decide +kernel
theorem dX12_takings_137 : decode cX12_takings 137 = .ok (.iload 4, 2) := by decide +kernel
theorem dX12_takings_139 : decode cX12_takings 139 = .ok (.iaload, 1) := by decide +kernel
theorem dX12_takings_140 : decode cX12_takings 140 = .ok (.iaload, 1) := by decide +kernel
theorem dX12_takings_141 : decode cX12_takings 141 = .ok (.ishl, 1) := by decide +kernel
theorem dX12_takings_142 : decode cX12_takings 142 = .ok (.iconst 1, 1) := by decide +kernel
theorem dX12_takings_143 : decode cX12_takings 143 = .ok (.isub, 1) := by decide +kernel
theorem dX12_takings_144 : decode cX12_takings 144 = .ok (.invokevirtual 321, 3) := by decide +kernel
theorem dX12_takings_147 : decode cX12_takings 147 = .ok (.istore 8, 2) := by decide +kernel
theorem dX12_takings_149 : decode cX12_takings 149 = .ok (.iconst 0, 1) := by decide +kernel
theorem dX12_takings_150 : decode cX12_takings 150 = .ok (.istore 9, 2) := by decide +kernel
theorem dX12_takings_152 : decode cX12_takings 152 = .ok (.iload 9, 2) := by decide +kernel
theorem dX12_takings_154 : decode cX12_takings 154 = .ok (.aload_n 0, 1) := by decide +kernel
theorem dX12_takings_155 : decode cX12_takings 155 = .ok (.getfield 247, 3) := by decide +kernel
theorem dX12_takings_158 : decode cX12_takings 158 = .ok (.if_icmp .ge 84, 3) := by decide +kernel
theorem dX12_takings_161 : decode cX12_takings 161 = .ok (.iload 8, 2) := by decide +kernel
theorem dX12_takings_163 : decode cX12_takings 163 = .ok (.iload 9, 2) := by decide +kernel
theorem dX12_takings_165 : decode cX12_takings 165 = .ok (.ishr, 1) := by decide +kernel
theorem dX12_takings_166 : decode cX12_takings 166 = .ok (.iconst 1, 1) := by decide +kernel
theorem dX12_takings_167 : decode cX12_takings 167 = .ok (.iand, 1) := by decide +kernel
theorem dX12_takings_168 : decode cX12_takings 168 = .ok (.ifCond .eq 68, 3) := by decide +kernel
theorem dX12_takings_171 : decode cX12_takings 171 = .ok (.aload_n 0, 1) := by decide +kernel
theorem dX12_takings_172 : decode cX12_takings 172 = .ok (.iload 9, 2) := by decide +kernel
theorem dX12_takings_174 : decode cX12_takings 174 = .ok (.aload_n 0, 1) := by decide +kernel
theorem dX12_takings_175 : decode cX12_takings 175 = .ok (.getfield 286, 3) := by decide +kernel
theorem dX12_takings_178 : decode cX12_takings 178 = .ok (.invokevirtual 289, 3) := by decide +kernel
theorem dX12_takings_181 : decode cX12_takings 181 = .ok (.ifCond .ne 6, 3) := by decide +kernel
theorem dX12_takings_184 : decode cX12_takings 184 = .ok (.goto 52, 3) := by decide +kernel
theorem dX12_takings_187 : decode cX12_takings 187 = .ok (.iload 7, 2) := by decide +kernel
theorem dX12_takings_189 : decode cX12_takings 189 = .ok (.aload_n 0, 1) := by decide +kernel
theorem dX12_takings_190 : decode cX12_takings 190 = .ok (.iload 9, 2) := by decide +kernel
theorem dX12_takings_192 : decode cX12_takings 192 = .ok (.iconst 3, 1) := by decide +kernel
theorem dX12_takings_193 : decode cX12_takings 193 = .ok (.aload_n 0, 1) := by decide +kernel
theorem dX12_takings_194 : decode cX12_takings 194 = .ok (.getfield 286, 3) := by decide +kernel
theorem dX12_takings_197 : decode cX12_takings 197 = .ok (.invokevirtual 295, 3) := by decide +kernel
theorem dX12_takings_200 : decode cX12_takings 200 = .ok (.imul, 1) := by decide +kernel
theorem dX12_takings_201 : decode cX12_takings 201 = .ok (.bipush 100, 2) := by decide +kernel
theorem dX12_takings_203 : decode cX12_takings 203 = .ok (.idiv, 1) := by decide +kernel
theorem dX12_takings_204 : decode cX12_takings 204 = .ok (.istore 10, 2) := by decide +kernel
theorem dX12_takings_206 : decode cX12_takings 206 = .ok (.iload 10, 2) := by decide +kernel
theorem dX12_takings_208 : decode cX12_takings 208 = .ok (.iload 6, 2) := by decide +kernel
theorem dX12_takings_210 : decode cX12_takings 210 = .ok (.if_icmp .le 7, 3) := by decide +kernel
theorem dX12_takings_213 : decode cX12_takings 213 = .ok (.iload 6, 2) := by decide +kernel
theorem dX12_takings_215 : decode cX12_takings 215 = .ok (.istore 10, 2) := by decide +kernel
theorem dX12_takings_217 : decode cX12_takings 217 = .ok (.aload_n 0, 1) := by decide +kernel
theorem dX12_takings_218 : decode cX12_takings 218 = .ok (.getfield 63, 3) := by decide +kernel
theorem dX12_takings_221 : decode cX12_takings 221 = .ok (.iload 9, 2) := by decide +kernel
theorem dX12_takings_223 : decode cX12_takings 223 = .ok (.dup2, 1) := by decide +kernel
theorem dX12_takings_224 : decode cX12_takings 224 = .ok (.iaload, 1) := by decide +kernel
theorem dX12_takings_225 : decode cX12_takings 225 = .ok (.iload 10, 2) := by decide +kernel
theorem dX12_takings_227 : decode cX12_takings 227 = .ok (.iadd, 1) := by decide +kernel
theorem dX12_takings_228 : decode cX12_takings 228 = .ok (.iastore, 1) := by decide +kernel
theorem dX12_takings_229 : decode cX12_takings 229 = .ok (.iload 6, 2) := by decide +kernel
theorem dX12_takings_231 : decode cX12_takings 231 = .ok (.iload 10, 2) := by decide +kernel
theorem dX12_takings_233 : decode cX12_takings 233 = .ok (.isub, 1) := by decide +kernel
theorem dX12_takings_234 : decode cX12_takings 234 = .ok (.istore 6, 2) := by decide +kernel
theorem dX12_takings_236 : decode cX12_takings 236 = .ok (.iinc 9 1, 3) := by decide +kernel
theorem dX12_takings_239 : decode cX12_takings 239 = .ok (.goto (-87), 3) := by decide +kernel
theorem dX12_takings_242 : decode cX12_takings 242 = .ok (.aload_n 0, 1) := by decide +kernel
theorem dX12_takings_243 : decode cX12_takings 243 = .ok (.dup, 1) := by decide +kernel
theorem dX12_takings_244 : decode cX12_takings 244 = .ok (.getfield 309, 3) := by decide +kernel
theorem dX12_takings_247 : decode cX12_takings 247 = .ok (.iload 6, 2) := by decide +kernel
theorem dX12_takings_249 : decode cX12_takings 249 = .ok (.iadd, 1) := by decide +kernel
theorem dX12_takings_250 : decode cX12_takings 250 = .ok (.putfield 309, 3) := by decide +kernel
theorem dX12_takings_253 : decode cX12_takings 253 = .ok (.iload 6, 2) := by decide +kernel
theorem dX12_takings_255 : decode cX12_takings 255 = .ok (.ireturn, 1) := by decide +kernel
theorem dX12_got_0 : decode cX12_got 0 = .ok (.iload_n 1, 1) := by decide +kernel
theorem dX12_got_1 : decode cX12_got 1 = .ok (.ifCond .ne 18, 3) := by decide +kernel
theorem dX12_got_4 : decode cX12_got 4 = .ok (.aload_n 0, 1) := by decide +kernel
theorem dX12_got_5 : decode cX12_got 5 = .ok (.iload_n 2, 1) := by decide +kernel
theorem dX12_got_6 : decode cX12_got 6 = .ok (.invokevirtual 369, 3) := by decide +kernel
theorem dX12_got_9 : decode cX12_got 9 = .ok (.ifCond .eq 10, 3) := by decide +kernel
theorem dX12_got_12 : decode cX12_got 12 = .ok (.aload_n 0, 1) := by decide +kernel
theorem dX12_got_13 : decode cX12_got 13 = .ok (.getfield 175, 3) := by decide +kernel
theorem dX12_got_16 : decode cX12_got 16 = .ok (.iload_n 2, 1) := by decide +kernel
theorem dX12_got_17 : decode cX12_got 17 = .ok (.iaload, 1) := by decide +kernel
theorem dX12_got_18 : decode cX12_got 18 = .ok (.ireturn, 1) := by decide +kernel
theorem dX12_got_19 : decode cX12_got 19 = .ok (.iload_n 1, 1) := by decide +kernel
theorem dX12_got_20 : decode cX12_got 20 = .ok (.iconst 1, 1) := by decide +kernel
theorem dX12_got_21 : decode cX12_got 21 = .ok (.if_icmp .ne 20, 3) := by decide +kernel
theorem dX12_got_24 : decode cX12_got 24 = .ok (.aload_n 0, 1) := by decide +kernel
theorem dX12_got_25 : decode cX12_got 25 = .ok (.iload_n 2, 1) := by decide +kernel
theorem dX12_got_26 : decode cX12_got 26 = .ok (.invokevirtual 277, 3) := by decide +kernel
theorem dX12_got_29 : decode cX12_got 29 = .ok (.ifCond .eq 12, 3) := by decide +kernel
theorem dX12_got_32 : decode cX12_got 32 = .ok (.aload_n 0, 1) := by decide +kernel
theorem dX12_got_33 : decode cX12_got 33 = .ok (.getfield 63, 3) := by decide +kernel
theorem dX12_got_36 : decode cX12_got 36 = .ok (.iload_n 2, 1) := by decide +kernel
theorem dX12_got_37 : decode cX12_got 37 = .ok (.iaload, 1) := by decide +kernel
theorem dX12_got_38 : decode cX12_got 38 = .ok (.goto 4, 3) := by decide +kernel
theorem dX12_got_41 : decode cX12_got 41 = .ok (.iconst (-1), 1) := by decide +kernel
theorem dX12_got_42 : decode cX12_got 42 = .ok (.ireturn, 1) := by decide +kernel
theorem dX12_lot_0 : decode cX12_lot 0 = .ok (.aload_n 0, 1) := by decide +kernel
theorem dX12_lot_1 : decode cX12_lot 1 = .ok (.iload_n 1, 1) := by decide +kernel
theorem dX12_lot_2 : decode cX12_lot 2 = .ok (.invokevirtual 253, 3) := by decide +kernel
theorem dX12_lot_5 : decode cX12_lot 5 = .ok (.ifCond .ne 9, 3) := by decide +kernel
theorem dX12_lot_8 : decode cX12_lot 8 = .ok (.aload_n 0, 1) := by decide +kernel
theorem dX12_lot_9 : decode cX12_lot 9 = .ok (.iconst (-1), 1) := by decide +kernel
theorem dX12_lot_10 : decode cX12_lot 10 = .ok (.invokevirtual 263, 3) := by decide +kernel
theorem dX12_lot_13 : decode cX12_lot 13 = .ok (.ireturn, 1) := by decide +kernel
theorem dX12_lot_14 : decode cX12_lot 14 = .ok (.iload_n 2, 1) := by decide +kernel
theorem dX12_lot_15 : decode cX12_lot 15 = .ok (.iconst 1, 1) := by decide +kernel
theorem dX12_lot_16 : decode cX12_lot 16 = .ok (.if_icmp .lt 8, 3) := by decide +kernel
theorem dX12_lot_19 : decode cX12_lot 19 = .ok (.iload_n 2, 1) := by decide +kernel
theorem dX12_lot_20 : decode cX12_lot 20 = .ok (.iconst 4, 1) := by decide +kernel
theorem dX12_lot_21 : decode cX12_lot 21 = .ok (.if_icmp .le 10, 3) := by decide +kernel
theorem dX12_lot_24 : decode cX12_lot 24 = .ok (.aload_n 0, 1) := by decide +kernel
theorem dX12_lot_25 : decode cX12_lot 25 = .ok (.bipush (-6), 2) := by decide +kernel
theorem dX12_lot_27 : decode cX12_lot 27 = .ok (.invokevirtual 263, 3) := by decide +kernel
theorem dX12_lot_30 : decode cX12_lot 30 = .ok (.ireturn, 1) := by decide +kernel
theorem dX12_lot_31 : decode cX12_lot 31 = .ok (.aload_n 0, 1) := by decide +kernel
theorem dX12_lot_32 : decode cX12_lot 32 = .ok (.getfield 184, 3) := by decide +kernel
theorem dX12_lot_35 : decode cX12_lot 35 = .ok (.iload_n 1, 1) := by decide +kernel
theorem dX12_lot_36 : decode cX12_lot 36 = .ok (.iaload, 1) := by decide +kernel
theorem dX12_lot_37 : decode cX12_lot 37 = .ok (.istore_n 3, 1) := by decide +kernel
theorem dX12_lot_38 : decode cX12_lot 38 = .ok (.aload_n 0, 1) := by decide +kernel
theorem dX12_lot_39 : decode cX12_lot 39 = .ok (.getfield 184, 3) := by decide +kernel
theorem dX12_lot_42 : decode cX12_lot 42 = .ok (.iload_n 1, 1) := by decide +kernel
theorem dX12_lot_43 : decode cX12_lot 43 = .ok (.iload_n 2, 1) := by decide +kernel
theorem dX12_lot_44 : decode cX12_lot 44 = .ok (.iastore, 1) := by decide +kernel
theorem dX12_lot_45 : decode cX12_lot 45 = .ok (.iload_n 3, 1) := by decide +kernel
theorem dX12_lot_46 : decode cX12_lot 46 = .ok (.ireturn, 1) := by decide +kernel
theorem dX12_worth_0 : decode cX12_worth 0 = .ok (.aload_n 0, 1) := by decide +kernel
theorem dX12_worth_1 : decode cX12_worth 1 = .ok (.iload_n 1, 1) := by decide +kernel
theorem dX12_worth_2 : decode cX12_worth 2 = .ok (.invokevirtual 253, 3) := by decide +kernel
theorem dX12_worth_5 : decode cX12_worth 5 = .ok (.ifCond .ne 9, 3) := by decide +kernel
theorem dX12_worth_8 : decode cX12_worth 8 = .ok (.aload_n 0, 1) := by decide +kernel
theorem dX12_worth_9 : decode cX12_worth 9 = .ok (.iconst (-1), 1) := by decide +kernel
theorem dX12_worth_10 : decode cX12_worth 10 = .ok (.invokevirtual 263, 3) := by decide +kernel
theorem dX12_worth_13 : decode cX12_worth 13 = .ok (.ireturn, 1) := by decide +kernel
theorem dX12_worth_14 : decode cX12_worth 14 = .ok (.iload_n 2, 1) := by decide +kernel
theorem dX12_worth_15 : decode cX12_worth 15 = .ok (.ifCond .lt 20, 3) := by decide +kernel
theorem dX12_worth_18 : decode cX12_worth 18 = .ok (.iload_n 2, 1) := by decide +kernel
theorem dX12_worth_19 : decode cX12_worth 19 = .ok (.bipush 7, 2) := by decide +kernel
theorem dX12_worth_21 : decode cX12_worth 21 = .ok (.if_icmp .gt 14, 3) := by decide +kernel
theorem dX12_worth_24 : decode cX12_worth 24 = .ok (.iload_n 3, 1) := by decide +kernel
theorem dX12_worth_25 : decode cX12_worth 25 = .ok (.ifCond .lt 10, 3) := by decide +kernel
theorem dX12_worth_28 : decode cX12_worth 28 = .ok (.iload_n 3, 1) := by decide +kernel
theorem dX12_worth_29 : decode cX12_worth 29 = .ok (.sipush 999, 3) := by decide +kernel
theorem dX12_worth_32 : decode cX12_worth 32 = .ok (.if_icmp .le 10, 3) := by decide +kernel
theorem dX12_worth_35 : decode cX12_worth 35 = .ok (.aload_n 0, 1) := by decide +kernel
theorem dX12_worth_36 : decode cX12_worth 36 = .ok (.bipush (-6), 2) := by decide +kernel
theorem dX12_worth_38 : decode cX12_worth 38 = .ok (.invokevirtual 263, 3) := by decide +kernel
theorem dX12_worth_41 : decode cX12_worth 41 = .ok (.ireturn, 1) := by decide +kernel
theorem dX12_worth_42 : decode cX12_worth 42 = .ok (.aload_n 0, 1) := by decide +kernel
theorem dX12_worth_43 : decode cX12_worth 43 = .ok (.getfield 187, 3) := by decide +kernel
theorem dX12_worth_46 : decode cX12_worth 46 = .ok (.bipush 8, 2) := by decide +kernel
theorem dX12_worth_48 : decode cX12_worth 48 = .ok (.iload_n 1, 1) := by decide +kernel
theorem dX12_worth_49 : decode cX12_worth 49 = .ok (.imul, 1) := by decide +kernel
theorem dX12_worth_50 : decode cX12_worth 50 = .ok (.iload_n 2, 1) := by decide +kernel
theorem dX12_worth_51 : decode cX12_worth 51 = .ok (.iadd, 1) := by decide +kernel
theorem dX12_worth_52 : decode cX12_worth 52 = .ok (.iaload, 1) := by decide +kernel
theorem dX12_worth_53 : decode cX12_worth 53 = .ok (.istore 4, 2) := by decide +kernel
theorem dX12_worth_55 : decode cX12_worth 55 = .ok (.aload_n 0, 1) := by decide +kernel
theorem dX12_worth_56 : decode cX12_worth 56 = .ok (.getfield 187, 3) := by decide +kernel
theorem dX12_worth_59 : decode cX12_worth 59 = .ok (.bipush 8, 2) := by decide +kernel
theorem dX12_worth_61 : decode cX12_worth 61 = .ok (.iload_n 1, 1) := by decide +kernel
theorem dX12_worth_62 : decode cX12_worth 62 = .ok (.imul, 1) := by decide +kernel
theorem dX12_worth_63 : decode cX12_worth 63 = .ok (.iload_n 2, 1) := by decide +kernel
theorem dX12_worth_64 : decode cX12_worth 64 = .ok (.iadd, 1) := by decide +kernel
theorem dX12_worth_65 : decode cX12_worth 65 = .ok (.iload_n 3, 1) := by decide +kernel
theorem dX12_worth_66 : decode cX12_worth 66 = .ok (.iastore, 1) := by decide +kernel
theorem dX12_worth_67 : decode cX12_worth 67 = .ok (.iload 4, 2) := by decide +kernel
theorem dX12_worth_69 : decode cX12_worth 69 = .ok (.ireturn, 1) := by decide +kernel
theorem dX12_isIn_0 : decode cX12_isIn 0 = .ok (.iload_n 2, 1) := by decide +kernel
theorem dX12_isIn_1 : decode cX12_isIn 1 = .ok (.bipush 8, 2) := by decide +kernel
theorem dX12_isIn_3 : decode cX12_isIn 3 = .ok (.if_icmp .ge 24, 3) := by decide +kernel
theorem dX12_isIn_6 : decode cX12_isIn 6 = .ok (.iload_n 3, 1) := by decide +kernel
theorem dX12_isIn_7 : decode cX12_isIn 7 = .ok (.iload_n 2, 1) := by decide +kernel
theorem dX12_isIn_8 : decode cX12_isIn 8 = .ok (.if_icmp .lt 19, 3) := by decide +kernel
theorem dX12_isIn_11 : decode cX12_isIn 11 = .ok (.iload_n 3, 1) := by decide +kernel
theorem dX12_isIn_12 : decode cX12_isIn 12 = .ok (.iload_n 2, 1) := by decide +kernel
theorem dX12_isIn_13 : decode cX12_isIn 13 = .ok (.aload_n 0, 1) := by decide +kernel
theorem dX12_isIn_14 : decode cX12_isIn 14 = .ok (.getfield 184, 3) := by decide +kernel
theorem dX12_isIn_17 : decode cX12_isIn 17 = .ok (.iload_n 1, 1) := by decide +kernel
theorem dX12_isIn_18 : decode cX12_isIn 18 = .ok (.iaload, 1) := by decide +kernel
theorem dX12_isIn_19 : decode cX12_isIn 19 = .ok (.iadd, 1) := by decide +kernel
theorem dX12_isIn_20 : decode cX12_isIn 20 = .ok (.if_icmp .ge 7, 3) := by decide +kernel
theorem dX12_isIn_23 : decode cX12_isIn 23 = .ok (.iconst 1, 1) := by decide +kernel
theorem dX12_isIn_24 : decode cX12_isIn 24 = .ok (.goto 4, 3) := by decide +kernel
theorem dX12_isIn_27 : decode cX12_isIn 27 = .ok (.iconst 0, 1) := by decide +kernel
theorem dX12_isIn_28 : decode cX12_isIn 28 = .ok (.ireturn, 1) := by decide +kernel
theorem dX12_mayBegin_0 : decode cX12_mayBegin 0 = .ok (.aload_n 0, 1) := by decide +kernel
theorem dX12_mayBegin_1 : decode cX12_mayBegin 1 = .ok (.getfield 88, 3) := by decide +kernel
theorem dX12_mayBegin_4 : decode cX12_mayBegin 4 = .ok (.iload_n 1, 1) := by decide +kernel
theorem dX12_mayBegin_5 : decode cX12_mayBegin 5 = .ok (.iaload, 1) := by decide +kernel
theorem dX12_mayBegin_6 : decode cX12_mayBegin 6 = .ok (.iconst 3, 1) := by decide +kernel
theorem dX12_mayBegin_7 : decode cX12_mayBegin 7 = .ok (.invokestatic 267, 3) := by decide +kernel
theorem dX12_mayBegin_10 : decode cX12_mayBegin 10 = .ok (.ifCond .eq 14, 3) := by decide +kernel
theorem dX12_mayBegin_13 : decode cX12_mayBegin 13 = .ok (.iload_n 2, 1) := by decide +kernel
theorem dX12_mayBegin_14 : decode cX12_mayBegin 14 = .ok (.ifCond .eq 10, 3) := by decide +kernel
theorem dX12_mayBegin_17 : decode cX12_mayBegin 17 = .ok (.iload_n 2, 1) := by decide +kernel
theorem dX12_mayBegin_18 : decode cX12_mayBegin 18 = .ok (.iconst 4, 1) := by decide +kernel
theorem dX12_mayBegin_19 : decode cX12_mayBegin 19 = .ok (.if_icmp .eq 5, 3) := by decide +kernel
theorem dX12_mayBegin_22 : decode cX12_mayBegin 22 = .ok (.iconst 0, 1) := by decide +kernel
theorem dX12_mayBegin_23 : decode cX12_mayBegin 23 = .ok (.ireturn, 1) := by decide +kernel
theorem dX12_mayBegin_24 : decode cX12_mayBegin 24 = .ok (.iload_n 2, 1) := by decide +kernel
theorem dX12_mayBegin_25 : decode cX12_mayBegin 25 = .ok (.istore 4, 2) := by decide +kernel
theorem dX12_mayBegin_27 : decode cX12_mayBegin 27 = .ok (.iload 4, 2) := by decide +kernel
theorem dX12_mayBegin_29 : decode cX12_mayBegin 29 = .ok (.bipush 8, 2) := by decide +kernel
theorem dX12_mayBegin_31 : decode cX12_mayBegin 31 = .ok (.if_icmp .ge 91, 3) := by decide +kernel
theorem dX12_mayBegin_34 : decode cX12_mayBegin 34 = .ok (.iload 4, 2) := by decide +kernel
theorem dX12_mayBegin_36 : decode cX12_mayBegin 36 = .ok (.iload_n 2, 1) := by decide +kernel
theorem dX12_mayBegin_37 : decode cX12_mayBegin 37 = .ok (.aload_n 0, 1) := by decide +kernel
theorem dX12_mayBegin_38 : decode cX12_mayBegin 38 = .ok (.getfield 184, 3) := by decide +kernel
theorem dX12_mayBegin_41 : decode cX12_mayBegin 41 = .ok (.iload_n 1, 1) := by decide +kernel
theorem dX12_mayBegin_42 : decode cX12_mayBegin 42 = .ok (.iaload, 1) := by decide +kernel
theorem dX12_mayBegin_43 : decode cX12_mayBegin 43 = .ok (.iadd, 1) := by decide +kernel
theorem dX12_mayBegin_44 : decode cX12_mayBegin 44 = .ok (.if_icmp .ge 78, 3) := by decide +kernel
theorem dX12_mayBegin_47 : decode cX12_mayBegin 47 = .ok (.iconst 1, 1) := by decide +kernel
theorem dX12_mayBegin_48 : decode cX12_mayBegin 48 = .ok (.istore 5, 2) := by decide +kernel
theorem dX12_mayBegin_50 : decode cX12_mayBegin 50 = .ok (.iconst 0, 1) := by decide +kernel
theorem dX12_mayBegin_51 : decode cX12_mayBegin 51 = .ok (.istore 6, 2) := by decide +kernel
theorem dX12_mayBegin_53 : decode cX12_mayBegin 53 = .ok (.iload 6, 2) := by decide +kernel
theorem dX12_mayBegin_55 : decode cX12_mayBegin 55 = .ok (.iload_n 1, 1) := by decide +kernel
theorem dX12_mayBegin_56 : decode cX12_mayBegin 56 = .ok (.if_icmp .ge 52, 3) := by decide +kernel
theorem dX12_mayBegin_59 : decode cX12_mayBegin 59 = .ok (.aload_n 0, 1) := by decide +kernel
theorem dX12_mayBegin_60 : decode cX12_mayBegin 60 = .ok (.iload 6, 2) := by decide +kernel
theorem dX12_mayBegin_62 : decode cX12_mayBegin 62 = .ok (.aload_n 0, 1) := by decide +kernel
theorem dX12_mayBegin_63 : decode cX12_mayBegin 63 = .ok (.getfield 235, 3) := by decide +kernel
theorem dX12_mayBegin_66 : decode cX12_mayBegin 66 = .ok (.iload 6, 2) := by decide +kernel
theorem dX12_mayBegin_68 : decode cX12_mayBegin 68 = .ok (.iaload, 1) := by decide +kernel
theorem dX12_mayBegin_69 : decode cX12_mayBegin 69 = .ok (.iload 4, 2) := by decide +kernel
theorem dX12_mayBegin_71 : decode cX12_mayBegin 71 = .ok (.invokevirtual 379, 3) := by decide +kernel
theorem dX12_mayBegin_74 : decode cX12_mayBegin 74 = .ok (.ifCond .ne 6, 3) := by decide +kernel
theorem dX12_mayBegin_77 : decode cX12_mayBegin 77 = .ok (.goto 25, 3) := by decide +kernel
theorem dX12_mayBegin_80 : decode cX12_mayBegin 80 = .ok (.iinc 5 1, 3) := by decide +kernel
theorem dX12_mayBegin_83 : decode cX12_mayBegin 83 = .ok (.aload_n 0, 1) := by decide +kernel
theorem dX12_mayBegin_84 : decode cX12_mayBegin 84 = .ok (.getfield 244, 3) := by decide +kernel
theorem dX12_mayBegin_87 : decode cX12_mayBegin 87 = .ok (.iload_n 1, 1) := by decide +kernel
theorem dX12_mayBegin_88 : decode cX12_mayBegin 88 = .ok (.iaload, 1) := by decide +kernel
theorem dX12_mayBegin_89 : decode cX12_mayBegin 89 = .ok (.aload_n 0, 1) := by decide +kernel
theorem dX12_mayBegin_90 : decode cX12_mayBegin 90 = .ok (.getfield 244, 3) := by decide +kernel
theorem dX12_mayBegin_93 : decode cX12_mayBegin 93 = .ok (.iload 6, 2) := by decide +kernel
theorem dX12_mayBegin_95 : decode cX12_mayBegin 95 = .ok (.iaload, 1) := by decide +kernel
theorem dX12_mayBegin_96 : decode cX12_mayBegin 96 = .ok (.iand, 1) := by decide +kernel
theorem dX12_mayBegin_97 : decode cX12_mayBegin 97 = .ok (.ifCond .eq 5, 3) := by decide +kernel
theorem dX12_mayBegin_100 : decode cX12_mayBegin 100 = .ok (.iconst 0, 1) := by decide +kernel
theorem dX12_mayBegin_101 : decode cX12_mayBegin 101 = .ok (.ireturn, 1) := by decide +kernel
theorem dX12_mayBegin_102 : decode cX12_mayBegin 102 = .ok (.iinc 6 1, 3) := by decide +kernel
theorem dX12_mayBegin_105 : decode cX12_mayBegin 105 = .ok (.goto (-52), 3) := by decide +kernel
theorem dX12_mayBegin_108 : decode cX12_mayBegin 108 = .ok (.iload 5, 2) := by decide +kernel
theorem dX12_mayBegin_110 : decode cX12_mayBegin 110 = .ok (.iload_n 3, 1) := by decide +kernel
theorem dX12_mayBegin_111 : decode cX12_mayBegin 111 = .ok (.if_icmp .le 5, 3) := by decide +kernel
theorem dX12_mayBegin_114 : decode cX12_mayBegin 114 = .ok (.iconst 0, 1) := by decide +kernel
theorem dX12_mayBegin_115 : decode cX12_mayBegin 115 = .ok (.ireturn, 1) := by decide +kernel
theorem dX12_mayBegin_116 : decode cX12_mayBegin 116 = .ok (.iinc 4 1, 3) := by decide +kernel
theorem dX12_mayBegin_119 : decode cX12_mayBegin 119 = .ok (.goto (-92), 3) := by decide +kernel
theorem dX12_mayBegin_122 : decode cX12_mayBegin 122 = .ok (.iconst 1, 1) := by decide +kernel
theorem dX12_mayBegin_123 : decode cX12_mayBegin 123 = .ok (.ireturn, 1) := by decide +kernel
theorem dX12_plan_0 : decode cX12_plan 0 = .ok (.iload_n 1, 1) := by decide +kernel
theorem dX12_plan_1 : decode cX12_plan 1 = .ok (.iconst 1, 1) := by decide +kernel
theorem dX12_plan_2 : decode cX12_plan 2 = .ok (.if_icmp .lt 8, 3) := by decide +kernel
theorem dX12_plan_5 : decode cX12_plan 5 = .ok (.iload_n 1, 1) := by decide +kernel
theorem dX12_plan_6 : decode cX12_plan 6 = .ok (.iconst 3, 1) := by decide +kernel
theorem dX12_plan_7 : decode cX12_plan 7 = .ok (.if_icmp .le 10, 3) := by decide +kernel
theorem dX12_plan_10 : decode cX12_plan 10 = .ok (.aload_n 0, 1) := by decide +kernel
theorem dX12_plan_11 : decode cX12_plan 11 = .ok (.bipush (-6), 2) := by decide +kernel
theorem dX12_plan_13 : decode cX12_plan 13 = .ok (.invokevirtual 263, 3) := by decide +kernel
theorem dX12_plan_16 : decode cX12_plan 16 = .ok (.ireturn, 1) := by decide +kernel
theorem dX12_plan_17 : decode cX12_plan 17 = .ok (.aload_n 0, 1) := by decide +kernel
theorem dX12_plan_18 : decode cX12_plan 18 = .ok (.getfield 250, 3) := by decide +kernel
theorem dX12_plan_21 : decode cX12_plan 21 = .ok (.iconst 5, 1) := by decide +kernel
theorem dX12_plan_22 : decode cX12_plan 22 = .ok (.if_icmp .le 10, 3) := by decide +kernel
theorem dX12_plan_25 : decode cX12_plan 25 = .ok (.aload_n 0, 1) := by decide +kernel
theorem dX12_plan_26 : decode cX12_plan 26 = .ok (.bipush (-7), 2) := by decide +kernel
theorem dX12_plan_28 : decode cX12_plan 28 = .ok (.invokevirtual 263, 3) := by decide +kernel
theorem dX12_plan_31 : decode cX12_plan 31 = .ok (.ireturn, 1) := by decide +kernel
theorem dX12_plan_32 : decode cX12_plan 32 = .ok (.aload_n 0, 1) := by decide +kernel
theorem dX12_plan_33 : decode cX12_plan 33 = .ok (.getfield 250, 3) := by decide +kernel
theorem dX12_plan_36 : decode cX12_plan 36 = .ok (.istore_n 2, 1) := by decide +kernel
theorem dX12_plan_37 : decode cX12_plan 37 = .ok (.aload_n 0, 1) := by decide +kernel
theorem dX12_plan_38 : decode cX12_plan 38 = .ok (.getfield 241, 3) := by decide +kernel
theorem dX12_plan_41 : decode cX12_plan 41 = .ok (.iload_n 2, 1) := by decide +kernel
theorem dX12_plan_42 : decode cX12_plan 42 = .ok (.iconst 0, 1) := by decide +kernel
theorem dX12_plan_43 : decode cX12_plan 43 = .ok (.iastore, 1) := by decide +kernel
theorem dX12_plan_44 : decode cX12_plan 44 = .ok (.iload_n 2, 1) := by decide +kernel
theorem dX12_plan_45 : decode cX12_plan 45 = .ok (.iconst 1, 1) := by decide +kernel
theorem dX12_plan_46 : decode cX12_plan 46 = .ok (.isub, 1) := by decide +kernel
theorem dX12_plan_47 : decode cX12_plan 47 = .ok (.istore_n 3, 1) := by decide +kernel
theorem dX12_plan_48 : decode cX12_plan 48 = .ok (.iload_n 3, 1) := by decide +kernel
theorem dX12_plan_49 : decode cX12_plan 49 = .ok (.ifCond .lt 97, 3) := by decide +kernel
theorem dX12_plan_52 : decode cX12_plan 52 = .ok (.aload_n 0, 1) := by decide +kernel
theorem dX12_plan_53 : decode cX12_plan 53 = .ok (.getfield 244, 3) := by decide +kernel
theorem dX12_plan_56 : decode cX12_plan 56 = .ok (.iload_n 3, 1) := by decide +kernel
theorem dX12_plan_57 : decode cX12_plan 57 = .ok (.aload_n 0, 1) := by decide +kernel
theorem dX12_plan_58 : decode cX12_plan 58 = .ok (.iload_n 3, 1) := by decide +kernel
theorem dX12_plan_59 : decode cX12_plan 59 = .ok (.iconst 1, 1) := by decide +kernel
theorem dX12_plan_60 : decode cX12_plan 60 = .ok (.aload_n 0, 1) := by decide +kernel
theorem dX12_plan_61 : decode cX12_plan 61 = .ok (.getfield 91, 3) := by decide +kernel
theorem dX12_plan_64 : decode cX12_plan 64 = .ok (.iload_n 3, 1) := by decide +kernel
theorem dX12_plan_65 : decode cX12_plan 65 = .ok (.iaload, 1) := by decide +kernel
theorem dX12_plan_66 : decode cX12_plan 66 = .ok (.ishl, 1) := by decide +kernel
theorem dX12_plan_67 : decode cX12_plan 67 = .ok (.iconst 1, 1) := by decide +kernel
theorem dX12_plan_68 : decode cX12_plan 68 = .ok (.isub, 1) := by decide +kernel
theorem dX12_plan_69 : decode cX12_plan 69 = .ok (.invokevirtual 321, 3) := by decide +kernel
theorem dX12_plan_72 : decode cX12_plan 72 = .ok (.iastore, 1) := by decide +kernel
theorem dX12_plan_73 : decode cX12_plan 73 = .ok (.iconst 0, 1) := by decide +kernel
theorem dX12_plan_74 : decode cX12_plan 74 = .ok (.istore 4, 2) := by decide +kernel
theorem dX12_plan_76 : decode cX12_plan 76 = .ok (.iconst 0, 1) := by decide +kernel
theorem dX12_plan_77 : decode cX12_plan 77 = .ok (.istore 5, 2) := by decide +kernel
theorem dX12_plan_79 : decode cX12_plan 79 = .ok (.iload 5, 2) := by decide +kernel
theorem dX12_plan_81 : decode cX12_plan 81 = .ok (.bipush 8, 2) := by decide +kernel
theorem dX12_plan_83 : decode cX12_plan 83 = .ok (.if_icmp .ge 40, 3) := by decide +kernel
theorem dX12_plan_86 : decode cX12_plan 86 = .ok (.aload_n 0, 1) := by decide +kernel
theorem dX12_plan_87 : decode cX12_plan 87 = .ok (.getfield 187, 3) := by decide +kernel
theorem dX12_plan_90 : decode cX12_plan 90 = .ok (.bipush 8, 2) := by decide +kernel
theorem dX12_plan_92 : decode cX12_plan 92 = .ok (.iload_n 3, 1) := by decide +kernel
theorem dX12_plan_93 : decode cX12_plan 93 = .ok (.imul, 1) := by decide +kernel
theorem dX12_plan_94 : decode cX12_plan 94 = .ok (.iload 5, 2) := by decide +kernel
theorem dX12_plan_96 : decode cX12_plan 96 = .ok (.iadd, 1) := by decide +kernel
theorem dX12_plan_97 : decode cX12_plan 97 = .ok (.iaload, 1) := by decide +kernel
theorem dX12_plan_98 : decode cX12_plan 98 = .ok (.iload 4, 2) := by decide +kernel
theorem dX12_plan_100 : decode cX12_plan 100 = .ok (.if_icmp .le 17, 3) := by decide +kernel
theorem dX12_plan_103 : decode cX12_plan 103 = .ok (.aload_n 0, 1) := by decide +kernel
theorem dX12_plan_104 : decode cX12_plan 104 = .ok (.getfield 187, 3) := by decide +kernel
theorem dX12_plan_107 : decode cX12_plan 107 = .ok (.bipush 8, 2) := by decide +kernel
theorem dX12_plan_109 : decode cX12_plan 109 = .ok (.iload_n 3, 1) := by decide +kernel
theorem dX12_plan_110 : decode cX12_plan 110 = .ok (.imul, 1) := by decide +kernel
theorem dX12_plan_111 : decode cX12_plan 111 = .ok (.iload 5, 2) := by decide +kernel
theorem dX12_plan_113 : decode cX12_plan 113 = .ok (.iadd, 1) := by decide +kernel
theorem dX12_plan_114 : decode cX12_plan 114 = .ok (.iaload, 1) := by decide +kernel
theorem dX12_plan_115 : decode cX12_plan 115 = .ok (.istore 4, 2) := by decide +kernel
theorem dX12_plan_117 : decode cX12_plan 117 = .ok (.iinc 5 1, 3) := by decide +kernel
theorem dX12_plan_120 : decode cX12_plan 120 = .ok (.goto (-41), 3) := by decide +kernel
theorem dX12_plan_123 : decode cX12_plan 123 = .ok (.aload_n 0, 1) := by decide +kernel
theorem dX12_plan_124 : decode cX12_plan 124 = .ok (.getfield 241, 3) := by decide +kernel
theorem dX12_plan_127 : decode cX12_plan 127 = .ok (.iload_n 3, 1) := by decide +kernel
theorem dX12_plan_128 : decode cX12_plan 128 = .ok (.aload_n 0, 1) := by decide +kernel
theorem dX12_plan_129 : decode cX12_plan 129 = .ok (.getfield 241, 3) := by decide +kernel
theorem dX12_plan_132 : decode cX12_plan 132 = .ok (.iload_n 3, 1) := by decide +kernel
theorem dX12_plan_133 : decode cX12_plan 133 = .ok (.iconst 1, 1) := by decide +kernel
theorem dX12_plan_134 : decode cX12_plan 134 = .ok (.iadd, 1) := by decide +kernel
theorem dX12_plan_135 : decode cX12_plan 135 = .ok (.iaload, 1) := by decide +kernel
theorem dX12_plan_136 : decode cX12_plan 136 = .ok (.iload 4, 2) := by decide +kernel
theorem dX12_plan_138 : decode cX12_plan 138 = .ok (.iadd, 1) := by decide +kernel
theorem dX12_plan_139 : decode cX12_plan 139 = .ok (.iastore, 1) := by decide +kernel
theorem dX12_plan_140 : decode cX12_plan 140 = .ok (.iinc 3 (-1), 3) := by decide +kernel
theorem dX12_plan_143 : decode cX12_plan 143 = .ok (.goto (-95), 3) := by decide +kernel
theorem dX12_plan_146 : decode cX12_plan 146 = .ok (.iconst (-1), 1) := by decide +kernel
theorem dX12_plan_147 : decode cX12_plan 147 = .ok (.istore_n 3, 1) := by decide +kernel
theorem dX12_plan_148 : decode cX12_plan 148 = .ok (.iconst 0, 1) := by decide +kernel
theorem dX12_plan_149 : decode cX12_plan 149 = .ok (.istore 4, 2) := by decide +kernel
theorem dX12_plan_151 : decode cX12_plan 151 = .ok (.aload_n 0, 1) := by decide +kernel
theorem dX12_plan_152 : decode cX12_plan 152 = .ok (.getfield 238, 3) := by decide +kernel
theorem dX12_plan_155 : decode cX12_plan 155 = .ok (.iconst 0, 1) := by decide +kernel
theorem dX12_plan_156 : decode cX12_plan 156 = .ok (.iconst 0, 1) := by decide +kernel
theorem dX12_plan_157 : decode cX12_plan 157 = .ok (.iastore, 1) := by decide +kernel
theorem dX12_plan_158 : decode cX12_plan 158 = .ok (.aload_n 0, 1) := by decide +kernel
theorem dX12_plan_159 : decode cX12_plan 159 = .ok (.getfield 235, 3) := by decide +kernel
theorem dX12_plan_162 : decode cX12_plan 162 = .ok (.iconst 0, 1) := by decide +kernel
theorem dX12_plan_163 : decode cX12_plan 163 = .ok (.iconst (-1), 1) := by decide +kernel
theorem dX12_plan_164 : decode cX12_plan 164 = .ok (.iastore, 1) := by decide +kernel
theorem dX12_plan_165 : decode cX12_plan 165 = .ok (.iload 4, 2) := by decide +kernel
theorem dX12_plan_167 : decode cX12_plan 167 = .ok (.ifCond .lt 245, 3) := by decide +kernel
theorem dX12_plan_170 : decode cX12_plan 170 = .ok (.iload 4, 2) := by decide +kernel
theorem dX12_plan_172 : decode cX12_plan 172 = .ok (.iload_n 2, 1) := by decide +kernel
theorem dX12_plan_173 : decode cX12_plan 173 = .ok (.if_icmp .ne 78, 3) := by decide +kernel
theorem dX12_plan_176 : decode cX12_plan 176 = .ok (.aload_n 0, 1) := by decide +kernel
theorem dX12_plan_177 : decode cX12_plan 177 = .ok (.getfield 238, 3) := by decide +kernel
theorem dX12_plan_180 : decode cX12_plan 180 = .ok (.iload_n 2, 1) := by decide +kernel
theorem dX12_plan_181 : decode cX12_plan 181 = .ok (.iaload, 1) := by decide +kernel
theorem dX12_plan_182 : decode cX12_plan 182 = .ok (.iload_n 3, 1) := by decide +kernel
theorem dX12_plan_183 : decode cX12_plan 183 = .ok (.if_icmp .le 62, 3) := by decide +kernel
theorem dX12_plan_186 : decode cX12_plan 186 = .ok (.aload_n 0, 1) := by decide +kernel
theorem dX12_plan_187 : decode cX12_plan 187 = .ok (.getfield 238, 3) := by decide +kernel
theorem dX12_plan_190 : decode cX12_plan 190 = .ok (.iload_n 2, 1) := by decide +kernel
theorem dX12_plan_191 : decode cX12_plan 191 = .ok (.iaload, 1) := by decide +kernel
theorem dX12_plan_192 : decode cX12_plan 192 = .ok (.istore_n 3, 1) := by decide +kernel
theorem dX12_plan_193 : decode cX12_plan 193 = .ok (.iconst 0, 1) := by decide +kernel
theorem dX12_plan_194 : decode cX12_plan 194 = .ok (.istore 5, 2) := by decide +kernel
theorem dX12_plan_196 : decode cX12_plan 196 = .ok (.iload 5, 2) := by decide +kernel
theorem dX12_plan_198 : decode cX12_plan 198 = .ok (.bipush 8, 2) := by decide +kernel
theorem dX12_plan_200 : decode cX12_plan 200 = .ok (.if_icmp .ge 45, 3) := by decide +kernel
theorem dX12_plan_203 : decode cX12_plan 203 = .ok (.aload_n 0, 1) := by decide +kernel
theorem dX12_plan_204 : decode cX12_plan 204 = .ok (.getfield 190, 3) := by decide +kernel
theorem dX12_plan_207 : decode cX12_plan 207 = .ok (.iload 5, 2) := by decide +kernel
theorem dX12_plan_209 : decode cX12_plan 209 = .ok (.iload 5, 2) := by decide +kernel
theorem dX12_plan_211 : decode cX12_plan 211 = .ok (.iload_n 2, 1) := by decide +kernel
theorem dX12_plan_212 : decode cX12_plan 212 = .ok (.if_icmp .ge 25, 3) := by decide +kernel
theorem dX12_plan_215 : decode cX12_plan 215 = .ok (.aload_n 0, 1) := by decide +kernel
theorem dX12_plan_216 : decode cX12_plan 216 = .ok (.getfield 235, 3) := by decide +kernel
theorem dX12_plan_219 : decode cX12_plan 219 = .ok (.iload 5, 2) := by decide +kernel
theorem dX12_plan_221 : decode cX12_plan 221 = .ok (.iaload, 1) := by decide +kernel
theorem dX12_plan_222 : decode cX12_plan 222 = .ok (.bipush 8, 2) := by decide +kernel
theorem dX12_plan_224 : decode cX12_plan 224 = .ok (.if_icmp .ge 13, 3) := by decide +kernel
theorem dX12_plan_227 : decode cX12_plan 227 = .ok (.aload_n 0, 1) := by decide +kernel
theorem dX12_plan_228 : decode cX12_plan 228 = .ok (.getfield 235, 3) := by decide +kernel
theorem dX12_plan_231 : decode cX12_plan 231 = .ok (.iload 5, 2) := by decide +kernel
theorem dX12_plan_233 : decode cX12_plan 233 = .ok (.iaload, 1) := by decide +kernel
theorem dX12_plan_234 : decode cX12_plan 234 = .ok (.goto 4, 3) := by decide +kernel
theorem dX12_plan_237 : decode cX12_plan 237 = .ok (.iconst (-1), 1) := by decide +kernel
theorem dX12_plan_238 : decode cX12_plan 238 = .ok (.iastore, 1) := by decide +kernel
theorem dX12_plan_239 : decode cX12_plan 239 = .ok (.iinc 5 1, 3) := by decide +kernel
theorem dX12_plan_242 : decode cX12_plan 242 = .ok (.goto (-46), 3) := by decide +kernel
theorem dX12_plan_245 : decode cX12_plan 245 = .ok (.iinc 4 (-1), 3) := by decide +kernel
theorem dX12_plan_248 : decode cX12_plan 248 = .ok (.goto (-83), 3) := by decide +kernel
theorem dX12_plan_251 : decode cX12_plan 251 = .ok (.aload_n 0, 1) := by decide +kernel
theorem dX12_plan_252 : decode cX12_plan 252 = .ok (.getfield 235, 3) := by decide +kernel
theorem dX12_plan_255 : decode cX12_plan 255 = .ok (.iload 4, 2) := by decide +kernel
theorem dX12_plan_257 : decode cX12_plan 257 = .ok (.iaload, 1) := by decide +kernel
theorem dX12_plan_258 : decode cX12_plan 258 = .ok (.iconst 1, 1) := by decide +kernel
theorem dX12_plan_259 : decode cX12_plan 259 = .ok (.iadd, 1) := by decide +kernel
theorem dX12_plan_260 : decode cX12_plan 260 = .ok (.istore 5, 2) := by decide +kernel
theorem dX12_plan_262 : decode cX12_plan 262 = .ok (.iconst 0, 1) := by decide +kernel
theorem dX12_plan_263 : decode cX12_plan 263 = .ok (.istore 6, 2) := by decide +kernel
theorem dX12_plan_265 : decode cX12_plan 265 = .ok (.iload 5, 2) := by decide +kernel
theorem dX12_plan_267 : decode cX12_plan 267 = .ok (.bipush 8, 2) := by decide +kernel
theorem dX12_plan_269 : decode cX12_plan 269 = .ok (.if_icmp .gt 109, 3) := by decide +kernel
theorem dX12_plan_272 : decode cX12_plan 272 = .ok (.iload 6, 2) := by decide +kernel
theorem dX12_plan_274 : decode cX12_plan 274 = .ok (.ifCond .ne 104, 3) := by decide +kernel
theorem dX12_plan_277 : decode cX12_plan 277 = .ok (.aload_n 0, 1) := by decide +kernel
theorem dX12_plan_278 : decode cX12_plan 278 = .ok (.getfield 238, 3) := by decide +kernel
theorem dX12_plan_281 : decode cX12_plan 281 = .ok (.iload 4, 2) := by decide +kernel
theorem dX12_plan_283 : decode cX12_plan 283 = .ok (.iconst 1, 1) := by decide +kernel
theorem dX12_plan_284 : decode cX12_plan 284 = .ok (.iadd, 1) := by decide +kernel
theorem dX12_plan_285 : decode cX12_plan 285 = .ok (.aload_n 0, 1) := by decide +kernel
theorem dX12_plan_286 : decode cX12_plan 286 = .ok (.getfield 238, 3) := by decide +kernel
theorem dX12_plan_289 : decode cX12_plan 289 = .ok (.iload 4, 2) := by decide +kernel
theorem dX12_plan_291 : decode cX12_plan 291 = .ok (.iaload, 1) := by decide +kernel
theorem dX12_plan_292 : decode cX12_plan 292 = .ok (.iload 5, 2) := by decide +kernel
theorem dX12_plan_294 : decode cX12_plan 294 = .ok (.bipush 8, 2) := by decide +kernel
theorem dX12_plan_296 : decode cX12_plan 296 = .ok (.if_icmp .ge 19, 3) := by decide +kernel
theorem dX12_plan_299 : decode cX12_plan 299 = .ok (.aload_n 0, 1) := by decide +kernel
theorem dX12_plan_300 : decode cX12_plan 300 = .ok (.getfield 187, 3) := by decide +kernel
theorem dX12_plan_303 : decode cX12_plan 303 = .ok (.bipush 8, 2) := by decide +kernel
theorem dX12_plan_305 : decode cX12_plan 305 = .ok (.iload 4, 2) := by decide +kernel
theorem dX12_plan_307 : decode cX12_plan 307 = .ok (.imul, 1) := by decide +kernel
theorem dX12_plan_308 : decode cX12_plan 308 = .ok (.iload 5, 2) := by decide +kernel
theorem dX12_plan_310 : decode cX12_plan 310 = .ok (.iadd, 1) := by decide +kernel
theorem dX12_plan_311 : decode cX12_plan 311 = .ok (.iaload, 1) := by decide +kernel
theorem dX12_plan_312 : decode cX12_plan 312 = .ok (.goto 4, 3) := by decide +kernel
theorem dX12_plan_315 : decode cX12_plan 315 = .ok (.iconst 0, 1) := by decide +kernel
theorem dX12_plan_316 : decode cX12_plan 316 = .ok (.iadd, 1) := by decide +kernel
theorem dX12_plan_317 : decode cX12_plan 317 = .ok (.iastore, 1) := by decide +kernel
theorem dX12_plan_318 : decode cX12_plan 318 = .ok (.aload_n 0, 1) := by decide +kernel
theorem dX12_plan_319 : decode cX12_plan 319 = .ok (.getfield 238, 3) := by decide +kernel
theorem dX12_plan_322 : decode cX12_plan 322 = .ok (.iload 4, 2) := by decide +kernel
theorem dX12_plan_324 : decode cX12_plan 324 = .ok (.iconst 1, 1) := by decide +kernel
theorem dX12_plan_325 : decode cX12_plan 325 = .ok (.iadd, 1) := by decide +kernel
theorem dX12_plan_326 : decode cX12_plan 326 = .ok (.iaload, 1) := by decide +kernel
theorem dX12_plan_327 : decode cX12_plan 327 = .ok (.aload_n 0, 1) := by decide +kernel
theorem dX12_plan_328 : decode cX12_plan 328 = .ok (.getfield 241, 3) := by decide +kernel
theorem dX12_plan_331 : decode cX12_plan 331 = .ok (.iload 4, 2) := by decide +kernel
theorem dX12_plan_333 : decode cX12_plan 333 = .ok (.iconst 1, 1) := by decide +kernel
theorem dX12_plan_334 : decode cX12_plan 334 = .ok (.iadd, 1) := by decide +kernel
theorem dX12_plan_335 : decode cX12_plan 335 = .ok (.iaload, 1) := by decide +kernel
theorem dX12_plan_336 : decode cX12_plan 336 = .ok (.iadd, 1) := by decide +kernel
theorem dX12_plan_337 : decode cX12_plan 337 = .ok (.iload_n 3, 1) := by decide +kernel
theorem dX12_plan_338 : decode cX12_plan 338 = .ok (.if_icmp .le 26, 3) := by decide +kernel
theorem dX12_plan_341 : decode cX12_plan 341 = .ok (.iload 5, 2) := by decide +kernel
theorem dX12_plan_343 : decode cX12_plan 343 = .ok (.bipush 8, 2) := by decide +kernel
theorem dX12_plan_345 : decode cX12_plan 345 = .ok (.if_icmp .eq 15, 3) := by decide +kernel
theorem dX12_plan_348 : decode cX12_plan 348 = .ok (.aload_n 0, 1) := by decide +kernel
theorem dX12_plan_349 : decode cX12_plan 349 = .ok (.iload 4, 2) := by decide +kernel
theorem dX12_plan_351 : decode cX12_plan 351 = .ok (.iload 5, 2) := by decide +kernel
theorem dX12_plan_353 : decode cX12_plan 353 = .ok (.iload_n 1, 1) := by decide +kernel
theorem dX12_plan_354 : decode cX12_plan 354 = .ok (.invokevirtual 382, 3) := by decide +kernel
theorem dX12_plan_357 : decode cX12_plan 357 = .ok (.ifCond .eq 7, 3) := by decide +kernel
theorem dX12_plan_360 : decode cX12_plan 360 = .ok (.iconst 1, 1) := by decide +kernel
theorem dX12_plan_361 : decode cX12_plan 361 = .ok (.goto 4, 3) := by decide +kernel
theorem dX12_plan_364 : decode cX12_plan 364 = .ok (.iconst 0, 1) := by decide +kernel
theorem dX12_plan_365 : decode cX12_plan 365 = .ok (.istore 6, 2) := by decide +kernel
theorem dX12_plan_367 : decode cX12_plan 367 = .ok (.iload 6, 2) := by decide +kernel
theorem dX12_plan_369 : decode cX12_plan 369 = .ok (.ifCond .ne (-104), 3) := by decide +kernel
theorem dX12_plan_372 : decode cX12_plan 372 = .ok (.iinc 5 1, 3) := by decide +kernel
theorem dX12_plan_375 : decode cX12_plan 375 = .ok (.goto (-110), 3) := by decide +kernel
theorem dX12_plan_378 : decode cX12_plan 378 = .ok (.iload 6, 2) := by decide +kernel
theorem dX12_plan_380 : decode cX12_plan 380 = .ok (.ifCond .ne 9, 3) := by decide +kernel
theorem dX12_plan_383 : decode cX12_plan 383 = .ok (.iinc 4 (-1), 3) := by decide +kernel
theorem dX12_plan_386 : decode cX12_plan 386 = .ok (.goto (-221), 3) := by decide +kernel
theorem dX12_plan_389 : decode cX12_plan 389 = .ok (.aload_n 0, 1) := by decide +kernel
theorem dX12_plan_390 : decode cX12_plan 390 = .ok (.getfield 235, 3) := by decide +kernel
theorem dX12_plan_393 : decode cX12_plan 393 = .ok (.iload 4, 2) := by decide +kernel
theorem dX12_plan_395 : decode cX12_plan 395 = .ok (.iload 5, 2) := by decide +kernel
theorem dX12_plan_397 : decode cX12_plan 397 = .ok (.iastore, 1) := by decide +kernel
theorem dX12_plan_398 : decode cX12_plan 398 = .ok (.iinc 4 1, 3) := by decide +kernel
theorem dX12_plan_401 : decode cX12_plan 401 = .ok (.aload_n 0, 1) := by decide +kernel
theorem dX12_plan_402 : decode cX12_plan 402 = .ok (.getfield 235, 3) := by decide +kernel
theorem dX12_plan_405 : decode cX12_plan 405 = .ok (.iload 4, 2) := by decide +kernel
theorem dX12_plan_407 : decode cX12_plan 407 = .ok (.iconst (-1), 1) := by decide +kernel
theorem dX12_plan_408 : decode cX12_plan 408 = .ok (.iastore, 1) := by decide +kernel
theorem dX12_plan_409 : decode cX12_plan 409 = .ok (.goto (-244), 3) := by decide +kernel
theorem dX12_plan_412 : decode cX12_plan 412 = .ok (.iload_n 3, 1) := by decide +kernel
theorem dX12_plan_413 : decode cX12_plan 413 = .ok (.ireturn, 1) := by decide +kernel
theorem dX12_planned_0 : decode cX12_planned 0 = .ok (.aload_n 0, 1) := by decide +kernel
theorem dX12_planned_1 : decode cX12_planned 1 = .ok (.iload_n 1, 1) := by decide +kernel
theorem dX12_planned_2 : decode cX12_planned 2 = .ok (.invokevirtual 253, 3) := by decide +kernel
theorem dX12_planned_5 : decode cX12_planned 5 = .ok (.ifCond .eq 12, 3) := by decide +kernel
theorem dX12_planned_8 : decode cX12_planned 8 = .ok (.aload_n 0, 1) := by decide +kernel
theorem dX12_planned_9 : decode cX12_planned 9 = .ok (.getfield 190, 3) := by decide +kernel
theorem dX12_planned_12 : decode cX12_planned 12 = .ok (.iload_n 1, 1) := by decide +kernel
theorem dX12_planned_13 : decode cX12_planned 13 = .ok (.iaload, 1) := by decide +kernel
theorem dX12_planned_14 : decode cX12_planned 14 = .ok (.goto 4, 3) := by decide +kernel
theorem dX12_planned_17 : decode cX12_planned 17 = .ok (.iconst (-1), 1) := by decide +kernel
theorem dX12_planned_18 : decode cX12_planned 18 = .ok (.ireturn, 1) := by decide +kernel
theorem dX12_status_0 : decode cX12_status 0 = .ok (.iload_n 1, 1) := by decide +kernel
theorem dX12_status_1 : decode cX12_status 1 = .ok (.bipush 10, 2) := by decide +kernel
theorem dX12_status_3 : decode cX12_status 3 = .ok (.if_icmp .le 19, 3) := by decide +kernel
theorem dX12_status_6 : decode cX12_status 6 = .ok (.iload_n 1, 1) := by decide +kernel
theorem dX12_status_7 : decode cX12_status 7 = .ok (.bipush 18, 2) := by decide +kernel
theorem dX12_status_9 : decode cX12_status 9 = .ok (.if_icmp .ge 13, 3) := by decide +kernel
theorem dX12_status_12 : decode cX12_status 12 = .ok (.aload_n 0, 1) := by decide +kernel
theorem dX12_status_13 : decode cX12_status 13 = .ok (.getfield 193, 3) := by decide +kernel
theorem dX12_status_16 : decode cX12_status 16 = .ok (.iload_n 1, 1) := by decide +kernel
theorem dX12_status_17 : decode cX12_status 17 = .ok (.bipush 10, 2) := by decide +kernel
theorem dX12_status_19 : decode cX12_status 19 = .ok (.isub, 1) := by decide +kernel
theorem dX12_status_20 : decode cX12_status 20 = .ok (.iaload, 1) := by decide +kernel
theorem dX12_status_21 : decode cX12_status 21 = .ok (.ireturn, 1) := by decide +kernel
theorem dX12_status_22 : decode cX12_status 22 = .ok (.iconst 0, 1) := by decide +kernel
theorem dX12_status_23 : decode cX12_status 23 = .ok (.istore_n 2, 1) := by decide +kernel
theorem dX12_status_24 : decode cX12_status 24 = .ok (.iload_n 1, 1) := by decide +kernel
theorem dX12_status_25 : decode cX12_status 25 = .ok (.tableswitch 186 0 9 #[55, 60, 65, 70, 75, 80, 85, 118, 148, 181], 55) := by decide +kernel
theorem dX12_status_80 : decode cX12_status 80 = .ok (.aload_n 0, 1) := by decide +kernel
theorem dX12_status_81 : decode cX12_status 81 = .ok (.getfield 247, 3) := by decide +kernel
theorem dX12_status_84 : decode cX12_status 84 = .ok (.ireturn, 1) := by decide +kernel
theorem dX12_status_85 : decode cX12_status 85 = .ok (.aload_n 0, 1) := by decide +kernel
theorem dX12_status_86 : decode cX12_status 86 = .ok (.getfield 250, 3) := by decide +kernel
theorem dX12_status_89 : decode cX12_status 89 = .ok (.ireturn, 1) := by decide +kernel
theorem dX12_status_90 : decode cX12_status 90 = .ok (.aload_n 0, 1) := by decide +kernel
theorem dX12_status_91 : decode cX12_status 91 = .ok (.getfield 292, 3) := by decide +kernel
theorem dX12_status_94 : decode cX12_status 94 = .ok (.ireturn, 1) := by decide +kernel
theorem dX12_status_95 : decode cX12_status 95 = .ok (.aload_n 0, 1) := by decide +kernel
theorem dX12_status_96 : decode cX12_status 96 = .ok (.getfield 257, 3) := by decide +kernel
theorem dX12_status_99 : decode cX12_status 99 = .ok (.ireturn, 1) := by decide +kernel
theorem dX12_status_100 : decode cX12_status 100 = .ok (.aload_n 0, 1) := by decide +kernel
theorem dX12_status_101 : decode cX12_status 101 = .ok (.getfield 286, 3) := by decide +kernel
theorem dX12_status_104 : decode cX12_status 104 = .ok (.ireturn, 1) := by decide +kernel
theorem dX12_status_105 : decode cX12_status 105 = .ok (.aload_n 0, 1) := by decide +kernel
theorem dX12_status_106 : decode cX12_status 106 = .ok (.getfield 309, 3) := by decide +kernel
theorem dX12_status_109 : decode cX12_status 109 = .ok (.ireturn, 1) := by decide +kernel
theorem dX12_status_110 : decode cX12_status 110 = .ok (.iconst 0, 1) := by decide +kernel
theorem dX12_status_111 : decode cX12_status 111 = .ok (.istore_n 3, 1) := by decide +kernel
theorem dX12_status_112 : decode cX12_status 112 = .ok (.iload_n 3, 1) := by decide +kernel
theorem dX12_status_113 : decode cX12_status 113 = .ok (.aload_n 0, 1) := by decide +kernel
theorem dX12_status_114 : decode cX12_status 114 = .ok (.getfield 247, 3) := by decide +kernel
theorem dX12_status_117 : decode cX12_status 117 = .ok (.if_icmp .ge 24, 3) := by decide +kernel
theorem dX12_status_120 : decode cX12_status 120 = .ok (.aload_n 0, 1) := by decide +kernel
theorem dX12_status_121 : decode cX12_status 121 = .ok (.iload_n 3, 1) := by decide +kernel
theorem dX12_status_122 : decode cX12_status 122 = .ok (.aload_n 0, 1) := by decide +kernel
theorem dX12_status_123 : decode cX12_status 123 = .ok (.getfield 286, 3) := by decide +kernel
theorem dX12_status_126 : decode cX12_status 126 = .ok (.invokevirtual 289, 3) := by decide +kernel
theorem dX12_status_129 : decode cX12_status 129 = .ok (.ifCond .eq 6, 3) := by decide +kernel
theorem dX12_status_132 : decode cX12_status 132 = .ok (.iinc 2 1, 3) := by decide +kernel
theorem dX12_status_135 : decode cX12_status 135 = .ok (.iinc 3 1, 3) := by decide +kernel
theorem dX12_status_138 : decode cX12_status 138 = .ok (.goto (-26), 3) := by decide +kernel
theorem dX12_status_141 : decode cX12_status 141 = .ok (.iload_n 2, 1) := by decide +kernel
theorem dX12_status_142 : decode cX12_status 142 = .ok (.ireturn, 1) := by decide +kernel
theorem dX12_status_143 : decode cX12_status 143 = .ok (.iconst 0, 1) := by decide +kernel
theorem dX12_status_144 : decode cX12_status 144 = .ok (.istore_n 3, 1) := by decide +kernel
theorem dX12_status_145 : decode cX12_status 145 = .ok (.iload_n 3, 1) := by decide +kernel
theorem dX12_status_146 : decode cX12_status 146 = .ok (.aload_n 0, 1) := by decide +kernel
theorem dX12_status_147 : decode cX12_status 147 = .ok (.getfield 247, 3) := by decide +kernel
theorem dX12_status_150 : decode cX12_status 150 = .ok (.if_icmp .ge 21, 3) := by decide +kernel
theorem dX12_status_153 : decode cX12_status 153 = .ok (.aload_n 0, 1) := by decide +kernel
theorem dX12_status_154 : decode cX12_status 154 = .ok (.getfield 70, 3) := by decide +kernel
theorem dX12_status_157 : decode cX12_status 157 = .ok (.iload_n 3, 1) := by decide +kernel
theorem dX12_status_158 : decode cX12_status 158 = .ok (.baload, 1) := by decide +kernel
theorem dX12_status_159 : decode cX12_status 159 = .ok (.ifCond .eq 6, 3) := by decide +kernel
theorem dX12_status_162 : decode cX12_status 162 = .ok (.iinc 2 1, 3) := by decide +kernel
theorem dX12_status_165 : decode cX12_status 165 = .ok (.iinc 3 1, 3) := by decide +kernel
theorem dX12_status_168 : decode cX12_status 168 = .ok (.goto (-23), 3) := by decide +kernel
theorem dX12_status_171 : decode cX12_status 171 = .ok (.iload_n 2, 1) := by decide +kernel
theorem dX12_status_172 : decode cX12_status 172 = .ok (.ireturn, 1) := by decide +kernel
theorem dX12_status_173 : decode cX12_status 173 = .ok (.iconst 0, 1) := by decide +kernel
theorem dX12_status_174 : decode cX12_status 174 = .ok (.istore_n 3, 1) := by decide +kernel
theorem dX12_status_175 : decode cX12_status 175 = .ok (.iload_n 3, 1) := by decide +kernel
theorem dX12_status_176 : decode cX12_status 176 = .ok (.aload_n 0, 1) := by decide +kernel
theorem dX12_status_177 : decode cX12_status 177 = .ok (.getfield 247, 3) := by decide +kernel
theorem dX12_status_180 : decode cX12_status 180 = .ok (.if_icmp .ge 24, 3) := by decide +kernel
theorem dX12_status_183 : decode cX12_status 183 = .ok (.aload_n 0, 1) := by decide +kernel
theorem dX12_status_184 : decode cX12_status 184 = .ok (.iload_n 3, 1) := by decide +kernel
theorem dX12_status_185 : decode cX12_status 185 = .ok (.aload_n 0, 1) := by decide +kernel
theorem dX12_status_186 : decode cX12_status 186 = .ok (.getfield 286, 3) := by decide +kernel
theorem dX12_status_189 : decode cX12_status 189 = .ok (.invokevirtual 299, 3) := by decide +kernel
theorem dX12_status_192 : decode cX12_status 192 = .ok (.ifCond .eq 6, 3) := by decide +kernel
theorem dX12_status_195 : decode cX12_status 195 = .ok (.iinc 2 1, 3) := by decide +kernel
theorem dX12_status_198 : decode cX12_status 198 = .ok (.iinc 3 1, 3) := by decide +kernel
theorem dX12_status_201 : decode cX12_status 201 = .ok (.goto (-26), 3) := by decide +kernel
theorem dX12_status_204 : decode cX12_status 204 = .ok (.iload_n 2, 1) := by decide +kernel
theorem dX12_status_205 : decode cX12_status 205 = .ok (.ireturn, 1) := by decide +kernel
theorem dX12_status_206 : decode cX12_status 206 = .ok (.aload_n 0, 1) := by decide +kernel
theorem dX12_status_207 : decode cX12_status 207 = .ok (.getfield 376, 3) := by decide +kernel
theorem dX12_status_210 : decode cX12_status 210 = .ok (.ireturn, 1) := by decide +kernel
theorem dX12_status_211 : decode cX12_status 211 = .ok (.iconst (-1), 1) := by decide +kernel
theorem dX12_status_212 : decode cX12_status 212 = .ok (.ireturn, 1) := by decide +kernel
