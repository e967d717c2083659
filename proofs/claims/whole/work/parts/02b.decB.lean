theorem dX11_init_0 : decode cX11_init 0 = .ok (.aload_n 0, 1) := by decide +kernel
theorem dX11_init_1 : decode cX11_init 1 = .ok (.invokespecial 1, 3) := by decide +kernel
theorem dX11_init_4 : decode cX11_init 4 = .ok (.aload_n 0, 1) := by decide +kernel
theorem dX11_init_5 : decode cX11_init 5 = .ok (.bipush 8, 2) := by decide +kernel
theorem dX11_init_7 : decode cX11_init 7 = .ok (.anewarray 9, 3) := by decide +kernel
theorem dX11_init_10 : decode cX11_init 10 = .ok (.putfield 11, 3) := by decide +kernel
theorem dX11_init_13 : decode cX11_init 13 = .ok (.aload_n 0, 1) := by decide +kernel
theorem dX11_init_14 : decode cX11_init 14 = .ok (.bipush 16, 2) := by decide +kernel
theorem dX11_init_16 : decode cX11_init 16 = .ok (.anewarray 15, 3) := by decide +kernel
theorem dX11_init_19 : decode cX11_init 19 = .ok (.putfield 17, 3) := by decide +kernel
theorem dX11_init_22 : decode cX11_init 22 = .ok (.aload_n 0, 1) := by decide +kernel
theorem dX11_init_23 : decode cX11_init 23 = .ok (.bipush 8, 2) := by decide +kernel
theorem dX11_init_25 : decode cX11_init 25 = .ok (.anewarray 21, 3) := by decide +kernel
theorem dX11_init_28 : decode cX11_init 28 = .ok (.putfield 23, 3) := by decide +kernel
theorem dX11_init_31 : decode cX11_init 31 = .ok (.aload_n 0, 1) := by decide +kernel
theorem dX11_init_32 : decode cX11_init 32 = .ok (.bipush 6, 2) := by decide +kernel
theorem dX11_init_34 : decode cX11_init 34 = .ok (.anewarray 27, 3) := by decide +kernel
theorem dX11_init_37 : decode cX11_init 37 = .ok (.putfield 29, 3) := by decide +kernel
theorem dX11_init_40 : decode cX11_init 40 = .ok (.aload_n 0, 1) := by decide +kernel
theorem dX11_init_41 : decode cX11_init 41 = .ok (.new 33, 3) := by decide +kernel
theorem dX11_init_44 : decode cX11_init 44 = .ok (.dup, 1) := by decide +kernel
theorem dX11_init_45 : decode cX11_init 45 = .ok (.invokespecial 35, 3) := by decide +kernel
theorem dX11_init_48 : decode cX11_init 48 = .ok (.putfield 36, 3) := by decide +kernel
theorem dX11_init_51 : decode cX11_init 51 = .ok (.aload_n 0, 1) := by decide +kernel
theorem dX11_init_52 : decode cX11_init 52 = .ok (.new 40, 3) := by decide +kernel
theorem dX11_init_55 : decode cX11_init 55 = .ok (.dup, 1) := by decide +kernel
theorem dX11_init_56 : decode cX11_init 56 = .ok (.invokespecial 42, 3) := by decide +kernel
theorem dX11_init_59 : decode cX11_init 59 = .ok (.putfield 43, 3) := by decide +kernel
theorem dX11_init_62 : decode cX11_init 62 = .ok (.aload_n 0, 1) := by decide +kernel
theorem dX11_init_63 : decode cX11_init 63 = .ok (.new 47, 3) := by decide +kernel
theorem dX11_init_66 : decode cX11_init 66 = .ok (.dup, 1) := by decide +kernel
theorem dX11_init_67 : decode cX11_init 67 = .ok (.invokespecial 49, 3) := by decide +kernel
theorem dX11_init_70 : decode cX11_init 70 = .ok (.putfield 50, 3) := by decide +kernel
theorem dX11_init_73 : decode cX11_init 73 = .ok (.aload_n 0, 1) := by decide +kernel
theorem dX11_init_74 : decode cX11_init 74 = .ok (.new 54, 3) := by decide +kernel
theorem dX11_init_77 : decode cX11_init 77 = .ok (.dup, 1) := by decide +kernel
theorem dX11_init_78 : decode cX11_init 78 = .ok (.invokespecial 56, 3) := by decide +kernel
theorem dX11_init_81 : decode cX11_init 81 = .ok (.putfield 57, 3) := by decide +kernel
theorem dX11_init_84 : decode cX11_init 84 = .ok (.aload_n 0, 1) := by decide +kernel
theorem dX11_init_85 : decode cX11_init 85 = .ok (.new 61, 3) := by decide +kernel
theorem dX11_init_88 : decode cX11_init 88 = .ok (.dup, 1) := by decide +kernel
theorem dX11_init_89 : decode cX11_init 89 = .ok (.invokespecial 63, 3) := by decide +kernel
theorem dX11_init_92 : decode cX11_init 92 = .ok (.putfield 64, 3) := by decide +kernel
theorem dX11_init_95 : decode cX11_init 95 = .ok (.aload_n 0, 1) := by decide +kernel
theorem dX11_init_96 : decode cX11_init 96 = .ok (.new 68, 3) := by decide +kernel
theorem dX11_init_99 : decode cX11_init 99 = .ok (.dup, 1) := by decide +kernel
theorem dX11_init_100 : decode cX11_init 100 = .ok (.invokespecial 70, 3) := by decide +kernel
theorem dX11_init_103 : decode cX11_init 103 = .ok (.putfield 71, 3) := by decide +kernel
theorem dX11_init_106 : decode cX11_init 106 = .ok (.aload_n 0, 1) := by decide +kernel
theorem dX11_init_107 : decode cX11_init 107 = .ok (.iconst 4, 1) := by decide +kernel
theorem dX11_init_108 : decode cX11_init 108 = .ok (.newarray .int, 2) := by decide +kernel
theorem dX11_init_110 : decode cX11_init 110 = .ok (.putfield 75, 3) := by decide +kernel
theorem dX11_init_113 : decode cX11_init 113 = .ok (.aload_n 0, 1) := by decide +kernel
theorem dX11_init_114 : decode cX11_init 114 = .ok (.iconst 4, 1) := by decide +kernel
theorem dX11_init_115 : decode cX11_init 115 = .ok (.newarray .int, 2) := by decide +kernel
theorem dX11_init_117 : decode cX11_init 117 = .ok (.putfield 79, 3) := by decide +kernel
theorem dX11_init_120 : decode cX11_init 120 = .ok (.aload_n 0, 1) := by decide +kernel
theorem dX11_init_121 : decode cX11_init 121 = .ok (.bipush 7, 2) := by decide +kernel
theorem dX11_init_123 : decode cX11_init 123 = .ok (.newarray .int, 2) := by decide +kernel
theorem dX11_init_125 : decode cX11_init 125 = .ok (.putfield 82, 3) := by decide +kernel
theorem dX11_init_128 : decode cX11_init 128 = .ok (.aload_n 0, 1) := by decide +kernel
theorem dX11_init_129 : decode cX11_init 129 = .ok (.iconst 0, 1) := by decide +kernel
theorem dX11_init_130 : decode cX11_init 130 = .ok (.putfield 85, 3) := by decide +kernel
theorem dX11_init_133 : decode cX11_init 133 = .ok (.aload_n 0, 1) := by decide +kernel
theorem dX11_init_134 : decode cX11_init 134 = .ok (.iconst 0, 1) := by decide +kernel
theorem dX11_init_135 : decode cX11_init 135 = .ok (.putfield 89, 3) := by decide +kernel
theorem dX11_init_138 : decode cX11_init 138 = .ok (.aload_n 0, 1) := by decide +kernel
theorem dX11_init_139 : decode cX11_init 139 = .ok (.iconst 0, 1) := by decide +kernel
theorem dX11_init_140 : decode cX11_init 140 = .ok (.putfield 92, 3) := by decide +kernel
theorem dX11_init_143 : decode cX11_init 143 = .ok (.aload_n 0, 1) := by decide +kernel
theorem dX11_init_144 : decode cX11_init 144 = .ok (.iconst 0, 1) := by decide +kernel
theorem dX11_init_145 : decode cX11_init 145 = .ok (.putfield 95, 3) := by decide +kernel
theorem dX11_init_148 : decode cX11_init 148 = .ok (.aload_n 0, 1) := by decide +kernel
theorem dX11_init_149 : decode cX11_init 149 = .ok (.iconst 0, 1) := by decide +kernel
theorem dX11_init_150 : decode cX11_init 150 = .ok (.putfield 98, 3) := by decide +kernel
theorem dX11_init_153 : decode cX11_init 153 = .ok (.aload_n 0, 1) := by decide +kernel
theorem dX11_init_154 : decode cX11_init 154 = .ok (.iconst 2, 1) := by decide +kernel
theorem dX11_init_155 : decode cX11_init 155 = .ok (.putfield 101, 3) := by decide +kernel
theorem dX11_init_158 : decode cX11_init 158 = .ok (.iconst 0, 1) := by decide +kernel
theorem dX11_init_159 : decode cX11_init 159 = .ok (.istore_n 1, 1) := by decide +kernel
theorem dX11_init_160 : decode cX11_init 160 = .ok (.iload_n 1, 1) := by decide +kernel
theorem dX11_init_161 : decode cX11_init 161 = .ok (.bipush 8, 2) := by decide +kernel
theorem dX11_init_163 : decode cX11_init 163 = .ok (.if_icmp .ge 22, 3) := by decide +kernel
theorem dX11_init_166 : decode cX11_init 166 = .ok (.aload_n 0, 1) := by decide +kernel
theorem dX11_init_167 : decode cX11_init 167 = .ok (.getfield 11, 3) := by decide +kernel
theorem dX11_init_170 : decode cX11_init 170 = .ok (.iload_n 1, 1) := by decide +kernel
theorem dX11_init_171 : decode cX11_init 171 = .ok (.new 9, 3) := by decide +kernel
theorem dX11_init_174 : decode cX11_init 174 = .ok (.dup, 1) := by decide +kernel
theorem dX11_init_175 : decode cX11_init 175 = .ok (.invokespecial 104, 3) := by decide +kernel
theorem dX11_init_178 : decode cX11_init 178 = .ok (.aastore, 1) := by decide +kernel
theorem dX11_init_179 : decode cX11_init 179 = .ok (.iinc 1 1, 3) := by decide +kernel
theorem dX11_init_182 : decode cX11_init 182 = .ok (.goto (-22), 3) := by decide +kernel
theorem dX11_init_185 : decode cX11_init 185 = .ok (.iconst 0, 1) := by decide +kernel
theorem dX11_init_186 : decode cX11_init 186 = .ok (.istore_n 1, 1) := by decide +kernel
theorem dX11_init_187 : decode cX11_init 187 = .ok (.iload_n 1, 1) := by decide +kernel
theorem dX11_init_188 : decode cX11_init 188 = .ok (.iconst 4, 1) := by decide +kernel
theorem dX11_init_189 : decode cX11_init 189 = .ok (.if_icmp .ge 17, 3) := by decide +kernel
theorem dX11_init_192 : decode cX11_init 192 = .ok (.aload_n 0, 1) := by decide +kernel
theorem dX11_init_193 : decode cX11_init 193 = .ok (.getfield 75, 3) := by decide +kernel
theorem dX11_init_196 : decode cX11_init 196 = .ok (.iload_n 1, 1) := by decide +kernel
theorem dX11_init_197 : decode cX11_init 197 = .ok (.bipush 9, 2) := by decide +kernel
theorem dX11_init_199 : decode cX11_init 199 = .ok (.iastore, 1) := by decide +kernel
theorem dX11_init_200 : decode cX11_init 200 = .ok (.iinc 1 1, 3) := by decide +kernel
theorem dX11_init_203 : decode cX11_init 203 = .ok (.goto (-16), 3) := by decide +kernel
theorem dX11_init_206 : decode cX11_init 206 = .ok (.return_, 1) := by decide +kernel
theorem dX11_person_0 : decode cX11_person 0 = .ok (.iload_n 1, 1) := by decide +kernel
theorem dX11_person_1 : decode cX11_person 1 = .ok (.iconst 1, 1) := by decide +kernel
theorem dX11_person_2 : decode cX11_person 2 = .ok (.if_icmp .lt 10, 3) := by decide +kernel
theorem dX11_person_5 : decode cX11_person 5 = .ok (.iload_n 1, 1) := by decide +kernel
theorem dX11_person_6 : decode cX11_person 6 = .ok (.sipush 999, 3) := by decide +kernel
theorem dX11_person_9 : decode cX11_person 9 = .ok (.if_icmp .le 10, 3) := by decide +kernel
theorem dX11_person_12 : decode cX11_person 12 = .ok (.aload_n 0, 1) := by decide +kernel
theorem dX11_person_13 : decode cX11_person 13 = .ok (.bipush (-6), 2) := by decide +kernel
theorem dX11_person_15 : decode cX11_person 15 = .ok (.invokevirtual 105, 3) := by decide +kernel
theorem dX11_person_18 : decode cX11_person 18 = .ok (.ireturn, 1) := by decide +kernel
theorem dX11_person_19 : decode cX11_person 19 = .ok (.aload_n 0, 1) := by decide +kernel
theorem dX11_person_20 : decode cX11_person 20 = .ok (.getfield 85, 3) := by decide +kernel
theorem dX11_person_23 : decode cX11_person 23 = .ok (.bipush 16, 2) := by decide +kernel
theorem dX11_person_25 : decode cX11_person 25 = .ok (.if_icmp .lt 10, 3) := by decide +kernel
theorem dX11_person_28 : decode cX11_person 28 = .ok (.aload_n 0, 1) := by decide +kernel
theorem dX11_person_29 : decode cX11_person 29 = .ok (.bipush (-7), 2) := by decide +kernel
theorem dX11_person_31 : decode cX11_person 31 = .ok (.invokevirtual 105, 3) := by decide +kernel
theorem dX11_person_34 : decode cX11_person 34 = .ok (.ireturn, 1) := by decide +kernel
theorem dX11_person_35 : decode cX11_person 35 = .ok (.aload_n 0, 1) := by decide +kernel
theorem dX11_person_36 : decode cX11_person 36 = .ok (.getfield 17, 3) := by decide +kernel
theorem dX11_person_39 : decode cX11_person 39 = .ok (.aload_n 0, 1) := by decide +kernel
theorem dX11_person_40 : decode cX11_person 40 = .ok (.getfield 85, 3) := by decide +kernel
theorem dX11_person_43 : decode cX11_person 43 = .ok (.new 15, 3) := by decide +kernel
theorem dX11_person_46 : decode cX11_person 46 = .ok (.dup, 1) := by decide +kernel
theorem dX11_person_47 : decode cX11_person 47 = .ok (.iload_n 1, 1) := by decide +kernel
theorem dX11_person_48 : decode cX11_person 48 = .ok (.invokespecial 109, 3) := by decide +kernel
theorem dX11_person_51 : decode cX11_person 51 = .ok (.aastore, 1) := by decide +kernel
theorem dX11_person_52 : decode cX11_person 52 = .ok (.aload_n 0, 1) := by decide +kernel
theorem dX11_person_53 : decode cX11_person 53 = .ok (.getfield 50, 3) := by decide +kernel
theorem dX11_person_56 : decode cX11_person 56 = .ok (.getfield 112, 3) := by decide +kernel
theorem dX11_person_59 : decode cX11_person 59 = .ok (.aload_n 0, 1) := by decide +kernel
theorem dX11_person_60 : decode cX11_person 60 = .ok (.getfield 85, 3) := by decide +kernel
theorem dX11_person_63 : decode cX11_person 63 = .ok (.iload_n 1, 1) := by decide +kernel
theorem dX11_person_64 : decode cX11_person 64 = .ok (.bipush 7, 2) := by decide +kernel
theorem dX11_person_66 : decode cX11_person 66 = .ok (.idiv, 1) := by decide +kernel
theorem dX11_person_67 : decode cX11_person 67 = .ok (.iastore, 1) := by decide +kernel
theorem dX11_person_68 : decode cX11_person 68 = .ok (.aload_n 0, 1) := by decide +kernel
theorem dX11_person_69 : decode cX11_person 69 = .ok (.dup, 1) := by decide +kernel
theorem dX11_person_70 : decode cX11_person 70 = .ok (.getfield 85, 3) := by decide +kernel
theorem dX11_person_73 : decode cX11_person 73 = .ok (.dup_x1, 1) := by decide +kernel
theorem dX11_person_74 : decode cX11_person 74 = .ok (.iconst 1, 1) := by decide +kernel
theorem dX11_person_75 : decode cX11_person 75 = .ok (.iadd, 1) := by decide +kernel
theorem dX11_person_76 : decode cX11_person 76 = .ok (.putfield 85, 3) := by decide +kernel
theorem dX11_person_79 : decode cX11_person 79 = .ok (.ireturn, 1) := by decide +kernel
theorem dX11_row_0 : decode cX11_row 0 = .ok (.aload_n 0, 1) := by decide +kernel
theorem dX11_row_1 : decode cX11_row 1 = .ok (.iload_n 1, 1) := by decide +kernel
theorem dX11_row_2 : decode cX11_row 2 = .ok (.invokevirtual 115, 3) := by decide +kernel
theorem dX11_row_5 : decode cX11_row 5 = .ok (.astore 4, 2) := by decide +kernel
theorem dX11_row_7 : decode cX11_row 7 = .ok (.aload 4, 2) := by decide +kernel
theorem dX11_row_9 : decode cX11_row 9 = .ok (.ifnonnull 9, 3) := by decide +kernel
theorem dX11_row_12 : decode cX11_row 12 = .ok (.aload_n 0, 1) := by decide +kernel
theorem dX11_row_13 : decode cX11_row 13 = .ok (.iconst (-1), 1) := by decide +kernel
theorem dX11_row_14 : decode cX11_row 14 = .ok (.invokevirtual 105, 3) := by decide +kernel
theorem dX11_row_17 : decode cX11_row 17 = .ok (.ireturn, 1) := by decide +kernel
theorem dX11_row_18 : decode cX11_row 18 = .ok (.iload_n 3, 1) := by decide +kernel
theorem dX11_row_19 : decode cX11_row 19 = .ok (.ifCond .ge 10, 3) := by decide +kernel
theorem dX11_row_22 : decode cX11_row 22 = .ok (.aload_n 0, 1) := by decide +kernel
theorem dX11_row_23 : decode cX11_row 23 = .ok (.bipush (-4), 2) := by decide +kernel
theorem dX11_row_25 : decode cX11_row 25 = .ok (.invokevirtual 105, 3) := by decide +kernel
theorem dX11_row_28 : decode cX11_row 28 = .ok (.ireturn, 1) := by decide +kernel
theorem dX11_row_29 : decode cX11_row 29 = .ok (.iload_n 2, 1) := by decide +kernel
theorem dX11_row_30 : decode cX11_row 30 = .ok (.ifCond .lt 8, 3) := by decide +kernel
theorem dX11_row_33 : decode cX11_row 33 = .ok (.iload_n 2, 1) := by decide +kernel
theorem dX11_row_34 : decode cX11_row 34 = .ok (.iconst 3, 1) := by decide +kernel
theorem dX11_row_35 : decode cX11_row 35 = .ok (.if_icmp .le 10, 3) := by decide +kernel
theorem dX11_row_38 : decode cX11_row 38 = .ok (.aload_n 0, 1) := by decide +kernel
theorem dX11_row_39 : decode cX11_row 39 = .ok (.bipush (-6), 2) := by decide +kernel
theorem dX11_row_41 : decode cX11_row 41 = .ok (.invokevirtual 105, 3) := by decide +kernel
theorem dX11_row_44 : decode cX11_row 44 = .ok (.ireturn, 1) := by decide +kernel
theorem dX11_row_45 : decode cX11_row 45 = .ok (.iload_n 3, 1) := by decide +kernel
theorem dX11_row_46 : decode cX11_row 46 = .ok (.bipush 60, 2) := by decide +kernel
theorem dX11_row_48 : decode cX11_row 48 = .ok (.if_icmp .le 10, 3) := by decide +kernel
theorem dX11_row_51 : decode cX11_row 51 = .ok (.aload_n 0, 1) := by decide +kernel
theorem dX11_row_52 : decode cX11_row 52 = .ok (.bipush (-7), 2) := by decide +kernel
theorem dX11_row_54 : decode cX11_row 54 = .ok (.invokevirtual 105, 3) := by decide +kernel
theorem dX11_row_57 : decode cX11_row 57 = .ok (.ireturn, 1) := by decide +kernel
theorem dX11_row_58 : decode cX11_row 58 = .ok (.aload 4, 2) := by decide +kernel
theorem dX11_row_60 : decode cX11_row 60 = .ok (.iload_n 2, 1) := by decide +kernel
theorem dX11_row_61 : decode cX11_row 61 = .ok (.iload_n 3, 1) := by decide +kernel
theorem dX11_row_62 : decode cX11_row 62 = .ok (.invokevirtual 119, 3) := by decide +kernel
theorem dX11_row_65 : decode cX11_row 65 = .ok (.iconst 1, 1) := by decide +kernel
theorem dX11_row_66 : decode cX11_row 66 = .ok (.ireturn, 1) := by decide +kernel
theorem dX11_set_0 : decode cX11_set 0 = .ok (.aload_n 0, 1) := by decide +kernel
theorem dX11_set_1 : decode cX11_set 1 = .ok (.iload_n 1, 1) := by decide +kernel
theorem dX11_set_2 : decode cX11_set 2 = .ok (.invokevirtual 123, 3) := by decide +kernel
theorem dX11_set_5 : decode cX11_set 5 = .ok (.istore 5, 2) := by decide +kernel
theorem dX11_set_7 : decode cX11_set 7 = .ok (.iload 5, 2) := by decide +kernel
theorem dX11_set_9 : decode cX11_set 9 = .ok (.ifCond .eq 10, 3) := by decide +kernel
theorem dX11_set_12 : decode cX11_set 12 = .ok (.aload_n 0, 1) := by decide +kernel
theorem dX11_set_13 : decode cX11_set 13 = .ok (.iload 5, 2) := by decide +kernel
theorem dX11_set_15 : decode cX11_set 15 = .ok (.invokevirtual 105, 3) := by decide +kernel
theorem dX11_set_18 : decode cX11_set 18 = .ok (.ireturn, 1) := by decide +kernel
theorem dX11_set_19 : decode cX11_set 19 = .ok (.aload_n 0, 1) := by decide +kernel
theorem dX11_set_20 : decode cX11_set 20 = .ok (.getfield 11, 3) := by decide +kernel
theorem dX11_set_23 : decode cX11_set 23 = .ok (.iload_n 1, 1) := by decide +kernel
theorem dX11_set_24 : decode cX11_set 24 = .ok (.aaload, 1) := by decide +kernel
theorem dX11_set_25 : decode cX11_set 25 = .ok (.astore 6, 2) := by decide +kernel
theorem dX11_set_27 : decode cX11_set 27 = .ok (.iload_n 2, 1) := by decide +kernel
theorem dX11_set_28 : decode cX11_set 28 = .ok (.ifCond .lt 12, 3) := by decide +kernel
theorem dX11_set_31 : decode cX11_set 31 = .ok (.iload_n 2, 1) := by decide +kernel
theorem dX11_set_32 : decode cX11_set 32 = .ok (.aload 6, 2) := by decide +kernel
theorem dX11_set_34 : decode cX11_set 34 = .ok (.getfield 126, 3) := by decide +kernel
theorem dX11_set_37 : decode cX11_set 37 = .ok (.if_icmp .lt 10, 3) := by decide +kernel
theorem dX11_set_40 : decode cX11_set 40 = .ok (.aload_n 0, 1) := by decide +kernel
theorem dX11_set_41 : decode cX11_set 41 = .ok (.bipush (-5), 2) := by decide +kernel
theorem dX11_set_43 : decode cX11_set 43 = .ok (.invokevirtual 105, 3) := by decide +kernel
theorem dX11_set_46 : decode cX11_set 46 = .ok (.ireturn, 1) := by decide +kernel
theorem dX11_set_47 : decode cX11_set 47 = .ok (.aload 6, 2) := by decide +kernel
theorem dX11_set_49 : decode cX11_set 49 = .ok (.getfield 129, 3) := by decide +kernel
theorem dX11_set_52 : decode cX11_set 52 = .ok (.iload_n 2, 1) := by decide +kernel
theorem dX11_set_53 : decode cX11_set 53 = .ok (.aload 6, 2) := by decide +kernel
theorem dX11_set_55 : decode cX11_set 55 = .ok (.lload_n 3, 1) := by decide +kernel
theorem dX11_set_56 : decode cX11_set 56 = .ok (.invokevirtual 133, 3) := by decide +kernel
theorem dX11_set_59 : decode cX11_set 59 = .ok (.lastore, 1) := by decide +kernel
theorem dX11_set_60 : decode cX11_set 60 = .ok (.iconst 1, 1) := by decide +kernel
theorem dX11_set_61 : decode cX11_set 61 = .ok (.ireturn, 1) := by decide +kernel
theorem dX11_copy_0 : decode cX11_copy 0 = .ok (.aload_n 0, 1) := by decide +kernel
theorem dX11_copy_1 : decode cX11_copy 1 = .ok (.iload_n 1, 1) := by decide +kernel
theorem dX11_copy_2 : decode cX11_copy 2 = .ok (.invokevirtual 115, 3) := by decide +kernel
theorem dX11_copy_5 : decode cX11_copy 5 = .ok (.astore 6, 2) := by decide +kernel
theorem dX11_copy_7 : decode cX11_copy 7 = .ok (.aload_n 0, 1) := by decide +kernel
theorem dX11_copy_8 : decode cX11_copy 8 = .ok (.iload_n 2, 1) := by decide +kernel
theorem dX11_copy_9 : decode cX11_copy 9 = .ok (.invokevirtual 115, 3) := by decide +kernel
theorem dX11_copy_12 : decode cX11_copy 12 = .ok (.astore 7, 2) := by decide +kernel
theorem dX11_copy_14 : decode cX11_copy 14 = .ok (.aload 6, 2) := by decide +kernel
theorem dX11_copy_16 : decode cX11_copy 16 = .ok (.ifnull 8, 3) := by decide +kernel
theorem dX11_copy_19 : decode cX11_copy 19 = .ok (.aload 7, 2) := by decide +kernel
theorem dX11_copy_21 : decode cX11_copy 21 = .ok (.ifnonnull 9, 3) := by decide +kernel
theorem dX11_copy_24 : decode cX11_copy 24 = .ok (.aload_n 0, 1) := by decide +kernel
theorem dX11_copy_25 : decode cX11_copy 25 = .ok (.iconst (-1), 1) := by decide +kernel
theorem dX11_copy_26 : decode cX11_copy 26 = .ok (.invokevirtual 105, 3) := by decide +kernel
theorem dX11_copy_29 : decode cX11_copy 29 = .ok (.ireturn, 1) := by decide +kernel
theorem dX11_copy_30 : decode cX11_copy 30 = .ok (.aload 6, 2) := by decide +kernel
theorem dX11_copy_32 : decode cX11_copy 32 = .ok (.invokevirtual 137, 3) := by decide +kernel
theorem dX11_copy_35 : decode cX11_copy 35 = .ok (.bipush (-2), 2) := by decide +kernel
theorem dX11_copy_37 : decode cX11_copy 37 = .ok (.if_icmp .eq 13, 3) := by decide +kernel
theorem dX11_copy_40 : decode cX11_copy 40 = .ok (.aload 7, 2) := by decide +kernel
theorem dX11_copy_42 : decode cX11_copy 42 = .ok (.invokevirtual 137, 3) := by decide +kernel
theorem dX11_copy_45 : decode cX11_copy 45 = .ok (.bipush (-2), 2) := by decide +kernel
theorem dX11_copy_47 : decode cX11_copy 47 = .ok (.if_icmp .ne 10, 3) := by decide +kernel
theorem dX11_copy_50 : decode cX11_copy 50 = .ok (.aload_n 0, 1) := by decide +kernel
theorem dX11_copy_51 : decode cX11_copy 51 = .ok (.bipush (-2), 2) := by decide +kernel
theorem dX11_copy_53 : decode cX11_copy 53 = .ok (.invokevirtual 105, 3) := by decide +kernel
theorem dX11_copy_56 : decode cX11_copy 56 = .ok (.ireturn, 1) := by decide +kernel
theorem dX11_copy_57 : decode cX11_copy 57 = .ok (.aload 6, 2) := by decide +kernel
theorem dX11_copy_59 : decode cX11_copy 59 = .ok (.invokevirtual 137, 3) := by decide +kernel
theorem dX11_copy_62 : decode cX11_copy 62 = .ok (.ifCond .ne 15, 3) := by decide +kernel
theorem dX11_copy_65 : decode cX11_copy 65 = .ok (.aload 7, 2) := by decide +kernel
theorem dX11_copy_67 : decode cX11_copy 67 = .ok (.invokevirtual 137, 3) := by decide +kernel
theorem dX11_copy_70 : decode cX11_copy 70 = .ok (.ifCond .ne 7, 3) := by decide +kernel
theorem dX11_copy_73 : decode cX11_copy 73 = .ok (.iconst 1, 1) := by decide +kernel
theorem dX11_copy_74 : decode cX11_copy 74 = .ok (.goto 4, 3) := by decide +kernel
theorem dX11_copy_77 : decode cX11_copy 77 = .ok (.iconst 0, 1) := by decide +kernel
theorem dX11_copy_78 : decode cX11_copy 78 = .ok (.istore 8, 2) := by decide +kernel
theorem dX11_copy_80 : decode cX11_copy 80 = .ok (.iload 8, 2) := by decide +kernel
theorem dX11_copy_82 : decode cX11_copy 82 = .ok (.ifCond .ne 10, 3) := by decide +kernel
theorem dX11_copy_85 : decode cX11_copy 85 = .ok (.aload_n 0, 1) := by decide +kernel
theorem dX11_copy_86 : decode cX11_copy 86 = .ok (.bipush (-3), 2) := by decide +kernel
theorem dX11_copy_88 : decode cX11_copy 88 = .ok (.invokevirtual 105, 3) := by decide +kernel
theorem dX11_copy_91 : decode cX11_copy 91 = .ok (.ireturn, 1) := by decide +kernel
theorem dX11_copy_92 : decode cX11_copy 92 = .ok (.aload 6, 2) := by decide +kernel
theorem dX11_copy_94 : decode cX11_copy 94 = .ok (.getfield 141, 3) := by decide +kernel
theorem dX11_copy_97 : decode cX11_copy 97 = .ok (.aload 7, 2) := by decide +kernel
theorem dX11_copy_99 : decode cX11_copy 99 = .ok (.getfield 141, 3) := by decide +kernel
theorem dX11_copy_102 : decode cX11_copy 102 = .ok (.if_icmp .eq 10, 3) := by decide +kernel
theorem dX11_copy_105 : decode cX11_copy 105 = .ok (.aload_n 0, 1) := by decide +kernel
theorem dX11_copy_106 : decode cX11_copy 106 = .ok (.bipush (-2), 2) := by decide +kernel
theorem dX11_copy_108 : decode cX11_copy 108 = .ok (.invokevirtual 105, 3) := by decide +kernel
theorem dX11_copy_111 : decode cX11_copy 111 = .ok (.ireturn, 1) := by decide +kernel
theorem dX11_copy_112 : decode cX11_copy 112 = .ok (.iload 5, 2) := by decide +kernel
theorem dX11_copy_114 : decode cX11_copy 114 = .ok (.ifCond .ge 10, 3) := by decide +kernel
theorem dX11_copy_117 : decode cX11_copy 117 = .ok (.aload_n 0, 1) := by decide +kernel
theorem dX11_copy_118 : decode cX11_copy 118 = .ok (.bipush (-4), 2) := by decide +kernel
theorem dX11_copy_120 : decode cX11_copy 120 = .ok (.invokevirtual 105, 3) := by decide +kernel
theorem dX11_copy_123 : decode cX11_copy 123 = .ok (.ireturn, 1) := by decide +kernel
theorem dX11_copy_124 : decode cX11_copy 124 = .ok (.aload 6, 2) := by decide +kernel
theorem dX11_copy_126 : decode cX11_copy 126 = .ok (.iload_n 3, 1) := by decide +kernel
theorem dX11_copy_127 : decode cX11_copy 127 = .ok (.iload 5, 2) := by decide +kernel
theorem dX11_copy_129 : decode cX11_copy 129 = .ok (.invokevirtual 144, 3) := by decide +kernel
theorem dX11_copy_132 : decode cX11_copy 132 = .ok (.ifCond .eq 15, 3) := by decide +kernel
theorem dX11_copy_135 : decode cX11_copy 135 = .ok (.aload 7, 2) := by decide +kernel
theorem dX11_copy_137 : decode cX11_copy 137 = .ok (.iload 4, 2) := by decide +kernel
theorem dX11_copy_139 : decode cX11_copy 139 = .ok (.iload 5, 2) := by decide +kernel
theorem dX11_copy_141 : decode cX11_copy 141 = .ok (.invokevirtual 144, 3) := by decide +kernel
theorem dX11_copy_144 : decode cX11_copy 144 = .ok (.ifCond .ne 10, 3) := by decide +kernel
theorem dX11_copy_147 : decode cX11_copy 147 = .ok (.aload_n 0, 1) := by decide +kernel
theorem dX11_copy_148 : decode cX11_copy 148 = .ok (.bipush (-5), 2) := by decide +kernel
theorem dX11_copy_150 : decode cX11_copy 150 = .ok (.invokevirtual 105, 3) := by decide +kernel
theorem dX11_copy_153 : decode cX11_copy 153 = .ok (.ireturn, 1) := by decide +kernel
theorem dX11_copy_154 : decode cX11_copy 154 = .ok (.aload 6, 2) := by decide +kernel
theorem dX11_copy_156 : decode cX11_copy 156 = .ok (.getfield 129, 3) := by decide +kernel
theorem dX11_copy_159 : decode cX11_copy 159 = .ok (.iload_n 3, 1) := by decide +kernel
theorem dX11_copy_160 : decode cX11_copy 160 = .ok (.aload 7, 2) := by decide +kernel
theorem dX11_copy_162 : decode cX11_copy 162 = .ok (.getfield 129, 3) := by decide +kernel
theorem dX11_copy_165 : decode cX11_copy 165 = .ok (.iload 4, 2) := by decide +kernel
theorem dX11_copy_167 : decode cX11_copy 167 = .ok (.iload 5, 2) := by decide +kernel
theorem dX11_copy_169 : decode cX11_copy 169 = .ok (.invokestatic 148, 3) := by decide +kernel
theorem dX11_copy_172 : decode cX11_copy 172 = .ok (.iconst 1, 1) := by decide +kernel
theorem dX11_copy_173 : decode cX11_copy 173 = .ok (.ireturn, 1) := by decide +kernel
theorem dX11_element_0 : decode cX11_element 0 = .ok (.aload_n 0, 1) := by decide +kernel
theorem dX11_element_1 : decode cX11_element 1 = .ok (.iload_n 1, 1) := by decide +kernel
theorem dX11_element_2 : decode cX11_element 2 = .ok (.invokevirtual 115, 3) := by decide +kernel
theorem dX11_element_5 : decode cX11_element 5 = .ok (.astore_n 3, 1) := by decide +kernel
theorem dX11_element_6 : decode cX11_element 6 = .ok (.aload_n 3, 1) := by decide +kernel
theorem dX11_element_7 : decode cX11_element 7 = .ok (.ifnull 22, 3) := by decide +kernel
theorem dX11_element_10 : decode cX11_element 10 = .ok (.aload_n 3, 1) := by decide +kernel
theorem dX11_element_11 : decode cX11_element 11 = .ok (.invokevirtual 137, 3) := by decide +kernel
theorem dX11_element_14 : decode cX11_element 14 = .ok (.ifCond .ne 15, 3) := by decide +kernel
theorem dX11_element_17 : decode cX11_element 17 = .ok (.iload_n 2, 1) := by decide +kernel
theorem dX11_element_18 : decode cX11_element 18 = .ok (.ifCond .lt 11, 3) := by decide +kernel
theorem dX11_element_21 : decode cX11_element 21 = .ok (.iload_n 2, 1) := by decide +kernel
theorem dX11_element_22 : decode cX11_element 22 = .ok (.aload_n 3, 1) := by decide +kernel
theorem dX11_element_23 : decode cX11_element 23 = .ok (.getfield 126, 3) := by decide +kernel
theorem dX11_element_26 : decode cX11_element 26 = .ok (.if_icmp .lt 5, 3) := by decide +kernel
theorem dX11_element_29 : decode cX11_element 29 = .ok (.lconst 0, 1) := by decide +kernel
theorem dX11_element_30 : decode cX11_element 30 = .ok (.lreturn, 1) := by decide +kernel
theorem dX11_element_31 : decode cX11_element 31 = .ok (.aload_n 3, 1) := by decide +kernel
theorem dX11_element_32 : decode cX11_element 32 = .ok (.getfield 129, 3) := by decide +kernel
theorem dX11_element_35 : decode cX11_element 35 = .ok (.iload_n 2, 1) := by decide +kernel
theorem dX11_element_36 : decode cX11_element 36 = .ok (.laload, 1) := by decide +kernel
theorem dX11_element_37 : decode cX11_element 37 = .ok (.lreturn, 1) := by decide +kernel
theorem dX11_show_0 : decode cX11_show 0 = .ok (.aload_n 0, 1) := by decide +kernel
theorem dX11_show_1 : decode cX11_show 1 = .ok (.iload_n 1, 1) := by decide +kernel
theorem dX11_show_2 : decode cX11_show 2 = .ok (.invokevirtual 115, 3) := by decide +kernel
theorem dX11_show_5 : decode cX11_show 5 = .ok (.astore_n 3, 1) := by decide +kernel
theorem dX11_show_6 : decode cX11_show 6 = .ok (.aload_n 3, 1) := by decide +kernel
theorem dX11_show_7 : decode cX11_show 7 = .ok (.ifnull 16, 3) := by decide +kernel
theorem dX11_show_10 : decode cX11_show 10 = .ok (.iload_n 2, 1) := by decide +kernel
theorem dX11_show_11 : decode cX11_show 11 = .ok (.iconst (-1), 1) := by decide +kernel
theorem dX11_show_12 : decode cX11_show 12 = .ok (.if_icmp .lt 11, 3) := by decide +kernel
theorem dX11_show_15 : decode cX11_show 15 = .ok (.iload_n 2, 1) := by decide +kernel
theorem dX11_show_16 : decode cX11_show 16 = .ok (.aload_n 0, 1) := by decide +kernel
theorem dX11_show_17 : decode cX11_show 17 = .ok (.getfield 89, 3) := by decide +kernel
theorem dX11_show_20 : decode cX11_show 20 = .ok (.if_icmp .lt 9, 3) := by decide +kernel
theorem dX11_show_23 : decode cX11_show 23 = .ok (.aload_n 0, 1) := by decide +kernel
theorem dX11_show_24 : decode cX11_show 24 = .ok (.iconst (-1), 1) := by decide +kernel
theorem dX11_show_25 : decode cX11_show 25 = .ok (.invokevirtual 105, 3) := by decide +kernel
theorem dX11_show_28 : decode cX11_show 28 = .ok (.ireturn, 1) := by decide +kernel
theorem dX11_show_29 : decode cX11_show 29 = .ok (.aload_n 3, 1) := by decide +kernel
theorem dX11_show_30 : decode cX11_show 30 = .ok (.iload_n 2, 1) := by decide +kernel
theorem dX11_show_31 : decode cX11_show 31 = .ok (.invokevirtual 154, 3) := by decide +kernel
theorem dX11_show_34 : decode cX11_show 34 = .ok (.iload_n 2, 1) := by decide +kernel
theorem dX11_show_35 : decode cX11_show 35 = .ok (.iconst (-1), 1) := by decide +kernel
theorem dX11_show_36 : decode cX11_show 36 = .ok (.if_icmp .ne 7, 3) := by decide +kernel
theorem dX11_show_39 : decode cX11_show 39 = .ok (.iconst 0, 1) := by decide +kernel
theorem dX11_show_40 : decode cX11_show 40 = .ok (.goto 4, 3) := by decide +kernel
theorem dX11_show_43 : decode cX11_show 43 = .ok (.iconst 1, 1) := by decide +kernel
theorem dX11_show_44 : decode cX11_show 44 = .ok (.ireturn, 1) := by decide +kernel
theorem dX11_holds_0 : decode cX11_holds 0 = .ok (.aload_n 0, 1) := by decide +kernel
theorem dX11_holds_1 : decode cX11_holds 1 = .ok (.iload_n 1, 1) := by decide +kernel
theorem dX11_holds_2 : decode cX11_holds 2 = .ok (.invokevirtual 115, 3) := by decide +kernel
theorem dX11_holds_5 : decode cX11_holds 5 = .ok (.astore_n 2, 1) := by decide +kernel
theorem dX11_holds_6 : decode cX11_holds 6 = .ok (.aload_n 2, 1) := by decide +kernel
theorem dX11_holds_7 : decode cX11_holds 7 = .ok (.ifnonnull 5, 3) := by decide +kernel
theorem dX11_holds_10 : decode cX11_holds 10 = .ok (.iconst (-1), 1) := by decide +kernel
theorem dX11_holds_11 : decode cX11_holds 11 = .ok (.ireturn, 1) := by decide +kernel
theorem dX11_holds_12 : decode cX11_holds 12 = .ok (.aload_n 2, 1) := by decide +kernel
theorem dX11_holds_13 : decode cX11_holds 13 = .ok (.getfield 141, 3) := by decide +kernel
theorem dX11_holds_16 : decode cX11_holds 16 = .ok (.iconst (-1), 1) := by decide +kernel
theorem dX11_holds_17 : decode cX11_holds 17 = .ok (.if_icmp .ne 10, 3) := by decide +kernel
theorem dX11_holds_20 : decode cX11_holds 20 = .ok (.aload_n 2, 1) := by decide +kernel
theorem dX11_holds_21 : decode cX11_holds 21 = .ok (.getfield 157, 3) := by decide +kernel
theorem dX11_holds_24 : decode cX11_holds 24 = .ok (.goto 10, 3) := by decide +kernel
theorem dX11_holds_27 : decode cX11_holds 27 = .ok (.bipush 100, 2) := by decide +kernel
theorem dX11_holds_29 : decode cX11_holds 29 = .ok (.aload_n 2, 1) := by decide +kernel
theorem dX11_holds_30 : decode cX11_holds 30 = .ok (.getfield 141, 3) := by decide +kernel
theorem dX11_holds_33 : decode cX11_holds 33 = .ok (.iadd, 1) := by decide +kernel
theorem dX11_holds_34 : decode cX11_holds 34 = .ok (.ireturn, 1) := by decide +kernel
theorem dX11_kindIn_0 : decode cX11_kindIn 0 = .ok (.aload_n 0, 1) := by decide +kernel
theorem dX11_kindIn_1 : decode cX11_kindIn 1 = .ok (.iload_n 1, 1) := by decide +kernel
theorem dX11_kindIn_2 : decode cX11_kindIn 2 = .ok (.invokevirtual 115, 3) := by decide +kernel
theorem dX11_kindIn_5 : decode cX11_kindIn 5 = .ok (.astore_n 3, 1) := by decide +kernel
theorem dX11_kindIn_6 : decode cX11_kindIn 6 = .ok (.aload_n 3, 1) := by decide +kernel
theorem dX11_kindIn_7 : decode cX11_kindIn 7 = .ok (.ifnull 10, 3) := by decide +kernel
theorem dX11_kindIn_10 : decode cX11_kindIn 10 = .ok (.iload_n 2, 1) := by decide +kernel
theorem dX11_kindIn_11 : decode cX11_kindIn 11 = .ok (.invokestatic 160, 3) := by decide +kernel
theorem dX11_kindIn_14 : decode cX11_kindIn 14 = .ok (.ifCond .ne 9, 3) := by decide +kernel
theorem dX11_kindIn_17 : decode cX11_kindIn 17 = .ok (.aload_n 0, 1) := by decide +kernel
theorem dX11_kindIn_18 : decode cX11_kindIn 18 = .ok (.iconst (-1), 1) := by decide +kernel
theorem dX11_kindIn_19 : decode cX11_kindIn 19 = .ok (.invokevirtual 105, 3) := by decide +kernel
theorem dX11_kindIn_22 : decode cX11_kindIn 22 = .ok (.ireturn, 1) := by decide +kernel
theorem dX11_kindIn_23 : decode cX11_kindIn 23 = .ok (.aload_n 3, 1) := by decide +kernel
theorem dX11_kindIn_24 : decode cX11_kindIn 24 = .ok (.getfield 141, 3) := by decide +kernel
theorem dX11_kindIn_27 : decode cX11_kindIn 27 = .ok (.iconst (-1), 1) := by decide +kernel
theorem dX11_kindIn_28 : decode cX11_kindIn 28 = .ok (.if_icmp .eq 10, 3) := by decide +kernel
theorem dX11_kindIn_31 : decode cX11_kindIn 31 = .ok (.aload_n 0, 1) := by decide +kernel
theorem dX11_kindIn_32 : decode cX11_kindIn 32 = .ok (.bipush (-2), 2) := by decide +kernel
theorem dX11_kindIn_34 : decode cX11_kindIn 34 = .ok (.invokevirtual 105, 3) := by decide +kernel
theorem dX11_kindIn_37 : decode cX11_kindIn 37 = .ok (.ireturn, 1) := by decide +kernel
theorem dX11_kindIn_38 : decode cX11_kindIn 38 = .ok (.aload_n 0, 1) := by decide +kernel
theorem dX11_kindIn_39 : decode cX11_kindIn 39 = .ok (.aload_n 3, 1) := by decide +kernel
theorem dX11_kindIn_40 : decode cX11_kindIn 40 = .ok (.getfield 157, 3) := by decide +kernel
theorem dX11_kindIn_43 : decode cX11_kindIn 43 = .ok (.invokevirtual 164, 3) := by decide +kernel
theorem dX11_kindIn_46 : decode cX11_kindIn 46 = .ok (.astore 4, 2) := by decide +kernel
theorem dX11_kindIn_48 : decode cX11_kindIn 48 = .ok (.aload 4, 2) := by decide +kernel
theorem dX11_kindIn_50 : decode cX11_kindIn 50 = .ok (.ifnonnull 10, 3) := by decide +kernel
theorem dX11_kindIn_53 : decode cX11_kindIn 53 = .ok (.aload_n 0, 1) := by decide +kernel
theorem dX11_kindIn_54 : decode cX11_kindIn 54 = .ok (.bipush (-3), 2) := by decide +kernel
theorem dX11_kindIn_56 : decode cX11_kindIn 56 = .ok (.invokevirtual 105, 3) := by decide +kernel
theorem dX11_kindIn_59 : decode cX11_kindIn 59 = .ok (.ireturn, 1) := by decide +kernel
theorem dX11_kindIn_60 : decode cX11_kindIn 60 = .ok (.aload 4, 2) := by decide +kernel
theorem dX11_kindIn_62 : decode cX11_kindIn 62 = .ok (.getfield 168, 3) := by decide +kernel
theorem dX11_kindIn_65 : decode cX11_kindIn 65 = .ok (.iload_n 2, 1) := by decide +kernel
theorem dX11_kindIn_66 : decode cX11_kindIn 66 = .ok (.invokestatic 171, 3) := by decide +kernel
theorem dX11_kindIn_69 : decode cX11_kindIn 69 = .ok (.ifCond .eq 11, 3) := by decide +kernel
theorem dX11_kindIn_72 : decode cX11_kindIn 72 = .ok (.aload 4, 2) := by decide +kernel
theorem dX11_kindIn_74 : decode cX11_kindIn 74 = .ok (.getfield 168, 3) := by decide +kernel
theorem dX11_kindIn_77 : decode cX11_kindIn 77 = .ok (.goto 9, 3) := by decide +kernel
theorem dX11_kindIn_80 : decode cX11_kindIn 80 = .ok (.aload_n 0, 1) := by decide +kernel
theorem dX11_kindIn_81 : decode cX11_kindIn 81 = .ok (.bipush (-2), 2) := by decide +kernel
theorem dX11_kindIn_83 : decode cX11_kindIn 83 = .ok (.invokevirtual 105, 3) := by decide +kernel
theorem dX11_kindIn_86 : decode cX11_kindIn 86 = .ok (.ireturn, 1) := by decide +kernel
theorem dX11_term_0 : decode cX11_term 0 = .ok (.aload_n 0, 1) := by decide +kernel
theorem dX11_term_1 : decode cX11_term 1 = .ok (.iload_n 1, 1) := by decide +kernel
theorem dX11_term_2 : decode cX11_term 2 = .ok (.invokevirtual 174, 3) := by decide +kernel
theorem dX11_term_5 : decode cX11_term 5 = .ok (.astore_n 3, 1) := by decide +kernel
theorem dX11_term_6 : decode cX11_term 6 = .ok (.aload_n 0, 1) := by decide +kernel
theorem dX11_term_7 : decode cX11_term 7 = .ok (.iload_n 2, 1) := by decide +kernel
theorem dX11_term_8 : decode cX11_term 8 = .ok (.invokevirtual 123, 3) := by decide +kernel
theorem dX11_term_11 : decode cX11_term 11 = .ok (.istore 4, 2) := by decide +kernel
theorem dX11_term_13 : decode cX11_term 13 = .ok (.aload_n 3, 1) := by decide +kernel
theorem dX11_term_14 : decode cX11_term 14 = .ok (.ifnull 9, 3) := by decide +kernel
theorem dX11_term_17 : decode cX11_term 17 = .ok (.iload 4, 2) := by decide +kernel
theorem dX11_term_19 : decode cX11_term 19 = .ok (.iconst (-1), 1) := by decide +kernel
theorem dX11_term_20 : decode cX11_term 20 = .ok (.if_icmp .ne 9, 3) := by decide +kernel
theorem dX11_term_23 : decode cX11_term 23 = .ok (.aload_n 0, 1) := by decide +kernel
theorem dX11_term_24 : decode cX11_term 24 = .ok (.iconst (-1), 1) := by decide +kernel
theorem dX11_term_25 : decode cX11_term 25 = .ok (.invokevirtual 105, 3) := by decide +kernel
theorem dX11_term_28 : decode cX11_term 28 = .ok (.ireturn, 1) := by decide +kernel
theorem dX11_term_29 : decode cX11_term 29 = .ok (.iload 4, 2) := by decide +kernel
theorem dX11_term_31 : decode cX11_term 31 = .ok (.ifCond .eq 10, 3) := by decide +kernel
theorem dX11_term_34 : decode cX11_term 34 = .ok (.aload_n 0, 1) := by decide +kernel
theorem dX11_term_35 : decode cX11_term 35 = .ok (.iload 4, 2) := by decide +kernel
theorem dX11_term_37 : decode cX11_term 37 = .ok (.invokevirtual 105, 3) := by decide +kernel
theorem dX11_term_40 : decode cX11_term 40 = .ok (.ireturn, 1) := by decide +kernel
theorem dX11_term_41 : decode cX11_term 41 = .ok (.aload_n 0, 1) := by decide +kernel
theorem dX11_term_42 : decode cX11_term 42 = .ok (.getfield 43, 3) := by decide +kernel
theorem dX11_term_45 : decode cX11_term 45 = .ok (.aload_n 0, 1) := by decide +kernel
theorem dX11_term_46 : decode cX11_term 46 = .ok (.getfield 11, 3) := by decide +kernel
theorem dX11_term_49 : decode cX11_term 49 = .ok (.iload_n 2, 1) := by decide +kernel
theorem dX11_term_50 : decode cX11_term 50 = .ok (.aaload, 1) := by decide +kernel
theorem dX11_term_51 : decode cX11_term 51 = .ok (.invokevirtual 178, 3) := by decide +kernel
theorem dX11_term_54 : decode cX11_term 54 = .ok (.aload_n 0, 1) := by decide +kernel
theorem dX11_term_55 : decode cX11_term 55 = .ok (.getfield 43, 3) := by decide +kernel
theorem dX11_term_58 : decode cX11_term 58 = .ok (.getfield 182, 3) := by decide +kernel
theorem dX11_term_61 : decode cX11_term 61 = .ok (.iconst (-1), 1) := by decide +kernel
theorem dX11_term_62 : decode cX11_term 62 = .ok (.if_icmp .ne 14, 3) := by decide +kernel
theorem dX11_term_65 : decode cX11_term 65 = .ok (.aload_n 3, 1) := by decide +kernel
theorem dX11_term_66 : decode cX11_term 66 = .ok (.aload_n 0, 1) := by decide +kernel
theorem dX11_term_67 : decode cX11_term 67 = .ok (.getfield 95, 3) := by decide +kernel
theorem dX11_term_70 : decode cX11_term 70 = .ok (.invokevirtual 185, 3) := by decide +kernel
theorem dX11_term_73 : decode cX11_term 73 = .ok (.ifCond .eq 10, 3) := by decide +kernel
theorem dX11_term_76 : decode cX11_term 76 = .ok (.aload_n 0, 1) := by decide +kernel
theorem dX11_term_77 : decode cX11_term 77 = .ok (.bipush (-6), 2) := by decide +kernel
theorem dX11_term_79 : decode cX11_term 79 = .ok (.invokevirtual 105, 3) := by decide +kernel
theorem dX11_term_82 : decode cX11_term 82 = .ok (.ireturn, 1) := by decide +kernel
theorem dX11_term_83 : decode cX11_term 83 = .ok (.aload_n 3, 1) := by decide +kernel
theorem dX11_term_84 : decode cX11_term 84 = .ok (.aload_n 0, 1) := by decide +kernel
theorem dX11_term_85 : decode cX11_term 85 = .ok (.getfield 43, 3) := by decide +kernel
theorem dX11_term_88 : decode cX11_term 88 = .ok (.getfield 188, 3) := by decide +kernel
theorem dX11_term_91 : decode cX11_term 91 = .ok (.aload_n 0, 1) := by decide +kernel
theorem dX11_term_92 : decode cX11_term 92 = .ok (.getfield 95, 3) := by decide +kernel
theorem dX11_term_95 : decode cX11_term 95 = .ok (.invokevirtual 191, 3) := by decide +kernel
theorem dX11_term_98 : decode cX11_term 98 = .ok (.aload_n 3, 1) := by decide +kernel
theorem dX11_term_99 : decode cX11_term 99 = .ok (.getfield 195, 3) := by decide +kernel
theorem dX11_term_102 : decode cX11_term 102 = .ok (.ireturn, 1) := by decide +kernel
theorem dX11_fault_0 : decode cX11_fault 0 = .ok (.aload_n 0, 1) := by decide +kernel
theorem dX11_fault_1 : decode cX11_fault 1 = .ok (.getfield 43, 3) := by decide +kernel
theorem dX11_fault_4 : decode cX11_fault 4 = .ok (.getfield 182, 3) := by decide +kernel
theorem dX11_fault_7 : decode cX11_fault 7 = .ok (.ireturn, 1) := by decide +kernel
theorem dX11_law_0 : decode cX11_law 0 = .ok (.iload_n 1, 1) := by decide +kernel
theorem dX11_law_1 : decode cX11_law 1 = .ok (.ifCond .lt 23, 3) := by decide +kernel
theorem dX11_law_4 : decode cX11_law 4 = .ok (.iload_n 1, 1) := by decide +kernel
theorem dX11_law_5 : decode cX11_law 5 = .ok (.iconst 5, 1) := by decide +kernel
theorem dX11_law_6 : decode cX11_law 6 = .ok (.if_icmp .ge 18, 3) := by decide +kernel
theorem dX11_law_9 : decode cX11_law 9 = .ok (.iload_n 2, 1) := by decide +kernel
theorem dX11_law_10 : decode cX11_law 10 = .ok (.aload_n 0, 1) := by decide +kernel
theorem dX11_law_11 : decode cX11_law 11 = .ok (.getfield 95, 3) := by decide +kernel
theorem dX11_law_14 : decode cX11_law 14 = .ok (.if_icmp .lt 10, 3) := by decide +kernel
theorem dX11_law_17 : decode cX11_law 17 = .ok (.iload_n 2, 1) := by decide +kernel
theorem dX11_law_18 : decode cX11_law 18 = .ok (.sipush 4000, 3) := by decide +kernel
theorem dX11_law_21 : decode cX11_law 21 = .ok (.if_icmp .le 10, 3) := by decide +kernel
theorem dX11_law_24 : decode cX11_law 24 = .ok (.aload_n 0, 1) := by decide +kernel
theorem dX11_law_25 : decode cX11_law 25 = .ok (.bipush (-6), 2) := by decide +kernel
theorem dX11_law_27 : decode cX11_law 27 = .ok (.invokevirtual 105, 3) := by decide +kernel
theorem dX11_law_30 : decode cX11_law 30 = .ok (.ireturn, 1) := by decide +kernel
theorem dX11_law_31 : decode cX11_law 31 = .ok (.aload_n 0, 1) := by decide +kernel
theorem dX11_law_32 : decode cX11_law 32 = .ok (.getfield 36, 3) := by decide +kernel
theorem dX11_law_35 : decode cX11_law 35 = .ok (.getfield 198, 3) := by decide +kernel
theorem dX11_law_38 : decode cX11_law 38 = .ok (.bipush 8, 2) := by decide +kernel
theorem dX11_law_40 : decode cX11_law 40 = .ok (.if_icmp .lt 10, 3) := by decide +kernel
theorem dX11_law_43 : decode cX11_law 43 = .ok (.aload_n 0, 1) := by decide +kernel
theorem dX11_law_44 : decode cX11_law 44 = .ok (.bipush (-7), 2) := by decide +kernel
theorem dX11_law_46 : decode cX11_law 46 = .ok (.invokevirtual 105, 3) := by decide +kernel
theorem dX11_law_49 : decode cX11_law 49 = .ok (.ireturn, 1) := by decide +kernel
theorem dX11_law_50 : decode cX11_law 50 = .ok (.aload_n 0, 1) := by decide +kernel
theorem dX11_law_51 : decode cX11_law 51 = .ok (.getfield 36, 3) := by decide +kernel
theorem dX11_law_54 : decode cX11_law 54 = .ok (.iload_n 1, 1) := by decide +kernel
theorem dX11_law_55 : decode cX11_law 55 = .ok (.iload_n 2, 1) := by decide +kernel
theorem dX11_law_56 : decode cX11_law 56 = .ok (.invokevirtual 201, 3) := by decide +kernel
theorem dX11_law_59 : decode cX11_law 59 = .ok (.aload_n 0, 1) := by decide +kernel
theorem dX11_law_60 : decode cX11_law 60 = .ok (.getfield 36, 3) := by decide +kernel
theorem dX11_law_63 : decode cX11_law 63 = .ok (.getfield 198, 3) := by decide +kernel
theorem dX11_law_66 : decode cX11_law 66 = .ok (.ireturn, 1) := by decide +kernel
theorem dX11_counts_0 : decode cX11_counts 0 = .ok (.aload_n 0, 1) := by decide +kernel
theorem dX11_counts_1 : decode cX11_counts 1 = .ok (.iload_n 1, 1) := by decide +kernel
theorem dX11_counts_2 : decode cX11_counts 2 = .ok (.invokevirtual 174, 3) := by decide +kernel
theorem dX11_counts_5 : decode cX11_counts 5 = .ok (.astore 4, 2) := by decide +kernel
theorem dX11_counts_7 : decode cX11_counts 7 = .ok (.aload 4, 2) := by decide +kernel
theorem dX11_counts_9 : decode cX11_counts 9 = .ok (.ifnull 21, 3) := by decide +kernel
theorem dX11_counts_12 : decode cX11_counts 12 = .ok (.iload_n 2, 1) := by decide +kernel
theorem dX11_counts_13 : decode cX11_counts 13 = .ok (.ifCond .lt 17, 3) := by decide +kernel
theorem dX11_counts_16 : decode cX11_counts 16 = .ok (.iload_n 2, 1) := by decide +kernel
theorem dX11_counts_17 : decode cX11_counts 17 = .ok (.iconst 5, 1) := by decide +kernel
theorem dX11_counts_18 : decode cX11_counts 18 = .ok (.if_icmp .ge 12, 3) := by decide +kernel
theorem dX11_counts_21 : decode cX11_counts 21 = .ok (.aload 4, 2) := by decide +kernel
theorem dX11_counts_23 : decode cX11_counts 23 = .ok (.getfield 195, 3) := by decide +kernel
theorem dX11_counts_26 : decode cX11_counts 26 = .ok (.iconst (-1), 1) := by decide +kernel
theorem dX11_counts_27 : decode cX11_counts 27 = .ok (.if_icmp .ne 5, 3) := by decide +kernel
theorem dX11_counts_30 : decode cX11_counts 30 = .ok (.iconst (-1), 1) := by decide +kernel
theorem dX11_counts_31 : decode cX11_counts 31 = .ok (.ireturn, 1) := by decide +kernel
theorem dX11_counts_32 : decode cX11_counts 32 = .ok (.aload 4, 2) := by decide +kernel
theorem dX11_counts_34 : decode cX11_counts 34 = .ok (.iload_n 2, 1) := by decide +kernel
theorem dX11_counts_35 : decode cX11_counts 35 = .ok (.iload_n 3, 1) := by decide +kernel
theorem dX11_counts_36 : decode cX11_counts 36 = .ok (.aload_n 0, 1) := by decide +kernel
theorem dX11_counts_37 : decode cX11_counts 37 = .ok (.getfield 36, 3) := by decide +kernel
theorem dX11_counts_40 : decode cX11_counts 40 = .ok (.invokevirtual 204, 3) := by decide +kernel
theorem dX11_counts_43 : decode cX11_counts 43 = .ok (.ireturn, 1) := by decide +kernel
theorem dX11_ill_0 : decode cX11_ill 0 = .ok (.aload_n 0, 1) := by decide +kernel
theorem dX11_ill_1 : decode cX11_ill 1 = .ok (.iload_n 1, 1) := by decide +kernel
theorem dX11_ill_2 : decode cX11_ill 2 = .ok (.invokevirtual 174, 3) := by decide +kernel
theorem dX11_ill_5 : decode cX11_ill 5 = .ok (.astore_n 3, 1) := by decide +kernel
theorem dX11_ill_6 : decode cX11_ill 6 = .ok (.aload_n 0, 1) := by decide +kernel
theorem dX11_ill_7 : decode cX11_ill 7 = .ok (.iload_n 2, 1) := by decide +kernel
theorem dX11_ill_8 : decode cX11_ill 8 = .ok (.invokevirtual 123, 3) := by decide +kernel
theorem dX11_ill_11 : decode cX11_ill 11 = .ok (.istore 4, 2) := by decide +kernel
theorem dX11_ill_13 : decode cX11_ill 13 = .ok (.aload_n 3, 1) := by decide +kernel
theorem dX11_ill_14 : decode cX11_ill 14 = .ok (.ifnull 9, 3) := by decide +kernel
theorem dX11_ill_17 : decode cX11_ill 17 = .ok (.iload 4, 2) := by decide +kernel
theorem dX11_ill_19 : decode cX11_ill 19 = .ok (.iconst (-1), 1) := by decide +kernel
theorem dX11_ill_20 : decode cX11_ill 20 = .ok (.if_icmp .ne 9, 3) := by decide +kernel
theorem dX11_ill_23 : decode cX11_ill 23 = .ok (.aload_n 0, 1) := by decide +kernel
theorem dX11_ill_24 : decode cX11_ill 24 = .ok (.iconst (-1), 1) := by decide +kernel
theorem dX11_ill_25 : decode cX11_ill 25 = .ok (.invokevirtual 105, 3) := by decide +kernel
theorem dX11_ill_28 : decode cX11_ill 28 = .ok (.ireturn, 1) := by decide +kernel
theorem dX11_ill_29 : decode cX11_ill 29 = .ok (.iload 4, 2) := by decide +kernel
theorem dX11_ill_31 : decode cX11_ill 31 = .ok (.ifCond .eq 10, 3) := by decide +kernel
theorem dX11_ill_34 : decode cX11_ill 34 = .ok (.aload_n 0, 1) := by decide +kernel
theorem dX11_ill_35 : decode cX11_ill 35 = .ok (.iload 4, 2) := by decide +kernel
theorem dX11_ill_37 : decode cX11_ill 37 = .ok (.invokevirtual 105, 3) := by decide +kernel
theorem dX11_ill_40 : decode cX11_ill 40 = .ok (.ireturn, 1) := by decide +kernel
theorem dX11_ill_41 : decode cX11_ill 41 = .ok (.aload_n 3, 1) := by decide +kernel
theorem dX11_ill_42 : decode cX11_ill 42 = .ok (.aload_n 0, 1) := by decide +kernel
theorem dX11_ill_43 : decode cX11_ill 43 = .ok (.getfield 11, 3) := by decide +kernel
theorem dX11_ill_46 : decode cX11_ill 46 = .ok (.iload_n 2, 1) := by decide +kernel
theorem dX11_ill_47 : decode cX11_ill 47 = .ok (.aaload, 1) := by decide +kernel
theorem dX11_ill_48 : decode cX11_ill 48 = .ok (.invokevirtual 208, 3) := by decide +kernel
theorem dX11_ill_51 : decode cX11_ill 51 = .ok (.aload_n 3, 1) := by decide +kernel
theorem dX11_ill_52 : decode cX11_ill 52 = .ok (.getfield 211, 3) := by decide +kernel
theorem dX11_ill_55 : decode cX11_ill 55 = .ok (.ireturn, 1) := by decide +kernel
theorem dX11_refuse_0 : decode cX11_refuse 0 = .ok (.aload_n 0, 1) := by decide +kernel
theorem dX11_refuse_1 : decode cX11_refuse 1 = .ok (.iload_n 1, 1) := by decide +kernel
theorem dX11_refuse_2 : decode cX11_refuse 2 = .ok (.invokevirtual 174, 3) := by decide +kernel
theorem dX11_refuse_5 : decode cX11_refuse 5 = .ok (.astore_n 2, 1) := by decide +kernel
theorem dX11_refuse_6 : decode cX11_refuse 6 = .ok (.aload_n 2, 1) := by decide +kernel
theorem dX11_refuse_7 : decode cX11_refuse 7 = .ok (.ifnonnull 9, 3) := by decide +kernel
theorem dX11_refuse_10 : decode cX11_refuse 10 = .ok (.aload_n 0, 1) := by decide +kernel
theorem dX11_refuse_11 : decode cX11_refuse 11 = .ok (.iconst (-1), 1) := by decide +kernel
theorem dX11_refuse_12 : decode cX11_refuse 12 = .ok (.invokevirtual 105, 3) := by decide +kernel
theorem dX11_refuse_15 : decode cX11_refuse 15 = .ok (.ireturn, 1) := by decide +kernel
theorem dX11_refuse_16 : decode cX11_refuse 16 = .ok (.aload_n 2, 1) := by decide +kernel
theorem dX11_refuse_17 : decode cX11_refuse 17 = .ok (.aload_n 0, 1) := by decide +kernel
theorem dX11_refuse_18 : decode cX11_refuse 18 = .ok (.getfield 95, 3) := by decide +kernel
theorem dX11_refuse_21 : decode cX11_refuse 21 = .ok (.invokevirtual 214, 3) := by decide +kernel
theorem dX11_refuse_24 : decode cX11_refuse 24 = .ok (.ifCond .ne 10, 3) := by decide +kernel
theorem dX11_refuse_27 : decode cX11_refuse 27 = .ok (.aload_n 0, 1) := by decide +kernel
theorem dX11_refuse_28 : decode cX11_refuse 28 = .ok (.bipush (-6), 2) := by decide +kernel
theorem dX11_refuse_30 : decode cX11_refuse 30 = .ok (.invokevirtual 105, 3) := by decide +kernel
theorem dX11_refuse_33 : decode cX11_refuse 33 = .ok (.ireturn, 1) := by decide +kernel
theorem dX11_refuse_34 : decode cX11_refuse 34 = .ok (.aload_n 2, 1) := by decide +kernel
theorem dX11_refuse_35 : decode cX11_refuse 35 = .ok (.aload_n 0, 1) := by decide +kernel
theorem dX11_refuse_36 : decode cX11_refuse 36 = .ok (.getfield 95, 3) := by decide +kernel
theorem dX11_refuse_39 : decode cX11_refuse 39 = .ok (.invokevirtual 217, 3) := by decide +kernel
theorem dX11_refuse_42 : decode cX11_refuse 42 = .ok (.aload_n 2, 1) := by decide +kernel
theorem dX11_refuse_43 : decode cX11_refuse 43 = .ok (.iconst 2, 1) := by decide +kernel
theorem dX11_refuse_44 : decode cX11_refuse 44 = .ok (.aload_n 0, 1) := by decide +kernel
theorem dX11_refuse_45 : decode cX11_refuse 45 = .ok (.getfield 95, 3) := by decide +kernel
theorem dX11_refuse_48 : decode cX11_refuse 48 = .ok (.aload_n 0, 1) := by decide +kernel
theorem dX11_refuse_49 : decode cX11_refuse 49 = .ok (.getfield 36, 3) := by decide +kernel
theorem dX11_refuse_52 : decode cX11_refuse 52 = .ok (.invokevirtual 204, 3) := by decide +kernel
theorem dX11_refuse_55 : decode cX11_refuse 55 = .ok (.if_icmp .ge 13, 3) := by decide +kernel
theorem dX11_refuse_58 : decode cX11_refuse 58 = .ok (.aload_n 2, 1) := by decide +kernel
theorem dX11_refuse_59 : decode cX11_refuse 59 = .ok (.aload_n 0, 1) := by decide +kernel
theorem dX11_refuse_60 : decode cX11_refuse 60 = .ok (.getfield 95, 3) := by decide +kernel
theorem dX11_refuse_63 : decode cX11_refuse 63 = .ok (.invokevirtual 220, 3) := by decide +kernel
theorem dX11_refuse_66 : decode cX11_refuse 66 = .ok (.iconst 1, 1) := by decide +kernel
theorem dX11_refuse_67 : decode cX11_refuse 67 = .ok (.ireturn, 1) := by decide +kernel
theorem dX11_refuse_68 : decode cX11_refuse 68 = .ok (.aload_n 2, 1) := by decide +kernel
theorem dX11_refuse_69 : decode cX11_refuse 69 = .ok (.iconst 1, 1) := by decide +kernel
theorem dX11_refuse_70 : decode cX11_refuse 70 = .ok (.putfield 223, 3) := by decide +kernel
theorem dX11_refuse_73 : decode cX11_refuse 73 = .ok (.iconst 0, 1) := by decide +kernel
theorem dX11_refuse_74 : decode cX11_refuse 74 = .ok (.ireturn, 1) := by decide +kernel
theorem dX11_recall_0 : decode cX11_recall 0 = .ok (.aload_n 0, 1) := by decide +kernel
theorem dX11_recall_1 : decode cX11_recall 1 = .ok (.iload_n 1, 1) := by decide +kernel
theorem dX11_recall_2 : decode cX11_recall 2 = .ok (.invokevirtual 174, 3) := by decide +kernel
theorem dX11_recall_5 : decode cX11_recall 5 = .ok (.astore_n 2, 1) := by decide +kernel
theorem dX11_recall_6 : decode cX11_recall 6 = .ok (.aload_n 2, 1) := by decide +kernel
theorem dX11_recall_7 : decode cX11_recall 7 = .ok (.ifnonnull 9, 3) := by decide +kernel
theorem dX11_recall_10 : decode cX11_recall 10 = .ok (.aload_n 0, 1) := by decide +kernel
theorem dX11_recall_11 : decode cX11_recall 11 = .ok (.iconst (-1), 1) := by decide +kernel
theorem dX11_recall_12 : decode cX11_recall 12 = .ok (.invokevirtual 105, 3) := by decide +kernel
theorem dX11_recall_15 : decode cX11_recall 15 = .ok (.ireturn, 1) := by decide +kernel
theorem dX11_recall_16 : decode cX11_recall 16 = .ok (.aload_n 2, 1) := by decide +kernel
theorem dX11_recall_17 : decode cX11_recall 17 = .ok (.getfield 223, 3) := by decide +kernel
theorem dX11_recall_20 : decode cX11_recall 20 = .ok (.ifCond .ne 10, 3) := by decide +kernel
theorem dX11_recall_23 : decode cX11_recall 23 = .ok (.aload_n 0, 1) := by decide +kernel
theorem dX11_recall_24 : decode cX11_recall 24 = .ok (.bipush (-6), 2) := by decide +kernel
theorem dX11_recall_26 : decode cX11_recall 26 = .ok (.invokevirtual 105, 3) := by decide +kernel
theorem dX11_recall_29 : decode cX11_recall 29 = .ok (.ireturn, 1) := by decide +kernel
theorem dX11_recall_30 : decode cX11_recall 30 = .ok (.aload_n 2, 1) := by decide +kernel
theorem dX11_recall_31 : decode cX11_recall 31 = .ok (.iconst 0, 1) := by decide +kernel
theorem dX11_recall_32 : decode cX11_recall 32 = .ok (.putfield 223, 3) := by decide +kernel
theorem dX11_recall_35 : decode cX11_recall 35 = .ok (.iconst 1, 1) := by decide +kernel
theorem dX11_recall_36 : decode cX11_recall 36 = .ok (.ireturn, 1) := by decide +kernel
theorem dX11_lend_0 : decode cX11_lend 0 = .ok (.aload_n 0, 1) := by decide +kernel
theorem dX11_lend_1 : decode cX11_lend 1 = .ok (.iload_n 1, 1) := by decide +kernel
theorem dX11_lend_2 : decode cX11_lend 2 = .ok (.invokevirtual 174, 3) := by decide +kernel
theorem dX11_lend_5 : decode cX11_lend 5 = .ok (.astore 4, 2) := by decide +kernel
theorem dX11_lend_7 : decode cX11_lend 7 = .ok (.aload 4, 2) := by decide +kernel
theorem dX11_lend_9 : decode cX11_lend 9 = .ok (.ifnonnull 9, 3) := by decide +kernel
theorem dX11_lend_12 : decode cX11_lend 12 = .ok (.aload_n 0, 1) := by decide +kernel
theorem dX11_lend_13 : decode cX11_lend 13 = .ok (.iconst (-1), 1) := by decide +kernel
theorem dX11_lend_14 : decode cX11_lend 14 = .ok (.invokevirtual 105, 3) := by decide +kernel
theorem dX11_lend_17 : decode cX11_lend 17 = .ok (.ireturn, 1) := by decide +kernel
theorem dX11_lend_18 : decode cX11_lend 18 = .ok (.iload_n 2, 1) := by decide +kernel
theorem dX11_lend_19 : decode cX11_lend 19 = .ok (.iconst 1, 1) := by decide +kernel
theorem dX11_lend_20 : decode cX11_lend 20 = .ok (.if_icmp .lt 32, 3) := by decide +kernel
theorem dX11_lend_23 : decode cX11_lend 23 = .ok (.iload_n 2, 1) := by decide +kernel
theorem dX11_lend_24 : decode cX11_lend 24 = .ok (.sipush 400, 3) := by decide +kernel
theorem dX11_lend_27 : decode cX11_lend 27 = .ok (.if_icmp .gt 25, 3) := by decide +kernel
theorem dX11_lend_30 : decode cX11_lend 30 = .ok (.iload_n 3, 1) := by decide +kernel
theorem dX11_lend_31 : decode cX11_lend 31 = .ok (.ifCond .lt 21, 3) := by decide +kernel
theorem dX11_lend_34 : decode cX11_lend 34 = .ok (.iload_n 3, 1) := by decide +kernel
theorem dX11_lend_35 : decode cX11_lend 35 = .ok (.ldc 227, 2) := by decide +kernel
theorem dX11_lend_37 : decode cX11_lend 37 = .ok (.if_icmp .gt 15, 3) := by decide +kernel
theorem dX11_lend_40 : decode cX11_lend 40 = .ok (.aload 4, 2) := by decide +kernel
theorem dX11_lend_42 : decode cX11_lend 42 = .ok (.aload_n 0, 1) := by decide +kernel
theorem dX11_lend_43 : decode cX11_lend 43 = .ok (.getfield 95, 3) := by decide +kernel
theorem dX11_lend_46 : decode cX11_lend 46 = .ok (.invokevirtual 214, 3) := by decide +kernel
theorem dX11_lend_49 : decode cX11_lend 49 = .ok (.ifCond .ne 10, 3) := by decide +kernel
theorem dX11_lend_52 : decode cX11_lend 52 = .ok (.aload_n 0, 1) := by decide +kernel
theorem dX11_lend_53 : decode cX11_lend 53 = .ok (.bipush (-6), 2) := by decide +kernel
theorem dX11_lend_55 : decode cX11_lend 55 = .ok (.invokevirtual 105, 3) := by decide +kernel
theorem dX11_lend_58 : decode cX11_lend 58 = .ok (.ireturn, 1) := by decide +kernel
theorem dX11_lend_59 : decode cX11_lend 59 = .ok (.aload 4, 2) := by decide +kernel
theorem dX11_lend_61 : decode cX11_lend 61 = .ok (.aload_n 0, 1) := by decide +kernel
theorem dX11_lend_62 : decode cX11_lend 62 = .ok (.getfield 95, 3) := by decide +kernel
theorem dX11_lend_65 : decode cX11_lend 65 = .ok (.iload_n 2, 1) := by decide +kernel
theorem dX11_lend_66 : decode cX11_lend 66 = .ok (.iadd, 1) := by decide +kernel
theorem dX11_lend_67 : decode cX11_lend 67 = .ok (.putfield 228, 3) := by decide +kernel
theorem dX11_lend_70 : decode cX11_lend 70 = .ok (.iload_n 3, 1) := by decide +kernel
theorem dX11_lend_71 : decode cX11_lend 71 = .ok (.iload_n 3, 1) := by decide +kernel
theorem dX11_lend_72 : decode cX11_lend 72 = .ok (.aload 4, 2) := by decide +kernel
theorem dX11_lend_74 : decode cX11_lend 74 = .ok (.iconst 4, 1) := by decide +kernel
theorem dX11_lend_75 : decode cX11_lend 75 = .ok (.aload_n 0, 1) := by decide +kernel
theorem dX11_lend_76 : decode cX11_lend 76 = .ok (.getfield 95, 3) := by decide +kernel
theorem dX11_lend_79 : decode cX11_lend 79 = .ok (.aload_n 0, 1) := by decide +kernel
theorem dX11_lend_80 : decode cX11_lend 80 = .ok (.getfield 36, 3) := by decide +kernel
theorem dX11_lend_83 : decode cX11_lend 83 = .ok (.invokevirtual 204, 3) := by decide +kernel
theorem dX11_lend_86 : decode cX11_lend 86 = .ok (.imul, 1) := by decide +kernel
theorem dX11_lend_87 : decode cX11_lend 87 = .ok (.bipush 100, 2) := by decide +kernel
theorem dX11_lend_89 : decode cX11_lend 89 = .ok (.idiv, 1) := by decide +kernel
theorem dX11_lend_90 : decode cX11_lend 90 = .ok (.isub, 1) := by decide +kernel
theorem dX11_lend_91 : decode cX11_lend 91 = .ok (.istore 5, 2) := by decide +kernel
theorem dX11_lend_93 : decode cX11_lend 93 = .ok (.aload_n 0, 1) := by decide +kernel
theorem dX11_lend_94 : decode cX11_lend 94 = .ok (.dup, 1) := by decide +kernel
theorem dX11_lend_95 : decode cX11_lend 95 = .ok (.getfield 98, 3) := by decide +kernel
theorem dX11_lend_98 : decode cX11_lend 98 = .ok (.iload 5, 2) := by decide +kernel
theorem dX11_lend_100 : decode cX11_lend 100 = .ok (.iadd, 1) := by decide +kernel
theorem dX11_lend_101 : decode cX11_lend 101 = .ok (.putfield 98, 3) := by decide +kernel
theorem dX11_lend_104 : decode cX11_lend 104 = .ok (.iload 5, 2) := by decide +kernel
theorem dX11_lend_106 : decode cX11_lend 106 = .ok (.ireturn, 1) := by decide +kernel
theorem dX11_picture_0 : decode cX11_picture 0 = .ok (.iload_n 1, 1) := by decide +kernel
theorem dX11_picture_1 : decode cX11_picture 1 = .ok (.invokestatic 160, 3) := by decide +kernel
theorem dX11_picture_4 : decode cX11_picture 4 = .ok (.ifCond .ne 9, 3) := by decide +kernel
theorem dX11_picture_7 : decode cX11_picture 7 = .ok (.aload_n 0, 1) := by decide +kernel
theorem dX11_picture_8 : decode cX11_picture 8 = .ok (.iconst (-1), 1) := by decide +kernel
theorem dX11_picture_9 : decode cX11_picture 9 = .ok (.invokevirtual 105, 3) := by decide +kernel
theorem dX11_picture_12 : decode cX11_picture 12 = .ok (.ireturn, 1) := by decide +kernel
theorem dX11_picture_13 : decode cX11_picture 13 = .ok (.aload_n 0, 1) := by decide +kernel
theorem dX11_picture_14 : decode cX11_picture 14 = .ok (.getfield 89, 3) := by decide +kernel
theorem dX11_picture_17 : decode cX11_picture 17 = .ok (.bipush 8, 2) := by decide +kernel
theorem dX11_picture_19 : decode cX11_picture 19 = .ok (.if_icmp .lt 10, 3) := by decide +kernel
theorem dX11_picture_22 : decode cX11_picture 22 = .ok (.aload_n 0, 1) := by decide +kernel
theorem dX11_picture_23 : decode cX11_picture 23 = .ok (.bipush (-7), 2) := by decide +kernel
theorem dX11_picture_25 : decode cX11_picture 25 = .ok (.invokevirtual 105, 3) := by decide +kernel
theorem dX11_picture_28 : decode cX11_picture 28 = .ok (.ireturn, 1) := by decide +kernel
theorem dX11_picture_29 : decode cX11_picture 29 = .ok (.aload_n 0, 1) := by decide +kernel
theorem dX11_picture_30 : decode cX11_picture 30 = .ok (.getfield 23, 3) := by decide +kernel
theorem dX11_picture_33 : decode cX11_picture 33 = .ok (.aload_n 0, 1) := by decide +kernel
theorem dX11_picture_34 : decode cX11_picture 34 = .ok (.getfield 89, 3) := by decide +kernel
theorem dX11_picture_37 : decode cX11_picture 37 = .ok (.new 21, 3) := by decide +kernel
theorem dX11_picture_40 : decode cX11_picture 40 = .ok (.dup, 1) := by decide +kernel
theorem dX11_picture_41 : decode cX11_picture 41 = .ok (.iload_n 1, 1) := by decide +kernel
theorem dX11_picture_42 : decode cX11_picture 42 = .ok (.invokespecial 231, 3) := by decide +kernel
theorem dX11_picture_45 : decode cX11_picture 45 = .ok (.aastore, 1) := by decide +kernel
theorem dX11_picture_46 : decode cX11_picture 46 = .ok (.aload_n 0, 1) := by decide +kernel
theorem dX11_picture_47 : decode cX11_picture 47 = .ok (.dup, 1) := by decide +kernel
theorem dX11_picture_48 : decode cX11_picture 48 = .ok (.getfield 89, 3) := by decide +kernel
theorem dX11_picture_51 : decode cX11_picture 51 = .ok (.dup_x1, 1) := by decide +kernel
theorem dX11_picture_52 : decode cX11_picture 52 = .ok (.iconst 1, 1) := by decide +kernel
theorem dX11_picture_53 : decode cX11_picture 53 = .ok (.iadd, 1) := by decide +kernel
theorem dX11_picture_54 : decode cX11_picture 54 = .ok (.putfield 89, 3) := by decide +kernel
theorem dX11_picture_57 : decode cX11_picture 57 = .ok (.ireturn, 1) := by decide +kernel
theorem dX11_scene_0 : decode cX11_scene 0 = .ok (.aload_n 0, 1) := by decide +kernel
theorem dX11_scene_1 : decode cX11_scene 1 = .ok (.iload_n 1, 1) := by decide +kernel
theorem dX11_scene_2 : decode cX11_scene 2 = .ok (.invokevirtual 164, 3) := by decide +kernel
theorem dX11_scene_5 : decode cX11_scene 5 = .ok (.astore 5, 2) := by decide +kernel
theorem dX11_scene_7 : decode cX11_scene 7 = .ok (.aload 5, 2) := by decide +kernel
theorem dX11_scene_9 : decode cX11_scene 9 = .ok (.ifnull 14, 3) := by decide +kernel
theorem dX11_scene_12 : decode cX11_scene 12 = .ok (.iload_n 3, 1) := by decide +kernel
theorem dX11_scene_13 : decode cX11_scene 13 = .ok (.aload_n 0, 1) := by decide +kernel
theorem dX11_scene_14 : decode cX11_scene 14 = .ok (.getfield 85, 3) := by decide +kernel
theorem dX11_scene_17 : decode cX11_scene 17 = .ok (.invokestatic 232, 3) := by decide +kernel
theorem dX11_scene_20 : decode cX11_scene 20 = .ok (.ifCond .eq 9, 3) := by decide +kernel
theorem dX11_scene_23 : decode cX11_scene 23 = .ok (.aload_n 0, 1) := by decide +kernel
theorem dX11_scene_24 : decode cX11_scene 24 = .ok (.iconst (-1), 1) := by decide +kernel
theorem dX11_scene_25 : decode cX11_scene 25 = .ok (.invokevirtual 105, 3) := by decide +kernel
theorem dX11_scene_28 : decode cX11_scene 28 = .ok (.ireturn, 1) := by decide +kernel
theorem dX11_scene_29 : decode cX11_scene 29 = .ok (.iload_n 2, 1) := by decide +kernel
theorem dX11_scene_30 : decode cX11_scene 30 = .ok (.ifCond .lt 29, 3) := by decide +kernel
theorem dX11_scene_33 : decode cX11_scene 33 = .ok (.iload_n 2, 1) := by decide +kernel
theorem dX11_scene_34 : decode cX11_scene 34 = .ok (.bipush 9, 2) := by decide +kernel
theorem dX11_scene_36 : decode cX11_scene 36 = .ok (.if_icmp .gt 23, 3) := by decide +kernel
theorem dX11_scene_39 : decode cX11_scene 39 = .ok (.iload 4, 2) := by decide +kernel
theorem dX11_scene_41 : decode cX11_scene 41 = .ok (.iconst 1, 1) := by decide +kernel
theorem dX11_scene_42 : decode cX11_scene 42 = .ok (.if_icmp .lt 17, 3) := by decide +kernel
theorem dX11_scene_45 : decode cX11_scene 45 = .ok (.iload 4, 2) := by decide +kernel
theorem dX11_scene_47 : decode cX11_scene 47 = .ok (.iconst 4, 1) := by decide +kernel
theorem dX11_scene_48 : decode cX11_scene 48 = .ok (.if_icmp .gt 11, 3) := by decide +kernel
theorem dX11_scene_51 : decode cX11_scene 51 = .ok (.aload 5, 2) := by decide +kernel
theorem dX11_scene_53 : decode cX11_scene 53 = .ok (.getfield 235, 3) := by decide +kernel
theorem dX11_scene_56 : decode cX11_scene 56 = .ok (.ifCond .eq 10, 3) := by decide +kernel
theorem dX11_scene_59 : decode cX11_scene 59 = .ok (.aload_n 0, 1) := by decide +kernel
theorem dX11_scene_60 : decode cX11_scene 60 = .ok (.bipush (-6), 2) := by decide +kernel
theorem dX11_scene_62 : decode cX11_scene 62 = .ok (.invokevirtual 105, 3) := by decide +kernel
theorem dX11_scene_65 : decode cX11_scene 65 = .ok (.ireturn, 1) := by decide +kernel
theorem dX11_scene_66 : decode cX11_scene 66 = .ok (.aload 5, 2) := by decide +kernel
theorem dX11_scene_68 : decode cX11_scene 68 = .ok (.getfield 238, 3) := by decide +kernel
theorem dX11_scene_71 : decode cX11_scene 71 = .ok (.bipush 8, 2) := by decide +kernel
theorem dX11_scene_73 : decode cX11_scene 73 = .ok (.if_icmp .lt 10, 3) := by decide +kernel
theorem dX11_scene_76 : decode cX11_scene 76 = .ok (.aload_n 0, 1) := by decide +kernel
theorem dX11_scene_77 : decode cX11_scene 77 = .ok (.bipush (-7), 2) := by decide +kernel
theorem dX11_scene_79 : decode cX11_scene 79 = .ok (.invokevirtual 105, 3) := by decide +kernel
theorem dX11_scene_82 : decode cX11_scene 82 = .ok (.ireturn, 1) := by decide +kernel
theorem dX11_scene_83 : decode cX11_scene 83 = .ok (.aload_n 0, 1) := by decide +kernel
theorem dX11_scene_84 : decode cX11_scene 84 = .ok (.getfield 50, 3) := by decide +kernel
theorem dX11_scene_87 : decode cX11_scene 87 = .ok (.invokevirtual 241, 3) := by decide +kernel
theorem dX11_scene_90 : decode cX11_scene 90 = .ok (.aload 5, 2) := by decide +kernel
theorem dX11_scene_92 : decode cX11_scene 92 = .ok (.getfield 244, 3) := by decide +kernel
theorem dX11_scene_95 : decode cX11_scene 95 = .ok (.aload 5, 2) := by decide +kernel
theorem dX11_scene_97 : decode cX11_scene 97 = .ok (.getfield 238, 3) := by decide +kernel
theorem dX11_scene_100 : decode cX11_scene 100 = .ok (.new 248, 3) := by decide +kernel
theorem dX11_scene_103 : decode cX11_scene 103 = .ok (.dup, 1) := by decide +kernel
theorem dX11_scene_104 : decode cX11_scene 104 = .ok (.iload_n 2, 1) := by decide +kernel
theorem dX11_scene_105 : decode cX11_scene 105 = .ok (.iload_n 3, 1) := by decide +kernel
theorem dX11_scene_106 : decode cX11_scene 106 = .ok (.iload 4, 2) := by decide +kernel
theorem dX11_scene_108 : decode cX11_scene 108 = .ok (.invokespecial 250, 3) := by decide +kernel
theorem dX11_scene_111 : decode cX11_scene 111 = .ok (.aastore, 1) := by decide +kernel
theorem dX11_scene_112 : decode cX11_scene 112 = .ok (.aload 5, 2) := by decide +kernel
theorem dX11_scene_114 : decode cX11_scene 114 = .ok (.dup, 1) := by decide +kernel
theorem dX11_scene_115 : decode cX11_scene 115 = .ok (.getfield 238, 3) := by decide +kernel
theorem dX11_scene_118 : decode cX11_scene 118 = .ok (.dup_x1, 1) := by decide +kernel
theorem dX11_scene_119 : decode cX11_scene 119 = .ok (.iconst 1, 1) := by decide +kernel
theorem dX11_scene_120 : decode cX11_scene 120 = .ok (.iadd, 1) := by decide +kernel
theorem dX11_scene_121 : decode cX11_scene 121 = .ok (.putfield 238, 3) := by decide +kernel
theorem dX11_scene_124 : decode cX11_scene 124 = .ok (.ireturn, 1) := by decide +kernel
theorem dX11_mark_0 : decode cX11_mark 0 = .ok (.aload_n 0, 1) := by decide +kernel
theorem dX11_mark_1 : decode cX11_mark 1 = .ok (.iload_n 1, 1) := by decide +kernel
theorem dX11_mark_2 : decode cX11_mark 2 = .ok (.iload_n 2, 1) := by decide +kernel
theorem dX11_mark_3 : decode cX11_mark 3 = .ok (.invokevirtual 253, 3) := by decide +kernel
theorem dX11_mark_6 : decode cX11_mark 6 = .ok (.astore 5, 2) := by decide +kernel
theorem dX11_mark_8 : decode cX11_mark 8 = .ok (.aload 5, 2) := by decide +kernel
theorem dX11_mark_10 : decode cX11_mark 10 = .ok (.ifnull 12, 3) := by decide +kernel
theorem dX11_mark_13 : decode cX11_mark 13 = .ok (.iload_n 3, 1) := by decide +kernel
theorem dX11_mark_14 : decode cX11_mark 14 = .ok (.ifCond .lt 8, 3) := by decide +kernel
theorem dX11_mark_17 : decode cX11_mark 17 = .ok (.iload_n 3, 1) := by decide +kernel
theorem dX11_mark_18 : decode cX11_mark 18 = .ok (.iconst 4, 1) := by decide +kernel
theorem dX11_mark_19 : decode cX11_mark 19 = .ok (.if_icmp .lt 9, 3) := by decide +kernel
theorem dX11_mark_22 : decode cX11_mark 22 = .ok (.aload_n 0, 1) := by decide +kernel
theorem dX11_mark_23 : decode cX11_mark 23 = .ok (.iconst (-1), 1) := by decide +kernel
theorem dX11_mark_24 : decode cX11_mark 24 = .ok (.invokevirtual 105, 3) := by decide +kernel
theorem dX11_mark_27 : decode cX11_mark 27 = .ok (.ireturn, 1) := by decide +kernel
theorem dX11_mark_28 : decode cX11_mark 28 = .ok (.iload 4, 2) := by decide +kernel
theorem dX11_mark_30 : decode cX11_mark 30 = .ok (.ifCond .lt 10, 3) := by decide +kernel
theorem dX11_mark_33 : decode cX11_mark 33 = .ok (.iload 4, 2) := by decide +kernel
theorem dX11_mark_35 : decode cX11_mark 35 = .ok (.bipush 9, 2) := by decide +kernel
theorem dX11_mark_37 : decode cX11_mark 37 = .ok (.if_icmp .le 10, 3) := by decide +kernel
theorem dX11_mark_40 : decode cX11_mark 40 = .ok (.aload_n 0, 1) := by decide +kernel
theorem dX11_mark_41 : decode cX11_mark 41 = .ok (.bipush (-6), 2) := by decide +kernel
theorem dX11_mark_43 : decode cX11_mark 43 = .ok (.invokevirtual 105, 3) := by decide +kernel
theorem dX11_mark_46 : decode cX11_mark 46 = .ok (.ireturn, 1) := by decide +kernel
theorem dX11_mark_47 : decode cX11_mark 47 = .ok (.aload 5, 2) := by decide +kernel
theorem dX11_mark_49 : decode cX11_mark 49 = .ok (.getfield 257, 3) := by decide +kernel
theorem dX11_mark_52 : decode cX11_mark 52 = .ok (.iload_n 3, 1) := by decide +kernel
theorem dX11_mark_53 : decode cX11_mark 53 = .ok (.iaload, 1) := by decide +kernel
theorem dX11_mark_54 : decode cX11_mark 54 = .ok (.istore 6, 2) := by decide +kernel
theorem dX11_mark_56 : decode cX11_mark 56 = .ok (.aload 5, 2) := by decide +kernel
theorem dX11_mark_58 : decode cX11_mark 58 = .ok (.getfield 257, 3) := by decide +kernel
theorem dX11_mark_61 : decode cX11_mark 61 = .ok (.iload_n 3, 1) := by decide +kernel
theorem dX11_mark_62 : decode cX11_mark 62 = .ok (.iload 4, 2) := by decide +kernel
theorem dX11_mark_64 : decode cX11_mark 64 = .ok (.iastore, 1) := by decide +kernel
theorem dX11_mark_65 : decode cX11_mark 65 = .ok (.iload 6, 2) := by decide +kernel
theorem dX11_mark_67 : decode cX11_mark 67 = .ok (.ireturn, 1) := by decide +kernel
theorem dX11_costs_0 : decode cX11_costs 0 = .ok (.iload_n 1, 1) := by decide +kernel
theorem dX11_costs_1 : decode cX11_costs 1 = .ok (.ifCond .lt 19, 3) := by decide +kernel
theorem dX11_costs_4 : decode cX11_costs 4 = .ok (.iload_n 1, 1) := by decide +kernel
theorem dX11_costs_5 : decode cX11_costs 5 = .ok (.iconst 1, 1) := by decide +kernel
theorem dX11_costs_6 : decode cX11_costs 6 = .ok (.if_icmp .gt 14, 3) := by decide +kernel
theorem dX11_costs_9 : decode cX11_costs 9 = .ok (.iload_n 2, 1) := by decide +kernel
theorem dX11_costs_10 : decode cX11_costs 10 = .ok (.ifCond .lt 10, 3) := by decide +kernel
theorem dX11_costs_13 : decode cX11_costs 13 = .ok (.iload_n 2, 1) := by decide +kernel
theorem dX11_costs_14 : decode cX11_costs 14 = .ok (.sipush 999, 3) := by decide +kernel
theorem dX11_costs_17 : decode cX11_costs 17 = .ok (.if_icmp .le 10, 3) := by decide +kernel
theorem dX11_costs_20 : decode cX11_costs 20 = .ok (.aload_n 0, 1) := by decide +kernel
theorem dX11_costs_21 : decode cX11_costs 21 = .ok (.bipush (-6), 2) := by decide +kernel
theorem dX11_costs_23 : decode cX11_costs 23 = .ok (.invokevirtual 105, 3) := by decide +kernel
theorem dX11_costs_26 : decode cX11_costs 26 = .ok (.ireturn, 1) := by decide +kernel
theorem dX11_costs_27 : decode cX11_costs 27 = .ok (.aload_n 0, 1) := by decide +kernel
theorem dX11_costs_28 : decode cX11_costs 28 = .ok (.getfield 50, 3) := by decide +kernel
theorem dX11_costs_31 : decode cX11_costs 31 = .ok (.invokevirtual 241, 3) := by decide +kernel
theorem dX11_costs_34 : decode cX11_costs 34 = .ok (.iload_n 1, 1) := by decide +kernel
theorem dX11_costs_35 : decode cX11_costs 35 = .ok (.ifCond .ne 13, 3) := by decide +kernel
theorem dX11_costs_38 : decode cX11_costs 38 = .ok (.aload_n 0, 1) := by decide +kernel
theorem dX11_costs_39 : decode cX11_costs 39 = .ok (.getfield 50, 3) := by decide +kernel
theorem dX11_costs_42 : decode cX11_costs 42 = .ok (.getfield 260, 3) := by decide +kernel
theorem dX11_costs_45 : decode cX11_costs 45 = .ok (.goto 10, 3) := by decide +kernel
theorem dX11_costs_48 : decode cX11_costs 48 = .ok (.aload_n 0, 1) := by decide +kernel
theorem dX11_costs_49 : decode cX11_costs 49 = .ok (.getfield 50, 3) := by decide +kernel
theorem dX11_costs_52 : decode cX11_costs 52 = .ok (.getfield 263, 3) := by decide +kernel
theorem dX11_costs_55 : decode cX11_costs 55 = .ok (.istore_n 3, 1) := by decide +kernel
theorem dX11_costs_56 : decode cX11_costs 56 = .ok (.iload_n 1, 1) := by decide +kernel
theorem dX11_costs_57 : decode cX11_costs 57 = .ok (.ifCond .ne 14, 3) := by decide +kernel
theorem dX11_costs_60 : decode cX11_costs 60 = .ok (.aload_n 0, 1) := by decide +kernel
theorem dX11_costs_61 : decode cX11_costs 61 = .ok (.getfield 50, 3) := by decide +kernel
theorem dX11_costs_64 : decode cX11_costs 64 = .ok (.iload_n 2, 1) := by decide +kernel
theorem dX11_costs_65 : decode cX11_costs 65 = .ok (.putfield 260, 3) := by decide +kernel
theorem dX11_costs_68 : decode cX11_costs 68 = .ok (.goto 11, 3) := by decide +kernel
theorem dX11_costs_71 : decode cX11_costs 71 = .ok (.aload_n 0, 1) := by decide +kernel
theorem dX11_costs_72 : decode cX11_costs 72 = .ok (.getfield 50, 3) := by decide +kernel
theorem dX11_costs_75 : decode cX11_costs 75 = .ok (.iload_n 2, 1) := by decide +kernel
theorem dX11_costs_76 : decode cX11_costs 76 = .ok (.putfield 263, 3) := by decide +kernel
theorem dX11_costs_79 : decode cX11_costs 79 = .ok (.iload_n 3, 1) := by decide +kernel
theorem dX11_costs_80 : decode cX11_costs 80 = .ok (.ireturn, 1) := by decide +kernel
theorem dX11_best_0 : decode cX11_best 0 = .ok (.aload_n 0, 1) := by decide +kernel
theorem dX11_best_1 : decode cX11_best 1 = .ok (.iload_n 1, 1) := by decide +kernel
theorem dX11_best_2 : decode cX11_best 2 = .ok (.invokevirtual 164, 3) := by decide +kernel
theorem dX11_best_5 : decode cX11_best 5 = .ok (.astore_n 2, 1) := by decide +kernel
theorem dX11_best_6 : decode cX11_best 6 = .ok (.aload_n 2, 1) := by decide +kernel
theorem dX11_best_7 : decode cX11_best 7 = .ok (.ifnonnull 9, 3) := by decide +kernel
theorem dX11_best_10 : decode cX11_best 10 = .ok (.aload_n 0, 1) := by decide +kernel
theorem dX11_best_11 : decode cX11_best 11 = .ok (.iconst (-1), 1) := by decide +kernel
theorem dX11_best_12 : decode cX11_best 12 = .ok (.invokevirtual 105, 3) := by decide +kernel
theorem dX11_best_15 : decode cX11_best 15 = .ok (.ireturn, 1) := by decide +kernel
theorem dX11_best_16 : decode cX11_best 16 = .ok (.aload_n 2, 1) := by decide +kernel
theorem dX11_best_17 : decode cX11_best 17 = .ok (.getfield 238, 3) := by decide +kernel
theorem dX11_best_20 : decode cX11_best 20 = .ok (.ifCond .ne 10, 3) := by decide +kernel
theorem dX11_best_23 : decode cX11_best 23 = .ok (.aload_n 0, 1) := by decide +kernel
theorem dX11_best_24 : decode cX11_best 24 = .ok (.bipush (-6), 2) := by decide +kernel
theorem dX11_best_26 : decode cX11_best 26 = .ok (.invokevirtual 105, 3) := by decide +kernel
theorem dX11_best_29 : decode cX11_best 29 = .ok (.ireturn, 1) := by decide +kernel
theorem dX11_best_30 : decode cX11_best 30 = .ok (.aload_n 0, 1) := by decide +kernel
theorem dX11_best_31 : decode cX11_best 31 = .ok (.getfield 50, 3) := by decide +kernel
theorem dX11_best_34 : decode cX11_best 34 = .ok (.aload_n 2, 1) := by decide +kernel
theorem dX11_best_35 : decode cX11_best 35 = .ok (.invokevirtual 266, 3) := by decide +kernel
theorem dX11_best_38 : decode cX11_best 38 = .ok (.aload_n 0, 1) := by decide +kernel
theorem dX11_best_39 : decode cX11_best 39 = .ok (.getfield 50, 3) := by decide +kernel
theorem dX11_best_42 : decode cX11_best 42 = .ok (.invokevirtual 270, 3) := by decide +kernel
theorem dX11_best_45 : decode cX11_best 45 = .ok (.ireturn, 1) := by decide +kernel
theorem dX11_bestScene_0 : decode cX11_bestScene 0 = .ok (.aload_n 0, 1) := by decide +kernel
theorem dX11_bestScene_1 : decode cX11_bestScene 1 = .ok (.iload_n 1, 1) := by decide +kernel
theorem dX11_bestScene_2 : decode cX11_bestScene 2 = .ok (.invokevirtual 164, 3) := by decide +kernel
theorem dX11_bestScene_5 : decode cX11_bestScene 5 = .ok (.astore_n 3, 1) := by decide +kernel
theorem dX11_bestScene_6 : decode cX11_bestScene 6 = .ok (.aload_n 3, 1) := by decide +kernel
theorem dX11_bestScene_7 : decode cX11_bestScene 7 = .ok (.ifnull 15, 3) := by decide +kernel
theorem dX11_bestScene_10 : decode cX11_bestScene 10 = .ok (.iload_n 2, 1) := by decide +kernel
theorem dX11_bestScene_11 : decode cX11_bestScene 11 = .ok (.ifCond .lt 11, 3) := by decide +kernel
theorem dX11_bestScene_14 : decode cX11_bestScene 14 = .ok (.iload_n 2, 1) := by decide +kernel
theorem dX11_bestScene_15 : decode cX11_bestScene 15 = .ok (.aload_n 3, 1) := by decide +kernel
theorem dX11_bestScene_16 : decode cX11_bestScene 16 = .ok (.getfield 238, 3) := by decide +kernel
theorem dX11_bestScene_19 : decode cX11_bestScene 19 = .ok (.if_icmp .lt 5, 3) := by decide +kernel
theorem dX11_bestScene_22 : decode cX11_bestScene 22 = .ok (.iconst (-1), 1) := by decide +kernel
theorem dX11_bestScene_23 : decode cX11_bestScene 23 = .ok (.ireturn, 1) := by decide +kernel
theorem dX11_bestScene_24 : decode cX11_bestScene 24 = .ok (.aload_n 0, 1) := by decide +kernel
theorem dX11_bestScene_25 : decode cX11_bestScene 25 = .ok (.getfield 50, 3) := by decide +kernel
theorem dX11_bestScene_28 : decode cX11_bestScene 28 = .ok (.aload_n 3, 1) := by decide +kernel
theorem dX11_bestScene_29 : decode cX11_bestScene 29 = .ok (.invokevirtual 266, 3) := by decide +kernel
theorem dX11_bestScene_32 : decode cX11_bestScene 32 = .ok (.aload_n 0, 1) := by decide +kernel
theorem dX11_bestScene_33 : decode cX11_bestScene 33 = .ok (.getfield 50, 3) := by decide +kernel
theorem dX11_bestScene_36 : decode cX11_bestScene 36 = .ok (.getfield 273, 3) := by decide +kernel
theorem dX11_bestScene_39 : decode cX11_bestScene 39 = .ok (.iload_n 2, 1) := by decide +kernel
theorem dX11_bestScene_40 : decode cX11_bestScene 40 = .ok (.iaload, 1) := by decide +kernel
theorem dX11_bestScene_41 : decode cX11_bestScene 41 = .ok (.ireturn, 1) := by decide +kernel
theorem dX11_bound_0 : decode cX11_bound 0 = .ok (.aload_n 0, 1) := by decide +kernel
theorem dX11_bound_1 : decode cX11_bound 1 = .ok (.iload_n 1, 1) := by decide +kernel
theorem dX11_bound_2 : decode cX11_bound 2 = .ok (.invokevirtual 164, 3) := by decide +kernel
theorem dX11_bound_5 : decode cX11_bound 5 = .ok (.astore_n 2, 1) := by decide +kernel
theorem dX11_bound_6 : decode cX11_bound 6 = .ok (.aload_n 2, 1) := by decide +kernel
theorem dX11_bound_7 : decode cX11_bound 7 = .ok (.ifnonnull 11, 3) := by decide +kernel
theorem dX11_bound_10 : decode cX11_bound 10 = .ok (.aload_n 0, 1) := by decide +kernel
theorem dX11_bound_11 : decode cX11_bound 11 = .ok (.iconst (-1), 1) := by decide +kernel
theorem dX11_bound_12 : decode cX11_bound 12 = .ok (.invokevirtual 105, 3) := by decide +kernel
theorem dX11_bound_15 : decode cX11_bound 15 = .ok (.goto 11, 3) := by decide +kernel
theorem dX11_bound_18 : decode cX11_bound 18 = .ok (.aload_n 0, 1) := by decide +kernel
theorem dX11_bound_19 : decode cX11_bound 19 = .ok (.getfield 50, 3) := by decide +kernel
theorem dX11_bound_22 : decode cX11_bound 22 = .ok (.aload_n 2, 1) := by decide +kernel
theorem dX11_bound_23 : decode cX11_bound 23 = .ok (.invokevirtual 276, 3) := by decide +kernel
theorem dX11_bound_26 : decode cX11_bound 26 = .ok (.ireturn, 1) := by decide +kernel
theorem dX11_judge_0 : decode cX11_judge 0 = .ok (.aload_n 0, 1) := by decide +kernel
theorem dX11_judge_1 : decode cX11_judge 1 = .ok (.iload_n 1, 1) := by decide +kernel
theorem dX11_judge_2 : decode cX11_judge 2 = .ok (.iload_n 2, 1) := by decide +kernel
theorem dX11_judge_3 : decode cX11_judge 3 = .ok (.invokevirtual 280, 3) := by decide +kernel
theorem dX11_judge_6 : decode cX11_judge 6 = .ok (.istore_n 3, 1) := by decide +kernel
theorem dX11_judge_7 : decode cX11_judge 7 = .ok (.iload_n 3, 1) := by decide +kernel
theorem dX11_judge_8 : decode cX11_judge 8 = .ok (.ifCond .eq 11, 3) := by decide +kernel
theorem dX11_judge_11 : decode cX11_judge 11 = .ok (.aload_n 0, 1) := by decide +kernel
theorem dX11_judge_12 : decode cX11_judge 12 = .ok (.iload_n 3, 1) := by decide +kernel
theorem dX11_judge_13 : decode cX11_judge 13 = .ok (.invokevirtual 105, 3) := by decide +kernel
theorem dX11_judge_16 : decode cX11_judge 16 = .ok (.goto 16, 3) := by decide +kernel
theorem dX11_judge_19 : decode cX11_judge 19 = .ok (.aload_n 0, 1) := by decide +kernel
theorem dX11_judge_20 : decode cX11_judge 20 = .ok (.getfield 50, 3) := by decide +kernel
theorem dX11_judge_23 : decode cX11_judge 23 = .ok (.aload_n 0, 1) := by decide +kernel
theorem dX11_judge_24 : decode cX11_judge 24 = .ok (.getfield 23, 3) := by decide +kernel
theorem dX11_judge_27 : decode cX11_judge 27 = .ok (.iload_n 1, 1) := by decide +kernel
theorem dX11_judge_28 : decode cX11_judge 28 = .ok (.aaload, 1) := by decide +kernel
theorem dX11_judge_29 : decode cX11_judge 29 = .ok (.invokevirtual 284, 3) := by decide +kernel
theorem dX11_judge_32 : decode cX11_judge 32 = .ok (.ireturn, 1) := by decide +kernel
theorem dX11_begin_0 : decode cX11_begin 0 = .ok (.aload_n 0, 1) := by decide +kernel
theorem dX11_begin_1 : decode cX11_begin 1 = .ok (.iload_n 1, 1) := by decide +kernel
theorem dX11_begin_2 : decode cX11_begin 2 = .ok (.iload_n 2, 1) := by decide +kernel
theorem dX11_begin_3 : decode cX11_begin 3 = .ok (.invokevirtual 280, 3) := by decide +kernel
theorem dX11_begin_6 : decode cX11_begin 6 = .ok (.istore_n 3, 1) := by decide +kernel
theorem dX11_begin_7 : decode cX11_begin 7 = .ok (.iload_n 3, 1) := by decide +kernel
theorem dX11_begin_8 : decode cX11_begin 8 = .ok (.ifCond .eq 9, 3) := by decide +kernel
theorem dX11_begin_11 : decode cX11_begin 11 = .ok (.aload_n 0, 1) := by decide +kernel
theorem dX11_begin_12 : decode cX11_begin 12 = .ok (.iload_n 3, 1) := by decide +kernel
theorem dX11_begin_13 : decode cX11_begin 13 = .ok (.invokevirtual 105, 3) := by decide +kernel
theorem dX11_begin_16 : decode cX11_begin 16 = .ok (.ireturn, 1) := by decide +kernel
theorem dX11_begin_17 : decode cX11_begin 17 = .ok (.aload_n 0, 1) := by decide +kernel
theorem dX11_begin_18 : decode cX11_begin 18 = .ok (.getfield 23, 3) := by decide +kernel
theorem dX11_begin_21 : decode cX11_begin 21 = .ok (.iload_n 1, 1) := by decide +kernel
theorem dX11_begin_22 : decode cX11_begin 22 = .ok (.aaload, 1) := by decide +kernel
theorem dX11_begin_23 : decode cX11_begin 23 = .ok (.astore 4, 2) := by decide +kernel
theorem dX11_begin_25 : decode cX11_begin 25 = .ok (.aload 4, 2) := by decide +kernel
theorem dX11_begin_27 : decode cX11_begin 27 = .ok (.getfield 235, 3) := by decide +kernel
theorem dX11_begin_30 : decode cX11_begin 30 = .ok (.ifCond .ne 11, 3) := by decide +kernel
theorem dX11_begin_33 : decode cX11_begin 33 = .ok (.aload 4, 2) := by decide +kernel
theorem dX11_begin_35 : decode cX11_begin 35 = .ok (.getfield 238, 3) := by decide +kernel
theorem dX11_begin_38 : decode cX11_begin 38 = .ok (.ifCond .ne 10, 3) := by decide +kernel
theorem dX11_begin_41 : decode cX11_begin 41 = .ok (.aload_n 0, 1) := by decide +kernel
theorem dX11_begin_42 : decode cX11_begin 42 = .ok (.bipush (-6), 2) := by decide +kernel
theorem dX11_begin_44 : decode cX11_begin 44 = .ok (.invokevirtual 105, 3) := by decide +kernel
theorem dX11_begin_47 : decode cX11_begin 47 = .ok (.ireturn, 1) := by decide +kernel
theorem dX11_begin_48 : decode cX11_begin 48 = .ok (.aload 4, 2) := by decide +kernel
theorem dX11_begin_50 : decode cX11_begin 50 = .ok (.aload_n 0, 1) := by decide +kernel
theorem dX11_begin_51 : decode cX11_begin 51 = .ok (.getfield 50, 3) := by decide +kernel
theorem dX11_begin_54 : decode cX11_begin 54 = .ok (.getfield 287, 3) := by decide +kernel
theorem dX11_begin_57 : decode cX11_begin 57 = .ok (.invokevirtual 290, 3) := by decide +kernel
theorem dX11_begin_60 : decode cX11_begin 60 = .ok (.aload_n 0, 1) := by decide +kernel
theorem dX11_begin_61 : decode cX11_begin 61 = .ok (.getfield 50, 3) := by decide +kernel
theorem dX11_begin_64 : decode cX11_begin 64 = .ok (.aload 4, 2) := by decide +kernel
theorem dX11_begin_66 : decode cX11_begin 66 = .ok (.invokevirtual 284, 3) := by decide +kernel
theorem dX11_begin_69 : decode cX11_begin 69 = .ok (.ireturn, 1) := by decide +kernel
theorem dX11_retake_0 : decode cX11_retake 0 = .ok (.aload_n 0, 1) := by decide +kernel
theorem dX11_retake_1 : decode cX11_retake 1 = .ok (.iload_n 1, 1) := by decide +kernel
theorem dX11_retake_2 : decode cX11_retake 2 = .ok (.iload_n 2, 1) := by decide +kernel
theorem dX11_retake_3 : decode cX11_retake 3 = .ok (.invokevirtual 253, 3) := by decide +kernel
theorem dX11_retake_6 : decode cX11_retake 6 = .ok (.astore_n 3, 1) := by decide +kernel
theorem dX11_retake_7 : decode cX11_retake 7 = .ok (.aload_n 3, 1) := by decide +kernel
theorem dX11_retake_8 : decode cX11_retake 8 = .ok (.ifnonnull 9, 3) := by decide +kernel
theorem dX11_retake_11 : decode cX11_retake 11 = .ok (.aload_n 0, 1) := by decide +kernel
theorem dX11_retake_12 : decode cX11_retake 12 = .ok (.iconst (-1), 1) := by decide +kernel
theorem dX11_retake_13 : decode cX11_retake 13 = .ok (.invokevirtual 105, 3) := by decide +kernel
theorem dX11_retake_16 : decode cX11_retake 16 = .ok (.ireturn, 1) := by decide +kernel
theorem dX11_retake_17 : decode cX11_retake 17 = .ok (.aload_n 0, 1) := by decide +kernel
theorem dX11_retake_18 : decode cX11_retake 18 = .ok (.getfield 23, 3) := by decide +kernel
theorem dX11_retake_21 : decode cX11_retake 21 = .ok (.iload_n 1, 1) := by decide +kernel
theorem dX11_retake_22 : decode cX11_retake 22 = .ok (.aaload, 1) := by decide +kernel
theorem dX11_retake_23 : decode cX11_retake 23 = .ok (.getfield 235, 3) := by decide +kernel
theorem dX11_retake_26 : decode cX11_retake 26 = .ok (.ifCond .ne 10, 3) := by decide +kernel
theorem dX11_retake_29 : decode cX11_retake 29 = .ok (.aload_n 0, 1) := by decide +kernel
theorem dX11_retake_30 : decode cX11_retake 30 = .ok (.bipush (-6), 2) := by decide +kernel
theorem dX11_retake_32 : decode cX11_retake 32 = .ok (.invokevirtual 105, 3) := by decide +kernel
theorem dX11_retake_35 : decode cX11_retake 35 = .ok (.ireturn, 1) := by decide +kernel
theorem dX11_retake_36 : decode cX11_retake 36 = .ok (.aload_n 3, 1) := by decide +kernel
theorem dX11_retake_37 : decode cX11_retake 37 = .ok (.getfield 294, 3) := by decide +kernel
theorem dX11_retake_40 : decode cX11_retake 40 = .ok (.bipush 9, 2) := by decide +kernel
theorem dX11_retake_42 : decode cX11_retake 42 = .ok (.if_icmp .lt 10, 3) := by decide +kernel
theorem dX11_retake_45 : decode cX11_retake 45 = .ok (.aload_n 0, 1) := by decide +kernel
theorem dX11_retake_46 : decode cX11_retake 46 = .ok (.bipush (-7), 2) := by decide +kernel
theorem dX11_retake_48 : decode cX11_retake 48 = .ok (.invokevirtual 105, 3) := by decide +kernel
theorem dX11_retake_51 : decode cX11_retake 51 = .ok (.ireturn, 1) := by decide +kernel
theorem dX11_retake_52 : decode cX11_retake 52 = .ok (.aload_n 3, 1) := by decide +kernel
theorem dX11_retake_53 : decode cX11_retake 53 = .ok (.dup, 1) := by decide +kernel
theorem dX11_retake_54 : decode cX11_retake 54 = .ok (.getfield 294, 3) := by decide +kernel
theorem dX11_retake_57 : decode cX11_retake 57 = .ok (.iconst 1, 1) := by decide +kernel
theorem dX11_retake_58 : decode cX11_retake 58 = .ok (.iadd, 1) := by decide +kernel
theorem dX11_retake_59 : decode cX11_retake 59 = .ok (.putfield 294, 3) := by decide +kernel
theorem dX11_retake_62 : decode cX11_retake 62 = .ok (.aload_n 3, 1) := by decide +kernel
theorem dX11_retake_63 : decode cX11_retake 63 = .ok (.getfield 294, 3) := by decide +kernel
theorem dX11_retake_66 : decode cX11_retake 66 = .ok (.ireturn, 1) := by decide +kernel
theorem dX11_days_0 : decode cX11_days 0 = .ok (.iload_n 1, 1) := by decide +kernel
theorem dX11_days_1 : decode cX11_days 1 = .ok (.iconst 1, 1) := by decide +kernel
theorem dX11_days_2 : decode cX11_days 2 = .ok (.if_icmp .lt 9, 3) := by decide +kernel
theorem dX11_days_5 : decode cX11_days 5 = .ok (.iload_n 1, 1) := by decide +kernel
theorem dX11_days_6 : decode cX11_days 6 = .ok (.bipush 100, 2) := by decide +kernel
theorem dX11_days_8 : decode cX11_days 8 = .ok (.if_icmp .le 10, 3) := by decide +kernel
theorem dX11_days_11 : decode cX11_days 11 = .ok (.aload_n 0, 1) := by decide +kernel
theorem dX11_days_12 : decode cX11_days 12 = .ok (.bipush (-6), 2) := by decide +kernel
theorem dX11_days_14 : decode cX11_days 14 = .ok (.invokevirtual 105, 3) := by decide +kernel
theorem dX11_days_17 : decode cX11_days 17 = .ok (.ireturn, 1) := by decide +kernel
theorem dX11_days_18 : decode cX11_days 18 = .ok (.iload_n 1, 1) := by decide +kernel
theorem dX11_days_19 : decode cX11_days 19 = .ok (.sipush 4000, 3) := by decide +kernel
theorem dX11_days_22 : decode cX11_days 22 = .ok (.aload_n 0, 1) := by decide +kernel
theorem dX11_days_23 : decode cX11_days 23 = .ok (.getfield 95, 3) := by decide +kernel
theorem dX11_days_26 : decode cX11_days 26 = .ok (.isub, 1) := by decide +kernel
theorem dX11_days_27 : decode cX11_days 27 = .ok (.if_icmp .le 10, 3) := by decide +kernel
theorem dX11_days_30 : decode cX11_days 30 = .ok (.aload_n 0, 1) := by decide +kernel
theorem dX11_days_31 : decode cX11_days 31 = .ok (.bipush (-7), 2) := by decide +kernel
theorem dX11_days_33 : decode cX11_days 33 = .ok (.invokevirtual 105, 3) := by decide +kernel
theorem dX11_days_36 : decode cX11_days 36 = .ok (.ireturn, 1) := by decide +kernel
theorem dX11_days_37 : decode cX11_days 37 = .ok (.iconst 0, 1) := by decide +kernel
theorem dX11_days_38 : decode cX11_days 38 = .ok (.istore_n 2, 1) := by decide +kernel
theorem dX11_days_39 : decode cX11_days 39 = .ok (.iload_n 2, 1) := by decide +kernel
theorem dX11_days_40 : decode cX11_days 40 = .ok (.iload_n 1, 1) := by decide +kernel
theorem dX11_days_41 : decode cX11_days 41 = .ok (.if_icmp .ge 13, 3) := by decide +kernel
theorem dX11_days_44 : decode cX11_days 44 = .ok (.aload_n 0, 1) := by decide +kernel
theorem dX11_days_45 : decode cX11_days 45 = .ok (.invokevirtual 297, 3) := by decide +kernel
theorem dX11_days_48 : decode cX11_days 48 = .ok (.iinc 2 1, 3) := by decide +kernel
theorem dX11_days_51 : decode cX11_days 51 = .ok (.goto (-12), 3) := by decide +kernel
theorem dX11_days_54 : decode cX11_days 54 = .ok (.aload_n 0, 1) := by decide +kernel
theorem dX11_days_55 : decode cX11_days 55 = .ok (.getfield 95, 3) := by decide +kernel
theorem dX11_days_58 : decode cX11_days 58 = .ok (.ireturn, 1) := by decide +kernel
theorem dX11_who_0 : decode cX11_who 0 = .ok (.aload_n 0, 1) := by decide +kernel
theorem dX11_who_1 : decode cX11_who 1 = .ok (.iload_n 1, 1) := by decide +kernel
theorem dX11_who_2 : decode cX11_who 2 = .ok (.invokevirtual 174, 3) := by decide +kernel
theorem dX11_who_5 : decode cX11_who 5 = .ok (.astore_n 3, 1) := by decide +kernel
theorem dX11_who_6 : decode cX11_who 6 = .ok (.aload_n 3, 1) := by decide +kernel
theorem dX11_who_7 : decode cX11_who 7 = .ok (.ifnonnull 5, 3) := by decide +kernel
theorem dX11_who_10 : decode cX11_who 10 = .ok (.iconst (-1), 1) := by decide +kernel
theorem dX11_who_11 : decode cX11_who 11 = .ok (.ireturn, 1) := by decide +kernel
theorem dX11_who_12 : decode cX11_who 12 = .ok (.iload_n 2, 1) := by decide +kernel
theorem dX11_who_13 : decode cX11_who 13 = .ok (.tableswitch 138 0 7 #[47, 52, 57, 74, 87, 92, 97, 121], 47) := by decide +kernel
theorem dX11_who_60 : decode cX11_who 60 = .ok (.aload_n 3, 1) := by decide +kernel
theorem dX11_who_61 : decode cX11_who 61 = .ok (.getfield 300, 3) := by decide +kernel
theorem dX11_who_64 : decode cX11_who 64 = .ok (.ireturn, 1) := by decide +kernel
theorem dX11_who_65 : decode cX11_who 65 = .ok (.aload_n 3, 1) := by decide +kernel
theorem dX11_who_66 : decode cX11_who 66 = .ok (.getfield 195, 3) := by decide +kernel
theorem dX11_who_69 : decode cX11_who 69 = .ok (.ireturn, 1) := by decide +kernel
theorem dX11_who_70 : decode cX11_who 70 = .ok (.aload_n 3, 1) := by decide +kernel
theorem dX11_who_71 : decode cX11_who 71 = .ok (.aload_n 0, 1) := by decide +kernel
theorem dX11_who_72 : decode cX11_who 72 = .ok (.getfield 95, 3) := by decide +kernel
theorem dX11_who_75 : decode cX11_who 75 = .ok (.invokevirtual 185, 3) := by decide +kernel
theorem dX11_who_78 : decode cX11_who 78 = .ok (.ifCond .eq 7, 3) := by decide +kernel
theorem dX11_who_81 : decode cX11_who 81 = .ok (.iconst 1, 1) := by decide +kernel
theorem dX11_who_82 : decode cX11_who 82 = .ok (.goto 4, 3) := by decide +kernel
theorem dX11_who_85 : decode cX11_who 85 = .ok (.iconst 0, 1) := by decide +kernel
theorem dX11_who_86 : decode cX11_who 86 = .ok (.ireturn, 1) := by decide +kernel
theorem dX11_who_87 : decode cX11_who 87 = .ok (.aload_n 3, 1) := by decide +kernel
theorem dX11_who_88 : decode cX11_who 88 = .ok (.getfield 223, 3) := by decide +kernel
theorem dX11_who_91 : decode cX11_who 91 = .ok (.ifCond .eq 7, 3) := by decide +kernel
theorem dX11_who_94 : decode cX11_who 94 = .ok (.iconst 1, 1) := by decide +kernel
theorem dX11_who_95 : decode cX11_who 95 = .ok (.goto 4, 3) := by decide +kernel
theorem dX11_who_98 : decode cX11_who 98 = .ok (.iconst 0, 1) := by decide +kernel
theorem dX11_who_99 : decode cX11_who 99 = .ok (.ireturn, 1) := by decide +kernel
theorem dX11_who_100 : decode cX11_who 100 = .ok (.aload_n 3, 1) := by decide +kernel
theorem dX11_who_101 : decode cX11_who 101 = .ok (.getfield 228, 3) := by decide +kernel
theorem dX11_who_104 : decode cX11_who 104 = .ok (.ireturn, 1) := by decide +kernel
theorem dX11_who_105 : decode cX11_who 105 = .ok (.aload_n 3, 1) := by decide +kernel
theorem dX11_who_106 : decode cX11_who 106 = .ok (.getfield 303, 3) := by decide +kernel
theorem dX11_who_109 : decode cX11_who 109 = .ok (.ireturn, 1) := by decide +kernel
theorem dX11_who_110 : decode cX11_who 110 = .ok (.aload_n 3, 1) := by decide +kernel
theorem dX11_who_111 : decode cX11_who 111 = .ok (.aload_n 0, 1) := by decide +kernel
theorem dX11_who_112 : decode cX11_who 112 = .ok (.getfield 95, 3) := by decide +kernel
theorem dX11_who_115 : decode cX11_who 115 = .ok (.invokevirtual 185, 3) := by decide +kernel
theorem dX11_who_118 : decode cX11_who 118 = .ok (.ifCond .eq 14, 3) := by decide +kernel
theorem dX11_who_121 : decode cX11_who 121 = .ok (.aload_n 3, 1) := by decide +kernel
theorem dX11_who_122 : decode cX11_who 122 = .ok (.aload_n 0, 1) := by decide +kernel
theorem dX11_who_123 : decode cX11_who 123 = .ok (.getfield 95, 3) := by decide +kernel
theorem dX11_who_126 : decode cX11_who 126 = .ok (.invokevirtual 217, 3) := by decide +kernel
theorem dX11_who_129 : decode cX11_who 129 = .ok (.goto 4, 3) := by decide +kernel
theorem dX11_who_132 : decode cX11_who 132 = .ok (.iconst 0, 1) := by decide +kernel
theorem dX11_who_133 : decode cX11_who 133 = .ok (.ireturn, 1) := by decide +kernel
theorem dX11_who_134 : decode cX11_who 134 = .ok (.aload_n 3, 1) := by decide +kernel
theorem dX11_who_135 : decode cX11_who 135 = .ok (.aload_n 0, 1) := by decide +kernel
theorem dX11_who_136 : decode cX11_who 136 = .ok (.getfield 95, 3) := by decide +kernel
theorem dX11_who_139 : decode cX11_who 139 = .ok (.invokevirtual 306, 3) := by decide +kernel
theorem dX11_who_142 : decode cX11_who 142 = .ok (.ifCond .eq 7, 3) := by decide +kernel
theorem dX11_who_145 : decode cX11_who 145 = .ok (.iconst 1, 1) := by decide +kernel
theorem dX11_who_146 : decode cX11_who 146 = .ok (.goto 4, 3) := by decide +kernel
theorem dX11_who_149 : decode cX11_who 149 = .ok (.iconst 0, 1) := by decide +kernel
theorem dX11_who_150 : decode cX11_who 150 = .ok (.ireturn, 1) := by decide +kernel
theorem dX11_who_151 : decode cX11_who 151 = .ok (.iconst (-1), 1) := by decide +kernel
theorem dX11_who_152 : decode cX11_who 152 = .ok (.ireturn, 1) := by decide +kernel
theorem dX11_about_0 : decode cX11_about 0 = .ok (.aload_n 0, 1) := by decide +kernel
theorem dX11_about_1 : decode cX11_about 1 = .ok (.iload_n 1, 1) := by decide +kernel
theorem dX11_about_2 : decode cX11_about 2 = .ok (.invokevirtual 164, 3) := by decide +kernel
theorem dX11_about_5 : decode cX11_about 5 = .ok (.astore_n 3, 1) := by decide +kernel
theorem dX11_about_6 : decode cX11_about 6 = .ok (.aload_n 3, 1) := by decide +kernel
theorem dX11_about_7 : decode cX11_about 7 = .ok (.ifnonnull 5, 3) := by decide +kernel
theorem dX11_about_10 : decode cX11_about 10 = .ok (.iconst (-1), 1) := by decide +kernel
theorem dX11_about_11 : decode cX11_about 11 = .ok (.ireturn, 1) := by decide +kernel
theorem dX11_about_12 : decode cX11_about 12 = .ok (.iload_n 2, 1) := by decide +kernel
theorem dX11_about_13 : decode cX11_about 13 = .ok (.tableswitch 104 0 8 #[51, 56, 61, 74, 79, 84, 89, 94, 99], 51) := by decide +kernel
theorem dX11_about_64 : decode cX11_about 64 = .ok (.aload_n 3, 1) := by decide +kernel
theorem dX11_about_65 : decode cX11_about 65 = .ok (.getfield 168, 3) := by decide +kernel
theorem dX11_about_68 : decode cX11_about 68 = .ok (.ireturn, 1) := by decide +kernel
theorem dX11_about_69 : decode cX11_about 69 = .ok (.aload_n 3, 1) := by decide +kernel
theorem dX11_about_70 : decode cX11_about 70 = .ok (.getfield 238, 3) := by decide +kernel
theorem dX11_about_73 : decode cX11_about 73 = .ok (.ireturn, 1) := by decide +kernel
theorem dX11_about_74 : decode cX11_about 74 = .ok (.aload_n 3, 1) := by decide +kernel
theorem dX11_about_75 : decode cX11_about 75 = .ok (.getfield 235, 3) := by decide +kernel
theorem dX11_about_78 : decode cX11_about 78 = .ok (.ifCond .eq 7, 3) := by decide +kernel
theorem dX11_about_81 : decode cX11_about 81 = .ok (.iconst 1, 1) := by decide +kernel
theorem dX11_about_82 : decode cX11_about 82 = .ok (.goto 4, 3) := by decide +kernel
theorem dX11_about_85 : decode cX11_about 85 = .ok (.iconst 0, 1) := by decide +kernel
theorem dX11_about_86 : decode cX11_about 86 = .ok (.ireturn, 1) := by decide +kernel
theorem dX11_about_87 : decode cX11_about 87 = .ok (.aload_n 3, 1) := by decide +kernel
theorem dX11_about_88 : decode cX11_about 88 = .ok (.invokevirtual 309, 3) := by decide +kernel
theorem dX11_about_91 : decode cX11_about 91 = .ok (.ireturn, 1) := by decide +kernel
theorem dX11_about_92 : decode cX11_about 92 = .ok (.aload_n 3, 1) := by decide +kernel
theorem dX11_about_93 : decode cX11_about 93 = .ok (.getfield 312, 3) := by decide +kernel
theorem dX11_about_96 : decode cX11_about 96 = .ok (.ireturn, 1) := by decide +kernel
theorem dX11_about_97 : decode cX11_about 97 = .ok (.aload_n 3, 1) := by decide +kernel
theorem dX11_about_98 : decode cX11_about 98 = .ok (.getfield 315, 3) := by decide +kernel
theorem dX11_about_101 : decode cX11_about 101 = .ok (.ireturn, 1) := by decide +kernel
theorem dX11_about_102 : decode cX11_about 102 = .ok (.aload_n 3, 1) := by decide +kernel
theorem dX11_about_103 : decode cX11_about 103 = .ok (.getfield 318, 3) := by decide +kernel
theorem dX11_about_106 : decode cX11_about 106 = .ok (.ireturn, 1) := by decide +kernel
theorem dX11_about_107 : decode cX11_about 107 = .ok (.aload_n 3, 1) := by decide +kernel
theorem dX11_about_108 : decode cX11_about 108 = .ok (.getfield 321, 3) := by decide +kernel
theorem dX11_about_111 : decode cX11_about 111 = .ok (.ireturn, 1) := by decide +kernel
theorem dX11_about_112 : decode cX11_about 112 = .ok (.aload_n 3, 1) := by decide +kernel
theorem dX11_about_113 : decode cX11_about 113 = .ok (.getfield 324, 3) := by decide +kernel
theorem dX11_about_116 : decode cX11_about 116 = .ok (.ireturn, 1) := by decide +kernel
theorem dX11_about_117 : decode cX11_about 117 = .ok (.iconst (-1), 1) := by decide +kernel
theorem dX11_about_118 : decode cX11_about 118 = .ok (.ireturn, 1) := by decide +kernel
theorem dX11_left_0 : decode cX11_left 0 = .ok (.aload_n 0, 1) := by decide +kernel
theorem dX11_left_1 : decode cX11_left 1 = .ok (.iload_n 1, 1) := by decide +kernel
theorem dX11_left_2 : decode cX11_left 2 = .ok (.iload_n 2, 1) := by decide +kernel
theorem dX11_left_3 : decode cX11_left 3 = .ok (.invokevirtual 253, 3) := by decide +kernel
theorem dX11_left_6 : decode cX11_left 6 = .ok (.astore_n 3, 1) := by decide +kernel
theorem dX11_left_7 : decode cX11_left 7 = .ok (.aload_n 3, 1) := by decide +kernel
theorem dX11_left_8 : decode cX11_left 8 = .ok (.ifnonnull 7, 3) := by decide +kernel
theorem dX11_left_11 : decode cX11_left 11 = .ok (.iconst (-1), 1) := by decide +kernel
theorem dX11_left_12 : decode cX11_left 12 = .ok (.goto 7, 3) := by decide +kernel
theorem dX11_left_15 : decode cX11_left 15 = .ok (.aload_n 3, 1) := by decide +kernel
theorem dX11_left_16 : decode cX11_left 16 = .ok (.getfield 294, 3) := by decide +kernel
theorem dX11_left_19 : decode cX11_left 19 = .ok (.ireturn, 1) := by decide +kernel
theorem dX11_draft_0 : decode cX11_draft 0 = .ok (.aload_n 0, 1) := by decide +kernel
theorem dX11_draft_1 : decode cX11_draft 1 = .ok (.iload_n 1, 1) := by decide +kernel
theorem dX11_draft_2 : decode cX11_draft 2 = .ok (.invokevirtual 164, 3) := by decide +kernel
theorem dX11_draft_5 : decode cX11_draft 5 = .ok (.astore 4, 2) := by decide +kernel
theorem dX11_draft_7 : decode cX11_draft 7 = .ok (.aload_n 0, 1) := by decide +kernel
theorem dX11_draft_8 : decode cX11_draft 8 = .ok (.iload_n 3, 1) := by decide +kernel
theorem dX11_draft_9 : decode cX11_draft 9 = .ok (.invokevirtual 123, 3) := by decide +kernel
theorem dX11_draft_12 : decode cX11_draft 12 = .ok (.istore 5, 2) := by decide +kernel
theorem dX11_draft_14 : decode cX11_draft 14 = .ok (.aload 4, 2) := by decide +kernel
theorem dX11_draft_16 : decode cX11_draft 16 = .ok (.ifnull 19, 3) := by decide +kernel
theorem dX11_draft_19 : decode cX11_draft 19 = .ok (.iload_n 2, 1) := by decide +kernel
theorem dX11_draft_20 : decode cX11_draft 20 = .ok (.ifCond .lt 15, 3) := by decide +kernel
theorem dX11_draft_23 : decode cX11_draft 23 = .ok (.iload_n 2, 1) := by decide +kernel
theorem dX11_draft_24 : decode cX11_draft 24 = .ok (.bipush 6, 2) := by decide +kernel
theorem dX11_draft_26 : decode cX11_draft 26 = .ok (.if_icmp .ge 9, 3) := by decide +kernel
theorem dX11_draft_29 : decode cX11_draft 29 = .ok (.iload 5, 2) := by decide +kernel
theorem dX11_draft_31 : decode cX11_draft 31 = .ok (.iconst (-1), 1) := by decide +kernel
theorem dX11_draft_32 : decode cX11_draft 32 = .ok (.if_icmp .ne 9, 3) := by decide +kernel
theorem dX11_draft_35 : decode cX11_draft 35 = .ok (.aload_n 0, 1) := by decide +kernel
theorem dX11_draft_36 : decode cX11_draft 36 = .ok (.iconst (-1), 1) := by decide +kernel
theorem dX11_draft_37 : decode cX11_draft 37 = .ok (.invokevirtual 105, 3) := by decide +kernel
theorem dX11_draft_40 : decode cX11_draft 40 = .ok (.ireturn, 1) := by decide +kernel
theorem dX11_draft_41 : decode cX11_draft 41 = .ok (.iload 5, 2) := by decide +kernel
theorem dX11_draft_43 : decode cX11_draft 43 = .ok (.ifCond .eq 10, 3) := by decide +kernel
theorem dX11_draft_46 : decode cX11_draft 46 = .ok (.aload_n 0, 1) := by decide +kernel
theorem dX11_draft_47 : decode cX11_draft 47 = .ok (.iload 5, 2) := by decide +kernel
theorem dX11_draft_49 : decode cX11_draft 49 = .ok (.invokevirtual 105, 3) := by decide +kernel
theorem dX11_draft_52 : decode cX11_draft 52 = .ok (.ireturn, 1) := by decide +kernel
theorem dX11_draft_53 : decode cX11_draft 53 = .ok (.aload 4, 2) := by decide +kernel
theorem dX11_draft_55 : decode cX11_draft 55 = .ok (.getfield 324, 3) := by decide +kernel
theorem dX11_draft_58 : decode cX11_draft 58 = .ok (.bipush 8, 2) := by decide +kernel
theorem dX11_draft_60 : decode cX11_draft 60 = .ok (.if_icmp .lt 10, 3) := by decide +kernel
theorem dX11_draft_63 : decode cX11_draft 63 = .ok (.aload_n 0, 1) := by decide +kernel
theorem dX11_draft_64 : decode cX11_draft 64 = .ok (.bipush (-7), 2) := by decide +kernel
theorem dX11_draft_66 : decode cX11_draft 66 = .ok (.invokevirtual 105, 3) := by decide +kernel
theorem dX11_draft_69 : decode cX11_draft 69 = .ok (.ireturn, 1) := by decide +kernel
theorem dX11_draft_70 : decode cX11_draft 70 = .ok (.aload_n 0, 1) := by decide +kernel
theorem dX11_draft_71 : decode cX11_draft 71 = .ok (.getfield 57, 3) := by decide +kernel
theorem dX11_draft_74 : decode cX11_draft 74 = .ok (.aload 4, 2) := by decide +kernel
theorem dX11_draft_76 : decode cX11_draft 76 = .ok (.iload_n 2, 1) := by decide +kernel
theorem dX11_draft_77 : decode cX11_draft 77 = .ok (.aload_n 0, 1) := by decide +kernel
theorem dX11_draft_78 : decode cX11_draft 78 = .ok (.getfield 11, 3) := by decide +kernel
theorem dX11_draft_81 : decode cX11_draft 81 = .ok (.iload_n 3, 1) := by decide +kernel
theorem dX11_draft_82 : decode cX11_draft 82 = .ok (.aaload, 1) := by decide +kernel
theorem dX11_draft_83 : decode cX11_draft 83 = .ok (.invokevirtual 327, 3) := by decide +kernel
theorem dX11_draft_86 : decode cX11_draft 86 = .ok (.ireturn, 1) := by decide +kernel
theorem dX11_credit_0 : decode cX11_credit 0 = .ok (.aload_n 0, 1) := by decide +kernel
theorem dX11_credit_1 : decode cX11_credit 1 = .ok (.iload_n 1, 1) := by decide +kernel
theorem dX11_credit_2 : decode cX11_credit 2 = .ok (.invokevirtual 164, 3) := by decide +kernel
theorem dX11_credit_5 : decode cX11_credit 5 = .ok (.astore_n 3, 1) := by decide +kernel
theorem dX11_credit_6 : decode cX11_credit 6 = .ok (.aload_n 3, 1) := by decide +kernel
theorem dX11_credit_7 : decode cX11_credit 7 = .ok (.ifnull 13, 3) := by decide +kernel
theorem dX11_credit_10 : decode cX11_credit 10 = .ok (.iload_n 2, 1) := by decide +kernel
theorem dX11_credit_11 : decode cX11_credit 11 = .ok (.ifCond .lt 9, 3) := by decide +kernel
theorem dX11_credit_14 : decode cX11_credit 14 = .ok (.iload_n 2, 1) := by decide +kernel
theorem dX11_credit_15 : decode cX11_credit 15 = .ok (.bipush 6, 2) := by decide +kernel
theorem dX11_credit_17 : decode cX11_credit 17 = .ok (.if_icmp .lt 5, 3) := by decide +kernel
theorem dX11_credit_20 : decode cX11_credit 20 = .ok (.iconst (-1), 1) := by decide +kernel
theorem dX11_credit_21 : decode cX11_credit 21 = .ok (.ireturn, 1) := by decide +kernel
theorem dX11_credit_22 : decode cX11_credit 22 = .ok (.aload_n 3, 1) := by decide +kernel
theorem dX11_credit_23 : decode cX11_credit 23 = .ok (.iload_n 2, 1) := by decide +kernel
theorem dX11_credit_24 : decode cX11_credit 24 = .ok (.invokevirtual 331, 3) := by decide +kernel
theorem dX11_credit_27 : decode cX11_credit 27 = .ok (.ireturn, 1) := by decide +kernel
theorem dX11_named_0 : decode cX11_named 0 = .ok (.aload_n 0, 1) := by decide +kernel
theorem dX11_named_1 : decode cX11_named 1 = .ok (.iload_n 1, 1) := by decide +kernel
theorem dX11_named_2 : decode cX11_named 2 = .ok (.invokevirtual 164, 3) := by decide +kernel
theorem dX11_named_5 : decode cX11_named 5 = .ok (.astore_n 2, 1) := by decide +kernel
theorem dX11_named_6 : decode cX11_named 6 = .ok (.aload_n 2, 1) := by decide +kernel
theorem dX11_named_7 : decode cX11_named 7 = .ok (.ifnonnull 9, 3) := by decide +kernel
theorem dX11_named_10 : decode cX11_named 10 = .ok (.aload_n 0, 1) := by decide +kernel
theorem dX11_named_11 : decode cX11_named 11 = .ok (.iconst (-1), 1) := by decide +kernel
theorem dX11_named_12 : decode cX11_named 12 = .ok (.invokevirtual 105, 3) := by decide +kernel
theorem dX11_named_15 : decode cX11_named 15 = .ok (.ireturn, 1) := by decide +kernel
theorem dX11_named_16 : decode cX11_named 16 = .ok (.iconst 0, 1) := by decide +kernel
theorem dX11_named_17 : decode cX11_named 17 = .ok (.istore_n 3, 1) := by decide +kernel
theorem dX11_named_18 : decode cX11_named 18 = .ok (.iconst 0, 1) := by decide +kernel
theorem dX11_named_19 : decode cX11_named 19 = .ok (.istore 4, 2) := by decide +kernel
theorem dX11_named_21 : decode cX11_named 21 = .ok (.iload 4, 2) := by decide +kernel
theorem dX11_named_23 : decode cX11_named 23 = .ok (.bipush 6, 2) := by decide +kernel
theorem dX11_named_25 : decode cX11_named 25 = .ok (.if_icmp .ge 40, 3) := by decide +kernel
theorem dX11_named_28 : decode cX11_named 28 = .ok (.aload_n 2, 1) := by decide +kernel
theorem dX11_named_29 : decode cX11_named 29 = .ok (.iload 4, 2) := by decide +kernel
theorem dX11_named_31 : decode cX11_named 31 = .ok (.invokevirtual 331, 3) := by decide +kernel
theorem dX11_named_34 : decode cX11_named 34 = .ok (.istore 5, 2) := by decide +kernel
theorem dX11_named_36 : decode cX11_named 36 = .ok (.iload 5, 2) := by decide +kernel
theorem dX11_named_38 : decode cX11_named 38 = .ok (.ifCond .le 21, 3) := by decide +kernel
theorem dX11_named_41 : decode cX11_named 41 = .ok (.iconst 5, 1) := by decide +kernel
theorem dX11_named_42 : decode cX11_named 42 = .ok (.iload 5, 2) := by decide +kernel
theorem dX11_named_44 : decode cX11_named 44 = .ok (.imul, 1) := by decide +kernel
theorem dX11_named_45 : decode cX11_named 45 = .ok (.aload_n 2, 1) := by decide +kernel
theorem dX11_named_46 : decode cX11_named 46 = .ok (.getfield 334, 3) := by decide +kernel
theorem dX11_named_49 : decode cX11_named 49 = .ok (.if_icmp .lt 10, 3) := by decide +kernel
theorem dX11_named_52 : decode cX11_named 52 = .ok (.iload_n 3, 1) := by decide +kernel
theorem dX11_named_53 : decode cX11_named 53 = .ok (.iconst 1, 1) := by decide +kernel
theorem dX11_named_54 : decode cX11_named 54 = .ok (.iload 4, 2) := by decide +kernel
theorem dX11_named_56 : decode cX11_named 56 = .ok (.ishl, 1) := by decide +kernel
theorem dX11_named_57 : decode cX11_named 57 = .ok (.ior, 1) := by decide +kernel
theorem dX11_named_58 : decode cX11_named 58 = .ok (.istore_n 3, 1) := by decide +kernel
theorem dX11_named_59 : decode cX11_named 59 = .ok (.iinc 4 1, 3) := by decide +kernel
theorem dX11_named_62 : decode cX11_named 62 = .ok (.goto (-41), 3) := by decide +kernel
theorem dX11_named_65 : decode cX11_named 65 = .ok (.iload_n 3, 1) := by decide +kernel
theorem dX11_named_66 : decode cX11_named 66 = .ok (.ireturn, 1) := by decide +kernel
theorem dX11_code_0 : decode cX11_code 0 = .ok (.iload_n 1, 1) := by decide +kernel
theorem dX11_code_1 : decode cX11_code 1 = .ok (.ifCond .lt 8, 3) := by decide +kernel
theorem dX11_code_4 : decode cX11_code 4 = .ok (.iload_n 1, 1) := by decide +kernel
theorem dX11_code_5 : decode cX11_code 5 = .ok (.iconst 4, 1) := by decide +kernel
theorem dX11_code_6 : decode cX11_code 6 = .ok (.if_icmp .lt 9, 3) := by decide +kernel
theorem dX11_code_9 : decode cX11_code 9 = .ok (.aload_n 0, 1) := by decide +kernel
theorem dX11_code_10 : decode cX11_code 10 = .ok (.iconst (-1), 1) := by decide +kernel
theorem dX11_code_11 : decode cX11_code 11 = .ok (.invokevirtual 105, 3) := by decide +kernel
theorem dX11_code_14 : decode cX11_code 14 = .ok (.ireturn, 1) := by decide +kernel
theorem dX11_code_15 : decode cX11_code 15 = .ok (.iload_n 2, 1) := by decide +kernel
theorem dX11_code_16 : decode cX11_code 16 = .ok (.ifCond .lt 9, 3) := by decide +kernel
theorem dX11_code_19 : decode cX11_code 19 = .ok (.iload_n 2, 1) := by decide +kernel
theorem dX11_code_20 : decode cX11_code 20 = .ok (.bipush 9, 2) := by decide +kernel
theorem dX11_code_22 : decode cX11_code 22 = .ok (.if_icmp .le 10, 3) := by decide +kernel
theorem dX11_code_25 : decode cX11_code 25 = .ok (.aload_n 0, 1) := by decide +kernel
theorem dX11_code_26 : decode cX11_code 26 = .ok (.bipush (-6), 2) := by decide +kernel
theorem dX11_code_28 : decode cX11_code 28 = .ok (.invokevirtual 105, 3) := by decide +kernel
theorem dX11_code_31 : decode cX11_code 31 = .ok (.ireturn, 1) := by decide +kernel
theorem dX11_code_32 : decode cX11_code 32 = .ok (.aload_n 0, 1) := by decide +kernel
theorem dX11_code_33 : decode cX11_code 33 = .ok (.getfield 75, 3) := by decide +kernel
theorem dX11_code_36 : decode cX11_code 36 = .ok (.iload_n 1, 1) := by decide +kernel
theorem dX11_code_37 : decode cX11_code 37 = .ok (.iaload, 1) := by decide +kernel
theorem dX11_code_38 : decode cX11_code 38 = .ok (.istore_n 3, 1) := by decide +kernel
theorem dX11_code_39 : decode cX11_code 39 = .ok (.aload_n 0, 1) := by decide +kernel
theorem dX11_code_40 : decode cX11_code 40 = .ok (.getfield 75, 3) := by decide +kernel
theorem dX11_code_43 : decode cX11_code 43 = .ok (.iload_n 1, 1) := by decide +kernel
theorem dX11_code_44 : decode cX11_code 44 = .ok (.iload_n 2, 1) := by decide +kernel
theorem dX11_code_45 : decode cX11_code 45 = .ok (.iastore, 1) := by decide +kernel
theorem dX11_code_46 : decode cX11_code 46 = .ok (.iload_n 3, 1) := by decide +kernel
theorem dX11_code_47 : decode cX11_code 47 = .ok (.ireturn, 1) := by decide +kernel
theorem dX11_barred_0 : decode cX11_barred 0 = .ok (.aload_n 0, 1) := by decide +kernel
theorem dX11_barred_1 : decode cX11_barred 1 = .ok (.iload_n 1, 1) := by decide +kernel
theorem dX11_barred_2 : decode cX11_barred 2 = .ok (.iload_n 2, 1) := by decide +kernel
theorem dX11_barred_3 : decode cX11_barred 3 = .ok (.invokevirtual 253, 3) := by decide +kernel
theorem dX11_barred_6 : decode cX11_barred 6 = .ok (.astore_n 3, 1) := by decide +kernel
theorem dX11_barred_7 : decode cX11_barred 7 = .ok (.aload_n 3, 1) := by decide +kernel
theorem dX11_barred_8 : decode cX11_barred 8 = .ok (.ifnonnull 9, 3) := by decide +kernel
theorem dX11_barred_11 : decode cX11_barred 11 = .ok (.aload_n 0, 1) := by decide +kernel
theorem dX11_barred_12 : decode cX11_barred 12 = .ok (.iconst (-1), 1) := by decide +kernel
theorem dX11_barred_13 : decode cX11_barred 13 = .ok (.invokevirtual 105, 3) := by decide +kernel
theorem dX11_barred_16 : decode cX11_barred 16 = .ok (.ireturn, 1) := by decide +kernel
theorem dX11_barred_17 : decode cX11_barred 17 = .ok (.iconst 0, 1) := by decide +kernel
theorem dX11_barred_18 : decode cX11_barred 18 = .ok (.istore 4, 2) := by decide +kernel
theorem dX11_barred_20 : decode cX11_barred 20 = .ok (.iconst 0, 1) := by decide +kernel
theorem dX11_barred_21 : decode cX11_barred 21 = .ok (.istore 5, 2) := by decide +kernel
theorem dX11_barred_23 : decode cX11_barred 23 = .ok (.iload 5, 2) := by decide +kernel
theorem dX11_barred_25 : decode cX11_barred 25 = .ok (.iconst 4, 1) := by decide +kernel
theorem dX11_barred_26 : decode cX11_barred 26 = .ok (.if_icmp .ge 35, 3) := by decide +kernel
theorem dX11_barred_29 : decode cX11_barred 29 = .ok (.aload_n 3, 1) := by decide +kernel
theorem dX11_barred_30 : decode cX11_barred 30 = .ok (.getfield 257, 3) := by decide +kernel
theorem dX11_barred_33 : decode cX11_barred 33 = .ok (.iload 5, 2) := by decide +kernel
theorem dX11_barred_35 : decode cX11_barred 35 = .ok (.iaload, 1) := by decide +kernel
theorem dX11_barred_36 : decode cX11_barred 36 = .ok (.aload_n 0, 1) := by decide +kernel
theorem dX11_barred_37 : decode cX11_barred 37 = .ok (.getfield 75, 3) := by decide +kernel
theorem dX11_barred_40 : decode cX11_barred 40 = .ok (.iload 5, 2) := by decide +kernel
theorem dX11_barred_42 : decode cX11_barred 42 = .ok (.iaload, 1) := by decide +kernel
theorem dX11_barred_43 : decode cX11_barred 43 = .ok (.if_icmp .le 12, 3) := by decide +kernel
theorem dX11_barred_46 : decode cX11_barred 46 = .ok (.iload 4, 2) := by decide +kernel
theorem dX11_barred_48 : decode cX11_barred 48 = .ok (.iconst 1, 1) := by decide +kernel
theorem dX11_barred_49 : decode cX11_barred 49 = .ok (.iload 5, 2) := by decide +kernel
theorem dX11_barred_51 : decode cX11_barred 51 = .ok (.ishl, 1) := by decide +kernel
theorem dX11_barred_52 : decode cX11_barred 52 = .ok (.ior, 1) := by decide +kernel
theorem dX11_barred_53 : decode cX11_barred 53 = .ok (.istore 4, 2) := by decide +kernel
theorem dX11_barred_55 : decode cX11_barred 55 = .ok (.iinc 5 1, 3) := by decide +kernel
theorem dX11_barred_58 : decode cX11_barred 58 = .ok (.goto (-35), 3) := by decide +kernel
theorem dX11_barred_61 : decode cX11_barred 61 = .ok (.iload 4, 2) := by decide +kernel
theorem dX11_barred_63 : decode cX11_barred 63 = .ok (.ireturn, 1) := by decide +kernel
theorem dX11_mend_0 : decode cX11_mend 0 = .ok (.aload_n 0, 1) := by decide +kernel
theorem dX11_mend_1 : decode cX11_mend 1 = .ok (.iload_n 1, 1) := by decide +kernel
theorem dX11_mend_2 : decode cX11_mend 2 = .ok (.invokevirtual 164, 3) := by decide +kernel
theorem dX11_mend_5 : decode cX11_mend 5 = .ok (.astore_n 2, 1) := by decide +kernel
theorem dX11_mend_6 : decode cX11_mend 6 = .ok (.aload_n 2, 1) := by decide +kernel
theorem dX11_mend_7 : decode cX11_mend 7 = .ok (.ifnonnull 9, 3) := by decide +kernel
theorem dX11_mend_10 : decode cX11_mend 10 = .ok (.aload_n 0, 1) := by decide +kernel
theorem dX11_mend_11 : decode cX11_mend 11 = .ok (.iconst (-1), 1) := by decide +kernel
theorem dX11_mend_12 : decode cX11_mend 12 = .ok (.invokevirtual 105, 3) := by decide +kernel
theorem dX11_mend_15 : decode cX11_mend 15 = .ok (.ireturn, 1) := by decide +kernel
theorem dX11_mend_16 : decode cX11_mend 16 = .ok (.iconst 0, 1) := by decide +kernel
theorem dX11_mend_17 : decode cX11_mend 17 = .ok (.istore_n 3, 1) := by decide +kernel
theorem dX11_mend_18 : decode cX11_mend 18 = .ok (.iconst 0, 1) := by decide +kernel
theorem dX11_mend_19 : decode cX11_mend 19 = .ok (.istore 4, 2) := by decide +kernel
theorem dX11_mend_21 : decode cX11_mend 21 = .ok (.iload 4, 2) := by decide +kernel
theorem dX11_mend_23 : decode cX11_mend 23 = .ok (.aload_n 2, 1) := by decide +kernel
theorem dX11_mend_24 : decode cX11_mend 24 = .ok (.getfield 238, 3) := by decide +kernel
theorem dX11_mend_27 : decode cX11_mend 27 = .ok (.if_icmp .ge 52, 3) := by decide +kernel
theorem dX11_mend_30 : decode cX11_mend 30 = .ok (.iconst 0, 1) := by decide +kernel
theorem dX11_mend_31 : decode cX11_mend 31 = .ok (.istore 5, 2) := by decide +kernel
theorem dX11_mend_33 : decode cX11_mend 33 = .ok (.iload 5, 2) := by decide +kernel
theorem dX11_mend_35 : decode cX11_mend 35 = .ok (.iconst 4, 1) := by decide +kernel
theorem dX11_mend_36 : decode cX11_mend 36 = .ok (.if_icmp .ge 37, 3) := by decide +kernel
theorem dX11_mend_39 : decode cX11_mend 39 = .ok (.iload_n 3, 1) := by decide +kernel
theorem dX11_mend_40 : decode cX11_mend 40 = .ok (.iconst 0, 1) := by decide +kernel
theorem dX11_mend_41 : decode cX11_mend 41 = .ok (.aload_n 2, 1) := by decide +kernel
theorem dX11_mend_42 : decode cX11_mend 42 = .ok (.getfield 244, 3) := by decide +kernel
theorem dX11_mend_45 : decode cX11_mend 45 = .ok (.iload 4, 2) := by decide +kernel
theorem dX11_mend_47 : decode cX11_mend 47 = .ok (.aaload, 1) := by decide +kernel
theorem dX11_mend_48 : decode cX11_mend 48 = .ok (.getfield 257, 3) := by decide +kernel
theorem dX11_mend_51 : decode cX11_mend 51 = .ok (.iload 5, 2) := by decide +kernel
theorem dX11_mend_53 : decode cX11_mend 53 = .ok (.iaload, 1) := by decide +kernel
theorem dX11_mend_54 : decode cX11_mend 54 = .ok (.aload_n 0, 1) := by decide +kernel
theorem dX11_mend_55 : decode cX11_mend 55 = .ok (.getfield 75, 3) := by decide +kernel
theorem dX11_mend_58 : decode cX11_mend 58 = .ok (.iload 5, 2) := by decide +kernel
theorem dX11_mend_60 : decode cX11_mend 60 = .ok (.iaload, 1) := by decide +kernel
theorem dX11_mend_61 : decode cX11_mend 61 = .ok (.isub, 1) := by decide +kernel
theorem dX11_mend_62 : decode cX11_mend 62 = .ok (.invokestatic 337, 3) := by decide +kernel
theorem dX11_mend_65 : decode cX11_mend 65 = .ok (.iadd, 1) := by decide +kernel
theorem dX11_mend_66 : decode cX11_mend 66 = .ok (.istore_n 3, 1) := by decide +kernel
theorem dX11_mend_67 : decode cX11_mend 67 = .ok (.iinc 5 1, 3) := by decide +kernel
theorem dX11_mend_70 : decode cX11_mend 70 = .ok (.goto (-37), 3) := by decide +kernel
theorem dX11_mend_73 : decode cX11_mend 73 = .ok (.iinc 4 1, 3) := by decide +kernel
theorem dX11_mend_76 : decode cX11_mend 76 = .ok (.goto (-55), 3) := by decide +kernel
theorem dX11_mend_79 : decode cX11_mend 79 = .ok (.iload_n 3, 1) := by decide +kernel
theorem dX11_mend_80 : decode cX11_mend 80 = .ok (.ireturn, 1) := by decide +kernel
theorem dX11_take_0 : decode cX11_take 0 = .ok (.aload_n 0, 1) := by decide +kernel
theorem dX11_take_1 : decode cX11_take 1 = .ok (.iload_n 1, 1) := by decide +kernel
theorem dX11_take_2 : decode cX11_take 2 = .ok (.iload_n 2, 1) := by decide +kernel
theorem dX11_take_3 : decode cX11_take 3 = .ok (.invokevirtual 253, 3) := by decide +kernel
theorem dX11_take_6 : decode cX11_take 6 = .ok (.astore 6, 2) := by decide +kernel
theorem dX11_take_8 : decode cX11_take 8 = .ok (.aload 6, 2) := by decide +kernel
theorem dX11_take_10 : decode cX11_take 10 = .ok (.ifnonnull 9, 3) := by decide +kernel
theorem dX11_take_13 : decode cX11_take 13 = .ok (.aload_n 0, 1) := by decide +kernel
theorem dX11_take_14 : decode cX11_take 14 = .ok (.iconst (-1), 1) := by decide +kernel
theorem dX11_take_15 : decode cX11_take 15 = .ok (.invokevirtual 105, 3) := by decide +kernel
theorem dX11_take_18 : decode cX11_take 18 = .ok (.ireturn, 1) := by decide +kernel
theorem dX11_take_19 : decode cX11_take 19 = .ok (.iload_n 3, 1) := by decide +kernel
theorem dX11_take_20 : decode cX11_take 20 = .ok (.iconst 1, 1) := by decide +kernel
theorem dX11_take_21 : decode cX11_take 21 = .ok (.if_icmp .lt 33, 3) := by decide +kernel
theorem dX11_take_24 : decode cX11_take 24 = .ok (.iload_n 3, 1) := by decide +kernel
theorem dX11_take_25 : decode cX11_take 25 = .ok (.bipush 99, 2) := by decide +kernel
theorem dX11_take_27 : decode cX11_take 27 = .ok (.if_icmp .gt 27, 3) := by decide +kernel
theorem dX11_take_30 : decode cX11_take 30 = .ok (.iload 4, 2) := by decide +kernel
theorem dX11_take_32 : decode cX11_take 32 = .ok (.ifCond .lt 22, 3) := by decide +kernel
theorem dX11_take_35 : decode cX11_take 35 = .ok (.iload 4, 2) := by decide +kernel
theorem dX11_take_37 : decode cX11_take 37 = .ok (.bipush 99, 2) := by decide +kernel
theorem dX11_take_39 : decode cX11_take 39 = .ok (.if_icmp .gt 15, 3) := by decide +kernel
theorem dX11_take_42 : decode cX11_take 42 = .ok (.iload 5, 2) := by decide +kernel
theorem dX11_take_44 : decode cX11_take 44 = .ok (.ifCond .lt 10, 3) := by decide +kernel
theorem dX11_take_47 : decode cX11_take 47 = .ok (.iload 5, 2) := by decide +kernel
theorem dX11_take_49 : decode cX11_take 49 = .ok (.bipush 99, 2) := by decide +kernel
theorem dX11_take_51 : decode cX11_take 51 = .ok (.if_icmp .le 10, 3) := by decide +kernel
theorem dX11_take_54 : decode cX11_take 54 = .ok (.aload_n 0, 1) := by decide +kernel
theorem dX11_take_55 : decode cX11_take 55 = .ok (.bipush (-6), 2) := by decide +kernel
theorem dX11_take_57 : decode cX11_take 57 = .ok (.invokevirtual 105, 3) := by decide +kernel
theorem dX11_take_60 : decode cX11_take 60 = .ok (.ireturn, 1) := by decide +kernel
theorem dX11_take_61 : decode cX11_take 61 = .ok (.aload 6, 2) := by decide +kernel
theorem dX11_take_63 : decode cX11_take 63 = .ok (.getfield 342, 3) := by decide +kernel
theorem dX11_take_66 : decode cX11_take 66 = .ok (.iconst 4, 1) := by decide +kernel
theorem dX11_take_67 : decode cX11_take 67 = .ok (.if_icmp .lt 10, 3) := by decide +kernel
theorem dX11_take_70 : decode cX11_take 70 = .ok (.aload_n 0, 1) := by decide +kernel
theorem dX11_take_71 : decode cX11_take 71 = .ok (.bipush (-7), 2) := by decide +kernel
theorem dX11_take_73 : decode cX11_take 73 = .ok (.invokevirtual 105, 3) := by decide +kernel
theorem dX11_take_76 : decode cX11_take 76 = .ok (.ireturn, 1) := by decide +kernel
theorem dX11_take_77 : decode cX11_take 77 = .ok (.aload 6, 2) := by decide +kernel
theorem dX11_take_79 : decode cX11_take 79 = .ok (.getfield 345, 3) := by decide +kernel
theorem dX11_take_82 : decode cX11_take 82 = .ok (.aload 6, 2) := by decide +kernel
theorem dX11_take_84 : decode cX11_take 84 = .ok (.getfield 342, 3) := by decide +kernel
theorem dX11_take_87 : decode cX11_take 87 = .ok (.iload_n 3, 1) := by decide +kernel
theorem dX11_take_88 : decode cX11_take 88 = .ok (.iastore, 1) := by decide +kernel
theorem dX11_take_89 : decode cX11_take 89 = .ok (.aload 6, 2) := by decide +kernel
theorem dX11_take_91 : decode cX11_take 91 = .ok (.getfield 348, 3) := by decide +kernel
theorem dX11_take_94 : decode cX11_take 94 = .ok (.aload 6, 2) := by decide +kernel
theorem dX11_take_96 : decode cX11_take 96 = .ok (.getfield 342, 3) := by decide +kernel
theorem dX11_take_99 : decode cX11_take 99 = .ok (.iload 4, 2) := by decide +kernel
theorem dX11_take_101 : decode cX11_take 101 = .ok (.iastore, 1) := by decide +kernel
theorem dX11_take_102 : decode cX11_take 102 = .ok (.aload 6, 2) := by decide +kernel
theorem dX11_take_104 : decode cX11_take 104 = .ok (.getfield 351, 3) := by decide +kernel
theorem dX11_take_107 : decode cX11_take 107 = .ok (.aload 6, 2) := by decide +kernel
theorem dX11_take_109 : decode cX11_take 109 = .ok (.getfield 342, 3) := by decide +kernel
theorem dX11_take_112 : decode cX11_take 112 = .ok (.iload 5, 2) := by decide +kernel
theorem dX11_take_114 : decode cX11_take 114 = .ok (.iastore, 1) := by decide +kernel
theorem dX11_take_115 : decode cX11_take 115 = .ok (.aload 6, 2) := by decide +kernel
theorem dX11_take_117 : decode cX11_take 117 = .ok (.dup, 1) := by decide +kernel
theorem dX11_take_118 : decode cX11_take 118 = .ok (.getfield 342, 3) := by decide +kernel
theorem dX11_take_121 : decode cX11_take 121 = .ok (.dup_x1, 1) := by decide +kernel
theorem dX11_take_122 : decode cX11_take 122 = .ok (.iconst 1, 1) := by decide +kernel
theorem dX11_take_123 : decode cX11_take 123 = .ok (.iadd, 1) := by decide +kernel
theorem dX11_take_124 : decode cX11_take 124 = .ok (.putfield 342, 3) := by decide +kernel
theorem dX11_take_127 : decode cX11_take 127 = .ok (.ireturn, 1) := by decide +kernel
theorem dX11_reel_0 : decode cX11_reel 0 = .ok (.aload_n 0, 1) := by decide +kernel
theorem dX11_reel_1 : decode cX11_reel 1 = .ok (.iload_n 1, 1) := by decide +kernel
theorem dX11_reel_2 : decode cX11_reel 2 = .ok (.invokevirtual 164, 3) := by decide +kernel
theorem dX11_reel_5 : decode cX11_reel 5 = .ok (.astore_n 3, 1) := by decide +kernel
theorem dX11_reel_6 : decode cX11_reel 6 = .ok (.aload_n 3, 1) := by decide +kernel
theorem dX11_reel_7 : decode cX11_reel 7 = .ok (.ifnonnull 9, 3) := by decide +kernel
theorem dX11_reel_10 : decode cX11_reel 10 = .ok (.aload_n 0, 1) := by decide +kernel
theorem dX11_reel_11 : decode cX11_reel 11 = .ok (.iconst (-1), 1) := by decide +kernel
theorem dX11_reel_12 : decode cX11_reel 12 = .ok (.invokevirtual 105, 3) := by decide +kernel
theorem dX11_reel_15 : decode cX11_reel 15 = .ok (.ireturn, 1) := by decide +kernel
theorem dX11_reel_16 : decode cX11_reel 16 = .ok (.iload_n 2, 1) := by decide +kernel
theorem dX11_reel_17 : decode cX11_reel 17 = .ok (.ifCond .lt 10, 3) := by decide +kernel
theorem dX11_reel_20 : decode cX11_reel 20 = .ok (.iload_n 2, 1) := by decide +kernel
theorem dX11_reel_21 : decode cX11_reel 21 = .ok (.sipush 400, 3) := by decide +kernel
theorem dX11_reel_24 : decode cX11_reel 24 = .ok (.if_icmp .le 10, 3) := by decide +kernel
theorem dX11_reel_27 : decode cX11_reel 27 = .ok (.aload_n 0, 1) := by decide +kernel
theorem dX11_reel_28 : decode cX11_reel 28 = .ok (.bipush (-6), 2) := by decide +kernel
theorem dX11_reel_30 : decode cX11_reel 30 = .ok (.invokevirtual 105, 3) := by decide +kernel
theorem dX11_reel_33 : decode cX11_reel 33 = .ok (.ireturn, 1) := by decide +kernel
theorem dX11_reel_34 : decode cX11_reel 34 = .ok (.aload_n 0, 1) := by decide +kernel
theorem dX11_reel_35 : decode cX11_reel 35 = .ok (.getfield 64, 3) := by decide +kernel
theorem dX11_reel_38 : decode cX11_reel 38 = .ok (.aload_n 3, 1) := by decide +kernel
theorem dX11_reel_39 : decode cX11_reel 39 = .ok (.iload_n 2, 1) := by decide +kernel
theorem dX11_reel_40 : decode cX11_reel 40 = .ok (.invokevirtual 354, 3) := by decide +kernel
theorem dX11_reel_43 : decode cX11_reel 43 = .ok (.ireturn, 1) := by decide +kernel
theorem dX11_reelTake_0 : decode cX11_reelTake 0 = .ok (.aload_n 0, 1) := by decide +kernel
theorem dX11_reelTake_1 : decode cX11_reelTake 1 = .ok (.iload_n 1, 1) := by decide +kernel
theorem dX11_reelTake_2 : decode cX11_reelTake 2 = .ok (.iload_n 2, 1) := by decide +kernel
theorem dX11_reelTake_3 : decode cX11_reelTake 3 = .ok (.invokevirtual 253, 3) := by decide +kernel
theorem dX11_reelTake_6 : decode cX11_reelTake 6 = .ok (.ifnonnull 5, 3) := by decide +kernel
theorem dX11_reelTake_9 : decode cX11_reelTake 9 = .ok (.iconst (-1), 1) := by decide +kernel
theorem dX11_reelTake_10 : decode cX11_reelTake 10 = .ok (.ireturn, 1) := by decide +kernel
theorem dX11_reelTake_11 : decode cX11_reelTake 11 = .ok (.aload_n 0, 1) := by decide +kernel
theorem dX11_reelTake_12 : decode cX11_reelTake 12 = .ok (.getfield 23, 3) := by decide +kernel
theorem dX11_reelTake_15 : decode cX11_reelTake 15 = .ok (.iload_n 1, 1) := by decide +kernel
theorem dX11_reelTake_16 : decode cX11_reelTake 16 = .ok (.aaload, 1) := by decide +kernel
theorem dX11_reelTake_17 : decode cX11_reelTake 17 = .ok (.getfield 357, 3) := by decide +kernel
theorem dX11_reelTake_20 : decode cX11_reelTake 20 = .ok (.iload_n 2, 1) := by decide +kernel
theorem dX11_reelTake_21 : decode cX11_reelTake 21 = .ok (.iaload, 1) := by decide +kernel
theorem dX11_reelTake_22 : decode cX11_reelTake 22 = .ok (.ireturn, 1) := by decide +kernel
theorem dX11_land_0 : decode cX11_land 0 = .ok (.iload_n 1, 1) := by decide +kernel
theorem dX11_land_1 : decode cX11_land 1 = .ok (.ifCond .lt 8, 3) := by decide +kernel
theorem dX11_land_4 : decode cX11_land 4 = .ok (.iload_n 1, 1) := by decide +kernel
theorem dX11_land_5 : decode cX11_land 5 = .ok (.iconst 4, 1) := by decide +kernel
theorem dX11_land_6 : decode cX11_land 6 = .ok (.if_icmp .lt 9, 3) := by decide +kernel
theorem dX11_land_9 : decode cX11_land 9 = .ok (.aload_n 0, 1) := by decide +kernel
theorem dX11_land_10 : decode cX11_land 10 = .ok (.iconst (-1), 1) := by decide +kernel
theorem dX11_land_11 : decode cX11_land 11 = .ok (.invokevirtual 105, 3) := by decide +kernel
theorem dX11_land_14 : decode cX11_land 14 = .ok (.ireturn, 1) := by decide +kernel
theorem dX11_land_15 : decode cX11_land 15 = .ok (.iload_n 2, 1) := by decide +kernel
theorem dX11_land_16 : decode cX11_land 16 = .ok (.ifCond .lt 9, 3) := by decide +kernel
theorem dX11_land_19 : decode cX11_land 19 = .ok (.iload_n 2, 1) := by decide +kernel
theorem dX11_land_20 : decode cX11_land 20 = .ok (.bipush 99, 2) := by decide +kernel
theorem dX11_land_22 : decode cX11_land 22 = .ok (.if_icmp .le 10, 3) := by decide +kernel
theorem dX11_land_25 : decode cX11_land 25 = .ok (.aload_n 0, 1) := by decide +kernel
theorem dX11_land_26 : decode cX11_land 26 = .ok (.bipush (-6), 2) := by decide +kernel
theorem dX11_land_28 : decode cX11_land 28 = .ok (.invokevirtual 105, 3) := by decide +kernel
theorem dX11_land_31 : decode cX11_land 31 = .ok (.ireturn, 1) := by decide +kernel
theorem dX11_land_32 : decode cX11_land 32 = .ok (.aload_n 0, 1) := by decide +kernel
theorem dX11_land_33 : decode cX11_land 33 = .ok (.getfield 79, 3) := by decide +kernel
theorem dX11_land_36 : decode cX11_land 36 = .ok (.iload_n 1, 1) := by decide +kernel
theorem dX11_land_37 : decode cX11_land 37 = .ok (.iaload, 1) := by decide +kernel
theorem dX11_land_38 : decode cX11_land 38 = .ok (.istore_n 3, 1) := by decide +kernel
theorem dX11_land_39 : decode cX11_land 39 = .ok (.aload_n 0, 1) := by decide +kernel
theorem dX11_land_40 : decode cX11_land 40 = .ok (.getfield 79, 3) := by decide +kernel
theorem dX11_land_43 : decode cX11_land 43 = .ok (.iload_n 1, 1) := by decide +kernel
theorem dX11_land_44 : decode cX11_land 44 = .ok (.iload_n 2, 1) := by decide +kernel
theorem dX11_land_45 : decode cX11_land 45 = .ok (.iastore, 1) := by decide +kernel
theorem dX11_land_46 : decode cX11_land 46 = .ok (.iload_n 3, 1) := by decide +kernel
theorem dX11_land_47 : decode cX11_land 47 = .ok (.ireturn, 1) := by decide +kernel
theorem dX11_preview_0 : decode cX11_preview 0 = .ok (.aload_n 0, 1) := by decide +kernel
theorem dX11_preview_1 : decode cX11_preview 1 = .ok (.iload_n 1, 1) := by decide +kernel
theorem dX11_preview_2 : decode cX11_preview 2 = .ok (.invokevirtual 164, 3) := by decide +kernel
theorem dX11_preview_5 : decode cX11_preview 5 = .ok (.astore 5, 2) := by decide +kernel
theorem dX11_preview_7 : decode cX11_preview 7 = .ok (.aload 5, 2) := by decide +kernel
theorem dX11_preview_9 : decode cX11_preview 9 = .ok (.ifnull 12, 3) := by decide +kernel
theorem dX11_preview_12 : decode cX11_preview 12 = .ok (.iload_n 2, 1) := by decide +kernel
theorem dX11_preview_13 : decode cX11_preview 13 = .ok (.ifCond .lt 8, 3) := by decide +kernel
theorem dX11_preview_16 : decode cX11_preview 16 = .ok (.iload_n 2, 1) := by decide +kernel
theorem dX11_preview_17 : decode cX11_preview 17 = .ok (.iconst 4, 1) := by decide +kernel
theorem dX11_preview_18 : decode cX11_preview 18 = .ok (.if_icmp .lt 9, 3) := by decide +kernel
theorem dX11_preview_21 : decode cX11_preview 21 = .ok (.aload_n 0, 1) := by decide +kernel
theorem dX11_preview_22 : decode cX11_preview 22 = .ok (.iconst (-1), 1) := by decide +kernel
theorem dX11_preview_23 : decode cX11_preview 23 = .ok (.invokevirtual 105, 3) := by decide +kernel
theorem dX11_preview_26 : decode cX11_preview 26 = .ok (.ireturn, 1) := by decide +kernel
theorem dX11_preview_27 : decode cX11_preview 27 = .ok (.iload_n 3, 1) := by decide +kernel
theorem dX11_preview_28 : decode cX11_preview 28 = .ok (.iconst 1, 1) := by decide +kernel
theorem dX11_preview_29 : decode cX11_preview 29 = .ok (.if_icmp .lt 20, 3) := by decide +kernel
theorem dX11_preview_32 : decode cX11_preview 32 = .ok (.iload_n 3, 1) := by decide +kernel
theorem dX11_preview_33 : decode cX11_preview 33 = .ok (.bipush 99, 2) := by decide +kernel
theorem dX11_preview_35 : decode cX11_preview 35 = .ok (.if_icmp .gt 14, 3) := by decide +kernel
theorem dX11_preview_38 : decode cX11_preview 38 = .ok (.iload 4, 2) := by decide +kernel
theorem dX11_preview_40 : decode cX11_preview 40 = .ok (.ifCond .lt 9, 3) := by decide +kernel
theorem dX11_preview_43 : decode cX11_preview 43 = .ok (.iload 4, 2) := by decide +kernel
theorem dX11_preview_45 : decode cX11_preview 45 = .ok (.iload_n 3, 1) := by decide +kernel
theorem dX11_preview_46 : decode cX11_preview 46 = .ok (.if_icmp .le 10, 3) := by decide +kernel
theorem dX11_preview_49 : decode cX11_preview 49 = .ok (.aload_n 0, 1) := by decide +kernel
theorem dX11_preview_50 : decode cX11_preview 50 = .ok (.bipush (-6), 2) := by decide +kernel
theorem dX11_preview_52 : decode cX11_preview 52 = .ok (.invokevirtual 105, 3) := by decide +kernel
theorem dX11_preview_55 : decode cX11_preview 55 = .ok (.ireturn, 1) := by decide +kernel
theorem dX11_preview_56 : decode cX11_preview 56 = .ok (.aload 5, 2) := by decide +kernel
theorem dX11_preview_58 : decode cX11_preview 58 = .ok (.getfield 360, 3) := by decide +kernel
theorem dX11_preview_61 : decode cX11_preview 61 = .ok (.iload_n 2, 1) := by decide +kernel
theorem dX11_preview_62 : decode cX11_preview 62 = .ok (.iaload, 1) := by decide +kernel
theorem dX11_preview_63 : decode cX11_preview 63 = .ok (.iload_n 3, 1) := by decide +kernel
theorem dX11_preview_64 : decode cX11_preview 64 = .ok (.iadd, 1) := by decide +kernel
theorem dX11_preview_65 : decode cX11_preview 65 = .ok (.sipush 999, 3) := by decide +kernel
theorem dX11_preview_68 : decode cX11_preview 68 = .ok (.if_icmp .le 10, 3) := by decide +kernel
theorem dX11_preview_71 : decode cX11_preview 71 = .ok (.aload_n 0, 1) := by decide +kernel
theorem dX11_preview_72 : decode cX11_preview 72 = .ok (.bipush (-7), 2) := by decide +kernel
theorem dX11_preview_74 : decode cX11_preview 74 = .ok (.invokevirtual 105, 3) := by decide +kernel
theorem dX11_preview_77 : decode cX11_preview 77 = .ok (.ireturn, 1) := by decide +kernel
theorem dX11_preview_78 : decode cX11_preview 78 = .ok (.aload 5, 2) := by decide +kernel
theorem dX11_preview_80 : decode cX11_preview 80 = .ok (.getfield 360, 3) := by decide +kernel
theorem dX11_preview_83 : decode cX11_preview 83 = .ok (.iload_n 2, 1) := by decide +kernel
theorem dX11_preview_84 : decode cX11_preview 84 = .ok (.dup2, 1) := by decide +kernel
theorem dX11_preview_85 : decode cX11_preview 85 = .ok (.iaload, 1) := by decide +kernel
theorem dX11_preview_86 : decode cX11_preview 86 = .ok (.iload_n 3, 1) := by decide +kernel
theorem dX11_preview_87 : decode cX11_preview 87 = .ok (.iadd, 1) := by decide +kernel
theorem dX11_preview_88 : decode cX11_preview 88 = .ok (.iastore, 1) := by decide +kernel
theorem dX11_preview_89 : decode cX11_preview 89 = .ok (.aload 5, 2) := by decide +kernel
theorem dX11_preview_91 : decode cX11_preview 91 = .ok (.getfield 363, 3) := by decide +kernel
theorem dX11_preview_94 : decode cX11_preview 94 = .ok (.iload_n 2, 1) := by decide +kernel
theorem dX11_preview_95 : decode cX11_preview 95 = .ok (.dup2, 1) := by decide +kernel
theorem dX11_preview_96 : decode cX11_preview 96 = .ok (.iaload, 1) := by decide +kernel
theorem dX11_preview_97 : decode cX11_preview 97 = .ok (.iload 4, 2) := by decide +kernel
theorem dX11_preview_99 : decode cX11_preview 99 = .ok (.iadd, 1) := by decide +kernel
theorem dX11_preview_100 : decode cX11_preview 100 = .ok (.iastore, 1) := by decide +kernel
theorem dX11_preview_101 : decode cX11_preview 101 = .ok (.aload 5, 2) := by decide +kernel
theorem dX11_preview_103 : decode cX11_preview 103 = .ok (.getfield 360, 3) := by decide +kernel
theorem dX11_preview_106 : decode cX11_preview 106 = .ok (.iload_n 2, 1) := by decide +kernel
theorem dX11_preview_107 : decode cX11_preview 107 = .ok (.iaload, 1) := by decide +kernel
theorem dX11_preview_108 : decode cX11_preview 108 = .ok (.ireturn, 1) := by decide +kernel
theorem dX11_putRight_0 : decode cX11_putRight 0 = .ok (.aload_n 0, 1) := by decide +kernel
theorem dX11_putRight_1 : decode cX11_putRight 1 = .ok (.iload_n 1, 1) := by decide +kernel
theorem dX11_putRight_2 : decode cX11_putRight 2 = .ok (.invokevirtual 164, 3) := by decide +kernel
theorem dX11_putRight_5 : decode cX11_putRight 5 = .ok (.astore_n 3, 1) := by decide +kernel
theorem dX11_putRight_6 : decode cX11_putRight 6 = .ok (.aload_n 3, 1) := by decide +kernel
theorem dX11_putRight_7 : decode cX11_putRight 7 = .ok (.ifnonnull 7, 3) := by decide +kernel
theorem dX11_putRight_10 : decode cX11_putRight 10 = .ok (.ldc2_w 366, 3) := by decide +kernel
theorem dX11_putRight_13 : decode cX11_putRight 13 = .ok (.lreturn, 1) := by decide +kernel
theorem dX11_putRight_14 : decode cX11_putRight 14 = .ok (.lconst 0, 1) := by decide +kernel
theorem dX11_putRight_15 : decode cX11_putRight 15 = .ok (.lstore 4, 2) := by decide +kernel
theorem dX11_putRight_17 : decode cX11_putRight 17 = .ok (.lconst 1, 1) := by decide +kernel
theorem dX11_putRight_18 : decode cX11_putRight 18 = .ok (.lstore 6, 2) := by decide +kernel
theorem dX11_putRight_20 : decode cX11_putRight 20 = .ok (.lconst 0, 1) := by decide +kernel
theorem dX11_putRight_21 : decode cX11_putRight 21 = .ok (.lstore 8, 2) := by decide +kernel
theorem dX11_putRight_23 : decode cX11_putRight 23 = .ok (.iconst 0, 1) := by decide +kernel
theorem dX11_putRight_24 : decode cX11_putRight 24 = .ok (.istore 10, 2) := by decide +kernel
theorem dX11_putRight_26 : decode cX11_putRight 26 = .ok (.iload 10, 2) := by decide +kernel
theorem dX11_putRight_28 : decode cX11_putRight 28 = .ok (.iconst 4, 1) := by decide +kernel
theorem dX11_putRight_29 : decode cX11_putRight 29 = .ok (.if_icmp .ge 73, 3) := by decide +kernel
theorem dX11_putRight_32 : decode cX11_putRight 32 = .ok (.aload_n 3, 1) := by decide +kernel
theorem dX11_putRight_33 : decode cX11_putRight 33 = .ok (.getfield 360, 3) := by decide +kernel
theorem dX11_putRight_36 : decode cX11_putRight 36 = .ok (.iload 10, 2) := by decide +kernel
theorem dX11_putRight_38 : decode cX11_putRight 38 = .ok (.iaload, 1) := by decide +kernel
theorem dX11_putRight_39 : decode cX11_putRight 39 = .ok (.istore 11, 2) := by decide +kernel
theorem dX11_putRight_41 : decode cX11_putRight 41 = .ok (.iload 11, 2) := by decide +kernel
theorem dX11_putRight_43 : decode cX11_putRight 43 = .ok (.ifCond .le 53, 3) := by decide +kernel
theorem dX11_putRight_46 : decode cX11_putRight 46 = .ok (.lload 4, 2) := by decide +kernel
theorem dX11_putRight_48 : decode cX11_putRight 48 = .ok (.iload 11, 2) := by decide +kernel
theorem dX11_putRight_50 : decode cX11_putRight 50 = .ok (.i2l, 1) := by decide +kernel
theorem dX11_putRight_51 : decode cX11_putRight 51 = .ok (.lmul, 1) := by decide +kernel
theorem dX11_putRight_52 : decode cX11_putRight 52 = .ok (.lload 6, 2) := by decide +kernel
theorem dX11_putRight_54 : decode cX11_putRight 54 = .ok (.aload_n 0, 1) := by decide +kernel
theorem dX11_putRight_55 : decode cX11_putRight 55 = .ok (.getfield 79, 3) := by decide +kernel
theorem dX11_putRight_58 : decode cX11_putRight 58 = .ok (.iload 10, 2) := by decide +kernel
theorem dX11_putRight_60 : decode cX11_putRight 60 = .ok (.iaload, 1) := by decide +kernel
theorem dX11_putRight_61 : decode cX11_putRight 61 = .ok (.i2l, 1) := by decide +kernel
theorem dX11_putRight_62 : decode cX11_putRight 62 = .ok (.lmul, 1) := by decide +kernel
theorem dX11_putRight_63 : decode cX11_putRight 63 = .ok (.aload_n 3, 1) := by decide +kernel
theorem dX11_putRight_64 : decode cX11_putRight 64 = .ok (.getfield 363, 3) := by decide +kernel
theorem dX11_putRight_67 : decode cX11_putRight 67 = .ok (.iload 10, 2) := by decide +kernel
theorem dX11_putRight_69 : decode cX11_putRight 69 = .ok (.iaload, 1) := by decide +kernel
theorem dX11_putRight_70 : decode cX11_putRight 70 = .ok (.i2l, 1) := by decide +kernel
theorem dX11_putRight_71 : decode cX11_putRight 71 = .ok (.lmul, 1) := by decide +kernel
theorem dX11_putRight_72 : decode cX11_putRight 72 = .ok (.ladd, 1) := by decide +kernel
theorem dX11_putRight_73 : decode cX11_putRight 73 = .ok (.lstore 4, 2) := by decide +kernel
theorem dX11_putRight_75 : decode cX11_putRight 75 = .ok (.lload 6, 2) := by decide +kernel
theorem dX11_putRight_77 : decode cX11_putRight 77 = .ok (.iload 11, 2) := by decide +kernel
theorem dX11_putRight_79 : decode cX11_putRight 79 = .ok (.i2l, 1) := by decide +kernel
theorem dX11_putRight_80 : decode cX11_putRight 80 = .ok (.lmul, 1) := by decide +kernel
theorem dX11_putRight_81 : decode cX11_putRight 81 = .ok (.lstore 6, 2) := by decide +kernel
theorem dX11_putRight_83 : decode cX11_putRight 83 = .ok (.lload 8, 2) := by decide +kernel
theorem dX11_putRight_85 : decode cX11_putRight 85 = .ok (.aload_n 0, 1) := by decide +kernel
theorem dX11_putRight_86 : decode cX11_putRight 86 = .ok (.getfield 79, 3) := by decide +kernel
theorem dX11_putRight_89 : decode cX11_putRight 89 = .ok (.iload 10, 2) := by decide +kernel
theorem dX11_putRight_91 : decode cX11_putRight 91 = .ok (.iaload, 1) := by decide +kernel
theorem dX11_putRight_92 : decode cX11_putRight 92 = .ok (.i2l, 1) := by decide +kernel
theorem dX11_putRight_93 : decode cX11_putRight 93 = .ok (.ladd, 1) := by decide +kernel
theorem dX11_putRight_94 : decode cX11_putRight 94 = .ok (.lstore 8, 2) := by decide +kernel
theorem dX11_putRight_96 : decode cX11_putRight 96 = .ok (.iinc 10 1, 3) := by decide +kernel
theorem dX11_putRight_99 : decode cX11_putRight 99 = .ok (.goto (-73), 3) := by decide +kernel
theorem dX11_putRight_102 : decode cX11_putRight 102 = .ok (.lload 8, 2) := by decide +kernel
theorem dX11_putRight_104 : decode cX11_putRight 104 = .ok (.lconst 0, 1) := by decide +kernel
theorem dX11_putRight_105 : decode cX11_putRight 105 = .ok (.lcmp, 1) := by decide +kernel
theorem dX11_putRight_106 : decode cX11_putRight 106 = .ok (.ifCond .ne 13, 3) := by decide +kernel
theorem dX11_putRight_109 : decode cX11_putRight 109 = .ok (.iload_n 2, 1) := by decide +kernel
theorem dX11_putRight_110 : decode cX11_putRight 110 = .ok (.ifCond .eq 7, 3) := by decide +kernel
theorem dX11_putRight_113 : decode cX11_putRight 113 = .ok (.lconst 1, 1) := by decide +kernel
theorem dX11_putRight_114 : decode cX11_putRight 114 = .ok (.goto 4, 3) := by decide +kernel
theorem dX11_putRight_117 : decode cX11_putRight 117 = .ok (.lconst 0, 1) := by decide +kernel
theorem dX11_putRight_118 : decode cX11_putRight 118 = .ok (.lreturn, 1) := by decide +kernel
theorem dX11_putRight_119 : decode cX11_putRight 119 = .ok (.lload 6, 2) := by decide +kernel
theorem dX11_putRight_121 : decode cX11_putRight 121 = .ok (.lload 8, 2) := by decide +kernel
theorem dX11_putRight_123 : decode cX11_putRight 123 = .ok (.lmul, 1) := by decide +kernel
theorem dX11_putRight_124 : decode cX11_putRight 124 = .ok (.lstore 6, 2) := by decide +kernel
theorem dX11_putRight_126 : decode cX11_putRight 126 = .ok (.lload 4, 2) := by decide +kernel
theorem dX11_putRight_128 : decode cX11_putRight 128 = .ok (.lload 6, 2) := by decide +kernel
theorem dX11_putRight_130 : decode cX11_putRight 130 = .ok (.invokestatic 368, 3) := by decide +kernel
theorem dX11_putRight_133 : decode cX11_putRight 133 = .ok (.lstore 10, 2) := by decide +kernel
theorem dX11_putRight_135 : decode cX11_putRight 135 = .ok (.iload_n 2, 1) := by decide +kernel
theorem dX11_putRight_136 : decode cX11_putRight 136 = .ok (.ifCond .eq 8, 3) := by decide +kernel
theorem dX11_putRight_139 : decode cX11_putRight 139 = .ok (.lload 6, 2) := by decide +kernel
theorem dX11_putRight_141 : decode cX11_putRight 141 = .ok (.goto 5, 3) := by decide +kernel
theorem dX11_putRight_144 : decode cX11_putRight 144 = .ok (.lload 4, 2) := by decide +kernel
theorem dX11_putRight_146 : decode cX11_putRight 146 = .ok (.lstore 12, 2) := by decide +kernel
theorem dX11_putRight_148 : decode cX11_putRight 148 = .ok (.lload 10, 2) := by decide +kernel
theorem dX11_putRight_150 : decode cX11_putRight 150 = .ok (.lconst 0, 1) := by decide +kernel
theorem dX11_putRight_151 : decode cX11_putRight 151 = .ok (.lcmp, 1) := by decide +kernel
theorem dX11_putRight_152 : decode cX11_putRight 152 = .ok (.ifCond .le 11, 3) := by decide +kernel
theorem dX11_putRight_155 : decode cX11_putRight 155 = .ok (.lload 12, 2) := by decide +kernel
theorem dX11_putRight_157 : decode cX11_putRight 157 = .ok (.lload 10, 2) := by decide +kernel
theorem dX11_putRight_159 : decode cX11_putRight 159 = .ok (.ldiv, 1) := by decide +kernel
theorem dX11_putRight_160 : decode cX11_putRight 160 = .ok (.goto 5, 3) := by decide +kernel
theorem dX11_putRight_163 : decode cX11_putRight 163 = .ok (.lload 12, 2) := by decide +kernel
theorem dX11_putRight_165 : decode cX11_putRight 165 = .ok (.lreturn, 1) := by decide +kernel
theorem dX11_hall_0 : decode cX11_hall 0 = .ok (.iload_n 1, 1) := by decide +kernel
theorem dX11_hall_1 : decode cX11_hall 1 = .ok (.ifCond .lt 8, 3) := by decide +kernel
theorem dX11_hall_4 : decode cX11_hall 4 = .ok (.iload_n 1, 1) := by decide +kernel
theorem dX11_hall_5 : decode cX11_hall 5 = .ok (.iconst 3, 1) := by decide +kernel
theorem dX11_hall_6 : decode cX11_hall 6 = .ok (.if_icmp .lt 9, 3) := by decide +kernel
theorem dX11_hall_9 : decode cX11_hall 9 = .ok (.aload_n 0, 1) := by decide +kernel
theorem dX11_hall_10 : decode cX11_hall 10 = .ok (.iconst (-1), 1) := by decide +kernel
theorem dX11_hall_11 : decode cX11_hall 11 = .ok (.invokevirtual 105, 3) := by decide +kernel
theorem dX11_hall_14 : decode cX11_hall 14 = .ok (.ireturn, 1) := by decide +kernel
theorem dX11_hall_15 : decode cX11_hall 15 = .ok (.iload_n 2, 1) := by decide +kernel
theorem dX11_hall_16 : decode cX11_hall 16 = .ok (.ifCond .lt 18, 3) := by decide +kernel
theorem dX11_hall_19 : decode cX11_hall 19 = .ok (.iload_n 2, 1) := by decide +kernel
theorem dX11_hall_20 : decode cX11_hall 20 = .ok (.iconst 3, 1) := by decide +kernel
theorem dX11_hall_21 : decode cX11_hall 21 = .ok (.if_icmp .gt 13, 3) := by decide +kernel
theorem dX11_hall_24 : decode cX11_hall 24 = .ok (.iload_n 3, 1) := by decide +kernel
theorem dX11_hall_25 : decode cX11_hall 25 = .ok (.ifCond .lt 9, 3) := by decide +kernel
theorem dX11_hall_28 : decode cX11_hall 28 = .ok (.iload_n 3, 1) := by decide +kernel
theorem dX11_hall_29 : decode cX11_hall 29 = .ok (.bipush 90, 2) := by decide +kernel
theorem dX11_hall_31 : decode cX11_hall 31 = .ok (.if_icmp .le 10, 3) := by decide +kernel
theorem dX11_hall_34 : decode cX11_hall 34 = .ok (.aload_n 0, 1) := by decide +kernel
theorem dX11_hall_35 : decode cX11_hall 35 = .ok (.bipush (-6), 2) := by decide +kernel
theorem dX11_hall_37 : decode cX11_hall 37 = .ok (.invokevirtual 105, 3) := by decide +kernel
theorem dX11_hall_40 : decode cX11_hall 40 = .ok (.ireturn, 1) := by decide +kernel
theorem dX11_hall_41 : decode cX11_hall 41 = .ok (.aload_n 0, 1) := by decide +kernel
theorem dX11_hall_42 : decode cX11_hall 42 = .ok (.getfield 92, 3) := by decide +kernel
theorem dX11_hall_45 : decode cX11_hall 45 = .ok (.bipush 6, 2) := by decide +kernel
theorem dX11_hall_47 : decode cX11_hall 47 = .ok (.if_icmp .lt 10, 3) := by decide +kernel
theorem dX11_hall_50 : decode cX11_hall 50 = .ok (.aload_n 0, 1) := by decide +kernel
theorem dX11_hall_51 : decode cX11_hall 51 = .ok (.bipush (-7), 2) := by decide +kernel
theorem dX11_hall_53 : decode cX11_hall 53 = .ok (.invokevirtual 105, 3) := by decide +kernel
theorem dX11_hall_56 : decode cX11_hall 56 = .ok (.ireturn, 1) := by decide +kernel
theorem dX11_hall_57 : decode cX11_hall 57 = .ok (.aload_n 0, 1) := by decide +kernel
theorem dX11_hall_58 : decode cX11_hall 58 = .ok (.getfield 29, 3) := by decide +kernel
theorem dX11_hall_61 : decode cX11_hall 61 = .ok (.aload_n 0, 1) := by decide +kernel
theorem dX11_hall_62 : decode cX11_hall 62 = .ok (.getfield 92, 3) := by decide +kernel
theorem dX11_hall_65 : decode cX11_hall 65 = .ok (.new 27, 3) := by decide +kernel
theorem dX11_hall_68 : decode cX11_hall 68 = .ok (.dup, 1) := by decide +kernel
theorem dX11_hall_69 : decode cX11_hall 69 = .ok (.iload_n 1, 1) := by decide +kernel
theorem dX11_hall_70 : decode cX11_hall 70 = .ok (.iload_n 2, 1) := by decide +kernel
theorem dX11_hall_71 : decode cX11_hall 71 = .ok (.iload_n 3, 1) := by decide +kernel
theorem dX11_hall_72 : decode cX11_hall 72 = .ok (.invokespecial 372, 3) := by decide +kernel
theorem dX11_hall_75 : decode cX11_hall 75 = .ok (.aastore, 1) := by decide +kernel
theorem dX11_hall_76 : decode cX11_hall 76 = .ok (.aload_n 0, 1) := by decide +kernel
theorem dX11_hall_77 : decode cX11_hall 77 = .ok (.dup, 1) := by decide +kernel
theorem dX11_hall_78 : decode cX11_hall 78 = .ok (.getfield 92, 3) := by decide +kernel
theorem dX11_hall_81 : decode cX11_hall 81 = .ok (.dup_x1, 1) := by decide +kernel
theorem dX11_hall_82 : decode cX11_hall 82 = .ok (.iconst 1, 1) := by decide +kernel
theorem dX11_hall_83 : decode cX11_hall 83 = .ok (.iadd, 1) := by decide +kernel
theorem dX11_hall_84 : decode cX11_hall 84 = .ok (.putfield 92, 3) := by decide +kernel
theorem dX11_hall_87 : decode cX11_hall 87 = .ok (.ireturn, 1) := by decide +kernel
theorem dX11_clearance_0 : decode cX11_clearance 0 = .ok (.iload_n 1, 1) := by decide +kernel
theorem dX11_clearance_1 : decode cX11_clearance 1 = .ok (.ifCond .lt 9, 3) := by decide +kernel
theorem dX11_clearance_4 : decode cX11_clearance 4 = .ok (.iload_n 1, 1) := by decide +kernel
theorem dX11_clearance_5 : decode cX11_clearance 5 = .ok (.bipush 9, 2) := by decide +kernel
theorem dX11_clearance_7 : decode cX11_clearance 7 = .ok (.if_icmp .le 10, 3) := by decide +kernel
theorem dX11_clearance_10 : decode cX11_clearance 10 = .ok (.aload_n 0, 1) := by decide +kernel
theorem dX11_clearance_11 : decode cX11_clearance 11 = .ok (.bipush (-6), 2) := by decide +kernel
theorem dX11_clearance_13 : decode cX11_clearance 13 = .ok (.invokevirtual 105, 3) := by decide +kernel
theorem dX11_clearance_16 : decode cX11_clearance 16 = .ok (.ireturn, 1) := by decide +kernel
theorem dX11_clearance_17 : decode cX11_clearance 17 = .ok (.aload_n 0, 1) := by decide +kernel
theorem dX11_clearance_18 : decode cX11_clearance 18 = .ok (.getfield 101, 3) := by decide +kernel
theorem dX11_clearance_21 : decode cX11_clearance 21 = .ok (.istore_n 2, 1) := by decide +kernel
theorem dX11_clearance_22 : decode cX11_clearance 22 = .ok (.aload_n 0, 1) := by decide +kernel
theorem dX11_clearance_23 : decode cX11_clearance 23 = .ok (.iload_n 1, 1) := by decide +kernel
theorem dX11_clearance_24 : decode cX11_clearance 24 = .ok (.putfield 101, 3) := by decide +kernel
theorem dX11_clearance_27 : decode cX11_clearance 27 = .ok (.iload_n 2, 1) := by decide +kernel
theorem dX11_clearance_28 : decode cX11_clearance 28 = .ok (.ireturn, 1) := by decide +kernel
theorem dX11_book_0 : decode cX11_book 0 = .ok (.aload_n 0, 1) := by decide +kernel
theorem dX11_book_1 : decode cX11_book 1 = .ok (.iload_n 2, 1) := by decide +kernel
theorem dX11_book_2 : decode cX11_book 2 = .ok (.invokevirtual 373, 3) := by decide +kernel
theorem dX11_book_5 : decode cX11_book 5 = .ok (.astore 4, 2) := by decide +kernel
theorem dX11_book_7 : decode cX11_book 7 = .ok (.aload 4, 2) := by decide +kernel
theorem dX11_book_9 : decode cX11_book 9 = .ok (.ifnull 11, 3) := by decide +kernel
theorem dX11_book_12 : decode cX11_book 12 = .ok (.aload_n 0, 1) := by decide +kernel
theorem dX11_book_13 : decode cX11_book 13 = .ok (.iload_n 1, 1) := by decide +kernel
theorem dX11_book_14 : decode cX11_book 14 = .ok (.invokevirtual 164, 3) := by decide +kernel
theorem dX11_book_17 : decode cX11_book 17 = .ok (.ifnonnull 9, 3) := by decide +kernel
theorem dX11_book_20 : decode cX11_book 20 = .ok (.aload_n 0, 1) := by decide +kernel
theorem dX11_book_21 : decode cX11_book 21 = .ok (.iconst (-1), 1) := by decide +kernel
theorem dX11_book_22 : decode cX11_book 22 = .ok (.invokevirtual 105, 3) := by decide +kernel
theorem dX11_book_25 : decode cX11_book 25 = .ok (.ireturn, 1) := by decide +kernel
theorem dX11_book_26 : decode cX11_book 26 = .ok (.iload_n 3, 1) := by decide +kernel
theorem dX11_book_27 : decode cX11_book 27 = .ok (.invokestatic 377, 3) := by decide +kernel
theorem dX11_book_30 : decode cX11_book 30 = .ok (.ifCond .eq 14, 3) := by decide +kernel
theorem dX11_book_33 : decode cX11_book 33 = .ok (.aload_n 0, 1) := by decide +kernel
theorem dX11_book_34 : decode cX11_book 34 = .ok (.iload_n 1, 1) := by decide +kernel
theorem dX11_book_35 : decode cX11_book 35 = .ok (.aload 4, 2) := by decide +kernel
theorem dX11_book_37 : decode cX11_book 37 = .ok (.iload_n 3, 1) := by decide +kernel
theorem dX11_book_38 : decode cX11_book 38 = .ok (.invokevirtual 380, 3) := by decide +kernel
theorem dX11_book_41 : decode cX11_book 41 = .ok (.ifCond .ne 10, 3) := by decide +kernel
theorem dX11_book_44 : decode cX11_book 44 = .ok (.aload_n 0, 1) := by decide +kernel
theorem dX11_book_45 : decode cX11_book 45 = .ok (.bipush (-6), 2) := by decide +kernel
theorem dX11_book_47 : decode cX11_book 47 = .ok (.invokevirtual 105, 3) := by decide +kernel
theorem dX11_book_50 : decode cX11_book 50 = .ok (.ireturn, 1) := by decide +kernel
theorem dX11_book_51 : decode cX11_book 51 = .ok (.aload 4, 2) := by decide +kernel
theorem dX11_book_53 : decode cX11_book 53 = .ok (.getfield 384, 3) := by decide +kernel
theorem dX11_book_56 : decode cX11_book 56 = .ok (.iload_n 3, 1) := by decide +kernel
theorem dX11_book_57 : decode cX11_book 57 = .ok (.iload_n 1, 1) := by decide +kernel
theorem dX11_book_58 : decode cX11_book 58 = .ok (.iastore, 1) := by decide +kernel
theorem dX11_book_59 : decode cX11_book 59 = .ok (.iconst 1, 1) := by decide +kernel
theorem dX11_book_60 : decode cX11_book 60 = .ok (.ireturn, 1) := by decide +kernel
theorem dX11_block_0 : decode cX11_block 0 = .ok (.aload_n 0, 1) := by decide +kernel
theorem dX11_block_1 : decode cX11_block 1 = .ok (.iload_n 1, 1) := by decide +kernel
theorem dX11_block_2 : decode cX11_block 2 = .ok (.invokevirtual 373, 3) := by decide +kernel
theorem dX11_block_5 : decode cX11_block 5 = .ok (.astore 4, 2) := by decide +kernel
theorem dX11_block_7 : decode cX11_block 7 = .ok (.aload 4, 2) := by decide +kernel
theorem dX11_block_9 : decode cX11_block 9 = .ok (.ifnull 14, 3) := by decide +kernel
theorem dX11_block_12 : decode cX11_block 12 = .ok (.iload_n 2, 1) := by decide +kernel
theorem dX11_block_13 : decode cX11_block 13 = .ok (.aload_n 0, 1) := by decide +kernel
theorem dX11_block_14 : decode cX11_block 14 = .ok (.getfield 89, 3) := by decide +kernel
theorem dX11_block_17 : decode cX11_block 17 = .ok (.invokestatic 232, 3) := by decide +kernel
theorem dX11_block_20 : decode cX11_block 20 = .ok (.ifCond .eq 9, 3) := by decide +kernel
theorem dX11_block_23 : decode cX11_block 23 = .ok (.aload_n 0, 1) := by decide +kernel
theorem dX11_block_24 : decode cX11_block 24 = .ok (.iconst (-1), 1) := by decide +kernel
theorem dX11_block_25 : decode cX11_block 25 = .ok (.invokevirtual 105, 3) := by decide +kernel
theorem dX11_block_28 : decode cX11_block 28 = .ok (.ireturn, 1) := by decide +kernel
theorem dX11_block_29 : decode cX11_block 29 = .ok (.iload_n 3, 1) := by decide +kernel
theorem dX11_block_30 : decode cX11_block 30 = .ok (.invokestatic 377, 3) := by decide +kernel
theorem dX11_block_33 : decode cX11_block 33 = .ok (.ifCond .eq 7, 3) := by decide +kernel
theorem dX11_block_36 : decode cX11_block 36 = .ok (.iload_n 2, 1) := by decide +kernel
theorem dX11_block_37 : decode cX11_block 37 = .ok (.ifCond .ne 10, 3) := by decide +kernel
theorem dX11_block_40 : decode cX11_block 40 = .ok (.aload_n 0, 1) := by decide +kernel
theorem dX11_block_41 : decode cX11_block 41 = .ok (.bipush (-6), 2) := by decide +kernel
theorem dX11_block_43 : decode cX11_block 43 = .ok (.invokevirtual 105, 3) := by decide +kernel
theorem dX11_block_46 : decode cX11_block 46 = .ok (.ireturn, 1) := by decide +kernel
theorem dX11_block_47 : decode cX11_block 47 = .ok (.iconst (-1), 1) := by decide +kernel
theorem dX11_block_48 : decode cX11_block 48 = .ok (.istore 5, 2) := by decide +kernel
theorem dX11_block_50 : decode cX11_block 50 = .ok (.lconst 0, 1) := by decide +kernel
theorem dX11_block_51 : decode cX11_block 51 = .ok (.lstore 6, 2) := by decide +kernel
theorem dX11_block_53 : decode cX11_block 53 = .ok (.iconst 0, 1) := by decide +kernel
theorem dX11_block_54 : decode cX11_block 54 = .ok (.istore 8, 2) := by decide +kernel
theorem dX11_block_56 : decode cX11_block 56 = .ok (.iload 8, 2) := by decide +kernel
theorem dX11_block_58 : decode cX11_block 58 = .ok (.aload_n 0, 1) := by decide +kernel
theorem dX11_block_59 : decode cX11_block 59 = .ok (.getfield 89, 3) := by decide +kernel
theorem dX11_block_62 : decode cX11_block 62 = .ok (.if_icmp .ge 78, 3) := by decide +kernel
theorem dX11_block_65 : decode cX11_block 65 = .ok (.iload_n 2, 1) := by decide +kernel
theorem dX11_block_66 : decode cX11_block 66 = .ok (.iload 8, 2) := by decide +kernel
theorem dX11_block_68 : decode cX11_block 68 = .ok (.ishr, 1) := by decide +kernel
theorem dX11_block_69 : decode cX11_block 69 = .ok (.iconst 1, 1) := by decide +kernel
theorem dX11_block_70 : decode cX11_block 70 = .ok (.iand, 1) := by decide +kernel
theorem dX11_block_71 : decode cX11_block 71 = .ok (.iconst 1, 1) := by decide +kernel
theorem dX11_block_72 : decode cX11_block 72 = .ok (.if_icmp .ne 62, 3) := by decide +kernel
theorem dX11_block_75 : decode cX11_block 75 = .ok (.aload_n 0, 1) := by decide +kernel
theorem dX11_block_76 : decode cX11_block 76 = .ok (.iload 8, 2) := by decide +kernel
theorem dX11_block_78 : decode cX11_block 78 = .ok (.aload 4, 2) := by decide +kernel
theorem dX11_block_80 : decode cX11_block 80 = .ok (.iload_n 3, 1) := by decide +kernel
theorem dX11_block_81 : decode cX11_block 81 = .ok (.invokevirtual 387, 3) := by decide +kernel
theorem dX11_block_84 : decode cX11_block 84 = .ok (.istore 9, 2) := by decide +kernel
theorem dX11_block_86 : decode cX11_block 86 = .ok (.iload 9, 2) := by decide +kernel
theorem dX11_block_88 : decode cX11_block 88 = .ok (.iconst (-1), 1) := by decide +kernel
theorem dX11_block_89 : decode cX11_block 89 = .ok (.if_icmp .ne 17, 3) := by decide +kernel
theorem dX11_block_92 : decode cX11_block 92 = .ok (.aload 4, 2) := by decide +kernel
theorem dX11_block_94 : decode cX11_block 94 = .ok (.lload 6, 2) := by decide +kernel
theorem dX11_block_96 : decode cX11_block 96 = .ok (.invokevirtual 391, 3) := by decide +kernel
theorem dX11_block_99 : decode cX11_block 99 = .ok (.aload_n 0, 1) := by decide +kernel
theorem dX11_block_100 : decode cX11_block 100 = .ok (.bipush (-6), 2) := by decide +kernel
theorem dX11_block_102 : decode cX11_block 102 = .ok (.invokevirtual 105, 3) := by decide +kernel
theorem dX11_block_105 : decode cX11_block 105 = .ok (.ireturn, 1) := by decide +kernel
theorem dX11_block_106 : decode cX11_block 106 = .ok (.aload 4, 2) := by decide +kernel
theorem dX11_block_108 : decode cX11_block 108 = .ok (.getfield 384, 3) := by decide +kernel
theorem dX11_block_111 : decode cX11_block 111 = .ok (.iload 9, 2) := by decide +kernel
theorem dX11_block_113 : decode cX11_block 113 = .ok (.iload 8, 2) := by decide +kernel
theorem dX11_block_115 : decode cX11_block 115 = .ok (.iastore, 1) := by decide +kernel
theorem dX11_block_116 : decode cX11_block 116 = .ok (.lload 6, 2) := by decide +kernel
theorem dX11_block_118 : decode cX11_block 118 = .ok (.lconst 1, 1) := by decide +kernel
theorem dX11_block_119 : decode cX11_block 119 = .ok (.iload 9, 2) := by decide +kernel
theorem dX11_block_121 : decode cX11_block 121 = .ok (.lshl, 1) := by decide +kernel
theorem dX11_block_122 : decode cX11_block 122 = .ok (.lor, 1) := by decide +kernel
theorem dX11_block_123 : decode cX11_block 123 = .ok (.lstore 6, 2) := by decide +kernel
theorem dX11_block_125 : decode cX11_block 125 = .ok (.iload 5, 2) := by decide +kernel
theorem dX11_block_127 : decode cX11_block 127 = .ok (.iload 9, 2) := by decide +kernel
theorem dX11_block_129 : decode cX11_block 129 = .ok (.invokestatic 337, 3) := by decide +kernel
theorem dX11_block_132 : decode cX11_block 132 = .ok (.istore 5, 2) := by decide +kernel
theorem dX11_block_134 : decode cX11_block 134 = .ok (.iinc 8 1, 3) := by decide +kernel
theorem dX11_block_137 : decode cX11_block 137 = .ok (.goto (-81), 3) := by decide +kernel
theorem dX11_block_140 : decode cX11_block 140 = .ok (.iload 5, 2) := by decide +kernel
theorem dX11_block_142 : decode cX11_block 142 = .ok (.ireturn, 1) := by decide +kernel
theorem dX11_shown_0 : decode cX11_shown 0 = .ok (.aload_n 0, 1) := by decide +kernel
theorem dX11_shown_1 : decode cX11_shown 1 = .ok (.iload_n 1, 1) := by decide +kernel
theorem dX11_shown_2 : decode cX11_shown 2 = .ok (.invokevirtual 373, 3) := by decide +kernel
theorem dX11_shown_5 : decode cX11_shown 5 = .ok (.astore_n 3, 1) := by decide +kernel
theorem dX11_shown_6 : decode cX11_shown 6 = .ok (.aload_n 3, 1) := by decide +kernel
theorem dX11_shown_7 : decode cX11_shown 7 = .ok (.ifnull 10, 3) := by decide +kernel
theorem dX11_shown_10 : decode cX11_shown 10 = .ok (.iload_n 2, 1) := by decide +kernel
theorem dX11_shown_11 : decode cX11_shown 11 = .ok (.invokestatic 377, 3) := by decide +kernel
theorem dX11_shown_14 : decode cX11_shown 14 = .ok (.ifCond .ne 7, 3) := by decide +kernel
theorem dX11_shown_17 : decode cX11_shown 17 = .ok (.iconst (-1), 1) := by decide +kernel
theorem dX11_shown_18 : decode cX11_shown 18 = .ok (.goto 9, 3) := by decide +kernel
theorem dX11_shown_21 : decode cX11_shown 21 = .ok (.aload_n 3, 1) := by decide +kernel
theorem dX11_shown_22 : decode cX11_shown 22 = .ok (.getfield 384, 3) := by decide +kernel
theorem dX11_shown_25 : decode cX11_shown 25 = .ok (.iload_n 2, 1) := by decide +kernel
theorem dX11_shown_26 : decode cX11_shown 26 = .ok (.iaload, 1) := by decide +kernel
theorem dX11_shown_27 : decode cX11_shown 27 = .ok (.ireturn, 1) := by decide +kernel
theorem dX11_takings_0 : decode cX11_takings 0 = .ok (.aload_n 0, 1) := by decide +kernel
theorem dX11_takings_1 : decode cX11_takings 1 = .ok (.iload_n 1, 1) := by decide +kernel
theorem dX11_takings_2 : decode cX11_takings 2 = .ok (.invokevirtual 373, 3) := by decide +kernel
theorem dX11_takings_5 : decode cX11_takings 5 = .ok (.astore 4, 2) := by decide +kernel
theorem dX11_takings_7 : decode cX11_takings 7 = .ok (.aload 4, 2) := by decide +kernel
theorem dX11_takings_9 : decode cX11_takings 9 = .ok (.ifnonnull 9, 3) := by decide +kernel
theorem dX11_takings_12 : decode cX11_takings 12 = .ok (.aload_n 0, 1) := by decide +kernel
theorem dX11_takings_13 : decode cX11_takings 13 = .ok (.iconst (-1), 1) := by decide +kernel
theorem dX11_takings_14 : decode cX11_takings 14 = .ok (.invokevirtual 105, 3) := by decide +kernel
theorem dX11_takings_17 : decode cX11_takings 17 = .ok (.ireturn, 1) := by decide +kernel
theorem dX11_takings_18 : decode cX11_takings 18 = .ok (.iload_n 2, 1) := by decide +kernel
theorem dX11_takings_19 : decode cX11_takings 19 = .ok (.invokestatic 377, 3) := by decide +kernel
theorem dX11_takings_22 : decode cX11_takings 22 = .ok (.ifCond .eq 23, 3) := by decide +kernel
theorem dX11_takings_25 : decode cX11_takings 25 = .ok (.iload_n 3, 1) := by decide +kernel
theorem dX11_takings_26 : decode cX11_takings 26 = .ok (.ifCond .lt 19, 3) := by decide +kernel
theorem dX11_takings_29 : decode cX11_takings 29 = .ok (.iload_n 3, 1) := by decide +kernel
theorem dX11_takings_30 : decode cX11_takings 30 = .ok (.ldc 227, 2) := by decide +kernel
theorem dX11_takings_32 : decode cX11_takings 32 = .ok (.if_icmp .gt 13, 3) := by decide +kernel
theorem dX11_takings_35 : decode cX11_takings 35 = .ok (.aload 4, 2) := by decide +kernel
theorem dX11_takings_37 : decode cX11_takings 37 = .ok (.getfield 395, 3) := by decide +kernel
theorem dX11_takings_40 : decode cX11_takings 40 = .ok (.iload_n 2, 1) := by decide +kernel
theorem dX11_takings_41 : decode cX11_takings 41 = .ok (.baload, 1) := by decide +kernel
theorem dX11_takings_42 : decode cX11_takings 42 = .ok (.ifCond .eq 10, 3) := by decide +kernel
theorem dX11_takings_45 : decode cX11_takings 45 = .ok (.aload_n 0, 1) := by decide +kernel
theorem dX11_takings_46 : decode cX11_takings 46 = .ok (.bipush (-6), 2) := by decide +kernel
theorem dX11_takings_48 : decode cX11_takings 48 = .ok (.invokevirtual 105, 3) := by decide +kernel
theorem dX11_takings_51 : decode cX11_takings 51 = .ok (.ireturn, 1) := by decide +kernel
theorem dX11_takings_52 : decode cX11_takings 52 = .ok (.aload_n 0, 1) := by decide +kernel
theorem dX11_takings_53 : decode cX11_takings 53 = .ok (.aload 4, 2) := by decide +kernel
theorem dX11_takings_55 : decode cX11_takings 55 = .ok (.getfield 384, 3) := by decide +kernel
theorem dX11_takings_58 : decode cX11_takings 58 = .ok (.iload_n 2, 1) := by decide +kernel
theorem dX11_takings_59 : decode cX11_takings 59 = .ok (.iaload, 1) := by decide +kernel
theorem dX11_takings_60 : decode cX11_takings 60 = .ok (.invokevirtual 164, 3) := by decide +kernel
theorem dX11_takings_63 : decode cX11_takings 63 = .ok (.astore 5, 2) := by decide +kernel
theorem dX11_takings_65 : decode cX11_takings 65 = .ok (.aload 5, 2) := by decide +kernel
theorem dX11_takings_67 : decode cX11_takings 67 = .ok (.ifnonnull 10, 3) := by decide +kernel
theorem dX11_takings_70 : decode cX11_takings 70 = .ok (.aload_n 0, 1) := by decide +kernel
theorem dX11_takings_71 : decode cX11_takings 71 = .ok (.bipush (-6), 2) := by decide +kernel
theorem dX11_takings_73 : decode cX11_takings 73 = .ok (.invokevirtual 105, 3) := by decide +kernel
theorem dX11_takings_76 : decode cX11_takings 76 = .ok (.ireturn, 1) := by decide +kernel
theorem dX11_takings_77 : decode cX11_takings 77 = .ok (.iload_n 3, 1) := by decide +kernel
theorem dX11_takings_78 : decode cX11_takings 78 = .ok (.aload 4, 2) := by decide +kernel
theorem dX11_takings_80 : decode cX11_takings 80 = .ok (.getfield 398, 3) := by decide +kernel
theorem dX11_takings_83 : decode cX11_takings 83 = .ok (.imul, 1) := by decide +kernel
theorem dX11_takings_84 : decode cX11_takings 84 = .ok (.bipush 100, 2) := by decide +kernel
theorem dX11_takings_86 : decode cX11_takings 86 = .ok (.idiv, 1) := by decide +kernel
theorem dX11_takings_87 : decode cX11_takings 87 = .ok (.istore 6, 2) := by decide +kernel
theorem dX11_takings_89 : decode cX11_takings 89 = .ok (.aload_n 0, 1) := by decide +kernel
theorem dX11_takings_90 : decode cX11_takings 90 = .ok (.aload 5, 2) := by decide +kernel
theorem dX11_takings_92 : decode cX11_takings 92 = .ok (.iload_n 3, 1) := by decide +kernel
theorem dX11_takings_93 : decode cX11_takings 93 = .ok (.iload 6, 2) := by decide +kernel
theorem dX11_takings_95 : decode cX11_takings 95 = .ok (.isub, 1) := by decide +kernel
theorem dX11_takings_96 : decode cX11_takings 96 = .ok (.invokevirtual 401, 3) := by decide +kernel
theorem dX11_takings_99 : decode cX11_takings 99 = .ok (.istore 7, 2) := by decide +kernel
theorem dX11_takings_101 : decode cX11_takings 101 = .ok (.aload 4, 2) := by decide +kernel
theorem dX11_takings_103 : decode cX11_takings 103 = .ok (.getfield 395, 3) := by decide +kernel
theorem dX11_takings_106 : decode cX11_takings 106 = .ok (.iload_n 2, 1) := by decide +kernel
theorem dX11_takings_107 : decode cX11_takings 107 = .ok (.iconst 1, 1) := by decide +kernel
theorem dX11_takings_108 : decode cX11_takings 108 = .ok (.bastore, 1) := by decide +kernel
theorem dX11_takings_109 : decode cX11_takings 109 = .ok (.aload 4, 2) := by decide +kernel
theorem dX11_takings_111 : decode cX11_takings 111 = .ok (.dup, 1) := by decide +kernel
theorem dX11_takings_112 : decode cX11_takings 112 = .ok (.getfield 404, 3) := by decide +kernel
theorem dX11_takings_115 : decode cX11_takings 115 = .ok (.iload 6, 2) := by decide +kernel
theorem dX11_takings_117 : decode cX11_takings 117 = .ok (.iadd, 1) := by decide +kernel
theorem dX11_takings_118 : decode cX11_takings 118 = .ok (.putfield 404, 3) := by decide +kernel
theorem dX11_takings_121 : decode cX11_takings 121 = .ok (.aload_n 0, 1) := by decide +kernel
theorem dX11_takings_122 : decode cX11_takings 122 = .ok (.dup, 1) := by decide +kernel
theorem dX11_takings_123 : decode cX11_takings 123 = .ok (.getfield 98, 3) := by decide +kernel
theorem dX11_takings_126 : decode cX11_takings 126 = .ok (.iload 7, 2) := by decide +kernel
theorem dX11_takings_128 : decode cX11_takings 128 = .ok (.iadd, 1) := by decide +kernel
theorem dX11_takings_129 : decode cX11_takings 129 = .ok (.putfield 98, 3) := by decide +kernel
theorem dX11_takings_132 : decode cX11_takings 132 = .ok (.iload 7, 2) := by decide +kernel
theorem dX11_takings_134 : decode cX11_takings 134 = .ok (.ireturn, 1) := by decide +kernel
theorem dX11_got_0 : decode cX11_got 0 = .ok (.iload_n 1, 1) := by decide +kernel
theorem dX11_got_1 : decode cX11_got 1 = .ok (.ifCond .ne 22, 3) := by decide +kernel
theorem dX11_got_4 : decode cX11_got 4 = .ok (.aload_n 0, 1) := by decide +kernel
theorem dX11_got_5 : decode cX11_got 5 = .ok (.iload_n 2, 1) := by decide +kernel
theorem dX11_got_6 : decode cX11_got 6 = .ok (.invokevirtual 373, 3) := by decide +kernel
theorem dX11_got_9 : decode cX11_got 9 = .ok (.astore_n 3, 1) := by decide +kernel
theorem dX11_got_10 : decode cX11_got 10 = .ok (.aload_n 3, 1) := by decide +kernel
theorem dX11_got_11 : decode cX11_got 11 = .ok (.ifnonnull 7, 3) := by decide +kernel
theorem dX11_got_14 : decode cX11_got 14 = .ok (.iconst (-1), 1) := by decide +kernel
theorem dX11_got_15 : decode cX11_got 15 = .ok (.goto 7, 3) := by decide +kernel
theorem dX11_got_18 : decode cX11_got 18 = .ok (.aload_n 3, 1) := by decide +kernel
theorem dX11_got_19 : decode cX11_got 19 = .ok (.getfield 404, 3) := by decide +kernel
theorem dX11_got_22 : decode cX11_got 22 = .ok (.ireturn, 1) := by decide +kernel
theorem dX11_got_23 : decode cX11_got 23 = .ok (.iload_n 1, 1) := by decide +kernel
theorem dX11_got_24 : decode cX11_got 24 = .ok (.iconst 1, 1) := by decide +kernel
theorem dX11_got_25 : decode cX11_got 25 = .ok (.if_icmp .ne 22, 3) := by decide +kernel
theorem dX11_got_28 : decode cX11_got 28 = .ok (.aload_n 0, 1) := by decide +kernel
theorem dX11_got_29 : decode cX11_got 29 = .ok (.iload_n 2, 1) := by decide +kernel
theorem dX11_got_30 : decode cX11_got 30 = .ok (.invokevirtual 174, 3) := by decide +kernel
theorem dX11_got_33 : decode cX11_got 33 = .ok (.astore_n 3, 1) := by decide +kernel
theorem dX11_got_34 : decode cX11_got 34 = .ok (.aload_n 3, 1) := by decide +kernel
theorem dX11_got_35 : decode cX11_got 35 = .ok (.ifnonnull 7, 3) := by decide +kernel
theorem dX11_got_38 : decode cX11_got 38 = .ok (.iconst (-1), 1) := by decide +kernel
theorem dX11_got_39 : decode cX11_got 39 = .ok (.goto 7, 3) := by decide +kernel
theorem dX11_got_42 : decode cX11_got 42 = .ok (.aload_n 3, 1) := by decide +kernel
theorem dX11_got_43 : decode cX11_got 43 = .ok (.getfield 407, 3) := by decide +kernel
theorem dX11_got_46 : decode cX11_got 46 = .ok (.ireturn, 1) := by decide +kernel
theorem dX11_got_47 : decode cX11_got 47 = .ok (.iconst (-1), 1) := by decide +kernel
theorem dX11_got_48 : decode cX11_got 48 = .ok (.ireturn, 1) := by decide +kernel
theorem dX11_lot_0 : decode cX11_lot 0 = .ok (.aload_n 0, 1) := by decide +kernel
theorem dX11_lot_1 : decode cX11_lot 1 = .ok (.iload_n 1, 1) := by decide +kernel
theorem dX11_lot_2 : decode cX11_lot 2 = .ok (.invokevirtual 164, 3) := by decide +kernel
theorem dX11_lot_5 : decode cX11_lot 5 = .ok (.astore_n 3, 1) := by decide +kernel
theorem dX11_lot_6 : decode cX11_lot 6 = .ok (.aload_n 3, 1) := by decide +kernel
theorem dX11_lot_7 : decode cX11_lot 7 = .ok (.ifnonnull 9, 3) := by decide +kernel
theorem dX11_lot_10 : decode cX11_lot 10 = .ok (.aload_n 0, 1) := by decide +kernel
theorem dX11_lot_11 : decode cX11_lot 11 = .ok (.iconst (-1), 1) := by decide +kernel
theorem dX11_lot_12 : decode cX11_lot 12 = .ok (.invokevirtual 105, 3) := by decide +kernel
theorem dX11_lot_15 : decode cX11_lot 15 = .ok (.ireturn, 1) := by decide +kernel
theorem dX11_lot_16 : decode cX11_lot 16 = .ok (.iload_n 2, 1) := by decide +kernel
theorem dX11_lot_17 : decode cX11_lot 17 = .ok (.iconst 1, 1) := by decide +kernel
theorem dX11_lot_18 : decode cX11_lot 18 = .ok (.if_icmp .lt 8, 3) := by decide +kernel
theorem dX11_lot_21 : decode cX11_lot 21 = .ok (.iload_n 2, 1) := by decide +kernel
theorem dX11_lot_22 : decode cX11_lot 22 = .ok (.iconst 4, 1) := by decide +kernel
theorem dX11_lot_23 : decode cX11_lot 23 = .ok (.if_icmp .le 10, 3) := by decide +kernel
theorem dX11_lot_26 : decode cX11_lot 26 = .ok (.aload_n 0, 1) := by decide +kernel
theorem dX11_lot_27 : decode cX11_lot 27 = .ok (.bipush (-6), 2) := by decide +kernel
theorem dX11_lot_29 : decode cX11_lot 29 = .ok (.invokevirtual 105, 3) := by decide +kernel
theorem dX11_lot_32 : decode cX11_lot 32 = .ok (.ireturn, 1) := by decide +kernel
theorem dX11_lot_33 : decode cX11_lot 33 = .ok (.aload_n 3, 1) := by decide +kernel
theorem dX11_lot_34 : decode cX11_lot 34 = .ok (.getfield 408, 3) := by decide +kernel
theorem dX11_lot_37 : decode cX11_lot 37 = .ok (.istore 4, 2) := by decide +kernel
theorem dX11_lot_39 : decode cX11_lot 39 = .ok (.aload_n 3, 1) := by decide +kernel
theorem dX11_lot_40 : decode cX11_lot 40 = .ok (.iload_n 2, 1) := by decide +kernel
theorem dX11_lot_41 : decode cX11_lot 41 = .ok (.putfield 408, 3) := by decide +kernel
theorem dX11_lot_44 : decode cX11_lot 44 = .ok (.iload 4, 2) := by decide +kernel
theorem dX11_lot_46 : decode cX11_lot 46 = .ok (.ireturn, 1) := by decide +kernel
theorem dX11_worth_0 : decode cX11_worth 0 = .ok (.aload_n 0, 1) := by decide +kernel
theorem dX11_worth_1 : decode cX11_worth 1 = .ok (.iload_n 1, 1) := by decide +kernel
theorem dX11_worth_2 : decode cX11_worth 2 = .ok (.invokevirtual 164, 3) := by decide +kernel
theorem dX11_worth_5 : decode cX11_worth 5 = .ok (.astore 4, 2) := by decide +kernel
theorem dX11_worth_7 : decode cX11_worth 7 = .ok (.aload 4, 2) := by decide +kernel
theorem dX11_worth_9 : decode cX11_worth 9 = .ok (.ifnonnull 9, 3) := by decide +kernel
theorem dX11_worth_12 : decode cX11_worth 12 = .ok (.aload_n 0, 1) := by decide +kernel
theorem dX11_worth_13 : decode cX11_worth 13 = .ok (.iconst (-1), 1) := by decide +kernel
theorem dX11_worth_14 : decode cX11_worth 14 = .ok (.invokevirtual 105, 3) := by decide +kernel
theorem dX11_worth_17 : decode cX11_worth 17 = .ok (.ireturn, 1) := by decide +kernel
theorem dX11_worth_18 : decode cX11_worth 18 = .ok (.iload_n 2, 1) := by decide +kernel
theorem dX11_worth_19 : decode cX11_worth 19 = .ok (.ifCond .lt 20, 3) := by decide +kernel
theorem dX11_worth_22 : decode cX11_worth 22 = .ok (.iload_n 2, 1) := by decide +kernel
theorem dX11_worth_23 : decode cX11_worth 23 = .ok (.bipush 8, 2) := by decide +kernel
theorem dX11_worth_25 : decode cX11_worth 25 = .ok (.if_icmp .ge 14, 3) := by decide +kernel
theorem dX11_worth_28 : decode cX11_worth 28 = .ok (.iload_n 3, 1) := by decide +kernel
theorem dX11_worth_29 : decode cX11_worth 29 = .ok (.ifCond .lt 10, 3) := by decide +kernel
theorem dX11_worth_32 : decode cX11_worth 32 = .ok (.iload_n 3, 1) := by decide +kernel
theorem dX11_worth_33 : decode cX11_worth 33 = .ok (.sipush 999, 3) := by decide +kernel
theorem dX11_worth_36 : decode cX11_worth 36 = .ok (.if_icmp .le 10, 3) := by decide +kernel
theorem dX11_worth_39 : decode cX11_worth 39 = .ok (.aload_n 0, 1) := by decide +kernel
theorem dX11_worth_40 : decode cX11_worth 40 = .ok (.bipush (-6), 2) := by decide +kernel
theorem dX11_worth_42 : decode cX11_worth 42 = .ok (.invokevirtual 105, 3) := by decide +kernel
theorem dX11_worth_45 : decode cX11_worth 45 = .ok (.ireturn, 1) := by decide +kernel
theorem dX11_worth_46 : decode cX11_worth 46 = .ok (.aload 4, 2) := by decide +kernel
theorem dX11_worth_48 : decode cX11_worth 48 = .ok (.getfield 411, 3) := by decide +kernel
theorem dX11_worth_51 : decode cX11_worth 51 = .ok (.iload_n 2, 1) := by decide +kernel
theorem dX11_worth_52 : decode cX11_worth 52 = .ok (.iaload, 1) := by decide +kernel
theorem dX11_worth_53 : decode cX11_worth 53 = .ok (.istore 5, 2) := by decide +kernel
theorem dX11_worth_55 : decode cX11_worth 55 = .ok (.aload 4, 2) := by decide +kernel
theorem dX11_worth_57 : decode cX11_worth 57 = .ok (.getfield 411, 3) := by decide +kernel
theorem dX11_worth_60 : decode cX11_worth 60 = .ok (.iload_n 2, 1) := by decide +kernel
theorem dX11_worth_61 : decode cX11_worth 61 = .ok (.iload_n 3, 1) := by decide +kernel
theorem dX11_worth_62 : decode cX11_worth 62 = .ok (.iastore, 1) := by decide +kernel
theorem dX11_worth_63 : decode cX11_worth 63 = .ok (.iload 5, 2) := by decide +kernel
theorem dX11_worth_65 : decode cX11_worth 65 = .ok (.ireturn, 1) := by decide +kernel
theorem dX11_plan_0 : decode cX11_plan 0 = .ok (.iload_n 1, 1) := by decide +kernel
theorem dX11_plan_1 : decode cX11_plan 1 = .ok (.iconst 1, 1) := by decide +kernel
theorem dX11_plan_2 : decode cX11_plan 2 = .ok (.if_icmp .lt 8, 3) := by decide +kernel
theorem dX11_plan_5 : decode cX11_plan 5 = .ok (.iload_n 1, 1) := by decide +kernel
theorem dX11_plan_6 : decode cX11_plan 6 = .ok (.iconst 3, 1) := by decide +kernel
theorem dX11_plan_7 : decode cX11_plan 7 = .ok (.if_icmp .le 10, 3) := by decide +kernel
theorem dX11_plan_10 : decode cX11_plan 10 = .ok (.aload_n 0, 1) := by decide +kernel
theorem dX11_plan_11 : decode cX11_plan 11 = .ok (.bipush (-6), 2) := by decide +kernel
theorem dX11_plan_13 : decode cX11_plan 13 = .ok (.invokevirtual 105, 3) := by decide +kernel
theorem dX11_plan_16 : decode cX11_plan 16 = .ok (.ireturn, 1) := by decide +kernel
theorem dX11_plan_17 : decode cX11_plan 17 = .ok (.aload_n 0, 1) := by decide +kernel
theorem dX11_plan_18 : decode cX11_plan 18 = .ok (.getfield 89, 3) := by decide +kernel
theorem dX11_plan_21 : decode cX11_plan 21 = .ok (.iconst 5, 1) := by decide +kernel
theorem dX11_plan_22 : decode cX11_plan 22 = .ok (.if_icmp .le 10, 3) := by decide +kernel
theorem dX11_plan_25 : decode cX11_plan 25 = .ok (.aload_n 0, 1) := by decide +kernel
theorem dX11_plan_26 : decode cX11_plan 26 = .ok (.bipush (-7), 2) := by decide +kernel
theorem dX11_plan_28 : decode cX11_plan 28 = .ok (.invokevirtual 105, 3) := by decide +kernel
theorem dX11_plan_31 : decode cX11_plan 31 = .ok (.ireturn, 1) := by decide +kernel
theorem dX11_plan_32 : decode cX11_plan 32 = .ok (.aload_n 0, 1) := by decide +kernel
theorem dX11_plan_33 : decode cX11_plan 33 = .ok (.getfield 71, 3) := by decide +kernel
theorem dX11_plan_36 : decode cX11_plan 36 = .ok (.aload_n 0, 1) := by decide +kernel
theorem dX11_plan_37 : decode cX11_plan 37 = .ok (.getfield 23, 3) := by decide +kernel
theorem dX11_plan_40 : decode cX11_plan 40 = .ok (.aload_n 0, 1) := by decide +kernel
theorem dX11_plan_41 : decode cX11_plan 41 = .ok (.getfield 89, 3) := by decide +kernel
theorem dX11_plan_44 : decode cX11_plan 44 = .ok (.iload_n 1, 1) := by decide +kernel
theorem dX11_plan_45 : decode cX11_plan 45 = .ok (.invokevirtual 414, 3) := by decide +kernel
theorem dX11_plan_48 : decode cX11_plan 48 = .ok (.ireturn, 1) := by decide +kernel
theorem dX11_planned_0 : decode cX11_planned 0 = .ok (.iload_n 1, 1) := by decide +kernel
theorem dX11_planned_1 : decode cX11_planned 1 = .ok (.ifCond .lt 14, 3) := by decide +kernel
theorem dX11_planned_4 : decode cX11_planned 4 = .ok (.iload_n 1, 1) := by decide +kernel
theorem dX11_planned_5 : decode cX11_planned 5 = .ok (.aload_n 0, 1) := by decide +kernel
theorem dX11_planned_6 : decode cX11_planned 6 = .ok (.getfield 71, 3) := by decide +kernel
theorem dX11_planned_9 : decode cX11_planned 9 = .ok (.getfield 417, 3) := by decide +kernel
theorem dX11_planned_12 : decode cX11_planned 12 = .ok (.if_icmp .lt 7, 3) := by decide +kernel
theorem dX11_planned_15 : decode cX11_planned 15 = .ok (.iconst (-1), 1) := by decide +kernel
theorem dX11_planned_16 : decode cX11_planned 16 = .ok (.goto 12, 3) := by decide +kernel
theorem dX11_planned_19 : decode cX11_planned 19 = .ok (.aload_n 0, 1) := by decide +kernel
theorem dX11_planned_20 : decode cX11_planned 20 = .ok (.getfield 71, 3) := by decide +kernel
theorem dX11_planned_23 : decode cX11_planned 23 = .ok (.getfield 418, 3) := by decide +kernel
theorem dX11_planned_26 : decode cX11_planned 26 = .ok (.iload_n 1, 1) := by decide +kernel
theorem dX11_planned_27 : decode cX11_planned 27 = .ok (.iaload, 1) := by decide +kernel
theorem dX11_planned_28 : decode cX11_planned 28 = .ok (.ireturn, 1) := by decide +kernel
theorem dX11_status_0 : decode cX11_status 0 = .ok (.iload_n 1, 1) := by decide +kernel
theorem dX11_status_1 : decode cX11_status 1 = .ok (.tableswitch 99 0 9 #[55, 60, 65, 73, 78, 83, 88, 88, 88, 94], 55) := by decide +kernel
theorem dX11_status_56 : decode cX11_status 56 = .ok (.aload_n 0, 1) := by decide +kernel
theorem dX11_status_57 : decode cX11_status 57 = .ok (.getfield 85, 3) := by decide +kernel
theorem dX11_status_60 : decode cX11_status 60 = .ok (.ireturn, 1) := by decide +kernel
theorem dX11_status_61 : decode cX11_status 61 = .ok (.aload_n 0, 1) := by decide +kernel
theorem dX11_status_62 : decode cX11_status 62 = .ok (.getfield 89, 3) := by decide +kernel
theorem dX11_status_65 : decode cX11_status 65 = .ok (.ireturn, 1) := by decide +kernel
theorem dX11_status_66 : decode cX11_status 66 = .ok (.aload_n 0, 1) := by decide +kernel
theorem dX11_status_67 : decode cX11_status 67 = .ok (.getfield 36, 3) := by decide +kernel
theorem dX11_status_70 : decode cX11_status 70 = .ok (.getfield 198, 3) := by decide +kernel
theorem dX11_status_73 : decode cX11_status 73 = .ok (.ireturn, 1) := by decide +kernel
theorem dX11_status_74 : decode cX11_status 74 = .ok (.aload_n 0, 1) := by decide +kernel
theorem dX11_status_75 : decode cX11_status 75 = .ok (.getfield 92, 3) := by decide +kernel
theorem dX11_status_78 : decode cX11_status 78 = .ok (.ireturn, 1) := by decide +kernel
theorem dX11_status_79 : decode cX11_status 79 = .ok (.aload_n 0, 1) := by decide +kernel
theorem dX11_status_80 : decode cX11_status 80 = .ok (.getfield 95, 3) := by decide +kernel
theorem dX11_status_83 : decode cX11_status 83 = .ok (.ireturn, 1) := by decide +kernel
theorem dX11_status_84 : decode cX11_status 84 = .ok (.aload_n 0, 1) := by decide +kernel
theorem dX11_status_85 : decode cX11_status 85 = .ok (.getfield 98, 3) := by decide +kernel
theorem dX11_status_88 : decode cX11_status 88 = .ok (.ireturn, 1) := by decide +kernel
theorem dX11_status_89 : decode cX11_status 89 = .ok (.aload_n 0, 1) := by decide +kernel
theorem dX11_status_90 : decode cX11_status 90 = .ok (.iload_n 1, 1) := by decide +kernel
theorem dX11_status_91 : decode cX11_status 91 = .ok (.invokevirtual 421, 3) := by decide +kernel
theorem dX11_status_94 : decode cX11_status 94 = .ok (.ireturn, 1) := by decide +kernel
theorem dX11_status_95 : decode cX11_status 95 = .ok (.aload_n 0, 1) := by decide +kernel
theorem dX11_status_96 : decode cX11_status 96 = .ok (.invokevirtual 424, 3) := by decide +kernel
theorem dX11_status_99 : decode cX11_status 99 = .ok (.ireturn, 1) := by decide +kernel
theorem dX11_status_100 : decode cX11_status 100 = .ok (.iload_n 1, 1) := by decide +kernel
theorem dX11_status_101 : decode cX11_status 101 = .ok (.bipush 10, 2) := by decide +kernel
theorem dX11_status_103 : decode cX11_status 103 = .ok (.if_icmp .le 27, 3) := by decide +kernel
theorem dX11_status_106 : decode cX11_status 106 = .ok (.iload_n 1, 1) := by decide +kernel
theorem dX11_status_107 : decode cX11_status 107 = .ok (.bipush 11, 2) := by decide +kernel
theorem dX11_status_109 : decode cX11_status 109 = .ok (.isub, 1) := by decide +kernel
theorem dX11_status_110 : decode cX11_status 110 = .ok (.aload_n 0, 1) := by decide +kernel
theorem dX11_status_111 : decode cX11_status 111 = .ok (.getfield 82, 3) := by decide +kernel
theorem dX11_status_114 : decode cX11_status 114 = .ok (.arraylength, 1) := by decide +kernel
theorem dX11_status_115 : decode cX11_status 115 = .ok (.if_icmp .ge 15, 3) := by decide +kernel
theorem dX11_status_118 : decode cX11_status 118 = .ok (.aload_n 0, 1) := by decide +kernel
theorem dX11_status_119 : decode cX11_status 119 = .ok (.getfield 82, 3) := by decide +kernel
theorem dX11_status_122 : decode cX11_status 122 = .ok (.iload_n 1, 1) := by decide +kernel
theorem dX11_status_123 : decode cX11_status 123 = .ok (.bipush 11, 2) := by decide +kernel
theorem dX11_status_125 : decode cX11_status 125 = .ok (.isub, 1) := by decide +kernel
theorem dX11_status_126 : decode cX11_status 126 = .ok (.iaload, 1) := by decide +kernel
theorem dX11_status_127 : decode cX11_status 127 = .ok (.goto 4, 3) := by decide +kernel
theorem dX11_status_130 : decode cX11_status 130 = .ok (.iconst (-1), 1) := by decide +kernel
theorem dX11_status_131 : decode cX11_status 131 = .ok (.ireturn, 1) := by decide +kernel
theorem dX11_refused_0 : decode cX11_refused 0 = .ok (.iload_n 1, 1) := by decide +kernel
theorem dX11_refused_1 : decode cX11_refused 1 = .ok (.bipush (-7), 2) := by decide +kernel
theorem dX11_refused_3 : decode cX11_refused 3 = .ok (.if_icmp .lt 21, 3) := by decide +kernel
theorem dX11_refused_6 : decode cX11_refused 6 = .ok (.iload_n 1, 1) := by decide +kernel
theorem dX11_refused_7 : decode cX11_refused 7 = .ok (.iconst (-1), 1) := by decide +kernel
theorem dX11_refused_8 : decode cX11_refused 8 = .ok (.if_icmp .gt 16, 3) := by decide +kernel
theorem dX11_refused_11 : decode cX11_refused 11 = .ok (.aload_n 0, 1) := by decide +kernel
theorem dX11_refused_12 : decode cX11_refused 12 = .ok (.getfield 82, 3) := by decide +kernel
theorem dX11_refused_15 : decode cX11_refused 15 = .ok (.iload_n 1, 1) := by decide +kernel
theorem dX11_refused_16 : decode cX11_refused 16 = .ok (.ineg, 1) := by decide +kernel
theorem dX11_refused_17 : decode cX11_refused 17 = .ok (.iconst 1, 1) := by decide +kernel
theorem dX11_refused_18 : decode cX11_refused 18 = .ok (.isub, 1) := by decide +kernel
theorem dX11_refused_19 : decode cX11_refused 19 = .ok (.dup2, 1) := by decide +kernel
theorem dX11_refused_20 : decode cX11_refused 20 = .ok (.iaload, 1) := by decide +kernel
theorem dX11_refused_21 : decode cX11_refused 21 = .ok (.iconst 1, 1) := by decide +kernel
theorem dX11_refused_22 : decode cX11_refused 22 = .ok (.iadd, 1) := by decide +kernel
theorem dX11_refused_23 : decode cX11_refused 23 = .ok (.iastore, 1) := by decide +kernel
theorem dX11_refused_24 : decode cX11_refused 24 = .ok (.iload_n 1, 1) := by decide +kernel
theorem dX11_refused_25 : decode cX11_refused 25 = .ok (.ireturn, 1) := by decide +kernel
theorem dX11_shelfAt_0 : decode cX11_shelfAt 0 = .ok (.iload_n 1, 1) := by decide +kernel
theorem dX11_shelfAt_1 : decode cX11_shelfAt 1 = .ok (.ifCond .lt 9, 3) := by decide +kernel
theorem dX11_shelfAt_4 : decode cX11_shelfAt 4 = .ok (.iload_n 1, 1) := by decide +kernel
theorem dX11_shelfAt_5 : decode cX11_shelfAt 5 = .ok (.bipush 8, 2) := by decide +kernel
theorem dX11_shelfAt_7 : decode cX11_shelfAt 7 = .ok (.if_icmp .lt 7, 3) := by decide +kernel
theorem dX11_shelfAt_10 : decode cX11_shelfAt 10 = .ok (.aconst_null, 1) := by decide +kernel
theorem dX11_shelfAt_11 : decode cX11_shelfAt 11 = .ok (.goto 9, 3) := by decide +kernel
theorem dX11_shelfAt_14 : decode cX11_shelfAt 14 = .ok (.aload_n 0, 1) := by decide +kernel
theorem dX11_shelfAt_15 : decode cX11_shelfAt 15 = .ok (.getfield 11, 3) := by decide +kernel
theorem dX11_shelfAt_18 : decode cX11_shelfAt 18 = .ok (.iload_n 1, 1) := by decide +kernel
theorem dX11_shelfAt_19 : decode cX11_shelfAt 19 = .ok (.aaload, 1) := by decide +kernel
theorem dX11_shelfAt_20 : decode cX11_shelfAt 20 = .ok (.areturn, 1) := by decide +kernel
theorem dX11_personAt_0 : decode cX11_personAt 0 = .ok (.iload_n 1, 1) := by decide +kernel
theorem dX11_personAt_1 : decode cX11_personAt 1 = .ok (.ifCond .lt 11, 3) := by decide +kernel
theorem dX11_personAt_4 : decode cX11_personAt 4 = .ok (.iload_n 1, 1) := by decide +kernel
theorem dX11_personAt_5 : decode cX11_personAt 5 = .ok (.aload_n 0, 1) := by decide +kernel
theorem dX11_personAt_6 : decode cX11_personAt 6 = .ok (.getfield 85, 3) := by decide +kernel
theorem dX11_personAt_9 : decode cX11_personAt 9 = .ok (.if_icmp .lt 7, 3) := by decide +kernel
theorem dX11_personAt_12 : decode cX11_personAt 12 = .ok (.aconst_null, 1) := by decide +kernel
theorem dX11_personAt_13 : decode cX11_personAt 13 = .ok (.goto 9, 3) := by decide +kernel
theorem dX11_personAt_16 : decode cX11_personAt 16 = .ok (.aload_n 0, 1) := by decide +kernel
theorem dX11_personAt_17 : decode cX11_personAt 17 = .ok (.getfield 17, 3) := by decide +kernel
theorem dX11_personAt_20 : decode cX11_personAt 20 = .ok (.iload_n 1, 1) := by decide +kernel
theorem dX11_personAt_21 : decode cX11_personAt 21 = .ok (.aaload, 1) := by decide +kernel
theorem dX11_personAt_22 : decode cX11_personAt 22 = .ok (.areturn, 1) := by decide +kernel
theorem dX11_pictureAt_0 : decode cX11_pictureAt 0 = .ok (.iload_n 1, 1) := by decide +kernel
theorem dX11_pictureAt_1 : decode cX11_pictureAt 1 = .ok (.ifCond .lt 11, 3) := by decide +kernel
theorem dX11_pictureAt_4 : decode cX11_pictureAt 4 = .ok (.iload_n 1, 1) := by decide +kernel
theorem dX11_pictureAt_5 : decode cX11_pictureAt 5 = .ok (.aload_n 0, 1) := by decide +kernel
theorem dX11_pictureAt_6 : decode cX11_pictureAt 6 = .ok (.getfield 89, 3) := by decide +kernel
theorem dX11_pictureAt_9 : decode cX11_pictureAt 9 = .ok (.if_icmp .lt 7, 3) := by decide +kernel
theorem dX11_pictureAt_12 : decode cX11_pictureAt 12 = .ok (.aconst_null, 1) := by decide +kernel
theorem dX11_pictureAt_13 : decode cX11_pictureAt 13 = .ok (.goto 9, 3) := by decide +kernel
theorem dX11_pictureAt_16 : decode cX11_pictureAt 16 = .ok (.aload_n 0, 1) := by decide +kernel
theorem dX11_pictureAt_17 : decode cX11_pictureAt 17 = .ok (.getfield 23, 3) := by decide +kernel
theorem dX11_pictureAt_20 : decode cX11_pictureAt 20 = .ok (.iload_n 1, 1) := by decide +kernel
theorem dX11_pictureAt_21 : decode cX11_pictureAt 21 = .ok (.aaload, 1) := by decide +kernel
theorem dX11_pictureAt_22 : decode cX11_pictureAt 22 = .ok (.areturn, 1) := by decide +kernel
theorem dX11_sceneAt_0 : decode cX11_sceneAt 0 = .ok (.aload_n 0, 1) := by decide +kernel
theorem dX11_sceneAt_1 : decode cX11_sceneAt 1 = .ok (.iload_n 1, 1) := by decide +kernel
theorem dX11_sceneAt_2 : decode cX11_sceneAt 2 = .ok (.invokevirtual 164, 3) := by decide +kernel
theorem dX11_sceneAt_5 : decode cX11_sceneAt 5 = .ok (.astore_n 3, 1) := by decide +kernel
theorem dX11_sceneAt_6 : decode cX11_sceneAt 6 = .ok (.aload_n 3, 1) := by decide +kernel
theorem dX11_sceneAt_7 : decode cX11_sceneAt 7 = .ok (.ifnull 15, 3) := by decide +kernel
theorem dX11_sceneAt_10 : decode cX11_sceneAt 10 = .ok (.iload_n 2, 1) := by decide +kernel
theorem dX11_sceneAt_11 : decode cX11_sceneAt 11 = .ok (.ifCond .lt 11, 3) := by decide +kernel
theorem dX11_sceneAt_14 : decode cX11_sceneAt 14 = .ok (.iload_n 2, 1) := by decide +kernel
theorem dX11_sceneAt_15 : decode cX11_sceneAt 15 = .ok (.aload_n 3, 1) := by decide +kernel
theorem dX11_sceneAt_16 : decode cX11_sceneAt 16 = .ok (.getfield 238, 3) := by decide +kernel
theorem dX11_sceneAt_19 : decode cX11_sceneAt 19 = .ok (.if_icmp .lt 7, 3) := by decide +kernel
theorem dX11_sceneAt_22 : decode cX11_sceneAt 22 = .ok (.aconst_null, 1) := by decide +kernel
theorem dX11_sceneAt_23 : decode cX11_sceneAt 23 = .ok (.goto 9, 3) := by decide +kernel
theorem dX11_sceneAt_26 : decode cX11_sceneAt 26 = .ok (.aload_n 3, 1) := by decide +kernel
theorem dX11_sceneAt_27 : decode cX11_sceneAt 27 = .ok (.getfield 244, 3) := by decide +kernel
theorem dX11_sceneAt_30 : decode cX11_sceneAt 30 = .ok (.iload_n 2, 1) := by decide +kernel
theorem dX11_sceneAt_31 : decode cX11_sceneAt 31 = .ok (.aaload, 1) := by decide +kernel
theorem dX11_sceneAt_32 : decode cX11_sceneAt 32 = .ok (.areturn, 1) := by decide +kernel
theorem dX11_hallAt_0 : decode cX11_hallAt 0 = .ok (.iload_n 1, 1) := by decide +kernel
theorem dX11_hallAt_1 : decode cX11_hallAt 1 = .ok (.ifCond .lt 11, 3) := by decide +kernel
theorem dX11_hallAt_4 : decode cX11_hallAt 4 = .ok (.iload_n 1, 1) := by decide +kernel
theorem dX11_hallAt_5 : decode cX11_hallAt 5 = .ok (.aload_n 0, 1) := by decide +kernel
theorem dX11_hallAt_6 : decode cX11_hallAt 6 = .ok (.getfield 92, 3) := by decide +kernel
theorem dX11_hallAt_9 : decode cX11_hallAt 9 = .ok (.if_icmp .lt 7, 3) := by decide +kernel
theorem dX11_hallAt_12 : decode cX11_hallAt 12 = .ok (.aconst_null, 1) := by decide +kernel
theorem dX11_hallAt_13 : decode cX11_hallAt 13 = .ok (.goto 9, 3) := by decide +kernel
theorem dX11_hallAt_16 : decode cX11_hallAt 16 = .ok (.aload_n 0, 1) := by decide +kernel
theorem dX11_hallAt_17 : decode cX11_hallAt 17 = .ok (.getfield 29, 3) := by decide +kernel
theorem dX11_hallAt_20 : decode cX11_hallAt 20 = .ok (.iload_n 1, 1) := by decide +kernel
theorem dX11_hallAt_21 : decode cX11_hallAt 21 = .ok (.aaload, 1) := by decide +kernel
theorem dX11_hallAt_22 : decode cX11_hallAt 22 = .ok (.areturn, 1) := by decide +kernel
theorem dX11_rowLack_0 : decode cX11_rowLack 0 = .ok (.aload_n 0, 1) := by decide +kernel
theorem dX11_rowLack_1 : decode cX11_rowLack 1 = .ok (.iload_n 1, 1) := by decide +kernel
theorem dX11_rowLack_2 : decode cX11_rowLack 2 = .ok (.invokevirtual 115, 3) := by decide +kernel
theorem dX11_rowLack_5 : decode cX11_rowLack 5 = .ok (.astore_n 2, 1) := by decide +kernel
theorem dX11_rowLack_6 : decode cX11_rowLack 6 = .ok (.aload_n 2, 1) := by decide +kernel
theorem dX11_rowLack_7 : decode cX11_rowLack 7 = .ok (.ifnonnull 7, 3) := by decide +kernel
theorem dX11_rowLack_10 : decode cX11_rowLack 10 = .ok (.iconst (-1), 1) := by decide +kernel
theorem dX11_rowLack_11 : decode cX11_rowLack 11 = .ok (.goto 7, 3) := by decide +kernel
theorem dX11_rowLack_14 : decode cX11_rowLack 14 = .ok (.aload_n 2, 1) := by decide +kernel
theorem dX11_rowLack_15 : decode cX11_rowLack 15 = .ok (.invokevirtual 137, 3) := by decide +kernel
theorem dX11_rowLack_18 : decode cX11_rowLack 18 = .ok (.ireturn, 1) := by decide +kernel
theorem dX11_orderLack_0 : decode cX11_orderLack 0 = .ok (.aload_n 0, 1) := by decide +kernel
theorem dX11_orderLack_1 : decode cX11_orderLack 1 = .ok (.iload_n 1, 1) := by decide +kernel
theorem dX11_orderLack_2 : decode cX11_orderLack 2 = .ok (.invokevirtual 164, 3) := by decide +kernel
theorem dX11_orderLack_5 : decode cX11_orderLack 5 = .ok (.astore_n 3, 1) := by decide +kernel
theorem dX11_orderLack_6 : decode cX11_orderLack 6 = .ok (.aload_n 3, 1) := by decide +kernel
theorem dX11_orderLack_7 : decode cX11_orderLack 7 = .ok (.ifnonnull 5, 3) := by decide +kernel
theorem dX11_orderLack_10 : decode cX11_orderLack 10 = .ok (.iconst (-1), 1) := by decide +kernel
theorem dX11_orderLack_11 : decode cX11_orderLack 11 = .ok (.ireturn, 1) := by decide +kernel
theorem dX11_orderLack_12 : decode cX11_orderLack 12 = .ok (.aload_n 0, 1) := by decide +kernel
theorem dX11_orderLack_13 : decode cX11_orderLack 13 = .ok (.iload_n 2, 1) := by decide +kernel
theorem dX11_orderLack_14 : decode cX11_orderLack 14 = .ok (.invokevirtual 123, 3) := by decide +kernel
theorem dX11_orderLack_17 : decode cX11_orderLack 17 = .ok (.istore 4, 2) := by decide +kernel
theorem dX11_orderLack_19 : decode cX11_orderLack 19 = .ok (.iload 4, 2) := by decide +kernel
theorem dX11_orderLack_21 : decode cX11_orderLack 21 = .ok (.ifCond .eq 6, 3) := by decide +kernel
theorem dX11_orderLack_24 : decode cX11_orderLack 24 = .ok (.iload 4, 2) := by decide +kernel
theorem dX11_orderLack_26 : decode cX11_orderLack 26 = .ok (.ireturn, 1) := by decide +kernel
theorem dX11_orderLack_27 : decode cX11_orderLack 27 = .ok (.aload_n 0, 1) := by decide +kernel
theorem dX11_orderLack_28 : decode cX11_orderLack 28 = .ok (.getfield 50, 3) := by decide +kernel
theorem dX11_orderLack_31 : decode cX11_orderLack 31 = .ok (.aload_n 3, 1) := by decide +kernel
theorem dX11_orderLack_32 : decode cX11_orderLack 32 = .ok (.aload_n 0, 1) := by decide +kernel
theorem dX11_orderLack_33 : decode cX11_orderLack 33 = .ok (.getfield 11, 3) := by decide +kernel
theorem dX11_orderLack_36 : decode cX11_orderLack 36 = .ok (.iload_n 2, 1) := by decide +kernel
theorem dX11_orderLack_37 : decode cX11_orderLack 37 = .ok (.aaload, 1) := by decide +kernel
theorem dX11_orderLack_38 : decode cX11_orderLack 38 = .ok (.invokevirtual 427, 3) := by decide +kernel
theorem dX11_orderLack_41 : decode cX11_orderLack 41 = .ok (.ifCond .eq 7, 3) := by decide +kernel
theorem dX11_orderLack_44 : decode cX11_orderLack 44 = .ok (.iconst 0, 1) := by decide +kernel
theorem dX11_orderLack_45 : decode cX11_orderLack 45 = .ok (.goto 5, 3) := by decide +kernel
theorem dX11_orderLack_48 : decode cX11_orderLack 48 = .ok (.bipush (-6), 2) := by decide +kernel
theorem dX11_orderLack_50 : decode cX11_orderLack 50 = .ok (.ireturn, 1) := by decide +kernel
theorem dX11_hasBitBeyond_0 : decode cX11_hasBitBeyond 0 = .ok (.iload_n 0, 1) := by decide +kernel
theorem dX11_hasBitBeyond_1 : decode cX11_hasBitBeyond 1 = .ok (.iload_n 1, 1) := by decide +kernel
theorem dX11_hasBitBeyond_2 : decode cX11_hasBitBeyond 2 = .ok (.iushr, 1) := by decide +kernel
theorem dX11_hasBitBeyond_3 : decode cX11_hasBitBeyond 3 = .ok (.ifCond .eq 7, 3) := by decide +kernel
theorem dX11_hasBitBeyond_6 : decode cX11_hasBitBeyond 6 = .ok (.iconst 1, 1) := by decide +kernel
theorem dX11_hasBitBeyond_7 : decode cX11_hasBitBeyond 7 = .ok (.goto 4, 3) := by decide +kernel
theorem dX11_hasBitBeyond_10 : decode cX11_hasBitBeyond 10 = .ok (.iconst 0, 1) := by decide +kernel
theorem dX11_hasBitBeyond_11 : decode cX11_hasBitBeyond 11 = .ok (.ireturn, 1) := by decide +kernel
theorem dX11_isHallWeek_0 : decode cX11_isHallWeek 0 = .ok (.iload_n 0, 1) := by decide +kernel
theorem dX11_isHallWeek_1 : decode cX11_isHallWeek 1 = .ok (.ifCond .lt 13, 3) := by decide +kernel
theorem dX11_isHallWeek_4 : decode cX11_isHallWeek 4 = .ok (.iload_n 0, 1) := by decide +kernel
theorem dX11_isHallWeek_5 : decode cX11_isHallWeek 5 = .ok (.bipush 40, 2) := by decide +kernel
theorem dX11_isHallWeek_7 : decode cX11_isHallWeek 7 = .ok (.if_icmp .ge 7, 3) := by decide +kernel
theorem dX11_isHallWeek_10 : decode cX11_isHallWeek 10 = .ok (.iconst 1, 1) := by decide +kernel
theorem dX11_isHallWeek_11 : decode cX11_isHallWeek 11 = .ok (.goto 4, 3) := by decide +kernel
theorem dX11_isHallWeek_14 : decode cX11_isHallWeek 14 = .ok (.iconst 0, 1) := by decide +kernel
theorem dX11_isHallWeek_15 : decode cX11_isHallWeek 15 = .ok (.ireturn, 1) := by decide +kernel
theorem dX11_isKind_0 : decode cX11_isKind 0 = .ok (.iload_n 0, 1) := by decide +kernel
theorem dX11_isKind_1 : decode cX11_isKind 1 = .ok (.ifCond .lt 15, 3) := by decide +kernel
theorem dX11_isKind_4 : decode cX11_isKind 4 = .ok (.iload_n 0, 1) := by decide +kernel
theorem dX11_isKind_5 : decode cX11_isKind 5 = .ok (.getstatic 431, 3) := by decide +kernel
theorem dX11_isKind_8 : decode cX11_isKind 8 = .ok (.arraylength, 1) := by decide +kernel
theorem dX11_isKind_9 : decode cX11_isKind 9 = .ok (.if_icmp .ge 7, 3) := by decide +kernel
theorem dX11_isKind_12 : decode cX11_isKind 12 = .ok (.iconst 1, 1) := by decide +kernel
theorem dX11_isKind_13 : decode cX11_isKind 13 = .ok (.goto 4, 3) := by decide +kernel
theorem dX11_isKind_16 : decode cX11_isKind 16 = .ok (.iconst 0, 1) := by decide +kernel
theorem dX11_isKind_17 : decode cX11_isKind 17 = .ok (.ireturn, 1) := by decide +kernel
theorem dX11_isUnderKind_0 : decode cX11_isUnderKind 0 = .ok (.iload_n 0, 1) := by decide +kernel
theorem dX11_isUnderKind_1 : decode cX11_isUnderKind 1 = .ok (.istore_n 2, 1) := by decide +kernel
theorem dX11_isUnderKind_2 : decode cX11_isUnderKind 2 = .ok (.iconst 0, 1) := by decide +kernel
theorem dX11_isUnderKind_3 : decode cX11_isUnderKind 3 = .ok (.istore_n 3, 1) := by decide +kernel
theorem dX11_isUnderKind_4 : decode cX11_isUnderKind 4 = .ok (.iload_n 3, 1) := by decide +kernel
theorem dX11_isUnderKind_5 : decode cX11_isUnderKind 5 = .ok (.getstatic 431, 3) := by decide +kernel
theorem dX11_isUnderKind_8 : decode cX11_isUnderKind 8 = .ok (.arraylength, 1) := by decide +kernel
theorem dX11_isUnderKind_9 : decode cX11_isUnderKind 9 = .ok (.if_icmp .ge 29, 3) := by decide +kernel
theorem dX11_isUnderKind_12 : decode cX11_isUnderKind 12 = .ok (.iload_n 2, 1) := by decide +kernel
theorem dX11_isUnderKind_13 : decode cX11_isUnderKind 13 = .ok (.invokestatic 160, 3) := by decide +kernel
theorem dX11_isUnderKind_16 : decode cX11_isUnderKind 16 = .ok (.ifCond .eq 22, 3) := by decide +kernel
theorem dX11_isUnderKind_19 : decode cX11_isUnderKind 19 = .ok (.iload_n 2, 1) := by decide +kernel
theorem dX11_isUnderKind_20 : decode cX11_isUnderKind 20 = .ok (.iload_n 1, 1) := by decide +kernel
theorem dX11_isUnderKind_21 : decode cX11_isUnderKind 21 = .ok (.if_icmp .ne 5, 3) := by decide +kernel
theorem dX11_isUnderKind_24 : decode cX11_isUnderKind 24 = .ok (.iconst 1, 1) := by decide +kernel
theorem dX11_isUnderKind_25 : decode cX11_isUnderKind 25 = .ok (.ireturn, 1) := by decide +kernel
theorem dX11_isUnderKind_26 : decode cX11_isUnderKind 26 = .ok (.getstatic 431, 3) := by decide +kernel
theorem dX11_isUnderKind_29 : decode cX11_isUnderKind 29 = .ok (.iload_n 2, 1) := by decide +kernel
theorem dX11_isUnderKind_30 : decode cX11_isUnderKind 30 = .ok (.iaload, 1) := by decide +kernel
theorem dX11_isUnderKind_31 : decode cX11_isUnderKind 31 = .ok (.istore_n 2, 1) := by decide +kernel
theorem dX11_isUnderKind_32 : decode cX11_isUnderKind 32 = .ok (.iinc 3 1, 3) := by decide +kernel
theorem dX11_isUnderKind_35 : decode cX11_isUnderKind 35 = .ok (.goto (-31), 3) := by decide +kernel
theorem dX11_isUnderKind_38 : decode cX11_isUnderKind 38 = .ok (.iconst 0, 1) := by decide +kernel
theorem dX11_isUnderKind_39 : decode cX11_isUnderKind 39 = .ok (.ireturn, 1) := by decide +kernel
theorem dX11_commonDivisor_0 : decode cX11_commonDivisor 0 = .ok (.lload_n 0, 1) := by decide +kernel
theorem dX11_commonDivisor_1 : decode cX11_commonDivisor 1 = .ok (.lstore 4, 2) := by decide +kernel
theorem dX11_commonDivisor_3 : decode cX11_commonDivisor 3 = .ok (.lload_n 2, 1) := by decide +kernel
theorem dX11_commonDivisor_4 : decode cX11_commonDivisor 4 = .ok (.lstore 6, 2) := by decide +kernel
theorem dX11_commonDivisor_6 : decode cX11_commonDivisor 6 = .ok (.iconst 0, 1) := by decide +kernel
theorem dX11_commonDivisor_7 : decode cX11_commonDivisor 7 = .ok (.istore 8, 2) := by decide +kernel
theorem dX11_commonDivisor_9 : decode cX11_commonDivisor 9 = .ok (.iload 8, 2) := by decide +kernel
theorem dX11_commonDivisor_11 : decode cX11_commonDivisor 11 = .ok (.sipush 200, 3) := by decide +kernel
theorem dX11_commonDivisor_14 : decode cX11_commonDivisor 14 = .ok (.if_icmp .ge 31, 3) := by decide +kernel
theorem dX11_commonDivisor_17 : decode cX11_commonDivisor 17 = .ok (.lload 6, 2) := by decide +kernel
theorem dX11_commonDivisor_19 : decode cX11_commonDivisor 19 = .ok (.lconst 0, 1) := by decide +kernel
theorem dX11_commonDivisor_20 : decode cX11_commonDivisor 20 = .ok (.lcmp, 1) := by decide +kernel
theorem dX11_commonDivisor_21 : decode cX11_commonDivisor 21 = .ok (.ifCond .eq 24, 3) := by decide +kernel
theorem dX11_commonDivisor_24 : decode cX11_commonDivisor 24 = .ok (.lload 4, 2) := by decide +kernel
theorem dX11_commonDivisor_26 : decode cX11_commonDivisor 26 = .ok (.lload 6, 2) := by decide +kernel
theorem dX11_commonDivisor_28 : decode cX11_commonDivisor 28 = .ok (.lrem, 1) := by decide +kernel
theorem dX11_commonDivisor_29 : decode cX11_commonDivisor 29 = .ok (.lstore 9, 2) := by decide +kernel
theorem dX11_commonDivisor_31 : decode cX11_commonDivisor 31 = .ok (.lload 6, 2) := by decide +kernel
theorem dX11_commonDivisor_33 : decode cX11_commonDivisor 33 = .ok (.lstore 4, 2) := by decide +kernel
theorem dX11_commonDivisor_35 : decode cX11_commonDivisor 35 = .ok (.lload 9, 2) := by decide +kernel
theorem dX11_commonDivisor_37 : decode cX11_commonDivisor 37 = .ok (.lstore 6, 2) := by decide +kernel
theorem dX11_commonDivisor_39 : decode cX11_commonDivisor 39 = .ok (.iinc 8 1, 3) := by decide +kernel
theorem dX11_commonDivisor_42 : decode cX11_commonDivisor 42 = .ok (.goto (-33), 3) := by decide +kernel
theorem dX11_commonDivisor_45 : decode cX11_commonDivisor 45 = .ok (.lload 4, 2) := by decide +kernel
theorem dX11_commonDivisor_47 : decode cX11_commonDivisor 47 = .ok (.lreturn, 1) := by decide +kernel
theorem dX11_liveDay_0 : decode cX11_liveDay 0 = .ok (.aload_n 0, 1) := by decide +kernel
theorem dX11_liveDay_1 : decode cX11_liveDay 1 = .ok (.invokevirtual 434, 3) := by decide +kernel
theorem dX11_liveDay_4 : decode cX11_liveDay 4 = .ok (.istore_n 1, 1) := by decide +kernel
theorem dX11_liveDay_5 : decode cX11_liveDay 5 = .ok (.iconst 0, 1) := by decide +kernel
theorem dX11_liveDay_6 : decode cX11_liveDay 6 = .ok (.istore_n 2, 1) := by decide +kernel
theorem dX11_liveDay_7 : decode cX11_liveDay 7 = .ok (.iload_n 2, 1) := by decide +kernel
theorem dX11_liveDay_8 : decode cX11_liveDay 8 = .ok (.aload_n 0, 1) := by decide +kernel
theorem dX11_liveDay_9 : decode cX11_liveDay 9 = .ok (.getfield 89, 3) := by decide +kernel
theorem dX11_liveDay_12 : decode cX11_liveDay 12 = .ok (.if_icmp .ge 41, 3) := by decide +kernel
theorem dX11_liveDay_15 : decode cX11_liveDay 15 = .ok (.aload_n 0, 1) := by decide +kernel
theorem dX11_liveDay_16 : decode cX11_liveDay 16 = .ok (.getfield 23, 3) := by decide +kernel
theorem dX11_liveDay_19 : decode cX11_liveDay 19 = .ok (.iload_n 2, 1) := by decide +kernel
theorem dX11_liveDay_20 : decode cX11_liveDay 20 = .ok (.aaload, 1) := by decide +kernel
theorem dX11_liveDay_21 : decode cX11_liveDay 21 = .ok (.astore_n 3, 1) := by decide +kernel
theorem dX11_liveDay_22 : decode cX11_liveDay 22 = .ok (.aload_n 3, 1) := by decide +kernel
theorem dX11_liveDay_23 : decode cX11_liveDay 23 = .ok (.getfield 235, 3) := by decide +kernel
theorem dX11_liveDay_26 : decode cX11_liveDay 26 = .ok (.ifCond .eq 21, 3) := by decide +kernel
theorem dX11_liveDay_29 : decode cX11_liveDay 29 = .ok (.aload_n 3, 1) := by decide +kernel
theorem dX11_liveDay_30 : decode cX11_liveDay 30 = .ok (.invokevirtual 309, 3) := by decide +kernel
theorem dX11_liveDay_33 : decode cX11_liveDay 33 = .ok (.ifCond .le 14, 3) := by decide +kernel
theorem dX11_liveDay_36 : decode cX11_liveDay 36 = .ok (.iload_n 1, 1) := by decide +kernel
theorem dX11_liveDay_37 : decode cX11_liveDay 37 = .ok (.aload_n 0, 1) := by decide +kernel
theorem dX11_liveDay_38 : decode cX11_liveDay 38 = .ok (.aload_n 3, 1) := by decide +kernel
theorem dX11_liveDay_39 : decode cX11_liveDay 39 = .ok (.iload_n 1, 1) := by decide +kernel
theorem dX11_liveDay_40 : decode cX11_liveDay 40 = .ok (.invokevirtual 437, 3) := by decide +kernel
theorem dX11_liveDay_43 : decode cX11_liveDay 43 = .ok (.iconst (-1), 1) := by decide +kernel
theorem dX11_liveDay_44 : decode cX11_liveDay 44 = .ok (.ixor, 1) := by decide +kernel
theorem dX11_liveDay_45 : decode cX11_liveDay 45 = .ok (.iand, 1) := by decide +kernel
theorem dX11_liveDay_46 : decode cX11_liveDay 46 = .ok (.istore_n 1, 1) := by decide +kernel
theorem dX11_liveDay_47 : decode cX11_liveDay 47 = .ok (.iinc 2 1, 3) := by decide +kernel
theorem dX11_liveDay_50 : decode cX11_liveDay 50 = .ok (.goto (-43), 3) := by decide +kernel
theorem dX11_liveDay_53 : decode cX11_liveDay 53 = .ok (.aload_n 0, 1) := by decide +kernel
theorem dX11_liveDay_54 : decode cX11_liveDay 54 = .ok (.invokevirtual 440, 3) := by decide +kernel
theorem dX11_liveDay_57 : decode cX11_liveDay 57 = .ok (.aload_n 0, 1) := by decide +kernel
theorem dX11_liveDay_58 : decode cX11_liveDay 58 = .ok (.getfield 95, 3) := by decide +kernel
theorem dX11_liveDay_61 : decode cX11_liveDay 61 = .ok (.bipush 7, 2) := by decide +kernel
theorem dX11_liveDay_63 : decode cX11_liveDay 63 = .ok (.irem, 1) := by decide +kernel
theorem dX11_liveDay_64 : decode cX11_liveDay 64 = .ok (.bipush 6, 2) := by decide +kernel
theorem dX11_liveDay_66 : decode cX11_liveDay 66 = .ok (.if_icmp .ne 7, 3) := by decide +kernel
theorem dX11_liveDay_69 : decode cX11_liveDay 69 = .ok (.aload_n 0, 1) := by decide +kernel
theorem dX11_liveDay_70 : decode cX11_liveDay 70 = .ok (.invokevirtual 443, 3) := by decide +kernel
theorem dX11_liveDay_73 : decode cX11_liveDay 73 = .ok (.aload_n 0, 1) := by decide +kernel
theorem dX11_liveDay_74 : decode cX11_liveDay 74 = .ok (.dup, 1) := by decide +kernel
theorem dX11_liveDay_75 : decode cX11_liveDay 75 = .ok (.getfield 95, 3) := by decide +kernel
theorem dX11_liveDay_78 : decode cX11_liveDay 78 = .ok (.iconst 1, 1) := by decide +kernel
theorem dX11_liveDay_79 : decode cX11_liveDay 79 = .ok (.iadd, 1) := by decide +kernel
theorem dX11_liveDay_80 : decode cX11_liveDay 80 = .ok (.putfield 95, 3) := by decide +kernel
theorem dX11_liveDay_83 : decode cX11_liveDay 83 = .ok (.iconst 0, 1) := by decide +kernel
theorem dX11_liveDay_84 : decode cX11_liveDay 84 = .ok (.istore_n 2, 1) := by decide +kernel
theorem dX11_liveDay_85 : decode cX11_liveDay 85 = .ok (.iload_n 2, 1) := by decide +kernel
theorem dX11_liveDay_86 : decode cX11_liveDay 86 = .ok (.aload_n 0, 1) := by decide +kernel
theorem dX11_liveDay_87 : decode cX11_liveDay 87 = .ok (.getfield 85, 3) := by decide +kernel
theorem dX11_liveDay_90 : decode cX11_liveDay 90 = .ok (.if_icmp .ge 22, 3) := by decide +kernel
theorem dX11_liveDay_93 : decode cX11_liveDay 93 = .ok (.aload_n 0, 1) := by decide +kernel
theorem dX11_liveDay_94 : decode cX11_liveDay 94 = .ok (.getfield 17, 3) := by decide +kernel
theorem dX11_liveDay_97 : decode cX11_liveDay 97 = .ok (.iload_n 2, 1) := by decide +kernel
theorem dX11_liveDay_98 : decode cX11_liveDay 98 = .ok (.aaload, 1) := by decide +kernel
theorem dX11_liveDay_99 : decode cX11_liveDay 99 = .ok (.aload_n 0, 1) := by decide +kernel
theorem dX11_liveDay_100 : decode cX11_liveDay 100 = .ok (.getfield 95, 3) := by decide +kernel
theorem dX11_liveDay_103 : decode cX11_liveDay 103 = .ok (.invokevirtual 446, 3) := by decide +kernel
theorem dX11_liveDay_106 : decode cX11_liveDay 106 = .ok (.iinc 2 1, 3) := by decide +kernel
theorem dX11_liveDay_109 : decode cX11_liveDay 109 = .ok (.goto (-24), 3) := by decide +kernel
theorem dX11_liveDay_112 : decode cX11_liveDay 112 = .ok (.return_, 1) := by decide +kernel
theorem dX11_readyPeople_0 : decode cX11_readyPeople 0 = .ok (.iconst 0, 1) := by decide +kernel
theorem dX11_readyPeople_1 : decode cX11_readyPeople 1 = .ok (.istore_n 1, 1) := by decide +kernel
theorem dX11_readyPeople_2 : decode cX11_readyPeople 2 = .ok (.iconst 0, 1) := by decide +kernel
theorem dX11_readyPeople_3 : decode cX11_readyPeople 3 = .ok (.istore_n 2, 1) := by decide +kernel
theorem dX11_readyPeople_4 : decode cX11_readyPeople 4 = .ok (.iload_n 2, 1) := by decide +kernel
theorem dX11_readyPeople_5 : decode cX11_readyPeople 5 = .ok (.aload_n 0, 1) := by decide +kernel
theorem dX11_readyPeople_6 : decode cX11_readyPeople 6 = .ok (.getfield 85, 3) := by decide +kernel
theorem dX11_readyPeople_9 : decode cX11_readyPeople 9 = .ok (.if_icmp .ge 31, 3) := by decide +kernel
theorem dX11_readyPeople_12 : decode cX11_readyPeople 12 = .ok (.aload_n 0, 1) := by decide +kernel
theorem dX11_readyPeople_13 : decode cX11_readyPeople 13 = .ok (.getfield 17, 3) := by decide +kernel
theorem dX11_readyPeople_16 : decode cX11_readyPeople 16 = .ok (.iload_n 2, 1) := by decide +kernel
theorem dX11_readyPeople_17 : decode cX11_readyPeople 17 = .ok (.aaload, 1) := by decide +kernel
theorem dX11_readyPeople_18 : decode cX11_readyPeople 18 = .ok (.aload_n 0, 1) := by decide +kernel
theorem dX11_readyPeople_19 : decode cX11_readyPeople 19 = .ok (.getfield 95, 3) := by decide +kernel
theorem dX11_readyPeople_22 : decode cX11_readyPeople 22 = .ok (.invokevirtual 306, 3) := by decide +kernel
theorem dX11_readyPeople_25 : decode cX11_readyPeople 25 = .ok (.ifCond .eq 9, 3) := by decide +kernel
theorem dX11_readyPeople_28 : decode cX11_readyPeople 28 = .ok (.iload_n 1, 1) := by decide +kernel
theorem dX11_readyPeople_29 : decode cX11_readyPeople 29 = .ok (.iconst 1, 1) := by decide +kernel
theorem dX11_readyPeople_30 : decode cX11_readyPeople 30 = .ok (.iload_n 2, 1) := by decide +kernel
theorem dX11_readyPeople_31 : decode cX11_readyPeople 31 = .ok (.ishl, 1) := by decide +kernel
theorem dX11_readyPeople_32 : decode cX11_readyPeople 32 = .ok (.ior, 1) := by decide +kernel
theorem dX11_readyPeople_33 : decode cX11_readyPeople 33 = .ok (.istore_n 1, 1) := by decide +kernel
theorem dX11_readyPeople_34 : decode cX11_readyPeople 34 = .ok (.iinc 2 1, 3) := by decide +kernel
theorem dX11_readyPeople_37 : decode cX11_readyPeople 37 = .ok (.goto (-33), 3) := by decide +kernel
theorem dX11_readyPeople_40 : decode cX11_readyPeople 40 = .ok (.iload_n 1, 1) := by decide +kernel
theorem dX11_readyPeople_41 : decode cX11_readyPeople 41 = .ok (.ireturn, 1) := by decide +kernel
theorem dX11_shoot_0 : decode cX11_shoot 0 = .ok (.aload_n 1, 1) := by decide +kernel
theorem dX11_shoot_1 : decode cX11_shoot 1 = .ok (.iload_n 2, 1) := by decide +kernel
theorem dX11_shoot_2 : decode cX11_shoot 2 = .ok (.invokevirtual 449, 3) := by decide +kernel
theorem dX11_shoot_5 : decode cX11_shoot 5 = .ok (.istore_n 3, 1) := by decide +kernel
theorem dX11_shoot_6 : decode cX11_shoot 6 = .ok (.iload_n 3, 1) := by decide +kernel
theorem dX11_shoot_7 : decode cX11_shoot 7 = .ok (.iconst (-1), 1) := by decide +kernel
theorem dX11_shoot_8 : decode cX11_shoot 8 = .ok (.if_icmp .ne 15, 3) := by decide +kernel
theorem dX11_shoot_11 : decode cX11_shoot 11 = .ok (.aload_n 1, 1) := by decide +kernel
theorem dX11_shoot_12 : decode cX11_shoot 12 = .ok (.dup, 1) := by decide +kernel
theorem dX11_shoot_13 : decode cX11_shoot 13 = .ok (.getfield 315, 3) := by decide +kernel
theorem dX11_shoot_16 : decode cX11_shoot 16 = .ok (.iconst 1, 1) := by decide +kernel
theorem dX11_shoot_17 : decode cX11_shoot 17 = .ok (.iadd, 1) := by decide +kernel
theorem dX11_shoot_18 : decode cX11_shoot 18 = .ok (.putfield 315, 3) := by decide +kernel
theorem dX11_shoot_21 : decode cX11_shoot 21 = .ok (.iconst 0, 1) := by decide +kernel
theorem dX11_shoot_22 : decode cX11_shoot 22 = .ok (.ireturn, 1) := by decide +kernel
theorem dX11_shoot_23 : decode cX11_shoot 23 = .ok (.aload_n 1, 1) := by decide +kernel
theorem dX11_shoot_24 : decode cX11_shoot 24 = .ok (.getfield 244, 3) := by decide +kernel
theorem dX11_shoot_27 : decode cX11_shoot 27 = .ok (.iload_n 3, 1) := by decide +kernel
theorem dX11_shoot_28 : decode cX11_shoot 28 = .ok (.aaload, 1) := by decide +kernel
theorem dX11_shoot_29 : decode cX11_shoot 29 = .ok (.astore 4, 2) := by decide +kernel
theorem dX11_shoot_31 : decode cX11_shoot 31 = .ok (.aload 4, 2) := by decide +kernel
theorem dX11_shoot_33 : decode cX11_shoot 33 = .ok (.getfield 452, 3) := by decide +kernel
theorem dX11_shoot_36 : decode cX11_shoot 36 = .ok (.aload_n 1, 1) := by decide +kernel
theorem dX11_shoot_37 : decode cX11_shoot 37 = .ok (.getfield 312, 3) := by decide +kernel
theorem dX11_shoot_40 : decode cX11_shoot 40 = .ok (.if_icmp .eq 40, 3) := by decide +kernel
theorem dX11_shoot_43 : decode cX11_shoot 43 = .ok (.aload_n 1, 1) := by decide +kernel
theorem dX11_shoot_44 : decode cX11_shoot 44 = .ok (.aload 4, 2) := by decide +kernel
theorem dX11_shoot_46 : decode cX11_shoot 46 = .ok (.getfield 452, 3) := by decide +kernel
theorem dX11_shoot_49 : decode cX11_shoot 49 = .ok (.putfield 312, 3) := by decide +kernel
theorem dX11_shoot_52 : decode cX11_shoot 52 = .ok (.aload_n 1, 1) := by decide +kernel
theorem dX11_shoot_53 : decode cX11_shoot 53 = .ok (.dup, 1) := by decide +kernel
theorem dX11_shoot_54 : decode cX11_shoot 54 = .ok (.getfield 321, 3) := by decide +kernel
theorem dX11_shoot_57 : decode cX11_shoot 57 = .ok (.iconst 1, 1) := by decide +kernel
theorem dX11_shoot_58 : decode cX11_shoot 58 = .ok (.iadd, 1) := by decide +kernel
theorem dX11_shoot_59 : decode cX11_shoot 59 = .ok (.putfield 321, 3) := by decide +kernel
theorem dX11_shoot_62 : decode cX11_shoot 62 = .ok (.aload_n 0, 1) := by decide +kernel
theorem dX11_shoot_63 : decode cX11_shoot 63 = .ok (.dup, 1) := by decide +kernel
theorem dX11_shoot_64 : decode cX11_shoot 64 = .ok (.getfield 98, 3) := by decide +kernel
theorem dX11_shoot_67 : decode cX11_shoot 67 = .ok (.aload_n 0, 1) := by decide +kernel
theorem dX11_shoot_68 : decode cX11_shoot 68 = .ok (.getfield 50, 3) := by decide +kernel
theorem dX11_shoot_71 : decode cX11_shoot 71 = .ok (.getfield 263, 3) := by decide +kernel
theorem dX11_shoot_74 : decode cX11_shoot 74 = .ok (.isub, 1) := by decide +kernel
theorem dX11_shoot_75 : decode cX11_shoot 75 = .ok (.putfield 98, 3) := by decide +kernel
theorem dX11_shoot_78 : decode cX11_shoot 78 = .ok (.iconst 0, 1) := by decide +kernel
theorem dX11_shoot_79 : decode cX11_shoot 79 = .ok (.ireturn, 1) := by decide +kernel
theorem dX11_shoot_80 : decode cX11_shoot 80 = .ok (.aload 4, 2) := by decide +kernel
theorem dX11_shoot_82 : decode cX11_shoot 82 = .ok (.dup, 1) := by decide +kernel
theorem dX11_shoot_83 : decode cX11_shoot 83 = .ok (.getfield 294, 3) := by decide +kernel
theorem dX11_shoot_86 : decode cX11_shoot 86 = .ok (.iconst 1, 1) := by decide +kernel
theorem dX11_shoot_87 : decode cX11_shoot 87 = .ok (.isub, 1) := by decide +kernel
theorem dX11_shoot_88 : decode cX11_shoot 88 = .ok (.putfield 294, 3) := by decide +kernel
theorem dX11_shoot_91 : decode cX11_shoot 91 = .ok (.aload_n 1, 1) := by decide +kernel
theorem dX11_shoot_92 : decode cX11_shoot 92 = .ok (.dup, 1) := by decide +kernel
theorem dX11_shoot_93 : decode cX11_shoot 93 = .ok (.getfield 318, 3) := by decide +kernel
theorem dX11_shoot_96 : decode cX11_shoot 96 = .ok (.iconst 1, 1) := by decide +kernel
theorem dX11_shoot_97 : decode cX11_shoot 97 = .ok (.iadd, 1) := by decide +kernel
theorem dX11_shoot_98 : decode cX11_shoot 98 = .ok (.putfield 318, 3) := by decide +kernel
theorem dX11_shoot_101 : decode cX11_shoot 101 = .ok (.aload_n 0, 1) := by decide +kernel
theorem dX11_shoot_102 : decode cX11_shoot 102 = .ok (.dup, 1) := by decide +kernel
theorem dX11_shoot_103 : decode cX11_shoot 103 = .ok (.getfield 98, 3) := by decide +kernel
theorem dX11_shoot_106 : decode cX11_shoot 106 = .ok (.aload_n 0, 1) := by decide +kernel
theorem dX11_shoot_107 : decode cX11_shoot 107 = .ok (.getfield 50, 3) := by decide +kernel
theorem dX11_shoot_110 : decode cX11_shoot 110 = .ok (.getfield 260, 3) := by decide +kernel
theorem dX11_shoot_113 : decode cX11_shoot 113 = .ok (.isub, 1) := by decide +kernel
theorem dX11_shoot_114 : decode cX11_shoot 114 = .ok (.putfield 98, 3) := by decide +kernel
theorem dX11_shoot_117 : decode cX11_shoot 117 = .ok (.aload 4, 2) := by decide +kernel
theorem dX11_shoot_119 : decode cX11_shoot 119 = .ok (.getfield 455, 3) := by decide +kernel
theorem dX11_shoot_122 : decode cX11_shoot 122 = .ok (.ireturn, 1) := by decide +kernel
theorem dX11_lengthenSuspended_0 : decode cX11_lengthenSuspended 0 = .ok (.iconst 0, 1) := by decide +kernel
theorem dX11_lengthenSuspended_1 : decode cX11_lengthenSuspended 1 = .ok (.istore_n 1, 1) := by decide +kernel
theorem dX11_lengthenSuspended_2 : decode cX11_lengthenSuspended 2 = .ok (.iload_n 1, 1) := by decide +kernel
theorem dX11_lengthenSuspended_3 : decode cX11_lengthenSuspended 3 = .ok (.aload_n 0, 1) := by decide +kernel
theorem dX11_lengthenSuspended_4 : decode cX11_lengthenSuspended 4 = .ok (.getfield 85, 3) := by decide +kernel
theorem dX11_lengthenSuspended_7 : decode cX11_lengthenSuspended 7 = .ok (.if_icmp .ge 50, 3) := by decide +kernel
theorem dX11_lengthenSuspended_10 : decode cX11_lengthenSuspended 10 = .ok (.aload_n 0, 1) := by decide +kernel
theorem dX11_lengthenSuspended_11 : decode cX11_lengthenSuspended 11 = .ok (.getfield 17, 3) := by decide +kernel
theorem dX11_lengthenSuspended_14 : decode cX11_lengthenSuspended 14 = .ok (.iload_n 1, 1) := by decide +kernel
theorem dX11_lengthenSuspended_15 : decode cX11_lengthenSuspended 15 = .ok (.aaload, 1) := by decide +kernel
theorem dX11_lengthenSuspended_16 : decode cX11_lengthenSuspended 16 = .ok (.astore_n 2, 1) := by decide +kernel
theorem dX11_lengthenSuspended_17 : decode cX11_lengthenSuspended 17 = .ok (.aload_n 2, 1) := by decide +kernel
theorem dX11_lengthenSuspended_18 : decode cX11_lengthenSuspended 18 = .ok (.getfield 223, 3) := by decide +kernel
theorem dX11_lengthenSuspended_21 : decode cX11_lengthenSuspended 21 = .ok (.ifCond .eq 30, 3) := by decide +kernel
theorem dX11_lengthenSuspended_24 : decode cX11_lengthenSuspended 24 = .ok (.aload_n 2, 1) := by decide +kernel
theorem dX11_lengthenSuspended_25 : decode cX11_lengthenSuspended 25 = .ok (.iconst 1, 1) := by decide +kernel
theorem dX11_lengthenSuspended_26 : decode cX11_lengthenSuspended 26 = .ok (.aload_n 0, 1) := by decide +kernel
theorem dX11_lengthenSuspended_27 : decode cX11_lengthenSuspended 27 = .ok (.getfield 95, 3) := by decide +kernel
theorem dX11_lengthenSuspended_30 : decode cX11_lengthenSuspended 30 = .ok (.aload_n 0, 1) := by decide +kernel
theorem dX11_lengthenSuspended_31 : decode cX11_lengthenSuspended 31 = .ok (.getfield 36, 3) := by decide +kernel
theorem dX11_lengthenSuspended_34 : decode cX11_lengthenSuspended 34 = .ok (.invokevirtual 204, 3) := by decide +kernel
theorem dX11_lengthenSuspended_37 : decode cX11_lengthenSuspended 37 = .ok (.iconst 1, 1) := by decide +kernel
theorem dX11_lengthenSuspended_38 : decode cX11_lengthenSuspended 38 = .ok (.if_icmp .ne 13, 3) := by decide +kernel
theorem dX11_lengthenSuspended_41 : decode cX11_lengthenSuspended 41 = .ok (.aload_n 2, 1) := by decide +kernel
theorem dX11_lengthenSuspended_42 : decode cX11_lengthenSuspended 42 = .ok (.dup, 1) := by decide +kernel
theorem dX11_lengthenSuspended_43 : decode cX11_lengthenSuspended 43 = .ok (.getfield 195, 3) := by decide +kernel
theorem dX11_lengthenSuspended_46 : decode cX11_lengthenSuspended 46 = .ok (.iconst 1, 1) := by decide +kernel
theorem dX11_lengthenSuspended_47 : decode cX11_lengthenSuspended 47 = .ok (.iadd, 1) := by decide +kernel
theorem dX11_lengthenSuspended_48 : decode cX11_lengthenSuspended 48 = .ok (.putfield 195, 3) := by decide +kernel
theorem dX11_lengthenSuspended_51 : decode cX11_lengthenSuspended 51 = .ok (.iinc 1 1, 3) := by decide +kernel
theorem dX11_lengthenSuspended_54 : decode cX11_lengthenSuspended 54 = .ok (.goto (-52), 3) := by decide +kernel
theorem dX11_lengthenSuspended_57 : decode cX11_lengthenSuspended 57 = .ok (.return_, 1) := by decide +kernel
theorem dX11_payWeek_0 : decode cX11_payWeek 0 = .ok (.iconst 0, 1) := by decide +kernel
theorem dX11_payWeek_1 : decode cX11_payWeek 1 = .ok (.istore_n 1, 1) := by decide +kernel
theorem dX11_payWeek_2 : decode cX11_payWeek 2 = .ok (.iload_n 1, 1) := by decide +kernel
theorem dX11_payWeek_3 : decode cX11_payWeek 3 = .ok (.aload_n 0, 1) := by decide +kernel
theorem dX11_payWeek_4 : decode cX11_payWeek 4 = .ok (.getfield 85, 3) := by decide +kernel
theorem dX11_payWeek_7 : decode cX11_payWeek 7 = .ok (.if_icmp .ge 72, 3) := by decide +kernel
theorem dX11_payWeek_10 : decode cX11_payWeek 10 = .ok (.aload_n 0, 1) := by decide +kernel
theorem dX11_payWeek_11 : decode cX11_payWeek 11 = .ok (.getfield 17, 3) := by decide +kernel
theorem dX11_payWeek_14 : decode cX11_payWeek 14 = .ok (.iload_n 1, 1) := by decide +kernel
theorem dX11_payWeek_15 : decode cX11_payWeek 15 = .ok (.aaload, 1) := by decide +kernel
theorem dX11_payWeek_16 : decode cX11_payWeek 16 = .ok (.astore_n 2, 1) := by decide +kernel
theorem dX11_payWeek_17 : decode cX11_payWeek 17 = .ok (.aload_n 2, 1) := by decide +kernel
theorem dX11_payWeek_18 : decode cX11_payWeek 18 = .ok (.aload_n 0, 1) := by decide +kernel
theorem dX11_payWeek_19 : decode cX11_payWeek 19 = .ok (.getfield 95, 3) := by decide +kernel
theorem dX11_payWeek_22 : decode cX11_payWeek 22 = .ok (.invokevirtual 214, 3) := by decide +kernel
theorem dX11_payWeek_25 : decode cX11_payWeek 25 = .ok (.ifCond .eq 48, 3) := by decide +kernel
theorem dX11_payWeek_28 : decode cX11_payWeek 28 = .ok (.aload_n 2, 1) := by decide +kernel
theorem dX11_payWeek_29 : decode cX11_payWeek 29 = .ok (.aload_n 0, 1) := by decide +kernel
theorem dX11_payWeek_30 : decode cX11_payWeek 30 = .ok (.getfield 95, 3) := by decide +kernel
theorem dX11_payWeek_33 : decode cX11_payWeek 33 = .ok (.invokevirtual 458, 3) := by decide +kernel
theorem dX11_payWeek_36 : decode cX11_payWeek 36 = .ok (.aload_n 2, 1) := by decide +kernel
theorem dX11_payWeek_37 : decode cX11_payWeek 37 = .ok (.iconst 0, 1) := by decide +kernel
theorem dX11_payWeek_38 : decode cX11_payWeek 38 = .ok (.aload_n 0, 1) := by decide +kernel
theorem dX11_payWeek_39 : decode cX11_payWeek 39 = .ok (.getfield 95, 3) := by decide +kernel
theorem dX11_payWeek_42 : decode cX11_payWeek 42 = .ok (.aload_n 0, 1) := by decide +kernel
theorem dX11_payWeek_43 : decode cX11_payWeek 43 = .ok (.getfield 36, 3) := by decide +kernel
theorem dX11_payWeek_46 : decode cX11_payWeek 46 = .ok (.invokevirtual 204, 3) := by decide +kernel
theorem dX11_payWeek_49 : decode cX11_payWeek 49 = .ok (.if_icmp .ge 24, 3) := by decide +kernel
theorem dX11_payWeek_52 : decode cX11_payWeek 52 = .ok (.aload_n 2, 1) := by decide +kernel
theorem dX11_payWeek_53 : decode cX11_payWeek 53 = .ok (.aload_n 0, 1) := by decide +kernel
theorem dX11_payWeek_54 : decode cX11_payWeek 54 = .ok (.getfield 95, 3) := by decide +kernel
theorem dX11_payWeek_57 : decode cX11_payWeek 57 = .ok (.invokevirtual 461, 3) := by decide +kernel
theorem dX11_payWeek_60 : decode cX11_payWeek 60 = .ok (.aload_n 0, 1) := by decide +kernel
theorem dX11_payWeek_61 : decode cX11_payWeek 61 = .ok (.dup, 1) := by decide +kernel
theorem dX11_payWeek_62 : decode cX11_payWeek 62 = .ok (.getfield 98, 3) := by decide +kernel
theorem dX11_payWeek_65 : decode cX11_payWeek 65 = .ok (.aload_n 2, 1) := by decide +kernel
theorem dX11_payWeek_66 : decode cX11_payWeek 66 = .ok (.getfield 300, 3) := by decide +kernel
theorem dX11_payWeek_69 : decode cX11_payWeek 69 = .ok (.isub, 1) := by decide +kernel
theorem dX11_payWeek_70 : decode cX11_payWeek 70 = .ok (.putfield 98, 3) := by decide +kernel
theorem dX11_payWeek_73 : decode cX11_payWeek 73 = .ok (.iinc 1 1, 3) := by decide +kernel
theorem dX11_payWeek_76 : decode cX11_payWeek 76 = .ok (.goto (-74), 3) := by decide +kernel
theorem dX11_payWeek_79 : decode cX11_payWeek 79 = .ok (.return_, 1) := by decide +kernel
theorem dX11_mayBook_0 : decode cX11_mayBook 0 = .ok (.aload_n 2, 1) := by decide +kernel
theorem dX11_mayBook_1 : decode cX11_mayBook 1 = .ok (.getfield 384, 3) := by decide +kernel
theorem dX11_mayBook_4 : decode cX11_mayBook 4 = .ok (.iload_n 3, 1) := by decide +kernel
theorem dX11_mayBook_5 : decode cX11_mayBook 5 = .ok (.iaload, 1) := by decide +kernel
theorem dX11_mayBook_6 : decode cX11_mayBook 6 = .ok (.iconst (-1), 1) := by decide +kernel
theorem dX11_mayBook_7 : decode cX11_mayBook 7 = .ok (.if_icmp .eq 5, 3) := by decide +kernel
theorem dX11_mayBook_10 : decode cX11_mayBook 10 = .ok (.iconst 0, 1) := by decide +kernel
theorem dX11_mayBook_11 : decode cX11_mayBook 11 = .ok (.ireturn, 1) := by decide +kernel
theorem dX11_mayBook_12 : decode cX11_mayBook 12 = .ok (.iconst 0, 1) := by decide +kernel
theorem dX11_mayBook_13 : decode cX11_mayBook 13 = .ok (.istore 4, 2) := by decide +kernel
theorem dX11_mayBook_15 : decode cX11_mayBook 15 = .ok (.iload 4, 2) := by decide +kernel
theorem dX11_mayBook_17 : decode cX11_mayBook 17 = .ok (.aload_n 0, 1) := by decide +kernel
theorem dX11_mayBook_18 : decode cX11_mayBook 18 = .ok (.getfield 92, 3) := by decide +kernel
theorem dX11_mayBook_21 : decode cX11_mayBook 21 = .ok (.if_icmp .ge 70, 3) := by decide +kernel
theorem dX11_mayBook_24 : decode cX11_mayBook 24 = .ok (.aload_n 0, 1) := by decide +kernel
theorem dX11_mayBook_25 : decode cX11_mayBook 25 = .ok (.getfield 29, 3) := by decide +kernel
theorem dX11_mayBook_28 : decode cX11_mayBook 28 = .ok (.iload 4, 2) := by decide +kernel
theorem dX11_mayBook_30 : decode cX11_mayBook 30 = .ok (.aaload, 1) := by decide +kernel
theorem dX11_mayBook_31 : decode cX11_mayBook 31 = .ok (.astore 5, 2) := by decide +kernel
theorem dX11_mayBook_33 : decode cX11_mayBook 33 = .ok (.aload 5, 2) := by decide +kernel
theorem dX11_mayBook_35 : decode cX11_mayBook 35 = .ok (.getfield 464, 3) := by decide +kernel
theorem dX11_mayBook_38 : decode cX11_mayBook 38 = .ok (.aload_n 2, 1) := by decide +kernel
theorem dX11_mayBook_39 : decode cX11_mayBook 39 = .ok (.getfield 464, 3) := by decide +kernel
theorem dX11_mayBook_42 : decode cX11_mayBook 42 = .ok (.if_icmp .ne 19, 3) := by decide +kernel
theorem dX11_mayBook_45 : decode cX11_mayBook 45 = .ok (.aload 5, 2) := by decide +kernel
theorem dX11_mayBook_47 : decode cX11_mayBook 47 = .ok (.getfield 467, 3) := by decide +kernel
theorem dX11_mayBook_50 : decode cX11_mayBook 50 = .ok (.aload_n 2, 1) := by decide +kernel
theorem dX11_mayBook_51 : decode cX11_mayBook 51 = .ok (.getfield 467, 3) := by decide +kernel
theorem dX11_mayBook_54 : decode cX11_mayBook 54 = .ok (.if_icmp .eq 7, 3) := by decide +kernel
theorem dX11_mayBook_57 : decode cX11_mayBook 57 = .ok (.iconst 1, 1) := by decide +kernel
theorem dX11_mayBook_58 : decode cX11_mayBook 58 = .ok (.goto 4, 3) := by decide +kernel
theorem dX11_mayBook_61 : decode cX11_mayBook 61 = .ok (.iconst 0, 1) := by decide +kernel
theorem dX11_mayBook_62 : decode cX11_mayBook 62 = .ok (.istore 6, 2) := by decide +kernel
theorem dX11_mayBook_64 : decode cX11_mayBook 64 = .ok (.iload 6, 2) := by decide +kernel
theorem dX11_mayBook_66 : decode cX11_mayBook 66 = .ok (.ifCond .eq 19, 3) := by decide +kernel
theorem dX11_mayBook_69 : decode cX11_mayBook 69 = .ok (.aload 5, 2) := by decide +kernel
theorem dX11_mayBook_71 : decode cX11_mayBook 71 = .ok (.iload_n 1, 1) := by decide +kernel
theorem dX11_mayBook_72 : decode cX11_mayBook 72 = .ok (.iload_n 3, 1) := by decide +kernel
theorem dX11_mayBook_73 : decode cX11_mayBook 73 = .ok (.aload_n 0, 1) := by decide +kernel
theorem dX11_mayBook_74 : decode cX11_mayBook 74 = .ok (.getfield 101, 3) := by decide +kernel
theorem dX11_mayBook_77 : decode cX11_mayBook 77 = .ok (.invokevirtual 470, 3) := by decide +kernel
theorem dX11_mayBook_80 : decode cX11_mayBook 80 = .ok (.ifCond .eq 5, 3) := by decide +kernel
theorem dX11_mayBook_83 : decode cX11_mayBook 83 = .ok (.iconst 0, 1) := by decide +kernel
theorem dX11_mayBook_84 : decode cX11_mayBook 84 = .ok (.ireturn, 1) := by decide +kernel
theorem dX11_mayBook_85 : decode cX11_mayBook 85 = .ok (.iinc 4 1, 3) := by decide +kernel
theorem dX11_mayBook_88 : decode cX11_mayBook 88 = .ok (.goto (-73), 3) := by decide +kernel
theorem dX11_mayBook_91 : decode cX11_mayBook 91 = .ok (.iconst 1, 1) := by decide +kernel
theorem dX11_mayBook_92 : decode cX11_mayBook 92 = .ok (.ireturn, 1) := by decide +kernel
theorem dX11_earliestWeek_0 : decode cX11_earliestWeek 0 = .ok (.iload_n 3, 1) := by decide +kernel
theorem dX11_earliestWeek_1 : decode cX11_earliestWeek 1 = .ok (.istore 4, 2) := by decide +kernel
theorem dX11_earliestWeek_3 : decode cX11_earliestWeek 3 = .ok (.iload 4, 2) := by decide +kernel
theorem dX11_earliestWeek_5 : decode cX11_earliestWeek 5 = .ok (.bipush 40, 2) := by decide +kernel
theorem dX11_earliestWeek_7 : decode cX11_earliestWeek 7 = .ok (.if_icmp .ge 23, 3) := by decide +kernel
theorem dX11_earliestWeek_10 : decode cX11_earliestWeek 10 = .ok (.aload_n 0, 1) := by decide +kernel
theorem dX11_earliestWeek_11 : decode cX11_earliestWeek 11 = .ok (.iload_n 1, 1) := by decide +kernel
theorem dX11_earliestWeek_12 : decode cX11_earliestWeek 12 = .ok (.aload_n 2, 1) := by decide +kernel
theorem dX11_earliestWeek_13 : decode cX11_earliestWeek 13 = .ok (.iload 4, 2) := by decide +kernel
theorem dX11_earliestWeek_15 : decode cX11_earliestWeek 15 = .ok (.invokevirtual 380, 3) := by decide +kernel
theorem dX11_earliestWeek_18 : decode cX11_earliestWeek 18 = .ok (.ifCond .eq 6, 3) := by decide +kernel
theorem dX11_earliestWeek_21 : decode cX11_earliestWeek 21 = .ok (.iload 4, 2) := by decide +kernel
theorem dX11_earliestWeek_23 : decode cX11_earliestWeek 23 = .ok (.ireturn, 1) := by decide +kernel
theorem dX11_earliestWeek_24 : decode cX11_earliestWeek 24 = .ok (.iinc 4 1, 3) := by decide +kernel
theorem dX11_earliestWeek_27 : decode cX11_earliestWeek 27 = .ok (.goto (-24), 3) := by decide +kernel
theorem dX11_earliestWeek_30 : decode cX11_earliestWeek 30 = .ok (.iconst (-1), 1) := by decide +kernel
theorem dX11_earliestWeek_31 : decode cX11_earliestWeek 31 = .ok (.ireturn, 1) := by decide +kernel
theorem dX11_payParts_0 : decode cX11_payParts 0 = .ok (.aload_n 1, 1) := by decide +kernel
theorem dX11_payParts_1 : decode cX11_payParts 1 = .ok (.invokevirtual 474, 3) := by decide +kernel
theorem dX11_payParts_4 : decode cX11_payParts 4 = .ok (.istore_n 3, 1) := by decide +kernel
theorem dX11_payParts_5 : decode cX11_payParts 5 = .ok (.iload_n 2, 1) := by decide +kernel
theorem dX11_payParts_6 : decode cX11_payParts 6 = .ok (.istore 4, 2) := by decide +kernel
theorem dX11_payParts_8 : decode cX11_payParts 8 = .ok (.iconst 0, 1) := by decide +kernel
theorem dX11_payParts_9 : decode cX11_payParts 9 = .ok (.istore 5, 2) := by decide +kernel
theorem dX11_payParts_11 : decode cX11_payParts 11 = .ok (.iload 5, 2) := by decide +kernel
theorem dX11_payParts_13 : decode cX11_payParts 13 = .ok (.aload_n 0, 1) := by decide +kernel
theorem dX11_payParts_14 : decode cX11_payParts 14 = .ok (.getfield 85, 3) := by decide +kernel
theorem dX11_payParts_17 : decode cX11_payParts 17 = .ok (.if_icmp .ge 85, 3) := by decide +kernel
theorem dX11_payParts_20 : decode cX11_payParts 20 = .ok (.aload_n 0, 1) := by decide +kernel
theorem dX11_payParts_21 : decode cX11_payParts 21 = .ok (.getfield 17, 3) := by decide +kernel
theorem dX11_payParts_24 : decode cX11_payParts 24 = .ok (.iload 5, 2) := by decide +kernel
theorem dX11_payParts_26 : decode cX11_payParts 26 = .ok (.aaload, 1) := by decide +kernel
theorem dX11_payParts_27 : decode cX11_payParts 27 = .ok (.astore 6, 2) := by decide +kernel
theorem dX11_payParts_29 : decode cX11_payParts 29 = .ok (.iload_n 3, 1) := by decide +kernel
theorem dX11_payParts_30 : decode cX11_payParts 30 = .ok (.iload 5, 2) := by decide +kernel
theorem dX11_payParts_32 : decode cX11_payParts 32 = .ok (.ishr, 1) := by decide +kernel
theorem dX11_payParts_33 : decode cX11_payParts 33 = .ok (.iconst 1, 1) := by decide +kernel
theorem dX11_payParts_34 : decode cX11_payParts 34 = .ok (.iand, 1) := by decide +kernel
theorem dX11_payParts_35 : decode cX11_payParts 35 = .ok (.iconst 1, 1) := by decide +kernel
theorem dX11_payParts_36 : decode cX11_payParts 36 = .ok (.if_icmp .ne 60, 3) := by decide +kernel
theorem dX11_payParts_39 : decode cX11_payParts 39 = .ok (.aload 6, 2) := by decide +kernel
theorem dX11_payParts_41 : decode cX11_payParts 41 = .ok (.aload_n 0, 1) := by decide +kernel
theorem dX11_payParts_42 : decode cX11_payParts 42 = .ok (.getfield 95, 3) := by decide +kernel
theorem dX11_payParts_45 : decode cX11_payParts 45 = .ok (.invokevirtual 185, 3) := by decide +kernel
theorem dX11_payParts_48 : decode cX11_payParts 48 = .ok (.ifCond .eq 48, 3) := by decide +kernel
theorem dX11_payParts_51 : decode cX11_payParts 51 = .ok (.iload 4, 2) := by decide +kernel
theorem dX11_payParts_53 : decode cX11_payParts 53 = .ok (.iload_n 2, 1) := by decide +kernel
theorem dX11_payParts_54 : decode cX11_payParts 54 = .ok (.aload 6, 2) := by decide +kernel
theorem dX11_payParts_56 : decode cX11_payParts 56 = .ok (.iconst 3, 1) := by decide +kernel
theorem dX11_payParts_57 : decode cX11_payParts 57 = .ok (.aload_n 0, 1) := by decide +kernel
theorem dX11_payParts_58 : decode cX11_payParts 58 = .ok (.getfield 95, 3) := by decide +kernel
theorem dX11_payParts_61 : decode cX11_payParts 61 = .ok (.aload_n 0, 1) := by decide +kernel
theorem dX11_payParts_62 : decode cX11_payParts 62 = .ok (.getfield 36, 3) := by decide +kernel
theorem dX11_payParts_65 : decode cX11_payParts 65 = .ok (.invokevirtual 204, 3) := by decide +kernel
theorem dX11_payParts_68 : decode cX11_payParts 68 = .ok (.imul, 1) := by decide +kernel
theorem dX11_payParts_69 : decode cX11_payParts 69 = .ok (.bipush 100, 2) := by decide +kernel
theorem dX11_payParts_71 : decode cX11_payParts 71 = .ok (.idiv, 1) := by decide +kernel
theorem dX11_payParts_72 : decode cX11_payParts 72 = .ok (.invokestatic 477, 3) := by decide +kernel
theorem dX11_payParts_75 : decode cX11_payParts 75 = .ok (.istore 7, 2) := by decide +kernel
theorem dX11_payParts_77 : decode cX11_payParts 77 = .ok (.aload 6, 2) := by decide +kernel
theorem dX11_payParts_79 : decode cX11_payParts 79 = .ok (.dup, 1) := by decide +kernel
theorem dX11_payParts_80 : decode cX11_payParts 80 = .ok (.getfield 407, 3) := by decide +kernel
theorem dX11_payParts_83 : decode cX11_payParts 83 = .ok (.iload 7, 2) := by decide +kernel
theorem dX11_payParts_85 : decode cX11_payParts 85 = .ok (.iadd, 1) := by decide +kernel
theorem dX11_payParts_86 : decode cX11_payParts 86 = .ok (.putfield 407, 3) := by decide +kernel
theorem dX11_payParts_89 : decode cX11_payParts 89 = .ok (.iload 4, 2) := by decide +kernel
theorem dX11_payParts_91 : decode cX11_payParts 91 = .ok (.iload 7, 2) := by decide +kernel
theorem dX11_payParts_93 : decode cX11_payParts 93 = .ok (.isub, 1) := by decide +kernel
theorem dX11_payParts_94 : decode cX11_payParts 94 = .ok (.istore 4, 2) := by decide +kernel
theorem dX11_payParts_96 : decode cX11_payParts 96 = .ok (.iinc 5 1, 3) := by decide +kernel
theorem dX11_payParts_99 : decode cX11_payParts 99 = .ok (.goto (-88), 3) := by decide +kernel
theorem dX11_payParts_102 : decode cX11_payParts 102 = .ok (.iload 4, 2) := by decide +kernel
theorem dX11_payParts_104 : decode cX11_payParts 104 = .ok (.ireturn, 1) := by decide +kernel
theorem dX11_peopleWho_0 : decode cX11_peopleWho 0 = .ok (.iconst 0, 1) := by decide +kernel
theorem dX11_peopleWho_1 : decode cX11_peopleWho 1 = .ok (.istore_n 2, 1) := by decide +kernel
theorem dX11_peopleWho_2 : decode cX11_peopleWho 2 = .ok (.iconst 0, 1) := by decide +kernel
theorem dX11_peopleWho_3 : decode cX11_peopleWho 3 = .ok (.istore_n 3, 1) := by decide +kernel
theorem dX11_peopleWho_4 : decode cX11_peopleWho 4 = .ok (.iload_n 3, 1) := by decide +kernel
theorem dX11_peopleWho_5 : decode cX11_peopleWho 5 = .ok (.aload_n 0, 1) := by decide +kernel
theorem dX11_peopleWho_6 : decode cX11_peopleWho 6 = .ok (.getfield 85, 3) := by decide +kernel
theorem dX11_peopleWho_9 : decode cX11_peopleWho 9 = .ok (.if_icmp .ge 73, 3) := by decide +kernel
theorem dX11_peopleWho_12 : decode cX11_peopleWho 12 = .ok (.aload_n 0, 1) := by decide +kernel
theorem dX11_peopleWho_13 : decode cX11_peopleWho 13 = .ok (.getfield 17, 3) := by decide +kernel
theorem dX11_peopleWho_16 : decode cX11_peopleWho 16 = .ok (.iload_n 3, 1) := by decide +kernel
theorem dX11_peopleWho_17 : decode cX11_peopleWho 17 = .ok (.aaload, 1) := by decide +kernel
theorem dX11_peopleWho_18 : decode cX11_peopleWho 18 = .ok (.astore 4, 2) := by decide +kernel
theorem dX11_peopleWho_20 : decode cX11_peopleWho 20 = .ok (.iload_n 1, 1) := by decide +kernel
theorem dX11_peopleWho_21 : decode cX11_peopleWho 21 = .ok (.bipush 6, 2) := by decide +kernel
theorem dX11_peopleWho_23 : decode cX11_peopleWho 23 = .ok (.if_icmp .ne 15, 3) := by decide +kernel
theorem dX11_peopleWho_26 : decode cX11_peopleWho 26 = .ok (.aload 4, 2) := by decide +kernel
theorem dX11_peopleWho_28 : decode cX11_peopleWho 28 = .ok (.aload_n 0, 1) := by decide +kernel
theorem dX11_peopleWho_29 : decode cX11_peopleWho 29 = .ok (.getfield 95, 3) := by decide +kernel
theorem dX11_peopleWho_32 : decode cX11_peopleWho 32 = .ok (.invokevirtual 185, 3) := by decide +kernel
theorem dX11_peopleWho_35 : decode cX11_peopleWho 35 = .ok (.goto 31, 3) := by decide +kernel
theorem dX11_peopleWho_38 : decode cX11_peopleWho 38 = .ok (.iload_n 1, 1) := by decide +kernel
theorem dX11_peopleWho_39 : decode cX11_peopleWho 39 = .ok (.bipush 7, 2) := by decide +kernel
theorem dX11_peopleWho_41 : decode cX11_peopleWho 41 = .ok (.if_icmp .ne 11, 3) := by decide +kernel
theorem dX11_peopleWho_44 : decode cX11_peopleWho 44 = .ok (.aload 4, 2) := by decide +kernel
theorem dX11_peopleWho_46 : decode cX11_peopleWho 46 = .ok (.getfield 223, 3) := by decide +kernel
theorem dX11_peopleWho_49 : decode cX11_peopleWho 49 = .ok (.goto 17, 3) := by decide +kernel
theorem dX11_peopleWho_52 : decode cX11_peopleWho 52 = .ok (.aload 4, 2) := by decide +kernel
theorem dX11_peopleWho_54 : decode cX11_peopleWho 54 = .ok (.getfield 228, 3) := by decide +kernel
theorem dX11_peopleWho_57 : decode cX11_peopleWho 57 = .ok (.iconst (-1), 1) := by decide +kernel
theorem dX11_peopleWho_58 : decode cX11_peopleWho 58 = .ok (.if_icmp .eq 7, 3) := by decide +kernel
theorem dX11_peopleWho_61 : decode cX11_peopleWho 61 = .ok (.iconst 1, 1) := by decide +kernel
theorem dX11_peopleWho_62 : decode cX11_peopleWho 62 = .ok (.goto 4, 3) := by decide +kernel
theorem dX11_peopleWho_65 : decode cX11_peopleWho 65 = .ok (.iconst 0, 1) := by decide +kernel
theorem dX11_peopleWho_66 : decode cX11_peopleWho 66 = .ok (.istore 5, 2) := by decide +kernel
theorem dX11_peopleWho_68 : decode cX11_peopleWho 68 = .ok (.iload 5, 2) := by decide +kernel
theorem dX11_peopleWho_70 : decode cX11_peopleWho 70 = .ok (.ifCond .eq 6, 3) := by decide +kernel
theorem dX11_peopleWho_73 : decode cX11_peopleWho 73 = .ok (.iinc 2 1, 3) := by decide +kernel
theorem dX11_peopleWho_76 : decode cX11_peopleWho 76 = .ok (.iinc 3 1, 3) := by decide +kernel
theorem dX11_peopleWho_79 : decode cX11_peopleWho 79 = .ok (.goto (-75), 3) := by decide +kernel
theorem dX11_peopleWho_82 : decode cX11_peopleWho 82 = .ok (.iload_n 2, 1) := by decide +kernel
theorem dX11_peopleWho_83 : decode cX11_peopleWho 83 = .ok (.ireturn, 1) := by decide +kernel
theorem dX11_showings_0 : decode cX11_showings 0 = .ok (.iconst 0, 1) := by decide +kernel
theorem dX11_showings_1 : decode cX11_showings 1 = .ok (.istore_n 1, 1) := by decide +kernel
theorem dX11_showings_2 : decode cX11_showings 2 = .ok (.iconst 0, 1) := by decide +kernel
theorem dX11_showings_3 : decode cX11_showings 3 = .ok (.istore_n 2, 1) := by decide +kernel
theorem dX11_showings_4 : decode cX11_showings 4 = .ok (.iload_n 2, 1) := by decide +kernel
theorem dX11_showings_5 : decode cX11_showings 5 = .ok (.aload_n 0, 1) := by decide +kernel
theorem dX11_showings_6 : decode cX11_showings 6 = .ok (.getfield 92, 3) := by decide +kernel
theorem dX11_showings_9 : decode cX11_showings 9 = .ok (.if_icmp .ge 41, 3) := by decide +kernel
theorem dX11_showings_12 : decode cX11_showings 12 = .ok (.iconst 0, 1) := by decide +kernel
theorem dX11_showings_13 : decode cX11_showings 13 = .ok (.istore_n 3, 1) := by decide +kernel
theorem dX11_showings_14 : decode cX11_showings 14 = .ok (.iload_n 3, 1) := by decide +kernel
theorem dX11_showings_15 : decode cX11_showings 15 = .ok (.bipush 40, 2) := by decide +kernel
theorem dX11_showings_17 : decode cX11_showings 17 = .ok (.if_icmp .ge 27, 3) := by decide +kernel
theorem dX11_showings_20 : decode cX11_showings 20 = .ok (.aload_n 0, 1) := by decide +kernel
theorem dX11_showings_21 : decode cX11_showings 21 = .ok (.getfield 29, 3) := by decide +kernel
theorem dX11_showings_24 : decode cX11_showings 24 = .ok (.iload_n 2, 1) := by decide +kernel
theorem dX11_showings_25 : decode cX11_showings 25 = .ok (.aaload, 1) := by decide +kernel
theorem dX11_showings_26 : decode cX11_showings 26 = .ok (.getfield 384, 3) := by decide +kernel
theorem dX11_showings_29 : decode cX11_showings 29 = .ok (.iload_n 3, 1) := by decide +kernel
theorem dX11_showings_30 : decode cX11_showings 30 = .ok (.iaload, 1) := by decide +kernel
theorem dX11_showings_31 : decode cX11_showings 31 = .ok (.iconst (-1), 1) := by decide +kernel
theorem dX11_showings_32 : decode cX11_showings 32 = .ok (.if_icmp .eq 6, 3) := by decide +kernel
theorem dX11_showings_35 : decode cX11_showings 35 = .ok (.iinc 1 1, 3) := by decide +kernel
theorem dX11_showings_38 : decode cX11_showings 38 = .ok (.iinc 3 1, 3) := by decide +kernel
theorem dX11_showings_41 : decode cX11_showings 41 = .ok (.goto (-27), 3) := by decide +kernel
theorem dX11_showings_44 : decode cX11_showings 44 = .ok (.iinc 2 1, 3) := by decide +kernel
theorem dX11_showings_47 : decode cX11_showings 47 = .ok (.goto (-43), 3) := by decide +kernel
theorem dX11_showings_50 : decode cX11_showings 50 = .ok (.iload_n 1, 1) := by decide +kernel
theorem dX11_showings_51 : decode cX11_showings 51 = .ok (.ireturn, 1) := by decide +kernel
