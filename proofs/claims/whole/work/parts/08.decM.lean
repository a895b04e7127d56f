-- ===== decode rows (written by wip/gen/names.py) =====
theorem d_M_init_0 : decode c_M_init 0 = .ok (.aload_n 0, 1) := by decide +kernel
theorem d_M_init_1 : decode c_M_init 1 = .ok (.invokespecial 34, 3) := by decide +kernel
theorem d_M_init_4 : decode c_M_init 4 = .ok (.aload_n 0, 1) := by decide +kernel
theorem d_M_init_5 : decode c_M_init 5 = .ok (.new 8, 3) := by decide +kernel
theorem d_M_init_8 : decode c_M_init 8 = .ok (.dup, 1) := by decide +kernel
theorem d_M_init_9 : decode c_M_init 9 = .ok (.invokespecial 40, 3) := by decide +kernel
theorem d_M_init_12 : decode c_M_init 12 = .ok (.putfield 41, 3) := by decide +kernel
theorem d_M_init_15 : decode c_M_init 15 = .ok (.aload_n 0, 1) := by decide +kernel
theorem d_M_init_16 : decode c_M_init 16 = .ok (.new 8, 3) := by decide +kernel
theorem d_M_init_19 : decode c_M_init 19 = .ok (.dup, 1) := by decide +kernel
theorem d_M_init_20 : decode c_M_init 20 = .ok (.invokespecial 40, 3) := by decide +kernel
theorem d_M_init_23 : decode c_M_init 23 = .ok (.putfield 27, 3) := by decide +kernel
theorem d_M_init_26 : decode c_M_init 26 = .ok (.aload_n 0, 1) := by decide +kernel
theorem d_M_init_27 : decode c_M_init 27 = .ok (.new 8, 3) := by decide +kernel
theorem d_M_init_30 : decode c_M_init 30 = .ok (.dup, 1) := by decide +kernel
theorem d_M_init_31 : decode c_M_init 31 = .ok (.invokespecial 40, 3) := by decide +kernel
theorem d_M_init_34 : decode c_M_init 34 = .ok (.putfield 24, 3) := by decide +kernel
theorem d_M_init_37 : decode c_M_init 37 = .ok (.aload_n 0, 1) := by decide +kernel
theorem d_M_init_38 : decode c_M_init 38 = .ok (.new 8, 3) := by decide +kernel
theorem d_M_init_41 : decode c_M_init 41 = .ok (.dup, 1) := by decide +kernel
theorem d_M_init_42 : decode c_M_init 42 = .ok (.invokespecial 40, 3) := by decide +kernel
theorem d_M_init_45 : decode c_M_init 45 = .ok (.putfield 17, 3) := by decide +kernel
theorem d_M_init_48 : decode c_M_init 48 = .ok (.aload_n 0, 1) := by decide +kernel
theorem d_M_init_49 : decode c_M_init 49 = .ok (.new 8, 3) := by decide +kernel
theorem d_M_init_52 : decode c_M_init 52 = .ok (.dup, 1) := by decide +kernel
theorem d_M_init_53 : decode c_M_init 53 = .ok (.invokespecial 40, 3) := by decide +kernel
theorem d_M_init_56 : decode c_M_init 56 = .ok (.putfield 1, 3) := by decide +kernel
theorem d_M_init_59 : decode c_M_init 59 = .ok (.aload_n 0, 1) := by decide +kernel
theorem d_M_init_60 : decode c_M_init 60 = .ok (.new 8, 3) := by decide +kernel
theorem d_M_init_63 : decode c_M_init 63 = .ok (.dup, 1) := by decide +kernel
theorem d_M_init_64 : decode c_M_init 64 = .ok (.invokespecial 40, 3) := by decide +kernel
theorem d_M_init_67 : decode c_M_init 67 = .ok (.putfield 44, 3) := by decide +kernel
theorem d_M_init_70 : decode c_M_init 70 = .ok (.aload_n 0, 1) := by decide +kernel
theorem d_M_init_71 : decode c_M_init 71 = .ok (.new 8, 3) := by decide +kernel
theorem d_M_init_74 : decode c_M_init 74 = .ok (.dup, 1) := by decide +kernel
theorem d_M_init_75 : decode c_M_init 75 = .ok (.invokespecial 40, 3) := by decide +kernel
theorem d_M_init_78 : decode c_M_init 78 = .ok (.putfield 47, 3) := by decide +kernel
theorem d_M_init_81 : decode c_M_init 81 = .ok (.aload_n 0, 1) := by decide +kernel
theorem d_M_init_82 : decode c_M_init 82 = .ok (.new 8, 3) := by decide +kernel
theorem d_M_init_85 : decode c_M_init 85 = .ok (.dup, 1) := by decide +kernel
theorem d_M_init_86 : decode c_M_init 86 = .ok (.invokespecial 40, 3) := by decide +kernel
theorem d_M_init_89 : decode c_M_init 89 = .ok (.putfield 50, 3) := by decide +kernel
theorem d_M_init_92 : decode c_M_init 92 = .ok (.aload_n 0, 1) := by decide +kernel
theorem d_M_init_93 : decode c_M_init 93 = .ok (.bipush 8, 2) := by decide +kernel
theorem d_M_init_95 : decode c_M_init 95 = .ok (.newarray .int, 2) := by decide +kernel
theorem d_M_init_97 : decode c_M_init 97 = .ok (.putfield 53, 3) := by decide +kernel
theorem d_M_init_100 : decode c_M_init 100 = .ok (.aload_n 0, 1) := by decide +kernel
theorem d_M_init_101 : decode c_M_init 101 = .ok (.bipush 8, 2) := by decide +kernel
theorem d_M_init_103 : decode c_M_init 103 = .ok (.newarray .int, 2) := by decide +kernel
theorem d_M_init_105 : decode c_M_init 105 = .ok (.putfield 57, 3) := by decide +kernel
theorem d_M_init_108 : decode c_M_init 108 = .ok (.aload_n 0, 1) := by decide +kernel
theorem d_M_init_109 : decode c_M_init 109 = .ok (.bipush 8, 2) := by decide +kernel
theorem d_M_init_111 : decode c_M_init 111 = .ok (.newarray .int, 2) := by decide +kernel
theorem d_M_init_113 : decode c_M_init 113 = .ok (.putfield 60, 3) := by decide +kernel
theorem d_M_init_116 : decode c_M_init 116 = .ok (.aload_n 0, 1) := by decide +kernel
theorem d_M_init_117 : decode c_M_init 117 = .ok (.bipush 8, 2) := by decide +kernel
theorem d_M_init_119 : decode c_M_init 119 = .ok (.newarray .boolean, 2) := by decide +kernel
theorem d_M_init_121 : decode c_M_init 121 = .ok (.putfield 63, 3) := by decide +kernel
theorem d_M_init_124 : decode c_M_init 124 = .ok (.aload_n 0, 1) := by decide +kernel
theorem d_M_init_125 : decode c_M_init 125 = .ok (.bipush 96, 2) := by decide +kernel
theorem d_M_init_127 : decode c_M_init 127 = .ok (.newarray .int, 2) := by decide +kernel
theorem d_M_init_129 : decode c_M_init 129 = .ok (.putfield 67, 3) := by decide +kernel
theorem d_M_init_132 : decode c_M_init 132 = .ok (.aload_n 0, 1) := by decide +kernel
theorem d_M_init_133 : decode c_M_init 133 = .ok (.sipush 18432, 3) := by decide +kernel
theorem d_M_init_136 : decode c_M_init 136 = .ok (.newarray .int, 2) := by decide +kernel
theorem d_M_init_138 : decode c_M_init 138 = .ok (.putfield 70, 3) := by decide +kernel
theorem d_M_init_141 : decode c_M_init 141 = .ok (.aload_n 0, 1) := by decide +kernel
theorem d_M_init_142 : decode c_M_init 142 = .ok (.sipush 18432, 3) := by decide +kernel
theorem d_M_init_145 : decode c_M_init 145 = .ok (.newarray .int, 2) := by decide +kernel
theorem d_M_init_147 : decode c_M_init 147 = .ok (.putfield 73, 3) := by decide +kernel
theorem d_M_init_150 : decode c_M_init 150 = .ok (.aload_n 0, 1) := by decide +kernel
theorem d_M_init_151 : decode c_M_init 151 = .ok (.sipush 1152, 3) := by decide +kernel
theorem d_M_init_154 : decode c_M_init 154 = .ok (.newarray .int, 2) := by decide +kernel
theorem d_M_init_156 : decode c_M_init 156 = .ok (.putfield 76, 3) := by decide +kernel
theorem d_M_init_159 : decode c_M_init 159 = .ok (.aload_n 0, 1) := by decide +kernel
theorem d_M_init_160 : decode c_M_init 160 = .ok (.sipush 144, 3) := by decide +kernel
theorem d_M_init_163 : decode c_M_init 163 = .ok (.anewarray 8, 3) := by decide +kernel
theorem d_M_init_166 : decode c_M_init 166 = .ok (.putfield 79, 3) := by decide +kernel
theorem d_M_init_169 : decode c_M_init 169 = .ok (.aload_n 0, 1) := by decide +kernel
theorem d_M_init_170 : decode c_M_init 170 = .ok (.sipush 144, 3) := by decide +kernel
theorem d_M_init_173 : decode c_M_init 173 = .ok (.anewarray 8, 3) := by decide +kernel
theorem d_M_init_176 : decode c_M_init 176 = .ok (.putfield 83, 3) := by decide +kernel
theorem d_M_init_179 : decode c_M_init 179 = .ok (.aload_n 0, 1) := by decide +kernel
theorem d_M_init_180 : decode c_M_init 180 = .ok (.sipush 144, 3) := by decide +kernel
theorem d_M_init_183 : decode c_M_init 183 = .ok (.newarray .int, 2) := by decide +kernel
theorem d_M_init_185 : decode c_M_init 185 = .ok (.putfield 86, 3) := by decide +kernel
theorem d_M_init_188 : decode c_M_init 188 = .ok (.aload_n 0, 1) := by decide +kernel
theorem d_M_init_189 : decode c_M_init 189 = .ok (.bipush 12, 2) := by decide +kernel
theorem d_M_init_191 : decode c_M_init 191 = .ok (.newarray .int, 2) := by decide +kernel
theorem d_M_init_193 : decode c_M_init 193 = .ok (.putfield 89, 3) := by decide +kernel
theorem d_M_init_196 : decode c_M_init 196 = .ok (.aload_n 0, 1) := by decide +kernel
theorem d_M_init_197 : decode c_M_init 197 = .ok (.new 8, 3) := by decide +kernel
theorem d_M_init_200 : decode c_M_init 200 = .ok (.dup, 1) := by decide +kernel
theorem d_M_init_201 : decode c_M_init 201 = .ok (.invokespecial 40, 3) := by decide +kernel
theorem d_M_init_204 : decode c_M_init 204 = .ok (.putfield 92, 3) := by decide +kernel
theorem d_M_init_207 : decode c_M_init 207 = .ok (.aload_n 0, 1) := by decide +kernel
theorem d_M_init_208 : decode c_M_init 208 = .ok (.new 8, 3) := by decide +kernel
theorem d_M_init_211 : decode c_M_init 211 = .ok (.dup, 1) := by decide +kernel
theorem d_M_init_212 : decode c_M_init 212 = .ok (.invokespecial 40, 3) := by decide +kernel
theorem d_M_init_215 : decode c_M_init 215 = .ok (.putfield 95, 3) := by decide +kernel
theorem d_M_init_218 : decode c_M_init 218 = .ok (.iconst 0, 1) := by decide +kernel
theorem d_M_init_219 : decode c_M_init 219 = .ok (.istore_n 1, 1) := by decide +kernel
theorem d_M_init_220 : decode c_M_init 220 = .ok (.iload_n 1, 1) := by decide +kernel
theorem d_M_init_221 : decode c_M_init 221 = .ok (.sipush 144, 3) := by decide +kernel
theorem d_M_init_224 : decode c_M_init 224 = .ok (.if_icmp .ge 35, 3) := by decide +kernel
theorem d_M_init_227 : decode c_M_init 227 = .ok (.aload_n 0, 1) := by decide +kernel
theorem d_M_init_228 : decode c_M_init 228 = .ok (.getfield 79, 3) := by decide +kernel
theorem d_M_init_231 : decode c_M_init 231 = .ok (.iload_n 1, 1) := by decide +kernel
theorem d_M_init_232 : decode c_M_init 232 = .ok (.new 8, 3) := by decide +kernel
theorem d_M_init_235 : decode c_M_init 235 = .ok (.dup, 1) := by decide +kernel
theorem d_M_init_236 : decode c_M_init 236 = .ok (.invokespecial 40, 3) := by decide +kernel
theorem d_M_init_239 : decode c_M_init 239 = .ok (.aastore, 1) := by decide +kernel
theorem d_M_init_240 : decode c_M_init 240 = .ok (.aload_n 0, 1) := by decide +kernel
theorem d_M_init_241 : decode c_M_init 241 = .ok (.getfield 83, 3) := by decide +kernel
theorem d_M_init_244 : decode c_M_init 244 = .ok (.iload_n 1, 1) := by decide +kernel
theorem d_M_init_245 : decode c_M_init 245 = .ok (.new 8, 3) := by decide +kernel
theorem d_M_init_248 : decode c_M_init 248 = .ok (.dup, 1) := by decide +kernel
theorem d_M_init_249 : decode c_M_init 249 = .ok (.invokespecial 40, 3) := by decide +kernel
theorem d_M_init_252 : decode c_M_init 252 = .ok (.aastore, 1) := by decide +kernel
theorem d_M_init_253 : decode c_M_init 253 = .ok (.iinc 1 1, 3) := by decide +kernel
theorem d_M_init_256 : decode c_M_init 256 = .ok (.goto (-36), 3) := by decide +kernel
theorem d_M_init_259 : decode c_M_init 259 = .ok (.return_, 1) := by decide +kernel
theorem d_M_begin_0 : decode c_M_begin 0 = .ok (.iload_n 1, 1) := by decide +kernel
theorem d_M_begin_1 : decode c_M_begin 1 = .ok (.invokestatic 101, 3) := by decide +kernel
theorem d_M_begin_4 : decode c_M_begin 4 = .ok (.ifCond .eq 32, 3) := by decide +kernel
theorem d_M_begin_7 : decode c_M_begin 7 = .ok (.iload_n 2, 1) := by decide +kernel
theorem d_M_begin_8 : decode c_M_begin 8 = .ok (.invokestatic 178, 3) := by decide +kernel
theorem d_M_begin_11 : decode c_M_begin 11 = .ok (.ifCond .eq 25, 3) := by decide +kernel
theorem d_M_begin_14 : decode c_M_begin 14 = .ok (.iload_n 3, 1) := by decide +kernel
theorem d_M_begin_15 : decode c_M_begin 15 = .ok (.ifCond .lt 21, 3) := by decide +kernel
theorem d_M_begin_18 : decode c_M_begin 18 = .ok (.iload_n 3, 1) := by decide +kernel
theorem d_M_begin_19 : decode c_M_begin 19 = .ok (.bipush 12, 2) := by decide +kernel
theorem d_M_begin_21 : decode c_M_begin 21 = .ok (.if_icmp .gt 15, 3) := by decide +kernel
theorem d_M_begin_24 : decode c_M_begin 24 = .ok (.iload 4, 2) := by decide +kernel
theorem d_M_begin_26 : decode c_M_begin 26 = .ok (.ifCond .lt 10, 3) := by decide +kernel
theorem d_M_begin_29 : decode c_M_begin 29 = .ok (.iload 4, 2) := by decide +kernel
theorem d_M_begin_31 : decode c_M_begin 31 = .ok (.bipush 12, 2) := by decide +kernel
theorem d_M_begin_33 : decode c_M_begin 33 = .ok (.if_icmp .le 5, 3) := by decide +kernel
theorem d_M_begin_36 : decode c_M_begin 36 = .ok (.iconst 0, 1) := by decide +kernel
theorem d_M_begin_37 : decode c_M_begin 37 = .ok (.ireturn, 1) := by decide +kernel
theorem d_M_begin_38 : decode c_M_begin 38 = .ok (.aload_n 0, 1) := by decide +kernel
theorem d_M_begin_39 : decode c_M_begin 39 = .ok (.iload_n 2, 1) := by decide +kernel
theorem d_M_begin_40 : decode c_M_begin 40 = .ok (.iload_n 3, 1) := by decide +kernel
theorem d_M_begin_41 : decode c_M_begin 41 = .ok (.iload 4, 2) := by decide +kernel
theorem d_M_begin_43 : decode c_M_begin 43 = .ok (.invokevirtual 127, 3) := by decide +kernel
theorem d_M_begin_46 : decode c_M_begin 46 = .ok (.aload_n 0, 1) := by decide +kernel
theorem d_M_begin_47 : decode c_M_begin 47 = .ok (.iload_n 1, 1) := by decide +kernel
theorem d_M_begin_48 : decode c_M_begin 48 = .ok (.invokevirtual 175, 3) := by decide +kernel
theorem d_M_begin_51 : decode c_M_begin 51 = .ok (.aload_n 0, 1) := by decide +kernel
theorem d_M_begin_52 : decode c_M_begin 52 = .ok (.getfield 63, 3) := by decide +kernel
theorem d_M_begin_55 : decode c_M_begin 55 = .ok (.iload_n 1, 1) := by decide +kernel
theorem d_M_begin_56 : decode c_M_begin 56 = .ok (.iconst 1, 1) := by decide +kernel
theorem d_M_begin_57 : decode c_M_begin 57 = .ok (.bastore, 1) := by decide +kernel
theorem d_M_begin_58 : decode c_M_begin 58 = .ok (.iconst 1, 1) := by decide +kernel
theorem d_M_begin_59 : decode c_M_begin 59 = .ok (.ireturn, 1) := by decide +kernel
theorem d_M_isTable_0 : decode c_M_isTable 0 = .ok (.iload_n 0, 1) := by decide +kernel
theorem d_M_isTable_1 : decode c_M_isTable 1 = .ok (.ifCond .lt 13, 3) := by decide +kernel
theorem d_M_isTable_4 : decode c_M_isTable 4 = .ok (.iload_n 0, 1) := by decide +kernel
theorem d_M_isTable_5 : decode c_M_isTable 5 = .ok (.bipush 8, 2) := by decide +kernel
theorem d_M_isTable_7 : decode c_M_isTable 7 = .ok (.if_icmp .ge 7, 3) := by decide +kernel
theorem d_M_isTable_10 : decode c_M_isTable 10 = .ok (.iconst 1, 1) := by decide +kernel
theorem d_M_isTable_11 : decode c_M_isTable 11 = .ok (.goto 4, 3) := by decide +kernel
theorem d_M_isTable_14 : decode c_M_isTable 14 = .ok (.iconst 0, 1) := by decide +kernel
theorem d_M_isTable_15 : decode c_M_isTable 15 = .ok (.ireturn, 1) := by decide +kernel
theorem d_M_isField_0 : decode c_M_isField 0 = .ok (.iload_n 0, 1) := by decide +kernel
theorem d_M_isField_1 : decode c_M_isField 1 = .ok (.ifCond .eq 15, 3) := by decide +kernel
theorem d_M_isField_4 : decode c_M_isField 4 = .ok (.iload_n 0, 1) := by decide +kernel
theorem d_M_isField_5 : decode c_M_isField 5 = .ok (.iconst 2, 1) := by decide +kernel
theorem d_M_isField_6 : decode c_M_isField 6 = .ok (.if_icmp .lt 14, 3) := by decide +kernel
theorem d_M_isField_9 : decode c_M_isField 9 = .ok (.iload_n 0, 1) := by decide +kernel
theorem d_M_isField_10 : decode c_M_isField 10 = .ok (.sipush 251, 3) := by decide +kernel
theorem d_M_isField_13 : decode c_M_isField 13 = .ok (.if_icmp .gt 7, 3) := by decide +kernel
theorem d_M_isField_16 : decode c_M_isField 16 = .ok (.iconst 1, 1) := by decide +kernel
theorem d_M_isField_17 : decode c_M_isField 17 = .ok (.goto 4, 3) := by decide +kernel
theorem d_M_isField_20 : decode c_M_isField 20 = .ok (.iconst 0, 1) := by decide +kernel
theorem d_M_isField_21 : decode c_M_isField 21 = .ok (.istore_n 1, 1) := by decide +kernel
theorem d_M_isField_22 : decode c_M_isField 22 = .ok (.iconst 2, 1) := by decide +kernel
theorem d_M_isField_23 : decode c_M_isField 23 = .ok (.istore_n 2, 1) := by decide +kernel
theorem d_M_isField_24 : decode c_M_isField 24 = .ok (.iload_n 2, 1) := by decide +kernel
theorem d_M_isField_25 : decode c_M_isField 25 = .ok (.iload_n 2, 1) := by decide +kernel
theorem d_M_isField_26 : decode c_M_isField 26 = .ok (.imul, 1) := by decide +kernel
theorem d_M_isField_27 : decode c_M_isField 27 = .ok (.iload_n 0, 1) := by decide +kernel
theorem d_M_isField_28 : decode c_M_isField 28 = .ok (.if_icmp .gt 25, 3) := by decide +kernel
theorem d_M_isField_31 : decode c_M_isField 31 = .ok (.iload_n 1, 1) := by decide +kernel
theorem d_M_isField_32 : decode c_M_isField 32 = .ok (.ifCond .eq 21, 3) := by decide +kernel
theorem d_M_isField_35 : decode c_M_isField 35 = .ok (.iload_n 0, 1) := by decide +kernel
theorem d_M_isField_36 : decode c_M_isField 36 = .ok (.iload_n 2, 1) := by decide +kernel
theorem d_M_isField_37 : decode c_M_isField 37 = .ok (.irem, 1) := by decide +kernel
theorem d_M_isField_38 : decode c_M_isField 38 = .ok (.ifCond .eq 7, 3) := by decide +kernel
theorem d_M_isField_41 : decode c_M_isField 41 = .ok (.iconst 1, 1) := by decide +kernel
theorem d_M_isField_42 : decode c_M_isField 42 = .ok (.goto 4, 3) := by decide +kernel
theorem d_M_isField_45 : decode c_M_isField 45 = .ok (.iconst 0, 1) := by decide +kernel
theorem d_M_isField_46 : decode c_M_isField 46 = .ok (.istore_n 1, 1) := by decide +kernel
theorem d_M_isField_47 : decode c_M_isField 47 = .ok (.iinc 2 1, 3) := by decide +kernel
theorem d_M_isField_50 : decode c_M_isField 50 = .ok (.goto (-26), 3) := by decide +kernel
theorem d_M_isField_53 : decode c_M_isField 53 = .ok (.iload_n 1, 1) := by decide +kernel
theorem d_M_isField_54 : decode c_M_isField 54 = .ok (.ireturn, 1) := by decide +kernel
theorem d_M_empty_0 : decode c_M_empty 0 = .ok (.aload_n 0, 1) := by decide +kernel
theorem d_M_empty_1 : decode c_M_empty 1 = .ok (.iload_n 1, 1) := by decide +kernel
theorem d_M_empty_2 : decode c_M_empty 2 = .ok (.putfield 105, 3) := by decide +kernel
theorem d_M_empty_5 : decode c_M_empty 5 = .ok (.aload_n 0, 1) := by decide +kernel
theorem d_M_empty_6 : decode c_M_empty 6 = .ok (.iload_n 2, 1) := by decide +kernel
theorem d_M_empty_7 : decode c_M_empty 7 = .ok (.putfield 108, 3) := by decide +kernel
theorem d_M_empty_10 : decode c_M_empty 10 = .ok (.aload_n 0, 1) := by decide +kernel
theorem d_M_empty_11 : decode c_M_empty 11 = .ok (.iload_n 3, 1) := by decide +kernel
theorem d_M_empty_12 : decode c_M_empty 12 = .ok (.putfield 111, 3) := by decide +kernel
theorem d_M_empty_15 : decode c_M_empty 15 = .ok (.iconst 0, 1) := by decide +kernel
theorem d_M_empty_16 : decode c_M_empty 16 = .ok (.istore 4, 2) := by decide +kernel
theorem d_M_empty_18 : decode c_M_empty 18 = .ok (.iload 4, 2) := by decide +kernel
theorem d_M_empty_20 : decode c_M_empty 20 = .ok (.sipush 144, 3) := by decide +kernel
theorem d_M_empty_23 : decode c_M_empty 23 = .ok (.if_icmp .ge 38, 3) := by decide +kernel
theorem d_M_empty_26 : decode c_M_empty 26 = .ok (.aload_n 0, 1) := by decide +kernel
theorem d_M_empty_27 : decode c_M_empty 27 = .ok (.getfield 79, 3) := by decide +kernel
theorem d_M_empty_30 : decode c_M_empty 30 = .ok (.iload 4, 2) := by decide +kernel
theorem d_M_empty_32 : decode c_M_empty 32 = .ok (.aaload, 1) := by decide +kernel
theorem d_M_empty_33 : decode c_M_empty 33 = .ok (.invokevirtual 114, 3) := by decide +kernel
theorem d_M_empty_36 : decode c_M_empty 36 = .ok (.aload_n 0, 1) := by decide +kernel
theorem d_M_empty_37 : decode c_M_empty 37 = .ok (.getfield 83, 3) := by decide +kernel
theorem d_M_empty_40 : decode c_M_empty 40 = .ok (.iload 4, 2) := by decide +kernel
theorem d_M_empty_42 : decode c_M_empty 42 = .ok (.aaload, 1) := by decide +kernel
theorem d_M_empty_43 : decode c_M_empty 43 = .ok (.lconst 1, 1) := by decide +kernel
theorem d_M_empty_44 : decode c_M_empty 44 = .ok (.invokevirtual 117, 3) := by decide +kernel
theorem d_M_empty_47 : decode c_M_empty 47 = .ok (.aload_n 0, 1) := by decide +kernel
theorem d_M_empty_48 : decode c_M_empty 48 = .ok (.getfield 86, 3) := by decide +kernel
theorem d_M_empty_51 : decode c_M_empty 51 = .ok (.iload 4, 2) := by decide +kernel
theorem d_M_empty_53 : decode c_M_empty 53 = .ok (.iconst 0, 1) := by decide +kernel
theorem d_M_empty_54 : decode c_M_empty 54 = .ok (.iastore, 1) := by decide +kernel
theorem d_M_empty_55 : decode c_M_empty 55 = .ok (.iinc 4 1, 3) := by decide +kernel
theorem d_M_empty_58 : decode c_M_empty 58 = .ok (.goto (-40), 3) := by decide +kernel
theorem d_M_empty_61 : decode c_M_empty 61 = .ok (.return_, 1) := by decide +kernel
theorem d_M_keep_0 : decode c_M_keep 0 = .ok (.aload_n 0, 1) := by decide +kernel
theorem d_M_keep_1 : decode c_M_keep 1 = .ok (.getfield 53, 3) := by decide +kernel
theorem d_M_keep_4 : decode c_M_keep 4 = .ok (.iload_n 1, 1) := by decide +kernel
theorem d_M_keep_5 : decode c_M_keep 5 = .ok (.aload_n 0, 1) := by decide +kernel
theorem d_M_keep_6 : decode c_M_keep 6 = .ok (.getfield 105, 3) := by decide +kernel
theorem d_M_keep_9 : decode c_M_keep 9 = .ok (.iastore, 1) := by decide +kernel
theorem d_M_keep_10 : decode c_M_keep 10 = .ok (.aload_n 0, 1) := by decide +kernel
theorem d_M_keep_11 : decode c_M_keep 11 = .ok (.getfield 57, 3) := by decide +kernel
theorem d_M_keep_14 : decode c_M_keep 14 = .ok (.iload_n 1, 1) := by decide +kernel
theorem d_M_keep_15 : decode c_M_keep 15 = .ok (.aload_n 0, 1) := by decide +kernel
theorem d_M_keep_16 : decode c_M_keep 16 = .ok (.getfield 108, 3) := by decide +kernel
theorem d_M_keep_19 : decode c_M_keep 19 = .ok (.iastore, 1) := by decide +kernel
theorem d_M_keep_20 : decode c_M_keep 20 = .ok (.aload_n 0, 1) := by decide +kernel
theorem d_M_keep_21 : decode c_M_keep 21 = .ok (.getfield 60, 3) := by decide +kernel
theorem d_M_keep_24 : decode c_M_keep 24 = .ok (.iload_n 1, 1) := by decide +kernel
theorem d_M_keep_25 : decode c_M_keep 25 = .ok (.aload_n 0, 1) := by decide +kernel
theorem d_M_keep_26 : decode c_M_keep 26 = .ok (.getfield 111, 3) := by decide +kernel
theorem d_M_keep_29 : decode c_M_keep 29 = .ok (.iastore, 1) := by decide +kernel
theorem d_M_keep_30 : decode c_M_keep 30 = .ok (.iconst 0, 1) := by decide +kernel
theorem d_M_keep_31 : decode c_M_keep 31 = .ok (.istore_n 2, 1) := by decide +kernel
theorem d_M_keep_32 : decode c_M_keep 32 = .ok (.iload_n 2, 1) := by decide +kernel
theorem d_M_keep_33 : decode c_M_keep 33 = .ok (.bipush 12, 2) := by decide +kernel
theorem d_M_keep_35 : decode c_M_keep 35 = .ok (.if_icmp .ge 118, 3) := by decide +kernel
theorem d_M_keep_38 : decode c_M_keep 38 = .ok (.aload_n 0, 1) := by decide +kernel
theorem d_M_keep_39 : decode c_M_keep 39 = .ok (.getfield 67, 3) := by decide +kernel
theorem d_M_keep_42 : decode c_M_keep 42 = .ok (.bipush 12, 2) := by decide +kernel
theorem d_M_keep_44 : decode c_M_keep 44 = .ok (.iload_n 1, 1) := by decide +kernel
theorem d_M_keep_45 : decode c_M_keep 45 = .ok (.imul, 1) := by decide +kernel
theorem d_M_keep_46 : decode c_M_keep 46 = .ok (.iload_n 2, 1) := by decide +kernel
theorem d_M_keep_47 : decode c_M_keep 47 = .ok (.iadd, 1) := by decide +kernel
theorem d_M_keep_48 : decode c_M_keep 48 = .ok (.aload_n 0, 1) := by decide +kernel
theorem d_M_keep_49 : decode c_M_keep 49 = .ok (.getfield 89, 3) := by decide +kernel
theorem d_M_keep_52 : decode c_M_keep 52 = .ok (.iload_n 2, 1) := by decide +kernel
theorem d_M_keep_53 : decode c_M_keep 53 = .ok (.iaload, 1) := by decide +kernel
theorem d_M_keep_54 : decode c_M_keep 54 = .ok (.iastore, 1) := by decide +kernel
theorem d_M_keep_55 : decode c_M_keep 55 = .ok (.iconst 0, 1) := by decide +kernel
theorem d_M_keep_56 : decode c_M_keep 56 = .ok (.istore_n 3, 1) := by decide +kernel
theorem d_M_keep_57 : decode c_M_keep 57 = .ok (.iload_n 3, 1) := by decide +kernel
theorem d_M_keep_58 : decode c_M_keep 58 = .ok (.bipush 12, 2) := by decide +kernel
theorem d_M_keep_60 : decode c_M_keep 60 = .ok (.if_icmp .ge 87, 3) := by decide +kernel
theorem d_M_keep_63 : decode c_M_keep 63 = .ok (.bipush 12, 2) := by decide +kernel
theorem d_M_keep_65 : decode c_M_keep 65 = .ok (.iload_n 2, 1) := by decide +kernel
theorem d_M_keep_66 : decode c_M_keep 66 = .ok (.imul, 1) := by decide +kernel
theorem d_M_keep_67 : decode c_M_keep 67 = .ok (.iload_n 3, 1) := by decide +kernel
theorem d_M_keep_68 : decode c_M_keep 68 = .ok (.iadd, 1) := by decide +kernel
theorem d_M_keep_69 : decode c_M_keep 69 = .ok (.istore 4, 2) := by decide +kernel
theorem d_M_keep_71 : decode c_M_keep 71 = .ok (.aload_n 0, 1) := by decide +kernel
theorem d_M_keep_72 : decode c_M_keep 72 = .ok (.getfield 79, 3) := by decide +kernel
theorem d_M_keep_75 : decode c_M_keep 75 = .ok (.iload 4, 2) := by decide +kernel
theorem d_M_keep_77 : decode c_M_keep 77 = .ok (.aaload, 1) := by decide +kernel
theorem d_M_keep_78 : decode c_M_keep 78 = .ok (.aload_n 0, 1) := by decide +kernel
theorem d_M_keep_79 : decode c_M_keep 79 = .ok (.getfield 70, 3) := by decide +kernel
theorem d_M_keep_82 : decode c_M_keep 82 = .ok (.bipush 16, 2) := by decide +kernel
theorem d_M_keep_84 : decode c_M_keep 84 = .ok (.sipush 144, 3) := by decide +kernel
theorem d_M_keep_87 : decode c_M_keep 87 = .ok (.iload_n 1, 1) := by decide +kernel
theorem d_M_keep_88 : decode c_M_keep 88 = .ok (.imul, 1) := by decide +kernel
theorem d_M_keep_89 : decode c_M_keep 89 = .ok (.iload 4, 2) := by decide +kernel
theorem d_M_keep_91 : decode c_M_keep 91 = .ok (.iadd, 1) := by decide +kernel
theorem d_M_keep_92 : decode c_M_keep 92 = .ok (.imul, 1) := by decide +kernel
theorem d_M_keep_93 : decode c_M_keep 93 = .ok (.invokestatic 124, 3) := by decide +kernel
theorem d_M_keep_96 : decode c_M_keep 96 = .ok (.aload_n 0, 1) := by decide +kernel
theorem d_M_keep_97 : decode c_M_keep 97 = .ok (.getfield 83, 3) := by decide +kernel
theorem d_M_keep_100 : decode c_M_keep 100 = .ok (.iload 4, 2) := by decide +kernel
theorem d_M_keep_102 : decode c_M_keep 102 = .ok (.aaload, 1) := by decide +kernel
theorem d_M_keep_103 : decode c_M_keep 103 = .ok (.aload_n 0, 1) := by decide +kernel
theorem d_M_keep_104 : decode c_M_keep 104 = .ok (.getfield 73, 3) := by decide +kernel
theorem d_M_keep_107 : decode c_M_keep 107 = .ok (.bipush 16, 2) := by decide +kernel
theorem d_M_keep_109 : decode c_M_keep 109 = .ok (.sipush 144, 3) := by decide +kernel
theorem d_M_keep_112 : decode c_M_keep 112 = .ok (.iload_n 1, 1) := by decide +kernel
theorem d_M_keep_113 : decode c_M_keep 113 = .ok (.imul, 1) := by decide +kernel
theorem d_M_keep_114 : decode c_M_keep 114 = .ok (.iload 4, 2) := by decide +kernel
theorem d_M_keep_116 : decode c_M_keep 116 = .ok (.iadd, 1) := by decide +kernel
theorem d_M_keep_117 : decode c_M_keep 117 = .ok (.imul, 1) := by decide +kernel
theorem d_M_keep_118 : decode c_M_keep 118 = .ok (.invokestatic 124, 3) := by decide +kernel
theorem d_M_keep_121 : decode c_M_keep 121 = .ok (.aload_n 0, 1) := by decide +kernel
theorem d_M_keep_122 : decode c_M_keep 122 = .ok (.getfield 76, 3) := by decide +kernel
theorem d_M_keep_125 : decode c_M_keep 125 = .ok (.sipush 144, 3) := by decide +kernel
theorem d_M_keep_128 : decode c_M_keep 128 = .ok (.iload_n 1, 1) := by decide +kernel
theorem d_M_keep_129 : decode c_M_keep 129 = .ok (.imul, 1) := by decide +kernel
theorem d_M_keep_130 : decode c_M_keep 130 = .ok (.iload 4, 2) := by decide +kernel
theorem d_M_keep_132 : decode c_M_keep 132 = .ok (.iadd, 1) := by decide +kernel
theorem d_M_keep_133 : decode c_M_keep 133 = .ok (.aload_n 0, 1) := by decide +kernel
theorem d_M_keep_134 : decode c_M_keep 134 = .ok (.getfield 86, 3) := by decide +kernel
theorem d_M_keep_137 : decode c_M_keep 137 = .ok (.iload 4, 2) := by decide +kernel
theorem d_M_keep_139 : decode c_M_keep 139 = .ok (.iaload, 1) := by decide +kernel
theorem d_M_keep_140 : decode c_M_keep 140 = .ok (.iastore, 1) := by decide +kernel
theorem d_M_keep_141 : decode c_M_keep 141 = .ok (.iinc 3 1, 3) := by decide +kernel
theorem d_M_keep_144 : decode c_M_keep 144 = .ok (.goto (-87), 3) := by decide +kernel
theorem d_M_keep_147 : decode c_M_keep 147 = .ok (.iinc 2 1, 3) := by decide +kernel
theorem d_M_keep_150 : decode c_M_keep 150 = .ok (.goto (-118), 3) := by decide +kernel
theorem d_M_keep_153 : decode c_M_keep 153 = .ok (.return_, 1) := by decide +kernel
theorem d_M_store_0 : decode c_M_store 0 = .ok (.aload_n 1, 1) := by decide +kernel
theorem d_M_store_1 : decode c_M_store 1 = .ok (.iload_n 2, 1) := by decide +kernel
theorem d_M_store_2 : decode c_M_store 2 = .ok (.aload_n 0, 1) := by decide +kernel
theorem d_M_store_3 : decode c_M_store 3 = .ok (.getfield 13, 3) := by decide +kernel
theorem d_M_store_6 : decode c_M_store 6 = .ok (.ifCond .eq 11, 3) := by decide +kernel
theorem d_M_store_9 : decode c_M_store 9 = .ok (.aload_n 0, 1) := by decide +kernel
theorem d_M_store_10 : decode c_M_store 10 = .ok (.getfield 20, 3) := by decide +kernel
theorem d_M_store_13 : decode c_M_store 13 = .ok (.ineg, 1) := by decide +kernel
theorem d_M_store_14 : decode c_M_store 14 = .ok (.goto 7, 3) := by decide +kernel
theorem d_M_store_17 : decode c_M_store 17 = .ok (.aload_n 0, 1) := by decide +kernel
theorem d_M_store_18 : decode c_M_store 18 = .ok (.getfield 20, 3) := by decide +kernel
theorem d_M_store_21 : decode c_M_store 21 = .ok (.iastore, 1) := by decide +kernel
theorem d_M_store_22 : decode c_M_store 22 = .ok (.iconst 0, 1) := by decide +kernel
theorem d_M_store_23 : decode c_M_store 23 = .ok (.istore_n 3, 1) := by decide +kernel
theorem d_M_store_24 : decode c_M_store 24 = .ok (.iload_n 3, 1) := by decide +kernel
theorem d_M_store_25 : decode c_M_store 25 = .ok (.aload_n 0, 1) := by decide +kernel
theorem d_M_store_26 : decode c_M_store 26 = .ok (.getfield 20, 3) := by decide +kernel
theorem d_M_store_29 : decode c_M_store 29 = .ok (.if_icmp .ge 22, 3) := by decide +kernel
theorem d_M_store_32 : decode c_M_store 32 = .ok (.aload_n 1, 1) := by decide +kernel
theorem d_M_store_33 : decode c_M_store 33 = .ok (.iload_n 2, 1) := by decide +kernel
theorem d_M_store_34 : decode c_M_store 34 = .ok (.iconst 1, 1) := by decide +kernel
theorem d_M_store_35 : decode c_M_store 35 = .ok (.iadd, 1) := by decide +kernel
theorem d_M_store_36 : decode c_M_store 36 = .ok (.iload_n 3, 1) := by decide +kernel
theorem d_M_store_37 : decode c_M_store 37 = .ok (.iadd, 1) := by decide +kernel
theorem d_M_store_38 : decode c_M_store 38 = .ok (.aload_n 0, 1) := by decide +kernel
theorem d_M_store_39 : decode c_M_store 39 = .ok (.getfield 98, 3) := by decide +kernel
theorem d_M_store_42 : decode c_M_store 42 = .ok (.iload_n 3, 1) := by decide +kernel
theorem d_M_store_43 : decode c_M_store 43 = .ok (.iaload, 1) := by decide +kernel
theorem d_M_store_44 : decode c_M_store 44 = .ok (.iastore, 1) := by decide +kernel
theorem d_M_store_45 : decode c_M_store 45 = .ok (.iinc 3 1, 3) := by decide +kernel
theorem d_M_store_48 : decode c_M_store 48 = .ok (.goto (-24), 3) := by decide +kernel
theorem d_M_store_51 : decode c_M_store 51 = .ok (.return_, 1) := by decide +kernel
theorem d_M_put_0 : decode c_M_put 0 = .ok (.aload_n 0, 1) := by decide +kernel
theorem d_M_put_1 : decode c_M_put 1 = .ok (.iload_n 1, 1) := by decide +kernel
theorem d_M_put_2 : decode c_M_put 2 = .ok (.iload_n 2, 1) := by decide +kernel
theorem d_M_put_3 : decode c_M_put 3 = .ok (.iload_n 3, 1) := by decide +kernel
theorem d_M_put_4 : decode c_M_put 4 = .ok (.invokevirtual 181, 3) := by decide +kernel
theorem d_M_put_7 : decode c_M_put 7 = .ok (.ifCond .eq 28, 3) := by decide +kernel
theorem d_M_put_10 : decode c_M_put 10 = .ok (.aload_n 0, 1) := by decide +kernel
theorem d_M_put_11 : decode c_M_put 11 = .ok (.getfield 63, 3) := by decide +kernel
theorem d_M_put_14 : decode c_M_put 14 = .ok (.iload_n 1, 1) := by decide +kernel
theorem d_M_put_15 : decode c_M_put 15 = .ok (.baload, 1) := by decide +kernel
theorem d_M_put_16 : decode c_M_put 16 = .ok (.ifCond .eq 19, 3) := by decide +kernel
theorem d_M_put_19 : decode c_M_put 19 = .ok (.iload 4, 2) := by decide +kernel
theorem d_M_put_21 : decode c_M_put 21 = .ok (.sipush (-999), 3) := by decide +kernel
theorem d_M_put_24 : decode c_M_put 24 = .ok (.if_icmp .lt 11, 3) := by decide +kernel
theorem d_M_put_27 : decode c_M_put 27 = .ok (.iload 4, 2) := by decide +kernel
theorem d_M_put_29 : decode c_M_put 29 = .ok (.sipush 999, 3) := by decide +kernel
theorem d_M_put_32 : decode c_M_put 32 = .ok (.if_icmp .le 5, 3) := by decide +kernel
theorem d_M_put_35 : decode c_M_put 35 = .ok (.iconst 0, 1) := by decide +kernel
theorem d_M_put_36 : decode c_M_put 36 = .ok (.ireturn, 1) := by decide +kernel
theorem d_M_put_37 : decode c_M_put 37 = .ok (.sipush 144, 3) := by decide +kernel
theorem d_M_put_40 : decode c_M_put 40 = .ok (.iload_n 1, 1) := by decide +kernel
theorem d_M_put_41 : decode c_M_put 41 = .ok (.imul, 1) := by decide +kernel
theorem d_M_put_42 : decode c_M_put 42 = .ok (.bipush 12, 2) := by decide +kernel
theorem d_M_put_44 : decode c_M_put 44 = .ok (.iload_n 2, 1) := by decide +kernel
theorem d_M_put_45 : decode c_M_put 45 = .ok (.imul, 1) := by decide +kernel
theorem d_M_put_46 : decode c_M_put 46 = .ok (.iadd, 1) := by decide +kernel
theorem d_M_put_47 : decode c_M_put 47 = .ok (.iload_n 3, 1) := by decide +kernel
theorem d_M_put_48 : decode c_M_put 48 = .ok (.iadd, 1) := by decide +kernel
theorem d_M_put_49 : decode c_M_put 49 = .ok (.istore 5, 2) := by decide +kernel
theorem d_M_put_51 : decode c_M_put 51 = .ok (.aload_n 0, 1) := by decide +kernel
theorem d_M_put_52 : decode c_M_put 52 = .ok (.getfield 41, 3) := by decide +kernel
theorem d_M_put_55 : decode c_M_put 55 = .ok (.iload 4, 2) := by decide +kernel
theorem d_M_put_57 : decode c_M_put 57 = .ok (.i2l, 1) := by decide +kernel
theorem d_M_put_58 : decode c_M_put 58 = .ok (.invokevirtual 117, 3) := by decide +kernel
theorem d_M_put_61 : decode c_M_put 61 = .ok (.aload_n 0, 1) := by decide +kernel
theorem d_M_put_62 : decode c_M_put 62 = .ok (.getfield 41, 3) := by decide +kernel
theorem d_M_put_65 : decode c_M_put 65 = .ok (.aload_n 0, 1) := by decide +kernel
theorem d_M_put_66 : decode c_M_put 66 = .ok (.getfield 70, 3) := by decide +kernel
theorem d_M_put_69 : decode c_M_put 69 = .ok (.bipush 16, 2) := by decide +kernel
theorem d_M_put_71 : decode c_M_put 71 = .ok (.iload 5, 2) := by decide +kernel
theorem d_M_put_73 : decode c_M_put 73 = .ok (.imul, 1) := by decide +kernel
theorem d_M_put_74 : decode c_M_put 74 = .ok (.invokestatic 124, 3) := by decide +kernel
theorem d_M_put_77 : decode c_M_put 77 = .ok (.aload_n 0, 1) := by decide +kernel
theorem d_M_put_78 : decode c_M_put 78 = .ok (.getfield 76, 3) := by decide +kernel
theorem d_M_put_81 : decode c_M_put 81 = .ok (.iload 5, 2) := by decide +kernel
theorem d_M_put_83 : decode c_M_put 83 = .ok (.aload_n 0, 1) := by decide +kernel
theorem d_M_put_84 : decode c_M_put 84 = .ok (.getfield 53, 3) := by decide +kernel
theorem d_M_put_87 : decode c_M_put 87 = .ok (.iload_n 1, 1) := by decide +kernel
theorem d_M_put_88 : decode c_M_put 88 = .ok (.iaload, 1) := by decide +kernel
theorem d_M_put_89 : decode c_M_put 89 = .ok (.ifCond .ne 7, 3) := by decide +kernel
theorem d_M_put_92 : decode c_M_put 92 = .ok (.iconst 0, 1) := by decide +kernel
theorem d_M_put_93 : decode c_M_put 93 = .ok (.goto 26, 3) := by decide +kernel
theorem d_M_put_96 : decode c_M_put 96 = .ok (.iload 4, 2) := by decide +kernel
theorem d_M_put_98 : decode c_M_put 98 = .ok (.aload_n 0, 1) := by decide +kernel
theorem d_M_put_99 : decode c_M_put 99 = .ok (.getfield 53, 3) := by decide +kernel
theorem d_M_put_102 : decode c_M_put 102 = .ok (.iload_n 1, 1) := by decide +kernel
theorem d_M_put_103 : decode c_M_put 103 = .ok (.iaload, 1) := by decide +kernel
theorem d_M_put_104 : decode c_M_put 104 = .ok (.irem, 1) := by decide +kernel
theorem d_M_put_105 : decode c_M_put 105 = .ok (.aload_n 0, 1) := by decide +kernel
theorem d_M_put_106 : decode c_M_put 106 = .ok (.getfield 53, 3) := by decide +kernel
theorem d_M_put_109 : decode c_M_put 109 = .ok (.iload_n 1, 1) := by decide +kernel
theorem d_M_put_110 : decode c_M_put 110 = .ok (.iaload, 1) := by decide +kernel
theorem d_M_put_111 : decode c_M_put 111 = .ok (.iadd, 1) := by decide +kernel
theorem d_M_put_112 : decode c_M_put 112 = .ok (.aload_n 0, 1) := by decide +kernel
theorem d_M_put_113 : decode c_M_put 113 = .ok (.getfield 53, 3) := by decide +kernel
theorem d_M_put_116 : decode c_M_put 116 = .ok (.iload_n 1, 1) := by decide +kernel
theorem d_M_put_117 : decode c_M_put 117 = .ok (.iaload, 1) := by decide +kernel
theorem d_M_put_118 : decode c_M_put 118 = .ok (.irem, 1) := by decide +kernel
theorem d_M_put_119 : decode c_M_put 119 = .ok (.iastore, 1) := by decide +kernel
theorem d_M_put_120 : decode c_M_put 120 = .ok (.iconst 1, 1) := by decide +kernel
theorem d_M_put_121 : decode c_M_put 121 = .ok (.ireturn, 1) := by decide +kernel
theorem d_M_isCell_0 : decode c_M_isCell 0 = .ok (.iload_n 1, 1) := by decide +kernel
theorem d_M_isCell_1 : decode c_M_isCell 1 = .ok (.invokestatic 101, 3) := by decide +kernel
theorem d_M_isCell_4 : decode c_M_isCell 4 = .ok (.ifCond .eq 35, 3) := by decide +kernel
theorem d_M_isCell_7 : decode c_M_isCell 7 = .ok (.iload_n 2, 1) := by decide +kernel
theorem d_M_isCell_8 : decode c_M_isCell 8 = .ok (.ifCond .lt 31, 3) := by decide +kernel
theorem d_M_isCell_11 : decode c_M_isCell 11 = .ok (.iload_n 2, 1) := by decide +kernel
theorem d_M_isCell_12 : decode c_M_isCell 12 = .ok (.aload_n 0, 1) := by decide +kernel
theorem d_M_isCell_13 : decode c_M_isCell 13 = .ok (.getfield 57, 3) := by decide +kernel
theorem d_M_isCell_16 : decode c_M_isCell 16 = .ok (.iload_n 1, 1) := by decide +kernel
theorem d_M_isCell_17 : decode c_M_isCell 17 = .ok (.iaload, 1) := by decide +kernel
theorem d_M_isCell_18 : decode c_M_isCell 18 = .ok (.if_icmp .ge 21, 3) := by decide +kernel
theorem d_M_isCell_21 : decode c_M_isCell 21 = .ok (.iload_n 3, 1) := by decide +kernel
theorem d_M_isCell_22 : decode c_M_isCell 22 = .ok (.ifCond .lt 17, 3) := by decide +kernel
theorem d_M_isCell_25 : decode c_M_isCell 25 = .ok (.iload_n 3, 1) := by decide +kernel
theorem d_M_isCell_26 : decode c_M_isCell 26 = .ok (.aload_n 0, 1) := by decide +kernel
theorem d_M_isCell_27 : decode c_M_isCell 27 = .ok (.getfield 60, 3) := by decide +kernel
theorem d_M_isCell_30 : decode c_M_isCell 30 = .ok (.iload_n 1, 1) := by decide +kernel
theorem d_M_isCell_31 : decode c_M_isCell 31 = .ok (.iaload, 1) := by decide +kernel
theorem d_M_isCell_32 : decode c_M_isCell 32 = .ok (.if_icmp .ge 7, 3) := by decide +kernel
theorem d_M_isCell_35 : decode c_M_isCell 35 = .ok (.iconst 1, 1) := by decide +kernel
theorem d_M_isCell_36 : decode c_M_isCell 36 = .ok (.goto 4, 3) := by decide +kernel
theorem d_M_isCell_39 : decode c_M_isCell 39 = .ok (.iconst 0, 1) := by decide +kernel
theorem d_M_isCell_40 : decode c_M_isCell 40 = .ok (.ireturn, 1) := by decide +kernel
theorem d_M_reduce_0 : decode c_M_reduce 0 = .ok (.iload_n 1, 1) := by decide +kernel
theorem d_M_reduce_1 : decode c_M_reduce 1 = .ok (.invokestatic 101, 3) := by decide +kernel
theorem d_M_reduce_4 : decode c_M_reduce 4 = .ok (.ifCond .ne 5, 3) := by decide +kernel
theorem d_M_reduce_7 : decode c_M_reduce 7 = .ok (.iconst (-1), 1) := by decide +kernel
theorem d_M_reduce_8 : decode c_M_reduce 8 = .ok (.ireturn, 1) := by decide +kernel
theorem d_M_reduce_9 : decode c_M_reduce 9 = .ok (.aload_n 0, 1) := by decide +kernel
theorem d_M_reduce_10 : decode c_M_reduce 10 = .ok (.getfield 63, 3) := by decide +kernel
theorem d_M_reduce_13 : decode c_M_reduce 13 = .ok (.iload_n 1, 1) := by decide +kernel
theorem d_M_reduce_14 : decode c_M_reduce 14 = .ok (.baload, 1) := by decide +kernel
theorem d_M_reduce_15 : decode c_M_reduce 15 = .ok (.ifCond .ne 10, 3) := by decide +kernel
theorem d_M_reduce_18 : decode c_M_reduce 18 = .ok (.aload_n 0, 1) := by decide +kernel
theorem d_M_reduce_19 : decode c_M_reduce 19 = .ok (.getfield 57, 3) := by decide +kernel
theorem d_M_reduce_22 : decode c_M_reduce 22 = .ok (.iload_n 1, 1) := by decide +kernel
theorem d_M_reduce_23 : decode c_M_reduce 23 = .ok (.iaload, 1) := by decide +kernel
theorem d_M_reduce_24 : decode c_M_reduce 24 = .ok (.ireturn, 1) := by decide +kernel
theorem d_M_reduce_25 : decode c_M_reduce 25 = .ok (.aload_n 0, 1) := by decide +kernel
theorem d_M_reduce_26 : decode c_M_reduce 26 = .ok (.iload_n 1, 1) := by decide +kernel
theorem d_M_reduce_27 : decode c_M_reduce 27 = .ok (.invokevirtual 185, 3) := by decide +kernel
theorem d_M_reduce_30 : decode c_M_reduce 30 = .ok (.aload_n 0, 1) := by decide +kernel
theorem d_M_reduce_31 : decode c_M_reduce 31 = .ok (.iload_n 1, 1) := by decide +kernel
theorem d_M_reduce_32 : decode c_M_reduce 32 = .ok (.invokevirtual 188, 3) := by decide +kernel
theorem d_M_reduce_35 : decode c_M_reduce 35 = .ok (.ireturn, 1) := by decide +kernel
theorem d_M_load_0 : decode c_M_load 0 = .ok (.aload_n 0, 1) := by decide +kernel
theorem d_M_load_1 : decode c_M_load 1 = .ok (.aload_n 0, 1) := by decide +kernel
theorem d_M_load_2 : decode c_M_load 2 = .ok (.getfield 53, 3) := by decide +kernel
theorem d_M_load_5 : decode c_M_load 5 = .ok (.iload_n 1, 1) := by decide +kernel
theorem d_M_load_6 : decode c_M_load 6 = .ok (.iaload, 1) := by decide +kernel
theorem d_M_load_7 : decode c_M_load 7 = .ok (.aload_n 0, 1) := by decide +kernel
theorem d_M_load_8 : decode c_M_load 8 = .ok (.getfield 57, 3) := by decide +kernel
theorem d_M_load_11 : decode c_M_load 11 = .ok (.iload_n 1, 1) := by decide +kernel
theorem d_M_load_12 : decode c_M_load 12 = .ok (.iaload, 1) := by decide +kernel
theorem d_M_load_13 : decode c_M_load 13 = .ok (.aload_n 0, 1) := by decide +kernel
theorem d_M_load_14 : decode c_M_load 14 = .ok (.getfield 60, 3) := by decide +kernel
theorem d_M_load_17 : decode c_M_load 17 = .ok (.iload_n 1, 1) := by decide +kernel
theorem d_M_load_18 : decode c_M_load 18 = .ok (.iaload, 1) := by decide +kernel
theorem d_M_load_19 : decode c_M_load 19 = .ok (.invokevirtual 127, 3) := by decide +kernel
theorem d_M_load_22 : decode c_M_load 22 = .ok (.iconst 0, 1) := by decide +kernel
theorem d_M_load_23 : decode c_M_load 23 = .ok (.istore_n 2, 1) := by decide +kernel
theorem d_M_load_24 : decode c_M_load 24 = .ok (.iload_n 2, 1) := by decide +kernel
theorem d_M_load_25 : decode c_M_load 25 = .ok (.aload_n 0, 1) := by decide +kernel
theorem d_M_load_26 : decode c_M_load 26 = .ok (.getfield 108, 3) := by decide +kernel
theorem d_M_load_29 : decode c_M_load 29 = .ok (.if_icmp .ge 55, 3) := by decide +kernel
theorem d_M_load_32 : decode c_M_load 32 = .ok (.aload_n 0, 1) := by decide +kernel
theorem d_M_load_33 : decode c_M_load 33 = .ok (.getfield 89, 3) := by decide +kernel
theorem d_M_load_36 : decode c_M_load 36 = .ok (.iload_n 2, 1) := by decide +kernel
theorem d_M_load_37 : decode c_M_load 37 = .ok (.aload_n 0, 1) := by decide +kernel
theorem d_M_load_38 : decode c_M_load 38 = .ok (.getfield 67, 3) := by decide +kernel
theorem d_M_load_41 : decode c_M_load 41 = .ok (.bipush 12, 2) := by decide +kernel
theorem d_M_load_43 : decode c_M_load 43 = .ok (.iload_n 1, 1) := by decide +kernel
theorem d_M_load_44 : decode c_M_load 44 = .ok (.imul, 1) := by decide +kernel
theorem d_M_load_45 : decode c_M_load 45 = .ok (.iload_n 2, 1) := by decide +kernel
theorem d_M_load_46 : decode c_M_load 46 = .ok (.iadd, 1) := by decide +kernel
theorem d_M_load_47 : decode c_M_load 47 = .ok (.iaload, 1) := by decide +kernel
theorem d_M_load_48 : decode c_M_load 48 = .ok (.iastore, 1) := by decide +kernel
theorem d_M_load_49 : decode c_M_load 49 = .ok (.iconst 0, 1) := by decide +kernel
theorem d_M_load_50 : decode c_M_load 50 = .ok (.istore_n 3, 1) := by decide +kernel
theorem d_M_load_51 : decode c_M_load 51 = .ok (.iload_n 3, 1) := by decide +kernel
theorem d_M_load_52 : decode c_M_load 52 = .ok (.aload_n 0, 1) := by decide +kernel
theorem d_M_load_53 : decode c_M_load 53 = .ok (.getfield 111, 3) := by decide +kernel
theorem d_M_load_56 : decode c_M_load 56 = .ok (.if_icmp .ge 22, 3) := by decide +kernel
theorem d_M_load_59 : decode c_M_load 59 = .ok (.aload_n 0, 1) := by decide +kernel
theorem d_M_load_60 : decode c_M_load 60 = .ok (.iload_n 1, 1) := by decide +kernel
theorem d_M_load_61 : decode c_M_load 61 = .ok (.iload_n 2, 1) := by decide +kernel
theorem d_M_load_62 : decode c_M_load 62 = .ok (.iload_n 3, 1) := by decide +kernel
theorem d_M_load_63 : decode c_M_load 63 = .ok (.bipush 12, 2) := by decide +kernel
theorem d_M_load_65 : decode c_M_load 65 = .ok (.iload_n 2, 1) := by decide +kernel
theorem d_M_load_66 : decode c_M_load 66 = .ok (.imul, 1) := by decide +kernel
theorem d_M_load_67 : decode c_M_load 67 = .ok (.iload_n 3, 1) := by decide +kernel
theorem d_M_load_68 : decode c_M_load 68 = .ok (.iadd, 1) := by decide +kernel
theorem d_M_load_69 : decode c_M_load 69 = .ok (.invokevirtual 131, 3) := by decide +kernel
theorem d_M_load_72 : decode c_M_load 72 = .ok (.iinc 3 1, 3) := by decide +kernel
theorem d_M_load_75 : decode c_M_load 75 = .ok (.goto (-24), 3) := by decide +kernel
theorem d_M_load_78 : decode c_M_load 78 = .ok (.iinc 2 1, 3) := by decide +kernel
theorem d_M_load_81 : decode c_M_load 81 = .ok (.goto (-57), 3) := by decide +kernel
theorem d_M_load_84 : decode c_M_load 84 = .ok (.return_, 1) := by decide +kernel
theorem d_M_bring_0 : decode c_M_bring 0 = .ok (.sipush 144, 3) := by decide +kernel
theorem d_M_bring_3 : decode c_M_bring 3 = .ok (.iload_n 1, 1) := by decide +kernel
theorem d_M_bring_4 : decode c_M_bring 4 = .ok (.imul, 1) := by decide +kernel
theorem d_M_bring_5 : decode c_M_bring 5 = .ok (.bipush 12, 2) := by decide +kernel
theorem d_M_bring_7 : decode c_M_bring 7 = .ok (.iload_n 2, 1) := by decide +kernel
theorem d_M_bring_8 : decode c_M_bring 8 = .ok (.imul, 1) := by decide +kernel
theorem d_M_bring_9 : decode c_M_bring 9 = .ok (.iadd, 1) := by decide +kernel
theorem d_M_bring_10 : decode c_M_bring 10 = .ok (.iload_n 3, 1) := by decide +kernel
theorem d_M_bring_11 : decode c_M_bring 11 = .ok (.iadd, 1) := by decide +kernel
theorem d_M_bring_12 : decode c_M_bring 12 = .ok (.istore 5, 2) := by decide +kernel
theorem d_M_bring_14 : decode c_M_bring 14 = .ok (.aload_n 0, 1) := by decide +kernel
theorem d_M_bring_15 : decode c_M_bring 15 = .ok (.getfield 79, 3) := by decide +kernel
theorem d_M_bring_18 : decode c_M_bring 18 = .ok (.iload 4, 2) := by decide +kernel
theorem d_M_bring_20 : decode c_M_bring 20 = .ok (.aaload, 1) := by decide +kernel
theorem d_M_bring_21 : decode c_M_bring 21 = .ok (.aload_n 0, 1) := by decide +kernel
theorem d_M_bring_22 : decode c_M_bring 22 = .ok (.getfield 70, 3) := by decide +kernel
theorem d_M_bring_25 : decode c_M_bring 25 = .ok (.bipush 16, 2) := by decide +kernel
theorem d_M_bring_27 : decode c_M_bring 27 = .ok (.iload 5, 2) := by decide +kernel
theorem d_M_bring_29 : decode c_M_bring 29 = .ok (.imul, 1) := by decide +kernel
theorem d_M_bring_30 : decode c_M_bring 30 = .ok (.invokestatic 120, 3) := by decide +kernel
theorem d_M_bring_33 : decode c_M_bring 33 = .ok (.aload_n 0, 1) := by decide +kernel
theorem d_M_bring_34 : decode c_M_bring 34 = .ok (.getfield 83, 3) := by decide +kernel
theorem d_M_bring_37 : decode c_M_bring 37 = .ok (.iload 4, 2) := by decide +kernel
theorem d_M_bring_39 : decode c_M_bring 39 = .ok (.aaload, 1) := by decide +kernel
theorem d_M_bring_40 : decode c_M_bring 40 = .ok (.aload_n 0, 1) := by decide +kernel
theorem d_M_bring_41 : decode c_M_bring 41 = .ok (.getfield 73, 3) := by decide +kernel
theorem d_M_bring_44 : decode c_M_bring 44 = .ok (.bipush 16, 2) := by decide +kernel
theorem d_M_bring_46 : decode c_M_bring 46 = .ok (.iload 5, 2) := by decide +kernel
theorem d_M_bring_48 : decode c_M_bring 48 = .ok (.imul, 1) := by decide +kernel
theorem d_M_bring_49 : decode c_M_bring 49 = .ok (.invokestatic 120, 3) := by decide +kernel
theorem d_M_bring_52 : decode c_M_bring 52 = .ok (.aload_n 0, 1) := by decide +kernel
theorem d_M_bring_53 : decode c_M_bring 53 = .ok (.getfield 86, 3) := by decide +kernel
theorem d_M_bring_56 : decode c_M_bring 56 = .ok (.iload 4, 2) := by decide +kernel
theorem d_M_bring_58 : decode c_M_bring 58 = .ok (.aload_n 0, 1) := by decide +kernel
theorem d_M_bring_59 : decode c_M_bring 59 = .ok (.getfield 76, 3) := by decide +kernel
theorem d_M_bring_62 : decode c_M_bring 62 = .ok (.iload 5, 2) := by decide +kernel
theorem d_M_bring_64 : decode c_M_bring 64 = .ok (.iaload, 1) := by decide +kernel
theorem d_M_bring_65 : decode c_M_bring 65 = .ok (.iastore, 1) := by decide +kernel
theorem d_M_bring_66 : decode c_M_bring 66 = .ok (.return_, 1) := by decide +kernel
theorem d_M_fetch_0 : decode c_M_fetch 0 = .ok (.aload_n 0, 1) := by decide +kernel
theorem d_M_fetch_1 : decode c_M_fetch 1 = .ok (.aload_n 1, 1) := by decide +kernel
theorem d_M_fetch_2 : decode c_M_fetch 2 = .ok (.iload_n 2, 1) := by decide +kernel
theorem d_M_fetch_3 : decode c_M_fetch 3 = .ok (.iaload, 1) := by decide +kernel
theorem d_M_fetch_4 : decode c_M_fetch 4 = .ok (.ifCond .ge 7, 3) := by decide +kernel
theorem d_M_fetch_7 : decode c_M_fetch 7 = .ok (.iconst 1, 1) := by decide +kernel
theorem d_M_fetch_8 : decode c_M_fetch 8 = .ok (.goto 4, 3) := by decide +kernel
theorem d_M_fetch_11 : decode c_M_fetch 11 = .ok (.iconst 0, 1) := by decide +kernel
theorem d_M_fetch_12 : decode c_M_fetch 12 = .ok (.putfield 13, 3) := by decide +kernel
theorem d_M_fetch_15 : decode c_M_fetch 15 = .ok (.aload_n 0, 1) := by decide +kernel
theorem d_M_fetch_16 : decode c_M_fetch 16 = .ok (.aload_n 0, 1) := by decide +kernel
theorem d_M_fetch_17 : decode c_M_fetch 17 = .ok (.getfield 13, 3) := by decide +kernel
theorem d_M_fetch_20 : decode c_M_fetch 20 = .ok (.ifCond .eq 10, 3) := by decide +kernel
theorem d_M_fetch_23 : decode c_M_fetch 23 = .ok (.aload_n 1, 1) := by decide +kernel
theorem d_M_fetch_24 : decode c_M_fetch 24 = .ok (.iload_n 2, 1) := by decide +kernel
theorem d_M_fetch_25 : decode c_M_fetch 25 = .ok (.iaload, 1) := by decide +kernel
theorem d_M_fetch_26 : decode c_M_fetch 26 = .ok (.ineg, 1) := by decide +kernel
theorem d_M_fetch_27 : decode c_M_fetch 27 = .ok (.goto 6, 3) := by decide +kernel
theorem d_M_fetch_30 : decode c_M_fetch 30 = .ok (.aload_n 1, 1) := by decide +kernel
theorem d_M_fetch_31 : decode c_M_fetch 31 = .ok (.iload_n 2, 1) := by decide +kernel
theorem d_M_fetch_32 : decode c_M_fetch 32 = .ok (.iaload, 1) := by decide +kernel
theorem d_M_fetch_33 : decode c_M_fetch 33 = .ok (.putfield 20, 3) := by decide +kernel
theorem d_M_fetch_36 : decode c_M_fetch 36 = .ok (.iconst 0, 1) := by decide +kernel
theorem d_M_fetch_37 : decode c_M_fetch 37 = .ok (.istore_n 3, 1) := by decide +kernel
theorem d_M_fetch_38 : decode c_M_fetch 38 = .ok (.iload_n 3, 1) := by decide +kernel
theorem d_M_fetch_39 : decode c_M_fetch 39 = .ok (.aload_n 0, 1) := by decide +kernel
theorem d_M_fetch_40 : decode c_M_fetch 40 = .ok (.getfield 20, 3) := by decide +kernel
theorem d_M_fetch_43 : decode c_M_fetch 43 = .ok (.if_icmp .ge 22, 3) := by decide +kernel
theorem d_M_fetch_46 : decode c_M_fetch 46 = .ok (.aload_n 0, 1) := by decide +kernel
theorem d_M_fetch_47 : decode c_M_fetch 47 = .ok (.getfield 98, 3) := by decide +kernel
theorem d_M_fetch_50 : decode c_M_fetch 50 = .ok (.iload_n 3, 1) := by decide +kernel
theorem d_M_fetch_51 : decode c_M_fetch 51 = .ok (.aload_n 1, 1) := by decide +kernel
theorem d_M_fetch_52 : decode c_M_fetch 52 = .ok (.iload_n 2, 1) := by decide +kernel
theorem d_M_fetch_53 : decode c_M_fetch 53 = .ok (.iconst 1, 1) := by decide +kernel
theorem d_M_fetch_54 : decode c_M_fetch 54 = .ok (.iadd, 1) := by decide +kernel
theorem d_M_fetch_55 : decode c_M_fetch 55 = .ok (.iload_n 3, 1) := by decide +kernel
theorem d_M_fetch_56 : decode c_M_fetch 56 = .ok (.iadd, 1) := by decide +kernel
theorem d_M_fetch_57 : decode c_M_fetch 57 = .ok (.iaload, 1) := by decide +kernel
theorem d_M_fetch_58 : decode c_M_fetch 58 = .ok (.iastore, 1) := by decide +kernel
theorem d_M_fetch_59 : decode c_M_fetch 59 = .ok (.iinc 3 1, 3) := by decide +kernel
theorem d_M_fetch_62 : decode c_M_fetch 62 = .ok (.goto (-24), 3) := by decide +kernel
theorem d_M_fetch_65 : decode c_M_fetch 65 = .ok (.return_, 1) := by decide +kernel
theorem d_M_finish_0 : decode c_M_finish 0 = .ok (.aload_n 0, 1) := by decide +kernel
theorem d_M_finish_1 : decode c_M_finish 1 = .ok (.invokevirtual 172, 3) := by decide +kernel
theorem d_M_finish_4 : decode c_M_finish 4 = .ok (.aload_n 0, 1) := by decide +kernel
theorem d_M_finish_5 : decode c_M_finish 5 = .ok (.iload_n 1, 1) := by decide +kernel
theorem d_M_finish_6 : decode c_M_finish 6 = .ok (.invokevirtual 175, 3) := by decide +kernel
theorem d_M_finish_9 : decode c_M_finish 9 = .ok (.aload_n 0, 1) := by decide +kernel
theorem d_M_finish_10 : decode c_M_finish 10 = .ok (.getfield 63, 3) := by decide +kernel
theorem d_M_finish_13 : decode c_M_finish 13 = .ok (.iload_n 1, 1) := by decide +kernel
theorem d_M_finish_14 : decode c_M_finish 14 = .ok (.iconst 0, 1) := by decide +kernel
theorem d_M_finish_15 : decode c_M_finish 15 = .ok (.bastore, 1) := by decide +kernel
theorem d_M_finish_16 : decode c_M_finish 16 = .ok (.aload_n 0, 1) := by decide +kernel
theorem d_M_finish_17 : decode c_M_finish 17 = .ok (.getfield 108, 3) := by decide +kernel
theorem d_M_finish_20 : decode c_M_finish 20 = .ok (.ireturn, 1) := by decide +kernel
theorem d_M_reduceAll_0 : decode c_M_reduceAll 0 = .ok (.iconst 0, 1) := by decide +kernel
theorem d_M_reduceAll_1 : decode c_M_reduceAll 1 = .ok (.istore_n 1, 1) := by decide +kernel
theorem d_M_reduceAll_2 : decode c_M_reduceAll 2 = .ok (.iconst 0, 1) := by decide +kernel
theorem d_M_reduceAll_3 : decode c_M_reduceAll 3 = .ok (.istore_n 2, 1) := by decide +kernel
theorem d_M_reduceAll_4 : decode c_M_reduceAll 4 = .ok (.iload_n 2, 1) := by decide +kernel
theorem d_M_reduceAll_5 : decode c_M_reduceAll 5 = .ok (.aload_n 0, 1) := by decide +kernel
theorem d_M_reduceAll_6 : decode c_M_reduceAll 6 = .ok (.getfield 111, 3) := by decide +kernel
theorem d_M_reduceAll_9 : decode c_M_reduceAll 9 = .ok (.if_icmp .ge 61, 3) := by decide +kernel
theorem d_M_reduceAll_12 : decode c_M_reduceAll 12 = .ok (.iload_n 1, 1) := by decide +kernel
theorem d_M_reduceAll_13 : decode c_M_reduceAll 13 = .ok (.istore_n 3, 1) := by decide +kernel
theorem d_M_reduceAll_14 : decode c_M_reduceAll 14 = .ok (.iload_n 3, 1) := by decide +kernel
theorem d_M_reduceAll_15 : decode c_M_reduceAll 15 = .ok (.aload_n 0, 1) := by decide +kernel
theorem d_M_reduceAll_16 : decode c_M_reduceAll 16 = .ok (.getfield 108, 3) := by decide +kernel
theorem d_M_reduceAll_19 : decode c_M_reduceAll 19 = .ok (.if_icmp .ge 22, 3) := by decide +kernel
theorem d_M_reduceAll_22 : decode c_M_reduceAll 22 = .ok (.aload_n 0, 1) := by decide +kernel
theorem d_M_reduceAll_23 : decode c_M_reduceAll 23 = .ok (.bipush 12, 2) := by decide +kernel
theorem d_M_reduceAll_25 : decode c_M_reduceAll 25 = .ok (.iload_n 3, 1) := by decide +kernel
theorem d_M_reduceAll_26 : decode c_M_reduceAll 26 = .ok (.imul, 1) := by decide +kernel
theorem d_M_reduceAll_27 : decode c_M_reduceAll 27 = .ok (.iload_n 2, 1) := by decide +kernel
theorem d_M_reduceAll_28 : decode c_M_reduceAll 28 = .ok (.iadd, 1) := by decide +kernel
theorem d_M_reduceAll_29 : decode c_M_reduceAll 29 = .ok (.invokevirtual 160, 3) := by decide +kernel
theorem d_M_reduceAll_32 : decode c_M_reduceAll 32 = .ok (.ifCond .eq 9, 3) := by decide +kernel
theorem d_M_reduceAll_35 : decode c_M_reduceAll 35 = .ok (.iinc 3 1, 3) := by decide +kernel
theorem d_M_reduceAll_38 : decode c_M_reduceAll 38 = .ok (.goto (-24), 3) := by decide +kernel
theorem d_M_reduceAll_41 : decode c_M_reduceAll 41 = .ok (.iload_n 3, 1) := by decide +kernel
theorem d_M_reduceAll_42 : decode c_M_reduceAll 42 = .ok (.aload_n 0, 1) := by decide +kernel
theorem d_M_reduceAll_43 : decode c_M_reduceAll 43 = .ok (.getfield 108, 3) := by decide +kernel
theorem d_M_reduceAll_46 : decode c_M_reduceAll 46 = .ok (.if_icmp .ge 18, 3) := by decide +kernel
theorem d_M_reduceAll_49 : decode c_M_reduceAll 49 = .ok (.aload_n 0, 1) := by decide +kernel
theorem d_M_reduceAll_50 : decode c_M_reduceAll 50 = .ok (.iload_n 3, 1) := by decide +kernel
theorem d_M_reduceAll_51 : decode c_M_reduceAll 51 = .ok (.iload_n 1, 1) := by decide +kernel
theorem d_M_reduceAll_52 : decode c_M_reduceAll 52 = .ok (.invokevirtual 166, 3) := by decide +kernel
theorem d_M_reduceAll_55 : decode c_M_reduceAll 55 = .ok (.aload_n 0, 1) := by decide +kernel
theorem d_M_reduceAll_56 : decode c_M_reduceAll 56 = .ok (.iload_n 1, 1) := by decide +kernel
theorem d_M_reduceAll_57 : decode c_M_reduceAll 57 = .ok (.iload_n 2, 1) := by decide +kernel
theorem d_M_reduceAll_58 : decode c_M_reduceAll 58 = .ok (.invokevirtual 169, 3) := by decide +kernel
theorem d_M_reduceAll_61 : decode c_M_reduceAll 61 = .ok (.iinc 1 1, 3) := by decide +kernel
theorem d_M_reduceAll_64 : decode c_M_reduceAll 64 = .ok (.iinc 2 1, 3) := by decide +kernel
theorem d_M_reduceAll_67 : decode c_M_reduceAll 67 = .ok (.goto (-63), 3) := by decide +kernel
theorem d_M_reduceAll_70 : decode c_M_reduceAll 70 = .ok (.aload_n 0, 1) := by decide +kernel
theorem d_M_reduceAll_71 : decode c_M_reduceAll 71 = .ok (.iload_n 1, 1) := by decide +kernel
theorem d_M_reduceAll_72 : decode c_M_reduceAll 72 = .ok (.putfield 108, 3) := by decide +kernel
theorem d_M_reduceAll_75 : decode c_M_reduceAll 75 = .ok (.return_, 1) := by decide +kernel
theorem d_M_isZero_0 : decode c_M_isZero 0 = .ok (.aload_n 0, 1) := by decide +kernel
theorem d_M_isZero_1 : decode c_M_isZero 1 = .ok (.getfield 105, 3) := by decide +kernel
theorem d_M_isZero_4 : decode c_M_isZero 4 = .ok (.ifCond .ne 23, 3) := by decide +kernel
theorem d_M_isZero_7 : decode c_M_isZero 7 = .ok (.aload_n 0, 1) := by decide +kernel
theorem d_M_isZero_8 : decode c_M_isZero 8 = .ok (.getfield 79, 3) := by decide +kernel
theorem d_M_isZero_11 : decode c_M_isZero 11 = .ok (.iload_n 1, 1) := by decide +kernel
theorem d_M_isZero_12 : decode c_M_isZero 12 = .ok (.aaload, 1) := by decide +kernel
theorem d_M_isZero_13 : decode c_M_isZero 13 = .ok (.getfield 20, 3) := by decide +kernel
theorem d_M_isZero_16 : decode c_M_isZero 16 = .ok (.ifCond .ne 7, 3) := by decide +kernel
theorem d_M_isZero_19 : decode c_M_isZero 19 = .ok (.iconst 1, 1) := by decide +kernel
theorem d_M_isZero_20 : decode c_M_isZero 20 = .ok (.goto 21, 3) := by decide +kernel
theorem d_M_isZero_23 : decode c_M_isZero 23 = .ok (.iconst 0, 1) := by decide +kernel
theorem d_M_isZero_24 : decode c_M_isZero 24 = .ok (.goto 17, 3) := by decide +kernel
theorem d_M_isZero_27 : decode c_M_isZero 27 = .ok (.aload_n 0, 1) := by decide +kernel
theorem d_M_isZero_28 : decode c_M_isZero 28 = .ok (.getfield 86, 3) := by decide +kernel
theorem d_M_isZero_31 : decode c_M_isZero 31 = .ok (.iload_n 1, 1) := by decide +kernel
theorem d_M_isZero_32 : decode c_M_isZero 32 = .ok (.iaload, 1) := by decide +kernel
theorem d_M_isZero_33 : decode c_M_isZero 33 = .ok (.ifCond .ne 7, 3) := by decide +kernel
theorem d_M_isZero_36 : decode c_M_isZero 36 = .ok (.iconst 1, 1) := by decide +kernel
theorem d_M_isZero_37 : decode c_M_isZero 37 = .ok (.goto 4, 3) := by decide +kernel
theorem d_M_isZero_40 : decode c_M_isZero 40 = .ok (.iconst 0, 1) := by decide +kernel
theorem d_M_isZero_41 : decode c_M_isZero 41 = .ok (.ireturn, 1) := by decide +kernel
theorem d_M_swap_0 : decode c_M_swap 0 = .ok (.iconst 0, 1) := by decide +kernel
theorem d_M_swap_1 : decode c_M_swap 1 = .ok (.istore_n 3, 1) := by decide +kernel
theorem d_M_swap_2 : decode c_M_swap 2 = .ok (.iload_n 3, 1) := by decide +kernel
theorem d_M_swap_3 : decode c_M_swap 3 = .ok (.aload_n 0, 1) := by decide +kernel
theorem d_M_swap_4 : decode c_M_swap 4 = .ok (.getfield 111, 3) := by decide +kernel
theorem d_M_swap_7 : decode c_M_swap 7 = .ok (.if_icmp .ge 152, 3) := by decide +kernel
theorem d_M_swap_10 : decode c_M_swap 10 = .ok (.iload_n 1, 1) := by decide +kernel
theorem d_M_swap_11 : decode c_M_swap 11 = .ok (.iload_n 2, 1) := by decide +kernel
theorem d_M_swap_12 : decode c_M_swap 12 = .ok (.if_icmp .eq 147, 3) := by decide +kernel
theorem d_M_swap_15 : decode c_M_swap 15 = .ok (.bipush 12, 2) := by decide +kernel
theorem d_M_swap_17 : decode c_M_swap 17 = .ok (.iload_n 1, 1) := by decide +kernel
theorem d_M_swap_18 : decode c_M_swap 18 = .ok (.imul, 1) := by decide +kernel
theorem d_M_swap_19 : decode c_M_swap 19 = .ok (.iload_n 3, 1) := by decide +kernel
theorem d_M_swap_20 : decode c_M_swap 20 = .ok (.iadd, 1) := by decide +kernel
theorem d_M_swap_21 : decode c_M_swap 21 = .ok (.istore 4, 2) := by decide +kernel
theorem d_M_swap_23 : decode c_M_swap 23 = .ok (.bipush 12, 2) := by decide +kernel
theorem d_M_swap_25 : decode c_M_swap 25 = .ok (.iload_n 2, 1) := by decide +kernel
theorem d_M_swap_26 : decode c_M_swap 26 = .ok (.imul, 1) := by decide +kernel
theorem d_M_swap_27 : decode c_M_swap 27 = .ok (.iload_n 3, 1) := by decide +kernel
theorem d_M_swap_28 : decode c_M_swap 28 = .ok (.iadd, 1) := by decide +kernel
theorem d_M_swap_29 : decode c_M_swap 29 = .ok (.istore 5, 2) := by decide +kernel
theorem d_M_swap_31 : decode c_M_swap 31 = .ok (.aload_n 0, 1) := by decide +kernel
theorem d_M_swap_32 : decode c_M_swap 32 = .ok (.getfield 41, 3) := by decide +kernel
theorem d_M_swap_35 : decode c_M_swap 35 = .ok (.aload_n 0, 1) := by decide +kernel
theorem d_M_swap_36 : decode c_M_swap 36 = .ok (.getfield 79, 3) := by decide +kernel
theorem d_M_swap_39 : decode c_M_swap 39 = .ok (.iload 4, 2) := by decide +kernel
theorem d_M_swap_41 : decode c_M_swap 41 = .ok (.aaload, 1) := by decide +kernel
theorem d_M_swap_42 : decode c_M_swap 42 = .ok (.invokevirtual 7, 3) := by decide +kernel
theorem d_M_swap_45 : decode c_M_swap 45 = .ok (.aload_n 0, 1) := by decide +kernel
theorem d_M_swap_46 : decode c_M_swap 46 = .ok (.getfield 79, 3) := by decide +kernel
theorem d_M_swap_49 : decode c_M_swap 49 = .ok (.iload 4, 2) := by decide +kernel
theorem d_M_swap_51 : decode c_M_swap 51 = .ok (.aaload, 1) := by decide +kernel
theorem d_M_swap_52 : decode c_M_swap 52 = .ok (.aload_n 0, 1) := by decide +kernel
theorem d_M_swap_53 : decode c_M_swap 53 = .ok (.getfield 79, 3) := by decide +kernel
theorem d_M_swap_56 : decode c_M_swap 56 = .ok (.iload 5, 2) := by decide +kernel
theorem d_M_swap_58 : decode c_M_swap 58 = .ok (.aaload, 1) := by decide +kernel
theorem d_M_swap_59 : decode c_M_swap 59 = .ok (.invokevirtual 7, 3) := by decide +kernel
theorem d_M_swap_62 : decode c_M_swap 62 = .ok (.aload_n 0, 1) := by decide +kernel
theorem d_M_swap_63 : decode c_M_swap 63 = .ok (.getfield 79, 3) := by decide +kernel
theorem d_M_swap_66 : decode c_M_swap 66 = .ok (.iload 5, 2) := by decide +kernel
theorem d_M_swap_68 : decode c_M_swap 68 = .ok (.aaload, 1) := by decide +kernel
theorem d_M_swap_69 : decode c_M_swap 69 = .ok (.aload_n 0, 1) := by decide +kernel
theorem d_M_swap_70 : decode c_M_swap 70 = .ok (.getfield 41, 3) := by decide +kernel
theorem d_M_swap_73 : decode c_M_swap 73 = .ok (.invokevirtual 7, 3) := by decide +kernel
theorem d_M_swap_76 : decode c_M_swap 76 = .ok (.aload_n 0, 1) := by decide +kernel
theorem d_M_swap_77 : decode c_M_swap 77 = .ok (.getfield 41, 3) := by decide +kernel
theorem d_M_swap_80 : decode c_M_swap 80 = .ok (.aload_n 0, 1) := by decide +kernel
theorem d_M_swap_81 : decode c_M_swap 81 = .ok (.getfield 83, 3) := by decide +kernel
theorem d_M_swap_84 : decode c_M_swap 84 = .ok (.iload 4, 2) := by decide +kernel
theorem d_M_swap_86 : decode c_M_swap 86 = .ok (.aaload, 1) := by decide +kernel
theorem d_M_swap_87 : decode c_M_swap 87 = .ok (.invokevirtual 7, 3) := by decide +kernel
theorem d_M_swap_90 : decode c_M_swap 90 = .ok (.aload_n 0, 1) := by decide +kernel
theorem d_M_swap_91 : decode c_M_swap 91 = .ok (.getfield 83, 3) := by decide +kernel
theorem d_M_swap_94 : decode c_M_swap 94 = .ok (.iload 4, 2) := by decide +kernel
theorem d_M_swap_96 : decode c_M_swap 96 = .ok (.aaload, 1) := by decide +kernel
theorem d_M_swap_97 : decode c_M_swap 97 = .ok (.aload_n 0, 1) := by decide +kernel
theorem d_M_swap_98 : decode c_M_swap 98 = .ok (.getfield 83, 3) := by decide +kernel
theorem d_M_swap_101 : decode c_M_swap 101 = .ok (.iload 5, 2) := by decide +kernel
theorem d_M_swap_103 : decode c_M_swap 103 = .ok (.aaload, 1) := by decide +kernel
theorem d_M_swap_104 : decode c_M_swap 104 = .ok (.invokevirtual 7, 3) := by decide +kernel
theorem d_M_swap_107 : decode c_M_swap 107 = .ok (.aload_n 0, 1) := by decide +kernel
theorem d_M_swap_108 : decode c_M_swap 108 = .ok (.getfield 83, 3) := by decide +kernel
theorem d_M_swap_111 : decode c_M_swap 111 = .ok (.iload 5, 2) := by decide +kernel
theorem d_M_swap_113 : decode c_M_swap 113 = .ok (.aaload, 1) := by decide +kernel
theorem d_M_swap_114 : decode c_M_swap 114 = .ok (.aload_n 0, 1) := by decide +kernel
theorem d_M_swap_115 : decode c_M_swap 115 = .ok (.getfield 41, 3) := by decide +kernel
theorem d_M_swap_118 : decode c_M_swap 118 = .ok (.invokevirtual 7, 3) := by decide +kernel
theorem d_M_swap_121 : decode c_M_swap 121 = .ok (.aload_n 0, 1) := by decide +kernel
theorem d_M_swap_122 : decode c_M_swap 122 = .ok (.getfield 86, 3) := by decide +kernel
theorem d_M_swap_125 : decode c_M_swap 125 = .ok (.iload 4, 2) := by decide +kernel
theorem d_M_swap_127 : decode c_M_swap 127 = .ok (.iaload, 1) := by decide +kernel
theorem d_M_swap_128 : decode c_M_swap 128 = .ok (.istore 6, 2) := by decide +kernel
theorem d_M_swap_130 : decode c_M_swap 130 = .ok (.aload_n 0, 1) := by decide +kernel
theorem d_M_swap_131 : decode c_M_swap 131 = .ok (.getfield 86, 3) := by decide +kernel
theorem d_M_swap_134 : decode c_M_swap 134 = .ok (.iload 4, 2) := by decide +kernel
theorem d_M_swap_136 : decode c_M_swap 136 = .ok (.aload_n 0, 1) := by decide +kernel
theorem d_M_swap_137 : decode c_M_swap 137 = .ok (.getfield 86, 3) := by decide +kernel
theorem d_M_swap_140 : decode c_M_swap 140 = .ok (.iload 5, 2) := by decide +kernel
theorem d_M_swap_142 : decode c_M_swap 142 = .ok (.iaload, 1) := by decide +kernel
theorem d_M_swap_143 : decode c_M_swap 143 = .ok (.iastore, 1) := by decide +kernel
theorem d_M_swap_144 : decode c_M_swap 144 = .ok (.aload_n 0, 1) := by decide +kernel
theorem d_M_swap_145 : decode c_M_swap 145 = .ok (.getfield 86, 3) := by decide +kernel
theorem d_M_swap_148 : decode c_M_swap 148 = .ok (.iload 5, 2) := by decide +kernel
theorem d_M_swap_150 : decode c_M_swap 150 = .ok (.iload 6, 2) := by decide +kernel
theorem d_M_swap_152 : decode c_M_swap 152 = .ok (.iastore, 1) := by decide +kernel
theorem d_M_swap_153 : decode c_M_swap 153 = .ok (.iinc 3 1, 3) := by decide +kernel
theorem d_M_swap_156 : decode c_M_swap 156 = .ok (.goto (-154), 3) := by decide +kernel
theorem d_M_swap_159 : decode c_M_swap 159 = .ok (.return_, 1) := by decide +kernel
theorem d_M_give_0 : decode c_M_give 0 = .ok (.aload_n 0, 1) := by decide +kernel
theorem d_M_give_1 : decode c_M_give 1 = .ok (.iload_n 1, 1) := by decide +kernel
theorem d_M_give_2 : decode c_M_give 2 = .ok (.iload_n 2, 1) := by decide +kernel
theorem d_M_give_3 : decode c_M_give 3 = .ok (.invokevirtual 156, 3) := by decide +kernel
theorem d_M_give_6 : decode c_M_give 6 = .ok (.iconst 0, 1) := by decide +kernel
theorem d_M_give_7 : decode c_M_give 7 = .ok (.istore_n 3, 1) := by decide +kernel
theorem d_M_give_8 : decode c_M_give 8 = .ok (.iload_n 3, 1) := by decide +kernel
theorem d_M_give_9 : decode c_M_give 9 = .ok (.aload_n 0, 1) := by decide +kernel
theorem d_M_give_10 : decode c_M_give 10 = .ok (.getfield 108, 3) := by decide +kernel
theorem d_M_give_13 : decode c_M_give 13 = .ok (.if_icmp .ge 34, 3) := by decide +kernel
theorem d_M_give_16 : decode c_M_give 16 = .ok (.iload_n 3, 1) := by decide +kernel
theorem d_M_give_17 : decode c_M_give 17 = .ok (.iload_n 1, 1) := by decide +kernel
theorem d_M_give_18 : decode c_M_give 18 = .ok (.if_icmp .eq 23, 3) := by decide +kernel
theorem d_M_give_21 : decode c_M_give 21 = .ok (.aload_n 0, 1) := by decide +kernel
theorem d_M_give_22 : decode c_M_give 22 = .ok (.bipush 12, 2) := by decide +kernel
theorem d_M_give_24 : decode c_M_give 24 = .ok (.iload_n 3, 1) := by decide +kernel
theorem d_M_give_25 : decode c_M_give 25 = .ok (.imul, 1) := by decide +kernel
theorem d_M_give_26 : decode c_M_give 26 = .ok (.iload_n 2, 1) := by decide +kernel
theorem d_M_give_27 : decode c_M_give 27 = .ok (.iadd, 1) := by decide +kernel
theorem d_M_give_28 : decode c_M_give 28 = .ok (.invokevirtual 160, 3) := by decide +kernel
theorem d_M_give_31 : decode c_M_give 31 = .ok (.ifCond .ne 10, 3) := by decide +kernel
theorem d_M_give_34 : decode c_M_give 34 = .ok (.aload_n 0, 1) := by decide +kernel
theorem d_M_give_35 : decode c_M_give 35 = .ok (.iload_n 3, 1) := by decide +kernel
theorem d_M_give_36 : decode c_M_give 36 = .ok (.iload_n 1, 1) := by decide +kernel
theorem d_M_give_37 : decode c_M_give 37 = .ok (.iload_n 2, 1) := by decide +kernel
theorem d_M_give_38 : decode c_M_give 38 = .ok (.invokevirtual 163, 3) := by decide +kernel
theorem d_M_give_41 : decode c_M_give 41 = .ok (.iinc 3 1, 3) := by decide +kernel
theorem d_M_give_44 : decode c_M_give 44 = .ok (.goto (-36), 3) := by decide +kernel
theorem d_M_give_47 : decode c_M_give 47 = .ok (.aload_n 0, 1) := by decide +kernel
theorem d_M_give_48 : decode c_M_give 48 = .ok (.getfield 89, 3) := by decide +kernel
theorem d_M_give_51 : decode c_M_give 51 = .ok (.iload_n 1, 1) := by decide +kernel
theorem d_M_give_52 : decode c_M_give 52 = .ok (.iload_n 2, 1) := by decide +kernel
theorem d_M_give_53 : decode c_M_give 53 = .ok (.iastore, 1) := by decide +kernel
theorem d_M_give_54 : decode c_M_give 54 = .ok (.return_, 1) := by decide +kernel
theorem d_M_divide_0 : decode c_M_divide 0 = .ok (.bipush 12, 2) := by decide +kernel
theorem d_M_divide_2 : decode c_M_divide 2 = .ok (.iload_n 1, 1) := by decide +kernel
theorem d_M_divide_3 : decode c_M_divide 3 = .ok (.imul, 1) := by decide +kernel
theorem d_M_divide_4 : decode c_M_divide 4 = .ok (.iload_n 2, 1) := by decide +kernel
theorem d_M_divide_5 : decode c_M_divide 5 = .ok (.iadd, 1) := by decide +kernel
theorem d_M_divide_6 : decode c_M_divide 6 = .ok (.istore_n 3, 1) := by decide +kernel
theorem d_M_divide_7 : decode c_M_divide 7 = .ok (.aload_n 0, 1) := by decide +kernel
theorem d_M_divide_8 : decode c_M_divide 8 = .ok (.getfield 105, 3) := by decide +kernel
theorem d_M_divide_11 : decode c_M_divide 11 = .ok (.ifCond .le 66, 3) := by decide +kernel
theorem d_M_divide_14 : decode c_M_divide 14 = .ok (.aload_n 0, 1) := by decide +kernel
theorem d_M_divide_15 : decode c_M_divide 15 = .ok (.aload_n 0, 1) := by decide +kernel
theorem d_M_divide_16 : decode c_M_divide 16 = .ok (.getfield 86, 3) := by decide +kernel
theorem d_M_divide_19 : decode c_M_divide 19 = .ok (.iload_n 3, 1) := by decide +kernel
theorem d_M_divide_20 : decode c_M_divide 20 = .ok (.iaload, 1) := by decide +kernel
theorem d_M_divide_21 : decode c_M_divide 21 = .ok (.invokevirtual 142, 3) := by decide +kernel
theorem d_M_divide_24 : decode c_M_divide 24 = .ok (.istore 4, 2) := by decide +kernel
theorem d_M_divide_26 : decode c_M_divide 26 = .ok (.iconst 0, 1) := by decide +kernel
theorem d_M_divide_27 : decode c_M_divide 27 = .ok (.istore 5, 2) := by decide +kernel
theorem d_M_divide_29 : decode c_M_divide 29 = .ok (.iload 5, 2) := by decide +kernel
theorem d_M_divide_31 : decode c_M_divide 31 = .ok (.aload_n 0, 1) := by decide +kernel
theorem d_M_divide_32 : decode c_M_divide 32 = .ok (.getfield 111, 3) := by decide +kernel
theorem d_M_divide_35 : decode c_M_divide 35 = .ok (.if_icmp .ge 41, 3) := by decide +kernel
theorem d_M_divide_38 : decode c_M_divide 38 = .ok (.aload_n 0, 1) := by decide +kernel
theorem d_M_divide_39 : decode c_M_divide 39 = .ok (.getfield 86, 3) := by decide +kernel
theorem d_M_divide_42 : decode c_M_divide 42 = .ok (.bipush 12, 2) := by decide +kernel
theorem d_M_divide_44 : decode c_M_divide 44 = .ok (.iload_n 1, 1) := by decide +kernel
theorem d_M_divide_45 : decode c_M_divide 45 = .ok (.imul, 1) := by decide +kernel
theorem d_M_divide_46 : decode c_M_divide 46 = .ok (.iload 5, 2) := by decide +kernel
theorem d_M_divide_48 : decode c_M_divide 48 = .ok (.iadd, 1) := by decide +kernel
theorem d_M_divide_49 : decode c_M_divide 49 = .ok (.aload_n 0, 1) := by decide +kernel
theorem d_M_divide_50 : decode c_M_divide 50 = .ok (.getfield 86, 3) := by decide +kernel
theorem d_M_divide_53 : decode c_M_divide 53 = .ok (.bipush 12, 2) := by decide +kernel
theorem d_M_divide_55 : decode c_M_divide 55 = .ok (.iload_n 1, 1) := by decide +kernel
theorem d_M_divide_56 : decode c_M_divide 56 = .ok (.imul, 1) := by decide +kernel
theorem d_M_divide_57 : decode c_M_divide 57 = .ok (.iload 5, 2) := by decide +kernel
theorem d_M_divide_59 : decode c_M_divide 59 = .ok (.iadd, 1) := by decide +kernel
theorem d_M_divide_60 : decode c_M_divide 60 = .ok (.iaload, 1) := by decide +kernel
theorem d_M_divide_61 : decode c_M_divide 61 = .ok (.iload 4, 2) := by decide +kernel
theorem d_M_divide_63 : decode c_M_divide 63 = .ok (.imul, 1) := by decide +kernel
theorem d_M_divide_64 : decode c_M_divide 64 = .ok (.aload_n 0, 1) := by decide +kernel
theorem d_M_divide_65 : decode c_M_divide 65 = .ok (.getfield 105, 3) := by decide +kernel
theorem d_M_divide_68 : decode c_M_divide 68 = .ok (.irem, 1) := by decide +kernel
theorem d_M_divide_69 : decode c_M_divide 69 = .ok (.iastore, 1) := by decide +kernel
theorem d_M_divide_70 : decode c_M_divide 70 = .ok (.iinc 5 1, 3) := by decide +kernel
theorem d_M_divide_73 : decode c_M_divide 73 = .ok (.goto (-44), 3) := by decide +kernel
theorem d_M_divide_76 : decode c_M_divide 76 = .ok (.return_, 1) := by decide +kernel
theorem d_M_divide_77 : decode c_M_divide 77 = .ok (.aload_n 0, 1) := by decide +kernel
theorem d_M_divide_78 : decode c_M_divide 78 = .ok (.getfield 92, 3) := by decide +kernel
theorem d_M_divide_81 : decode c_M_divide 81 = .ok (.aload_n 0, 1) := by decide +kernel
theorem d_M_divide_82 : decode c_M_divide 82 = .ok (.getfield 79, 3) := by decide +kernel
theorem d_M_divide_85 : decode c_M_divide 85 = .ok (.iload_n 3, 1) := by decide +kernel
theorem d_M_divide_86 : decode c_M_divide 86 = .ok (.aaload, 1) := by decide +kernel
theorem d_M_divide_87 : decode c_M_divide 87 = .ok (.invokevirtual 7, 3) := by decide +kernel
theorem d_M_divide_90 : decode c_M_divide 90 = .ok (.aload_n 0, 1) := by decide +kernel
theorem d_M_divide_91 : decode c_M_divide 91 = .ok (.getfield 95, 3) := by decide +kernel
theorem d_M_divide_94 : decode c_M_divide 94 = .ok (.aload_n 0, 1) := by decide +kernel
theorem d_M_divide_95 : decode c_M_divide 95 = .ok (.getfield 83, 3) := by decide +kernel
theorem d_M_divide_98 : decode c_M_divide 98 = .ok (.iload_n 3, 1) := by decide +kernel
theorem d_M_divide_99 : decode c_M_divide 99 = .ok (.aaload, 1) := by decide +kernel
theorem d_M_divide_100 : decode c_M_divide 100 = .ok (.invokevirtual 7, 3) := by decide +kernel
theorem d_M_divide_103 : decode c_M_divide 103 = .ok (.iconst 0, 1) := by decide +kernel
theorem d_M_divide_104 : decode c_M_divide 104 = .ok (.istore 4, 2) := by decide +kernel
theorem d_M_divide_106 : decode c_M_divide 106 = .ok (.iload 4, 2) := by decide +kernel
theorem d_M_divide_108 : decode c_M_divide 108 = .ok (.aload_n 0, 1) := by decide +kernel
theorem d_M_divide_109 : decode c_M_divide 109 = .ok (.getfield 111, 3) := by decide +kernel
theorem d_M_divide_112 : decode c_M_divide 112 = .ok (.if_icmp .ge 88, 3) := by decide +kernel
theorem d_M_divide_115 : decode c_M_divide 115 = .ok (.bipush 12, 2) := by decide +kernel
theorem d_M_divide_117 : decode c_M_divide 117 = .ok (.iload_n 1, 1) := by decide +kernel
theorem d_M_divide_118 : decode c_M_divide 118 = .ok (.imul, 1) := by decide +kernel
theorem d_M_divide_119 : decode c_M_divide 119 = .ok (.iload 4, 2) := by decide +kernel
theorem d_M_divide_121 : decode c_M_divide 121 = .ok (.iadd, 1) := by decide +kernel
theorem d_M_divide_122 : decode c_M_divide 122 = .ok (.istore 5, 2) := by decide +kernel
theorem d_M_divide_124 : decode c_M_divide 124 = .ok (.aload_n 0, 1) := by decide +kernel
theorem d_M_divide_125 : decode c_M_divide 125 = .ok (.getfield 44, 3) := by decide +kernel
theorem d_M_divide_128 : decode c_M_divide 128 = .ok (.aload_n 0, 1) := by decide +kernel
theorem d_M_divide_129 : decode c_M_divide 129 = .ok (.getfield 79, 3) := by decide +kernel
theorem d_M_divide_132 : decode c_M_divide 132 = .ok (.iload 5, 2) := by decide +kernel
theorem d_M_divide_134 : decode c_M_divide 134 = .ok (.aaload, 1) := by decide +kernel
theorem d_M_divide_135 : decode c_M_divide 135 = .ok (.aload_n 0, 1) := by decide +kernel
theorem d_M_divide_136 : decode c_M_divide 136 = .ok (.getfield 95, 3) := by decide +kernel
theorem d_M_divide_139 : decode c_M_divide 139 = .ok (.invokevirtual 146, 3) := by decide +kernel
theorem d_M_divide_142 : decode c_M_divide 142 = .ok (.aload_n 0, 1) := by decide +kernel
theorem d_M_divide_143 : decode c_M_divide 143 = .ok (.getfield 47, 3) := by decide +kernel
theorem d_M_divide_146 : decode c_M_divide 146 = .ok (.aload_n 0, 1) := by decide +kernel
theorem d_M_divide_147 : decode c_M_divide 147 = .ok (.getfield 83, 3) := by decide +kernel
theorem d_M_divide_150 : decode c_M_divide 150 = .ok (.iload 5, 2) := by decide +kernel
theorem d_M_divide_152 : decode c_M_divide 152 = .ok (.aaload, 1) := by decide +kernel
theorem d_M_divide_153 : decode c_M_divide 153 = .ok (.aload_n 0, 1) := by decide +kernel
theorem d_M_divide_154 : decode c_M_divide 154 = .ok (.getfield 92, 3) := by decide +kernel
theorem d_M_divide_157 : decode c_M_divide 157 = .ok (.invokevirtual 146, 3) := by decide +kernel
theorem d_M_divide_160 : decode c_M_divide 160 = .ok (.aload_n 0, 1) := by decide +kernel
theorem d_M_divide_161 : decode c_M_divide 161 = .ok (.getfield 79, 3) := by decide +kernel
theorem d_M_divide_164 : decode c_M_divide 164 = .ok (.iload 5, 2) := by decide +kernel
theorem d_M_divide_166 : decode c_M_divide 166 = .ok (.aaload, 1) := by decide +kernel
theorem d_M_divide_167 : decode c_M_divide 167 = .ok (.aload_n 0, 1) := by decide +kernel
theorem d_M_divide_168 : decode c_M_divide 168 = .ok (.getfield 44, 3) := by decide +kernel
theorem d_M_divide_171 : decode c_M_divide 171 = .ok (.invokevirtual 7, 3) := by decide +kernel
theorem d_M_divide_174 : decode c_M_divide 174 = .ok (.aload_n 0, 1) := by decide +kernel
theorem d_M_divide_175 : decode c_M_divide 175 = .ok (.getfield 83, 3) := by decide +kernel
theorem d_M_divide_178 : decode c_M_divide 178 = .ok (.iload 5, 2) := by decide +kernel
theorem d_M_divide_180 : decode c_M_divide 180 = .ok (.aaload, 1) := by decide +kernel
theorem d_M_divide_181 : decode c_M_divide 181 = .ok (.aload_n 0, 1) := by decide +kernel
theorem d_M_divide_182 : decode c_M_divide 182 = .ok (.getfield 47, 3) := by decide +kernel
theorem d_M_divide_185 : decode c_M_divide 185 = .ok (.invokevirtual 7, 3) := by decide +kernel
theorem d_M_divide_188 : decode c_M_divide 188 = .ok (.aload_n 0, 1) := by decide +kernel
theorem d_M_divide_189 : decode c_M_divide 189 = .ok (.iload 5, 2) := by decide +kernel
theorem d_M_divide_191 : decode c_M_divide 191 = .ok (.invokevirtual 149, 3) := by decide +kernel
theorem d_M_divide_194 : decode c_M_divide 194 = .ok (.iinc 4 1, 3) := by decide +kernel
theorem d_M_divide_197 : decode c_M_divide 197 = .ok (.goto (-91), 3) := by decide +kernel
theorem d_M_divide_200 : decode c_M_divide 200 = .ok (.return_, 1) := by decide +kernel
theorem d_M_inverse_0 : decode c_M_inverse 0 = .ok (.iconst 1, 1) := by decide +kernel
theorem d_M_inverse_1 : decode c_M_inverse 1 = .ok (.istore_n 2, 1) := by decide +kernel
theorem d_M_inverse_2 : decode c_M_inverse 2 = .ok (.iload_n 2, 1) := by decide +kernel
theorem d_M_inverse_3 : decode c_M_inverse 3 = .ok (.iload_n 1, 1) := by decide +kernel
theorem d_M_inverse_4 : decode c_M_inverse 4 = .ok (.imul, 1) := by decide +kernel
theorem d_M_inverse_5 : decode c_M_inverse 5 = .ok (.aload_n 0, 1) := by decide +kernel
theorem d_M_inverse_6 : decode c_M_inverse 6 = .ok (.getfield 105, 3) := by decide +kernel
theorem d_M_inverse_9 : decode c_M_inverse 9 = .ok (.irem, 1) := by decide +kernel
theorem d_M_inverse_10 : decode c_M_inverse 10 = .ok (.iconst 1, 1) := by decide +kernel
theorem d_M_inverse_11 : decode c_M_inverse 11 = .ok (.if_icmp .eq 9, 3) := by decide +kernel
theorem d_M_inverse_14 : decode c_M_inverse 14 = .ok (.iinc 2 1, 3) := by decide +kernel
theorem d_M_inverse_17 : decode c_M_inverse 17 = .ok (.goto (-15), 3) := by decide +kernel
theorem d_M_inverse_20 : decode c_M_inverse 20 = .ok (.iload_n 2, 1) := by decide +kernel
theorem d_M_inverse_21 : decode c_M_inverse 21 = .ok (.ireturn, 1) := by decide +kernel
theorem d_M_settle_0 : decode c_M_settle 0 = .ok (.aload_n 0, 1) := by decide +kernel
theorem d_M_settle_1 : decode c_M_settle 1 = .ok (.aload_n 0, 1) := by decide +kernel
theorem d_M_settle_2 : decode c_M_settle 2 = .ok (.getfield 79, 3) := by decide +kernel
theorem d_M_settle_5 : decode c_M_settle 5 = .ok (.iload_n 1, 1) := by decide +kernel
theorem d_M_settle_6 : decode c_M_settle 6 = .ok (.aaload, 1) := by decide +kernel
theorem d_M_settle_7 : decode c_M_settle 7 = .ok (.aload_n 0, 1) := by decide +kernel
theorem d_M_settle_8 : decode c_M_settle 8 = .ok (.getfield 83, 3) := by decide +kernel
theorem d_M_settle_11 : decode c_M_settle 11 = .ok (.iload_n 1, 1) := by decide +kernel
theorem d_M_settle_12 : decode c_M_settle 12 = .ok (.aaload, 1) := by decide +kernel
theorem d_M_settle_13 : decode c_M_settle 13 = .ok (.invokevirtual 135, 3) := by decide +kernel
theorem d_M_settle_16 : decode c_M_settle 16 = .ok (.aload_n 0, 1) := by decide +kernel
theorem d_M_settle_17 : decode c_M_settle 17 = .ok (.getfield 44, 3) := by decide +kernel
theorem d_M_settle_20 : decode c_M_settle 20 = .ok (.aload_n 0, 1) := by decide +kernel
theorem d_M_settle_21 : decode c_M_settle 21 = .ok (.getfield 1, 3) := by decide +kernel
theorem d_M_settle_24 : decode c_M_settle 24 = .ok (.invokevirtual 7, 3) := by decide +kernel
theorem d_M_settle_27 : decode c_M_settle 27 = .ok (.aload_n 0, 1) := by decide +kernel
theorem d_M_settle_28 : decode c_M_settle 28 = .ok (.getfield 47, 3) := by decide +kernel
theorem d_M_settle_31 : decode c_M_settle 31 = .ok (.aload_n 0, 1) := by decide +kernel
theorem d_M_settle_32 : decode c_M_settle 32 = .ok (.getfield 79, 3) := by decide +kernel
theorem d_M_settle_35 : decode c_M_settle 35 = .ok (.iload_n 1, 1) := by decide +kernel
theorem d_M_settle_36 : decode c_M_settle 36 = .ok (.aaload, 1) := by decide +kernel
theorem d_M_settle_37 : decode c_M_settle 37 = .ok (.aload_n 0, 1) := by decide +kernel
theorem d_M_settle_38 : decode c_M_settle 38 = .ok (.getfield 44, 3) := by decide +kernel
theorem d_M_settle_41 : decode c_M_settle 41 = .ok (.aload_n 0, 1) := by decide +kernel
theorem d_M_settle_42 : decode c_M_settle 42 = .ok (.getfield 27, 3) := by decide +kernel
theorem d_M_settle_45 : decode c_M_settle 45 = .ok (.invokevirtual 30, 3) := by decide +kernel
theorem d_M_settle_48 : decode c_M_settle 48 = .ok (.aload_n 0, 1) := by decide +kernel
theorem d_M_settle_49 : decode c_M_settle 49 = .ok (.getfield 50, 3) := by decide +kernel
theorem d_M_settle_52 : decode c_M_settle 52 = .ok (.aload_n 0, 1) := by decide +kernel
theorem d_M_settle_53 : decode c_M_settle 53 = .ok (.getfield 83, 3) := by decide +kernel
theorem d_M_settle_56 : decode c_M_settle 56 = .ok (.iload_n 1, 1) := by decide +kernel
theorem d_M_settle_57 : decode c_M_settle 57 = .ok (.aaload, 1) := by decide +kernel
theorem d_M_settle_58 : decode c_M_settle 58 = .ok (.aload_n 0, 1) := by decide +kernel
theorem d_M_settle_59 : decode c_M_settle 59 = .ok (.getfield 44, 3) := by decide +kernel
theorem d_M_settle_62 : decode c_M_settle 62 = .ok (.aload_n 0, 1) := by decide +kernel
theorem d_M_settle_63 : decode c_M_settle 63 = .ok (.getfield 27, 3) := by decide +kernel
theorem d_M_settle_66 : decode c_M_settle 66 = .ok (.invokevirtual 30, 3) := by decide +kernel
theorem d_M_settle_69 : decode c_M_settle 69 = .ok (.aload_n 0, 1) := by decide +kernel
theorem d_M_settle_70 : decode c_M_settle 70 = .ok (.getfield 50, 3) := by decide +kernel
theorem d_M_settle_73 : decode c_M_settle 73 = .ok (.getfield 13, 3) := by decide +kernel
theorem d_M_settle_76 : decode c_M_settle 76 = .ok (.ifCond .eq 17, 3) := by decide +kernel
theorem d_M_settle_79 : decode c_M_settle 79 = .ok (.aload_n 0, 1) := by decide +kernel
theorem d_M_settle_80 : decode c_M_settle 80 = .ok (.getfield 50, 3) := by decide +kernel
theorem d_M_settle_83 : decode c_M_settle 83 = .ok (.invokevirtual 139, 3) := by decide +kernel
theorem d_M_settle_86 : decode c_M_settle 86 = .ok (.aload_n 0, 1) := by decide +kernel
theorem d_M_settle_87 : decode c_M_settle 87 = .ok (.getfield 47, 3) := by decide +kernel
theorem d_M_settle_90 : decode c_M_settle 90 = .ok (.invokevirtual 139, 3) := by decide +kernel
theorem d_M_settle_93 : decode c_M_settle 93 = .ok (.aload_n 0, 1) := by decide +kernel
theorem d_M_settle_94 : decode c_M_settle 94 = .ok (.getfield 79, 3) := by decide +kernel
theorem d_M_settle_97 : decode c_M_settle 97 = .ok (.iload_n 1, 1) := by decide +kernel
theorem d_M_settle_98 : decode c_M_settle 98 = .ok (.aaload, 1) := by decide +kernel
theorem d_M_settle_99 : decode c_M_settle 99 = .ok (.aload_n 0, 1) := by decide +kernel
theorem d_M_settle_100 : decode c_M_settle 100 = .ok (.getfield 47, 3) := by decide +kernel
theorem d_M_settle_103 : decode c_M_settle 103 = .ok (.invokevirtual 7, 3) := by decide +kernel
theorem d_M_settle_106 : decode c_M_settle 106 = .ok (.aload_n 0, 1) := by decide +kernel
theorem d_M_settle_107 : decode c_M_settle 107 = .ok (.getfield 83, 3) := by decide +kernel
theorem d_M_settle_110 : decode c_M_settle 110 = .ok (.iload_n 1, 1) := by decide +kernel
theorem d_M_settle_111 : decode c_M_settle 111 = .ok (.aaload, 1) := by decide +kernel
theorem d_M_settle_112 : decode c_M_settle 112 = .ok (.aload_n 0, 1) := by decide +kernel
theorem d_M_settle_113 : decode c_M_settle 113 = .ok (.getfield 50, 3) := by decide +kernel
theorem d_M_settle_116 : decode c_M_settle 116 = .ok (.invokevirtual 7, 3) := by decide +kernel
theorem d_M_settle_119 : decode c_M_settle 119 = .ok (.return_, 1) := by decide +kernel
theorem d_M_divisor_0 : decode c_M_divisor 0 = .ok (.aload_n 0, 1) := by decide +kernel
theorem d_M_divisor_1 : decode c_M_divisor 1 = .ok (.getfield 1, 3) := by decide +kernel
theorem d_M_divisor_4 : decode c_M_divisor 4 = .ok (.aload_n 1, 1) := by decide +kernel
theorem d_M_divisor_5 : decode c_M_divisor 5 = .ok (.invokevirtual 7, 3) := by decide +kernel
theorem d_M_divisor_8 : decode c_M_divisor 8 = .ok (.aload_n 0, 1) := by decide +kernel
theorem d_M_divisor_9 : decode c_M_divisor 9 = .ok (.getfield 1, 3) := by decide +kernel
theorem d_M_divisor_12 : decode c_M_divisor 12 = .ok (.iconst 0, 1) := by decide +kernel
theorem d_M_divisor_13 : decode c_M_divisor 13 = .ok (.putfield 13, 3) := by decide +kernel
theorem d_M_divisor_16 : decode c_M_divisor 16 = .ok (.aload_n 0, 1) := by decide +kernel
theorem d_M_divisor_17 : decode c_M_divisor 17 = .ok (.getfield 17, 3) := by decide +kernel
theorem d_M_divisor_20 : decode c_M_divisor 20 = .ok (.aload_n 2, 1) := by decide +kernel
theorem d_M_divisor_21 : decode c_M_divisor 21 = .ok (.invokevirtual 7, 3) := by decide +kernel
theorem d_M_divisor_24 : decode c_M_divisor 24 = .ok (.aload_n 0, 1) := by decide +kernel
theorem d_M_divisor_25 : decode c_M_divisor 25 = .ok (.getfield 17, 3) := by decide +kernel
theorem d_M_divisor_28 : decode c_M_divisor 28 = .ok (.iconst 0, 1) := by decide +kernel
theorem d_M_divisor_29 : decode c_M_divisor 29 = .ok (.putfield 13, 3) := by decide +kernel
theorem d_M_divisor_32 : decode c_M_divisor 32 = .ok (.aload_n 0, 1) := by decide +kernel
theorem d_M_divisor_33 : decode c_M_divisor 33 = .ok (.getfield 17, 3) := by decide +kernel
theorem d_M_divisor_36 : decode c_M_divisor 36 = .ok (.getfield 20, 3) := by decide +kernel
theorem d_M_divisor_39 : decode c_M_divisor 39 = .ok (.ifCond .le 47, 3) := by decide +kernel
theorem d_M_divisor_42 : decode c_M_divisor 42 = .ok (.aload_n 0, 1) := by decide +kernel
theorem d_M_divisor_43 : decode c_M_divisor 43 = .ok (.getfield 24, 3) := by decide +kernel
theorem d_M_divisor_46 : decode c_M_divisor 46 = .ok (.aload_n 0, 1) := by decide +kernel
theorem d_M_divisor_47 : decode c_M_divisor 47 = .ok (.getfield 1, 3) := by decide +kernel
theorem d_M_divisor_50 : decode c_M_divisor 50 = .ok (.aload_n 0, 1) := by decide +kernel
theorem d_M_divisor_51 : decode c_M_divisor 51 = .ok (.getfield 17, 3) := by decide +kernel
theorem d_M_divisor_54 : decode c_M_divisor 54 = .ok (.aload_n 0, 1) := by decide +kernel
theorem d_M_divisor_55 : decode c_M_divisor 55 = .ok (.getfield 27, 3) := by decide +kernel
theorem d_M_divisor_58 : decode c_M_divisor 58 = .ok (.invokevirtual 30, 3) := by decide +kernel
theorem d_M_divisor_61 : decode c_M_divisor 61 = .ok (.aload_n 0, 1) := by decide +kernel
theorem d_M_divisor_62 : decode c_M_divisor 62 = .ok (.getfield 1, 3) := by decide +kernel
theorem d_M_divisor_65 : decode c_M_divisor 65 = .ok (.aload_n 0, 1) := by decide +kernel
theorem d_M_divisor_66 : decode c_M_divisor 66 = .ok (.getfield 17, 3) := by decide +kernel
theorem d_M_divisor_69 : decode c_M_divisor 69 = .ok (.invokevirtual 7, 3) := by decide +kernel
theorem d_M_divisor_72 : decode c_M_divisor 72 = .ok (.aload_n 0, 1) := by decide +kernel
theorem d_M_divisor_73 : decode c_M_divisor 73 = .ok (.getfield 17, 3) := by decide +kernel
theorem d_M_divisor_76 : decode c_M_divisor 76 = .ok (.aload_n 0, 1) := by decide +kernel
theorem d_M_divisor_77 : decode c_M_divisor 77 = .ok (.getfield 27, 3) := by decide +kernel
theorem d_M_divisor_80 : decode c_M_divisor 80 = .ok (.invokevirtual 7, 3) := by decide +kernel
theorem d_M_divisor_83 : decode c_M_divisor 83 = .ok (.goto (-51), 3) := by decide +kernel
theorem d_M_divisor_86 : decode c_M_divisor 86 = .ok (.return_, 1) := by decide +kernel
theorem d_M_take_0 : decode c_M_take 0 = .ok (.bipush 12, 2) := by decide +kernel
theorem d_M_take_2 : decode c_M_take 2 = .ok (.iload_n 1, 1) := by decide +kernel
theorem d_M_take_3 : decode c_M_take 3 = .ok (.imul, 1) := by decide +kernel
theorem d_M_take_4 : decode c_M_take 4 = .ok (.iload_n 3, 1) := by decide +kernel
theorem d_M_take_5 : decode c_M_take 5 = .ok (.iadd, 1) := by decide +kernel
theorem d_M_take_6 : decode c_M_take 6 = .ok (.istore 4, 2) := by decide +kernel
theorem d_M_take_8 : decode c_M_take 8 = .ok (.aload_n 0, 1) := by decide +kernel
theorem d_M_take_9 : decode c_M_take 9 = .ok (.getfield 86, 3) := by decide +kernel
theorem d_M_take_12 : decode c_M_take 12 = .ok (.iload 4, 2) := by decide +kernel
theorem d_M_take_14 : decode c_M_take 14 = .ok (.iaload, 1) := by decide +kernel
theorem d_M_take_15 : decode c_M_take 15 = .ok (.istore 5, 2) := by decide +kernel
theorem d_M_take_17 : decode c_M_take 17 = .ok (.aload_n 0, 1) := by decide +kernel
theorem d_M_take_18 : decode c_M_take 18 = .ok (.getfield 92, 3) := by decide +kernel
theorem d_M_take_21 : decode c_M_take 21 = .ok (.aload_n 0, 1) := by decide +kernel
theorem d_M_take_22 : decode c_M_take 22 = .ok (.getfield 79, 3) := by decide +kernel
theorem d_M_take_25 : decode c_M_take 25 = .ok (.iload 4, 2) := by decide +kernel
theorem d_M_take_27 : decode c_M_take 27 = .ok (.aaload, 1) := by decide +kernel
theorem d_M_take_28 : decode c_M_take 28 = .ok (.invokevirtual 7, 3) := by decide +kernel
theorem d_M_take_31 : decode c_M_take 31 = .ok (.aload_n 0, 1) := by decide +kernel
theorem d_M_take_32 : decode c_M_take 32 = .ok (.getfield 95, 3) := by decide +kernel
theorem d_M_take_35 : decode c_M_take 35 = .ok (.aload_n 0, 1) := by decide +kernel
theorem d_M_take_36 : decode c_M_take 36 = .ok (.getfield 83, 3) := by decide +kernel
theorem d_M_take_39 : decode c_M_take 39 = .ok (.iload 4, 2) := by decide +kernel
theorem d_M_take_41 : decode c_M_take 41 = .ok (.aaload, 1) := by decide +kernel
theorem d_M_take_42 : decode c_M_take 42 = .ok (.invokevirtual 7, 3) := by decide +kernel
theorem d_M_take_45 : decode c_M_take 45 = .ok (.iconst 0, 1) := by decide +kernel
theorem d_M_take_46 : decode c_M_take 46 = .ok (.istore 6, 2) := by decide +kernel
theorem d_M_take_48 : decode c_M_take 48 = .ok (.iload 6, 2) := by decide +kernel
theorem d_M_take_50 : decode c_M_take 50 = .ok (.aload_n 0, 1) := by decide +kernel
theorem d_M_take_51 : decode c_M_take 51 = .ok (.getfield 111, 3) := by decide +kernel
theorem d_M_take_54 : decode c_M_take 54 = .ok (.if_icmp .ge 200, 3) := by decide +kernel
theorem d_M_take_57 : decode c_M_take 57 = .ok (.bipush 12, 2) := by decide +kernel
theorem d_M_take_59 : decode c_M_take 59 = .ok (.iload_n 1, 1) := by decide +kernel
theorem d_M_take_60 : decode c_M_take 60 = .ok (.imul, 1) := by decide +kernel
theorem d_M_take_61 : decode c_M_take 61 = .ok (.iload 6, 2) := by decide +kernel
theorem d_M_take_63 : decode c_M_take 63 = .ok (.iadd, 1) := by decide +kernel
theorem d_M_take_64 : decode c_M_take 64 = .ok (.istore 7, 2) := by decide +kernel
theorem d_M_take_66 : decode c_M_take 66 = .ok (.bipush 12, 2) := by decide +kernel
theorem d_M_take_68 : decode c_M_take 68 = .ok (.iload_n 2, 1) := by decide +kernel
theorem d_M_take_69 : decode c_M_take 69 = .ok (.imul, 1) := by decide +kernel
theorem d_M_take_70 : decode c_M_take 70 = .ok (.iload 6, 2) := by decide +kernel
theorem d_M_take_72 : decode c_M_take 72 = .ok (.iadd, 1) := by decide +kernel
theorem d_M_take_73 : decode c_M_take 73 = .ok (.istore 8, 2) := by decide +kernel
theorem d_M_take_75 : decode c_M_take 75 = .ok (.aload_n 0, 1) := by decide +kernel
theorem d_M_take_76 : decode c_M_take 76 = .ok (.getfield 105, 3) := by decide +kernel
theorem d_M_take_79 : decode c_M_take 79 = .ok (.ifCond .le 41, 3) := by decide +kernel
theorem d_M_take_82 : decode c_M_take 82 = .ok (.aload_n 0, 1) := by decide +kernel
theorem d_M_take_83 : decode c_M_take 83 = .ok (.getfield 86, 3) := by decide +kernel
theorem d_M_take_86 : decode c_M_take 86 = .ok (.iload 7, 2) := by decide +kernel
theorem d_M_take_88 : decode c_M_take 88 = .ok (.aload_n 0, 1) := by decide +kernel
theorem d_M_take_89 : decode c_M_take 89 = .ok (.getfield 86, 3) := by decide +kernel
theorem d_M_take_92 : decode c_M_take 92 = .ok (.iload 7, 2) := by decide +kernel
theorem d_M_take_94 : decode c_M_take 94 = .ok (.iaload, 1) := by decide +kernel
theorem d_M_take_95 : decode c_M_take 95 = .ok (.aload_n 0, 1) := by decide +kernel
theorem d_M_take_96 : decode c_M_take 96 = .ok (.getfield 105, 3) := by decide +kernel
theorem d_M_take_99 : decode c_M_take 99 = .ok (.iload 5, 2) := by decide +kernel
theorem d_M_take_101 : decode c_M_take 101 = .ok (.isub, 1) := by decide +kernel
theorem d_M_take_102 : decode c_M_take 102 = .ok (.aload_n 0, 1) := by decide +kernel
theorem d_M_take_103 : decode c_M_take 103 = .ok (.getfield 86, 3) := by decide +kernel
theorem d_M_take_106 : decode c_M_take 106 = .ok (.iload 8, 2) := by decide +kernel
theorem d_M_take_108 : decode c_M_take 108 = .ok (.iaload, 1) := by decide +kernel
theorem d_M_take_109 : decode c_M_take 109 = .ok (.imul, 1) := by decide +kernel
theorem d_M_take_110 : decode c_M_take 110 = .ok (.iadd, 1) := by decide +kernel
theorem d_M_take_111 : decode c_M_take 111 = .ok (.aload_n 0, 1) := by decide +kernel
theorem d_M_take_112 : decode c_M_take 112 = .ok (.getfield 105, 3) := by decide +kernel
theorem d_M_take_115 : decode c_M_take 115 = .ok (.irem, 1) := by decide +kernel
theorem d_M_take_116 : decode c_M_take 116 = .ok (.iastore, 1) := by decide +kernel
theorem d_M_take_117 : decode c_M_take 117 = .ok (.goto 131, 3) := by decide +kernel
theorem d_M_take_120 : decode c_M_take 120 = .ok (.aload_n 0, 1) := by decide +kernel
theorem d_M_take_121 : decode c_M_take 121 = .ok (.getfield 44, 3) := by decide +kernel
theorem d_M_take_124 : decode c_M_take 124 = .ok (.aload_n 0, 1) := by decide +kernel
theorem d_M_take_125 : decode c_M_take 125 = .ok (.getfield 95, 3) := by decide +kernel
theorem d_M_take_128 : decode c_M_take 128 = .ok (.aload_n 0, 1) := by decide +kernel
theorem d_M_take_129 : decode c_M_take 129 = .ok (.getfield 83, 3) := by decide +kernel
theorem d_M_take_132 : decode c_M_take 132 = .ok (.iload 8, 2) := by decide +kernel
theorem d_M_take_134 : decode c_M_take 134 = .ok (.aaload, 1) := by decide +kernel
theorem d_M_take_135 : decode c_M_take 135 = .ok (.invokevirtual 146, 3) := by decide +kernel
theorem d_M_take_138 : decode c_M_take 138 = .ok (.aload_n 0, 1) := by decide +kernel
theorem d_M_take_139 : decode c_M_take 139 = .ok (.getfield 47, 3) := by decide +kernel
theorem d_M_take_142 : decode c_M_take 142 = .ok (.aload_n 0, 1) := by decide +kernel
theorem d_M_take_143 : decode c_M_take 143 = .ok (.getfield 79, 3) := by decide +kernel
theorem d_M_take_146 : decode c_M_take 146 = .ok (.iload 7, 2) := by decide +kernel
theorem d_M_take_148 : decode c_M_take 148 = .ok (.aaload, 1) := by decide +kernel
theorem d_M_take_149 : decode c_M_take 149 = .ok (.aload_n 0, 1) := by decide +kernel
theorem d_M_take_150 : decode c_M_take 150 = .ok (.getfield 44, 3) := by decide +kernel
theorem d_M_take_153 : decode c_M_take 153 = .ok (.invokevirtual 146, 3) := by decide +kernel
theorem d_M_take_156 : decode c_M_take 156 = .ok (.aload_n 0, 1) := by decide +kernel
theorem d_M_take_157 : decode c_M_take 157 = .ok (.getfield 50, 3) := by decide +kernel
theorem d_M_take_160 : decode c_M_take 160 = .ok (.aload_n 0, 1) := by decide +kernel
theorem d_M_take_161 : decode c_M_take 161 = .ok (.getfield 92, 3) := by decide +kernel
theorem d_M_take_164 : decode c_M_take 164 = .ok (.aload_n 0, 1) := by decide +kernel
theorem d_M_take_165 : decode c_M_take 165 = .ok (.getfield 79, 3) := by decide +kernel
theorem d_M_take_168 : decode c_M_take 168 = .ok (.iload 8, 2) := by decide +kernel
theorem d_M_take_170 : decode c_M_take 170 = .ok (.aaload, 1) := by decide +kernel
theorem d_M_take_171 : decode c_M_take 171 = .ok (.invokevirtual 146, 3) := by decide +kernel
theorem d_M_take_174 : decode c_M_take 174 = .ok (.aload_n 0, 1) := by decide +kernel
theorem d_M_take_175 : decode c_M_take 175 = .ok (.getfield 41, 3) := by decide +kernel
theorem d_M_take_178 : decode c_M_take 178 = .ok (.aload_n 0, 1) := by decide +kernel
theorem d_M_take_179 : decode c_M_take 179 = .ok (.getfield 50, 3) := by decide +kernel
theorem d_M_take_182 : decode c_M_take 182 = .ok (.aload_n 0, 1) := by decide +kernel
theorem d_M_take_183 : decode c_M_take 183 = .ok (.getfield 83, 3) := by decide +kernel
theorem d_M_take_186 : decode c_M_take 186 = .ok (.iload 7, 2) := by decide +kernel
theorem d_M_take_188 : decode c_M_take 188 = .ok (.aaload, 1) := by decide +kernel
theorem d_M_take_189 : decode c_M_take 189 = .ok (.invokevirtual 146, 3) := by decide +kernel
theorem d_M_take_192 : decode c_M_take 192 = .ok (.aload_n 0, 1) := by decide +kernel
theorem d_M_take_193 : decode c_M_take 193 = .ok (.getfield 50, 3) := by decide +kernel
theorem d_M_take_196 : decode c_M_take 196 = .ok (.aload_n 0, 1) := by decide +kernel
theorem d_M_take_197 : decode c_M_take 197 = .ok (.getfield 83, 3) := by decide +kernel
theorem d_M_take_200 : decode c_M_take 200 = .ok (.iload 7, 2) := by decide +kernel
theorem d_M_take_202 : decode c_M_take 202 = .ok (.aaload, 1) := by decide +kernel
theorem d_M_take_203 : decode c_M_take 203 = .ok (.aload_n 0, 1) := by decide +kernel
theorem d_M_take_204 : decode c_M_take 204 = .ok (.getfield 44, 3) := by decide +kernel
theorem d_M_take_207 : decode c_M_take 207 = .ok (.invokevirtual 146, 3) := by decide +kernel
theorem d_M_take_210 : decode c_M_take 210 = .ok (.aload_n 0, 1) := by decide +kernel
theorem d_M_take_211 : decode c_M_take 211 = .ok (.getfield 79, 3) := by decide +kernel
theorem d_M_take_214 : decode c_M_take 214 = .ok (.iload 7, 2) := by decide +kernel
theorem d_M_take_216 : decode c_M_take 216 = .ok (.aaload, 1) := by decide +kernel
theorem d_M_take_217 : decode c_M_take 217 = .ok (.aload_n 0, 1) := by decide +kernel
theorem d_M_take_218 : decode c_M_take 218 = .ok (.getfield 47, 3) := by decide +kernel
theorem d_M_take_221 : decode c_M_take 221 = .ok (.aload_n 0, 1) := by decide +kernel
theorem d_M_take_222 : decode c_M_take 222 = .ok (.getfield 41, 3) := by decide +kernel
theorem d_M_take_225 : decode c_M_take 225 = .ok (.invokevirtual 153, 3) := by decide +kernel
theorem d_M_take_228 : decode c_M_take 228 = .ok (.aload_n 0, 1) := by decide +kernel
theorem d_M_take_229 : decode c_M_take 229 = .ok (.getfield 83, 3) := by decide +kernel
theorem d_M_take_232 : decode c_M_take 232 = .ok (.iload 7, 2) := by decide +kernel
theorem d_M_take_234 : decode c_M_take 234 = .ok (.aaload, 1) := by decide +kernel
theorem d_M_take_235 : decode c_M_take 235 = .ok (.aload_n 0, 1) := by decide +kernel
theorem d_M_take_236 : decode c_M_take 236 = .ok (.getfield 50, 3) := by decide +kernel
theorem d_M_take_239 : decode c_M_take 239 = .ok (.invokevirtual 7, 3) := by decide +kernel
theorem d_M_take_242 : decode c_M_take 242 = .ok (.aload_n 0, 1) := by decide +kernel
theorem d_M_take_243 : decode c_M_take 243 = .ok (.iload 7, 2) := by decide +kernel
theorem d_M_take_245 : decode c_M_take 245 = .ok (.invokevirtual 149, 3) := by decide +kernel
theorem d_M_take_248 : decode c_M_take 248 = .ok (.iinc 6 1, 3) := by decide +kernel
theorem d_M_take_251 : decode c_M_take 251 = .ok (.goto (-203), 3) := by decide +kernel
theorem d_M_take_254 : decode c_M_take 254 = .ok (.return_, 1) := by decide +kernel
theorem d_M_turn_0 : decode c_M_turn 0 = .ok (.aload_n 0, 1) := by decide +kernel
theorem d_M_turn_1 : decode c_M_turn 1 = .ok (.iload_n 1, 1) := by decide +kernel
theorem d_M_turn_2 : decode c_M_turn 2 = .ok (.invokevirtual 191, 3) := by decide +kernel
theorem d_M_turn_5 : decode c_M_turn 5 = .ok (.ifCond .eq 13, 3) := by decide +kernel
theorem d_M_turn_8 : decode c_M_turn 8 = .ok (.aload_n 0, 1) := by decide +kernel
theorem d_M_turn_9 : decode c_M_turn 9 = .ok (.iload_n 1, 1) := by decide +kernel
theorem d_M_turn_10 : decode c_M_turn 10 = .ok (.iload_n 2, 1) := by decide +kernel
theorem d_M_turn_11 : decode c_M_turn 11 = .ok (.iload_n 3, 1) := by decide +kernel
theorem d_M_turn_12 : decode c_M_turn 12 = .ok (.invokevirtual 181, 3) := by decide +kernel
theorem d_M_turn_15 : decode c_M_turn 15 = .ok (.ifCond .ne 5, 3) := by decide +kernel
theorem d_M_turn_18 : decode c_M_turn 18 = .ok (.iconst (-1), 1) := by decide +kernel
theorem d_M_turn_19 : decode c_M_turn 19 = .ok (.ireturn, 1) := by decide +kernel
theorem d_M_turn_20 : decode c_M_turn 20 = .ok (.aload_n 0, 1) := by decide +kernel
theorem d_M_turn_21 : decode c_M_turn 21 = .ok (.iload_n 1, 1) := by decide +kernel
theorem d_M_turn_22 : decode c_M_turn 22 = .ok (.invokevirtual 185, 3) := by decide +kernel
theorem d_M_turn_25 : decode c_M_turn 25 = .ok (.aload_n 0, 1) := by decide +kernel
theorem d_M_turn_26 : decode c_M_turn 26 = .ok (.bipush 12, 2) := by decide +kernel
theorem d_M_turn_28 : decode c_M_turn 28 = .ok (.iload_n 2, 1) := by decide +kernel
theorem d_M_turn_29 : decode c_M_turn 29 = .ok (.imul, 1) := by decide +kernel
theorem d_M_turn_30 : decode c_M_turn 30 = .ok (.iload_n 3, 1) := by decide +kernel
theorem d_M_turn_31 : decode c_M_turn 31 = .ok (.iadd, 1) := by decide +kernel
theorem d_M_turn_32 : decode c_M_turn 32 = .ok (.invokevirtual 160, 3) := by decide +kernel
theorem d_M_turn_35 : decode c_M_turn 35 = .ok (.ifCond .eq 5, 3) := by decide +kernel
theorem d_M_turn_38 : decode c_M_turn 38 = .ok (.iconst (-1), 1) := by decide +kernel
theorem d_M_turn_39 : decode c_M_turn 39 = .ok (.ireturn, 1) := by decide +kernel
theorem d_M_turn_40 : decode c_M_turn 40 = .ok (.aload_n 0, 1) := by decide +kernel
theorem d_M_turn_41 : decode c_M_turn 41 = .ok (.getfield 89, 3) := by decide +kernel
theorem d_M_turn_44 : decode c_M_turn 44 = .ok (.iload_n 2, 1) := by decide +kernel
theorem d_M_turn_45 : decode c_M_turn 45 = .ok (.iaload, 1) := by decide +kernel
theorem d_M_turn_46 : decode c_M_turn 46 = .ok (.istore 4, 2) := by decide +kernel
theorem d_M_turn_48 : decode c_M_turn 48 = .ok (.aload_n 0, 1) := by decide +kernel
theorem d_M_turn_49 : decode c_M_turn 49 = .ok (.iload_n 2, 1) := by decide +kernel
theorem d_M_turn_50 : decode c_M_turn 50 = .ok (.iload_n 3, 1) := by decide +kernel
theorem d_M_turn_51 : decode c_M_turn 51 = .ok (.invokevirtual 169, 3) := by decide +kernel
theorem d_M_turn_54 : decode c_M_turn 54 = .ok (.aload_n 0, 1) := by decide +kernel
theorem d_M_turn_55 : decode c_M_turn 55 = .ok (.iload_n 1, 1) := by decide +kernel
theorem d_M_turn_56 : decode c_M_turn 56 = .ok (.invokevirtual 175, 3) := by decide +kernel
theorem d_M_turn_59 : decode c_M_turn 59 = .ok (.iload 4, 2) := by decide +kernel
theorem d_M_turn_61 : decode c_M_turn 61 = .ok (.ireturn, 1) := by decide +kernel
theorem d_M_isReduced_0 : decode c_M_isReduced 0 = .ok (.iload_n 1, 1) := by decide +kernel
theorem d_M_isReduced_1 : decode c_M_isReduced 1 = .ok (.invokestatic 101, 3) := by decide +kernel
theorem d_M_isReduced_4 : decode c_M_isReduced 4 = .ok (.ifCond .eq 16, 3) := by decide +kernel
theorem d_M_isReduced_7 : decode c_M_isReduced 7 = .ok (.aload_n 0, 1) := by decide +kernel
theorem d_M_isReduced_8 : decode c_M_isReduced 8 = .ok (.getfield 63, 3) := by decide +kernel
theorem d_M_isReduced_11 : decode c_M_isReduced 11 = .ok (.iload_n 1, 1) := by decide +kernel
theorem d_M_isReduced_12 : decode c_M_isReduced 12 = .ok (.baload, 1) := by decide +kernel
theorem d_M_isReduced_13 : decode c_M_isReduced 13 = .ok (.ifCond .ne 7, 3) := by decide +kernel
theorem d_M_isReduced_16 : decode c_M_isReduced 16 = .ok (.iconst 1, 1) := by decide +kernel
theorem d_M_isReduced_17 : decode c_M_isReduced 17 = .ok (.goto 4, 3) := by decide +kernel
theorem d_M_isReduced_20 : decode c_M_isReduced 20 = .ok (.iconst 0, 1) := by decide +kernel
theorem d_M_isReduced_21 : decode c_M_isReduced 21 = .ok (.ireturn, 1) := by decide +kernel
theorem d_M_dual_0 : decode c_M_dual 0 = .ok (.iload_n 1, 1) := by decide +kernel
theorem d_M_dual_1 : decode c_M_dual 1 = .ok (.invokestatic 101, 3) := by decide +kernel
theorem d_M_dual_4 : decode c_M_dual 4 = .ok (.ifCond .eq 11, 3) := by decide +kernel
theorem d_M_dual_7 : decode c_M_dual 7 = .ok (.aload_n 0, 1) := by decide +kernel
theorem d_M_dual_8 : decode c_M_dual 8 = .ok (.iload_n 2, 1) := by decide +kernel
theorem d_M_dual_9 : decode c_M_dual 9 = .ok (.invokevirtual 191, 3) := by decide +kernel
theorem d_M_dual_12 : decode c_M_dual 12 = .ok (.ifCond .ne 5, 3) := by decide +kernel
theorem d_M_dual_15 : decode c_M_dual 15 = .ok (.iconst (-1), 1) := by decide +kernel
theorem d_M_dual_16 : decode c_M_dual 16 = .ok (.ireturn, 1) := by decide +kernel
theorem d_M_dual_17 : decode c_M_dual 17 = .ok (.aload_n 0, 1) := by decide +kernel
theorem d_M_dual_18 : decode c_M_dual 18 = .ok (.aload_n 0, 1) := by decide +kernel
theorem d_M_dual_19 : decode c_M_dual 19 = .ok (.getfield 53, 3) := by decide +kernel
theorem d_M_dual_22 : decode c_M_dual 22 = .ok (.iload_n 2, 1) := by decide +kernel
theorem d_M_dual_23 : decode c_M_dual 23 = .ok (.iaload, 1) := by decide +kernel
theorem d_M_dual_24 : decode c_M_dual 24 = .ok (.iconst 0, 1) := by decide +kernel
theorem d_M_dual_25 : decode c_M_dual 25 = .ok (.aload_n 0, 1) := by decide +kernel
theorem d_M_dual_26 : decode c_M_dual 26 = .ok (.getfield 60, 3) := by decide +kernel
theorem d_M_dual_29 : decode c_M_dual 29 = .ok (.iload_n 2, 1) := by decide +kernel
theorem d_M_dual_30 : decode c_M_dual 30 = .ok (.iaload, 1) := by decide +kernel
theorem d_M_dual_31 : decode c_M_dual 31 = .ok (.invokevirtual 127, 3) := by decide +kernel
theorem d_M_dual_34 : decode c_M_dual 34 = .ok (.iconst 0, 1) := by decide +kernel
theorem d_M_dual_35 : decode c_M_dual 35 = .ok (.istore_n 3, 1) := by decide +kernel
theorem d_M_dual_36 : decode c_M_dual 36 = .ok (.iload_n 3, 1) := by decide +kernel
theorem d_M_dual_37 : decode c_M_dual 37 = .ok (.aload_n 0, 1) := by decide +kernel
theorem d_M_dual_38 : decode c_M_dual 38 = .ok (.getfield 111, 3) := by decide +kernel
theorem d_M_dual_41 : decode c_M_dual 41 = .ok (.if_icmp .ge 208, 3) := by decide +kernel
theorem d_M_dual_44 : decode c_M_dual 44 = .ok (.iconst 0, 1) := by decide +kernel
theorem d_M_dual_45 : decode c_M_dual 45 = .ok (.istore 4, 2) := by decide +kernel
theorem d_M_dual_47 : decode c_M_dual 47 = .ok (.iconst 0, 1) := by decide +kernel
theorem d_M_dual_48 : decode c_M_dual 48 = .ok (.istore 5, 2) := by decide +kernel
theorem d_M_dual_50 : decode c_M_dual 50 = .ok (.iload 5, 2) := by decide +kernel
theorem d_M_dual_52 : decode c_M_dual 52 = .ok (.aload_n 0, 1) := by decide +kernel
theorem d_M_dual_53 : decode c_M_dual 53 = .ok (.getfield 57, 3) := by decide +kernel
theorem d_M_dual_56 : decode c_M_dual 56 = .ok (.iload_n 2, 1) := by decide +kernel
theorem d_M_dual_57 : decode c_M_dual 57 = .ok (.iaload, 1) := by decide +kernel
theorem d_M_dual_58 : decode c_M_dual 58 = .ok (.if_icmp .ge 37, 3) := by decide +kernel
theorem d_M_dual_61 : decode c_M_dual 61 = .ok (.iload 4, 2) := by decide +kernel
theorem d_M_dual_63 : decode c_M_dual 63 = .ok (.ifCond .ne 19, 3) := by decide +kernel
theorem d_M_dual_66 : decode c_M_dual 66 = .ok (.aload_n 0, 1) := by decide +kernel
theorem d_M_dual_67 : decode c_M_dual 67 = .ok (.getfield 67, 3) := by decide +kernel
theorem d_M_dual_70 : decode c_M_dual 70 = .ok (.bipush 12, 2) := by decide +kernel
theorem d_M_dual_72 : decode c_M_dual 72 = .ok (.iload_n 2, 1) := by decide +kernel
theorem d_M_dual_73 : decode c_M_dual 73 = .ok (.imul, 1) := by decide +kernel
theorem d_M_dual_74 : decode c_M_dual 74 = .ok (.iload 5, 2) := by decide +kernel
theorem d_M_dual_76 : decode c_M_dual 76 = .ok (.iadd, 1) := by decide +kernel
theorem d_M_dual_77 : decode c_M_dual 77 = .ok (.iaload, 1) := by decide +kernel
theorem d_M_dual_78 : decode c_M_dual 78 = .ok (.iload_n 3, 1) := by decide +kernel
theorem d_M_dual_79 : decode c_M_dual 79 = .ok (.if_icmp .ne 7, 3) := by decide +kernel
theorem d_M_dual_82 : decode c_M_dual 82 = .ok (.iconst 1, 1) := by decide +kernel
theorem d_M_dual_83 : decode c_M_dual 83 = .ok (.goto 4, 3) := by decide +kernel
theorem d_M_dual_86 : decode c_M_dual 86 = .ok (.iconst 0, 1) := by decide +kernel
theorem d_M_dual_87 : decode c_M_dual 87 = .ok (.istore 4, 2) := by decide +kernel
theorem d_M_dual_89 : decode c_M_dual 89 = .ok (.iinc 5 1, 3) := by decide +kernel
theorem d_M_dual_92 : decode c_M_dual 92 = .ok (.goto (-42), 3) := by decide +kernel
theorem d_M_dual_95 : decode c_M_dual 95 = .ok (.iload 4, 2) := by decide +kernel
theorem d_M_dual_97 : decode c_M_dual 97 = .ok (.ifCond .eq 6, 3) := by decide +kernel
theorem d_M_dual_100 : decode c_M_dual 100 = .ok (.goto 143, 3) := by decide +kernel
theorem d_M_dual_103 : decode c_M_dual 103 = .ok (.aload_n 0, 1) := by decide +kernel
theorem d_M_dual_104 : decode c_M_dual 104 = .ok (.getfield 79, 3) := by decide +kernel
theorem d_M_dual_107 : decode c_M_dual 107 = .ok (.bipush 12, 2) := by decide +kernel
theorem d_M_dual_109 : decode c_M_dual 109 = .ok (.aload_n 0, 1) := by decide +kernel
theorem d_M_dual_110 : decode c_M_dual 110 = .ok (.getfield 108, 3) := by decide +kernel
theorem d_M_dual_113 : decode c_M_dual 113 = .ok (.imul, 1) := by decide +kernel
theorem d_M_dual_114 : decode c_M_dual 114 = .ok (.iload_n 3, 1) := by decide +kernel
theorem d_M_dual_115 : decode c_M_dual 115 = .ok (.iadd, 1) := by decide +kernel
theorem d_M_dual_116 : decode c_M_dual 116 = .ok (.aaload, 1) := by decide +kernel
theorem d_M_dual_117 : decode c_M_dual 117 = .ok (.lconst 1, 1) := by decide +kernel
theorem d_M_dual_118 : decode c_M_dual 118 = .ok (.invokevirtual 117, 3) := by decide +kernel
theorem d_M_dual_121 : decode c_M_dual 121 = .ok (.aload_n 0, 1) := by decide +kernel
theorem d_M_dual_122 : decode c_M_dual 122 = .ok (.getfield 86, 3) := by decide +kernel
theorem d_M_dual_125 : decode c_M_dual 125 = .ok (.bipush 12, 2) := by decide +kernel
theorem d_M_dual_127 : decode c_M_dual 127 = .ok (.aload_n 0, 1) := by decide +kernel
theorem d_M_dual_128 : decode c_M_dual 128 = .ok (.getfield 108, 3) := by decide +kernel
theorem d_M_dual_131 : decode c_M_dual 131 = .ok (.imul, 1) := by decide +kernel
theorem d_M_dual_132 : decode c_M_dual 132 = .ok (.iload_n 3, 1) := by decide +kernel
theorem d_M_dual_133 : decode c_M_dual 133 = .ok (.iadd, 1) := by decide +kernel
theorem d_M_dual_134 : decode c_M_dual 134 = .ok (.iconst 1, 1) := by decide +kernel
theorem d_M_dual_135 : decode c_M_dual 135 = .ok (.iastore, 1) := by decide +kernel
theorem d_M_dual_136 : decode c_M_dual 136 = .ok (.iconst 0, 1) := by decide +kernel
theorem d_M_dual_137 : decode c_M_dual 137 = .ok (.istore 5, 2) := by decide +kernel
theorem d_M_dual_139 : decode c_M_dual 139 = .ok (.iload 5, 2) := by decide +kernel
theorem d_M_dual_141 : decode c_M_dual 141 = .ok (.aload_n 0, 1) := by decide +kernel
theorem d_M_dual_142 : decode c_M_dual 142 = .ok (.getfield 57, 3) := by decide +kernel
theorem d_M_dual_145 : decode c_M_dual 145 = .ok (.iload_n 2, 1) := by decide +kernel
theorem d_M_dual_146 : decode c_M_dual 146 = .ok (.iaload, 1) := by decide +kernel
theorem d_M_dual_147 : decode c_M_dual 147 = .ok (.if_icmp .ge 86, 3) := by decide +kernel
theorem d_M_dual_150 : decode c_M_dual 150 = .ok (.bipush 12, 2) := by decide +kernel
theorem d_M_dual_152 : decode c_M_dual 152 = .ok (.aload_n 0, 1) := by decide +kernel
theorem d_M_dual_153 : decode c_M_dual 153 = .ok (.getfield 108, 3) := by decide +kernel
theorem d_M_dual_156 : decode c_M_dual 156 = .ok (.imul, 1) := by decide +kernel
theorem d_M_dual_157 : decode c_M_dual 157 = .ok (.aload_n 0, 1) := by decide +kernel
theorem d_M_dual_158 : decode c_M_dual 158 = .ok (.getfield 67, 3) := by decide +kernel
theorem d_M_dual_161 : decode c_M_dual 161 = .ok (.bipush 12, 2) := by decide +kernel
theorem d_M_dual_163 : decode c_M_dual 163 = .ok (.iload_n 2, 1) := by decide +kernel
theorem d_M_dual_164 : decode c_M_dual 164 = .ok (.imul, 1) := by decide +kernel
theorem d_M_dual_165 : decode c_M_dual 165 = .ok (.iload 5, 2) := by decide +kernel
theorem d_M_dual_167 : decode c_M_dual 167 = .ok (.iadd, 1) := by decide +kernel
theorem d_M_dual_168 : decode c_M_dual 168 = .ok (.iaload, 1) := by decide +kernel
theorem d_M_dual_169 : decode c_M_dual 169 = .ok (.iadd, 1) := by decide +kernel
theorem d_M_dual_170 : decode c_M_dual 170 = .ok (.istore 6, 2) := by decide +kernel
theorem d_M_dual_172 : decode c_M_dual 172 = .ok (.aload_n 0, 1) := by decide +kernel
theorem d_M_dual_173 : decode c_M_dual 173 = .ok (.iload_n 2, 1) := by decide +kernel
theorem d_M_dual_174 : decode c_M_dual 174 = .ok (.iload 5, 2) := by decide +kernel
theorem d_M_dual_176 : decode c_M_dual 176 = .ok (.iload_n 3, 1) := by decide +kernel
theorem d_M_dual_177 : decode c_M_dual 177 = .ok (.iload 6, 2) := by decide +kernel
theorem d_M_dual_179 : decode c_M_dual 179 = .ok (.invokevirtual 131, 3) := by decide +kernel
theorem d_M_dual_182 : decode c_M_dual 182 = .ok (.aload_n 0, 1) := by decide +kernel
theorem d_M_dual_183 : decode c_M_dual 183 = .ok (.getfield 79, 3) := by decide +kernel
theorem d_M_dual_186 : decode c_M_dual 186 = .ok (.iload 6, 2) := by decide +kernel
theorem d_M_dual_188 : decode c_M_dual 188 = .ok (.aaload, 1) := by decide +kernel
theorem d_M_dual_189 : decode c_M_dual 189 = .ok (.invokevirtual 139, 3) := by decide +kernel
theorem d_M_dual_192 : decode c_M_dual 192 = .ok (.aload_n 0, 1) := by decide +kernel
theorem d_M_dual_193 : decode c_M_dual 193 = .ok (.getfield 86, 3) := by decide +kernel
theorem d_M_dual_196 : decode c_M_dual 196 = .ok (.iload 6, 2) := by decide +kernel
theorem d_M_dual_198 : decode c_M_dual 198 = .ok (.aload_n 0, 1) := by decide +kernel
theorem d_M_dual_199 : decode c_M_dual 199 = .ok (.getfield 105, 3) := by decide +kernel
theorem d_M_dual_202 : decode c_M_dual 202 = .ok (.ifCond .ne 7, 3) := by decide +kernel
theorem d_M_dual_205 : decode c_M_dual 205 = .ok (.iconst 0, 1) := by decide +kernel
theorem d_M_dual_206 : decode c_M_dual 206 = .ok (.goto 20, 3) := by decide +kernel
theorem d_M_dual_209 : decode c_M_dual 209 = .ok (.aload_n 0, 1) := by decide +kernel
theorem d_M_dual_210 : decode c_M_dual 210 = .ok (.getfield 105, 3) := by decide +kernel
theorem d_M_dual_213 : decode c_M_dual 213 = .ok (.aload_n 0, 1) := by decide +kernel
theorem d_M_dual_214 : decode c_M_dual 214 = .ok (.getfield 86, 3) := by decide +kernel
theorem d_M_dual_217 : decode c_M_dual 217 = .ok (.iload 6, 2) := by decide +kernel
theorem d_M_dual_219 : decode c_M_dual 219 = .ok (.iaload, 1) := by decide +kernel
theorem d_M_dual_220 : decode c_M_dual 220 = .ok (.isub, 1) := by decide +kernel
theorem d_M_dual_221 : decode c_M_dual 221 = .ok (.aload_n 0, 1) := by decide +kernel
theorem d_M_dual_222 : decode c_M_dual 222 = .ok (.getfield 105, 3) := by decide +kernel
theorem d_M_dual_225 : decode c_M_dual 225 = .ok (.irem, 1) := by decide +kernel
theorem d_M_dual_226 : decode c_M_dual 226 = .ok (.iastore, 1) := by decide +kernel
theorem d_M_dual_227 : decode c_M_dual 227 = .ok (.iinc 5 1, 3) := by decide +kernel
theorem d_M_dual_230 : decode c_M_dual 230 = .ok (.goto (-91), 3) := by decide +kernel
theorem d_M_dual_233 : decode c_M_dual 233 = .ok (.aload_n 0, 1) := by decide +kernel
theorem d_M_dual_234 : decode c_M_dual 234 = .ok (.dup, 1) := by decide +kernel
theorem d_M_dual_235 : decode c_M_dual 235 = .ok (.getfield 108, 3) := by decide +kernel
theorem d_M_dual_238 : decode c_M_dual 238 = .ok (.iconst 1, 1) := by decide +kernel
theorem d_M_dual_239 : decode c_M_dual 239 = .ok (.iadd, 1) := by decide +kernel
theorem d_M_dual_240 : decode c_M_dual 240 = .ok (.putfield 108, 3) := by decide +kernel
theorem d_M_dual_243 : decode c_M_dual 243 = .ok (.iinc 3 1, 3) := by decide +kernel
theorem d_M_dual_246 : decode c_M_dual 246 = .ok (.goto (-210), 3) := by decide +kernel
theorem d_M_dual_249 : decode c_M_dual 249 = .ok (.aload_n 0, 1) := by decide +kernel
theorem d_M_dual_250 : decode c_M_dual 250 = .ok (.iload_n 1, 1) := by decide +kernel
theorem d_M_dual_251 : decode c_M_dual 251 = .ok (.invokevirtual 188, 3) := by decide +kernel
theorem d_M_dual_254 : decode c_M_dual 254 = .ok (.ireturn, 1) := by decide +kernel
theorem d_M_leave_0 : decode c_M_leave 0 = .ok (.iload_n 1, 1) := by decide +kernel
theorem d_M_leave_1 : decode c_M_leave 1 = .ok (.invokestatic 101, 3) := by decide +kernel
theorem d_M_leave_4 : decode c_M_leave 4 = .ok (.ifCond .eq 27, 3) := by decide +kernel
theorem d_M_leave_7 : decode c_M_leave 7 = .ok (.aload_n 0, 1) := by decide +kernel
theorem d_M_leave_8 : decode c_M_leave 8 = .ok (.iload_n 2, 1) := by decide +kernel
theorem d_M_leave_9 : decode c_M_leave 9 = .ok (.invokevirtual 191, 3) := by decide +kernel
theorem d_M_leave_12 : decode c_M_leave 12 = .ok (.ifCond .eq 19, 3) := by decide +kernel
theorem d_M_leave_15 : decode c_M_leave 15 = .ok (.iload_n 3, 1) := by decide +kernel
theorem d_M_leave_16 : decode c_M_leave 16 = .ok (.ifCond .lt 15, 3) := by decide +kernel
theorem d_M_leave_19 : decode c_M_leave 19 = .ok (.iload_n 3, 1) := by decide +kernel
theorem d_M_leave_20 : decode c_M_leave 20 = .ok (.iconst 1, 1) := by decide +kernel
theorem d_M_leave_21 : decode c_M_leave 21 = .ok (.aload_n 0, 1) := by decide +kernel
theorem d_M_leave_22 : decode c_M_leave 22 = .ok (.getfield 60, 3) := by decide +kernel
theorem d_M_leave_25 : decode c_M_leave 25 = .ok (.iload_n 2, 1) := by decide +kernel
theorem d_M_leave_26 : decode c_M_leave 26 = .ok (.iaload, 1) := by decide +kernel
theorem d_M_leave_27 : decode c_M_leave 27 = .ok (.ishl, 1) := by decide +kernel
theorem d_M_leave_28 : decode c_M_leave 28 = .ok (.if_icmp .lt 5, 3) := by decide +kernel
theorem d_M_leave_31 : decode c_M_leave 31 = .ok (.iconst (-1), 1) := by decide +kernel
theorem d_M_leave_32 : decode c_M_leave 32 = .ok (.ireturn, 1) := by decide +kernel
theorem d_M_leave_33 : decode c_M_leave 33 = .ok (.aload_n 0, 1) := by decide +kernel
theorem d_M_leave_34 : decode c_M_leave 34 = .ok (.aload_n 0, 1) := by decide +kernel
theorem d_M_leave_35 : decode c_M_leave 35 = .ok (.getfield 53, 3) := by decide +kernel
theorem d_M_leave_38 : decode c_M_leave 38 = .ok (.iload_n 2, 1) := by decide +kernel
theorem d_M_leave_39 : decode c_M_leave 39 = .ok (.iaload, 1) := by decide +kernel
theorem d_M_leave_40 : decode c_M_leave 40 = .ok (.aload_n 0, 1) := by decide +kernel
theorem d_M_leave_41 : decode c_M_leave 41 = .ok (.getfield 57, 3) := by decide +kernel
theorem d_M_leave_44 : decode c_M_leave 44 = .ok (.iload_n 2, 1) := by decide +kernel
theorem d_M_leave_45 : decode c_M_leave 45 = .ok (.iaload, 1) := by decide +kernel
theorem d_M_leave_46 : decode c_M_leave 46 = .ok (.aload_n 0, 1) := by decide +kernel
theorem d_M_leave_47 : decode c_M_leave 47 = .ok (.getfield 60, 3) := by decide +kernel
theorem d_M_leave_50 : decode c_M_leave 50 = .ok (.iload_n 2, 1) := by decide +kernel
theorem d_M_leave_51 : decode c_M_leave 51 = .ok (.iaload, 1) := by decide +kernel
theorem d_M_leave_52 : decode c_M_leave 52 = .ok (.invokevirtual 127, 3) := by decide +kernel
theorem d_M_leave_55 : decode c_M_leave 55 = .ok (.iconst 0, 1) := by decide +kernel
theorem d_M_leave_56 : decode c_M_leave 56 = .ok (.istore 5, 2) := by decide +kernel
theorem d_M_leave_58 : decode c_M_leave 58 = .ok (.iconst 0, 1) := by decide +kernel
theorem d_M_leave_59 : decode c_M_leave 59 = .ok (.istore 6, 2) := by decide +kernel
theorem d_M_leave_61 : decode c_M_leave 61 = .ok (.iload 6, 2) := by decide +kernel
theorem d_M_leave_63 : decode c_M_leave 63 = .ok (.aload_n 0, 1) := by decide +kernel
theorem d_M_leave_64 : decode c_M_leave 64 = .ok (.getfield 111, 3) := by decide +kernel
theorem d_M_leave_67 : decode c_M_leave 67 = .ok (.if_icmp .ge 20, 3) := by decide +kernel
theorem d_M_leave_70 : decode c_M_leave 70 = .ok (.iload 5, 2) := by decide +kernel
theorem d_M_leave_72 : decode c_M_leave 72 = .ok (.iload_n 3, 1) := by decide +kernel
theorem d_M_leave_73 : decode c_M_leave 73 = .ok (.iload 6, 2) := by decide +kernel
theorem d_M_leave_75 : decode c_M_leave 75 = .ok (.ishr, 1) := by decide +kernel
theorem d_M_leave_76 : decode c_M_leave 76 = .ok (.iconst 1, 1) := by decide +kernel
theorem d_M_leave_77 : decode c_M_leave 77 = .ok (.iand, 1) := by decide +kernel
theorem d_M_leave_78 : decode c_M_leave 78 = .ok (.iadd, 1) := by decide +kernel
theorem d_M_leave_79 : decode c_M_leave 79 = .ok (.istore 5, 2) := by decide +kernel
theorem d_M_leave_81 : decode c_M_leave 81 = .ok (.iinc 6 1, 3) := by decide +kernel
theorem d_M_leave_84 : decode c_M_leave 84 = .ok (.goto (-23), 3) := by decide +kernel
theorem d_M_leave_87 : decode c_M_leave 87 = .ok (.iconst 0, 1) := by decide +kernel
theorem d_M_leave_88 : decode c_M_leave 88 = .ok (.istore 6, 2) := by decide +kernel
theorem d_M_leave_90 : decode c_M_leave 90 = .ok (.iload 6, 2) := by decide +kernel
theorem d_M_leave_92 : decode c_M_leave 92 = .ok (.aload_n 0, 1) := by decide +kernel
theorem d_M_leave_93 : decode c_M_leave 93 = .ok (.getfield 108, 3) := by decide +kernel
theorem d_M_leave_96 : decode c_M_leave 96 = .ok (.if_icmp .ge 87, 3) := by decide +kernel
theorem d_M_leave_99 : decode c_M_leave 99 = .ok (.iconst 0, 1) := by decide +kernel
theorem d_M_leave_100 : decode c_M_leave 100 = .ok (.istore 7, 2) := by decide +kernel
theorem d_M_leave_102 : decode c_M_leave 102 = .ok (.iload 5, 2) := by decide +kernel
theorem d_M_leave_104 : decode c_M_leave 104 = .ok (.istore 8, 2) := by decide +kernel
theorem d_M_leave_106 : decode c_M_leave 106 = .ok (.iconst 0, 1) := by decide +kernel
theorem d_M_leave_107 : decode c_M_leave 107 = .ok (.istore 9, 2) := by decide +kernel
theorem d_M_leave_109 : decode c_M_leave 109 = .ok (.iload 9, 2) := by decide +kernel
theorem d_M_leave_111 : decode c_M_leave 111 = .ok (.aload_n 0, 1) := by decide +kernel
theorem d_M_leave_112 : decode c_M_leave 112 = .ok (.getfield 111, 3) := by decide +kernel
theorem d_M_leave_115 : decode c_M_leave 115 = .ok (.if_icmp .ge 62, 3) := by decide +kernel
theorem d_M_leave_118 : decode c_M_leave 118 = .ok (.iload_n 3, 1) := by decide +kernel
theorem d_M_leave_119 : decode c_M_leave 119 = .ok (.iload 9, 2) := by decide +kernel
theorem d_M_leave_121 : decode c_M_leave 121 = .ok (.ishr, 1) := by decide +kernel
theorem d_M_leave_122 : decode c_M_leave 122 = .ok (.iconst 1, 1) := by decide +kernel
theorem d_M_leave_123 : decode c_M_leave 123 = .ok (.iand, 1) := by decide +kernel
theorem d_M_leave_124 : decode c_M_leave 124 = .ok (.iconst 1, 1) := by decide +kernel
theorem d_M_leave_125 : decode c_M_leave 125 = .ok (.if_icmp .ne 26, 3) := by decide +kernel
theorem d_M_leave_128 : decode c_M_leave 128 = .ok (.aload_n 0, 1) := by decide +kernel
theorem d_M_leave_129 : decode c_M_leave 129 = .ok (.iload_n 2, 1) := by decide +kernel
theorem d_M_leave_130 : decode c_M_leave 130 = .ok (.iload 6, 2) := by decide +kernel
theorem d_M_leave_132 : decode c_M_leave 132 = .ok (.iload 9, 2) := by decide +kernel
theorem d_M_leave_134 : decode c_M_leave 134 = .ok (.bipush 12, 2) := by decide +kernel
theorem d_M_leave_136 : decode c_M_leave 136 = .ok (.iload 6, 2) := by decide +kernel
theorem d_M_leave_138 : decode c_M_leave 138 = .ok (.imul, 1) := by decide +kernel
theorem d_M_leave_139 : decode c_M_leave 139 = .ok (.iload 7, 2) := by decide +kernel
theorem d_M_leave_141 : decode c_M_leave 141 = .ok (.iadd, 1) := by decide +kernel
theorem d_M_leave_142 : decode c_M_leave 142 = .ok (.invokevirtual 131, 3) := by decide +kernel
theorem d_M_leave_145 : decode c_M_leave 145 = .ok (.iinc 7 1, 3) := by decide +kernel
theorem d_M_leave_148 : decode c_M_leave 148 = .ok (.goto 23, 3) := by decide +kernel
theorem d_M_leave_151 : decode c_M_leave 151 = .ok (.aload_n 0, 1) := by decide +kernel
theorem d_M_leave_152 : decode c_M_leave 152 = .ok (.iload_n 2, 1) := by decide +kernel
theorem d_M_leave_153 : decode c_M_leave 153 = .ok (.iload 6, 2) := by decide +kernel
theorem d_M_leave_155 : decode c_M_leave 155 = .ok (.iload 9, 2) := by decide +kernel
theorem d_M_leave_157 : decode c_M_leave 157 = .ok (.bipush 12, 2) := by decide +kernel
theorem d_M_leave_159 : decode c_M_leave 159 = .ok (.iload 6, 2) := by decide +kernel
theorem d_M_leave_161 : decode c_M_leave 161 = .ok (.imul, 1) := by decide +kernel
theorem d_M_leave_162 : decode c_M_leave 162 = .ok (.iload 8, 2) := by decide +kernel
theorem d_M_leave_164 : decode c_M_leave 164 = .ok (.iadd, 1) := by decide +kernel
theorem d_M_leave_165 : decode c_M_leave 165 = .ok (.invokevirtual 131, 3) := by decide +kernel
theorem d_M_leave_168 : decode c_M_leave 168 = .ok (.iinc 8 1, 3) := by decide +kernel
theorem d_M_leave_171 : decode c_M_leave 171 = .ok (.iinc 9 1, 3) := by decide +kernel
theorem d_M_leave_174 : decode c_M_leave 174 = .ok (.goto (-65), 3) := by decide +kernel
theorem d_M_leave_177 : decode c_M_leave 177 = .ok (.iinc 6 1, 3) := by decide +kernel
theorem d_M_leave_180 : decode c_M_leave 180 = .ok (.goto (-90), 3) := by decide +kernel
theorem d_M_leave_183 : decode c_M_leave 183 = .ok (.iconst 0, 1) := by decide +kernel
theorem d_M_leave_184 : decode c_M_leave 184 = .ok (.istore 6, 2) := by decide +kernel
theorem d_M_leave_186 : decode c_M_leave 186 = .ok (.iload 4, 2) := by decide +kernel
theorem d_M_leave_188 : decode c_M_leave 188 = .ok (.ifCond .eq 34, 3) := by decide +kernel
theorem d_M_leave_191 : decode c_M_leave 191 = .ok (.aload_n 0, 1) := by decide +kernel
theorem d_M_leave_192 : decode c_M_leave 192 = .ok (.invokevirtual 172, 3) := by decide +kernel
theorem d_M_leave_195 : decode c_M_leave 195 = .ok (.iload 6, 2) := by decide +kernel
theorem d_M_leave_197 : decode c_M_leave 197 = .ok (.aload_n 0, 1) := by decide +kernel
theorem d_M_leave_198 : decode c_M_leave 198 = .ok (.getfield 108, 3) := by decide +kernel
theorem d_M_leave_201 : decode c_M_leave 201 = .ok (.if_icmp .ge 21, 3) := by decide +kernel
theorem d_M_leave_204 : decode c_M_leave 204 = .ok (.aload_n 0, 1) := by decide +kernel
theorem d_M_leave_205 : decode c_M_leave 205 = .ok (.getfield 89, 3) := by decide +kernel
theorem d_M_leave_208 : decode c_M_leave 208 = .ok (.iload 6, 2) := by decide +kernel
theorem d_M_leave_210 : decode c_M_leave 210 = .ok (.iaload, 1) := by decide +kernel
theorem d_M_leave_211 : decode c_M_leave 211 = .ok (.iload 5, 2) := by decide +kernel
theorem d_M_leave_213 : decode c_M_leave 213 = .ok (.if_icmp .ge 9, 3) := by decide +kernel
theorem d_M_leave_216 : decode c_M_leave 216 = .ok (.iinc 6 1, 3) := by decide +kernel
theorem d_M_leave_219 : decode c_M_leave 219 = .ok (.goto (-24), 3) := by decide +kernel
theorem d_M_leave_222 : decode c_M_leave 222 = .ok (.aload_n 0, 1) := by decide +kernel
theorem d_M_leave_223 : decode c_M_leave 223 = .ok (.iload 6, 2) := by decide +kernel
theorem d_M_leave_225 : decode c_M_leave 225 = .ok (.iload 5, 2) := by decide +kernel
theorem d_M_leave_227 : decode c_M_leave 227 = .ok (.invokevirtual 194, 3) := by decide +kernel
theorem d_M_leave_230 : decode c_M_leave 230 = .ok (.aload_n 0, 1) := by decide +kernel
theorem d_M_leave_231 : decode c_M_leave 231 = .ok (.iload_n 1, 1) := by decide +kernel
theorem d_M_leave_232 : decode c_M_leave 232 = .ok (.invokevirtual 188, 3) := by decide +kernel
theorem d_M_leave_235 : decode c_M_leave 235 = .ok (.ireturn, 1) := by decide +kernel
theorem d_M_shift_0 : decode c_M_shift 0 = .ok (.iload_n 1, 1) := by decide +kernel
theorem d_M_shift_1 : decode c_M_shift 1 = .ok (.istore_n 3, 1) := by decide +kernel
theorem d_M_shift_2 : decode c_M_shift 2 = .ok (.iload_n 3, 1) := by decide +kernel
theorem d_M_shift_3 : decode c_M_shift 3 = .ok (.aload_n 0, 1) := by decide +kernel
theorem d_M_shift_4 : decode c_M_shift 4 = .ok (.getfield 108, 3) := by decide +kernel
theorem d_M_shift_7 : decode c_M_shift 7 = .ok (.if_icmp .ge 104, 3) := by decide +kernel
theorem d_M_shift_10 : decode c_M_shift 10 = .ok (.iload_n 2, 1) := by decide +kernel
theorem d_M_shift_11 : decode c_M_shift 11 = .ok (.istore 4, 2) := by decide +kernel
theorem d_M_shift_13 : decode c_M_shift 13 = .ok (.iload 4, 2) := by decide +kernel
theorem d_M_shift_15 : decode c_M_shift 15 = .ok (.aload_n 0, 1) := by decide +kernel
theorem d_M_shift_16 : decode c_M_shift 16 = .ok (.getfield 111, 3) := by decide +kernel
theorem d_M_shift_19 : decode c_M_shift 19 = .ok (.if_icmp .ge 86, 3) := by decide +kernel
theorem d_M_shift_22 : decode c_M_shift 22 = .ok (.bipush 12, 2) := by decide +kernel
theorem d_M_shift_24 : decode c_M_shift 24 = .ok (.iload_n 3, 1) := by decide +kernel
theorem d_M_shift_25 : decode c_M_shift 25 = .ok (.imul, 1) := by decide +kernel
theorem d_M_shift_26 : decode c_M_shift 26 = .ok (.iload 4, 2) := by decide +kernel
theorem d_M_shift_28 : decode c_M_shift 28 = .ok (.iadd, 1) := by decide +kernel
theorem d_M_shift_29 : decode c_M_shift 29 = .ok (.istore 5, 2) := by decide +kernel
theorem d_M_shift_31 : decode c_M_shift 31 = .ok (.bipush 12, 2) := by decide +kernel
theorem d_M_shift_33 : decode c_M_shift 33 = .ok (.iload_n 3, 1) := by decide +kernel
theorem d_M_shift_34 : decode c_M_shift 34 = .ok (.iload_n 1, 1) := by decide +kernel
theorem d_M_shift_35 : decode c_M_shift 35 = .ok (.isub, 1) := by decide +kernel
theorem d_M_shift_36 : decode c_M_shift 36 = .ok (.imul, 1) := by decide +kernel
theorem d_M_shift_37 : decode c_M_shift 37 = .ok (.iload 4, 2) := by decide +kernel
theorem d_M_shift_39 : decode c_M_shift 39 = .ok (.iadd, 1) := by decide +kernel
theorem d_M_shift_40 : decode c_M_shift 40 = .ok (.iload_n 2, 1) := by decide +kernel
theorem d_M_shift_41 : decode c_M_shift 41 = .ok (.isub, 1) := by decide +kernel
theorem d_M_shift_42 : decode c_M_shift 42 = .ok (.istore 6, 2) := by decide +kernel
theorem d_M_shift_44 : decode c_M_shift 44 = .ok (.iload 5, 2) := by decide +kernel
theorem d_M_shift_46 : decode c_M_shift 46 = .ok (.iload 6, 2) := by decide +kernel
theorem d_M_shift_48 : decode c_M_shift 48 = .ok (.if_icmp .eq 51, 3) := by decide +kernel
theorem d_M_shift_51 : decode c_M_shift 51 = .ok (.aload_n 0, 1) := by decide +kernel
theorem d_M_shift_52 : decode c_M_shift 52 = .ok (.getfield 79, 3) := by decide +kernel
theorem d_M_shift_55 : decode c_M_shift 55 = .ok (.iload 6, 2) := by decide +kernel
theorem d_M_shift_57 : decode c_M_shift 57 = .ok (.aaload, 1) := by decide +kernel
theorem d_M_shift_58 : decode c_M_shift 58 = .ok (.aload_n 0, 1) := by decide +kernel
theorem d_M_shift_59 : decode c_M_shift 59 = .ok (.getfield 79, 3) := by decide +kernel
theorem d_M_shift_62 : decode c_M_shift 62 = .ok (.iload 5, 2) := by decide +kernel
theorem d_M_shift_64 : decode c_M_shift 64 = .ok (.aaload, 1) := by decide +kernel
theorem d_M_shift_65 : decode c_M_shift 65 = .ok (.invokevirtual 7, 3) := by decide +kernel
theorem d_M_shift_68 : decode c_M_shift 68 = .ok (.aload_n 0, 1) := by decide +kernel
theorem d_M_shift_69 : decode c_M_shift 69 = .ok (.getfield 83, 3) := by decide +kernel
theorem d_M_shift_72 : decode c_M_shift 72 = .ok (.iload 6, 2) := by decide +kernel
theorem d_M_shift_74 : decode c_M_shift 74 = .ok (.aaload, 1) := by decide +kernel
theorem d_M_shift_75 : decode c_M_shift 75 = .ok (.aload_n 0, 1) := by decide +kernel
theorem d_M_shift_76 : decode c_M_shift 76 = .ok (.getfield 83, 3) := by decide +kernel
theorem d_M_shift_79 : decode c_M_shift 79 = .ok (.iload 5, 2) := by decide +kernel
theorem d_M_shift_81 : decode c_M_shift 81 = .ok (.aaload, 1) := by decide +kernel
theorem d_M_shift_82 : decode c_M_shift 82 = .ok (.invokevirtual 7, 3) := by decide +kernel
theorem d_M_shift_85 : decode c_M_shift 85 = .ok (.aload_n 0, 1) := by decide +kernel
theorem d_M_shift_86 : decode c_M_shift 86 = .ok (.getfield 86, 3) := by decide +kernel
theorem d_M_shift_89 : decode c_M_shift 89 = .ok (.iload 6, 2) := by decide +kernel
theorem d_M_shift_91 : decode c_M_shift 91 = .ok (.aload_n 0, 1) := by decide +kernel
theorem d_M_shift_92 : decode c_M_shift 92 = .ok (.getfield 86, 3) := by decide +kernel
theorem d_M_shift_95 : decode c_M_shift 95 = .ok (.iload 5, 2) := by decide +kernel
theorem d_M_shift_97 : decode c_M_shift 97 = .ok (.iaload, 1) := by decide +kernel
theorem d_M_shift_98 : decode c_M_shift 98 = .ok (.iastore, 1) := by decide +kernel
theorem d_M_shift_99 : decode c_M_shift 99 = .ok (.iinc 4 1, 3) := by decide +kernel
theorem d_M_shift_102 : decode c_M_shift 102 = .ok (.goto (-89), 3) := by decide +kernel
theorem d_M_shift_105 : decode c_M_shift 105 = .ok (.iinc 3 1, 3) := by decide +kernel
theorem d_M_shift_108 : decode c_M_shift 108 = .ok (.goto (-106), 3) := by decide +kernel
theorem d_M_shift_111 : decode c_M_shift 111 = .ok (.aload_n 0, 1) := by decide +kernel
theorem d_M_shift_112 : decode c_M_shift 112 = .ok (.dup, 1) := by decide +kernel
theorem d_M_shift_113 : decode c_M_shift 113 = .ok (.getfield 108, 3) := by decide +kernel
theorem d_M_shift_116 : decode c_M_shift 116 = .ok (.iload_n 1, 1) := by decide +kernel
theorem d_M_shift_117 : decode c_M_shift 117 = .ok (.isub, 1) := by decide +kernel
theorem d_M_shift_118 : decode c_M_shift 118 = .ok (.putfield 108, 3) := by decide +kernel
theorem d_M_shift_121 : decode c_M_shift 121 = .ok (.aload_n 0, 1) := by decide +kernel
theorem d_M_shift_122 : decode c_M_shift 122 = .ok (.dup, 1) := by decide +kernel
theorem d_M_shift_123 : decode c_M_shift 123 = .ok (.getfield 111, 3) := by decide +kernel
theorem d_M_shift_126 : decode c_M_shift 126 = .ok (.iload_n 2, 1) := by decide +kernel
theorem d_M_shift_127 : decode c_M_shift 127 = .ok (.isub, 1) := by decide +kernel
theorem d_M_shift_128 : decode c_M_shift 128 = .ok (.putfield 111, 3) := by decide +kernel
theorem d_M_shift_131 : decode c_M_shift 131 = .ok (.return_, 1) := by decide +kernel
theorem d_M_sum_0 : decode c_M_sum 0 = .ok (.iload_n 1, 1) := by decide +kernel
theorem d_M_sum_1 : decode c_M_sum 1 = .ok (.invokestatic 101, 3) := by decide +kernel
theorem d_M_sum_4 : decode c_M_sum 4 = .ok (.ifCond .eq 52, 3) := by decide +kernel
theorem d_M_sum_7 : decode c_M_sum 7 = .ok (.aload_n 0, 1) := by decide +kernel
theorem d_M_sum_8 : decode c_M_sum 8 = .ok (.iload_n 2, 1) := by decide +kernel
theorem d_M_sum_9 : decode c_M_sum 9 = .ok (.invokevirtual 191, 3) := by decide +kernel
theorem d_M_sum_12 : decode c_M_sum 12 = .ok (.ifCond .eq 44, 3) := by decide +kernel
theorem d_M_sum_15 : decode c_M_sum 15 = .ok (.aload_n 0, 1) := by decide +kernel
theorem d_M_sum_16 : decode c_M_sum 16 = .ok (.iload_n 3, 1) := by decide +kernel
theorem d_M_sum_17 : decode c_M_sum 17 = .ok (.invokevirtual 191, 3) := by decide +kernel
theorem d_M_sum_20 : decode c_M_sum 20 = .ok (.ifCond .eq 36, 3) := by decide +kernel
theorem d_M_sum_23 : decode c_M_sum 23 = .ok (.aload_n 0, 1) := by decide +kernel
theorem d_M_sum_24 : decode c_M_sum 24 = .ok (.getfield 53, 3) := by decide +kernel
theorem d_M_sum_27 : decode c_M_sum 27 = .ok (.iload_n 2, 1) := by decide +kernel
theorem d_M_sum_28 : decode c_M_sum 28 = .ok (.iaload, 1) := by decide +kernel
theorem d_M_sum_29 : decode c_M_sum 29 = .ok (.aload_n 0, 1) := by decide +kernel
theorem d_M_sum_30 : decode c_M_sum 30 = .ok (.getfield 53, 3) := by decide +kernel
theorem d_M_sum_33 : decode c_M_sum 33 = .ok (.iload_n 3, 1) := by decide +kernel
theorem d_M_sum_34 : decode c_M_sum 34 = .ok (.iaload, 1) := by decide +kernel
theorem d_M_sum_35 : decode c_M_sum 35 = .ok (.if_icmp .ne 21, 3) := by decide +kernel
theorem d_M_sum_38 : decode c_M_sum 38 = .ok (.aload_n 0, 1) := by decide +kernel
theorem d_M_sum_39 : decode c_M_sum 39 = .ok (.getfield 60, 3) := by decide +kernel
theorem d_M_sum_42 : decode c_M_sum 42 = .ok (.iload_n 2, 1) := by decide +kernel
theorem d_M_sum_43 : decode c_M_sum 43 = .ok (.iaload, 1) := by decide +kernel
theorem d_M_sum_44 : decode c_M_sum 44 = .ok (.aload_n 0, 1) := by decide +kernel
theorem d_M_sum_45 : decode c_M_sum 45 = .ok (.getfield 60, 3) := by decide +kernel
theorem d_M_sum_48 : decode c_M_sum 48 = .ok (.iload_n 3, 1) := by decide +kernel
theorem d_M_sum_49 : decode c_M_sum 49 = .ok (.iaload, 1) := by decide +kernel
theorem d_M_sum_50 : decode c_M_sum 50 = .ok (.iadd, 1) := by decide +kernel
theorem d_M_sum_51 : decode c_M_sum 51 = .ok (.bipush 12, 2) := by decide +kernel
theorem d_M_sum_53 : decode c_M_sum 53 = .ok (.if_icmp .le 5, 3) := by decide +kernel
theorem d_M_sum_56 : decode c_M_sum 56 = .ok (.iconst (-1), 1) := by decide +kernel
theorem d_M_sum_57 : decode c_M_sum 57 = .ok (.ireturn, 1) := by decide +kernel
theorem d_M_sum_58 : decode c_M_sum 58 = .ok (.aload_n 0, 1) := by decide +kernel
theorem d_M_sum_59 : decode c_M_sum 59 = .ok (.aload_n 0, 1) := by decide +kernel
theorem d_M_sum_60 : decode c_M_sum 60 = .ok (.getfield 53, 3) := by decide +kernel
theorem d_M_sum_63 : decode c_M_sum 63 = .ok (.iload_n 2, 1) := by decide +kernel
theorem d_M_sum_64 : decode c_M_sum 64 = .ok (.iaload, 1) := by decide +kernel
theorem d_M_sum_65 : decode c_M_sum 65 = .ok (.aload_n 0, 1) := by decide +kernel
theorem d_M_sum_66 : decode c_M_sum 66 = .ok (.getfield 57, 3) := by decide +kernel
theorem d_M_sum_69 : decode c_M_sum 69 = .ok (.iload_n 2, 1) := by decide +kernel
theorem d_M_sum_70 : decode c_M_sum 70 = .ok (.iaload, 1) := by decide +kernel
theorem d_M_sum_71 : decode c_M_sum 71 = .ok (.aload_n 0, 1) := by decide +kernel
theorem d_M_sum_72 : decode c_M_sum 72 = .ok (.getfield 57, 3) := by decide +kernel
theorem d_M_sum_75 : decode c_M_sum 75 = .ok (.iload_n 3, 1) := by decide +kernel
theorem d_M_sum_76 : decode c_M_sum 76 = .ok (.iaload, 1) := by decide +kernel
theorem d_M_sum_77 : decode c_M_sum 77 = .ok (.iadd, 1) := by decide +kernel
theorem d_M_sum_78 : decode c_M_sum 78 = .ok (.aload_n 0, 1) := by decide +kernel
theorem d_M_sum_79 : decode c_M_sum 79 = .ok (.getfield 60, 3) := by decide +kernel
theorem d_M_sum_82 : decode c_M_sum 82 = .ok (.iload_n 2, 1) := by decide +kernel
theorem d_M_sum_83 : decode c_M_sum 83 = .ok (.iaload, 1) := by decide +kernel
theorem d_M_sum_84 : decode c_M_sum 84 = .ok (.aload_n 0, 1) := by decide +kernel
theorem d_M_sum_85 : decode c_M_sum 85 = .ok (.getfield 60, 3) := by decide +kernel
theorem d_M_sum_88 : decode c_M_sum 88 = .ok (.iload_n 3, 1) := by decide +kernel
theorem d_M_sum_89 : decode c_M_sum 89 = .ok (.iaload, 1) := by decide +kernel
theorem d_M_sum_90 : decode c_M_sum 90 = .ok (.iadd, 1) := by decide +kernel
theorem d_M_sum_91 : decode c_M_sum 91 = .ok (.invokevirtual 127, 3) := by decide +kernel
theorem d_M_sum_94 : decode c_M_sum 94 = .ok (.iconst 0, 1) := by decide +kernel
theorem d_M_sum_95 : decode c_M_sum 95 = .ok (.istore 4, 2) := by decide +kernel
theorem d_M_sum_97 : decode c_M_sum 97 = .ok (.iload 4, 2) := by decide +kernel
theorem d_M_sum_99 : decode c_M_sum 99 = .ok (.aload_n 0, 1) := by decide +kernel
theorem d_M_sum_100 : decode c_M_sum 100 = .ok (.getfield 57, 3) := by decide +kernel
theorem d_M_sum_103 : decode c_M_sum 103 = .ok (.iload_n 2, 1) := by decide +kernel
theorem d_M_sum_104 : decode c_M_sum 104 = .ok (.iaload, 1) := by decide +kernel
theorem d_M_sum_105 : decode c_M_sum 105 = .ok (.if_icmp .ge 46, 3) := by decide +kernel
theorem d_M_sum_108 : decode c_M_sum 108 = .ok (.iconst 0, 1) := by decide +kernel
theorem d_M_sum_109 : decode c_M_sum 109 = .ok (.istore 5, 2) := by decide +kernel
theorem d_M_sum_111 : decode c_M_sum 111 = .ok (.iload 5, 2) := by decide +kernel
theorem d_M_sum_113 : decode c_M_sum 113 = .ok (.aload_n 0, 1) := by decide +kernel
theorem d_M_sum_114 : decode c_M_sum 114 = .ok (.getfield 60, 3) := by decide +kernel
theorem d_M_sum_117 : decode c_M_sum 117 = .ok (.iload_n 2, 1) := by decide +kernel
theorem d_M_sum_118 : decode c_M_sum 118 = .ok (.iaload, 1) := by decide +kernel
theorem d_M_sum_119 : decode c_M_sum 119 = .ok (.if_icmp .ge 26, 3) := by decide +kernel
theorem d_M_sum_122 : decode c_M_sum 122 = .ok (.aload_n 0, 1) := by decide +kernel
theorem d_M_sum_123 : decode c_M_sum 123 = .ok (.iload_n 2, 1) := by decide +kernel
theorem d_M_sum_124 : decode c_M_sum 124 = .ok (.iload 4, 2) := by decide +kernel
theorem d_M_sum_126 : decode c_M_sum 126 = .ok (.iload 5, 2) := by decide +kernel
theorem d_M_sum_128 : decode c_M_sum 128 = .ok (.bipush 12, 2) := by decide +kernel
theorem d_M_sum_130 : decode c_M_sum 130 = .ok (.iload 4, 2) := by decide +kernel
theorem d_M_sum_132 : decode c_M_sum 132 = .ok (.imul, 1) := by decide +kernel
theorem d_M_sum_133 : decode c_M_sum 133 = .ok (.iload 5, 2) := by decide +kernel
theorem d_M_sum_135 : decode c_M_sum 135 = .ok (.iadd, 1) := by decide +kernel
theorem d_M_sum_136 : decode c_M_sum 136 = .ok (.invokevirtual 131, 3) := by decide +kernel
theorem d_M_sum_139 : decode c_M_sum 139 = .ok (.iinc 5 1, 3) := by decide +kernel
theorem d_M_sum_142 : decode c_M_sum 142 = .ok (.goto (-31), 3) := by decide +kernel
theorem d_M_sum_145 : decode c_M_sum 145 = .ok (.iinc 4 1, 3) := by decide +kernel
theorem d_M_sum_148 : decode c_M_sum 148 = .ok (.goto (-51), 3) := by decide +kernel
theorem d_M_sum_151 : decode c_M_sum 151 = .ok (.iconst 0, 1) := by decide +kernel
theorem d_M_sum_152 : decode c_M_sum 152 = .ok (.istore 4, 2) := by decide +kernel
theorem d_M_sum_154 : decode c_M_sum 154 = .ok (.iload 4, 2) := by decide +kernel
theorem d_M_sum_156 : decode c_M_sum 156 = .ok (.aload_n 0, 1) := by decide +kernel
theorem d_M_sum_157 : decode c_M_sum 157 = .ok (.getfield 57, 3) := by decide +kernel
theorem d_M_sum_160 : decode c_M_sum 160 = .ok (.iload_n 3, 1) := by decide +kernel
theorem d_M_sum_161 : decode c_M_sum 161 = .ok (.iaload, 1) := by decide +kernel
theorem d_M_sum_162 : decode c_M_sum 162 = .ok (.if_icmp .ge 60, 3) := by decide +kernel
theorem d_M_sum_165 : decode c_M_sum 165 = .ok (.iconst 0, 1) := by decide +kernel
theorem d_M_sum_166 : decode c_M_sum 166 = .ok (.istore 5, 2) := by decide +kernel
theorem d_M_sum_168 : decode c_M_sum 168 = .ok (.iload 5, 2) := by decide +kernel
theorem d_M_sum_170 : decode c_M_sum 170 = .ok (.aload_n 0, 1) := by decide +kernel
theorem d_M_sum_171 : decode c_M_sum 171 = .ok (.getfield 60, 3) := by decide +kernel
theorem d_M_sum_174 : decode c_M_sum 174 = .ok (.iload_n 3, 1) := by decide +kernel
theorem d_M_sum_175 : decode c_M_sum 175 = .ok (.iaload, 1) := by decide +kernel
theorem d_M_sum_176 : decode c_M_sum 176 = .ok (.if_icmp .ge 40, 3) := by decide +kernel
theorem d_M_sum_179 : decode c_M_sum 179 = .ok (.aload_n 0, 1) := by decide +kernel
theorem d_M_sum_180 : decode c_M_sum 180 = .ok (.iload_n 3, 1) := by decide +kernel
theorem d_M_sum_181 : decode c_M_sum 181 = .ok (.iload 4, 2) := by decide +kernel
theorem d_M_sum_183 : decode c_M_sum 183 = .ok (.iload 5, 2) := by decide +kernel
theorem d_M_sum_185 : decode c_M_sum 185 = .ok (.bipush 12, 2) := by decide +kernel
theorem d_M_sum_187 : decode c_M_sum 187 = .ok (.aload_n 0, 1) := by decide +kernel
theorem d_M_sum_188 : decode c_M_sum 188 = .ok (.getfield 57, 3) := by decide +kernel
theorem d_M_sum_191 : decode c_M_sum 191 = .ok (.iload_n 2, 1) := by decide +kernel
theorem d_M_sum_192 : decode c_M_sum 192 = .ok (.iaload, 1) := by decide +kernel
theorem d_M_sum_193 : decode c_M_sum 193 = .ok (.iload 4, 2) := by decide +kernel
theorem d_M_sum_195 : decode c_M_sum 195 = .ok (.iadd, 1) := by decide +kernel
theorem d_M_sum_196 : decode c_M_sum 196 = .ok (.imul, 1) := by decide +kernel
theorem d_M_sum_197 : decode c_M_sum 197 = .ok (.aload_n 0, 1) := by decide +kernel
theorem d_M_sum_198 : decode c_M_sum 198 = .ok (.getfield 60, 3) := by decide +kernel
theorem d_M_sum_201 : decode c_M_sum 201 = .ok (.iload_n 2, 1) := by decide +kernel
theorem d_M_sum_202 : decode c_M_sum 202 = .ok (.iaload, 1) := by decide +kernel
theorem d_M_sum_203 : decode c_M_sum 203 = .ok (.iadd, 1) := by decide +kernel
theorem d_M_sum_204 : decode c_M_sum 204 = .ok (.iload 5, 2) := by decide +kernel
theorem d_M_sum_206 : decode c_M_sum 206 = .ok (.iadd, 1) := by decide +kernel
theorem d_M_sum_207 : decode c_M_sum 207 = .ok (.invokevirtual 131, 3) := by decide +kernel
theorem d_M_sum_210 : decode c_M_sum 210 = .ok (.iinc 5 1, 3) := by decide +kernel
theorem d_M_sum_213 : decode c_M_sum 213 = .ok (.goto (-45), 3) := by decide +kernel
theorem d_M_sum_216 : decode c_M_sum 216 = .ok (.iinc 4 1, 3) := by decide +kernel
theorem d_M_sum_219 : decode c_M_sum 219 = .ok (.goto (-65), 3) := by decide +kernel
theorem d_M_sum_222 : decode c_M_sum 222 = .ok (.aload_n 0, 1) := by decide +kernel
theorem d_M_sum_223 : decode c_M_sum 223 = .ok (.iload_n 1, 1) := by decide +kernel
theorem d_M_sum_224 : decode c_M_sum 224 = .ok (.invokevirtual 188, 3) := by decide +kernel
theorem d_M_sum_227 : decode c_M_sum 227 = .ok (.ireturn, 1) := by decide +kernel
theorem d_M_of_0 : decode c_M_of 0 = .ok (.iload_n 1, 1) := by decide +kernel
theorem d_M_of_1 : decode c_M_of 1 = .ok (.invokestatic 101, 3) := by decide +kernel
theorem d_M_of_4 : decode c_M_of 4 = .ok (.ifCond .ne 5, 3) := by decide +kernel
theorem d_M_of_7 : decode c_M_of 7 = .ok (.iconst (-1), 1) := by decide +kernel
theorem d_M_of_8 : decode c_M_of 8 = .ok (.ireturn, 1) := by decide +kernel
theorem d_M_of_9 : decode c_M_of 9 = .ok (.iload_n 2, 1) := by decide +kernel
theorem d_M_of_10 : decode c_M_of 10 = .ok (.ifCond .ne 12, 3) := by decide +kernel
theorem d_M_of_13 : decode c_M_of 13 = .ok (.aload_n 0, 1) := by decide +kernel
theorem d_M_of_14 : decode c_M_of 14 = .ok (.getfield 53, 3) := by decide +kernel
theorem d_M_of_17 : decode c_M_of 17 = .ok (.iload_n 1, 1) := by decide +kernel
theorem d_M_of_18 : decode c_M_of 18 = .ok (.iaload, 1) := by decide +kernel
theorem d_M_of_19 : decode c_M_of 19 = .ok (.goto 54, 3) := by decide +kernel
theorem d_M_of_22 : decode c_M_of 22 = .ok (.iload_n 2, 1) := by decide +kernel
theorem d_M_of_23 : decode c_M_of 23 = .ok (.iconst 1, 1) := by decide +kernel
theorem d_M_of_24 : decode c_M_of 24 = .ok (.if_icmp .ne 12, 3) := by decide +kernel
theorem d_M_of_27 : decode c_M_of 27 = .ok (.aload_n 0, 1) := by decide +kernel
theorem d_M_of_28 : decode c_M_of 28 = .ok (.getfield 57, 3) := by decide +kernel
theorem d_M_of_31 : decode c_M_of 31 = .ok (.iload_n 1, 1) := by decide +kernel
theorem d_M_of_32 : decode c_M_of 32 = .ok (.iaload, 1) := by decide +kernel
theorem d_M_of_33 : decode c_M_of 33 = .ok (.goto 40, 3) := by decide +kernel
theorem d_M_of_36 : decode c_M_of 36 = .ok (.iload_n 2, 1) := by decide +kernel
theorem d_M_of_37 : decode c_M_of 37 = .ok (.iconst 2, 1) := by decide +kernel
theorem d_M_of_38 : decode c_M_of 38 = .ok (.if_icmp .ne 12, 3) := by decide +kernel
theorem d_M_of_41 : decode c_M_of 41 = .ok (.aload_n 0, 1) := by decide +kernel
theorem d_M_of_42 : decode c_M_of 42 = .ok (.getfield 60, 3) := by decide +kernel
theorem d_M_of_45 : decode c_M_of 45 = .ok (.iload_n 1, 1) := by decide +kernel
theorem d_M_of_46 : decode c_M_of 46 = .ok (.iaload, 1) := by decide +kernel
theorem d_M_of_47 : decode c_M_of 47 = .ok (.goto 26, 3) := by decide +kernel
theorem d_M_of_50 : decode c_M_of 50 = .ok (.iload_n 2, 1) := by decide +kernel
theorem d_M_of_51 : decode c_M_of 51 = .ok (.iconst 3, 1) := by decide +kernel
theorem d_M_of_52 : decode c_M_of 52 = .ok (.if_icmp .ne 20, 3) := by decide +kernel
theorem d_M_of_55 : decode c_M_of 55 = .ok (.aload_n 0, 1) := by decide +kernel
theorem d_M_of_56 : decode c_M_of 56 = .ok (.getfield 63, 3) := by decide +kernel
theorem d_M_of_59 : decode c_M_of 59 = .ok (.iload_n 1, 1) := by decide +kernel
theorem d_M_of_60 : decode c_M_of 60 = .ok (.baload, 1) := by decide +kernel
theorem d_M_of_61 : decode c_M_of 61 = .ok (.ifCond .eq 7, 3) := by decide +kernel
theorem d_M_of_64 : decode c_M_of 64 = .ok (.iconst 0, 1) := by decide +kernel
theorem d_M_of_65 : decode c_M_of 65 = .ok (.goto 8, 3) := by decide +kernel
theorem d_M_of_68 : decode c_M_of 68 = .ok (.iconst 1, 1) := by decide +kernel
theorem d_M_of_69 : decode c_M_of 69 = .ok (.goto 4, 3) := by decide +kernel
theorem d_M_of_72 : decode c_M_of 72 = .ok (.iconst (-1), 1) := by decide +kernel
theorem d_M_of_73 : decode c_M_of 73 = .ok (.ireturn, 1) := by decide +kernel
theorem d_M_place_0 : decode c_M_place 0 = .ok (.aload_n 0, 1) := by decide +kernel
theorem d_M_place_1 : decode c_M_place 1 = .ok (.iload_n 1, 1) := by decide +kernel
theorem d_M_place_2 : decode c_M_place 2 = .ok (.invokevirtual 191, 3) := by decide +kernel
theorem d_M_place_5 : decode c_M_place 5 = .ok (.ifCond .eq 31, 3) := by decide +kernel
theorem d_M_place_8 : decode c_M_place 8 = .ok (.iload_n 2, 1) := by decide +kernel
theorem d_M_place_9 : decode c_M_place 9 = .ok (.ifCond .lt 27, 3) := by decide +kernel
theorem d_M_place_12 : decode c_M_place 12 = .ok (.iload_n 2, 1) := by decide +kernel
theorem d_M_place_13 : decode c_M_place 13 = .ok (.aload_n 0, 1) := by decide +kernel
theorem d_M_place_14 : decode c_M_place 14 = .ok (.getfield 57, 3) := by decide +kernel
theorem d_M_place_17 : decode c_M_place 17 = .ok (.iload_n 1, 1) := by decide +kernel
theorem d_M_place_18 : decode c_M_place 18 = .ok (.iaload, 1) := by decide +kernel
theorem d_M_place_19 : decode c_M_place 19 = .ok (.if_icmp .ge 17, 3) := by decide +kernel
theorem d_M_place_22 : decode c_M_place 22 = .ok (.aload_n 0, 1) := by decide +kernel
theorem d_M_place_23 : decode c_M_place 23 = .ok (.getfield 67, 3) := by decide +kernel
theorem d_M_place_26 : decode c_M_place 26 = .ok (.bipush 12, 2) := by decide +kernel
theorem d_M_place_28 : decode c_M_place 28 = .ok (.iload_n 1, 1) := by decide +kernel
theorem d_M_place_29 : decode c_M_place 29 = .ok (.imul, 1) := by decide +kernel
theorem d_M_place_30 : decode c_M_place 30 = .ok (.iload_n 2, 1) := by decide +kernel
theorem d_M_place_31 : decode c_M_place 31 = .ok (.iadd, 1) := by decide +kernel
theorem d_M_place_32 : decode c_M_place 32 = .ok (.iaload, 1) := by decide +kernel
theorem d_M_place_33 : decode c_M_place 33 = .ok (.goto 4, 3) := by decide +kernel
theorem d_M_place_36 : decode c_M_place 36 = .ok (.iconst (-1), 1) := by decide +kernel
theorem d_M_place_37 : decode c_M_place 37 = .ok (.ireturn, 1) := by decide +kernel
theorem d_M_sign_0 : decode c_M_sign 0 = .ok (.aload_n 0, 1) := by decide +kernel
theorem d_M_sign_1 : decode c_M_sign 1 = .ok (.iload_n 1, 1) := by decide +kernel
theorem d_M_sign_2 : decode c_M_sign 2 = .ok (.iload_n 2, 1) := by decide +kernel
theorem d_M_sign_3 : decode c_M_sign 3 = .ok (.iload_n 3, 1) := by decide +kernel
theorem d_M_sign_4 : decode c_M_sign 4 = .ok (.invokevirtual 181, 3) := by decide +kernel
theorem d_M_sign_7 : decode c_M_sign 7 = .ok (.ifCond .ne 5, 3) := by decide +kernel
theorem d_M_sign_10 : decode c_M_sign 10 = .ok (.iconst 0, 1) := by decide +kernel
theorem d_M_sign_11 : decode c_M_sign 11 = .ok (.ireturn, 1) := by decide +kernel
theorem d_M_sign_12 : decode c_M_sign 12 = .ok (.sipush 144, 3) := by decide +kernel
theorem d_M_sign_15 : decode c_M_sign 15 = .ok (.iload_n 1, 1) := by decide +kernel
theorem d_M_sign_16 : decode c_M_sign 16 = .ok (.imul, 1) := by decide +kernel
theorem d_M_sign_17 : decode c_M_sign 17 = .ok (.bipush 12, 2) := by decide +kernel
theorem d_M_sign_19 : decode c_M_sign 19 = .ok (.iload_n 2, 1) := by decide +kernel
theorem d_M_sign_20 : decode c_M_sign 20 = .ok (.imul, 1) := by decide +kernel
theorem d_M_sign_21 : decode c_M_sign 21 = .ok (.iadd, 1) := by decide +kernel
theorem d_M_sign_22 : decode c_M_sign 22 = .ok (.iload_n 3, 1) := by decide +kernel
theorem d_M_sign_23 : decode c_M_sign 23 = .ok (.iadd, 1) := by decide +kernel
theorem d_M_sign_24 : decode c_M_sign 24 = .ok (.istore 4, 2) := by decide +kernel
theorem d_M_sign_26 : decode c_M_sign 26 = .ok (.aload_n 0, 1) := by decide +kernel
theorem d_M_sign_27 : decode c_M_sign 27 = .ok (.getfield 53, 3) := by decide +kernel
theorem d_M_sign_30 : decode c_M_sign 30 = .ok (.iload_n 1, 1) := by decide +kernel
theorem d_M_sign_31 : decode c_M_sign 31 = .ok (.iaload, 1) := by decide +kernel
theorem d_M_sign_32 : decode c_M_sign 32 = .ok (.ifCond .ne 16, 3) := by decide +kernel
theorem d_M_sign_35 : decode c_M_sign 35 = .ok (.aload_n 0, 1) := by decide +kernel
theorem d_M_sign_36 : decode c_M_sign 36 = .ok (.getfield 70, 3) := by decide +kernel
theorem d_M_sign_39 : decode c_M_sign 39 = .ok (.bipush 16, 2) := by decide +kernel
theorem d_M_sign_41 : decode c_M_sign 41 = .ok (.iload 4, 2) := by decide +kernel
theorem d_M_sign_43 : decode c_M_sign 43 = .ok (.imul, 1) := by decide +kernel
theorem d_M_sign_44 : decode c_M_sign 44 = .ok (.iaload, 1) := by decide +kernel
theorem d_M_sign_45 : decode c_M_sign 45 = .ok (.goto 10, 3) := by decide +kernel
theorem d_M_sign_48 : decode c_M_sign 48 = .ok (.aload_n 0, 1) := by decide +kernel
theorem d_M_sign_49 : decode c_M_sign 49 = .ok (.getfield 76, 3) := by decide +kernel
theorem d_M_sign_52 : decode c_M_sign 52 = .ok (.iload 4, 2) := by decide +kernel
theorem d_M_sign_54 : decode c_M_sign 54 = .ok (.iaload, 1) := by decide +kernel
theorem d_M_sign_55 : decode c_M_sign 55 = .ok (.istore 5, 2) := by decide +kernel
theorem d_M_sign_57 : decode c_M_sign 57 = .ok (.iload 5, 2) := by decide +kernel
theorem d_M_sign_59 : decode c_M_sign 59 = .ok (.ifCond .ge 7, 3) := by decide +kernel
theorem d_M_sign_62 : decode c_M_sign 62 = .ok (.iconst (-1), 1) := by decide +kernel
theorem d_M_sign_63 : decode c_M_sign 63 = .ok (.goto 13, 3) := by decide +kernel
theorem d_M_sign_66 : decode c_M_sign 66 = .ok (.iload 5, 2) := by decide +kernel
theorem d_M_sign_68 : decode c_M_sign 68 = .ok (.ifCond .le 7, 3) := by decide +kernel
theorem d_M_sign_71 : decode c_M_sign 71 = .ok (.iconst 1, 1) := by decide +kernel
theorem d_M_sign_72 : decode c_M_sign 72 = .ok (.goto 4, 3) := by decide +kernel
theorem d_M_sign_75 : decode c_M_sign 75 = .ok (.iconst 0, 1) := by decide +kernel
theorem d_M_sign_76 : decode c_M_sign 76 = .ok (.ireturn, 1) := by decide +kernel
theorem d_M_digit_0 : decode c_M_digit 0 = .ok (.aload_n 0, 1) := by decide +kernel
theorem d_M_digit_1 : decode c_M_digit 1 = .ok (.iload_n 1, 1) := by decide +kernel
theorem d_M_digit_2 : decode c_M_digit 2 = .ok (.iload_n 2, 1) := by decide +kernel
theorem d_M_digit_3 : decode c_M_digit 3 = .ok (.iload_n 3, 1) := by decide +kernel
theorem d_M_digit_4 : decode c_M_digit 4 = .ok (.invokevirtual 181, 3) := by decide +kernel
theorem d_M_digit_7 : decode c_M_digit 7 = .ok (.ifCond .eq 8, 3) := by decide +kernel
theorem d_M_digit_10 : decode c_M_digit 10 = .ok (.iload 4, 2) := by decide +kernel
theorem d_M_digit_12 : decode c_M_digit 12 = .ok (.ifCond .ge 5, 3) := by decide +kernel
theorem d_M_digit_15 : decode c_M_digit 15 = .ok (.iconst (-1), 1) := by decide +kernel
theorem d_M_digit_16 : decode c_M_digit 16 = .ok (.ireturn, 1) := by decide +kernel
theorem d_M_digit_17 : decode c_M_digit 17 = .ok (.sipush 144, 3) := by decide +kernel
theorem d_M_digit_20 : decode c_M_digit 20 = .ok (.iload_n 1, 1) := by decide +kernel
theorem d_M_digit_21 : decode c_M_digit 21 = .ok (.imul, 1) := by decide +kernel
theorem d_M_digit_22 : decode c_M_digit 22 = .ok (.bipush 12, 2) := by decide +kernel
theorem d_M_digit_24 : decode c_M_digit 24 = .ok (.iload_n 2, 1) := by decide +kernel
theorem d_M_digit_25 : decode c_M_digit 25 = .ok (.imul, 1) := by decide +kernel
theorem d_M_digit_26 : decode c_M_digit 26 = .ok (.iadd, 1) := by decide +kernel
theorem d_M_digit_27 : decode c_M_digit 27 = .ok (.iload_n 3, 1) := by decide +kernel
theorem d_M_digit_28 : decode c_M_digit 28 = .ok (.iadd, 1) := by decide +kernel
theorem d_M_digit_29 : decode c_M_digit 29 = .ok (.istore 5, 2) := by decide +kernel
theorem d_M_digit_31 : decode c_M_digit 31 = .ok (.aload_n 0, 1) := by decide +kernel
theorem d_M_digit_32 : decode c_M_digit 32 = .ok (.getfield 53, 3) := by decide +kernel
theorem d_M_digit_35 : decode c_M_digit 35 = .ok (.iload_n 1, 1) := by decide +kernel
theorem d_M_digit_36 : decode c_M_digit 36 = .ok (.iaload, 1) := by decide +kernel
theorem d_M_digit_37 : decode c_M_digit 37 = .ok (.ifCond .le 20, 3) := by decide +kernel
theorem d_M_digit_40 : decode c_M_digit 40 = .ok (.iload 4, 2) := by decide +kernel
theorem d_M_digit_42 : decode c_M_digit 42 = .ok (.ifCond .ne 13, 3) := by decide +kernel
theorem d_M_digit_45 : decode c_M_digit 45 = .ok (.aload_n 0, 1) := by decide +kernel
theorem d_M_digit_46 : decode c_M_digit 46 = .ok (.getfield 76, 3) := by decide +kernel
theorem d_M_digit_49 : decode c_M_digit 49 = .ok (.iload 5, 2) := by decide +kernel
theorem d_M_digit_51 : decode c_M_digit 51 = .ok (.iaload, 1) := by decide +kernel
theorem d_M_digit_52 : decode c_M_digit 52 = .ok (.goto 4, 3) := by decide +kernel
theorem d_M_digit_55 : decode c_M_digit 55 = .ok (.iconst 0, 1) := by decide +kernel
theorem d_M_digit_56 : decode c_M_digit 56 = .ok (.ireturn, 1) := by decide +kernel
theorem d_M_digit_57 : decode c_M_digit 57 = .ok (.aload_n 0, 1) := by decide +kernel
theorem d_M_digit_58 : decode c_M_digit 58 = .ok (.getfield 92, 3) := by decide +kernel
theorem d_M_digit_61 : decode c_M_digit 61 = .ok (.lconst 1, 1) := by decide +kernel
theorem d_M_digit_62 : decode c_M_digit 62 = .ok (.invokevirtual 117, 3) := by decide +kernel
theorem d_M_digit_65 : decode c_M_digit 65 = .ok (.iconst 0, 1) := by decide +kernel
theorem d_M_digit_66 : decode c_M_digit 66 = .ok (.istore 6, 2) := by decide +kernel
theorem d_M_digit_68 : decode c_M_digit 68 = .ok (.iload 6, 2) := by decide +kernel
theorem d_M_digit_70 : decode c_M_digit 70 = .ok (.aload_n 0, 1) := by decide +kernel
theorem d_M_digit_71 : decode c_M_digit 71 = .ok (.getfield 60, 3) := by decide +kernel
theorem d_M_digit_74 : decode c_M_digit 74 = .ok (.iload_n 1, 1) := by decide +kernel
theorem d_M_digit_75 : decode c_M_digit 75 = .ok (.iaload, 1) := by decide +kernel
theorem d_M_digit_76 : decode c_M_digit 76 = .ok (.if_icmp .ge 104, 3) := by decide +kernel
theorem d_M_digit_79 : decode c_M_digit 79 = .ok (.aload_n 0, 1) := by decide +kernel
theorem d_M_digit_80 : decode c_M_digit 80 = .ok (.getfield 95, 3) := by decide +kernel
theorem d_M_digit_83 : decode c_M_digit 83 = .ok (.aload_n 0, 1) := by decide +kernel
theorem d_M_digit_84 : decode c_M_digit 84 = .ok (.getfield 73, 3) := by decide +kernel
theorem d_M_digit_87 : decode c_M_digit 87 = .ok (.bipush 16, 2) := by decide +kernel
theorem d_M_digit_89 : decode c_M_digit 89 = .ok (.sipush 144, 3) := by decide +kernel
theorem d_M_digit_92 : decode c_M_digit 92 = .ok (.iload_n 1, 1) := by decide +kernel
theorem d_M_digit_93 : decode c_M_digit 93 = .ok (.imul, 1) := by decide +kernel
theorem d_M_digit_94 : decode c_M_digit 94 = .ok (.bipush 12, 2) := by decide +kernel
theorem d_M_digit_96 : decode c_M_digit 96 = .ok (.iload_n 2, 1) := by decide +kernel
theorem d_M_digit_97 : decode c_M_digit 97 = .ok (.imul, 1) := by decide +kernel
theorem d_M_digit_98 : decode c_M_digit 98 = .ok (.iadd, 1) := by decide +kernel
theorem d_M_digit_99 : decode c_M_digit 99 = .ok (.iload 6, 2) := by decide +kernel
theorem d_M_digit_101 : decode c_M_digit 101 = .ok (.iadd, 1) := by decide +kernel
theorem d_M_digit_102 : decode c_M_digit 102 = .ok (.imul, 1) := by decide +kernel
theorem d_M_digit_103 : decode c_M_digit 103 = .ok (.invokestatic 120, 3) := by decide +kernel
theorem d_M_digit_106 : decode c_M_digit 106 = .ok (.aload_n 0, 1) := by decide +kernel
theorem d_M_digit_107 : decode c_M_digit 107 = .ok (.aload_n 0, 1) := by decide +kernel
theorem d_M_digit_108 : decode c_M_digit 108 = .ok (.getfield 92, 3) := by decide +kernel
theorem d_M_digit_111 : decode c_M_digit 111 = .ok (.aload_n 0, 1) := by decide +kernel
theorem d_M_digit_112 : decode c_M_digit 112 = .ok (.getfield 95, 3) := by decide +kernel
theorem d_M_digit_115 : decode c_M_digit 115 = .ok (.invokevirtual 135, 3) := by decide +kernel
theorem d_M_digit_118 : decode c_M_digit 118 = .ok (.aload_n 0, 1) := by decide +kernel
theorem d_M_digit_119 : decode c_M_digit 119 = .ok (.getfield 44, 3) := by decide +kernel
theorem d_M_digit_122 : decode c_M_digit 122 = .ok (.aload_n 0, 1) := by decide +kernel
theorem d_M_digit_123 : decode c_M_digit 123 = .ok (.getfield 1, 3) := by decide +kernel
theorem d_M_digit_126 : decode c_M_digit 126 = .ok (.invokevirtual 7, 3) := by decide +kernel
theorem d_M_digit_129 : decode c_M_digit 129 = .ok (.aload_n 0, 1) := by decide +kernel
theorem d_M_digit_130 : decode c_M_digit 130 = .ok (.getfield 47, 3) := by decide +kernel
theorem d_M_digit_133 : decode c_M_digit 133 = .ok (.aload_n 0, 1) := by decide +kernel
theorem d_M_digit_134 : decode c_M_digit 134 = .ok (.getfield 95, 3) := by decide +kernel
theorem d_M_digit_137 : decode c_M_digit 137 = .ok (.aload_n 0, 1) := by decide +kernel
theorem d_M_digit_138 : decode c_M_digit 138 = .ok (.getfield 44, 3) := by decide +kernel
theorem d_M_digit_141 : decode c_M_digit 141 = .ok (.aload_n 0, 1) := by decide +kernel
theorem d_M_digit_142 : decode c_M_digit 142 = .ok (.getfield 27, 3) := by decide +kernel
theorem d_M_digit_145 : decode c_M_digit 145 = .ok (.invokevirtual 30, 3) := by decide +kernel
theorem d_M_digit_148 : decode c_M_digit 148 = .ok (.aload_n 0, 1) := by decide +kernel
theorem d_M_digit_149 : decode c_M_digit 149 = .ok (.getfield 50, 3) := by decide +kernel
theorem d_M_digit_152 : decode c_M_digit 152 = .ok (.aload_n 0, 1) := by decide +kernel
theorem d_M_digit_153 : decode c_M_digit 153 = .ok (.getfield 92, 3) := by decide +kernel
theorem d_M_digit_156 : decode c_M_digit 156 = .ok (.aload_n 0, 1) := by decide +kernel
theorem d_M_digit_157 : decode c_M_digit 157 = .ok (.getfield 47, 3) := by decide +kernel
theorem d_M_digit_160 : decode c_M_digit 160 = .ok (.invokevirtual 146, 3) := by decide +kernel
theorem d_M_digit_163 : decode c_M_digit 163 = .ok (.aload_n 0, 1) := by decide +kernel
theorem d_M_digit_164 : decode c_M_digit 164 = .ok (.getfield 92, 3) := by decide +kernel
theorem d_M_digit_167 : decode c_M_digit 167 = .ok (.aload_n 0, 1) := by decide +kernel
theorem d_M_digit_168 : decode c_M_digit 168 = .ok (.getfield 50, 3) := by decide +kernel
theorem d_M_digit_171 : decode c_M_digit 171 = .ok (.invokevirtual 7, 3) := by decide +kernel
theorem d_M_digit_174 : decode c_M_digit 174 = .ok (.iinc 6 1, 3) := by decide +kernel
theorem d_M_digit_177 : decode c_M_digit 177 = .ok (.goto (-109), 3) := by decide +kernel
theorem d_M_digit_180 : decode c_M_digit 180 = .ok (.aload_n 0, 1) := by decide +kernel
theorem d_M_digit_181 : decode c_M_digit 181 = .ok (.getfield 95, 3) := by decide +kernel
theorem d_M_digit_184 : decode c_M_digit 184 = .ok (.aload_n 0, 1) := by decide +kernel
theorem d_M_digit_185 : decode c_M_digit 185 = .ok (.getfield 73, 3) := by decide +kernel
theorem d_M_digit_188 : decode c_M_digit 188 = .ok (.bipush 16, 2) := by decide +kernel
theorem d_M_digit_190 : decode c_M_digit 190 = .ok (.iload 5, 2) := by decide +kernel
theorem d_M_digit_192 : decode c_M_digit 192 = .ok (.imul, 1) := by decide +kernel
theorem d_M_digit_193 : decode c_M_digit 193 = .ok (.invokestatic 120, 3) := by decide +kernel
theorem d_M_digit_196 : decode c_M_digit 196 = .ok (.aload_n 0, 1) := by decide +kernel
theorem d_M_digit_197 : decode c_M_digit 197 = .ok (.getfield 47, 3) := by decide +kernel
theorem d_M_digit_200 : decode c_M_digit 200 = .ok (.aload_n 0, 1) := by decide +kernel
theorem d_M_digit_201 : decode c_M_digit 201 = .ok (.getfield 92, 3) := by decide +kernel
theorem d_M_digit_204 : decode c_M_digit 204 = .ok (.aload_n 0, 1) := by decide +kernel
theorem d_M_digit_205 : decode c_M_digit 205 = .ok (.getfield 95, 3) := by decide +kernel
theorem d_M_digit_208 : decode c_M_digit 208 = .ok (.aload_n 0, 1) := by decide +kernel
theorem d_M_digit_209 : decode c_M_digit 209 = .ok (.getfield 27, 3) := by decide +kernel
theorem d_M_digit_212 : decode c_M_digit 212 = .ok (.invokevirtual 30, 3) := by decide +kernel
theorem d_M_digit_215 : decode c_M_digit 215 = .ok (.aload_n 0, 1) := by decide +kernel
theorem d_M_digit_216 : decode c_M_digit 216 = .ok (.getfield 95, 3) := by decide +kernel
theorem d_M_digit_219 : decode c_M_digit 219 = .ok (.aload_n 0, 1) := by decide +kernel
theorem d_M_digit_220 : decode c_M_digit 220 = .ok (.getfield 70, 3) := by decide +kernel
theorem d_M_digit_223 : decode c_M_digit 223 = .ok (.bipush 16, 2) := by decide +kernel
theorem d_M_digit_225 : decode c_M_digit 225 = .ok (.iload 5, 2) := by decide +kernel
theorem d_M_digit_227 : decode c_M_digit 227 = .ok (.imul, 1) := by decide +kernel
theorem d_M_digit_228 : decode c_M_digit 228 = .ok (.invokestatic 120, 3) := by decide +kernel
theorem d_M_digit_231 : decode c_M_digit 231 = .ok (.aload_n 0, 1) := by decide +kernel
theorem d_M_digit_232 : decode c_M_digit 232 = .ok (.getfield 50, 3) := by decide +kernel
theorem d_M_digit_235 : decode c_M_digit 235 = .ok (.aload_n 0, 1) := by decide +kernel
theorem d_M_digit_236 : decode c_M_digit 236 = .ok (.getfield 95, 3) := by decide +kernel
theorem d_M_digit_239 : decode c_M_digit 239 = .ok (.aload_n 0, 1) := by decide +kernel
theorem d_M_digit_240 : decode c_M_digit 240 = .ok (.getfield 47, 3) := by decide +kernel
theorem d_M_digit_243 : decode c_M_digit 243 = .ok (.invokevirtual 146, 3) := by decide +kernel
theorem d_M_digit_246 : decode c_M_digit 246 = .ok (.iload 4, 2) := by decide +kernel
theorem d_M_digit_248 : decode c_M_digit 248 = .ok (.aload_n 0, 1) := by decide +kernel
theorem d_M_digit_249 : decode c_M_digit 249 = .ok (.getfield 50, 3) := by decide +kernel
theorem d_M_digit_252 : decode c_M_digit 252 = .ok (.getfield 20, 3) := by decide +kernel
theorem d_M_digit_255 : decode c_M_digit 255 = .ok (.if_icmp .ge 16, 3) := by decide +kernel
theorem d_M_digit_258 : decode c_M_digit 258 = .ok (.aload_n 0, 1) := by decide +kernel
theorem d_M_digit_259 : decode c_M_digit 259 = .ok (.getfield 50, 3) := by decide +kernel
theorem d_M_digit_262 : decode c_M_digit 262 = .ok (.getfield 98, 3) := by decide +kernel
theorem d_M_digit_265 : decode c_M_digit 265 = .ok (.iload 4, 2) := by decide +kernel
theorem d_M_digit_267 : decode c_M_digit 267 = .ok (.iaload, 1) := by decide +kernel
theorem d_M_digit_268 : decode c_M_digit 268 = .ok (.goto 4, 3) := by decide +kernel
theorem d_M_digit_271 : decode c_M_digit 271 = .ok (.iconst 0, 1) := by decide +kernel
theorem d_M_digit_272 : decode c_M_digit 272 = .ok (.ireturn, 1) := by decide +kernel
