-- ===== decode rows (written by wip/gen/names.py) =====
theorem d_N_init_0 : decode c_N_init 0 = .ok (.aload_n 0, 1) := by decide +kernel
theorem d_N_init_1 : decode c_N_init 1 = .ok (.invokespecial 1, 3) := by decide +kernel
theorem d_N_init_4 : decode c_N_init 4 = .ok (.aload_n 0, 1) := by decide +kernel
theorem d_N_init_5 : decode c_N_init 5 = .ok (.sipush 160, 3) := by decide +kernel
theorem d_N_init_8 : decode c_N_init 8 = .ok (.newarray .int, 2) := by decide +kernel
theorem d_N_init_10 : decode c_N_init 10 = .ok (.putfield 7, 3) := by decide +kernel
theorem d_N_init_13 : decode c_N_init 13 = .ok (.return_, 1) := by decide +kernel
theorem d_N_zero_0 : decode c_N_zero 0 = .ok (.aload_n 0, 1) := by decide +kernel
theorem d_N_zero_1 : decode c_N_zero 1 = .ok (.iconst 0, 1) := by decide +kernel
theorem d_N_zero_2 : decode c_N_zero 2 = .ok (.putfield 13, 3) := by decide +kernel
theorem d_N_zero_5 : decode c_N_zero 5 = .ok (.aload_n 0, 1) := by decide +kernel
theorem d_N_zero_6 : decode c_N_zero 6 = .ok (.iconst 0, 1) := by decide +kernel
theorem d_N_zero_7 : decode c_N_zero 7 = .ok (.putfield 17, 3) := by decide +kernel
theorem d_N_zero_10 : decode c_N_zero 10 = .ok (.return_, 1) := by decide +kernel
theorem d_N_small_0 : decode c_N_small 0 = .ok (.aload_n 0, 1) := by decide +kernel
theorem d_N_small_1 : decode c_N_small 1 = .ok (.invokevirtual 21, 3) := by decide +kernel
theorem d_N_small_4 : decode c_N_small 4 = .ok (.aload_n 0, 1) := by decide +kernel
theorem d_N_small_5 : decode c_N_small 5 = .ok (.lload_n 1, 1) := by decide +kernel
theorem d_N_small_6 : decode c_N_small 6 = .ok (.lconst 0, 1) := by decide +kernel
theorem d_N_small_7 : decode c_N_small 7 = .ok (.lcmp, 1) := by decide +kernel
theorem d_N_small_8 : decode c_N_small 8 = .ok (.ifCond .ge 7, 3) := by decide +kernel
theorem d_N_small_11 : decode c_N_small 11 = .ok (.iconst 1, 1) := by decide +kernel
theorem d_N_small_12 : decode c_N_small 12 = .ok (.goto 4, 3) := by decide +kernel
theorem d_N_small_15 : decode c_N_small 15 = .ok (.iconst 0, 1) := by decide +kernel
theorem d_N_small_16 : decode c_N_small 16 = .ok (.putfield 17, 3) := by decide +kernel
theorem d_N_small_19 : decode c_N_small 19 = .ok (.lload_n 1, 1) := by decide +kernel
theorem d_N_small_20 : decode c_N_small 20 = .ok (.lconst 0, 1) := by decide +kernel
theorem d_N_small_21 : decode c_N_small 21 = .ok (.lcmp, 1) := by decide +kernel
theorem d_N_small_22 : decode c_N_small 22 = .ok (.ifCond .ge 8, 3) := by decide +kernel
theorem d_N_small_25 : decode c_N_small 25 = .ok (.lload_n 1, 1) := by decide +kernel
theorem d_N_small_26 : decode c_N_small 26 = .ok (.lneg, 1) := by decide +kernel
theorem d_N_small_27 : decode c_N_small 27 = .ok (.goto 4, 3) := by decide +kernel
theorem d_N_small_30 : decode c_N_small 30 = .ok (.lload_n 1, 1) := by decide +kernel
theorem d_N_small_31 : decode c_N_small 31 = .ok (.lstore_n 3, 1) := by decide +kernel
theorem d_N_small_32 : decode c_N_small 32 = .ok (.lload_n 3, 1) := by decide +kernel
theorem d_N_small_33 : decode c_N_small 33 = .ok (.lconst 0, 1) := by decide +kernel
theorem d_N_small_34 : decode c_N_small 34 = .ok (.lcmp, 1) := by decide +kernel
theorem d_N_small_35 : decode c_N_small 35 = .ok (.ifCond .le 37, 3) := by decide +kernel
theorem d_N_small_38 : decode c_N_small 38 = .ok (.aload_n 0, 1) := by decide +kernel
theorem d_N_small_39 : decode c_N_small 39 = .ok (.getfield 7, 3) := by decide +kernel
theorem d_N_small_42 : decode c_N_small 42 = .ok (.aload_n 0, 1) := by decide +kernel
theorem d_N_small_43 : decode c_N_small 43 = .ok (.getfield 13, 3) := by decide +kernel
theorem d_N_small_46 : decode c_N_small 46 = .ok (.lload_n 3, 1) := by decide +kernel
theorem d_N_small_47 : decode c_N_small 47 = .ok (.ldc2_w 24, 3) := by decide +kernel
theorem d_N_small_50 : decode c_N_small 50 = .ok (.lrem, 1) := by decide +kernel
theorem d_N_small_51 : decode c_N_small 51 = .ok (.l2i, 1) := by decide +kernel
theorem d_N_small_52 : decode c_N_small 52 = .ok (.iastore, 1) := by decide +kernel
theorem d_N_small_53 : decode c_N_small 53 = .ok (.aload_n 0, 1) := by decide +kernel
theorem d_N_small_54 : decode c_N_small 54 = .ok (.dup, 1) := by decide +kernel
theorem d_N_small_55 : decode c_N_small 55 = .ok (.getfield 13, 3) := by decide +kernel
theorem d_N_small_58 : decode c_N_small 58 = .ok (.iconst 1, 1) := by decide +kernel
theorem d_N_small_59 : decode c_N_small 59 = .ok (.iadd, 1) := by decide +kernel
theorem d_N_small_60 : decode c_N_small 60 = .ok (.putfield 13, 3) := by decide +kernel
theorem d_N_small_63 : decode c_N_small 63 = .ok (.lload_n 3, 1) := by decide +kernel
theorem d_N_small_64 : decode c_N_small 64 = .ok (.ldc2_w 24, 3) := by decide +kernel
theorem d_N_small_67 : decode c_N_small 67 = .ok (.ldiv, 1) := by decide +kernel
theorem d_N_small_68 : decode c_N_small 68 = .ok (.lstore_n 3, 1) := by decide +kernel
theorem d_N_small_69 : decode c_N_small 69 = .ok (.goto (-37), 3) := by decide +kernel
theorem d_N_small_72 : decode c_N_small 72 = .ok (.return_, 1) := by decide +kernel
theorem d_N_copy_0 : decode c_N_copy 0 = .ok (.aload_n 0, 1) := by decide +kernel
theorem d_N_copy_1 : decode c_N_copy 1 = .ok (.aload_n 1, 1) := by decide +kernel
theorem d_N_copy_2 : decode c_N_copy 2 = .ok (.getfield 13, 3) := by decide +kernel
theorem d_N_copy_5 : decode c_N_copy 5 = .ok (.putfield 13, 3) := by decide +kernel
theorem d_N_copy_8 : decode c_N_copy 8 = .ok (.aload_n 0, 1) := by decide +kernel
theorem d_N_copy_9 : decode c_N_copy 9 = .ok (.aload_n 1, 1) := by decide +kernel
theorem d_N_copy_10 : decode c_N_copy 10 = .ok (.getfield 17, 3) := by decide +kernel
theorem d_N_copy_13 : decode c_N_copy 13 = .ok (.putfield 17, 3) := by decide +kernel
theorem d_N_copy_16 : decode c_N_copy 16 = .ok (.iconst 0, 1) := by decide +kernel
theorem d_N_copy_17 : decode c_N_copy 17 = .ok (.istore_n 2, 1) := by decide +kernel
theorem d_N_copy_18 : decode c_N_copy 18 = .ok (.iload_n 2, 1) := by decide +kernel
theorem d_N_copy_19 : decode c_N_copy 19 = .ok (.aload_n 0, 1) := by decide +kernel
theorem d_N_copy_20 : decode c_N_copy 20 = .ok (.getfield 13, 3) := by decide +kernel
theorem d_N_copy_23 : decode c_N_copy 23 = .ok (.if_icmp .ge 21, 3) := by decide +kernel
theorem d_N_copy_26 : decode c_N_copy 26 = .ok (.aload_n 0, 1) := by decide +kernel
theorem d_N_copy_27 : decode c_N_copy 27 = .ok (.getfield 7, 3) := by decide +kernel
theorem d_N_copy_30 : decode c_N_copy 30 = .ok (.iload_n 2, 1) := by decide +kernel
theorem d_N_copy_31 : decode c_N_copy 31 = .ok (.aload_n 1, 1) := by decide +kernel
theorem d_N_copy_32 : decode c_N_copy 32 = .ok (.getfield 7, 3) := by decide +kernel
theorem d_N_copy_35 : decode c_N_copy 35 = .ok (.iload_n 2, 1) := by decide +kernel
theorem d_N_copy_36 : decode c_N_copy 36 = .ok (.iaload, 1) := by decide +kernel
theorem d_N_copy_37 : decode c_N_copy 37 = .ok (.iastore, 1) := by decide +kernel
theorem d_N_copy_38 : decode c_N_copy 38 = .ok (.iinc 2 1, 3) := by decide +kernel
theorem d_N_copy_41 : decode c_N_copy 41 = .ok (.goto (-23), 3) := by decide +kernel
theorem d_N_copy_44 : decode c_N_copy 44 = .ok (.return_, 1) := by decide +kernel
theorem d_N_product_0 : decode c_N_product 0 = .ok (.aload_n 0, 1) := by decide +kernel
theorem d_N_product_1 : decode c_N_product 1 = .ok (.aload_n 1, 1) := by decide +kernel
theorem d_N_product_2 : decode c_N_product 2 = .ok (.getfield 13, 3) := by decide +kernel
theorem d_N_product_5 : decode c_N_product 5 = .ok (.aload_n 2, 1) := by decide +kernel
theorem d_N_product_6 : decode c_N_product 6 = .ok (.getfield 13, 3) := by decide +kernel
theorem d_N_product_9 : decode c_N_product 9 = .ok (.iadd, 1) := by decide +kernel
theorem d_N_product_10 : decode c_N_product 10 = .ok (.putfield 13, 3) := by decide +kernel
theorem d_N_product_13 : decode c_N_product 13 = .ok (.iconst 0, 1) := by decide +kernel
theorem d_N_product_14 : decode c_N_product 14 = .ok (.istore_n 3, 1) := by decide +kernel
theorem d_N_product_15 : decode c_N_product 15 = .ok (.iload_n 3, 1) := by decide +kernel
theorem d_N_product_16 : decode c_N_product 16 = .ok (.aload_n 0, 1) := by decide +kernel
theorem d_N_product_17 : decode c_N_product 17 = .ok (.getfield 13, 3) := by decide +kernel
theorem d_N_product_20 : decode c_N_product 20 = .ok (.if_icmp .ge 16, 3) := by decide +kernel
theorem d_N_product_23 : decode c_N_product 23 = .ok (.aload_n 0, 1) := by decide +kernel
theorem d_N_product_24 : decode c_N_product 24 = .ok (.getfield 7, 3) := by decide +kernel
theorem d_N_product_27 : decode c_N_product 27 = .ok (.iload_n 3, 1) := by decide +kernel
theorem d_N_product_28 : decode c_N_product 28 = .ok (.iconst 0, 1) := by decide +kernel
theorem d_N_product_29 : decode c_N_product 29 = .ok (.iastore, 1) := by decide +kernel
theorem d_N_product_30 : decode c_N_product 30 = .ok (.iinc 3 1, 3) := by decide +kernel
theorem d_N_product_33 : decode c_N_product 33 = .ok (.goto (-18), 3) := by decide +kernel
theorem d_N_product_36 : decode c_N_product 36 = .ok (.iconst 0, 1) := by decide +kernel
theorem d_N_product_37 : decode c_N_product 37 = .ok (.istore_n 3, 1) := by decide +kernel
theorem d_N_product_38 : decode c_N_product 38 = .ok (.iload_n 3, 1) := by decide +kernel
theorem d_N_product_39 : decode c_N_product 39 = .ok (.aload_n 1, 1) := by decide +kernel
theorem d_N_product_40 : decode c_N_product 40 = .ok (.getfield 13, 3) := by decide +kernel
theorem d_N_product_43 : decode c_N_product 43 = .ok (.if_icmp .ge 100, 3) := by decide +kernel
theorem d_N_product_46 : decode c_N_product 46 = .ok (.lconst 0, 1) := by decide +kernel
theorem d_N_product_47 : decode c_N_product 47 = .ok (.lstore 4, 2) := by decide +kernel
theorem d_N_product_49 : decode c_N_product 49 = .ok (.iconst 0, 1) := by decide +kernel
theorem d_N_product_50 : decode c_N_product 50 = .ok (.istore 6, 2) := by decide +kernel
theorem d_N_product_52 : decode c_N_product 52 = .ok (.iload 6, 2) := by decide +kernel
theorem d_N_product_54 : decode c_N_product 54 = .ok (.aload_n 2, 1) := by decide +kernel
theorem d_N_product_55 : decode c_N_product 55 = .ok (.getfield 13, 3) := by decide +kernel
theorem d_N_product_58 : decode c_N_product 58 = .ok (.if_icmp .ge 65, 3) := by decide +kernel
theorem d_N_product_61 : decode c_N_product 61 = .ok (.lload 4, 2) := by decide +kernel
theorem d_N_product_63 : decode c_N_product 63 = .ok (.aload_n 1, 1) := by decide +kernel
theorem d_N_product_64 : decode c_N_product 64 = .ok (.getfield 7, 3) := by decide +kernel
theorem d_N_product_67 : decode c_N_product 67 = .ok (.iload_n 3, 1) := by decide +kernel
theorem d_N_product_68 : decode c_N_product 68 = .ok (.iaload, 1) := by decide +kernel
theorem d_N_product_69 : decode c_N_product 69 = .ok (.i2l, 1) := by decide +kernel
theorem d_N_product_70 : decode c_N_product 70 = .ok (.aload_n 2, 1) := by decide +kernel
theorem d_N_product_71 : decode c_N_product 71 = .ok (.getfield 7, 3) := by decide +kernel
theorem d_N_product_74 : decode c_N_product 74 = .ok (.iload 6, 2) := by decide +kernel
theorem d_N_product_76 : decode c_N_product 76 = .ok (.iaload, 1) := by decide +kernel
theorem d_N_product_77 : decode c_N_product 77 = .ok (.i2l, 1) := by decide +kernel
theorem d_N_product_78 : decode c_N_product 78 = .ok (.lmul, 1) := by decide +kernel
theorem d_N_product_79 : decode c_N_product 79 = .ok (.aload_n 0, 1) := by decide +kernel
theorem d_N_product_80 : decode c_N_product 80 = .ok (.getfield 7, 3) := by decide +kernel
theorem d_N_product_83 : decode c_N_product 83 = .ok (.iload_n 3, 1) := by decide +kernel
theorem d_N_product_84 : decode c_N_product 84 = .ok (.iload 6, 2) := by decide +kernel
theorem d_N_product_86 : decode c_N_product 86 = .ok (.iadd, 1) := by decide +kernel
theorem d_N_product_87 : decode c_N_product 87 = .ok (.iaload, 1) := by decide +kernel
theorem d_N_product_88 : decode c_N_product 88 = .ok (.i2l, 1) := by decide +kernel
theorem d_N_product_89 : decode c_N_product 89 = .ok (.ladd, 1) := by decide +kernel
theorem d_N_product_90 : decode c_N_product 90 = .ok (.ladd, 1) := by decide +kernel
theorem d_N_product_91 : decode c_N_product 91 = .ok (.lstore 4, 2) := by decide +kernel
theorem d_N_product_93 : decode c_N_product 93 = .ok (.aload_n 0, 1) := by decide +kernel
theorem d_N_product_94 : decode c_N_product 94 = .ok (.getfield 7, 3) := by decide +kernel
theorem d_N_product_97 : decode c_N_product 97 = .ok (.iload_n 3, 1) := by decide +kernel
theorem d_N_product_98 : decode c_N_product 98 = .ok (.iload 6, 2) := by decide +kernel
theorem d_N_product_100 : decode c_N_product 100 = .ok (.iadd, 1) := by decide +kernel
theorem d_N_product_101 : decode c_N_product 101 = .ok (.lload 4, 2) := by decide +kernel
theorem d_N_product_103 : decode c_N_product 103 = .ok (.ldc2_w 24, 3) := by decide +kernel
theorem d_N_product_106 : decode c_N_product 106 = .ok (.lrem, 1) := by decide +kernel
theorem d_N_product_107 : decode c_N_product 107 = .ok (.l2i, 1) := by decide +kernel
theorem d_N_product_108 : decode c_N_product 108 = .ok (.iastore, 1) := by decide +kernel
theorem d_N_product_109 : decode c_N_product 109 = .ok (.lload 4, 2) := by decide +kernel
theorem d_N_product_111 : decode c_N_product 111 = .ok (.ldc2_w 24, 3) := by decide +kernel
theorem d_N_product_114 : decode c_N_product 114 = .ok (.ldiv, 1) := by decide +kernel
theorem d_N_product_115 : decode c_N_product 115 = .ok (.lstore 4, 2) := by decide +kernel
theorem d_N_product_117 : decode c_N_product 117 = .ok (.iinc 6 1, 3) := by decide +kernel
theorem d_N_product_120 : decode c_N_product 120 = .ok (.goto (-68), 3) := by decide +kernel
theorem d_N_product_123 : decode c_N_product 123 = .ok (.aload_n 0, 1) := by decide +kernel
theorem d_N_product_124 : decode c_N_product 124 = .ok (.getfield 7, 3) := by decide +kernel
theorem d_N_product_127 : decode c_N_product 127 = .ok (.iload_n 3, 1) := by decide +kernel
theorem d_N_product_128 : decode c_N_product 128 = .ok (.aload_n 2, 1) := by decide +kernel
theorem d_N_product_129 : decode c_N_product 129 = .ok (.getfield 13, 3) := by decide +kernel
theorem d_N_product_132 : decode c_N_product 132 = .ok (.iadd, 1) := by decide +kernel
theorem d_N_product_133 : decode c_N_product 133 = .ok (.lload 4, 2) := by decide +kernel
theorem d_N_product_135 : decode c_N_product 135 = .ok (.l2i, 1) := by decide +kernel
theorem d_N_product_136 : decode c_N_product 136 = .ok (.iastore, 1) := by decide +kernel
theorem d_N_product_137 : decode c_N_product 137 = .ok (.iinc 3 1, 3) := by decide +kernel
theorem d_N_product_140 : decode c_N_product 140 = .ok (.goto (-102), 3) := by decide +kernel
theorem d_N_product_143 : decode c_N_product 143 = .ok (.aload_n 0, 1) := by decide +kernel
theorem d_N_product_144 : decode c_N_product 144 = .ok (.aload_n 1, 1) := by decide +kernel
theorem d_N_product_145 : decode c_N_product 145 = .ok (.getfield 17, 3) := by decide +kernel
theorem d_N_product_148 : decode c_N_product 148 = .ok (.aload_n 2, 1) := by decide +kernel
theorem d_N_product_149 : decode c_N_product 149 = .ok (.getfield 17, 3) := by decide +kernel
theorem d_N_product_152 : decode c_N_product 152 = .ok (.if_icmp .eq 7, 3) := by decide +kernel
theorem d_N_product_155 : decode c_N_product 155 = .ok (.iconst 1, 1) := by decide +kernel
theorem d_N_product_156 : decode c_N_product 156 = .ok (.goto 4, 3) := by decide +kernel
theorem d_N_product_159 : decode c_N_product 159 = .ok (.iconst 0, 1) := by decide +kernel
theorem d_N_product_160 : decode c_N_product 160 = .ok (.putfield 17, 3) := by decide +kernel
theorem d_N_product_163 : decode c_N_product 163 = .ok (.aload_n 0, 1) := by decide +kernel
theorem d_N_product_164 : decode c_N_product 164 = .ok (.invokevirtual 27, 3) := by decide +kernel
theorem d_N_product_167 : decode c_N_product 167 = .ok (.return_, 1) := by decide +kernel
theorem d_N_trim_0 : decode c_N_trim 0 = .ok (.aload_n 0, 1) := by decide +kernel
theorem d_N_trim_1 : decode c_N_trim 1 = .ok (.getfield 13, 3) := by decide +kernel
theorem d_N_trim_4 : decode c_N_trim 4 = .ok (.ifCond .le 30, 3) := by decide +kernel
theorem d_N_trim_7 : decode c_N_trim 7 = .ok (.aload_n 0, 1) := by decide +kernel
theorem d_N_trim_8 : decode c_N_trim 8 = .ok (.getfield 7, 3) := by decide +kernel
theorem d_N_trim_11 : decode c_N_trim 11 = .ok (.aload_n 0, 1) := by decide +kernel
theorem d_N_trim_12 : decode c_N_trim 12 = .ok (.getfield 13, 3) := by decide +kernel
theorem d_N_trim_15 : decode c_N_trim 15 = .ok (.iconst 1, 1) := by decide +kernel
theorem d_N_trim_16 : decode c_N_trim 16 = .ok (.isub, 1) := by decide +kernel
theorem d_N_trim_17 : decode c_N_trim 17 = .ok (.iaload, 1) := by decide +kernel
theorem d_N_trim_18 : decode c_N_trim 18 = .ok (.ifCond .ne 16, 3) := by decide +kernel
theorem d_N_trim_21 : decode c_N_trim 21 = .ok (.aload_n 0, 1) := by decide +kernel
theorem d_N_trim_22 : decode c_N_trim 22 = .ok (.dup, 1) := by decide +kernel
theorem d_N_trim_23 : decode c_N_trim 23 = .ok (.getfield 13, 3) := by decide +kernel
theorem d_N_trim_26 : decode c_N_trim 26 = .ok (.iconst 1, 1) := by decide +kernel
theorem d_N_trim_27 : decode c_N_trim 27 = .ok (.isub, 1) := by decide +kernel
theorem d_N_trim_28 : decode c_N_trim 28 = .ok (.putfield 13, 3) := by decide +kernel
theorem d_N_trim_31 : decode c_N_trim 31 = .ok (.goto (-31), 3) := by decide +kernel
theorem d_N_trim_34 : decode c_N_trim 34 = .ok (.aload_n 0, 1) := by decide +kernel
theorem d_N_trim_35 : decode c_N_trim 35 = .ok (.aload_n 0, 1) := by decide +kernel
theorem d_N_trim_36 : decode c_N_trim 36 = .ok (.getfield 17, 3) := by decide +kernel
theorem d_N_trim_39 : decode c_N_trim 39 = .ok (.ifCond .eq 14, 3) := by decide +kernel
theorem d_N_trim_42 : decode c_N_trim 42 = .ok (.aload_n 0, 1) := by decide +kernel
theorem d_N_trim_43 : decode c_N_trim 43 = .ok (.getfield 13, 3) := by decide +kernel
theorem d_N_trim_46 : decode c_N_trim 46 = .ok (.ifCond .le 7, 3) := by decide +kernel
theorem d_N_trim_49 : decode c_N_trim 49 = .ok (.iconst 1, 1) := by decide +kernel
theorem d_N_trim_50 : decode c_N_trim 50 = .ok (.goto 4, 3) := by decide +kernel
theorem d_N_trim_53 : decode c_N_trim 53 = .ok (.iconst 0, 1) := by decide +kernel
theorem d_N_trim_54 : decode c_N_trim 54 = .ok (.putfield 17, 3) := by decide +kernel
theorem d_N_trim_57 : decode c_N_trim 57 = .ok (.return_, 1) := by decide +kernel
theorem d_N_quotient_0 : decode c_N_quotient 0 = .ok (.aload_n 3, 1) := by decide +kernel
theorem d_N_quotient_1 : decode c_N_quotient 1 = .ok (.invokevirtual 21, 3) := by decide +kernel
theorem d_N_quotient_4 : decode c_N_quotient 4 = .ok (.aload_n 1, 1) := by decide +kernel
theorem d_N_quotient_5 : decode c_N_quotient 5 = .ok (.getfield 13, 3) := by decide +kernel
theorem d_N_quotient_8 : decode c_N_quotient 8 = .ok (.iconst 1, 1) := by decide +kernel
theorem d_N_quotient_9 : decode c_N_quotient 9 = .ok (.isub, 1) := by decide +kernel
theorem d_N_quotient_10 : decode c_N_quotient 10 = .ok (.istore 4, 2) := by decide +kernel
theorem d_N_quotient_12 : decode c_N_quotient 12 = .ok (.iload 4, 2) := by decide +kernel
theorem d_N_quotient_14 : decode c_N_quotient 14 = .ok (.ifCond .lt 97, 3) := by decide +kernel
theorem d_N_quotient_17 : decode c_N_quotient 17 = .ok (.aload_n 3, 1) := by decide +kernel
theorem d_N_quotient_18 : decode c_N_quotient 18 = .ok (.getfield 13, 3) := by decide +kernel
theorem d_N_quotient_21 : decode c_N_quotient 21 = .ok (.istore 5, 2) := by decide +kernel
theorem d_N_quotient_23 : decode c_N_quotient 23 = .ok (.iload 5, 2) := by decide +kernel
theorem d_N_quotient_25 : decode c_N_quotient 25 = .ok (.ifCond .le 25, 3) := by decide +kernel
theorem d_N_quotient_28 : decode c_N_quotient 28 = .ok (.aload_n 3, 1) := by decide +kernel
theorem d_N_quotient_29 : decode c_N_quotient 29 = .ok (.getfield 7, 3) := by decide +kernel
theorem d_N_quotient_32 : decode c_N_quotient 32 = .ok (.iload 5, 2) := by decide +kernel
theorem d_N_quotient_34 : decode c_N_quotient 34 = .ok (.aload_n 3, 1) := by decide +kernel
theorem d_N_quotient_35 : decode c_N_quotient 35 = .ok (.getfield 7, 3) := by decide +kernel
theorem d_N_quotient_38 : decode c_N_quotient 38 = .ok (.iload 5, 2) := by decide +kernel
theorem d_N_quotient_40 : decode c_N_quotient 40 = .ok (.iconst 1, 1) := by decide +kernel
theorem d_N_quotient_41 : decode c_N_quotient 41 = .ok (.isub, 1) := by decide +kernel
theorem d_N_quotient_42 : decode c_N_quotient 42 = .ok (.iaload, 1) := by decide +kernel
theorem d_N_quotient_43 : decode c_N_quotient 43 = .ok (.iastore, 1) := by decide +kernel
theorem d_N_quotient_44 : decode c_N_quotient 44 = .ok (.iinc 5 (-1), 3) := by decide +kernel
theorem d_N_quotient_47 : decode c_N_quotient 47 = .ok (.goto (-24), 3) := by decide +kernel
theorem d_N_quotient_50 : decode c_N_quotient 50 = .ok (.aload_n 3, 1) := by decide +kernel
theorem d_N_quotient_51 : decode c_N_quotient 51 = .ok (.getfield 7, 3) := by decide +kernel
theorem d_N_quotient_54 : decode c_N_quotient 54 = .ok (.iconst 0, 1) := by decide +kernel
theorem d_N_quotient_55 : decode c_N_quotient 55 = .ok (.aload_n 1, 1) := by decide +kernel
theorem d_N_quotient_56 : decode c_N_quotient 56 = .ok (.getfield 7, 3) := by decide +kernel
theorem d_N_quotient_59 : decode c_N_quotient 59 = .ok (.iload 4, 2) := by decide +kernel
theorem d_N_quotient_61 : decode c_N_quotient 61 = .ok (.iaload, 1) := by decide +kernel
theorem d_N_quotient_62 : decode c_N_quotient 62 = .ok (.iastore, 1) := by decide +kernel
theorem d_N_quotient_63 : decode c_N_quotient 63 = .ok (.aload_n 3, 1) := by decide +kernel
theorem d_N_quotient_64 : decode c_N_quotient 64 = .ok (.dup, 1) := by decide +kernel
theorem d_N_quotient_65 : decode c_N_quotient 65 = .ok (.getfield 13, 3) := by decide +kernel
theorem d_N_quotient_68 : decode c_N_quotient 68 = .ok (.iconst 1, 1) := by decide +kernel
theorem d_N_quotient_69 : decode c_N_quotient 69 = .ok (.iadd, 1) := by decide +kernel
theorem d_N_quotient_70 : decode c_N_quotient 70 = .ok (.putfield 13, 3) := by decide +kernel
theorem d_N_quotient_73 : decode c_N_quotient 73 = .ok (.aload_n 3, 1) := by decide +kernel
theorem d_N_quotient_74 : decode c_N_quotient 74 = .ok (.invokevirtual 27, 3) := by decide +kernel
theorem d_N_quotient_77 : decode c_N_quotient 77 = .ok (.aload_n 0, 1) := by decide +kernel
theorem d_N_quotient_78 : decode c_N_quotient 78 = .ok (.getfield 7, 3) := by decide +kernel
theorem d_N_quotient_81 : decode c_N_quotient 81 = .ok (.iload 4, 2) := by decide +kernel
theorem d_N_quotient_83 : decode c_N_quotient 83 = .ok (.iconst 0, 1) := by decide +kernel
theorem d_N_quotient_84 : decode c_N_quotient 84 = .ok (.iastore, 1) := by decide +kernel
theorem d_N_quotient_85 : decode c_N_quotient 85 = .ok (.aload_n 3, 1) := by decide +kernel
theorem d_N_quotient_86 : decode c_N_quotient 86 = .ok (.aload_n 2, 1) := by decide +kernel
theorem d_N_quotient_87 : decode c_N_quotient 87 = .ok (.invokevirtual 30, 3) := by decide +kernel
theorem d_N_quotient_90 : decode c_N_quotient 90 = .ok (.ifCond .lt 15, 3) := by decide +kernel
theorem d_N_quotient_93 : decode c_N_quotient 93 = .ok (.aload_n 0, 1) := by decide +kernel
theorem d_N_quotient_94 : decode c_N_quotient 94 = .ok (.getfield 7, 3) := by decide +kernel
theorem d_N_quotient_97 : decode c_N_quotient 97 = .ok (.iload 4, 2) := by decide +kernel
theorem d_N_quotient_99 : decode c_N_quotient 99 = .ok (.aload_n 3, 1) := by decide +kernel
theorem d_N_quotient_100 : decode c_N_quotient 100 = .ok (.aload_n 2, 1) := by decide +kernel
theorem d_N_quotient_101 : decode c_N_quotient 101 = .ok (.invokestatic 34, 3) := by decide +kernel
theorem d_N_quotient_104 : decode c_N_quotient 104 = .ok (.iastore, 1) := by decide +kernel
theorem d_N_quotient_105 : decode c_N_quotient 105 = .ok (.iinc 4 (-1), 3) := by decide +kernel
theorem d_N_quotient_108 : decode c_N_quotient 108 = .ok (.goto (-96), 3) := by decide +kernel
theorem d_N_quotient_111 : decode c_N_quotient 111 = .ok (.aload_n 0, 1) := by decide +kernel
theorem d_N_quotient_112 : decode c_N_quotient 112 = .ok (.aload_n 1, 1) := by decide +kernel
theorem d_N_quotient_113 : decode c_N_quotient 113 = .ok (.getfield 13, 3) := by decide +kernel
theorem d_N_quotient_116 : decode c_N_quotient 116 = .ok (.putfield 13, 3) := by decide +kernel
theorem d_N_quotient_119 : decode c_N_quotient 119 = .ok (.aload_n 0, 1) := by decide +kernel
theorem d_N_quotient_120 : decode c_N_quotient 120 = .ok (.aload_n 1, 1) := by decide +kernel
theorem d_N_quotient_121 : decode c_N_quotient 121 = .ok (.getfield 17, 3) := by decide +kernel
theorem d_N_quotient_124 : decode c_N_quotient 124 = .ok (.aload_n 2, 1) := by decide +kernel
theorem d_N_quotient_125 : decode c_N_quotient 125 = .ok (.getfield 17, 3) := by decide +kernel
theorem d_N_quotient_128 : decode c_N_quotient 128 = .ok (.if_icmp .eq 7, 3) := by decide +kernel
theorem d_N_quotient_131 : decode c_N_quotient 131 = .ok (.iconst 1, 1) := by decide +kernel
theorem d_N_quotient_132 : decode c_N_quotient 132 = .ok (.goto 4, 3) := by decide +kernel
theorem d_N_quotient_135 : decode c_N_quotient 135 = .ok (.iconst 0, 1) := by decide +kernel
theorem d_N_quotient_136 : decode c_N_quotient 136 = .ok (.putfield 17, 3) := by decide +kernel
theorem d_N_quotient_139 : decode c_N_quotient 139 = .ok (.aload_n 0, 1) := by decide +kernel
theorem d_N_quotient_140 : decode c_N_quotient 140 = .ok (.invokevirtual 27, 3) := by decide +kernel
theorem d_N_quotient_143 : decode c_N_quotient 143 = .ok (.return_, 1) := by decide +kernel
theorem d_N_compareSize_0 : decode c_N_compareSize 0 = .ok (.aload_n 0, 1) := by decide +kernel
theorem d_N_compareSize_1 : decode c_N_compareSize 1 = .ok (.getfield 13, 3) := by decide +kernel
theorem d_N_compareSize_4 : decode c_N_compareSize 4 = .ok (.aload_n 1, 1) := by decide +kernel
theorem d_N_compareSize_5 : decode c_N_compareSize 5 = .ok (.getfield 13, 3) := by decide +kernel
theorem d_N_compareSize_8 : decode c_N_compareSize 8 = .ok (.if_icmp .eq 20, 3) := by decide +kernel
theorem d_N_compareSize_11 : decode c_N_compareSize 11 = .ok (.aload_n 0, 1) := by decide +kernel
theorem d_N_compareSize_12 : decode c_N_compareSize 12 = .ok (.getfield 13, 3) := by decide +kernel
theorem d_N_compareSize_15 : decode c_N_compareSize 15 = .ok (.aload_n 1, 1) := by decide +kernel
theorem d_N_compareSize_16 : decode c_N_compareSize 16 = .ok (.getfield 13, 3) := by decide +kernel
theorem d_N_compareSize_19 : decode c_N_compareSize 19 = .ok (.if_icmp .ge 7, 3) := by decide +kernel
theorem d_N_compareSize_22 : decode c_N_compareSize 22 = .ok (.iconst (-1), 1) := by decide +kernel
theorem d_N_compareSize_23 : decode c_N_compareSize 23 = .ok (.goto 4, 3) := by decide +kernel
theorem d_N_compareSize_26 : decode c_N_compareSize 26 = .ok (.iconst 1, 1) := by decide +kernel
theorem d_N_compareSize_27 : decode c_N_compareSize 27 = .ok (.ireturn, 1) := by decide +kernel
theorem d_N_compareSize_28 : decode c_N_compareSize 28 = .ok (.aload_n 0, 1) := by decide +kernel
theorem d_N_compareSize_29 : decode c_N_compareSize 29 = .ok (.getfield 13, 3) := by decide +kernel
theorem d_N_compareSize_32 : decode c_N_compareSize 32 = .ok (.iconst 1, 1) := by decide +kernel
theorem d_N_compareSize_33 : decode c_N_compareSize 33 = .ok (.isub, 1) := by decide +kernel
theorem d_N_compareSize_34 : decode c_N_compareSize 34 = .ok (.istore_n 2, 1) := by decide +kernel
theorem d_N_compareSize_35 : decode c_N_compareSize 35 = .ok (.iload_n 2, 1) := by decide +kernel
theorem d_N_compareSize_36 : decode c_N_compareSize 36 = .ok (.ifCond .lt 24, 3) := by decide +kernel
theorem d_N_compareSize_39 : decode c_N_compareSize 39 = .ok (.aload_n 0, 1) := by decide +kernel
theorem d_N_compareSize_40 : decode c_N_compareSize 40 = .ok (.getfield 7, 3) := by decide +kernel
theorem d_N_compareSize_43 : decode c_N_compareSize 43 = .ok (.iload_n 2, 1) := by decide +kernel
theorem d_N_compareSize_44 : decode c_N_compareSize 44 = .ok (.iaload, 1) := by decide +kernel
theorem d_N_compareSize_45 : decode c_N_compareSize 45 = .ok (.aload_n 1, 1) := by decide +kernel
theorem d_N_compareSize_46 : decode c_N_compareSize 46 = .ok (.getfield 7, 3) := by decide +kernel
theorem d_N_compareSize_49 : decode c_N_compareSize 49 = .ok (.iload_n 2, 1) := by decide +kernel
theorem d_N_compareSize_50 : decode c_N_compareSize 50 = .ok (.iaload, 1) := by decide +kernel
theorem d_N_compareSize_51 : decode c_N_compareSize 51 = .ok (.if_icmp .ne 9, 3) := by decide +kernel
theorem d_N_compareSize_54 : decode c_N_compareSize 54 = .ok (.iinc 2 (-1), 3) := by decide +kernel
theorem d_N_compareSize_57 : decode c_N_compareSize 57 = .ok (.goto (-22), 3) := by decide +kernel
theorem d_N_compareSize_60 : decode c_N_compareSize 60 = .ok (.iload_n 2, 1) := by decide +kernel
theorem d_N_compareSize_61 : decode c_N_compareSize 61 = .ok (.ifCond .ge 7, 3) := by decide +kernel
theorem d_N_compareSize_64 : decode c_N_compareSize 64 = .ok (.iconst 0, 1) := by decide +kernel
theorem d_N_compareSize_65 : decode c_N_compareSize 65 = .ok (.goto 23, 3) := by decide +kernel
theorem d_N_compareSize_68 : decode c_N_compareSize 68 = .ok (.aload_n 0, 1) := by decide +kernel
theorem d_N_compareSize_69 : decode c_N_compareSize 69 = .ok (.getfield 7, 3) := by decide +kernel
theorem d_N_compareSize_72 : decode c_N_compareSize 72 = .ok (.iload_n 2, 1) := by decide +kernel
theorem d_N_compareSize_73 : decode c_N_compareSize 73 = .ok (.iaload, 1) := by decide +kernel
theorem d_N_compareSize_74 : decode c_N_compareSize 74 = .ok (.aload_n 1, 1) := by decide +kernel
theorem d_N_compareSize_75 : decode c_N_compareSize 75 = .ok (.getfield 7, 3) := by decide +kernel
theorem d_N_compareSize_78 : decode c_N_compareSize 78 = .ok (.iload_n 2, 1) := by decide +kernel
theorem d_N_compareSize_79 : decode c_N_compareSize 79 = .ok (.iaload, 1) := by decide +kernel
theorem d_N_compareSize_80 : decode c_N_compareSize 80 = .ok (.if_icmp .ge 7, 3) := by decide +kernel
theorem d_N_compareSize_83 : decode c_N_compareSize 83 = .ok (.iconst (-1), 1) := by decide +kernel
theorem d_N_compareSize_84 : decode c_N_compareSize 84 = .ok (.goto 4, 3) := by decide +kernel
theorem d_N_compareSize_87 : decode c_N_compareSize 87 = .ok (.iconst 1, 1) := by decide +kernel
theorem d_N_compareSize_88 : decode c_N_compareSize 88 = .ok (.ireturn, 1) := by decide +kernel
theorem d_N_often_0 : decode c_N_often 0 = .ok (.iconst 1, 1) := by decide +kernel
theorem d_N_often_1 : decode c_N_often 1 = .ok (.istore_n 2, 1) := by decide +kernel
theorem d_N_often_2 : decode c_N_often 2 = .ok (.ldc 38, 2) := by decide +kernel
theorem d_N_often_4 : decode c_N_often 4 = .ok (.istore_n 3, 1) := by decide +kernel
theorem d_N_often_5 : decode c_N_often 5 = .ok (.iload_n 2, 1) := by decide +kernel
theorem d_N_often_6 : decode c_N_often 6 = .ok (.iload_n 3, 1) := by decide +kernel
theorem d_N_often_7 : decode c_N_often 7 = .ok (.if_icmp .ge 36, 3) := by decide +kernel
theorem d_N_often_10 : decode c_N_often 10 = .ok (.iload_n 2, 1) := by decide +kernel
theorem d_N_often_11 : decode c_N_often 11 = .ok (.iload_n 3, 1) := by decide +kernel
theorem d_N_often_12 : decode c_N_often 12 = .ok (.iadd, 1) := by decide +kernel
theorem d_N_often_13 : decode c_N_often 13 = .ok (.iconst 1, 1) := by decide +kernel
theorem d_N_often_14 : decode c_N_often 14 = .ok (.iadd, 1) := by decide +kernel
theorem d_N_often_15 : decode c_N_often 15 = .ok (.iconst 2, 1) := by decide +kernel
theorem d_N_often_16 : decode c_N_often 16 = .ok (.idiv, 1) := by decide +kernel
theorem d_N_often_17 : decode c_N_often 17 = .ok (.istore 4, 2) := by decide +kernel
theorem d_N_often_19 : decode c_N_often 19 = .ok (.aload_n 1, 1) := by decide +kernel
theorem d_N_often_20 : decode c_N_often 20 = .ok (.iload 4, 2) := by decide +kernel
theorem d_N_often_22 : decode c_N_often 22 = .ok (.aload_n 0, 1) := by decide +kernel
theorem d_N_often_23 : decode c_N_often 23 = .ok (.invokestatic 39, 3) := by decide +kernel
theorem d_N_often_26 : decode c_N_often 26 = .ok (.ifCond .eq 9, 3) := by decide +kernel
theorem d_N_often_29 : decode c_N_often 29 = .ok (.iload 4, 2) := by decide +kernel
theorem d_N_often_31 : decode c_N_often 31 = .ok (.istore_n 2, 1) := by decide +kernel
theorem d_N_often_32 : decode c_N_often 32 = .ok (.goto 8, 3) := by decide +kernel
theorem d_N_often_35 : decode c_N_often 35 = .ok (.iload 4, 2) := by decide +kernel
theorem d_N_often_37 : decode c_N_often 37 = .ok (.iconst 1, 1) := by decide +kernel
theorem d_N_often_38 : decode c_N_often 38 = .ok (.isub, 1) := by decide +kernel
theorem d_N_often_39 : decode c_N_often 39 = .ok (.istore_n 3, 1) := by decide +kernel
theorem d_N_often_40 : decode c_N_often 40 = .ok (.goto (-35), 3) := by decide +kernel
theorem d_N_often_43 : decode c_N_often 43 = .ok (.lconst 0, 1) := by decide +kernel
theorem d_N_often_44 : decode c_N_often 44 = .ok (.lstore 4, 2) := by decide +kernel
theorem d_N_often_46 : decode c_N_often 46 = .ok (.iconst 0, 1) := by decide +kernel
theorem d_N_often_47 : decode c_N_often 47 = .ok (.istore 6, 2) := by decide +kernel
theorem d_N_often_49 : decode c_N_often 49 = .ok (.iload 6, 2) := by decide +kernel
theorem d_N_often_51 : decode c_N_often 51 = .ok (.aload_n 0, 1) := by decide +kernel
theorem d_N_often_52 : decode c_N_often 52 = .ok (.getfield 13, 3) := by decide +kernel
theorem d_N_often_55 : decode c_N_often 55 = .ok (.if_icmp .ge 87, 3) := by decide +kernel
theorem d_N_often_58 : decode c_N_often 58 = .ok (.aload_n 0, 1) := by decide +kernel
theorem d_N_often_59 : decode c_N_often 59 = .ok (.getfield 7, 3) := by decide +kernel
theorem d_N_often_62 : decode c_N_often 62 = .ok (.iload 6, 2) := by decide +kernel
theorem d_N_often_64 : decode c_N_often 64 = .ok (.iaload, 1) := by decide +kernel
theorem d_N_often_65 : decode c_N_often 65 = .ok (.i2l, 1) := by decide +kernel
theorem d_N_often_66 : decode c_N_often 66 = .ok (.lload 4, 2) := by decide +kernel
theorem d_N_often_68 : decode c_N_often 68 = .ok (.lsub, 1) := by decide +kernel
theorem d_N_often_69 : decode c_N_often 69 = .ok (.iload 6, 2) := by decide +kernel
theorem d_N_often_71 : decode c_N_often 71 = .ok (.aload_n 1, 1) := by decide +kernel
theorem d_N_often_72 : decode c_N_often 72 = .ok (.getfield 13, 3) := by decide +kernel
theorem d_N_often_75 : decode c_N_often 75 = .ok (.if_icmp .ge 17, 3) := by decide +kernel
theorem d_N_often_78 : decode c_N_often 78 = .ok (.aload_n 1, 1) := by decide +kernel
theorem d_N_often_79 : decode c_N_often 79 = .ok (.getfield 7, 3) := by decide +kernel
theorem d_N_often_82 : decode c_N_often 82 = .ok (.iload 6, 2) := by decide +kernel
theorem d_N_often_84 : decode c_N_often 84 = .ok (.iaload, 1) := by decide +kernel
theorem d_N_often_85 : decode c_N_often 85 = .ok (.i2l, 1) := by decide +kernel
theorem d_N_often_86 : decode c_N_often 86 = .ok (.iload_n 2, 1) := by decide +kernel
theorem d_N_often_87 : decode c_N_often 87 = .ok (.i2l, 1) := by decide +kernel
theorem d_N_often_88 : decode c_N_often 88 = .ok (.lmul, 1) := by decide +kernel
theorem d_N_often_89 : decode c_N_often 89 = .ok (.goto 4, 3) := by decide +kernel
theorem d_N_often_92 : decode c_N_often 92 = .ok (.lconst 0, 1) := by decide +kernel
theorem d_N_often_93 : decode c_N_often 93 = .ok (.lsub, 1) := by decide +kernel
theorem d_N_often_94 : decode c_N_often 94 = .ok (.lstore 7, 2) := by decide +kernel
theorem d_N_often_96 : decode c_N_often 96 = .ok (.lload 7, 2) := by decide +kernel
theorem d_N_often_98 : decode c_N_often 98 = .ok (.lconst 0, 1) := by decide +kernel
theorem d_N_often_99 : decode c_N_often 99 = .ok (.lcmp, 1) := by decide +kernel
theorem d_N_often_100 : decode c_N_often 100 = .ok (.ifCond .ge 16, 3) := by decide +kernel
theorem d_N_often_103 : decode c_N_often 103 = .ok (.ldc2_w 43, 3) := by decide +kernel
theorem d_N_often_106 : decode c_N_often 106 = .ok (.lload 7, 2) := by decide +kernel
theorem d_N_often_108 : decode c_N_often 108 = .ok (.lsub, 1) := by decide +kernel
theorem d_N_often_109 : decode c_N_often 109 = .ok (.ldc2_w 24, 3) := by decide +kernel
theorem d_N_often_112 : decode c_N_often 112 = .ok (.ldiv, 1) := by decide +kernel
theorem d_N_often_113 : decode c_N_often 113 = .ok (.goto 4, 3) := by decide +kernel
theorem d_N_often_116 : decode c_N_often 116 = .ok (.lconst 0, 1) := by decide +kernel
theorem d_N_often_117 : decode c_N_often 117 = .ok (.lstore 4, 2) := by decide +kernel
theorem d_N_often_119 : decode c_N_often 119 = .ok (.aload_n 0, 1) := by decide +kernel
theorem d_N_often_120 : decode c_N_often 120 = .ok (.getfield 7, 3) := by decide +kernel
theorem d_N_often_123 : decode c_N_often 123 = .ok (.iload 6, 2) := by decide +kernel
theorem d_N_often_125 : decode c_N_often 125 = .ok (.lload 7, 2) := by decide +kernel
theorem d_N_often_127 : decode c_N_often 127 = .ok (.ldc2_w 24, 3) := by decide +kernel
theorem d_N_often_130 : decode c_N_often 130 = .ok (.lload 4, 2) := by decide +kernel
theorem d_N_often_132 : decode c_N_often 132 = .ok (.lmul, 1) := by decide +kernel
theorem d_N_often_133 : decode c_N_often 133 = .ok (.ladd, 1) := by decide +kernel
theorem d_N_often_134 : decode c_N_often 134 = .ok (.l2i, 1) := by decide +kernel
theorem d_N_often_135 : decode c_N_often 135 = .ok (.iastore, 1) := by decide +kernel
theorem d_N_often_136 : decode c_N_often 136 = .ok (.iinc 6 1, 3) := by decide +kernel
theorem d_N_often_139 : decode c_N_often 139 = .ok (.goto (-90), 3) := by decide +kernel
theorem d_N_often_142 : decode c_N_often 142 = .ok (.aload_n 0, 1) := by decide +kernel
theorem d_N_often_143 : decode c_N_often 143 = .ok (.invokevirtual 27, 3) := by decide +kernel
theorem d_N_often_146 : decode c_N_often 146 = .ok (.iload_n 2, 1) := by decide +kernel
theorem d_N_often_147 : decode c_N_often 147 = .ok (.ireturn, 1) := by decide +kernel
theorem d_N_isAtMost_0 : decode c_N_isAtMost 0 = .ok (.lconst 0, 1) := by decide +kernel
theorem d_N_isAtMost_1 : decode c_N_isAtMost 1 = .ok (.lstore_n 3, 1) := by decide +kernel
theorem d_N_isAtMost_2 : decode c_N_isAtMost 2 = .ok (.iconst 0, 1) := by decide +kernel
theorem d_N_isAtMost_3 : decode c_N_isAtMost 3 = .ok (.istore 5, 2) := by decide +kernel
theorem d_N_isAtMost_5 : decode c_N_isAtMost 5 = .ok (.iload 5, 2) := by decide +kernel
theorem d_N_isAtMost_7 : decode c_N_isAtMost 7 = .ok (.aload_n 2, 1) := by decide +kernel
theorem d_N_isAtMost_8 : decode c_N_isAtMost 8 = .ok (.getfield 13, 3) := by decide +kernel
theorem d_N_isAtMost_11 : decode c_N_isAtMost 11 = .ok (.if_icmp .ge 68, 3) := by decide +kernel
theorem d_N_isAtMost_14 : decode c_N_isAtMost 14 = .ok (.aload_n 2, 1) := by decide +kernel
theorem d_N_isAtMost_15 : decode c_N_isAtMost 15 = .ok (.getfield 7, 3) := by decide +kernel
theorem d_N_isAtMost_18 : decode c_N_isAtMost 18 = .ok (.iload 5, 2) := by decide +kernel
theorem d_N_isAtMost_20 : decode c_N_isAtMost 20 = .ok (.iaload, 1) := by decide +kernel
theorem d_N_isAtMost_21 : decode c_N_isAtMost 21 = .ok (.i2l, 1) := by decide +kernel
theorem d_N_isAtMost_22 : decode c_N_isAtMost 22 = .ok (.lload_n 3, 1) := by decide +kernel
theorem d_N_isAtMost_23 : decode c_N_isAtMost 23 = .ok (.lsub, 1) := by decide +kernel
theorem d_N_isAtMost_24 : decode c_N_isAtMost 24 = .ok (.iload 5, 2) := by decide +kernel
theorem d_N_isAtMost_26 : decode c_N_isAtMost 26 = .ok (.aload_n 0, 1) := by decide +kernel
theorem d_N_isAtMost_27 : decode c_N_isAtMost 27 = .ok (.getfield 13, 3) := by decide +kernel
theorem d_N_isAtMost_30 : decode c_N_isAtMost 30 = .ok (.if_icmp .ge 17, 3) := by decide +kernel
theorem d_N_isAtMost_33 : decode c_N_isAtMost 33 = .ok (.aload_n 0, 1) := by decide +kernel
theorem d_N_isAtMost_34 : decode c_N_isAtMost 34 = .ok (.getfield 7, 3) := by decide +kernel
theorem d_N_isAtMost_37 : decode c_N_isAtMost 37 = .ok (.iload 5, 2) := by decide +kernel
theorem d_N_isAtMost_39 : decode c_N_isAtMost 39 = .ok (.iaload, 1) := by decide +kernel
theorem d_N_isAtMost_40 : decode c_N_isAtMost 40 = .ok (.i2l, 1) := by decide +kernel
theorem d_N_isAtMost_41 : decode c_N_isAtMost 41 = .ok (.iload_n 1, 1) := by decide +kernel
theorem d_N_isAtMost_42 : decode c_N_isAtMost 42 = .ok (.i2l, 1) := by decide +kernel
theorem d_N_isAtMost_43 : decode c_N_isAtMost 43 = .ok (.lmul, 1) := by decide +kernel
theorem d_N_isAtMost_44 : decode c_N_isAtMost 44 = .ok (.goto 4, 3) := by decide +kernel
theorem d_N_isAtMost_47 : decode c_N_isAtMost 47 = .ok (.lconst 0, 1) := by decide +kernel
theorem d_N_isAtMost_48 : decode c_N_isAtMost 48 = .ok (.lsub, 1) := by decide +kernel
theorem d_N_isAtMost_49 : decode c_N_isAtMost 49 = .ok (.lstore 6, 2) := by decide +kernel
theorem d_N_isAtMost_51 : decode c_N_isAtMost 51 = .ok (.lload 6, 2) := by decide +kernel
theorem d_N_isAtMost_53 : decode c_N_isAtMost 53 = .ok (.lconst 0, 1) := by decide +kernel
theorem d_N_isAtMost_54 : decode c_N_isAtMost 54 = .ok (.lcmp, 1) := by decide +kernel
theorem d_N_isAtMost_55 : decode c_N_isAtMost 55 = .ok (.ifCond .ge 16, 3) := by decide +kernel
theorem d_N_isAtMost_58 : decode c_N_isAtMost 58 = .ok (.ldc2_w 43, 3) := by decide +kernel
theorem d_N_isAtMost_61 : decode c_N_isAtMost 61 = .ok (.lload 6, 2) := by decide +kernel
theorem d_N_isAtMost_63 : decode c_N_isAtMost 63 = .ok (.lsub, 1) := by decide +kernel
theorem d_N_isAtMost_64 : decode c_N_isAtMost 64 = .ok (.ldc2_w 24, 3) := by decide +kernel
theorem d_N_isAtMost_67 : decode c_N_isAtMost 67 = .ok (.ldiv, 1) := by decide +kernel
theorem d_N_isAtMost_68 : decode c_N_isAtMost 68 = .ok (.goto 4, 3) := by decide +kernel
theorem d_N_isAtMost_71 : decode c_N_isAtMost 71 = .ok (.lconst 0, 1) := by decide +kernel
theorem d_N_isAtMost_72 : decode c_N_isAtMost 72 = .ok (.lstore_n 3, 1) := by decide +kernel
theorem d_N_isAtMost_73 : decode c_N_isAtMost 73 = .ok (.iinc 5 1, 3) := by decide +kernel
theorem d_N_isAtMost_76 : decode c_N_isAtMost 76 = .ok (.goto (-71), 3) := by decide +kernel
theorem d_N_isAtMost_79 : decode c_N_isAtMost 79 = .ok (.lload_n 3, 1) := by decide +kernel
theorem d_N_isAtMost_80 : decode c_N_isAtMost 80 = .ok (.lconst 0, 1) := by decide +kernel
theorem d_N_isAtMost_81 : decode c_N_isAtMost 81 = .ok (.lcmp, 1) := by decide +kernel
theorem d_N_isAtMost_82 : decode c_N_isAtMost 82 = .ok (.ifCond .ne 7, 3) := by decide +kernel
theorem d_N_isAtMost_85 : decode c_N_isAtMost 85 = .ok (.iconst 1, 1) := by decide +kernel
theorem d_N_isAtMost_86 : decode c_N_isAtMost 86 = .ok (.goto 4, 3) := by decide +kernel
theorem d_N_isAtMost_89 : decode c_N_isAtMost 89 = .ok (.iconst 0, 1) := by decide +kernel
theorem d_N_isAtMost_90 : decode c_N_isAtMost 90 = .ok (.ireturn, 1) := by decide +kernel
theorem d_N_turn_0 : decode c_N_turn 0 = .ok (.aload_n 0, 1) := by decide +kernel
theorem d_N_turn_1 : decode c_N_turn 1 = .ok (.aload_n 0, 1) := by decide +kernel
theorem d_N_turn_2 : decode c_N_turn 2 = .ok (.getfield 13, 3) := by decide +kernel
theorem d_N_turn_5 : decode c_N_turn 5 = .ok (.ifCond .le 14, 3) := by decide +kernel
theorem d_N_turn_8 : decode c_N_turn 8 = .ok (.aload_n 0, 1) := by decide +kernel
theorem d_N_turn_9 : decode c_N_turn 9 = .ok (.getfield 17, 3) := by decide +kernel
theorem d_N_turn_12 : decode c_N_turn 12 = .ok (.ifCond .ne 7, 3) := by decide +kernel
theorem d_N_turn_15 : decode c_N_turn 15 = .ok (.iconst 1, 1) := by decide +kernel
theorem d_N_turn_16 : decode c_N_turn 16 = .ok (.goto 4, 3) := by decide +kernel
theorem d_N_turn_19 : decode c_N_turn 19 = .ok (.iconst 0, 1) := by decide +kernel
theorem d_N_turn_20 : decode c_N_turn 20 = .ok (.putfield 17, 3) := by decide +kernel
theorem d_N_turn_23 : decode c_N_turn 23 = .ok (.return_, 1) := by decide +kernel
theorem d_N_less_0 : decode c_N_less 0 = .ok (.aload_n 2, 1) := by decide +kernel
theorem d_N_less_1 : decode c_N_less 1 = .ok (.getfield 13, 3) := by decide +kernel
theorem d_N_less_4 : decode c_N_less 4 = .ok (.ifCond .le 14, 3) := by decide +kernel
theorem d_N_less_7 : decode c_N_less 7 = .ok (.aload_n 2, 1) := by decide +kernel
theorem d_N_less_8 : decode c_N_less 8 = .ok (.getfield 17, 3) := by decide +kernel
theorem d_N_less_11 : decode c_N_less 11 = .ok (.ifCond .ne 7, 3) := by decide +kernel
theorem d_N_less_14 : decode c_N_less 14 = .ok (.iconst 1, 1) := by decide +kernel
theorem d_N_less_15 : decode c_N_less 15 = .ok (.goto 4, 3) := by decide +kernel
theorem d_N_less_18 : decode c_N_less 18 = .ok (.iconst 0, 1) := by decide +kernel
theorem d_N_less_19 : decode c_N_less 19 = .ok (.istore_n 3, 1) := by decide +kernel
theorem d_N_less_20 : decode c_N_less 20 = .ok (.aload_n 1, 1) := by decide +kernel
theorem d_N_less_21 : decode c_N_less 21 = .ok (.getfield 13, 3) := by decide +kernel
theorem d_N_less_24 : decode c_N_less 24 = .ok (.ifCond .eq 18, 3) := by decide +kernel
theorem d_N_less_27 : decode c_N_less 27 = .ok (.aload_n 2, 1) := by decide +kernel
theorem d_N_less_28 : decode c_N_less 28 = .ok (.getfield 13, 3) := by decide +kernel
theorem d_N_less_31 : decode c_N_less 31 = .ok (.ifCond .eq 11, 3) := by decide +kernel
theorem d_N_less_34 : decode c_N_less 34 = .ok (.aload_n 1, 1) := by decide +kernel
theorem d_N_less_35 : decode c_N_less 35 = .ok (.getfield 17, 3) := by decide +kernel
theorem d_N_less_38 : decode c_N_less 38 = .ok (.iload_n 3, 1) := by decide +kernel
theorem d_N_less_39 : decode c_N_less 39 = .ok (.if_icmp .ne 152, 3) := by decide +kernel
theorem d_N_less_42 : decode c_N_less 42 = .ok (.aload_n 1, 1) := by decide +kernel
theorem d_N_less_43 : decode c_N_less 43 = .ok (.getfield 13, 3) := by decide +kernel
theorem d_N_less_46 : decode c_N_less 46 = .ok (.aload_n 2, 1) := by decide +kernel
theorem d_N_less_47 : decode c_N_less 47 = .ok (.getfield 13, 3) := by decide +kernel
theorem d_N_less_50 : decode c_N_less 50 = .ok (.if_icmp .le 10, 3) := by decide +kernel
theorem d_N_less_53 : decode c_N_less 53 = .ok (.aload_n 1, 1) := by decide +kernel
theorem d_N_less_54 : decode c_N_less 54 = .ok (.getfield 13, 3) := by decide +kernel
theorem d_N_less_57 : decode c_N_less 57 = .ok (.goto 7, 3) := by decide +kernel
theorem d_N_less_60 : decode c_N_less 60 = .ok (.aload_n 2, 1) := by decide +kernel
theorem d_N_less_61 : decode c_N_less 61 = .ok (.getfield 13, 3) := by decide +kernel
theorem d_N_less_64 : decode c_N_less 64 = .ok (.istore 4, 2) := by decide +kernel
theorem d_N_less_66 : decode c_N_less 66 = .ok (.iconst 0, 1) := by decide +kernel
theorem d_N_less_67 : decode c_N_less 67 = .ok (.istore 5, 2) := by decide +kernel
theorem d_N_less_69 : decode c_N_less 69 = .ok (.iconst 0, 1) := by decide +kernel
theorem d_N_less_70 : decode c_N_less 70 = .ok (.istore 6, 2) := by decide +kernel
theorem d_N_less_72 : decode c_N_less 72 = .ok (.iload 6, 2) := by decide +kernel
theorem d_N_less_74 : decode c_N_less 74 = .ok (.iload 4, 2) := by decide +kernel
theorem d_N_less_76 : decode c_N_less 76 = .ok (.if_icmp .ge 74, 3) := by decide +kernel
theorem d_N_less_79 : decode c_N_less 79 = .ok (.iload 5, 2) := by decide +kernel
theorem d_N_less_81 : decode c_N_less 81 = .ok (.iload 6, 2) := by decide +kernel
theorem d_N_less_83 : decode c_N_less 83 = .ok (.aload_n 1, 1) := by decide +kernel
theorem d_N_less_84 : decode c_N_less 84 = .ok (.getfield 13, 3) := by decide +kernel
theorem d_N_less_87 : decode c_N_less 87 = .ok (.if_icmp .ge 13, 3) := by decide +kernel
theorem d_N_less_90 : decode c_N_less 90 = .ok (.aload_n 1, 1) := by decide +kernel
theorem d_N_less_91 : decode c_N_less 91 = .ok (.getfield 7, 3) := by decide +kernel
theorem d_N_less_94 : decode c_N_less 94 = .ok (.iload 6, 2) := by decide +kernel
theorem d_N_less_96 : decode c_N_less 96 = .ok (.iaload, 1) := by decide +kernel
theorem d_N_less_97 : decode c_N_less 97 = .ok (.goto 4, 3) := by decide +kernel
theorem d_N_less_100 : decode c_N_less 100 = .ok (.iconst 0, 1) := by decide +kernel
theorem d_N_less_101 : decode c_N_less 101 = .ok (.iload 6, 2) := by decide +kernel
theorem d_N_less_103 : decode c_N_less 103 = .ok (.aload_n 2, 1) := by decide +kernel
theorem d_N_less_104 : decode c_N_less 104 = .ok (.getfield 13, 3) := by decide +kernel
theorem d_N_less_107 : decode c_N_less 107 = .ok (.if_icmp .ge 13, 3) := by decide +kernel
theorem d_N_less_110 : decode c_N_less 110 = .ok (.aload_n 2, 1) := by decide +kernel
theorem d_N_less_111 : decode c_N_less 111 = .ok (.getfield 7, 3) := by decide +kernel
theorem d_N_less_114 : decode c_N_less 114 = .ok (.iload 6, 2) := by decide +kernel
theorem d_N_less_116 : decode c_N_less 116 = .ok (.iaload, 1) := by decide +kernel
theorem d_N_less_117 : decode c_N_less 117 = .ok (.goto 4, 3) := by decide +kernel
theorem d_N_less_120 : decode c_N_less 120 = .ok (.iconst 0, 1) := by decide +kernel
theorem d_N_less_121 : decode c_N_less 121 = .ok (.iadd, 1) := by decide +kernel
theorem d_N_less_122 : decode c_N_less 122 = .ok (.iadd, 1) := by decide +kernel
theorem d_N_less_123 : decode c_N_less 123 = .ok (.istore 5, 2) := by decide +kernel
theorem d_N_less_125 : decode c_N_less 125 = .ok (.aload_n 0, 1) := by decide +kernel
theorem d_N_less_126 : decode c_N_less 126 = .ok (.getfield 7, 3) := by decide +kernel
theorem d_N_less_129 : decode c_N_less 129 = .ok (.iload 6, 2) := by decide +kernel
theorem d_N_less_131 : decode c_N_less 131 = .ok (.iload 5, 2) := by decide +kernel
theorem d_N_less_133 : decode c_N_less 133 = .ok (.ldc 26, 2) := by decide +kernel
theorem d_N_less_135 : decode c_N_less 135 = .ok (.irem, 1) := by decide +kernel
theorem d_N_less_136 : decode c_N_less 136 = .ok (.iastore, 1) := by decide +kernel
theorem d_N_less_137 : decode c_N_less 137 = .ok (.iload 5, 2) := by decide +kernel
theorem d_N_less_139 : decode c_N_less 139 = .ok (.ldc 26, 2) := by decide +kernel
theorem d_N_less_141 : decode c_N_less 141 = .ok (.idiv, 1) := by decide +kernel
theorem d_N_less_142 : decode c_N_less 142 = .ok (.istore 5, 2) := by decide +kernel
theorem d_N_less_144 : decode c_N_less 144 = .ok (.iinc 6 1, 3) := by decide +kernel
theorem d_N_less_147 : decode c_N_less 147 = .ok (.goto (-75), 3) := by decide +kernel
theorem d_N_less_150 : decode c_N_less 150 = .ok (.aload_n 0, 1) := by decide +kernel
theorem d_N_less_151 : decode c_N_less 151 = .ok (.getfield 7, 3) := by decide +kernel
theorem d_N_less_154 : decode c_N_less 154 = .ok (.iload 4, 2) := by decide +kernel
theorem d_N_less_156 : decode c_N_less 156 = .ok (.iload 5, 2) := by decide +kernel
theorem d_N_less_158 : decode c_N_less 158 = .ok (.iastore, 1) := by decide +kernel
theorem d_N_less_159 : decode c_N_less 159 = .ok (.aload_n 0, 1) := by decide +kernel
theorem d_N_less_160 : decode c_N_less 160 = .ok (.iload 4, 2) := by decide +kernel
theorem d_N_less_162 : decode c_N_less 162 = .ok (.iconst 1, 1) := by decide +kernel
theorem d_N_less_163 : decode c_N_less 163 = .ok (.iadd, 1) := by decide +kernel
theorem d_N_less_164 : decode c_N_less 164 = .ok (.putfield 13, 3) := by decide +kernel
theorem d_N_less_167 : decode c_N_less 167 = .ok (.aload_n 0, 1) := by decide +kernel
theorem d_N_less_168 : decode c_N_less 168 = .ok (.aload_n 1, 1) := by decide +kernel
theorem d_N_less_169 : decode c_N_less 169 = .ok (.getfield 13, 3) := by decide +kernel
theorem d_N_less_172 : decode c_N_less 172 = .ok (.ifCond .ne 7, 3) := by decide +kernel
theorem d_N_less_175 : decode c_N_less 175 = .ok (.iload_n 3, 1) := by decide +kernel
theorem d_N_less_176 : decode c_N_less 176 = .ok (.goto 7, 3) := by decide +kernel
theorem d_N_less_179 : decode c_N_less 179 = .ok (.aload_n 1, 1) := by decide +kernel
theorem d_N_less_180 : decode c_N_less 180 = .ok (.getfield 17, 3) := by decide +kernel
theorem d_N_less_183 : decode c_N_less 183 = .ok (.putfield 17, 3) := by decide +kernel
theorem d_N_less_186 : decode c_N_less 186 = .ok (.aload_n 0, 1) := by decide +kernel
theorem d_N_less_187 : decode c_N_less 187 = .ok (.invokevirtual 27, 3) := by decide +kernel
theorem d_N_less_190 : decode c_N_less 190 = .ok (.return_, 1) := by decide +kernel
theorem d_N_less_191 : decode c_N_less 191 = .ok (.aload_n 1, 1) := by decide +kernel
theorem d_N_less_192 : decode c_N_less 192 = .ok (.aload_n 2, 1) := by decide +kernel
theorem d_N_less_193 : decode c_N_less 193 = .ok (.invokevirtual 30, 3) := by decide +kernel
theorem d_N_less_196 : decode c_N_less 196 = .ok (.ifCond .lt 7, 3) := by decide +kernel
theorem d_N_less_199 : decode c_N_less 199 = .ok (.iconst 1, 1) := by decide +kernel
theorem d_N_less_200 : decode c_N_less 200 = .ok (.goto 4, 3) := by decide +kernel
theorem d_N_less_203 : decode c_N_less 203 = .ok (.iconst 0, 1) := by decide +kernel
theorem d_N_less_204 : decode c_N_less 204 = .ok (.istore 4, 2) := by decide +kernel
theorem d_N_less_206 : decode c_N_less 206 = .ok (.iload 4, 2) := by decide +kernel
theorem d_N_less_208 : decode c_N_less 208 = .ok (.ifCond .eq 7, 3) := by decide +kernel
theorem d_N_less_211 : decode c_N_less 211 = .ok (.aload_n 1, 1) := by decide +kernel
theorem d_N_less_212 : decode c_N_less 212 = .ok (.goto 4, 3) := by decide +kernel
theorem d_N_less_215 : decode c_N_less 215 = .ok (.aload_n 2, 1) := by decide +kernel
theorem d_N_less_216 : decode c_N_less 216 = .ok (.astore 5, 2) := by decide +kernel
theorem d_N_less_218 : decode c_N_less 218 = .ok (.iload 4, 2) := by decide +kernel
theorem d_N_less_220 : decode c_N_less 220 = .ok (.ifCond .eq 7, 3) := by decide +kernel
theorem d_N_less_223 : decode c_N_less 223 = .ok (.aload_n 2, 1) := by decide +kernel
theorem d_N_less_224 : decode c_N_less 224 = .ok (.goto 4, 3) := by decide +kernel
theorem d_N_less_227 : decode c_N_less 227 = .ok (.aload_n 1, 1) := by decide +kernel
theorem d_N_less_228 : decode c_N_less 228 = .ok (.astore 6, 2) := by decide +kernel
theorem d_N_less_230 : decode c_N_less 230 = .ok (.iconst 0, 1) := by decide +kernel
theorem d_N_less_231 : decode c_N_less 231 = .ok (.istore 7, 2) := by decide +kernel
theorem d_N_less_233 : decode c_N_less 233 = .ok (.iconst 0, 1) := by decide +kernel
theorem d_N_less_234 : decode c_N_less 234 = .ok (.istore 8, 2) := by decide +kernel
theorem d_N_less_236 : decode c_N_less 236 = .ok (.iload 8, 2) := by decide +kernel
theorem d_N_less_238 : decode c_N_less 238 = .ok (.aload 5, 2) := by decide +kernel
theorem d_N_less_240 : decode c_N_less 240 = .ok (.getfield 13, 3) := by decide +kernel
theorem d_N_less_243 : decode c_N_less 243 = .ok (.if_icmp .ge 72, 3) := by decide +kernel
theorem d_N_less_246 : decode c_N_less 246 = .ok (.aload 5, 2) := by decide +kernel
theorem d_N_less_248 : decode c_N_less 248 = .ok (.getfield 7, 3) := by decide +kernel
theorem d_N_less_251 : decode c_N_less 251 = .ok (.iload 8, 2) := by decide +kernel
theorem d_N_less_253 : decode c_N_less 253 = .ok (.iaload, 1) := by decide +kernel
theorem d_N_less_254 : decode c_N_less 254 = .ok (.iload 8, 2) := by decide +kernel
theorem d_N_less_256 : decode c_N_less 256 = .ok (.aload 6, 2) := by decide +kernel
theorem d_N_less_258 : decode c_N_less 258 = .ok (.getfield 13, 3) := by decide +kernel
theorem d_N_less_261 : decode c_N_less 261 = .ok (.if_icmp .ge 14, 3) := by decide +kernel
theorem d_N_less_264 : decode c_N_less 264 = .ok (.aload 6, 2) := by decide +kernel
theorem d_N_less_266 : decode c_N_less 266 = .ok (.getfield 7, 3) := by decide +kernel
theorem d_N_less_269 : decode c_N_less 269 = .ok (.iload 8, 2) := by decide +kernel
theorem d_N_less_271 : decode c_N_less 271 = .ok (.iaload, 1) := by decide +kernel
theorem d_N_less_272 : decode c_N_less 272 = .ok (.goto 4, 3) := by decide +kernel
theorem d_N_less_275 : decode c_N_less 275 = .ok (.iconst 0, 1) := by decide +kernel
theorem d_N_less_276 : decode c_N_less 276 = .ok (.isub, 1) := by decide +kernel
theorem d_N_less_277 : decode c_N_less 277 = .ok (.iload 7, 2) := by decide +kernel
theorem d_N_less_279 : decode c_N_less 279 = .ok (.isub, 1) := by decide +kernel
theorem d_N_less_280 : decode c_N_less 280 = .ok (.istore 9, 2) := by decide +kernel
theorem d_N_less_282 : decode c_N_less 282 = .ok (.iload 9, 2) := by decide +kernel
theorem d_N_less_284 : decode c_N_less 284 = .ok (.ifCond .ge 7, 3) := by decide +kernel
theorem d_N_less_287 : decode c_N_less 287 = .ok (.iconst 1, 1) := by decide +kernel
theorem d_N_less_288 : decode c_N_less 288 = .ok (.goto 4, 3) := by decide +kernel
theorem d_N_less_291 : decode c_N_less 291 = .ok (.iconst 0, 1) := by decide +kernel
theorem d_N_less_292 : decode c_N_less 292 = .ok (.istore 7, 2) := by decide +kernel
theorem d_N_less_294 : decode c_N_less 294 = .ok (.aload_n 0, 1) := by decide +kernel
theorem d_N_less_295 : decode c_N_less 295 = .ok (.getfield 7, 3) := by decide +kernel
theorem d_N_less_298 : decode c_N_less 298 = .ok (.iload 8, 2) := by decide +kernel
theorem d_N_less_300 : decode c_N_less 300 = .ok (.iload 9, 2) := by decide +kernel
theorem d_N_less_302 : decode c_N_less 302 = .ok (.ldc 26, 2) := by decide +kernel
theorem d_N_less_304 : decode c_N_less 304 = .ok (.iload 7, 2) := by decide +kernel
theorem d_N_less_306 : decode c_N_less 306 = .ok (.imul, 1) := by decide +kernel
theorem d_N_less_307 : decode c_N_less 307 = .ok (.iadd, 1) := by decide +kernel
theorem d_N_less_308 : decode c_N_less 308 = .ok (.iastore, 1) := by decide +kernel
theorem d_N_less_309 : decode c_N_less 309 = .ok (.iinc 8 1, 3) := by decide +kernel
theorem d_N_less_312 : decode c_N_less 312 = .ok (.goto (-76), 3) := by decide +kernel
theorem d_N_less_315 : decode c_N_less 315 = .ok (.aload_n 0, 1) := by decide +kernel
theorem d_N_less_316 : decode c_N_less 316 = .ok (.aload 5, 2) := by decide +kernel
theorem d_N_less_318 : decode c_N_less 318 = .ok (.getfield 13, 3) := by decide +kernel
theorem d_N_less_321 : decode c_N_less 321 = .ok (.putfield 13, 3) := by decide +kernel
theorem d_N_less_324 : decode c_N_less 324 = .ok (.aload_n 0, 1) := by decide +kernel
theorem d_N_less_325 : decode c_N_less 325 = .ok (.iload 4, 2) := by decide +kernel
theorem d_N_less_327 : decode c_N_less 327 = .ok (.ifCond .eq 10, 3) := by decide +kernel
theorem d_N_less_330 : decode c_N_less 330 = .ok (.aload_n 1, 1) := by decide +kernel
theorem d_N_less_331 : decode c_N_less 331 = .ok (.getfield 17, 3) := by decide +kernel
theorem d_N_less_334 : decode c_N_less 334 = .ok (.goto 4, 3) := by decide +kernel
theorem d_N_less_337 : decode c_N_less 337 = .ok (.iload_n 3, 1) := by decide +kernel
theorem d_N_less_338 : decode c_N_less 338 = .ok (.putfield 17, 3) := by decide +kernel
theorem d_N_less_341 : decode c_N_less 341 = .ok (.aload_n 0, 1) := by decide +kernel
theorem d_N_less_342 : decode c_N_less 342 = .ok (.invokevirtual 27, 3) := by decide +kernel
theorem d_N_less_345 : decode c_N_less 345 = .ok (.return_, 1) := by decide +kernel
