-- ===== decode rows (written by wip/gen/names.py) =====
theorem d_A_init_0 : decode c_A_init 0 = .ok (.aload_n 0, 1) := by decide +kernel
theorem d_A_init_1 : decode c_A_init 1 = .ok (.invokespecial 3, 3) := by decide +kernel
theorem d_A_init_4 : decode c_A_init 4 = .ok (.aload_n 0, 1) := by decide +kernel
theorem d_A_init_5 : decode c_A_init 5 = .ok (.bipush 8, 2) := by decide +kernel
theorem d_A_init_7 : decode c_A_init 7 = .ok (.anewarray 9, 3) := by decide +kernel
theorem d_A_init_10 : decode c_A_init 10 = .ok (.putfield 11, 3) := by decide +kernel
theorem d_A_init_13 : decode c_A_init 13 = .ok (.iconst 0, 1) := by decide +kernel
theorem d_A_init_14 : decode c_A_init 14 = .ok (.istore_n 1, 1) := by decide +kernel
theorem d_A_init_15 : decode c_A_init 15 = .ok (.iload_n 1, 1) := by decide +kernel
theorem d_A_init_16 : decode c_A_init 16 = .ok (.bipush 8, 2) := by decide +kernel
theorem d_A_init_18 : decode c_A_init 18 = .ok (.if_icmp .ge 22, 3) := by decide +kernel
theorem d_A_init_21 : decode c_A_init 21 = .ok (.aload_n 0, 1) := by decide +kernel
theorem d_A_init_22 : decode c_A_init 22 = .ok (.getfield 11, 3) := by decide +kernel
theorem d_A_init_25 : decode c_A_init 25 = .ok (.iload_n 1, 1) := by decide +kernel
theorem d_A_init_26 : decode c_A_init 26 = .ok (.new 9, 3) := by decide +kernel
theorem d_A_init_29 : decode c_A_init 29 = .ok (.dup, 1) := by decide +kernel
theorem d_A_init_30 : decode c_A_init 30 = .ok (.invokespecial 15, 3) := by decide +kernel
theorem d_A_init_33 : decode c_A_init 33 = .ok (.aastore, 1) := by decide +kernel
theorem d_A_init_34 : decode c_A_init 34 = .ok (.iinc 1 1, 3) := by decide +kernel
theorem d_A_init_37 : decode c_A_init 37 = .ok (.goto (-22), 3) := by decide +kernel
theorem d_A_init_40 : decode c_A_init 40 = .ok (.aload_n 0, 1) := by decide +kernel
theorem d_A_init_41 : decode c_A_init 41 = .ok (.new 9, 3) := by decide +kernel
theorem d_A_init_44 : decode c_A_init 44 = .ok (.dup, 1) := by decide +kernel
theorem d_A_init_45 : decode c_A_init 45 = .ok (.invokespecial 15, 3) := by decide +kernel
theorem d_A_init_48 : decode c_A_init 48 = .ok (.putfield 16, 3) := by decide +kernel
theorem d_A_init_51 : decode c_A_init 51 = .ok (.aload_n 0, 1) := by decide +kernel
theorem d_A_init_52 : decode c_A_init 52 = .ok (.new 20, 3) := by decide +kernel
theorem d_A_init_55 : decode c_A_init 55 = .ok (.dup, 1) := by decide +kernel
theorem d_A_init_56 : decode c_A_init 56 = .ok (.invokespecial 22, 3) := by decide +kernel
theorem d_A_init_59 : decode c_A_init 59 = .ok (.putfield 23, 3) := by decide +kernel
theorem d_A_init_62 : decode c_A_init 62 = .ok (.aload_n 0, 1) := by decide +kernel
theorem d_A_init_63 : decode c_A_init 63 = .ok (.new 27, 3) := by decide +kernel
theorem d_A_init_66 : decode c_A_init 66 = .ok (.dup, 1) := by decide +kernel
theorem d_A_init_67 : decode c_A_init 67 = .ok (.invokespecial 29, 3) := by decide +kernel
theorem d_A_init_70 : decode c_A_init 70 = .ok (.putfield 30, 3) := by decide +kernel
theorem d_A_init_73 : decode c_A_init 73 = .ok (.return_, 1) := by decide +kernel
theorem d_Q_init_0 : decode c_Q_init 0 = .ok (.aload_n 0, 1) := by decide +kernel
theorem d_Q_init_1 : decode c_Q_init 1 = .ok (.invokespecial 3, 3) := by decide +kernel
theorem d_Q_init_4 : decode c_Q_init 4 = .ok (.aload_n 0, 1) := by decide +kernel
theorem d_Q_init_5 : decode c_Q_init 5 = .ok (.bipush 12, 2) := by decide +kernel
theorem d_Q_init_7 : decode c_Q_init 7 = .ok (.anewarray 9, 3) := by decide +kernel
theorem d_Q_init_10 : decode c_Q_init 10 = .ok (.putfield 11, 3) := by decide +kernel
theorem d_Q_init_13 : decode c_Q_init 13 = .ok (.iconst 0, 1) := by decide +kernel
theorem d_Q_init_14 : decode c_Q_init 14 = .ok (.istore_n 1, 1) := by decide +kernel
theorem d_Q_init_15 : decode c_Q_init 15 = .ok (.iload_n 1, 1) := by decide +kernel
theorem d_Q_init_16 : decode c_Q_init 16 = .ok (.bipush 12, 2) := by decide +kernel
theorem d_Q_init_18 : decode c_Q_init 18 = .ok (.if_icmp .ge 22, 3) := by decide +kernel
theorem d_Q_init_21 : decode c_Q_init 21 = .ok (.aload_n 0, 1) := by decide +kernel
theorem d_Q_init_22 : decode c_Q_init 22 = .ok (.getfield 11, 3) := by decide +kernel
theorem d_Q_init_25 : decode c_Q_init 25 = .ok (.iload_n 1, 1) := by decide +kernel
theorem d_Q_init_26 : decode c_Q_init 26 = .ok (.new 9, 3) := by decide +kernel
theorem d_Q_init_29 : decode c_Q_init 29 = .ok (.dup, 1) := by decide +kernel
theorem d_Q_init_30 : decode c_Q_init 30 = .ok (.invokespecial 17, 3) := by decide +kernel
theorem d_Q_init_33 : decode c_Q_init 33 = .ok (.aastore, 1) := by decide +kernel
theorem d_Q_init_34 : decode c_Q_init 34 = .ok (.iinc 1 1, 3) := by decide +kernel
theorem d_Q_init_37 : decode c_Q_init 37 = .ok (.goto (-22), 3) := by decide +kernel
theorem d_Q_init_40 : decode c_Q_init 40 = .ok (.aload_n 0, 1) := by decide +kernel
theorem d_Q_init_41 : decode c_Q_init 41 = .ok (.new 9, 3) := by decide +kernel
theorem d_Q_init_44 : decode c_Q_init 44 = .ok (.dup, 1) := by decide +kernel
theorem d_Q_init_45 : decode c_Q_init 45 = .ok (.invokespecial 17, 3) := by decide +kernel
theorem d_Q_init_48 : decode c_Q_init 48 = .ok (.putfield 18, 3) := by decide +kernel
theorem d_Q_init_51 : decode c_Q_init 51 = .ok (.aload_n 0, 1) := by decide +kernel
theorem d_Q_init_52 : decode c_Q_init 52 = .ok (.new 9, 3) := by decide +kernel
theorem d_Q_init_55 : decode c_Q_init 55 = .ok (.dup, 1) := by decide +kernel
theorem d_Q_init_56 : decode c_Q_init 56 = .ok (.invokespecial 17, 3) := by decide +kernel
theorem d_Q_init_59 : decode c_Q_init 59 = .ok (.putfield 22, 3) := by decide +kernel
theorem d_Q_init_62 : decode c_Q_init 62 = .ok (.aload_n 0, 1) := by decide +kernel
theorem d_Q_init_63 : decode c_Q_init 63 = .ok (.new 9, 3) := by decide +kernel
theorem d_Q_init_66 : decode c_Q_init 66 = .ok (.dup, 1) := by decide +kernel
theorem d_Q_init_67 : decode c_Q_init 67 = .ok (.invokespecial 17, 3) := by decide +kernel
theorem d_Q_init_70 : decode c_Q_init 70 = .ok (.putfield 25, 3) := by decide +kernel
theorem d_Q_init_73 : decode c_Q_init 73 = .ok (.aload_n 0, 1) := by decide +kernel
theorem d_Q_init_74 : decode c_Q_init 74 = .ok (.new 9, 3) := by decide +kernel
theorem d_Q_init_77 : decode c_Q_init 77 = .ok (.dup, 1) := by decide +kernel
theorem d_Q_init_78 : decode c_Q_init 78 = .ok (.invokespecial 17, 3) := by decide +kernel
theorem d_Q_init_81 : decode c_Q_init 81 = .ok (.putfield 28, 3) := by decide +kernel
theorem d_Q_init_84 : decode c_Q_init 84 = .ok (.aload_n 0, 1) := by decide +kernel
theorem d_Q_init_85 : decode c_Q_init 85 = .ok (.new 9, 3) := by decide +kernel
theorem d_Q_init_88 : decode c_Q_init 88 = .ok (.dup, 1) := by decide +kernel
theorem d_Q_init_89 : decode c_Q_init 89 = .ok (.invokespecial 17, 3) := by decide +kernel
theorem d_Q_init_92 : decode c_Q_init 92 = .ok (.putfield 31, 3) := by decide +kernel
theorem d_Q_init_95 : decode c_Q_init 95 = .ok (.aload_n 0, 1) := by decide +kernel
theorem d_Q_init_96 : decode c_Q_init 96 = .ok (.new 9, 3) := by decide +kernel
theorem d_Q_init_99 : decode c_Q_init 99 = .ok (.dup, 1) := by decide +kernel
theorem d_Q_init_100 : decode c_Q_init 100 = .ok (.invokespecial 17, 3) := by decide +kernel
theorem d_Q_init_103 : decode c_Q_init 103 = .ok (.putfield 34, 3) := by decide +kernel
theorem d_Q_init_106 : decode c_Q_init 106 = .ok (.aload_n 0, 1) := by decide +kernel
theorem d_Q_init_107 : decode c_Q_init 107 = .ok (.new 9, 3) := by decide +kernel
theorem d_Q_init_110 : decode c_Q_init 110 = .ok (.dup, 1) := by decide +kernel
theorem d_Q_init_111 : decode c_Q_init 111 = .ok (.invokespecial 17, 3) := by decide +kernel
theorem d_Q_init_114 : decode c_Q_init 114 = .ok (.putfield 37, 3) := by decide +kernel
theorem d_Q_init_117 : decode c_Q_init 117 = .ok (.return_, 1) := by decide +kernel
theorem d_K_init_0 : decode c_K_init 0 = .ok (.aload_n 0, 1) := by decide +kernel
theorem d_K_init_1 : decode c_K_init 1 = .ok (.invokespecial 1, 3) := by decide +kernel
theorem d_K_init_4 : decode c_K_init 4 = .ok (.return_, 1) := by decide +kernel
theorem d_P_init_0 : decode c_P_init 0 = .ok (.aload_n 0, 1) := by decide +kernel
theorem d_P_init_1 : decode c_P_init 1 = .ok (.invokespecial 1, 3) := by decide +kernel
theorem d_P_init_4 : decode c_P_init 4 = .ok (.return_, 1) := by decide +kernel
theorem d_A_begin_0 : decode c_A_begin 0 = .ok (.iload_n 1, 1) := by decide +kernel
theorem d_A_begin_1 : decode c_A_begin 1 = .ok (.invokestatic 34, 3) := by decide +kernel
theorem d_A_begin_4 : decode c_A_begin 4 = .ok (.ifCond .eq 25, 3) := by decide +kernel
theorem d_A_begin_7 : decode c_A_begin 7 = .ok (.iload_n 2, 1) := by decide +kernel
theorem d_A_begin_8 : decode c_A_begin 8 = .ok (.invokestatic 38, 3) := by decide +kernel
theorem d_A_begin_11 : decode c_A_begin 11 = .ok (.ifCond .eq 18, 3) := by decide +kernel
theorem d_A_begin_14 : decode c_A_begin 14 = .ok (.iload_n 3, 1) := by decide +kernel
theorem d_A_begin_15 : decode c_A_begin 15 = .ok (.invokestatic 41, 3) := by decide +kernel
theorem d_A_begin_18 : decode c_A_begin 18 = .ok (.ifCond .eq 11, 3) := by decide +kernel
theorem d_A_begin_21 : decode c_A_begin 21 = .ok (.iload 4, 2) := by decide +kernel
theorem d_A_begin_23 : decode c_A_begin 23 = .ok (.invokestatic 41, 3) := by decide +kernel
theorem d_A_begin_26 : decode c_A_begin 26 = .ok (.ifCond .ne 5, 3) := by decide +kernel
theorem d_A_begin_29 : decode c_A_begin 29 = .ok (.iconst 0, 1) := by decide +kernel
theorem d_A_begin_30 : decode c_A_begin 30 = .ok (.ireturn, 1) := by decide +kernel
theorem d_A_begin_31 : decode c_A_begin 31 = .ok (.aload_n 0, 1) := by decide +kernel
theorem d_A_begin_32 : decode c_A_begin 32 = .ok (.getfield 11, 3) := by decide +kernel
theorem d_A_begin_35 : decode c_A_begin 35 = .ok (.iload_n 1, 1) := by decide +kernel
theorem d_A_begin_36 : decode c_A_begin 36 = .ok (.aaload, 1) := by decide +kernel
theorem d_A_begin_37 : decode c_A_begin 37 = .ok (.iload_n 2, 1) := by decide +kernel
theorem d_A_begin_38 : decode c_A_begin 38 = .ok (.iload_n 3, 1) := by decide +kernel
theorem d_A_begin_39 : decode c_A_begin 39 = .ok (.iload 4, 2) := by decide +kernel
theorem d_A_begin_41 : decode c_A_begin 41 = .ok (.invokevirtual 44, 3) := by decide +kernel
theorem d_A_begin_44 : decode c_A_begin 44 = .ok (.iconst 1, 1) := by decide +kernel
theorem d_A_begin_45 : decode c_A_begin 45 = .ok (.ireturn, 1) := by decide +kernel
theorem d_A_isTable_0 : decode c_A_isTable 0 = .ok (.iload_n 0, 1) := by decide +kernel
theorem d_A_isTable_1 : decode c_A_isTable 1 = .ok (.ifCond .lt 13, 3) := by decide +kernel
theorem d_A_isTable_4 : decode c_A_isTable 4 = .ok (.iload_n 0, 1) := by decide +kernel
theorem d_A_isTable_5 : decode c_A_isTable 5 = .ok (.bipush 8, 2) := by decide +kernel
theorem d_A_isTable_7 : decode c_A_isTable 7 = .ok (.if_icmp .ge 7, 3) := by decide +kernel
theorem d_A_isTable_10 : decode c_A_isTable 10 = .ok (.iconst 1, 1) := by decide +kernel
theorem d_A_isTable_11 : decode c_A_isTable 11 = .ok (.goto 4, 3) := by decide +kernel
theorem d_A_isTable_14 : decode c_A_isTable 14 = .ok (.iconst 0, 1) := by decide +kernel
theorem d_A_isTable_15 : decode c_A_isTable 15 = .ok (.ireturn, 1) := by decide +kernel
theorem d_A_isField_0 : decode c_A_isField 0 = .ok (.iload_n 0, 1) := by decide +kernel
theorem d_A_isField_1 : decode c_A_isField 1 = .ok (.ifCond .ne 5, 3) := by decide +kernel
theorem d_A_isField_4 : decode c_A_isField 4 = .ok (.iconst 1, 1) := by decide +kernel
theorem d_A_isField_5 : decode c_A_isField 5 = .ok (.ireturn, 1) := by decide +kernel
theorem d_A_isField_6 : decode c_A_isField 6 = .ok (.iload_n 0, 1) := by decide +kernel
theorem d_A_isField_7 : decode c_A_isField 7 = .ok (.iconst 2, 1) := by decide +kernel
theorem d_A_isField_8 : decode c_A_isField 8 = .ok (.if_icmp .lt 10, 3) := by decide +kernel
theorem d_A_isField_11 : decode c_A_isField 11 = .ok (.iload_n 0, 1) := by decide +kernel
theorem d_A_isField_12 : decode c_A_isField 12 = .ok (.sipush 251, 3) := by decide +kernel
theorem d_A_isField_15 : decode c_A_isField 15 = .ok (.if_icmp .le 5, 3) := by decide +kernel
theorem d_A_isField_18 : decode c_A_isField 18 = .ok (.iconst 0, 1) := by decide +kernel
theorem d_A_isField_19 : decode c_A_isField 19 = .ok (.ireturn, 1) := by decide +kernel
theorem d_A_isField_20 : decode c_A_isField 20 = .ok (.iconst 2, 1) := by decide +kernel
theorem d_A_isField_21 : decode c_A_isField 21 = .ok (.istore_n 1, 1) := by decide +kernel
theorem d_A_isField_22 : decode c_A_isField 22 = .ok (.iload_n 1, 1) := by decide +kernel
theorem d_A_isField_23 : decode c_A_isField 23 = .ok (.iload_n 1, 1) := by decide +kernel
theorem d_A_isField_24 : decode c_A_isField 24 = .ok (.imul, 1) := by decide +kernel
theorem d_A_isField_25 : decode c_A_isField 25 = .ok (.iload_n 0, 1) := by decide +kernel
theorem d_A_isField_26 : decode c_A_isField 26 = .ok (.if_icmp .gt 17, 3) := by decide +kernel
theorem d_A_isField_29 : decode c_A_isField 29 = .ok (.iload_n 0, 1) := by decide +kernel
theorem d_A_isField_30 : decode c_A_isField 30 = .ok (.iload_n 1, 1) := by decide +kernel
theorem d_A_isField_31 : decode c_A_isField 31 = .ok (.irem, 1) := by decide +kernel
theorem d_A_isField_32 : decode c_A_isField 32 = .ok (.ifCond .ne 5, 3) := by decide +kernel
theorem d_A_isField_35 : decode c_A_isField 35 = .ok (.iconst 0, 1) := by decide +kernel
theorem d_A_isField_36 : decode c_A_isField 36 = .ok (.ireturn, 1) := by decide +kernel
theorem d_A_isField_37 : decode c_A_isField 37 = .ok (.iinc 1 1, 3) := by decide +kernel
theorem d_A_isField_40 : decode c_A_isField 40 = .ok (.goto (-18), 3) := by decide +kernel
theorem d_A_isField_43 : decode c_A_isField 43 = .ok (.iconst 1, 1) := by decide +kernel
theorem d_A_isField_44 : decode c_A_isField 44 = .ok (.ireturn, 1) := by decide +kernel
theorem d_A_isAmount_0 : decode c_A_isAmount 0 = .ok (.iload_n 0, 1) := by decide +kernel
theorem d_A_isAmount_1 : decode c_A_isAmount 1 = .ok (.ifCond .lt 13, 3) := by decide +kernel
theorem d_A_isAmount_4 : decode c_A_isAmount 4 = .ok (.iload_n 0, 1) := by decide +kernel
theorem d_A_isAmount_5 : decode c_A_isAmount 5 = .ok (.bipush 12, 2) := by decide +kernel
theorem d_A_isAmount_7 : decode c_A_isAmount 7 = .ok (.if_icmp .gt 7, 3) := by decide +kernel
theorem d_A_isAmount_10 : decode c_A_isAmount 10 = .ok (.iconst 1, 1) := by decide +kernel
theorem d_A_isAmount_11 : decode c_A_isAmount 11 = .ok (.goto 4, 3) := by decide +kernel
theorem d_A_isAmount_14 : decode c_A_isAmount 14 = .ok (.iconst 0, 1) := by decide +kernel
theorem d_A_isAmount_15 : decode c_A_isAmount 15 = .ok (.ireturn, 1) := by decide +kernel
theorem d_JA_fill_0_0 : decode c_JA_fill_0 0 = .ok (.iconst 0, 1) := by decide +kernel
theorem d_JA_fill_0_1 : decode c_JA_fill_0 1 = .ok (.istore_n 2, 1) := by decide +kernel
theorem d_JA_fill_0_2 : decode c_JA_fill_0 2 = .ok (.aload_n 0, 1) := by decide +kernel
theorem d_JA_fill_0_3 : decode c_JA_fill_0 3 = .ok (.arraylength, 1) := by decide +kernel
theorem d_JA_fill_0_4 : decode c_JA_fill_0 4 = .ok (.istore_n 3, 1) := by decide +kernel
theorem d_JA_fill_0_5 : decode c_JA_fill_0 5 = .ok (.iload_n 2, 1) := by decide +kernel
theorem d_JA_fill_0_6 : decode c_JA_fill_0 6 = .ok (.iload_n 3, 1) := by decide +kernel
theorem d_JA_fill_0_7 : decode c_JA_fill_0 7 = .ok (.if_icmp .ge 13, 3) := by decide +kernel
theorem d_JA_fill_0_10 : decode c_JA_fill_0 10 = .ok (.aload_n 0, 1) := by decide +kernel
theorem d_JA_fill_0_11 : decode c_JA_fill_0 11 = .ok (.iload_n 2, 1) := by decide +kernel
theorem d_JA_fill_0_12 : decode c_JA_fill_0 12 = .ok (.iload_n 1, 1) := by decide +kernel
theorem d_JA_fill_0_13 : decode c_JA_fill_0 13 = .ok (.iastore, 1) := by decide +kernel
theorem d_JA_fill_0_14 : decode c_JA_fill_0 14 = .ok (.iinc 2 1, 3) := by decide +kernel
theorem d_JA_fill_0_17 : decode c_JA_fill_0 17 = .ok (.goto (-12), 3) := by decide +kernel
theorem d_JA_fill_0_20 : decode c_JA_fill_0 20 = .ok (.return_, 1) := by decide +kernel
theorem d_A_put_0 : decode c_A_put 0 = .ok (.aload_n 0, 1) := by decide +kernel
theorem d_A_put_1 : decode c_A_put 1 = .ok (.iload_n 1, 1) := by decide +kernel
theorem d_A_put_2 : decode c_A_put 2 = .ok (.iload_n 2, 1) := by decide +kernel
theorem d_A_put_3 : decode c_A_put 3 = .ok (.iload_n 3, 1) := by decide +kernel
theorem d_A_put_4 : decode c_A_put 4 = .ok (.invokevirtual 48, 3) := by decide +kernel
theorem d_A_put_7 : decode c_A_put 7 = .ok (.ifCond .eq 31, 3) := by decide +kernel
theorem d_A_put_10 : decode c_A_put 10 = .ok (.aload_n 0, 1) := by decide +kernel
theorem d_A_put_11 : decode c_A_put 11 = .ok (.getfield 11, 3) := by decide +kernel
theorem d_A_put_14 : decode c_A_put 14 = .ok (.iload_n 1, 1) := by decide +kernel
theorem d_A_put_15 : decode c_A_put 15 = .ok (.aaload, 1) := by decide +kernel
theorem d_A_put_16 : decode c_A_put 16 = .ok (.getfield 52, 3) := by decide +kernel
theorem d_A_put_19 : decode c_A_put 19 = .ok (.ifCond .ne 19, 3) := by decide +kernel
theorem d_A_put_22 : decode c_A_put 22 = .ok (.iload 4, 2) := by decide +kernel
theorem d_A_put_24 : decode c_A_put 24 = .ok (.sipush (-999), 3) := by decide +kernel
theorem d_A_put_27 : decode c_A_put 27 = .ok (.if_icmp .lt 11, 3) := by decide +kernel
theorem d_A_put_30 : decode c_A_put 30 = .ok (.iload 4, 2) := by decide +kernel
theorem d_A_put_32 : decode c_A_put 32 = .ok (.sipush 999, 3) := by decide +kernel
theorem d_A_put_35 : decode c_A_put 35 = .ok (.if_icmp .le 5, 3) := by decide +kernel
theorem d_A_put_38 : decode c_A_put 38 = .ok (.iconst 0, 1) := by decide +kernel
theorem d_A_put_39 : decode c_A_put 39 = .ok (.ireturn, 1) := by decide +kernel
theorem d_A_put_40 : decode c_A_put 40 = .ok (.aload_n 0, 1) := by decide +kernel
theorem d_A_put_41 : decode c_A_put 41 = .ok (.getfield 11, 3) := by decide +kernel
theorem d_A_put_44 : decode c_A_put 44 = .ok (.iload_n 1, 1) := by decide +kernel
theorem d_A_put_45 : decode c_A_put 45 = .ok (.aaload, 1) := by decide +kernel
theorem d_A_put_46 : decode c_A_put 46 = .ok (.getfield 56, 3) := by decide +kernel
theorem d_A_put_49 : decode c_A_put 49 = .ok (.istore 5, 2) := by decide +kernel
theorem d_A_put_51 : decode c_A_put 51 = .ok (.aload_n 0, 1) := by decide +kernel
theorem d_A_put_52 : decode c_A_put 52 = .ok (.getfield 11, 3) := by decide +kernel
theorem d_A_put_55 : decode c_A_put 55 = .ok (.iload_n 1, 1) := by decide +kernel
theorem d_A_put_56 : decode c_A_put 56 = .ok (.aaload, 1) := by decide +kernel
theorem d_A_put_57 : decode c_A_put 57 = .ok (.iload_n 2, 1) := by decide +kernel
theorem d_A_put_58 : decode c_A_put 58 = .ok (.iload_n 3, 1) := by decide +kernel
theorem d_A_put_59 : decode c_A_put 59 = .ok (.iload 5, 2) := by decide +kernel
theorem d_A_put_61 : decode c_A_put 61 = .ok (.ifCond .ne 8, 3) := by decide +kernel
theorem d_A_put_64 : decode c_A_put 64 = .ok (.iload 4, 2) := by decide +kernel
theorem d_A_put_66 : decode c_A_put 66 = .ok (.goto 10, 3) := by decide +kernel
theorem d_A_put_69 : decode c_A_put 69 = .ok (.iload 4, 2) := by decide +kernel
theorem d_A_put_71 : decode c_A_put 71 = .ok (.iload 5, 2) := by decide +kernel
theorem d_A_put_73 : decode c_A_put 73 = .ok (.invokestatic 60, 3) := by decide +kernel
theorem d_A_put_76 : decode c_A_put 76 = .ok (.invokevirtual 66, 3) := by decide +kernel
theorem d_A_put_79 : decode c_A_put 79 = .ok (.iconst 1, 1) := by decide +kernel
theorem d_A_put_80 : decode c_A_put 80 = .ok (.ireturn, 1) := by decide +kernel
theorem d_A_hasNumber_0 : decode c_A_hasNumber 0 = .ok (.iload_n 1, 1) := by decide +kernel
theorem d_A_hasNumber_1 : decode c_A_hasNumber 1 = .ok (.invokestatic 34, 3) := by decide +kernel
theorem d_A_hasNumber_4 : decode c_A_hasNumber 4 = .ok (.ifCond .eq 21, 3) := by decide +kernel
theorem d_A_hasNumber_7 : decode c_A_hasNumber 7 = .ok (.aload_n 0, 1) := by decide +kernel
theorem d_A_hasNumber_8 : decode c_A_hasNumber 8 = .ok (.getfield 11, 3) := by decide +kernel
theorem d_A_hasNumber_11 : decode c_A_hasNumber 11 = .ok (.iload_n 1, 1) := by decide +kernel
theorem d_A_hasNumber_12 : decode c_A_hasNumber 12 = .ok (.aaload, 1) := by decide +kernel
theorem d_A_hasNumber_13 : decode c_A_hasNumber 13 = .ok (.iload_n 2, 1) := by decide +kernel
theorem d_A_hasNumber_14 : decode c_A_hasNumber 14 = .ok (.iload_n 3, 1) := by decide +kernel
theorem d_A_hasNumber_15 : decode c_A_hasNumber 15 = .ok (.invokevirtual 133, 3) := by decide +kernel
theorem d_A_hasNumber_18 : decode c_A_hasNumber 18 = .ok (.ifCond .eq 7, 3) := by decide +kernel
theorem d_A_hasNumber_21 : decode c_A_hasNumber 21 = .ok (.iconst 1, 1) := by decide +kernel
theorem d_A_hasNumber_22 : decode c_A_hasNumber 22 = .ok (.goto 4, 3) := by decide +kernel
theorem d_A_hasNumber_25 : decode c_A_hasNumber 25 = .ok (.iconst 0, 1) := by decide +kernel
theorem d_A_hasNumber_26 : decode c_A_hasNumber 26 = .ok (.ireturn, 1) := by decide +kernel
theorem d_JM_floorMod_0 : decode c_JM_floorMod 0 = .ok (.iload_n 0, 1) := by decide +kernel
theorem d_JM_floorMod_1 : decode c_JM_floorMod 1 = .ok (.iload_n 1, 1) := by decide +kernel
theorem d_JM_floorMod_2 : decode c_JM_floorMod 2 = .ok (.irem, 1) := by decide +kernel
theorem d_JM_floorMod_3 : decode c_JM_floorMod 3 = .ok (.istore_n 2, 1) := by decide +kernel
theorem d_JM_floorMod_4 : decode c_JM_floorMod 4 = .ok (.iload_n 0, 1) := by decide +kernel
theorem d_JM_floorMod_5 : decode c_JM_floorMod 5 = .ok (.iload_n 1, 1) := by decide +kernel
theorem d_JM_floorMod_6 : decode c_JM_floorMod 6 = .ok (.ixor, 1) := by decide +kernel
theorem d_JM_floorMod_7 : decode c_JM_floorMod 7 = .ok (.ifCond .ge 11, 3) := by decide +kernel
theorem d_JM_floorMod_10 : decode c_JM_floorMod 10 = .ok (.iload_n 2, 1) := by decide +kernel
theorem d_JM_floorMod_11 : decode c_JM_floorMod 11 = .ok (.ifCond .eq 7, 3) := by decide +kernel
theorem d_JM_floorMod_14 : decode c_JM_floorMod 14 = .ok (.iload_n 2, 1) := by decide +kernel
theorem d_JM_floorMod_15 : decode c_JM_floorMod 15 = .ok (.iload_n 1, 1) := by decide +kernel
theorem d_JM_floorMod_16 : decode c_JM_floorMod 16 = .ok (.iadd, 1) := by decide +kernel
theorem d_JM_floorMod_17 : decode c_JM_floorMod 17 = .ok (.ireturn, 1) := by decide +kernel
theorem d_JM_floorMod_18 : decode c_JM_floorMod 18 = .ok (.iload_n 2, 1) := by decide +kernel
theorem d_JM_floorMod_19 : decode c_JM_floorMod 19 = .ok (.ireturn, 1) := by decide +kernel
theorem d_JI_signum_0 : decode c_JI_signum 0 = .ok (.iload_n 0, 1) := by decide +kernel
theorem d_JI_signum_1 : decode c_JI_signum 1 = .ok (.bipush 31, 2) := by decide +kernel
theorem d_JI_signum_3 : decode c_JI_signum 3 = .ok (.ishr, 1) := by decide +kernel
theorem d_JI_signum_4 : decode c_JI_signum 4 = .ok (.iload_n 0, 1) := by decide +kernel
theorem d_JI_signum_5 : decode c_JI_signum 5 = .ok (.ineg, 1) := by decide +kernel
theorem d_JI_signum_6 : decode c_JI_signum 6 = .ok (.bipush 31, 2) := by decide +kernel
theorem d_JI_signum_8 : decode c_JI_signum 8 = .ok (.iushr, 1) := by decide +kernel
theorem d_JI_signum_9 : decode c_JI_signum 9 = .ok (.ior, 1) := by decide +kernel
theorem d_JI_signum_10 : decode c_JI_signum 10 = .ok (.ireturn, 1) := by decide +kernel
theorem d_JM_abs_0 : decode c_JM_abs 0 = .ok (.iload_n 0, 1) := by decide +kernel
theorem d_JM_abs_1 : decode c_JM_abs 1 = .ok (.ifCond .ge 8, 3) := by decide +kernel
theorem d_JM_abs_4 : decode c_JM_abs 4 = .ok (.iload_n 0, 1) := by decide +kernel
theorem d_JM_abs_5 : decode c_JM_abs 5 = .ok (.ineg, 1) := by decide +kernel
theorem d_JM_abs_6 : decode c_JM_abs 6 = .ok (.goto 4, 3) := by decide +kernel
theorem d_JM_abs_9 : decode c_JM_abs 9 = .ok (.iload_n 0, 1) := by decide +kernel
theorem d_JM_abs_10 : decode c_JM_abs 10 = .ok (.ireturn, 1) := by decide +kernel
theorem d_A_reduce_0 : decode c_A_reduce 0 = .ok (.iload_n 1, 1) := by decide +kernel
theorem d_A_reduce_1 : decode c_A_reduce 1 = .ok (.invokestatic 34, 3) := by decide +kernel
theorem d_A_reduce_4 : decode c_A_reduce 4 = .ok (.ifCond .ne 5, 3) := by decide +kernel
theorem d_A_reduce_7 : decode c_A_reduce 7 = .ok (.iconst (-1), 1) := by decide +kernel
theorem d_A_reduce_8 : decode c_A_reduce 8 = .ok (.ireturn, 1) := by decide +kernel
theorem d_A_reduce_9 : decode c_A_reduce 9 = .ok (.aload_n 0, 1) := by decide +kernel
theorem d_A_reduce_10 : decode c_A_reduce 10 = .ok (.getfield 11, 3) := by decide +kernel
theorem d_A_reduce_13 : decode c_A_reduce 13 = .ok (.iload_n 1, 1) := by decide +kernel
theorem d_A_reduce_14 : decode c_A_reduce 14 = .ok (.aaload, 1) := by decide +kernel
theorem d_A_reduce_15 : decode c_A_reduce 15 = .ok (.astore_n 2, 1) := by decide +kernel
theorem d_A_reduce_16 : decode c_A_reduce 16 = .ok (.aload_n 2, 1) := by decide +kernel
theorem d_A_reduce_17 : decode c_A_reduce 17 = .ok (.getfield 52, 3) := by decide +kernel
theorem d_A_reduce_20 : decode c_A_reduce 20 = .ok (.ifCond .ne 20, 3) := by decide +kernel
theorem d_A_reduce_23 : decode c_A_reduce 23 = .ok (.aload_n 2, 1) := by decide +kernel
theorem d_A_reduce_24 : decode c_A_reduce 24 = .ok (.aload_n 0, 1) := by decide +kernel
theorem d_A_reduce_25 : decode c_A_reduce 25 = .ok (.aload_n 2, 1) := by decide +kernel
theorem d_A_reduce_26 : decode c_A_reduce 26 = .ok (.sipush 4095, 3) := by decide +kernel
theorem d_A_reduce_29 : decode c_A_reduce 29 = .ok (.invokevirtual 69, 3) := by decide +kernel
theorem d_A_reduce_32 : decode c_A_reduce 32 = .ok (.putfield 73, 3) := by decide +kernel
theorem d_A_reduce_35 : decode c_A_reduce 35 = .ok (.aload_n 2, 1) := by decide +kernel
theorem d_A_reduce_36 : decode c_A_reduce 36 = .ok (.iconst 1, 1) := by decide +kernel
theorem d_A_reduce_37 : decode c_A_reduce 37 = .ok (.putfield 52, 3) := by decide +kernel
theorem d_A_reduce_40 : decode c_A_reduce 40 = .ok (.aload_n 2, 1) := by decide +kernel
theorem d_A_reduce_41 : decode c_A_reduce 41 = .ok (.getfield 73, 3) := by decide +kernel
theorem d_A_reduce_44 : decode c_A_reduce 44 = .ok (.ireturn, 1) := by decide +kernel
theorem d_A_sweep_0 : decode c_A_sweep 0 = .ok (.iconst 0, 1) := by decide +kernel
theorem d_A_sweep_1 : decode c_A_sweep 1 = .ok (.istore_n 3, 1) := by decide +kernel
theorem d_A_sweep_2 : decode c_A_sweep 2 = .ok (.iconst 0, 1) := by decide +kernel
theorem d_A_sweep_3 : decode c_A_sweep 3 = .ok (.istore 4, 2) := by decide +kernel
theorem d_A_sweep_5 : decode c_A_sweep 5 = .ok (.iload 4, 2) := by decide +kernel
theorem d_A_sweep_7 : decode c_A_sweep 7 = .ok (.aload_n 1, 1) := by decide +kernel
theorem d_A_sweep_8 : decode c_A_sweep 8 = .ok (.getfield 91, 3) := by decide +kernel
theorem d_A_sweep_11 : decode c_A_sweep 11 = .ok (.if_icmp .ge 55, 3) := by decide +kernel
theorem d_A_sweep_14 : decode c_A_sweep 14 = .ok (.iload_n 2, 1) := by decide +kernel
theorem d_A_sweep_15 : decode c_A_sweep 15 = .ok (.iload 4, 2) := by decide +kernel
theorem d_A_sweep_17 : decode c_A_sweep 17 = .ok (.ishr, 1) := by decide +kernel
theorem d_A_sweep_18 : decode c_A_sweep 18 = .ok (.iconst 1, 1) := by decide +kernel
theorem d_A_sweep_19 : decode c_A_sweep 19 = .ok (.iand, 1) := by decide +kernel
theorem d_A_sweep_20 : decode c_A_sweep 20 = .ok (.ifCond .ne 7, 3) := by decide +kernel
theorem d_A_sweep_23 : decode c_A_sweep 23 = .ok (.iconst (-1), 1) := by decide +kernel
theorem d_A_sweep_24 : decode c_A_sweep 24 = .ok (.goto 10, 3) := by decide +kernel
theorem d_A_sweep_27 : decode c_A_sweep 27 = .ok (.aload_n 1, 1) := by decide +kernel
theorem d_A_sweep_28 : decode c_A_sweep 28 = .ok (.iload_n 3, 1) := by decide +kernel
theorem d_A_sweep_29 : decode c_A_sweep 29 = .ok (.iload 4, 2) := by decide +kernel
theorem d_A_sweep_31 : decode c_A_sweep 31 = .ok (.invokevirtual 136, 3) := by decide +kernel
theorem d_A_sweep_34 : decode c_A_sweep 34 = .ok (.istore 5, 2) := by decide +kernel
theorem d_A_sweep_36 : decode c_A_sweep 36 = .ok (.iload 5, 2) := by decide +kernel
theorem d_A_sweep_38 : decode c_A_sweep 38 = .ok (.iconst (-1), 1) := by decide +kernel
theorem d_A_sweep_39 : decode c_A_sweep 39 = .ok (.if_icmp .eq 21, 3) := by decide +kernel
theorem d_A_sweep_42 : decode c_A_sweep 42 = .ok (.aload_n 1, 1) := by decide +kernel
theorem d_A_sweep_43 : decode c_A_sweep 43 = .ok (.iload_n 3, 1) := by decide +kernel
theorem d_A_sweep_44 : decode c_A_sweep 44 = .ok (.iload 5, 2) := by decide +kernel
theorem d_A_sweep_46 : decode c_A_sweep 46 = .ok (.invokevirtual 139, 3) := by decide +kernel
theorem d_A_sweep_49 : decode c_A_sweep 49 = .ok (.aload_n 0, 1) := by decide +kernel
theorem d_A_sweep_50 : decode c_A_sweep 50 = .ok (.aload_n 1, 1) := by decide +kernel
theorem d_A_sweep_51 : decode c_A_sweep 51 = .ok (.iload_n 3, 1) := by decide +kernel
theorem d_A_sweep_52 : decode c_A_sweep 52 = .ok (.iload 4, 2) := by decide +kernel
theorem d_A_sweep_54 : decode c_A_sweep 54 = .ok (.invokevirtual 84, 3) := by decide +kernel
theorem d_A_sweep_57 : decode c_A_sweep 57 = .ok (.iinc 3 1, 3) := by decide +kernel
theorem d_A_sweep_60 : decode c_A_sweep 60 = .ok (.iinc 4 1, 3) := by decide +kernel
theorem d_A_sweep_63 : decode c_A_sweep 63 = .ok (.goto (-58), 3) := by decide +kernel
theorem d_A_sweep_66 : decode c_A_sweep 66 = .ok (.iload_n 3, 1) := by decide +kernel
theorem d_A_sweep_67 : decode c_A_sweep 67 = .ok (.ireturn, 1) := by decide +kernel
theorem d_A_pivot_0 : decode c_A_pivot 0 = .ok (.aload_n 0, 1) := by decide +kernel
theorem d_A_pivot_1 : decode c_A_pivot 1 = .ok (.aload_n 1, 1) := by decide +kernel
theorem d_A_pivot_2 : decode c_A_pivot 2 = .ok (.invokevirtual 97, 3) := by decide +kernel
theorem d_A_pivot_5 : decode c_A_pivot 5 = .ok (.astore 4, 2) := by decide +kernel
theorem d_A_pivot_7 : decode c_A_pivot 7 = .ok (.aload 4, 2) := by decide +kernel
theorem d_A_pivot_9 : decode c_A_pivot 9 = .ok (.aload_n 1, 1) := by decide +kernel
theorem d_A_pivot_10 : decode c_A_pivot 10 = .ok (.iload_n 2, 1) := by decide +kernel
theorem d_A_pivot_11 : decode c_A_pivot 11 = .ok (.iload_n 3, 1) := by decide +kernel
theorem d_A_pivot_12 : decode c_A_pivot 12 = .ok (.invokevirtual 143, 3) := by decide +kernel
theorem d_A_pivot_15 : decode c_A_pivot 15 = .ok (.iconst 0, 1) := by decide +kernel
theorem d_A_pivot_16 : decode c_A_pivot 16 = .ok (.istore 5, 2) := by decide +kernel
theorem d_A_pivot_18 : decode c_A_pivot 18 = .ok (.iload 5, 2) := by decide +kernel
theorem d_A_pivot_20 : decode c_A_pivot 20 = .ok (.aload_n 1, 1) := by decide +kernel
theorem d_A_pivot_21 : decode c_A_pivot 21 = .ok (.getfield 73, 3) := by decide +kernel
theorem d_A_pivot_24 : decode c_A_pivot 24 = .ok (.if_icmp .ge 35, 3) := by decide +kernel
theorem d_A_pivot_27 : decode c_A_pivot 27 = .ok (.iload 5, 2) := by decide +kernel
theorem d_A_pivot_29 : decode c_A_pivot 29 = .ok (.iload_n 2, 1) := by decide +kernel
theorem d_A_pivot_30 : decode c_A_pivot 30 = .ok (.if_icmp .eq 23, 3) := by decide +kernel
theorem d_A_pivot_33 : decode c_A_pivot 33 = .ok (.aload_n 1, 1) := by decide +kernel
theorem d_A_pivot_34 : decode c_A_pivot 34 = .ok (.iload 5, 2) := by decide +kernel
theorem d_A_pivot_36 : decode c_A_pivot 36 = .ok (.iload_n 3, 1) := by decide +kernel
theorem d_A_pivot_37 : decode c_A_pivot 37 = .ok (.invokevirtual 76, 3) := by decide +kernel
theorem d_A_pivot_40 : decode c_A_pivot 40 = .ok (.ifCond .ne 13, 3) := by decide +kernel
theorem d_A_pivot_43 : decode c_A_pivot 43 = .ok (.aload 4, 2) := by decide +kernel
theorem d_A_pivot_45 : decode c_A_pivot 45 = .ok (.aload_n 1, 1) := by decide +kernel
theorem d_A_pivot_46 : decode c_A_pivot 46 = .ok (.iload 5, 2) := by decide +kernel
theorem d_A_pivot_48 : decode c_A_pivot 48 = .ok (.iload_n 2, 1) := by decide +kernel
theorem d_A_pivot_49 : decode c_A_pivot 49 = .ok (.iload_n 3, 1) := by decide +kernel
theorem d_A_pivot_50 : decode c_A_pivot 50 = .ok (.invokevirtual 146, 3) := by decide +kernel
theorem d_A_pivot_53 : decode c_A_pivot 53 = .ok (.iinc 5 1, 3) := by decide +kernel
theorem d_A_pivot_56 : decode c_A_pivot 56 = .ok (.goto (-38), 3) := by decide +kernel
theorem d_A_pivot_59 : decode c_A_pivot 59 = .ok (.aload_n 1, 1) := by decide +kernel
theorem d_A_pivot_60 : decode c_A_pivot 60 = .ok (.getfield 80, 3) := by decide +kernel
theorem d_A_pivot_63 : decode c_A_pivot 63 = .ok (.iload_n 2, 1) := by decide +kernel
theorem d_A_pivot_64 : decode c_A_pivot 64 = .ok (.iload_n 3, 1) := by decide +kernel
theorem d_A_pivot_65 : decode c_A_pivot 65 = .ok (.iastore, 1) := by decide +kernel
theorem d_A_pivot_66 : decode c_A_pivot 66 = .ok (.return_, 1) := by decide +kernel
theorem d_A_kindOf_0 : decode c_A_kindOf 0 = .ok (.aload_n 1, 1) := by decide +kernel
theorem d_A_kindOf_1 : decode c_A_kindOf 1 = .ok (.getfield 56, 3) := by decide +kernel
theorem d_A_kindOf_4 : decode c_A_kindOf 4 = .ok (.ifCond .ne 10, 3) := by decide +kernel
theorem d_A_kindOf_7 : decode c_A_kindOf 7 = .ok (.aload_n 0, 1) := by decide +kernel
theorem d_A_kindOf_8 : decode c_A_kindOf 8 = .ok (.getfield 23, 3) := by decide +kernel
theorem d_A_kindOf_11 : decode c_A_kindOf 11 = .ok (.goto 7, 3) := by decide +kernel
theorem d_A_kindOf_14 : decode c_A_kindOf 14 = .ok (.aload_n 0, 1) := by decide +kernel
theorem d_A_kindOf_15 : decode c_A_kindOf 15 = .ok (.getfield 30, 3) := by decide +kernel
theorem d_A_kindOf_18 : decode c_A_kindOf 18 = .ok (.areturn, 1) := by decide +kernel
theorem d_Q_lead_0 : decode c_Q_lead 0 = .ok (.iconst 0, 1) := by decide +kernel
theorem d_Q_lead_1 : decode c_Q_lead 1 = .ok (.istore 4, 2) := by decide +kernel
theorem d_Q_lead_3 : decode c_Q_lead 3 = .ok (.iload 4, 2) := by decide +kernel
theorem d_Q_lead_5 : decode c_Q_lead 5 = .ok (.aload_n 1, 1) := by decide +kernel
theorem d_Q_lead_6 : decode c_Q_lead 6 = .ok (.getfield 40, 3) := by decide +kernel
theorem d_Q_lead_9 : decode c_Q_lead 9 = .ok (.if_icmp .ge 23, 3) := by decide +kernel
theorem d_Q_lead_12 : decode c_Q_lead 12 = .ok (.aload_n 1, 1) := by decide +kernel
theorem d_Q_lead_13 : decode c_Q_lead 13 = .ok (.iload_n 2, 1) := by decide +kernel
theorem d_Q_lead_14 : decode c_Q_lead 14 = .ok (.iload 4, 2) := by decide +kernel
theorem d_Q_lead_16 : decode c_Q_lead 16 = .ok (.aload_n 0, 1) := by decide +kernel
theorem d_Q_lead_17 : decode c_Q_lead 17 = .ok (.getfield 11, 3) := by decide +kernel
theorem d_Q_lead_20 : decode c_Q_lead 20 = .ok (.iload 4, 2) := by decide +kernel
theorem d_Q_lead_22 : decode c_Q_lead 22 = .ok (.aaload, 1) := by decide +kernel
theorem d_Q_lead_23 : decode c_Q_lead 23 = .ok (.invokevirtual 46, 3) := by decide +kernel
theorem d_Q_lead_26 : decode c_Q_lead 26 = .ok (.iinc 4 1, 3) := by decide +kernel
theorem d_Q_lead_29 : decode c_Q_lead 29 = .ok (.goto (-26), 3) := by decide +kernel
theorem d_Q_lead_32 : decode c_Q_lead 32 = .ok (.aload_n 0, 1) := by decide +kernel
theorem d_Q_lead_33 : decode c_Q_lead 33 = .ok (.aload_n 1, 1) := by decide +kernel
theorem d_Q_lead_34 : decode c_Q_lead 34 = .ok (.getfield 40, 3) := by decide +kernel
theorem d_Q_lead_37 : decode c_Q_lead 37 = .ok (.invokevirtual 50, 3) := by decide +kernel
theorem d_Q_lead_40 : decode c_Q_lead 40 = .ok (.aload_n 0, 1) := by decide +kernel
theorem d_Q_lead_41 : decode c_Q_lead 41 = .ok (.aload_n 1, 1) := by decide +kernel
theorem d_Q_lead_42 : decode c_Q_lead 42 = .ok (.iload_n 2, 1) := by decide +kernel
theorem d_Q_lead_43 : decode c_Q_lead 43 = .ok (.invokevirtual 54, 3) := by decide +kernel
theorem d_Q_lead_46 : decode c_Q_lead 46 = .ok (.aload_n 1, 1) := by decide +kernel
theorem d_Q_lead_47 : decode c_Q_lead 47 = .ok (.iload_n 2, 1) := by decide +kernel
theorem d_Q_lead_48 : decode c_Q_lead 48 = .ok (.iload_n 3, 1) := by decide +kernel
theorem d_Q_lead_49 : decode c_Q_lead 49 = .ok (.invokevirtual 58, 3) := by decide +kernel
theorem d_Q_lead_52 : decode c_Q_lead 52 = .ok (.ifCond .ge 8, 3) := by decide +kernel
theorem d_Q_lead_55 : decode c_Q_lead 55 = .ok (.aload_n 1, 1) := by decide +kernel
theorem d_Q_lead_56 : decode c_Q_lead 56 = .ok (.iload_n 2, 1) := by decide +kernel
theorem d_Q_lead_57 : decode c_Q_lead 57 = .ok (.invokevirtual 62, 3) := by decide +kernel
theorem d_Q_lead_60 : decode c_Q_lead 60 = .ok (.return_, 1) := by decide +kernel
theorem d_Q_findCommon_0 : decode c_Q_findCommon 0 = .ok (.aload_n 0, 1) := by decide +kernel
theorem d_Q_findCommon_1 : decode c_Q_findCommon 1 = .ok (.getfield 34, 3) := by decide +kernel
theorem d_Q_findCommon_4 : decode c_Q_findCommon 4 = .ok (.invokevirtual 95, 3) := by decide +kernel
theorem d_Q_findCommon_7 : decode c_Q_findCommon 7 = .ok (.iconst 0, 1) := by decide +kernel
theorem d_Q_findCommon_8 : decode c_Q_findCommon 8 = .ok (.istore_n 2, 1) := by decide +kernel
theorem d_Q_findCommon_9 : decode c_Q_findCommon 9 = .ok (.iload_n 2, 1) := by decide +kernel
theorem d_Q_findCommon_10 : decode c_Q_findCommon 10 = .ok (.iload_n 1, 1) := by decide +kernel
theorem d_Q_findCommon_11 : decode c_Q_findCommon 11 = .ok (.if_icmp .ge 92, 3) := by decide +kernel
theorem d_Q_findCommon_14 : decode c_Q_findCommon 14 = .ok (.aload_n 0, 1) := by decide +kernel
theorem d_Q_findCommon_15 : decode c_Q_findCommon 15 = .ok (.getfield 34, 3) := by decide +kernel
theorem d_Q_findCommon_18 : decode c_Q_findCommon 18 = .ok (.invokevirtual 98, 3) := by decide +kernel
theorem d_Q_findCommon_21 : decode c_Q_findCommon 21 = .ok (.ifCond .ne 82, 3) := by decide +kernel
theorem d_Q_findCommon_24 : decode c_Q_findCommon 24 = .ok (.aload_n 0, 1) := by decide +kernel
theorem d_Q_findCommon_25 : decode c_Q_findCommon 25 = .ok (.getfield 37, 3) := by decide +kernel
theorem d_Q_findCommon_28 : decode c_Q_findCommon 28 = .ok (.aload_n 0, 1) := by decide +kernel
theorem d_Q_findCommon_29 : decode c_Q_findCommon 29 = .ok (.getfield 11, 3) := by decide +kernel
theorem d_Q_findCommon_32 : decode c_Q_findCommon 32 = .ok (.iload_n 2, 1) := by decide +kernel
theorem d_Q_findCommon_33 : decode c_Q_findCommon 33 = .ok (.aaload, 1) := by decide +kernel
theorem d_Q_findCommon_34 : decode c_Q_findCommon 34 = .ok (.invokevirtual 102, 3) := by decide +kernel
theorem d_Q_findCommon_37 : decode c_Q_findCommon 37 = .ok (.iconst 0, 1) := by decide +kernel
theorem d_Q_findCommon_38 : decode c_Q_findCommon 38 = .ok (.istore_n 3, 1) := by decide +kernel
theorem d_Q_findCommon_39 : decode c_Q_findCommon 39 = .ok (.iload_n 3, 1) := by decide +kernel
theorem d_Q_findCommon_40 : decode c_Q_findCommon 40 = .ok (.sipush 10000, 3) := by decide +kernel
theorem d_Q_findCommon_43 : decode c_Q_findCommon 43 = .ok (.if_icmp .ge 54, 3) := by decide +kernel
theorem d_Q_findCommon_46 : decode c_Q_findCommon 46 = .ok (.aload_n 0, 1) := by decide +kernel
theorem d_Q_findCommon_47 : decode c_Q_findCommon 47 = .ok (.getfield 37, 3) := by decide +kernel
theorem d_Q_findCommon_50 : decode c_Q_findCommon 50 = .ok (.getfield 105, 3) := by decide +kernel
theorem d_Q_findCommon_53 : decode c_Q_findCommon 53 = .ok (.ifCond .eq 44, 3) := by decide +kernel
theorem d_Q_findCommon_56 : decode c_Q_findCommon 56 = .ok (.aload_n 0, 1) := by decide +kernel
theorem d_Q_findCommon_57 : decode c_Q_findCommon 57 = .ok (.getfield 34, 3) := by decide +kernel
theorem d_Q_findCommon_60 : decode c_Q_findCommon 60 = .ok (.aload_n 0, 1) := by decide +kernel
theorem d_Q_findCommon_61 : decode c_Q_findCommon 61 = .ok (.getfield 37, 3) := by decide +kernel
theorem d_Q_findCommon_64 : decode c_Q_findCommon 64 = .ok (.aload_n 0, 1) := by decide +kernel
theorem d_Q_findCommon_65 : decode c_Q_findCommon 65 = .ok (.getfield 31, 3) := by decide +kernel
theorem d_Q_findCommon_68 : decode c_Q_findCommon 68 = .ok (.invokevirtual 108, 3) := by decide +kernel
theorem d_Q_findCommon_71 : decode c_Q_findCommon 71 = .ok (.aload_n 0, 1) := by decide +kernel
theorem d_Q_findCommon_72 : decode c_Q_findCommon 72 = .ok (.getfield 34, 3) := by decide +kernel
theorem d_Q_findCommon_75 : decode c_Q_findCommon 75 = .ok (.astore 4, 2) := by decide +kernel
theorem d_Q_findCommon_77 : decode c_Q_findCommon 77 = .ok (.aload_n 0, 1) := by decide +kernel
theorem d_Q_findCommon_78 : decode c_Q_findCommon 78 = .ok (.aload_n 0, 1) := by decide +kernel
theorem d_Q_findCommon_79 : decode c_Q_findCommon 79 = .ok (.getfield 37, 3) := by decide +kernel
theorem d_Q_findCommon_82 : decode c_Q_findCommon 82 = .ok (.putfield 34, 3) := by decide +kernel
theorem d_Q_findCommon_85 : decode c_Q_findCommon 85 = .ok (.aload_n 0, 1) := by decide +kernel
theorem d_Q_findCommon_86 : decode c_Q_findCommon 86 = .ok (.aload 4, 2) := by decide +kernel
theorem d_Q_findCommon_88 : decode c_Q_findCommon 88 = .ok (.putfield 37, 3) := by decide +kernel
theorem d_Q_findCommon_91 : decode c_Q_findCommon 91 = .ok (.iinc 3 1, 3) := by decide +kernel
theorem d_Q_findCommon_94 : decode c_Q_findCommon 94 = .ok (.goto (-55), 3) := by decide +kernel
theorem d_Q_findCommon_97 : decode c_Q_findCommon 97 = .ok (.iinc 2 1, 3) := by decide +kernel
theorem d_Q_findCommon_100 : decode c_Q_findCommon 100 = .ok (.goto (-91), 3) := by decide +kernel
theorem d_Q_findCommon_103 : decode c_Q_findCommon 103 = .ok (.return_, 1) := by decide +kernel
theorem d_JI_numberOfLeadingZeros_0 : decode c_JI_numberOfLeadingZeros 0 = .ok (.iload_n 0, 1) := by decide +kernel
theorem d_JI_numberOfLeadingZeros_1 : decode c_JI_numberOfLeadingZeros 1 = .ok (.ifCond .gt 14, 3) := by decide +kernel
theorem d_JI_numberOfLeadingZeros_4 : decode c_JI_numberOfLeadingZeros 4 = .ok (.iload_n 0, 1) := by decide +kernel
theorem d_JI_numberOfLeadingZeros_5 : decode c_JI_numberOfLeadingZeros 5 = .ok (.ifCond .ne 8, 3) := by decide +kernel
theorem d_JI_numberOfLeadingZeros_8 : decode c_JI_numberOfLeadingZeros 8 = .ok (.bipush 32, 2) := by decide +kernel
theorem d_JI_numberOfLeadingZeros_10 : decode c_JI_numberOfLeadingZeros 10 = .ok (.goto 4, 3) := by decide +kernel
theorem d_JI_numberOfLeadingZeros_13 : decode c_JI_numberOfLeadingZeros 13 = .ok (.iconst 0, 1) := by decide +kernel
theorem d_JI_numberOfLeadingZeros_14 : decode c_JI_numberOfLeadingZeros 14 = .ok (.ireturn, 1) := by decide +kernel
theorem d_JI_numberOfLeadingZeros_15 : decode c_JI_numberOfLeadingZeros 15 = .ok (.bipush 31, 2) := by decide +kernel
theorem d_JI_numberOfLeadingZeros_17 : decode c_JI_numberOfLeadingZeros 17 = .ok (.istore_n 1, 1) := by decide +kernel
theorem d_JI_numberOfLeadingZeros_18 : decode c_JI_numberOfLeadingZeros 18 = .ok (.iload_n 0, 1) := by decide +kernel
theorem d_JI_numberOfLeadingZeros_19 : decode c_JI_numberOfLeadingZeros 19 = .ok (.ldc_w 264, 3) := by decide +kernel
theorem d_JI_numberOfLeadingZeros_22 : decode c_JI_numberOfLeadingZeros 22 = .ok (.if_icmp .lt 11, 3) := by decide +kernel
theorem d_JI_numberOfLeadingZeros_25 : decode c_JI_numberOfLeadingZeros 25 = .ok (.iinc 1 (-16), 3) := by decide +kernel
theorem d_JI_numberOfLeadingZeros_28 : decode c_JI_numberOfLeadingZeros 28 = .ok (.iload_n 0, 1) := by decide +kernel
theorem d_JI_numberOfLeadingZeros_29 : decode c_JI_numberOfLeadingZeros 29 = .ok (.bipush 16, 2) := by decide +kernel
theorem d_JI_numberOfLeadingZeros_31 : decode c_JI_numberOfLeadingZeros 31 = .ok (.iushr, 1) := by decide +kernel
theorem d_JI_numberOfLeadingZeros_32 : decode c_JI_numberOfLeadingZeros 32 = .ok (.istore_n 0, 1) := by decide +kernel
theorem d_JI_numberOfLeadingZeros_33 : decode c_JI_numberOfLeadingZeros 33 = .ok (.iload_n 0, 1) := by decide +kernel
theorem d_JI_numberOfLeadingZeros_34 : decode c_JI_numberOfLeadingZeros 34 = .ok (.sipush 256, 3) := by decide +kernel
theorem d_JI_numberOfLeadingZeros_37 : decode c_JI_numberOfLeadingZeros 37 = .ok (.if_icmp .lt 11, 3) := by decide +kernel
theorem d_JI_numberOfLeadingZeros_40 : decode c_JI_numberOfLeadingZeros 40 = .ok (.iinc 1 (-8), 3) := by decide +kernel
theorem d_JI_numberOfLeadingZeros_43 : decode c_JI_numberOfLeadingZeros 43 = .ok (.iload_n 0, 1) := by decide +kernel
theorem d_JI_numberOfLeadingZeros_44 : decode c_JI_numberOfLeadingZeros 44 = .ok (.bipush 8, 2) := by decide +kernel
theorem d_JI_numberOfLeadingZeros_46 : decode c_JI_numberOfLeadingZeros 46 = .ok (.iushr, 1) := by decide +kernel
theorem d_JI_numberOfLeadingZeros_47 : decode c_JI_numberOfLeadingZeros 47 = .ok (.istore_n 0, 1) := by decide +kernel
theorem d_JI_numberOfLeadingZeros_48 : decode c_JI_numberOfLeadingZeros 48 = .ok (.iload_n 0, 1) := by decide +kernel
theorem d_JI_numberOfLeadingZeros_49 : decode c_JI_numberOfLeadingZeros 49 = .ok (.bipush 16, 2) := by decide +kernel
theorem d_JI_numberOfLeadingZeros_51 : decode c_JI_numberOfLeadingZeros 51 = .ok (.if_icmp .lt 10, 3) := by decide +kernel
theorem d_JI_numberOfLeadingZeros_54 : decode c_JI_numberOfLeadingZeros 54 = .ok (.iinc 1 (-4), 3) := by decide +kernel
theorem d_JI_numberOfLeadingZeros_57 : decode c_JI_numberOfLeadingZeros 57 = .ok (.iload_n 0, 1) := by decide +kernel
theorem d_JI_numberOfLeadingZeros_58 : decode c_JI_numberOfLeadingZeros 58 = .ok (.iconst 4, 1) := by decide +kernel
theorem d_JI_numberOfLeadingZeros_59 : decode c_JI_numberOfLeadingZeros 59 = .ok (.iushr, 1) := by decide +kernel
theorem d_JI_numberOfLeadingZeros_60 : decode c_JI_numberOfLeadingZeros 60 = .ok (.istore_n 0, 1) := by decide +kernel
theorem d_JI_numberOfLeadingZeros_61 : decode c_JI_numberOfLeadingZeros 61 = .ok (.iload_n 0, 1) := by decide +kernel
theorem d_JI_numberOfLeadingZeros_62 : decode c_JI_numberOfLeadingZeros 62 = .ok (.iconst 4, 1) := by decide +kernel
theorem d_JI_numberOfLeadingZeros_63 : decode c_JI_numberOfLeadingZeros 63 = .ok (.if_icmp .lt 10, 3) := by decide +kernel
theorem d_JI_numberOfLeadingZeros_66 : decode c_JI_numberOfLeadingZeros 66 = .ok (.iinc 1 (-2), 3) := by decide +kernel
theorem d_JI_numberOfLeadingZeros_69 : decode c_JI_numberOfLeadingZeros 69 = .ok (.iload_n 0, 1) := by decide +kernel
theorem d_JI_numberOfLeadingZeros_70 : decode c_JI_numberOfLeadingZeros 70 = .ok (.iconst 2, 1) := by decide +kernel
theorem d_JI_numberOfLeadingZeros_71 : decode c_JI_numberOfLeadingZeros 71 = .ok (.iushr, 1) := by decide +kernel
theorem d_JI_numberOfLeadingZeros_72 : decode c_JI_numberOfLeadingZeros 72 = .ok (.istore_n 0, 1) := by decide +kernel
theorem d_JI_numberOfLeadingZeros_73 : decode c_JI_numberOfLeadingZeros 73 = .ok (.iload_n 1, 1) := by decide +kernel
theorem d_JI_numberOfLeadingZeros_74 : decode c_JI_numberOfLeadingZeros 74 = .ok (.iload_n 0, 1) := by decide +kernel
theorem d_JI_numberOfLeadingZeros_75 : decode c_JI_numberOfLeadingZeros 75 = .ok (.iconst 1, 1) := by decide +kernel
theorem d_JI_numberOfLeadingZeros_76 : decode c_JI_numberOfLeadingZeros 76 = .ok (.iushr, 1) := by decide +kernel
theorem d_JI_numberOfLeadingZeros_77 : decode c_JI_numberOfLeadingZeros 77 = .ok (.isub, 1) := by decide +kernel
theorem d_JI_numberOfLeadingZeros_78 : decode c_JI_numberOfLeadingZeros 78 = .ok (.ireturn, 1) := by decide +kernel
theorem d_JM_max_0_0 : decode c_JM_max_0 0 = .ok (.lload_n 0, 1) := by decide +kernel
theorem d_JM_max_0_1 : decode c_JM_max_0 1 = .ok (.lload_n 2, 1) := by decide +kernel
theorem d_JM_max_0_2 : decode c_JM_max_0 2 = .ok (.lcmp, 1) := by decide +kernel
theorem d_JM_max_0_3 : decode c_JM_max_0 3 = .ok (.ifCond .lt 7, 3) := by decide +kernel
theorem d_JM_max_0_6 : decode c_JM_max_0 6 = .ok (.lload_n 0, 1) := by decide +kernel
theorem d_JM_max_0_7 : decode c_JM_max_0 7 = .ok (.goto 4, 3) := by decide +kernel
theorem d_JM_max_0_10 : decode c_JM_max_0 10 = .ok (.lload_n 2, 1) := by decide +kernel
theorem d_JM_max_0_11 : decode c_JM_max_0 11 = .ok (.lreturn, 1) := by decide +kernel
theorem d_JM_min_0_0 : decode c_JM_min_0 0 = .ok (.lload_n 0, 1) := by decide +kernel
theorem d_JM_min_0_1 : decode c_JM_min_0 1 = .ok (.lload_n 2, 1) := by decide +kernel
theorem d_JM_min_0_2 : decode c_JM_min_0 2 = .ok (.lcmp, 1) := by decide +kernel
theorem d_JM_min_0_3 : decode c_JM_min_0 3 = .ok (.ifCond .gt 7, 3) := by decide +kernel
theorem d_JM_min_0_6 : decode c_JM_min_0 6 = .ok (.lload_n 0, 1) := by decide +kernel
theorem d_JM_min_0_7 : decode c_JM_min_0 7 = .ok (.goto 4, 3) := by decide +kernel
theorem d_JM_min_0_10 : decode c_JM_min_0 10 = .ok (.lload_n 2, 1) := by decide +kernel
theorem d_JM_min_0_11 : decode c_JM_min_0 11 = .ok (.lreturn, 1) := by decide +kernel
theorem d_Q_storeLine_0 : decode c_Q_storeLine 0 = .ok (.iconst 0, 1) := by decide +kernel
theorem d_Q_storeLine_1 : decode c_Q_storeLine 1 = .ok (.istore_n 3, 1) := by decide +kernel
theorem d_Q_storeLine_2 : decode c_Q_storeLine 2 = .ok (.iload_n 3, 1) := by decide +kernel
theorem d_Q_storeLine_3 : decode c_Q_storeLine 3 = .ok (.aload_n 1, 1) := by decide +kernel
theorem d_Q_storeLine_4 : decode c_Q_storeLine 4 = .ok (.getfield 40, 3) := by decide +kernel
theorem d_Q_storeLine_7 : decode c_Q_storeLine 7 = .ok (.if_icmp .ge 61, 3) := by decide +kernel
theorem d_Q_storeLine_10 : decode c_Q_storeLine 10 = .ok (.aload_n 0, 1) := by decide +kernel
theorem d_Q_storeLine_11 : decode c_Q_storeLine 11 = .ok (.getfield 34, 3) := by decide +kernel
theorem d_Q_storeLine_14 : decode c_Q_storeLine 14 = .ok (.invokevirtual 98, 3) := by decide +kernel
theorem d_Q_storeLine_17 : decode c_Q_storeLine 17 = .ok (.ifCond .eq 18, 3) := by decide +kernel
theorem d_Q_storeLine_20 : decode c_Q_storeLine 20 = .ok (.aload_n 1, 1) := by decide +kernel
theorem d_Q_storeLine_21 : decode c_Q_storeLine 21 = .ok (.iload_n 2, 1) := by decide +kernel
theorem d_Q_storeLine_22 : decode c_Q_storeLine 22 = .ok (.iload_n 3, 1) := by decide +kernel
theorem d_Q_storeLine_23 : decode c_Q_storeLine 23 = .ok (.aload_n 0, 1) := by decide +kernel
theorem d_Q_storeLine_24 : decode c_Q_storeLine 24 = .ok (.getfield 11, 3) := by decide +kernel
theorem d_Q_storeLine_27 : decode c_Q_storeLine 27 = .ok (.iload_n 3, 1) := by decide +kernel
theorem d_Q_storeLine_28 : decode c_Q_storeLine 28 = .ok (.aaload, 1) := by decide +kernel
theorem d_Q_storeLine_29 : decode c_Q_storeLine 29 = .ok (.invokevirtual 111, 3) := by decide +kernel
theorem d_Q_storeLine_32 : decode c_Q_storeLine 32 = .ok (.goto 30, 3) := by decide +kernel
theorem d_Q_storeLine_35 : decode c_Q_storeLine 35 = .ok (.aload_n 0, 1) := by decide +kernel
theorem d_Q_storeLine_36 : decode c_Q_storeLine 36 = .ok (.getfield 11, 3) := by decide +kernel
theorem d_Q_storeLine_39 : decode c_Q_storeLine 39 = .ok (.iload_n 3, 1) := by decide +kernel
theorem d_Q_storeLine_40 : decode c_Q_storeLine 40 = .ok (.aaload, 1) := by decide +kernel
theorem d_Q_storeLine_41 : decode c_Q_storeLine 41 = .ok (.aload_n 0, 1) := by decide +kernel
theorem d_Q_storeLine_42 : decode c_Q_storeLine 42 = .ok (.getfield 34, 3) := by decide +kernel
theorem d_Q_storeLine_45 : decode c_Q_storeLine 45 = .ok (.aload_n 0, 1) := by decide +kernel
theorem d_Q_storeLine_46 : decode c_Q_storeLine 46 = .ok (.getfield 31, 3) := by decide +kernel
theorem d_Q_storeLine_49 : decode c_Q_storeLine 49 = .ok (.invokevirtual 108, 3) := by decide +kernel
theorem d_Q_storeLine_52 : decode c_Q_storeLine 52 = .ok (.aload_n 1, 1) := by decide +kernel
theorem d_Q_storeLine_53 : decode c_Q_storeLine 53 = .ok (.iload_n 2, 1) := by decide +kernel
theorem d_Q_storeLine_54 : decode c_Q_storeLine 54 = .ok (.iload_n 3, 1) := by decide +kernel
theorem d_Q_storeLine_55 : decode c_Q_storeLine 55 = .ok (.aload_n 0, 1) := by decide +kernel
theorem d_Q_storeLine_56 : decode c_Q_storeLine 56 = .ok (.getfield 31, 3) := by decide +kernel
theorem d_Q_storeLine_59 : decode c_Q_storeLine 59 = .ok (.invokevirtual 111, 3) := by decide +kernel
theorem d_Q_storeLine_62 : decode c_Q_storeLine 62 = .ok (.iinc 3 1, 3) := by decide +kernel
theorem d_Q_storeLine_65 : decode c_Q_storeLine 65 = .ok (.goto (-63), 3) := by decide +kernel
theorem d_Q_storeLine_68 : decode c_Q_storeLine 68 = .ok (.return_, 1) := by decide +kernel
theorem d_JM_min_1_0 : decode c_JM_min_1 0 = .ok (.iload_n 0, 1) := by decide +kernel
theorem d_JM_min_1_1 : decode c_JM_min_1 1 = .ok (.iload_n 1, 1) := by decide +kernel
theorem d_JM_min_1_2 : decode c_JM_min_1 2 = .ok (.if_icmp .gt 7, 3) := by decide +kernel
theorem d_JM_min_1_5 : decode c_JM_min_1 5 = .ok (.iload_n 0, 1) := by decide +kernel
theorem d_JM_min_1_6 : decode c_JM_min_1 6 = .ok (.goto 4, 3) := by decide +kernel
theorem d_JM_min_1_9 : decode c_JM_min_1 9 = .ok (.iload_n 1, 1) := by decide +kernel
theorem d_JM_min_1_10 : decode c_JM_min_1 10 = .ok (.ireturn, 1) := by decide +kernel
theorem d_P_lead_0 : decode c_P_lead 0 = .ok (.aload_n 1, 1) := by decide +kernel
theorem d_P_lead_1 : decode c_P_lead 1 = .ok (.iload_n 2, 1) := by decide +kernel
theorem d_P_lead_2 : decode c_P_lead 2 = .ok (.iload_n 3, 1) := by decide +kernel
theorem d_P_lead_3 : decode c_P_lead 3 = .ok (.invokevirtual 7, 3) := by decide +kernel
theorem d_P_lead_6 : decode c_P_lead 6 = .ok (.aload_n 1, 1) := by decide +kernel
theorem d_P_lead_7 : decode c_P_lead 7 = .ok (.getfield 13, 3) := by decide +kernel
theorem d_P_lead_10 : decode c_P_lead 10 = .ok (.invokestatic 17, 3) := by decide +kernel
theorem d_P_lead_13 : decode c_P_lead 13 = .ok (.istore 4, 2) := by decide +kernel
theorem d_P_lead_15 : decode c_P_lead 15 = .ok (.iconst 0, 1) := by decide +kernel
theorem d_P_lead_16 : decode c_P_lead 16 = .ok (.istore 5, 2) := by decide +kernel
theorem d_P_lead_18 : decode c_P_lead 18 = .ok (.iload 5, 2) := by decide +kernel
theorem d_P_lead_20 : decode c_P_lead 20 = .ok (.aload_n 1, 1) := by decide +kernel
theorem d_P_lead_21 : decode c_P_lead 21 = .ok (.getfield 22, 3) := by decide +kernel
theorem d_P_lead_24 : decode c_P_lead 24 = .ok (.if_icmp .ge 33, 3) := by decide +kernel
theorem d_P_lead_27 : decode c_P_lead 27 = .ok (.aload_n 1, 1) := by decide +kernel
theorem d_P_lead_28 : decode c_P_lead 28 = .ok (.iload_n 2, 1) := by decide +kernel
theorem d_P_lead_29 : decode c_P_lead 29 = .ok (.iload 5, 2) := by decide +kernel
theorem d_P_lead_31 : decode c_P_lead 31 = .ok (.iload 4, 2) := by decide +kernel
theorem d_P_lead_33 : decode c_P_lead 33 = .ok (.aload_n 1, 1) := by decide +kernel
theorem d_P_lead_34 : decode c_P_lead 34 = .ok (.iload_n 2, 1) := by decide +kernel
theorem d_P_lead_35 : decode c_P_lead 35 = .ok (.iload 5, 2) := by decide +kernel
theorem d_P_lead_37 : decode c_P_lead 37 = .ok (.invokevirtual 7, 3) := by decide +kernel
theorem d_P_lead_40 : decode c_P_lead 40 = .ok (.imul, 1) := by decide +kernel
theorem d_P_lead_41 : decode c_P_lead 41 = .ok (.aload_n 1, 1) := by decide +kernel
theorem d_P_lead_42 : decode c_P_lead 42 = .ok (.getfield 13, 3) := by decide +kernel
theorem d_P_lead_45 : decode c_P_lead 45 = .ok (.invokestatic 25, 3) := by decide +kernel
theorem d_P_lead_48 : decode c_P_lead 48 = .ok (.invokevirtual 30, 3) := by decide +kernel
theorem d_P_lead_51 : decode c_P_lead 51 = .ok (.iinc 5 1, 3) := by decide +kernel
theorem d_P_lead_54 : decode c_P_lead 54 = .ok (.goto (-36), 3) := by decide +kernel
theorem d_P_lead_57 : decode c_P_lead 57 = .ok (.return_, 1) := by decide +kernel
theorem d_P_inverse_0 : decode c_P_inverse 0 = .ok (.iconst 1, 1) := by decide +kernel
theorem d_P_inverse_1 : decode c_P_inverse 1 = .ok (.istore_n 2, 1) := by decide +kernel
theorem d_P_inverse_2 : decode c_P_inverse 2 = .ok (.iload_n 2, 1) := by decide +kernel
theorem d_P_inverse_3 : decode c_P_inverse 3 = .ok (.iload_n 1, 1) := by decide +kernel
theorem d_P_inverse_4 : decode c_P_inverse 4 = .ok (.if_icmp .ge 20, 3) := by decide +kernel
theorem d_P_inverse_7 : decode c_P_inverse 7 = .ok (.iload_n 2, 1) := by decide +kernel
theorem d_P_inverse_8 : decode c_P_inverse 8 = .ok (.iload_n 0, 1) := by decide +kernel
theorem d_P_inverse_9 : decode c_P_inverse 9 = .ok (.imul, 1) := by decide +kernel
theorem d_P_inverse_10 : decode c_P_inverse 10 = .ok (.iload_n 1, 1) := by decide +kernel
theorem d_P_inverse_11 : decode c_P_inverse 11 = .ok (.irem, 1) := by decide +kernel
theorem d_P_inverse_12 : decode c_P_inverse 12 = .ok (.iconst 1, 1) := by decide +kernel
theorem d_P_inverse_13 : decode c_P_inverse 13 = .ok (.if_icmp .ne 5, 3) := by decide +kernel
theorem d_P_inverse_16 : decode c_P_inverse 16 = .ok (.iload_n 2, 1) := by decide +kernel
theorem d_P_inverse_17 : decode c_P_inverse 17 = .ok (.ireturn, 1) := by decide +kernel
theorem d_P_inverse_18 : decode c_P_inverse 18 = .ok (.iinc 2 1, 3) := by decide +kernel
theorem d_P_inverse_21 : decode c_P_inverse 21 = .ok (.goto (-19), 3) := by decide +kernel
theorem d_P_inverse_24 : decode c_P_inverse 24 = .ok (.iconst 1, 1) := by decide +kernel
theorem d_P_inverse_25 : decode c_P_inverse 25 = .ok (.ireturn, 1) := by decide +kernel
theorem d_Q_clear_0 : decode c_Q_clear 0 = .ok (.aload_n 1, 1) := by decide +kernel
theorem d_Q_clear_1 : decode c_Q_clear 1 = .ok (.iload_n 3, 1) := by decide +kernel
theorem d_Q_clear_2 : decode c_Q_clear 2 = .ok (.iload 4, 2) := by decide +kernel
theorem d_Q_clear_4 : decode c_Q_clear 4 = .ok (.aload_n 0, 1) := by decide +kernel
theorem d_Q_clear_5 : decode c_Q_clear 5 = .ok (.getfield 25, 3) := by decide +kernel
theorem d_Q_clear_8 : decode c_Q_clear 8 = .ok (.invokevirtual 46, 3) := by decide +kernel
theorem d_Q_clear_11 : decode c_Q_clear 11 = .ok (.aload_n 1, 1) := by decide +kernel
theorem d_Q_clear_12 : decode c_Q_clear 12 = .ok (.iload_n 2, 1) := by decide +kernel
theorem d_Q_clear_13 : decode c_Q_clear 13 = .ok (.iload 4, 2) := by decide +kernel
theorem d_Q_clear_15 : decode c_Q_clear 15 = .ok (.aload_n 0, 1) := by decide +kernel
theorem d_Q_clear_16 : decode c_Q_clear 16 = .ok (.getfield 28, 3) := by decide +kernel
theorem d_Q_clear_19 : decode c_Q_clear 19 = .ok (.invokevirtual 46, 3) := by decide +kernel
theorem d_Q_clear_22 : decode c_Q_clear 22 = .ok (.iconst 0, 1) := by decide +kernel
theorem d_Q_clear_23 : decode c_Q_clear 23 = .ok (.istore 5, 2) := by decide +kernel
theorem d_Q_clear_25 : decode c_Q_clear 25 = .ok (.iload 5, 2) := by decide +kernel
theorem d_Q_clear_27 : decode c_Q_clear 27 = .ok (.aload_n 1, 1) := by decide +kernel
theorem d_Q_clear_28 : decode c_Q_clear 28 = .ok (.getfield 40, 3) := by decide +kernel
theorem d_Q_clear_31 : decode c_Q_clear 31 = .ok (.if_icmp .ge 78, 3) := by decide +kernel
theorem d_Q_clear_34 : decode c_Q_clear 34 = .ok (.aload_n 1, 1) := by decide +kernel
theorem d_Q_clear_35 : decode c_Q_clear 35 = .ok (.iload_n 2, 1) := by decide +kernel
theorem d_Q_clear_36 : decode c_Q_clear 36 = .ok (.iload 5, 2) := by decide +kernel
theorem d_Q_clear_38 : decode c_Q_clear 38 = .ok (.aload_n 0, 1) := by decide +kernel
theorem d_Q_clear_39 : decode c_Q_clear 39 = .ok (.getfield 18, 3) := by decide +kernel
theorem d_Q_clear_42 : decode c_Q_clear 42 = .ok (.invokevirtual 46, 3) := by decide +kernel
theorem d_Q_clear_45 : decode c_Q_clear 45 = .ok (.aload_n 0, 1) := by decide +kernel
theorem d_Q_clear_46 : decode c_Q_clear 46 = .ok (.getfield 11, 3) := by decide +kernel
theorem d_Q_clear_49 : decode c_Q_clear 49 = .ok (.iload 5, 2) := by decide +kernel
theorem d_Q_clear_51 : decode c_Q_clear 51 = .ok (.aaload, 1) := by decide +kernel
theorem d_Q_clear_52 : decode c_Q_clear 52 = .ok (.aload_n 0, 1) := by decide +kernel
theorem d_Q_clear_53 : decode c_Q_clear 53 = .ok (.getfield 18, 3) := by decide +kernel
theorem d_Q_clear_56 : decode c_Q_clear 56 = .ok (.aload_n 0, 1) := by decide +kernel
theorem d_Q_clear_57 : decode c_Q_clear 57 = .ok (.getfield 25, 3) := by decide +kernel
theorem d_Q_clear_60 : decode c_Q_clear 60 = .ok (.invokevirtual 65, 3) := by decide +kernel
theorem d_Q_clear_63 : decode c_Q_clear 63 = .ok (.aload_n 1, 1) := by decide +kernel
theorem d_Q_clear_64 : decode c_Q_clear 64 = .ok (.iload_n 3, 1) := by decide +kernel
theorem d_Q_clear_65 : decode c_Q_clear 65 = .ok (.iload 5, 2) := by decide +kernel
theorem d_Q_clear_67 : decode c_Q_clear 67 = .ok (.aload_n 0, 1) := by decide +kernel
theorem d_Q_clear_68 : decode c_Q_clear 68 = .ok (.getfield 18, 3) := by decide +kernel
theorem d_Q_clear_71 : decode c_Q_clear 71 = .ok (.invokevirtual 46, 3) := by decide +kernel
theorem d_Q_clear_74 : decode c_Q_clear 74 = .ok (.aload_n 0, 1) := by decide +kernel
theorem d_Q_clear_75 : decode c_Q_clear 75 = .ok (.getfield 22, 3) := by decide +kernel
theorem d_Q_clear_78 : decode c_Q_clear 78 = .ok (.aload_n 0, 1) := by decide +kernel
theorem d_Q_clear_79 : decode c_Q_clear 79 = .ok (.getfield 18, 3) := by decide +kernel
theorem d_Q_clear_82 : decode c_Q_clear 82 = .ok (.aload_n 0, 1) := by decide +kernel
theorem d_Q_clear_83 : decode c_Q_clear 83 = .ok (.getfield 28, 3) := by decide +kernel
theorem d_Q_clear_86 : decode c_Q_clear 86 = .ok (.invokevirtual 65, 3) := by decide +kernel
theorem d_Q_clear_89 : decode c_Q_clear 89 = .ok (.aload_n 0, 1) := by decide +kernel
theorem d_Q_clear_90 : decode c_Q_clear 90 = .ok (.getfield 11, 3) := by decide +kernel
theorem d_Q_clear_93 : decode c_Q_clear 93 = .ok (.iload 5, 2) := by decide +kernel
theorem d_Q_clear_95 : decode c_Q_clear 95 = .ok (.aaload, 1) := by decide +kernel
theorem d_Q_clear_96 : decode c_Q_clear 96 = .ok (.aload_n 0, 1) := by decide +kernel
theorem d_Q_clear_97 : decode c_Q_clear 97 = .ok (.getfield 22, 3) := by decide +kernel
theorem d_Q_clear_100 : decode c_Q_clear 100 = .ok (.invokevirtual 69, 3) := by decide +kernel
theorem d_Q_clear_103 : decode c_Q_clear 103 = .ok (.iinc 5 1, 3) := by decide +kernel
theorem d_Q_clear_106 : decode c_Q_clear 106 = .ok (.goto (-81), 3) := by decide +kernel
theorem d_Q_clear_109 : decode c_Q_clear 109 = .ok (.aload_n 0, 1) := by decide +kernel
theorem d_Q_clear_110 : decode c_Q_clear 110 = .ok (.aload_n 1, 1) := by decide +kernel
theorem d_Q_clear_111 : decode c_Q_clear 111 = .ok (.getfield 40, 3) := by decide +kernel
theorem d_Q_clear_114 : decode c_Q_clear 114 = .ok (.invokevirtual 50, 3) := by decide +kernel
theorem d_Q_clear_117 : decode c_Q_clear 117 = .ok (.aload_n 0, 1) := by decide +kernel
theorem d_Q_clear_118 : decode c_Q_clear 118 = .ok (.aload_n 1, 1) := by decide +kernel
theorem d_Q_clear_119 : decode c_Q_clear 119 = .ok (.iload_n 2, 1) := by decide +kernel
theorem d_Q_clear_120 : decode c_Q_clear 120 = .ok (.invokevirtual 54, 3) := by decide +kernel
theorem d_Q_clear_123 : decode c_Q_clear 123 = .ok (.return_, 1) := by decide +kernel
theorem d_JA_fill_1_0 : decode c_JA_fill_1 0 = .ok (.aload_n 0, 1) := by decide +kernel
theorem d_JA_fill_1_1 : decode c_JA_fill_1 1 = .ok (.arraylength, 1) := by decide +kernel
theorem d_JA_fill_1_2 : decode c_JA_fill_1 2 = .ok (.iload_n 1, 1) := by decide +kernel
theorem d_JA_fill_1_3 : decode c_JA_fill_1 3 = .ok (.iload_n 2, 1) := by decide +kernel
theorem d_JA_fill_1_4 : decode c_JA_fill_1 4 = .ok (.invokestatic 13, 3) := by decide +kernel
theorem d_JA_fill_1_7 : decode c_JA_fill_1 7 = .ok (.iload_n 1, 1) := by decide +kernel
theorem d_JA_fill_1_8 : decode c_JA_fill_1 8 = .ok (.istore 4, 2) := by decide +kernel
theorem d_JA_fill_1_10 : decode c_JA_fill_1 10 = .ok (.iload 4, 2) := by decide +kernel
theorem d_JA_fill_1_12 : decode c_JA_fill_1 12 = .ok (.iload_n 2, 1) := by decide +kernel
theorem d_JA_fill_1_13 : decode c_JA_fill_1 13 = .ok (.if_icmp .ge 14, 3) := by decide +kernel
theorem d_JA_fill_1_16 : decode c_JA_fill_1 16 = .ok (.aload_n 0, 1) := by decide +kernel
theorem d_JA_fill_1_17 : decode c_JA_fill_1 17 = .ok (.iload 4, 2) := by decide +kernel
theorem d_JA_fill_1_19 : decode c_JA_fill_1 19 = .ok (.iload_n 3, 1) := by decide +kernel
theorem d_JA_fill_1_20 : decode c_JA_fill_1 20 = .ok (.iastore, 1) := by decide +kernel
theorem d_JA_fill_1_21 : decode c_JA_fill_1 21 = .ok (.iinc 4 1, 3) := by decide +kernel
theorem d_JA_fill_1_24 : decode c_JA_fill_1 24 = .ok (.goto (-14), 3) := by decide +kernel
theorem d_JA_fill_1_27 : decode c_JA_fill_1 27 = .ok (.return_, 1) := by decide +kernel
theorem d_JA_rangeCheck_0 : decode c_JA_rangeCheck 0 = .ok (.iload_n 1, 1) := by decide +kernel
theorem d_JA_rangeCheck_1 : decode c_JA_rangeCheck 1 = .ok (.iload_n 2, 1) := by decide +kernel
theorem d_JA_rangeCheck_2 : decode c_JA_rangeCheck 2 = .ok (.if_icmp .le 44, 3) := by decide +kernel
theorem d_JA_rangeCheck_5 : decode c_JA_rangeCheck 5 = .ok (.new 43, 3) := by decide +kernel
theorem d_JA_rangeCheck_8 : decode c_JA_rangeCheck 8 = .ok (.dup, 1) := by decide +kernel
theorem d_JA_rangeCheck_9 : decode c_JA_rangeCheck 9 = .ok (.new 45, 3) := by decide +kernel
theorem d_JA_rangeCheck_12 : decode c_JA_rangeCheck 12 = .ok (.dup, 1) := by decide +kernel
theorem d_JA_rangeCheck_13 : decode c_JA_rangeCheck 13 = .ok (.invokespecial 47, 3) := by decide +kernel
theorem d_JA_rangeCheck_16 : decode c_JA_rangeCheck 16 = .ok (.ldc 48, 2) := by decide +kernel
theorem d_JA_rangeCheck_18 : decode c_JA_rangeCheck 18 = .ok (.invokevirtual 50, 3) := by decide +kernel
theorem d_JA_rangeCheck_21 : decode c_JA_rangeCheck 21 = .ok (.iload_n 1, 1) := by decide +kernel
theorem d_JA_rangeCheck_22 : decode c_JA_rangeCheck 22 = .ok (.invokevirtual 54, 3) := by decide +kernel
theorem d_JA_rangeCheck_25 : decode c_JA_rangeCheck 25 = .ok (.ldc 57, 2) := by decide +kernel
theorem d_JA_rangeCheck_27 : decode c_JA_rangeCheck 27 = .ok (.invokevirtual 50, 3) := by decide +kernel
theorem d_JA_rangeCheck_30 : decode c_JA_rangeCheck 30 = .ok (.iload_n 2, 1) := by decide +kernel
theorem d_JA_rangeCheck_31 : decode c_JA_rangeCheck 31 = .ok (.invokevirtual 54, 3) := by decide +kernel
theorem d_JA_rangeCheck_34 : decode c_JA_rangeCheck 34 = .ok (.ldc 59, 2) := by decide +kernel
theorem d_JA_rangeCheck_36 : decode c_JA_rangeCheck 36 = .ok (.invokevirtual 50, 3) := by decide +kernel
theorem d_JA_rangeCheck_39 : decode c_JA_rangeCheck 39 = .ok (.invokevirtual 61, 3) := by decide +kernel
theorem d_JA_rangeCheck_42 : decode c_JA_rangeCheck 42 = .ok (.invokespecial 65, 3) := by decide +kernel
theorem d_JA_rangeCheck_45 : decode c_JA_rangeCheck 45 = .ok (.athrow, 1) := by decide +kernel
theorem d_JA_rangeCheck_46 : decode c_JA_rangeCheck 46 = .ok (.iload_n 1, 1) := by decide +kernel
theorem d_JA_rangeCheck_47 : decode c_JA_rangeCheck 47 = .ok (.ifCond .ge 12, 3) := by decide +kernel
theorem d_JA_rangeCheck_50 : decode c_JA_rangeCheck 50 = .ok (.new 68, 3) := by decide +kernel
theorem d_JA_rangeCheck_53 : decode c_JA_rangeCheck 53 = .ok (.dup, 1) := by decide +kernel
theorem d_JA_rangeCheck_54 : decode c_JA_rangeCheck 54 = .ok (.iload_n 1, 1) := by decide +kernel
theorem d_JA_rangeCheck_55 : decode c_JA_rangeCheck 55 = .ok (.invokespecial 70, 3) := by decide +kernel
theorem d_JA_rangeCheck_58 : decode c_JA_rangeCheck 58 = .ok (.athrow, 1) := by decide +kernel
theorem d_JA_rangeCheck_59 : decode c_JA_rangeCheck 59 = .ok (.iload_n 2, 1) := by decide +kernel
theorem d_JA_rangeCheck_60 : decode c_JA_rangeCheck 60 = .ok (.iload_n 0, 1) := by decide +kernel
theorem d_JA_rangeCheck_61 : decode c_JA_rangeCheck 61 = .ok (.if_icmp .le 12, 3) := by decide +kernel
theorem d_JA_rangeCheck_64 : decode c_JA_rangeCheck 64 = .ok (.new 68, 3) := by decide +kernel
theorem d_JA_rangeCheck_67 : decode c_JA_rangeCheck 67 = .ok (.dup, 1) := by decide +kernel
theorem d_JA_rangeCheck_68 : decode c_JA_rangeCheck 68 = .ok (.iload_n 2, 1) := by decide +kernel
theorem d_JA_rangeCheck_69 : decode c_JA_rangeCheck 69 = .ok (.invokespecial 70, 3) := by decide +kernel
theorem d_JA_rangeCheck_72 : decode c_JA_rangeCheck 72 = .ok (.athrow, 1) := by decide +kernel
theorem d_JA_rangeCheck_73 : decode c_JA_rangeCheck 73 = .ok (.return_, 1) := by decide +kernel
theorem d_JM_max_1_0 : decode c_JM_max_1 0 = .ok (.iload_n 0, 1) := by decide +kernel
theorem d_JM_max_1_1 : decode c_JM_max_1 1 = .ok (.iload_n 1, 1) := by decide +kernel
theorem d_JM_max_1_2 : decode c_JM_max_1 2 = .ok (.if_icmp .lt 7, 3) := by decide +kernel
theorem d_JM_max_1_5 : decode c_JM_max_1 5 = .ok (.iload_n 0, 1) := by decide +kernel
theorem d_JM_max_1_6 : decode c_JM_max_1 6 = .ok (.goto 4, 3) := by decide +kernel
theorem d_JM_max_1_9 : decode c_JM_max_1 9 = .ok (.iload_n 1, 1) := by decide +kernel
theorem d_JM_max_1_10 : decode c_JM_max_1 10 = .ok (.ireturn, 1) := by decide +kernel
theorem d_JI_compare_0 : decode c_JI_compare 0 = .ok (.iload_n 0, 1) := by decide +kernel
theorem d_JI_compare_1 : decode c_JI_compare 1 = .ok (.iload_n 1, 1) := by decide +kernel
theorem d_JI_compare_2 : decode c_JI_compare 2 = .ok (.if_icmp .ge 7, 3) := by decide +kernel
theorem d_JI_compare_5 : decode c_JI_compare 5 = .ok (.iconst (-1), 1) := by decide +kernel
theorem d_JI_compare_6 : decode c_JI_compare 6 = .ok (.goto 13, 3) := by decide +kernel
theorem d_JI_compare_9 : decode c_JI_compare 9 = .ok (.iload_n 0, 1) := by decide +kernel
theorem d_JI_compare_10 : decode c_JI_compare 10 = .ok (.iload_n 1, 1) := by decide +kernel
theorem d_JI_compare_11 : decode c_JI_compare 11 = .ok (.if_icmp .ne 7, 3) := by decide +kernel
theorem d_JI_compare_14 : decode c_JI_compare 14 = .ok (.iconst 0, 1) := by decide +kernel
theorem d_JI_compare_15 : decode c_JI_compare 15 = .ok (.goto 4, 3) := by decide +kernel
theorem d_JI_compare_18 : decode c_JI_compare 18 = .ok (.iconst 1, 1) := by decide +kernel
theorem d_JI_compare_19 : decode c_JI_compare 19 = .ok (.ireturn, 1) := by decide +kernel
theorem d_P_clear_0 : decode c_P_clear 0 = .ok (.aload_n 1, 1) := by decide +kernel
theorem d_P_clear_1 : decode c_P_clear 1 = .ok (.iload_n 2, 1) := by decide +kernel
theorem d_P_clear_2 : decode c_P_clear 2 = .ok (.iload 4, 2) := by decide +kernel
theorem d_P_clear_4 : decode c_P_clear 4 = .ok (.invokevirtual 7, 3) := by decide +kernel
theorem d_P_clear_7 : decode c_P_clear 7 = .ok (.istore 5, 2) := by decide +kernel
theorem d_P_clear_9 : decode c_P_clear 9 = .ok (.iconst 0, 1) := by decide +kernel
theorem d_P_clear_10 : decode c_P_clear 10 = .ok (.istore 6, 2) := by decide +kernel
theorem d_P_clear_12 : decode c_P_clear 12 = .ok (.iload 6, 2) := by decide +kernel
theorem d_P_clear_14 : decode c_P_clear 14 = .ok (.aload_n 1, 1) := by decide +kernel
theorem d_P_clear_15 : decode c_P_clear 15 = .ok (.getfield 22, 3) := by decide +kernel
theorem d_P_clear_18 : decode c_P_clear 18 = .ok (.if_icmp .ge 45, 3) := by decide +kernel
theorem d_P_clear_21 : decode c_P_clear 21 = .ok (.aload_n 1, 1) := by decide +kernel
theorem d_P_clear_22 : decode c_P_clear 22 = .ok (.iload_n 2, 1) := by decide +kernel
theorem d_P_clear_23 : decode c_P_clear 23 = .ok (.iload 6, 2) := by decide +kernel
theorem d_P_clear_25 : decode c_P_clear 25 = .ok (.invokevirtual 7, 3) := by decide +kernel
theorem d_P_clear_28 : decode c_P_clear 28 = .ok (.iload 5, 2) := by decide +kernel
theorem d_P_clear_30 : decode c_P_clear 30 = .ok (.aload_n 1, 1) := by decide +kernel
theorem d_P_clear_31 : decode c_P_clear 31 = .ok (.iload_n 3, 1) := by decide +kernel
theorem d_P_clear_32 : decode c_P_clear 32 = .ok (.iload 6, 2) := by decide +kernel
theorem d_P_clear_34 : decode c_P_clear 34 = .ok (.invokevirtual 7, 3) := by decide +kernel
theorem d_P_clear_37 : decode c_P_clear 37 = .ok (.imul, 1) := by decide +kernel
theorem d_P_clear_38 : decode c_P_clear 38 = .ok (.isub, 1) := by decide +kernel
theorem d_P_clear_39 : decode c_P_clear 39 = .ok (.istore 7, 2) := by decide +kernel
theorem d_P_clear_41 : decode c_P_clear 41 = .ok (.aload_n 1, 1) := by decide +kernel
theorem d_P_clear_42 : decode c_P_clear 42 = .ok (.iload_n 2, 1) := by decide +kernel
theorem d_P_clear_43 : decode c_P_clear 43 = .ok (.iload 6, 2) := by decide +kernel
theorem d_P_clear_45 : decode c_P_clear 45 = .ok (.iload 7, 2) := by decide +kernel
theorem d_P_clear_47 : decode c_P_clear 47 = .ok (.aload_n 1, 1) := by decide +kernel
theorem d_P_clear_48 : decode c_P_clear 48 = .ok (.getfield 13, 3) := by decide +kernel
theorem d_P_clear_51 : decode c_P_clear 51 = .ok (.invokestatic 25, 3) := by decide +kernel
theorem d_P_clear_54 : decode c_P_clear 54 = .ok (.invokevirtual 30, 3) := by decide +kernel
theorem d_P_clear_57 : decode c_P_clear 57 = .ok (.iinc 6 1, 3) := by decide +kernel
theorem d_P_clear_60 : decode c_P_clear 60 = .ok (.goto (-48), 3) := by decide +kernel
theorem d_P_clear_63 : decode c_P_clear 63 = .ok (.return_, 1) := by decide +kernel
theorem d_A_turn_0 : decode c_A_turn 0 = .ok (.aload_n 0, 1) := by decide +kernel
theorem d_A_turn_1 : decode c_A_turn 1 = .ok (.iload_n 1, 1) := by decide +kernel
theorem d_A_turn_2 : decode c_A_turn 2 = .ok (.iload_n 2, 1) := by decide +kernel
theorem d_A_turn_3 : decode c_A_turn 3 = .ok (.iload_n 3, 1) := by decide +kernel
theorem d_A_turn_4 : decode c_A_turn 4 = .ok (.invokevirtual 48, 3) := by decide +kernel
theorem d_A_turn_7 : decode c_A_turn 7 = .ok (.ifCond .eq 29, 3) := by decide +kernel
theorem d_A_turn_10 : decode c_A_turn 10 = .ok (.aload_n 0, 1) := by decide +kernel
theorem d_A_turn_11 : decode c_A_turn 11 = .ok (.getfield 11, 3) := by decide +kernel
theorem d_A_turn_14 : decode c_A_turn 14 = .ok (.iload_n 1, 1) := by decide +kernel
theorem d_A_turn_15 : decode c_A_turn 15 = .ok (.aaload, 1) := by decide +kernel
theorem d_A_turn_16 : decode c_A_turn 16 = .ok (.getfield 52, 3) := by decide +kernel
theorem d_A_turn_19 : decode c_A_turn 19 = .ok (.ifCond .eq 17, 3) := by decide +kernel
theorem d_A_turn_22 : decode c_A_turn 22 = .ok (.aload_n 0, 1) := by decide +kernel
theorem d_A_turn_23 : decode c_A_turn 23 = .ok (.getfield 11, 3) := by decide +kernel
theorem d_A_turn_26 : decode c_A_turn 26 = .ok (.iload_n 1, 1) := by decide +kernel
theorem d_A_turn_27 : decode c_A_turn 27 = .ok (.aaload, 1) := by decide +kernel
theorem d_A_turn_28 : decode c_A_turn 28 = .ok (.iload_n 2, 1) := by decide +kernel
theorem d_A_turn_29 : decode c_A_turn 29 = .ok (.iload_n 3, 1) := by decide +kernel
theorem d_A_turn_30 : decode c_A_turn 30 = .ok (.invokevirtual 76, 3) := by decide +kernel
theorem d_A_turn_33 : decode c_A_turn 33 = .ok (.ifCond .eq 5, 3) := by decide +kernel
theorem d_A_turn_36 : decode c_A_turn 36 = .ok (.iconst (-1), 1) := by decide +kernel
theorem d_A_turn_37 : decode c_A_turn 37 = .ok (.ireturn, 1) := by decide +kernel
theorem d_A_turn_38 : decode c_A_turn 38 = .ok (.aload_n 0, 1) := by decide +kernel
theorem d_A_turn_39 : decode c_A_turn 39 = .ok (.getfield 11, 3) := by decide +kernel
theorem d_A_turn_42 : decode c_A_turn 42 = .ok (.iload_n 1, 1) := by decide +kernel
theorem d_A_turn_43 : decode c_A_turn 43 = .ok (.aaload, 1) := by decide +kernel
theorem d_A_turn_44 : decode c_A_turn 44 = .ok (.getfield 80, 3) := by decide +kernel
theorem d_A_turn_47 : decode c_A_turn 47 = .ok (.iload_n 2, 1) := by decide +kernel
theorem d_A_turn_48 : decode c_A_turn 48 = .ok (.iaload, 1) := by decide +kernel
theorem d_A_turn_49 : decode c_A_turn 49 = .ok (.istore 4, 2) := by decide +kernel
theorem d_A_turn_51 : decode c_A_turn 51 = .ok (.aload_n 0, 1) := by decide +kernel
theorem d_A_turn_52 : decode c_A_turn 52 = .ok (.aload_n 0, 1) := by decide +kernel
theorem d_A_turn_53 : decode c_A_turn 53 = .ok (.getfield 11, 3) := by decide +kernel
theorem d_A_turn_56 : decode c_A_turn 56 = .ok (.iload_n 1, 1) := by decide +kernel
theorem d_A_turn_57 : decode c_A_turn 57 = .ok (.aaload, 1) := by decide +kernel
theorem d_A_turn_58 : decode c_A_turn 58 = .ok (.iload_n 2, 1) := by decide +kernel
theorem d_A_turn_59 : decode c_A_turn 59 = .ok (.iload_n 3, 1) := by decide +kernel
theorem d_A_turn_60 : decode c_A_turn 60 = .ok (.invokevirtual 84, 3) := by decide +kernel
theorem d_A_turn_63 : decode c_A_turn 63 = .ok (.iload 4, 2) := by decide +kernel
theorem d_A_turn_65 : decode c_A_turn 65 = .ok (.ireturn, 1) := by decide +kernel
theorem d_A_dual_0 : decode c_A_dual 0 = .ok (.iload_n 1, 1) := by decide +kernel
theorem d_A_dual_1 : decode c_A_dual 1 = .ok (.invokestatic 34, 3) := by decide +kernel
theorem d_A_dual_4 : decode c_A_dual 4 = .ok (.ifCond .eq 11, 3) := by decide +kernel
theorem d_A_dual_7 : decode c_A_dual 7 = .ok (.aload_n 0, 1) := by decide +kernel
theorem d_A_dual_8 : decode c_A_dual 8 = .ok (.iload_n 2, 1) := by decide +kernel
theorem d_A_dual_9 : decode c_A_dual 9 = .ok (.invokevirtual 88, 3) := by decide +kernel
theorem d_A_dual_12 : decode c_A_dual 12 = .ok (.ifCond .ne 5, 3) := by decide +kernel
theorem d_A_dual_15 : decode c_A_dual 15 = .ok (.iconst (-1), 1) := by decide +kernel
theorem d_A_dual_16 : decode c_A_dual 16 = .ok (.ireturn, 1) := by decide +kernel
theorem d_A_dual_17 : decode c_A_dual 17 = .ok (.aload_n 0, 1) := by decide +kernel
theorem d_A_dual_18 : decode c_A_dual 18 = .ok (.getfield 11, 3) := by decide +kernel
theorem d_A_dual_21 : decode c_A_dual 21 = .ok (.iload_n 2, 1) := by decide +kernel
theorem d_A_dual_22 : decode c_A_dual 22 = .ok (.aaload, 1) := by decide +kernel
theorem d_A_dual_23 : decode c_A_dual 23 = .ok (.astore_n 3, 1) := by decide +kernel
theorem d_A_dual_24 : decode c_A_dual 24 = .ok (.aload_n 0, 1) := by decide +kernel
theorem d_A_dual_25 : decode c_A_dual 25 = .ok (.getfield 16, 3) := by decide +kernel
theorem d_A_dual_28 : decode c_A_dual 28 = .ok (.aload_n 3, 1) := by decide +kernel
theorem d_A_dual_29 : decode c_A_dual 29 = .ok (.getfield 56, 3) := by decide +kernel
theorem d_A_dual_32 : decode c_A_dual 32 = .ok (.aload_n 3, 1) := by decide +kernel
theorem d_A_dual_33 : decode c_A_dual 33 = .ok (.getfield 91, 3) := by decide +kernel
theorem d_A_dual_36 : decode c_A_dual 36 = .ok (.aload_n 3, 1) := by decide +kernel
theorem d_A_dual_37 : decode c_A_dual 37 = .ok (.getfield 73, 3) := by decide +kernel
theorem d_A_dual_40 : decode c_A_dual 40 = .ok (.isub, 1) := by decide +kernel
theorem d_A_dual_41 : decode c_A_dual 41 = .ok (.aload_n 3, 1) := by decide +kernel
theorem d_A_dual_42 : decode c_A_dual 42 = .ok (.getfield 91, 3) := by decide +kernel
theorem d_A_dual_45 : decode c_A_dual 45 = .ok (.invokevirtual 44, 3) := by decide +kernel
theorem d_A_dual_48 : decode c_A_dual 48 = .ok (.iconst 0, 1) := by decide +kernel
theorem d_A_dual_49 : decode c_A_dual 49 = .ok (.istore 4, 2) := by decide +kernel
theorem d_A_dual_51 : decode c_A_dual 51 = .ok (.iconst 0, 1) := by decide +kernel
theorem d_A_dual_52 : decode c_A_dual 52 = .ok (.istore 5, 2) := by decide +kernel
theorem d_A_dual_54 : decode c_A_dual 54 = .ok (.iload 5, 2) := by decide +kernel
theorem d_A_dual_56 : decode c_A_dual 56 = .ok (.aload_n 3, 1) := by decide +kernel
theorem d_A_dual_57 : decode c_A_dual 57 = .ok (.getfield 91, 3) := by decide +kernel
theorem d_A_dual_60 : decode c_A_dual 60 = .ok (.if_icmp .ge 50, 3) := by decide +kernel
theorem d_A_dual_63 : decode c_A_dual 63 = .ok (.aload_n 3, 1) := by decide +kernel
theorem d_A_dual_64 : decode c_A_dual 64 = .ok (.iload 5, 2) := by decide +kernel
theorem d_A_dual_66 : decode c_A_dual 66 = .ok (.invokevirtual 94, 3) := by decide +kernel
theorem d_A_dual_69 : decode c_A_dual 69 = .ok (.ifCond .ne 35, 3) := by decide +kernel
theorem d_A_dual_72 : decode c_A_dual 72 = .ok (.iload 4, 2) := by decide +kernel
theorem d_A_dual_74 : decode c_A_dual 74 = .ok (.aload_n 0, 1) := by decide +kernel
theorem d_A_dual_75 : decode c_A_dual 75 = .ok (.getfield 16, 3) := by decide +kernel
theorem d_A_dual_78 : decode c_A_dual 78 = .ok (.getfield 73, 3) := by decide +kernel
theorem d_A_dual_81 : decode c_A_dual 81 = .ok (.if_icmp .ge 23, 3) := by decide +kernel
theorem d_A_dual_84 : decode c_A_dual 84 = .ok (.aload_n 0, 1) := by decide +kernel
theorem d_A_dual_85 : decode c_A_dual 85 = .ok (.aload_n 3, 1) := by decide +kernel
theorem d_A_dual_86 : decode c_A_dual 86 = .ok (.invokevirtual 97, 3) := by decide +kernel
theorem d_A_dual_89 : decode c_A_dual 89 = .ok (.aload_n 0, 1) := by decide +kernel
theorem d_A_dual_90 : decode c_A_dual 90 = .ok (.getfield 16, 3) := by decide +kernel
theorem d_A_dual_93 : decode c_A_dual 93 = .ok (.iload 4, 2) := by decide +kernel
theorem d_A_dual_95 : decode c_A_dual 95 = .ok (.aload_n 3, 1) := by decide +kernel
theorem d_A_dual_96 : decode c_A_dual 96 = .ok (.iload 5, 2) := by decide +kernel
theorem d_A_dual_98 : decode c_A_dual 98 = .ok (.invokevirtual 101, 3) := by decide +kernel
theorem d_A_dual_101 : decode c_A_dual 101 = .ok (.iinc 4 1, 3) := by decide +kernel
theorem d_A_dual_104 : decode c_A_dual 104 = .ok (.iinc 5 1, 3) := by decide +kernel
theorem d_A_dual_107 : decode c_A_dual 107 = .ok (.goto (-53), 3) := by decide +kernel
theorem d_A_dual_110 : decode c_A_dual 110 = .ok (.aload_n 0, 1) := by decide +kernel
theorem d_A_dual_111 : decode c_A_dual 111 = .ok (.iload_n 1, 1) := by decide +kernel
theorem d_A_dual_112 : decode c_A_dual 112 = .ok (.aload_n 0, 1) := by decide +kernel
theorem d_A_dual_113 : decode c_A_dual 113 = .ok (.aload_n 0, 1) := by decide +kernel
theorem d_A_dual_114 : decode c_A_dual 114 = .ok (.getfield 16, 3) := by decide +kernel
theorem d_A_dual_117 : decode c_A_dual 117 = .ok (.sipush 4095, 3) := by decide +kernel
theorem d_A_dual_120 : decode c_A_dual 120 = .ok (.invokevirtual 69, 3) := by decide +kernel
theorem d_A_dual_123 : decode c_A_dual 123 = .ok (.invokevirtual 107, 3) := by decide +kernel
theorem d_A_dual_126 : decode c_A_dual 126 = .ok (.ireturn, 1) := by decide +kernel
theorem d_A_isReduced_0 : decode c_A_isReduced 0 = .ok (.iload_n 1, 1) := by decide +kernel
theorem d_A_isReduced_1 : decode c_A_isReduced 1 = .ok (.invokestatic 34, 3) := by decide +kernel
theorem d_A_isReduced_4 : decode c_A_isReduced 4 = .ok (.ifCond .eq 19, 3) := by decide +kernel
theorem d_A_isReduced_7 : decode c_A_isReduced 7 = .ok (.aload_n 0, 1) := by decide +kernel
theorem d_A_isReduced_8 : decode c_A_isReduced 8 = .ok (.getfield 11, 3) := by decide +kernel
theorem d_A_isReduced_11 : decode c_A_isReduced 11 = .ok (.iload_n 1, 1) := by decide +kernel
theorem d_A_isReduced_12 : decode c_A_isReduced 12 = .ok (.aaload, 1) := by decide +kernel
theorem d_A_isReduced_13 : decode c_A_isReduced 13 = .ok (.getfield 52, 3) := by decide +kernel
theorem d_A_isReduced_16 : decode c_A_isReduced 16 = .ok (.ifCond .eq 7, 3) := by decide +kernel
theorem d_A_isReduced_19 : decode c_A_isReduced 19 = .ok (.iconst 1, 1) := by decide +kernel
theorem d_A_isReduced_20 : decode c_A_isReduced 20 = .ok (.goto 4, 3) := by decide +kernel
theorem d_A_isReduced_23 : decode c_A_isReduced 23 = .ok (.iconst 0, 1) := by decide +kernel
theorem d_A_isReduced_24 : decode c_A_isReduced 24 = .ok (.ireturn, 1) := by decide +kernel
theorem d_Q_fillDual_0 : decode c_Q_fillDual 0 = .ok (.aload_n 1, 1) := by decide +kernel
theorem d_Q_fillDual_1 : decode c_Q_fillDual 1 = .ok (.iload_n 2, 1) := by decide +kernel
theorem d_Q_fillDual_2 : decode c_Q_fillDual 2 = .ok (.iload 4, 2) := by decide +kernel
theorem d_Q_fillDual_4 : decode c_Q_fillDual 4 = .ok (.iconst 1, 1) := by decide +kernel
theorem d_Q_fillDual_5 : decode c_Q_fillDual 5 = .ok (.invokevirtual 73, 3) := by decide +kernel
theorem d_Q_fillDual_8 : decode c_Q_fillDual 8 = .ok (.iconst 0, 1) := by decide +kernel
theorem d_Q_fillDual_9 : decode c_Q_fillDual 9 = .ok (.istore 5, 2) := by decide +kernel
theorem d_Q_fillDual_11 : decode c_Q_fillDual 11 = .ok (.iload 5, 2) := by decide +kernel
theorem d_Q_fillDual_13 : decode c_Q_fillDual 13 = .ok (.aload_n 3, 1) := by decide +kernel
theorem d_Q_fillDual_14 : decode c_Q_fillDual 14 = .ok (.getfield 77, 3) := by decide +kernel
theorem d_Q_fillDual_17 : decode c_Q_fillDual 17 = .ok (.if_icmp .ge 31, 3) := by decide +kernel
theorem d_Q_fillDual_20 : decode c_Q_fillDual 20 = .ok (.aload_n 3, 1) := by decide +kernel
theorem d_Q_fillDual_21 : decode c_Q_fillDual 21 = .ok (.iload 5, 2) := by decide +kernel
theorem d_Q_fillDual_23 : decode c_Q_fillDual 23 = .ok (.iload 4, 2) := by decide +kernel
theorem d_Q_fillDual_25 : decode c_Q_fillDual 25 = .ok (.invokevirtual 80, 3) := by decide +kernel
theorem d_Q_fillDual_28 : decode c_Q_fillDual 28 = .ok (.ifCond .ne 14, 3) := by decide +kernel
theorem d_Q_fillDual_31 : decode c_Q_fillDual 31 = .ok (.aload_n 0, 1) := by decide +kernel
theorem d_Q_fillDual_32 : decode c_Q_fillDual 32 = .ok (.aload_n 1, 1) := by decide +kernel
theorem d_Q_fillDual_33 : decode c_Q_fillDual 33 = .ok (.iload_n 2, 1) := by decide +kernel
theorem d_Q_fillDual_34 : decode c_Q_fillDual 34 = .ok (.aload_n 3, 1) := by decide +kernel
theorem d_Q_fillDual_35 : decode c_Q_fillDual 35 = .ok (.iload 5, 2) := by decide +kernel
theorem d_Q_fillDual_37 : decode c_Q_fillDual 37 = .ok (.iload 4, 2) := by decide +kernel
theorem d_Q_fillDual_39 : decode c_Q_fillDual 39 = .ok (.invokevirtual 84, 3) := by decide +kernel
theorem d_Q_fillDual_42 : decode c_Q_fillDual 42 = .ok (.iinc 5 1, 3) := by decide +kernel
theorem d_Q_fillDual_45 : decode c_Q_fillDual 45 = .ok (.goto (-34), 3) := by decide +kernel
theorem d_Q_fillDual_48 : decode c_Q_fillDual 48 = .ok (.return_, 1) := by decide +kernel
theorem d_Q_balance_0 : decode c_Q_balance 0 = .ok (.aload_n 3, 1) := by decide +kernel
theorem d_Q_balance_1 : decode c_Q_balance 1 = .ok (.getfield 88, 3) := by decide +kernel
theorem d_Q_balance_4 : decode c_Q_balance 4 = .ok (.iload 4, 2) := by decide +kernel
theorem d_Q_balance_6 : decode c_Q_balance 6 = .ok (.iaload, 1) := by decide +kernel
theorem d_Q_balance_7 : decode c_Q_balance 7 = .ok (.istore 6, 2) := by decide +kernel
theorem d_Q_balance_9 : decode c_Q_balance 9 = .ok (.aload_n 3, 1) := by decide +kernel
theorem d_Q_balance_10 : decode c_Q_balance 10 = .ok (.iload 4, 2) := by decide +kernel
theorem d_Q_balance_12 : decode c_Q_balance 12 = .ok (.iload 6, 2) := by decide +kernel
theorem d_Q_balance_14 : decode c_Q_balance 14 = .ok (.aload_n 0, 1) := by decide +kernel
theorem d_Q_balance_15 : decode c_Q_balance 15 = .ok (.getfield 25, 3) := by decide +kernel
theorem d_Q_balance_18 : decode c_Q_balance 18 = .ok (.invokevirtual 46, 3) := by decide +kernel
theorem d_Q_balance_21 : decode c_Q_balance 21 = .ok (.aload_n 3, 1) := by decide +kernel
theorem d_Q_balance_22 : decode c_Q_balance 22 = .ok (.iload 4, 2) := by decide +kernel
theorem d_Q_balance_24 : decode c_Q_balance 24 = .ok (.iload 5, 2) := by decide +kernel
theorem d_Q_balance_26 : decode c_Q_balance 26 = .ok (.aload_n 0, 1) := by decide +kernel
theorem d_Q_balance_27 : decode c_Q_balance 27 = .ok (.getfield 28, 3) := by decide +kernel
theorem d_Q_balance_30 : decode c_Q_balance 30 = .ok (.invokevirtual 46, 3) := by decide +kernel
theorem d_Q_balance_33 : decode c_Q_balance 33 = .ok (.iconst 0, 1) := by decide +kernel
theorem d_Q_balance_34 : decode c_Q_balance 34 = .ok (.istore 7, 2) := by decide +kernel
theorem d_Q_balance_36 : decode c_Q_balance 36 = .ok (.iload 7, 2) := by decide +kernel
theorem d_Q_balance_38 : decode c_Q_balance 38 = .ok (.aload_n 1, 1) := by decide +kernel
theorem d_Q_balance_39 : decode c_Q_balance 39 = .ok (.getfield 40, 3) := by decide +kernel
theorem d_Q_balance_42 : decode c_Q_balance 42 = .ok (.if_icmp .ge 38, 3) := by decide +kernel
theorem d_Q_balance_45 : decode c_Q_balance 45 = .ok (.aload_n 1, 1) := by decide +kernel
theorem d_Q_balance_46 : decode c_Q_balance 46 = .ok (.iload_n 2, 1) := by decide +kernel
theorem d_Q_balance_47 : decode c_Q_balance 47 = .ok (.iload 7, 2) := by decide +kernel
theorem d_Q_balance_49 : decode c_Q_balance 49 = .ok (.aload_n 0, 1) := by decide +kernel
theorem d_Q_balance_50 : decode c_Q_balance 50 = .ok (.getfield 18, 3) := by decide +kernel
theorem d_Q_balance_53 : decode c_Q_balance 53 = .ok (.invokevirtual 46, 3) := by decide +kernel
theorem d_Q_balance_56 : decode c_Q_balance 56 = .ok (.aload_n 0, 1) := by decide +kernel
theorem d_Q_balance_57 : decode c_Q_balance 57 = .ok (.getfield 11, 3) := by decide +kernel
theorem d_Q_balance_60 : decode c_Q_balance 60 = .ok (.iload 7, 2) := by decide +kernel
theorem d_Q_balance_62 : decode c_Q_balance 62 = .ok (.aaload, 1) := by decide +kernel
theorem d_Q_balance_63 : decode c_Q_balance 63 = .ok (.aload_n 0, 1) := by decide +kernel
theorem d_Q_balance_64 : decode c_Q_balance 64 = .ok (.getfield 18, 3) := by decide +kernel
theorem d_Q_balance_67 : decode c_Q_balance 67 = .ok (.aload_n 0, 1) := by decide +kernel
theorem d_Q_balance_68 : decode c_Q_balance 68 = .ok (.getfield 25, 3) := by decide +kernel
theorem d_Q_balance_71 : decode c_Q_balance 71 = .ok (.invokevirtual 65, 3) := by decide +kernel
theorem d_Q_balance_74 : decode c_Q_balance 74 = .ok (.iinc 7 1, 3) := by decide +kernel
theorem d_Q_balance_77 : decode c_Q_balance 77 = .ok (.goto (-41), 3) := by decide +kernel
theorem d_Q_balance_80 : decode c_Q_balance 80 = .ok (.aload_n 1, 1) := by decide +kernel
theorem d_Q_balance_81 : decode c_Q_balance 81 = .ok (.iload_n 2, 1) := by decide +kernel
theorem d_Q_balance_82 : decode c_Q_balance 82 = .ok (.iload 5, 2) := by decide +kernel
theorem d_Q_balance_84 : decode c_Q_balance 84 = .ok (.aload_n 0, 1) := by decide +kernel
theorem d_Q_balance_85 : decode c_Q_balance 85 = .ok (.getfield 18, 3) := by decide +kernel
theorem d_Q_balance_88 : decode c_Q_balance 88 = .ok (.invokevirtual 46, 3) := by decide +kernel
theorem d_Q_balance_91 : decode c_Q_balance 91 = .ok (.aload_n 0, 1) := by decide +kernel
theorem d_Q_balance_92 : decode c_Q_balance 92 = .ok (.getfield 11, 3) := by decide +kernel
theorem d_Q_balance_95 : decode c_Q_balance 95 = .ok (.iload 6, 2) := by decide +kernel
theorem d_Q_balance_97 : decode c_Q_balance 97 = .ok (.aaload, 1) := by decide +kernel
theorem d_Q_balance_98 : decode c_Q_balance 98 = .ok (.aload_n 0, 1) := by decide +kernel
theorem d_Q_balance_99 : decode c_Q_balance 99 = .ok (.getfield 18, 3) := by decide +kernel
theorem d_Q_balance_102 : decode c_Q_balance 102 = .ok (.aload_n 0, 1) := by decide +kernel
theorem d_Q_balance_103 : decode c_Q_balance 103 = .ok (.getfield 28, 3) := by decide +kernel
theorem d_Q_balance_106 : decode c_Q_balance 106 = .ok (.invokevirtual 65, 3) := by decide +kernel
theorem d_Q_balance_109 : decode c_Q_balance 109 = .ok (.aload_n 0, 1) := by decide +kernel
theorem d_Q_balance_110 : decode c_Q_balance 110 = .ok (.getfield 11, 3) := by decide +kernel
theorem d_Q_balance_113 : decode c_Q_balance 113 = .ok (.iload 6, 2) := by decide +kernel
theorem d_Q_balance_115 : decode c_Q_balance 115 = .ok (.aaload, 1) := by decide +kernel
theorem d_Q_balance_116 : decode c_Q_balance 116 = .ok (.invokevirtual 92, 3) := by decide +kernel
theorem d_Q_balance_119 : decode c_Q_balance 119 = .ok (.aload_n 0, 1) := by decide +kernel
theorem d_Q_balance_120 : decode c_Q_balance 120 = .ok (.aload_n 1, 1) := by decide +kernel
theorem d_Q_balance_121 : decode c_Q_balance 121 = .ok (.getfield 40, 3) := by decide +kernel
theorem d_Q_balance_124 : decode c_Q_balance 124 = .ok (.invokevirtual 50, 3) := by decide +kernel
theorem d_Q_balance_127 : decode c_Q_balance 127 = .ok (.aload_n 0, 1) := by decide +kernel
theorem d_Q_balance_128 : decode c_Q_balance 128 = .ok (.aload_n 1, 1) := by decide +kernel
theorem d_Q_balance_129 : decode c_Q_balance 129 = .ok (.iload_n 2, 1) := by decide +kernel
theorem d_Q_balance_130 : decode c_Q_balance 130 = .ok (.invokevirtual 54, 3) := by decide +kernel
theorem d_Q_balance_133 : decode c_Q_balance 133 = .ok (.return_, 1) := by decide +kernel
theorem d_P_fillDual_0 : decode c_P_fillDual 0 = .ok (.aload_n 1, 1) := by decide +kernel
theorem d_P_fillDual_1 : decode c_P_fillDual 1 = .ok (.iload_n 2, 1) := by decide +kernel
theorem d_P_fillDual_2 : decode c_P_fillDual 2 = .ok (.iload 4, 2) := by decide +kernel
theorem d_P_fillDual_4 : decode c_P_fillDual 4 = .ok (.iconst 1, 1) := by decide +kernel
theorem d_P_fillDual_5 : decode c_P_fillDual 5 = .ok (.invokevirtual 30, 3) := by decide +kernel
theorem d_P_fillDual_8 : decode c_P_fillDual 8 = .ok (.iconst 0, 1) := by decide +kernel
theorem d_P_fillDual_9 : decode c_P_fillDual 9 = .ok (.istore 5, 2) := by decide +kernel
theorem d_P_fillDual_11 : decode c_P_fillDual 11 = .ok (.iload 5, 2) := by decide +kernel
theorem d_P_fillDual_13 : decode c_P_fillDual 13 = .ok (.aload_n 3, 1) := by decide +kernel
theorem d_P_fillDual_14 : decode c_P_fillDual 14 = .ok (.getfield 34, 3) := by decide +kernel
theorem d_P_fillDual_17 : decode c_P_fillDual 17 = .ok (.if_icmp .ge 41, 3) := by decide +kernel
theorem d_P_fillDual_20 : decode c_P_fillDual 20 = .ok (.aload_n 3, 1) := by decide +kernel
theorem d_P_fillDual_21 : decode c_P_fillDual 21 = .ok (.iload 5, 2) := by decide +kernel
theorem d_P_fillDual_23 : decode c_P_fillDual 23 = .ok (.iload 4, 2) := by decide +kernel
theorem d_P_fillDual_25 : decode c_P_fillDual 25 = .ok (.invokevirtual 7, 3) := by decide +kernel
theorem d_P_fillDual_28 : decode c_P_fillDual 28 = .ok (.ineg, 1) := by decide +kernel
theorem d_P_fillDual_29 : decode c_P_fillDual 29 = .ok (.aload_n 3, 1) := by decide +kernel
theorem d_P_fillDual_30 : decode c_P_fillDual 30 = .ok (.getfield 13, 3) := by decide +kernel
theorem d_P_fillDual_33 : decode c_P_fillDual 33 = .ok (.invokestatic 25, 3) := by decide +kernel
theorem d_P_fillDual_36 : decode c_P_fillDual 36 = .ok (.istore 6, 2) := by decide +kernel
theorem d_P_fillDual_38 : decode c_P_fillDual 38 = .ok (.aload_n 1, 1) := by decide +kernel
theorem d_P_fillDual_39 : decode c_P_fillDual 39 = .ok (.iload_n 2, 1) := by decide +kernel
theorem d_P_fillDual_40 : decode c_P_fillDual 40 = .ok (.aload_n 3, 1) := by decide +kernel
theorem d_P_fillDual_41 : decode c_P_fillDual 41 = .ok (.getfield 37, 3) := by decide +kernel
theorem d_P_fillDual_44 : decode c_P_fillDual 44 = .ok (.iload 5, 2) := by decide +kernel
theorem d_P_fillDual_46 : decode c_P_fillDual 46 = .ok (.iaload, 1) := by decide +kernel
theorem d_P_fillDual_47 : decode c_P_fillDual 47 = .ok (.iload 6, 2) := by decide +kernel
theorem d_P_fillDual_49 : decode c_P_fillDual 49 = .ok (.invokevirtual 30, 3) := by decide +kernel
theorem d_P_fillDual_52 : decode c_P_fillDual 52 = .ok (.iinc 5 1, 3) := by decide +kernel
theorem d_P_fillDual_55 : decode c_P_fillDual 55 = .ok (.goto (-44), 3) := by decide +kernel
theorem d_P_fillDual_58 : decode c_P_fillDual 58 = .ok (.return_, 1) := by decide +kernel
theorem d_A_keepSpare_0 : decode c_A_keepSpare 0 = .ok (.aload_n 0, 1) := by decide +kernel
theorem d_A_keepSpare_1 : decode c_A_keepSpare 1 = .ok (.getfield 16, 3) := by decide +kernel
theorem d_A_keepSpare_4 : decode c_A_keepSpare 4 = .ok (.astore_n 3, 1) := by decide +kernel
theorem d_A_keepSpare_5 : decode c_A_keepSpare 5 = .ok (.aload_n 0, 1) := by decide +kernel
theorem d_A_keepSpare_6 : decode c_A_keepSpare 6 = .ok (.aload_n 0, 1) := by decide +kernel
theorem d_A_keepSpare_7 : decode c_A_keepSpare 7 = .ok (.getfield 11, 3) := by decide +kernel
theorem d_A_keepSpare_10 : decode c_A_keepSpare 10 = .ok (.iload_n 1, 1) := by decide +kernel
theorem d_A_keepSpare_11 : decode c_A_keepSpare 11 = .ok (.aaload, 1) := by decide +kernel
theorem d_A_keepSpare_12 : decode c_A_keepSpare 12 = .ok (.putfield 16, 3) := by decide +kernel
theorem d_A_keepSpare_15 : decode c_A_keepSpare 15 = .ok (.aload_n 0, 1) := by decide +kernel
theorem d_A_keepSpare_16 : decode c_A_keepSpare 16 = .ok (.getfield 11, 3) := by decide +kernel
theorem d_A_keepSpare_19 : decode c_A_keepSpare 19 = .ok (.iload_n 1, 1) := by decide +kernel
theorem d_A_keepSpare_20 : decode c_A_keepSpare 20 = .ok (.aload_n 3, 1) := by decide +kernel
theorem d_A_keepSpare_21 : decode c_A_keepSpare 21 = .ok (.aastore, 1) := by decide +kernel
theorem d_A_keepSpare_22 : decode c_A_keepSpare 22 = .ok (.aload_n 3, 1) := by decide +kernel
theorem d_A_keepSpare_23 : decode c_A_keepSpare 23 = .ok (.iload_n 2, 1) := by decide +kernel
theorem d_A_keepSpare_24 : decode c_A_keepSpare 24 = .ok (.putfield 73, 3) := by decide +kernel
theorem d_A_keepSpare_27 : decode c_A_keepSpare 27 = .ok (.aload_n 3, 1) := by decide +kernel
theorem d_A_keepSpare_28 : decode c_A_keepSpare 28 = .ok (.iconst 1, 1) := by decide +kernel
theorem d_A_keepSpare_29 : decode c_A_keepSpare 29 = .ok (.putfield 52, 3) := by decide +kernel
theorem d_A_keepSpare_32 : decode c_A_keepSpare 32 = .ok (.iload_n 2, 1) := by decide +kernel
theorem d_A_keepSpare_33 : decode c_A_keepSpare 33 = .ok (.ireturn, 1) := by decide +kernel
theorem d_A_leave_0 : decode c_A_leave 0 = .ok (.iload_n 1, 1) := by decide +kernel
theorem d_A_leave_1 : decode c_A_leave 1 = .ok (.invokestatic 34, 3) := by decide +kernel
theorem d_A_leave_4 : decode c_A_leave 4 = .ok (.ifCond .eq 29, 3) := by decide +kernel
theorem d_A_leave_7 : decode c_A_leave 7 = .ok (.aload_n 0, 1) := by decide +kernel
theorem d_A_leave_8 : decode c_A_leave 8 = .ok (.iload_n 2, 1) := by decide +kernel
theorem d_A_leave_9 : decode c_A_leave 9 = .ok (.invokevirtual 88, 3) := by decide +kernel
theorem d_A_leave_12 : decode c_A_leave 12 = .ok (.ifCond .eq 21, 3) := by decide +kernel
theorem d_A_leave_15 : decode c_A_leave 15 = .ok (.iload_n 3, 1) := by decide +kernel
theorem d_A_leave_16 : decode c_A_leave 16 = .ok (.ifCond .lt 17, 3) := by decide +kernel
theorem d_A_leave_19 : decode c_A_leave 19 = .ok (.iload_n 3, 1) := by decide +kernel
theorem d_A_leave_20 : decode c_A_leave 20 = .ok (.aload_n 0, 1) := by decide +kernel
theorem d_A_leave_21 : decode c_A_leave 21 = .ok (.getfield 11, 3) := by decide +kernel
theorem d_A_leave_24 : decode c_A_leave 24 = .ok (.iload_n 2, 1) := by decide +kernel
theorem d_A_leave_25 : decode c_A_leave 25 = .ok (.aaload, 1) := by decide +kernel
theorem d_A_leave_26 : decode c_A_leave 26 = .ok (.getfield 91, 3) := by decide +kernel
theorem d_A_leave_29 : decode c_A_leave 29 = .ok (.ishr, 1) := by decide +kernel
theorem d_A_leave_30 : decode c_A_leave 30 = .ok (.ifCond .eq 5, 3) := by decide +kernel
theorem d_A_leave_33 : decode c_A_leave 33 = .ok (.iconst (-1), 1) := by decide +kernel
theorem d_A_leave_34 : decode c_A_leave 34 = .ok (.ireturn, 1) := by decide +kernel
theorem d_A_leave_35 : decode c_A_leave 35 = .ok (.aload_n 0, 1) := by decide +kernel
theorem d_A_leave_36 : decode c_A_leave 36 = .ok (.getfield 11, 3) := by decide +kernel
theorem d_A_leave_39 : decode c_A_leave 39 = .ok (.iload_n 2, 1) := by decide +kernel
theorem d_A_leave_40 : decode c_A_leave 40 = .ok (.aaload, 1) := by decide +kernel
theorem d_A_leave_41 : decode c_A_leave 41 = .ok (.astore 5, 2) := by decide +kernel
theorem d_A_leave_43 : decode c_A_leave 43 = .ok (.aload_n 0, 1) := by decide +kernel
theorem d_A_leave_44 : decode c_A_leave 44 = .ok (.getfield 16, 3) := by decide +kernel
theorem d_A_leave_47 : decode c_A_leave 47 = .ok (.aload 5, 2) := by decide +kernel
theorem d_A_leave_49 : decode c_A_leave 49 = .ok (.getfield 56, 3) := by decide +kernel
theorem d_A_leave_52 : decode c_A_leave 52 = .ok (.aload 5, 2) := by decide +kernel
theorem d_A_leave_54 : decode c_A_leave 54 = .ok (.getfield 73, 3) := by decide +kernel
theorem d_A_leave_57 : decode c_A_leave 57 = .ok (.aload 5, 2) := by decide +kernel
theorem d_A_leave_59 : decode c_A_leave 59 = .ok (.getfield 91, 3) := by decide +kernel
theorem d_A_leave_62 : decode c_A_leave 62 = .ok (.invokevirtual 44, 3) := by decide +kernel
theorem d_A_leave_65 : decode c_A_leave 65 = .ok (.aload_n 0, 1) := by decide +kernel
theorem d_A_leave_66 : decode c_A_leave 66 = .ok (.getfield 16, 3) := by decide +kernel
theorem d_A_leave_69 : decode c_A_leave 69 = .ok (.aload 5, 2) := by decide +kernel
theorem d_A_leave_71 : decode c_A_leave 71 = .ok (.iconst 0, 1) := by decide +kernel
theorem d_A_leave_72 : decode c_A_leave 72 = .ok (.iconst 0, 1) := by decide +kernel
theorem d_A_leave_73 : decode c_A_leave 73 = .ok (.invokevirtual 110, 3) := by decide +kernel
theorem d_A_leave_76 : decode c_A_leave 76 = .ok (.iload 4, 2) := by decide +kernel
theorem d_A_leave_78 : decode c_A_leave 78 = .ok (.ifCond .eq 19, 3) := by decide +kernel
theorem d_A_leave_81 : decode c_A_leave 81 = .ok (.aload_n 0, 1) := by decide +kernel
theorem d_A_leave_82 : decode c_A_leave 82 = .ok (.getfield 16, 3) := by decide +kernel
theorem d_A_leave_85 : decode c_A_leave 85 = .ok (.aload_n 0, 1) := by decide +kernel
theorem d_A_leave_86 : decode c_A_leave 86 = .ok (.aload_n 0, 1) := by decide +kernel
theorem d_A_leave_87 : decode c_A_leave 87 = .ok (.getfield 16, 3) := by decide +kernel
theorem d_A_leave_90 : decode c_A_leave 90 = .ok (.iload_n 3, 1) := by decide +kernel
theorem d_A_leave_91 : decode c_A_leave 91 = .ok (.invokevirtual 69, 3) := by decide +kernel
theorem d_A_leave_94 : decode c_A_leave 94 = .ok (.invokevirtual 113, 3) := by decide +kernel
theorem d_A_leave_97 : decode c_A_leave 97 = .ok (.aload_n 0, 1) := by decide +kernel
theorem d_A_leave_98 : decode c_A_leave 98 = .ok (.getfield 16, 3) := by decide +kernel
theorem d_A_leave_101 : decode c_A_leave 101 = .ok (.iload_n 3, 1) := by decide +kernel
theorem d_A_leave_102 : decode c_A_leave 102 = .ok (.invokevirtual 117, 3) := by decide +kernel
theorem d_A_leave_105 : decode c_A_leave 105 = .ok (.aload_n 0, 1) := by decide +kernel
theorem d_A_leave_106 : decode c_A_leave 106 = .ok (.iload_n 1, 1) := by decide +kernel
theorem d_A_leave_107 : decode c_A_leave 107 = .ok (.aload_n 0, 1) := by decide +kernel
theorem d_A_leave_108 : decode c_A_leave 108 = .ok (.aload_n 0, 1) := by decide +kernel
theorem d_A_leave_109 : decode c_A_leave 109 = .ok (.getfield 16, 3) := by decide +kernel
theorem d_A_leave_112 : decode c_A_leave 112 = .ok (.sipush 4095, 3) := by decide +kernel
theorem d_A_leave_115 : decode c_A_leave 115 = .ok (.invokevirtual 69, 3) := by decide +kernel
theorem d_A_leave_118 : decode c_A_leave 118 = .ok (.invokevirtual 107, 3) := by decide +kernel
theorem d_A_leave_121 : decode c_A_leave 121 = .ok (.ireturn, 1) := by decide +kernel
theorem d_A_sum_0 : decode c_A_sum 0 = .ok (.iload_n 1, 1) := by decide +kernel
theorem d_A_sum_1 : decode c_A_sum 1 = .ok (.invokestatic 34, 3) := by decide +kernel
theorem d_A_sum_4 : decode c_A_sum 4 = .ok (.ifCond .eq 19, 3) := by decide +kernel
theorem d_A_sum_7 : decode c_A_sum 7 = .ok (.aload_n 0, 1) := by decide +kernel
theorem d_A_sum_8 : decode c_A_sum 8 = .ok (.iload_n 2, 1) := by decide +kernel
theorem d_A_sum_9 : decode c_A_sum 9 = .ok (.invokevirtual 88, 3) := by decide +kernel
theorem d_A_sum_12 : decode c_A_sum 12 = .ok (.ifCond .eq 11, 3) := by decide +kernel
theorem d_A_sum_15 : decode c_A_sum 15 = .ok (.aload_n 0, 1) := by decide +kernel
theorem d_A_sum_16 : decode c_A_sum 16 = .ok (.iload_n 3, 1) := by decide +kernel
theorem d_A_sum_17 : decode c_A_sum 17 = .ok (.invokevirtual 88, 3) := by decide +kernel
theorem d_A_sum_20 : decode c_A_sum 20 = .ok (.ifCond .ne 5, 3) := by decide +kernel
theorem d_A_sum_23 : decode c_A_sum 23 = .ok (.iconst (-1), 1) := by decide +kernel
theorem d_A_sum_24 : decode c_A_sum 24 = .ok (.ireturn, 1) := by decide +kernel
theorem d_A_sum_25 : decode c_A_sum 25 = .ok (.aload_n 0, 1) := by decide +kernel
theorem d_A_sum_26 : decode c_A_sum 26 = .ok (.getfield 11, 3) := by decide +kernel
theorem d_A_sum_29 : decode c_A_sum 29 = .ok (.iload_n 2, 1) := by decide +kernel
theorem d_A_sum_30 : decode c_A_sum 30 = .ok (.aaload, 1) := by decide +kernel
theorem d_A_sum_31 : decode c_A_sum 31 = .ok (.astore 4, 2) := by decide +kernel
theorem d_A_sum_33 : decode c_A_sum 33 = .ok (.aload_n 0, 1) := by decide +kernel
theorem d_A_sum_34 : decode c_A_sum 34 = .ok (.getfield 11, 3) := by decide +kernel
theorem d_A_sum_37 : decode c_A_sum 37 = .ok (.iload_n 3, 1) := by decide +kernel
theorem d_A_sum_38 : decode c_A_sum 38 = .ok (.aaload, 1) := by decide +kernel
theorem d_A_sum_39 : decode c_A_sum 39 = .ok (.astore 5, 2) := by decide +kernel
theorem d_A_sum_41 : decode c_A_sum 41 = .ok (.aload 4, 2) := by decide +kernel
theorem d_A_sum_43 : decode c_A_sum 43 = .ok (.getfield 56, 3) := by decide +kernel
theorem d_A_sum_46 : decode c_A_sum 46 = .ok (.aload 5, 2) := by decide +kernel
theorem d_A_sum_48 : decode c_A_sum 48 = .ok (.getfield 56, 3) := by decide +kernel
theorem d_A_sum_51 : decode c_A_sum 51 = .ok (.if_icmp .ne 19, 3) := by decide +kernel
theorem d_A_sum_54 : decode c_A_sum 54 = .ok (.aload 4, 2) := by decide +kernel
theorem d_A_sum_56 : decode c_A_sum 56 = .ok (.getfield 91, 3) := by decide +kernel
theorem d_A_sum_59 : decode c_A_sum 59 = .ok (.aload 5, 2) := by decide +kernel
theorem d_A_sum_61 : decode c_A_sum 61 = .ok (.getfield 91, 3) := by decide +kernel
theorem d_A_sum_64 : decode c_A_sum 64 = .ok (.iadd, 1) := by decide +kernel
theorem d_A_sum_65 : decode c_A_sum 65 = .ok (.bipush 12, 2) := by decide +kernel
theorem d_A_sum_67 : decode c_A_sum 67 = .ok (.if_icmp .le 5, 3) := by decide +kernel
theorem d_A_sum_70 : decode c_A_sum 70 = .ok (.iconst (-1), 1) := by decide +kernel
theorem d_A_sum_71 : decode c_A_sum 71 = .ok (.ireturn, 1) := by decide +kernel
theorem d_A_sum_72 : decode c_A_sum 72 = .ok (.aload_n 0, 1) := by decide +kernel
theorem d_A_sum_73 : decode c_A_sum 73 = .ok (.getfield 16, 3) := by decide +kernel
theorem d_A_sum_76 : decode c_A_sum 76 = .ok (.aload 4, 2) := by decide +kernel
theorem d_A_sum_78 : decode c_A_sum 78 = .ok (.getfield 56, 3) := by decide +kernel
theorem d_A_sum_81 : decode c_A_sum 81 = .ok (.aload 4, 2) := by decide +kernel
theorem d_A_sum_83 : decode c_A_sum 83 = .ok (.getfield 73, 3) := by decide +kernel
theorem d_A_sum_86 : decode c_A_sum 86 = .ok (.aload 5, 2) := by decide +kernel
theorem d_A_sum_88 : decode c_A_sum 88 = .ok (.getfield 73, 3) := by decide +kernel
theorem d_A_sum_91 : decode c_A_sum 91 = .ok (.iadd, 1) := by decide +kernel
theorem d_A_sum_92 : decode c_A_sum 92 = .ok (.aload 4, 2) := by decide +kernel
theorem d_A_sum_94 : decode c_A_sum 94 = .ok (.getfield 91, 3) := by decide +kernel
theorem d_A_sum_97 : decode c_A_sum 97 = .ok (.aload 5, 2) := by decide +kernel
theorem d_A_sum_99 : decode c_A_sum 99 = .ok (.getfield 91, 3) := by decide +kernel
theorem d_A_sum_102 : decode c_A_sum 102 = .ok (.iadd, 1) := by decide +kernel
theorem d_A_sum_103 : decode c_A_sum 103 = .ok (.invokevirtual 44, 3) := by decide +kernel
theorem d_A_sum_106 : decode c_A_sum 106 = .ok (.aload_n 0, 1) := by decide +kernel
theorem d_A_sum_107 : decode c_A_sum 107 = .ok (.getfield 16, 3) := by decide +kernel
theorem d_A_sum_110 : decode c_A_sum 110 = .ok (.aload 4, 2) := by decide +kernel
theorem d_A_sum_112 : decode c_A_sum 112 = .ok (.iconst 0, 1) := by decide +kernel
theorem d_A_sum_113 : decode c_A_sum 113 = .ok (.iconst 0, 1) := by decide +kernel
theorem d_A_sum_114 : decode c_A_sum 114 = .ok (.invokevirtual 110, 3) := by decide +kernel
theorem d_A_sum_117 : decode c_A_sum 117 = .ok (.aload_n 0, 1) := by decide +kernel
theorem d_A_sum_118 : decode c_A_sum 118 = .ok (.getfield 16, 3) := by decide +kernel
theorem d_A_sum_121 : decode c_A_sum 121 = .ok (.aload 5, 2) := by decide +kernel
theorem d_A_sum_123 : decode c_A_sum 123 = .ok (.aload 4, 2) := by decide +kernel
theorem d_A_sum_125 : decode c_A_sum 125 = .ok (.getfield 73, 3) := by decide +kernel
theorem d_A_sum_128 : decode c_A_sum 128 = .ok (.aload 4, 2) := by decide +kernel
theorem d_A_sum_130 : decode c_A_sum 130 = .ok (.getfield 91, 3) := by decide +kernel
theorem d_A_sum_133 : decode c_A_sum 133 = .ok (.invokevirtual 110, 3) := by decide +kernel
theorem d_A_sum_136 : decode c_A_sum 136 = .ok (.aload_n 0, 1) := by decide +kernel
theorem d_A_sum_137 : decode c_A_sum 137 = .ok (.iload_n 1, 1) := by decide +kernel
theorem d_A_sum_138 : decode c_A_sum 138 = .ok (.aload_n 0, 1) := by decide +kernel
theorem d_A_sum_139 : decode c_A_sum 139 = .ok (.aload_n 0, 1) := by decide +kernel
theorem d_A_sum_140 : decode c_A_sum 140 = .ok (.getfield 16, 3) := by decide +kernel
theorem d_A_sum_143 : decode c_A_sum 143 = .ok (.sipush 4095, 3) := by decide +kernel
theorem d_A_sum_146 : decode c_A_sum 146 = .ok (.invokevirtual 69, 3) := by decide +kernel
theorem d_A_sum_149 : decode c_A_sum 149 = .ok (.invokevirtual 107, 3) := by decide +kernel
theorem d_A_sum_152 : decode c_A_sum 152 = .ok (.ireturn, 1) := by decide +kernel
theorem d_A_of_0 : decode c_A_of 0 = .ok (.iload_n 1, 1) := by decide +kernel
theorem d_A_of_1 : decode c_A_of 1 = .ok (.invokestatic 34, 3) := by decide +kernel
theorem d_A_of_4 : decode c_A_of 4 = .ok (.ifCond .ne 5, 3) := by decide +kernel
theorem d_A_of_7 : decode c_A_of 7 = .ok (.iconst (-1), 1) := by decide +kernel
theorem d_A_of_8 : decode c_A_of 8 = .ok (.ireturn, 1) := by decide +kernel
theorem d_A_of_9 : decode c_A_of 9 = .ok (.iload_n 2, 1) := by decide +kernel
theorem d_A_of_10 : decode c_A_of 10 = .ok (.tableswitch 78 0 3 #[30, 40, 50, 60], 30) := by decide +kernel
theorem d_A_of_40 : decode c_A_of 40 = .ok (.aload_n 0, 1) := by decide +kernel
theorem d_A_of_41 : decode c_A_of 41 = .ok (.getfield 11, 3) := by decide +kernel
theorem d_A_of_44 : decode c_A_of 44 = .ok (.iload_n 1, 1) := by decide +kernel
theorem d_A_of_45 : decode c_A_of 45 = .ok (.aaload, 1) := by decide +kernel
theorem d_A_of_46 : decode c_A_of 46 = .ok (.getfield 56, 3) := by decide +kernel
theorem d_A_of_49 : decode c_A_of 49 = .ok (.ireturn, 1) := by decide +kernel
theorem d_A_of_50 : decode c_A_of 50 = .ok (.aload_n 0, 1) := by decide +kernel
theorem d_A_of_51 : decode c_A_of 51 = .ok (.getfield 11, 3) := by decide +kernel
theorem d_A_of_54 : decode c_A_of 54 = .ok (.iload_n 1, 1) := by decide +kernel
theorem d_A_of_55 : decode c_A_of 55 = .ok (.aaload, 1) := by decide +kernel
theorem d_A_of_56 : decode c_A_of 56 = .ok (.getfield 73, 3) := by decide +kernel
theorem d_A_of_59 : decode c_A_of 59 = .ok (.ireturn, 1) := by decide +kernel
theorem d_A_of_60 : decode c_A_of 60 = .ok (.aload_n 0, 1) := by decide +kernel
theorem d_A_of_61 : decode c_A_of 61 = .ok (.getfield 11, 3) := by decide +kernel
theorem d_A_of_64 : decode c_A_of 64 = .ok (.iload_n 1, 1) := by decide +kernel
theorem d_A_of_65 : decode c_A_of 65 = .ok (.aaload, 1) := by decide +kernel
theorem d_A_of_66 : decode c_A_of 66 = .ok (.getfield 91, 3) := by decide +kernel
theorem d_A_of_69 : decode c_A_of 69 = .ok (.ireturn, 1) := by decide +kernel
theorem d_A_of_70 : decode c_A_of 70 = .ok (.aload_n 0, 1) := by decide +kernel
theorem d_A_of_71 : decode c_A_of 71 = .ok (.getfield 11, 3) := by decide +kernel
theorem d_A_of_74 : decode c_A_of 74 = .ok (.iload_n 1, 1) := by decide +kernel
theorem d_A_of_75 : decode c_A_of 75 = .ok (.aaload, 1) := by decide +kernel
theorem d_A_of_76 : decode c_A_of 76 = .ok (.getfield 52, 3) := by decide +kernel
theorem d_A_of_79 : decode c_A_of 79 = .ok (.ifCond .eq 7, 3) := by decide +kernel
theorem d_A_of_82 : decode c_A_of 82 = .ok (.iconst 1, 1) := by decide +kernel
theorem d_A_of_83 : decode c_A_of 83 = .ok (.goto 4, 3) := by decide +kernel
theorem d_A_of_86 : decode c_A_of 86 = .ok (.iconst 0, 1) := by decide +kernel
theorem d_A_of_87 : decode c_A_of 87 = .ok (.ireturn, 1) := by decide +kernel
theorem d_A_of_88 : decode c_A_of 88 = .ok (.iconst (-1), 1) := by decide +kernel
theorem d_A_of_89 : decode c_A_of 89 = .ok (.ireturn, 1) := by decide +kernel
theorem d_A_place_0 : decode c_A_place 0 = .ok (.aload_n 0, 1) := by decide +kernel
theorem d_A_place_1 : decode c_A_place 1 = .ok (.iload_n 1, 1) := by decide +kernel
theorem d_A_place_2 : decode c_A_place 2 = .ok (.invokevirtual 88, 3) := by decide +kernel
theorem d_A_place_5 : decode c_A_place 5 = .ok (.ifCond .eq 20, 3) := by decide +kernel
theorem d_A_place_8 : decode c_A_place 8 = .ok (.iload_n 2, 1) := by decide +kernel
theorem d_A_place_9 : decode c_A_place 9 = .ok (.ifCond .lt 16, 3) := by decide +kernel
theorem d_A_place_12 : decode c_A_place 12 = .ok (.iload_n 2, 1) := by decide +kernel
theorem d_A_place_13 : decode c_A_place 13 = .ok (.aload_n 0, 1) := by decide +kernel
theorem d_A_place_14 : decode c_A_place 14 = .ok (.getfield 11, 3) := by decide +kernel
theorem d_A_place_17 : decode c_A_place 17 = .ok (.iload_n 1, 1) := by decide +kernel
theorem d_A_place_18 : decode c_A_place 18 = .ok (.aaload, 1) := by decide +kernel
theorem d_A_place_19 : decode c_A_place 19 = .ok (.getfield 73, 3) := by decide +kernel
theorem d_A_place_22 : decode c_A_place 22 = .ok (.if_icmp .lt 5, 3) := by decide +kernel
theorem d_A_place_25 : decode c_A_place 25 = .ok (.iconst (-1), 1) := by decide +kernel
theorem d_A_place_26 : decode c_A_place 26 = .ok (.ireturn, 1) := by decide +kernel
theorem d_A_place_27 : decode c_A_place 27 = .ok (.aload_n 0, 1) := by decide +kernel
theorem d_A_place_28 : decode c_A_place 28 = .ok (.getfield 11, 3) := by decide +kernel
theorem d_A_place_31 : decode c_A_place 31 = .ok (.iload_n 1, 1) := by decide +kernel
theorem d_A_place_32 : decode c_A_place 32 = .ok (.aaload, 1) := by decide +kernel
theorem d_A_place_33 : decode c_A_place 33 = .ok (.getfield 80, 3) := by decide +kernel
theorem d_A_place_36 : decode c_A_place 36 = .ok (.iload_n 2, 1) := by decide +kernel
theorem d_A_place_37 : decode c_A_place 37 = .ok (.iaload, 1) := by decide +kernel
theorem d_A_place_38 : decode c_A_place 38 = .ok (.ireturn, 1) := by decide +kernel
theorem d_A_sign_0 : decode c_A_sign 0 = .ok (.aload_n 0, 1) := by decide +kernel
theorem d_A_sign_1 : decode c_A_sign 1 = .ok (.iload_n 1, 1) := by decide +kernel
theorem d_A_sign_2 : decode c_A_sign 2 = .ok (.iload_n 2, 1) := by decide +kernel
theorem d_A_sign_3 : decode c_A_sign 3 = .ok (.iload_n 3, 1) := by decide +kernel
theorem d_A_sign_4 : decode c_A_sign 4 = .ok (.invokevirtual 48, 3) := by decide +kernel
theorem d_A_sign_7 : decode c_A_sign 7 = .ok (.ifCond .ne 5, 3) := by decide +kernel
theorem d_A_sign_10 : decode c_A_sign 10 = .ok (.iconst 0, 1) := by decide +kernel
theorem d_A_sign_11 : decode c_A_sign 11 = .ok (.ireturn, 1) := by decide +kernel
theorem d_A_sign_12 : decode c_A_sign 12 = .ok (.aload_n 0, 1) := by decide +kernel
theorem d_A_sign_13 : decode c_A_sign 13 = .ok (.getfield 11, 3) := by decide +kernel
theorem d_A_sign_16 : decode c_A_sign 16 = .ok (.iload_n 1, 1) := by decide +kernel
theorem d_A_sign_17 : decode c_A_sign 17 = .ok (.aaload, 1) := by decide +kernel
theorem d_A_sign_18 : decode c_A_sign 18 = .ok (.iload_n 2, 1) := by decide +kernel
theorem d_A_sign_19 : decode c_A_sign 19 = .ok (.iload_n 3, 1) := by decide +kernel
theorem d_A_sign_20 : decode c_A_sign 20 = .ok (.invokevirtual 120, 3) := by decide +kernel
theorem d_A_sign_23 : decode c_A_sign 23 = .ok (.invokestatic 123, 3) := by decide +kernel
theorem d_A_sign_26 : decode c_A_sign 26 = .ok (.ireturn, 1) := by decide +kernel
theorem d_A_digit_0 : decode c_A_digit 0 = .ok (.aload_n 0, 1) := by decide +kernel
theorem d_A_digit_1 : decode c_A_digit 1 = .ok (.iload_n 1, 1) := by decide +kernel
theorem d_A_digit_2 : decode c_A_digit 2 = .ok (.iload_n 2, 1) := by decide +kernel
theorem d_A_digit_3 : decode c_A_digit 3 = .ok (.iload_n 3, 1) := by decide +kernel
theorem d_A_digit_4 : decode c_A_digit 4 = .ok (.invokevirtual 48, 3) := by decide +kernel
theorem d_A_digit_7 : decode c_A_digit 7 = .ok (.ifCond .eq 8, 3) := by decide +kernel
theorem d_A_digit_10 : decode c_A_digit 10 = .ok (.iload 4, 2) := by decide +kernel
theorem d_A_digit_12 : decode c_A_digit 12 = .ok (.ifCond .ge 5, 3) := by decide +kernel
theorem d_A_digit_15 : decode c_A_digit 15 = .ok (.iconst (-1), 1) := by decide +kernel
theorem d_A_digit_16 : decode c_A_digit 16 = .ok (.ireturn, 1) := by decide +kernel
theorem d_A_digit_17 : decode c_A_digit 17 = .ok (.aload_n 0, 1) := by decide +kernel
theorem d_A_digit_18 : decode c_A_digit 18 = .ok (.getfield 11, 3) := by decide +kernel
theorem d_A_digit_21 : decode c_A_digit 21 = .ok (.iload_n 1, 1) := by decide +kernel
theorem d_A_digit_22 : decode c_A_digit 22 = .ok (.aaload, 1) := by decide +kernel
theorem d_A_digit_23 : decode c_A_digit 23 = .ok (.iload_n 2, 1) := by decide +kernel
theorem d_A_digit_24 : decode c_A_digit 24 = .ok (.iload_n 3, 1) := by decide +kernel
theorem d_A_digit_25 : decode c_A_digit 25 = .ok (.iload 4, 2) := by decide +kernel
theorem d_A_digit_27 : decode c_A_digit 27 = .ok (.invokevirtual 129, 3) := by decide +kernel
theorem d_A_digit_30 : decode c_A_digit 30 = .ok (.ireturn, 1) := by decide +kernel
