-- ===== decode rows (written by wip/gen/names.py) =====
theorem d_T_init_0 : decode c_T_init 0 = .ok (.aload_n 0, 1) := by decide +kernel
theorem d_T_init_1 : decode c_T_init 1 = .ok (.invokespecial 5, 3) := by decide +kernel
theorem d_T_init_4 : decode c_T_init 4 = .ok (.aload_n 0, 1) := by decide +kernel
theorem d_T_init_5 : decode c_T_init 5 = .ok (.iconst 1, 1) := by decide +kernel
theorem d_T_init_6 : decode c_T_init 6 = .ok (.putfield 11, 3) := by decide +kernel
theorem d_T_init_9 : decode c_T_init 9 = .ok (.aload_n 0, 1) := by decide +kernel
theorem d_T_init_10 : decode c_T_init 10 = .ok (.bipush 12, 2) := by decide +kernel
theorem d_T_init_12 : decode c_T_init 12 = .ok (.newarray .int, 2) := by decide +kernel
theorem d_T_init_14 : decode c_T_init 14 = .ok (.putfield 15, 3) := by decide +kernel
theorem d_T_init_17 : decode c_T_init 17 = .ok (.aload_n 0, 1) := by decide +kernel
theorem d_T_init_18 : decode c_T_init 18 = .ok (.bipush 12, 2) := by decide +kernel
theorem d_T_init_20 : decode c_T_init 20 = .ok (.bipush 72, 2) := by decide +kernel
theorem d_T_init_22 : decode c_T_init 22 = .ok (.multianewarray 19 2, 4) := by decide +kernel
theorem d_T_init_26 : decode c_T_init 26 = .ok (.putfield 21, 3) := by decide +kernel
theorem d_T_init_29 : decode c_T_init 29 = .ok (.return_, 1) := by decide +kernel
theorem d_W_init_0 : decode c_W_init 0 = .ok (.aload_n 0, 1) := by decide +kernel
theorem d_W_init_1 : decode c_W_init 1 = .ok (.invokespecial 5, 3) := by decide +kernel
theorem d_W_init_4 : decode c_W_init 4 = .ok (.aload_n 0, 1) := by decide +kernel
theorem d_W_init_5 : decode c_W_init 5 = .ok (.bipush 12, 2) := by decide +kernel
theorem d_W_init_7 : decode c_W_init 7 = .ok (.newarray .int, 2) := by decide +kernel
theorem d_W_init_9 : decode c_W_init 9 = .ok (.putfield 11, 3) := by decide +kernel
theorem d_W_init_12 : decode c_W_init 12 = .ok (.return_, 1) := by decide +kernel
theorem d_T_start_0 : decode c_T_start 0 = .ok (.aload_n 0, 1) := by decide +kernel
theorem d_T_start_1 : decode c_T_start 1 = .ok (.iload_n 1, 1) := by decide +kernel
theorem d_T_start_2 : decode c_T_start 2 = .ok (.putfield 24, 3) := by decide +kernel
theorem d_T_start_5 : decode c_T_start 5 = .ok (.aload_n 0, 1) := by decide +kernel
theorem d_T_start_6 : decode c_T_start 6 = .ok (.iload_n 2, 1) := by decide +kernel
theorem d_T_start_7 : decode c_T_start 7 = .ok (.putfield 28, 3) := by decide +kernel
theorem d_T_start_10 : decode c_T_start 10 = .ok (.aload_n 0, 1) := by decide +kernel
theorem d_T_start_11 : decode c_T_start 11 = .ok (.iload_n 3, 1) := by decide +kernel
theorem d_T_start_12 : decode c_T_start 12 = .ok (.putfield 31, 3) := by decide +kernel
theorem d_T_start_15 : decode c_T_start 15 = .ok (.aload_n 0, 1) := by decide +kernel
theorem d_T_start_16 : decode c_T_start 16 = .ok (.iconst 0, 1) := by decide +kernel
theorem d_T_start_17 : decode c_T_start 17 = .ok (.putfield 11, 3) := by decide +kernel
theorem d_T_start_20 : decode c_T_start 20 = .ok (.iconst 0, 1) := by decide +kernel
theorem d_T_start_21 : decode c_T_start 21 = .ok (.istore 4, 2) := by decide +kernel
theorem d_T_start_23 : decode c_T_start 23 = .ok (.iload 4, 2) := by decide +kernel
theorem d_T_start_25 : decode c_T_start 25 = .ok (.iload_n 2, 1) := by decide +kernel
theorem d_T_start_26 : decode c_T_start 26 = .ok (.if_icmp .ge 20, 3) := by decide +kernel
theorem d_T_start_29 : decode c_T_start 29 = .ok (.aload_n 0, 1) := by decide +kernel
theorem d_T_start_30 : decode c_T_start 30 = .ok (.getfield 21, 3) := by decide +kernel
theorem d_T_start_33 : decode c_T_start 33 = .ok (.iload 4, 2) := by decide +kernel
theorem d_T_start_35 : decode c_T_start 35 = .ok (.aaload, 1) := by decide +kernel
theorem d_T_start_36 : decode c_T_start 36 = .ok (.iconst 0, 1) := by decide +kernel
theorem d_T_start_37 : decode c_T_start 37 = .ok (.invokestatic 34, 3) := by decide +kernel
theorem d_T_start_40 : decode c_T_start 40 = .ok (.iinc 4 1, 3) := by decide +kernel
theorem d_T_start_43 : decode c_T_start 43 = .ok (.goto (-20), 3) := by decide +kernel
theorem d_T_start_46 : decode c_T_start 46 = .ok (.return_, 1) := by decide +kernel
theorem d_T_has_0 : decode c_T_has 0 = .ok (.iload_n 1, 1) := by decide +kernel
theorem d_T_has_1 : decode c_T_has 1 = .ok (.ifCond .lt 27, 3) := by decide +kernel
theorem d_T_has_4 : decode c_T_has 4 = .ok (.iload_n 1, 1) := by decide +kernel
theorem d_T_has_5 : decode c_T_has 5 = .ok (.aload_n 0, 1) := by decide +kernel
theorem d_T_has_6 : decode c_T_has 6 = .ok (.getfield 28, 3) := by decide +kernel
theorem d_T_has_9 : decode c_T_has 9 = .ok (.if_icmp .ge 19, 3) := by decide +kernel
theorem d_T_has_12 : decode c_T_has 12 = .ok (.iload_n 2, 1) := by decide +kernel
theorem d_T_has_13 : decode c_T_has 13 = .ok (.ifCond .lt 15, 3) := by decide +kernel
theorem d_T_has_16 : decode c_T_has 16 = .ok (.iload_n 2, 1) := by decide +kernel
theorem d_T_has_17 : decode c_T_has 17 = .ok (.aload_n 0, 1) := by decide +kernel
theorem d_T_has_18 : decode c_T_has 18 = .ok (.getfield 31, 3) := by decide +kernel
theorem d_T_has_21 : decode c_T_has 21 = .ok (.if_icmp .ge 7, 3) := by decide +kernel
theorem d_T_has_24 : decode c_T_has 24 = .ok (.iconst 1, 1) := by decide +kernel
theorem d_T_has_25 : decode c_T_has 25 = .ok (.goto 4, 3) := by decide +kernel
theorem d_T_has_28 : decode c_T_has 28 = .ok (.iconst 0, 1) := by decide +kernel
theorem d_T_has_29 : decode c_T_has 29 = .ok (.ireturn, 1) := by decide +kernel
theorem d_T_setSmall_0 : decode c_T_setSmall 0 = .ok (.aload_n 0, 1) := by decide +kernel
theorem d_T_setSmall_1 : decode c_T_setSmall 1 = .ok (.getfield 21, 3) := by decide +kernel
theorem d_T_setSmall_4 : decode c_T_setSmall 4 = .ok (.iload_n 1, 1) := by decide +kernel
theorem d_T_setSmall_5 : decode c_T_setSmall 5 = .ok (.aaload, 1) := by decide +kernel
theorem d_T_setSmall_6 : decode c_T_setSmall 6 = .ok (.iload_n 2, 1) := by decide +kernel
theorem d_T_setSmall_7 : decode c_T_setSmall 7 = .ok (.bipush 6, 2) := by decide +kernel
theorem d_T_setSmall_9 : decode c_T_setSmall 9 = .ok (.imul, 1) := by decide +kernel
theorem d_T_setSmall_10 : decode c_T_setSmall 10 = .ok (.iload_n 3, 1) := by decide +kernel
theorem d_T_setSmall_11 : decode c_T_setSmall 11 = .ok (.invokestatic 48, 3) := by decide +kernel
theorem d_T_setSmall_14 : decode c_T_setSmall 14 = .ok (.iastore, 1) := by decide +kernel
theorem d_T_setSmall_15 : decode c_T_setSmall 15 = .ok (.aload_n 0, 1) := by decide +kernel
theorem d_T_setSmall_16 : decode c_T_setSmall 16 = .ok (.getfield 21, 3) := by decide +kernel
theorem d_T_setSmall_19 : decode c_T_setSmall 19 = .ok (.iload_n 1, 1) := by decide +kernel
theorem d_T_setSmall_20 : decode c_T_setSmall 20 = .ok (.aaload, 1) := by decide +kernel
theorem d_T_setSmall_21 : decode c_T_setSmall 21 = .ok (.iload_n 2, 1) := by decide +kernel
theorem d_T_setSmall_22 : decode c_T_setSmall 22 = .ok (.bipush 6, 2) := by decide +kernel
theorem d_T_setSmall_24 : decode c_T_setSmall 24 = .ok (.imul, 1) := by decide +kernel
theorem d_T_setSmall_25 : decode c_T_setSmall 25 = .ok (.iconst 1, 1) := by decide +kernel
theorem d_T_setSmall_26 : decode c_T_setSmall 26 = .ok (.iadd, 1) := by decide +kernel
theorem d_T_setSmall_27 : decode c_T_setSmall 27 = .ok (.iload_n 3, 1) := by decide +kernel
theorem d_T_setSmall_28 : decode c_T_setSmall 28 = .ok (.invokestatic 54, 3) := by decide +kernel
theorem d_T_setSmall_31 : decode c_T_setSmall 31 = .ok (.iastore, 1) := by decide +kernel
theorem d_T_setSmall_32 : decode c_T_setSmall 32 = .ok (.return_, 1) := by decide +kernel
theorem d_T_findRow_0 : decode c_T_findRow 0 = .ok (.iload_n 1, 1) := by decide +kernel
theorem d_T_findRow_1 : decode c_T_findRow 1 = .ok (.istore_n 3, 1) := by decide +kernel
theorem d_T_findRow_2 : decode c_T_findRow 2 = .ok (.iload_n 3, 1) := by decide +kernel
theorem d_T_findRow_3 : decode c_T_findRow 3 = .ok (.aload_n 0, 1) := by decide +kernel
theorem d_T_findRow_4 : decode c_T_findRow 4 = .ok (.getfield 28, 3) := by decide +kernel
theorem d_T_findRow_7 : decode c_T_findRow 7 = .ok (.if_icmp .ge 20, 3) := by decide +kernel
theorem d_T_findRow_10 : decode c_T_findRow 10 = .ok (.aload_n 0, 1) := by decide +kernel
theorem d_T_findRow_11 : decode c_T_findRow 11 = .ok (.iload_n 3, 1) := by decide +kernel
theorem d_T_findRow_12 : decode c_T_findRow 12 = .ok (.iload_n 2, 1) := by decide +kernel
theorem d_T_findRow_13 : decode c_T_findRow 13 = .ok (.invokevirtual 40, 3) := by decide +kernel
theorem d_T_findRow_16 : decode c_T_findRow 16 = .ok (.ifCond .ne 5, 3) := by decide +kernel
theorem d_T_findRow_19 : decode c_T_findRow 19 = .ok (.iload_n 3, 1) := by decide +kernel
theorem d_T_findRow_20 : decode c_T_findRow 20 = .ok (.ireturn, 1) := by decide +kernel
theorem d_T_findRow_21 : decode c_T_findRow 21 = .ok (.iinc 3 1, 3) := by decide +kernel
theorem d_T_findRow_24 : decode c_T_findRow 24 = .ok (.goto (-22), 3) := by decide +kernel
theorem d_T_findRow_27 : decode c_T_findRow 27 = .ok (.iconst (-1), 1) := by decide +kernel
theorem d_T_findRow_28 : decode c_T_findRow 28 = .ok (.ireturn, 1) := by decide +kernel
theorem d_T_isZero_0 : decode c_T_isZero 0 = .ok (.aload_n 0, 1) := by decide +kernel
theorem d_T_isZero_1 : decode c_T_isZero 1 = .ok (.iload_n 1, 1) := by decide +kernel
theorem d_T_isZero_2 : decode c_T_isZero 2 = .ok (.iload_n 2, 1) := by decide +kernel
theorem d_T_isZero_3 : decode c_T_isZero 3 = .ok (.invokevirtual 44, 3) := by decide +kernel
theorem d_T_isZero_6 : decode c_T_isZero 6 = .ok (.ifCond .ne 7, 3) := by decide +kernel
theorem d_T_isZero_9 : decode c_T_isZero 9 = .ok (.iconst 1, 1) := by decide +kernel
theorem d_T_isZero_10 : decode c_T_isZero 10 = .ok (.goto 4, 3) := by decide +kernel
theorem d_T_isZero_13 : decode c_T_isZero 13 = .ok (.iconst 0, 1) := by decide +kernel
theorem d_T_isZero_14 : decode c_T_isZero 14 = .ok (.ireturn, 1) := by decide +kernel
theorem d_T_head_0 : decode c_T_head 0 = .ok (.aload_n 0, 1) := by decide +kernel
theorem d_T_head_1 : decode c_T_head 1 = .ok (.getfield 21, 3) := by decide +kernel
theorem d_T_head_4 : decode c_T_head 4 = .ok (.iload_n 1, 1) := by decide +kernel
theorem d_T_head_5 : decode c_T_head 5 = .ok (.aaload, 1) := by decide +kernel
theorem d_T_head_6 : decode c_T_head 6 = .ok (.iload_n 2, 1) := by decide +kernel
theorem d_T_head_7 : decode c_T_head 7 = .ok (.bipush 6, 2) := by decide +kernel
theorem d_T_head_9 : decode c_T_head 9 = .ok (.imul, 1) := by decide +kernel
theorem d_T_head_10 : decode c_T_head 10 = .ok (.iaload, 1) := by decide +kernel
theorem d_T_head_11 : decode c_T_head 11 = .ok (.ireturn, 1) := by decide +kernel
theorem d_T_swapRows_0 : decode c_T_swapRows 0 = .ok (.aload_n 0, 1) := by decide +kernel
theorem d_T_swapRows_1 : decode c_T_swapRows 1 = .ok (.getfield 21, 3) := by decide +kernel
theorem d_T_swapRows_4 : decode c_T_swapRows 4 = .ok (.iload_n 1, 1) := by decide +kernel
theorem d_T_swapRows_5 : decode c_T_swapRows 5 = .ok (.aaload, 1) := by decide +kernel
theorem d_T_swapRows_6 : decode c_T_swapRows 6 = .ok (.astore_n 3, 1) := by decide +kernel
theorem d_T_swapRows_7 : decode c_T_swapRows 7 = .ok (.aload_n 0, 1) := by decide +kernel
theorem d_T_swapRows_8 : decode c_T_swapRows 8 = .ok (.getfield 21, 3) := by decide +kernel
theorem d_T_swapRows_11 : decode c_T_swapRows 11 = .ok (.iload_n 1, 1) := by decide +kernel
theorem d_T_swapRows_12 : decode c_T_swapRows 12 = .ok (.aload_n 0, 1) := by decide +kernel
theorem d_T_swapRows_13 : decode c_T_swapRows 13 = .ok (.getfield 21, 3) := by decide +kernel
theorem d_T_swapRows_16 : decode c_T_swapRows 16 = .ok (.iload_n 2, 1) := by decide +kernel
theorem d_T_swapRows_17 : decode c_T_swapRows 17 = .ok (.aaload, 1) := by decide +kernel
theorem d_T_swapRows_18 : decode c_T_swapRows 18 = .ok (.aastore, 1) := by decide +kernel
theorem d_T_swapRows_19 : decode c_T_swapRows 19 = .ok (.aload_n 0, 1) := by decide +kernel
theorem d_T_swapRows_20 : decode c_T_swapRows 20 = .ok (.getfield 21, 3) := by decide +kernel
theorem d_T_swapRows_23 : decode c_T_swapRows 23 = .ok (.iload_n 2, 1) := by decide +kernel
theorem d_T_swapRows_24 : decode c_T_swapRows 24 = .ok (.aload_n 3, 1) := by decide +kernel
theorem d_T_swapRows_25 : decode c_T_swapRows 25 = .ok (.aastore, 1) := by decide +kernel
theorem d_T_swapRows_26 : decode c_T_swapRows 26 = .ok (.return_, 1) := by decide +kernel
theorem d_T_load_0 : decode c_T_load 0 = .ok (.aload_n 0, 1) := by decide +kernel
theorem d_T_load_1 : decode c_T_load 1 = .ok (.iload_n 1, 1) := by decide +kernel
theorem d_T_load_2 : decode c_T_load 2 = .ok (.iload_n 2, 1) := by decide +kernel
theorem d_T_load_3 : decode c_T_load 3 = .ok (.invokevirtual 44, 3) := by decide +kernel
theorem d_T_load_6 : decode c_T_load 6 = .ok (.istore 4, 2) := by decide +kernel
theorem d_T_load_8 : decode c_T_load 8 = .ok (.aload_n 3, 1) := by decide +kernel
theorem d_T_load_9 : decode c_T_load 9 = .ok (.iload 4, 2) := by decide +kernel
theorem d_T_load_11 : decode c_T_load 11 = .ok (.invokestatic 54, 3) := by decide +kernel
theorem d_T_load_14 : decode c_T_load 14 = .ok (.putfield 59, 3) := by decide +kernel
theorem d_T_load_17 : decode c_T_load 17 = .ok (.aload_n 3, 1) := by decide +kernel
theorem d_T_load_18 : decode c_T_load 18 = .ok (.iload 4, 2) := by decide +kernel
theorem d_T_load_20 : decode c_T_load 20 = .ok (.invokestatic 48, 3) := by decide +kernel
theorem d_T_load_23 : decode c_T_load 23 = .ok (.putfield 64, 3) := by decide +kernel
theorem d_T_load_26 : decode c_T_load 26 = .ok (.aload_n 0, 1) := by decide +kernel
theorem d_T_load_27 : decode c_T_load 27 = .ok (.getfield 21, 3) := by decide +kernel
theorem d_T_load_30 : decode c_T_load 30 = .ok (.iload_n 1, 1) := by decide +kernel
theorem d_T_load_31 : decode c_T_load 31 = .ok (.aaload, 1) := by decide +kernel
theorem d_T_load_32 : decode c_T_load 32 = .ok (.iload_n 2, 1) := by decide +kernel
theorem d_T_load_33 : decode c_T_load 33 = .ok (.bipush 6, 2) := by decide +kernel
theorem d_T_load_35 : decode c_T_load 35 = .ok (.imul, 1) := by decide +kernel
theorem d_T_load_36 : decode c_T_load 36 = .ok (.iconst 1, 1) := by decide +kernel
theorem d_T_load_37 : decode c_T_load 37 = .ok (.iadd, 1) := by decide +kernel
theorem d_T_load_38 : decode c_T_load 38 = .ok (.aload_n 3, 1) := by decide +kernel
theorem d_T_load_39 : decode c_T_load 39 = .ok (.getfield 66, 3) := by decide +kernel
theorem d_T_load_42 : decode c_T_load 42 = .ok (.iconst 0, 1) := by decide +kernel
theorem d_T_load_43 : decode c_T_load 43 = .ok (.aload_n 3, 1) := by decide +kernel
theorem d_T_load_44 : decode c_T_load 44 = .ok (.getfield 59, 3) := by decide +kernel
theorem d_T_load_47 : decode c_T_load 47 = .ok (.invokestatic 69, 3) := by decide +kernel
theorem d_T_load_50 : decode c_T_load 50 = .ok (.return_, 1) := by decide +kernel
theorem d_W_setZero_0 : decode c_W_setZero 0 = .ok (.aload_n 0, 1) := by decide +kernel
theorem d_W_setZero_1 : decode c_W_setZero 1 = .ok (.iconst 0, 1) := by decide +kernel
theorem d_W_setZero_2 : decode c_W_setZero 2 = .ok (.putfield 15, 3) := by decide +kernel
theorem d_W_setZero_5 : decode c_W_setZero 5 = .ok (.aload_n 0, 1) := by decide +kernel
theorem d_W_setZero_6 : decode c_W_setZero 6 = .ok (.iconst 0, 1) := by decide +kernel
theorem d_W_setZero_7 : decode c_W_setZero 7 = .ok (.putfield 19, 3) := by decide +kernel
theorem d_W_setZero_10 : decode c_W_setZero 10 = .ok (.return_, 1) := by decide +kernel
theorem d_W_isOne_0 : decode c_W_isOne 0 = .ok (.aload_n 0, 1) := by decide +kernel
theorem d_W_isOne_1 : decode c_W_isOne 1 = .ok (.getfield 15, 3) := by decide +kernel
theorem d_W_isOne_4 : decode c_W_isOne 4 = .ok (.iconst 1, 1) := by decide +kernel
theorem d_W_isOne_5 : decode c_W_isOne 5 = .ok (.if_icmp .ne 25, 3) := by decide +kernel
theorem d_W_isOne_8 : decode c_W_isOne 8 = .ok (.aload_n 0, 1) := by decide +kernel
theorem d_W_isOne_9 : decode c_W_isOne 9 = .ok (.getfield 11, 3) := by decide +kernel
theorem d_W_isOne_12 : decode c_W_isOne 12 = .ok (.iconst 0, 1) := by decide +kernel
theorem d_W_isOne_13 : decode c_W_isOne 13 = .ok (.iaload, 1) := by decide +kernel
theorem d_W_isOne_14 : decode c_W_isOne 14 = .ok (.iconst 1, 1) := by decide +kernel
theorem d_W_isOne_15 : decode c_W_isOne 15 = .ok (.if_icmp .ne 15, 3) := by decide +kernel
theorem d_W_isOne_18 : decode c_W_isOne 18 = .ok (.aload_n 0, 1) := by decide +kernel
theorem d_W_isOne_19 : decode c_W_isOne 19 = .ok (.getfield 19, 3) := by decide +kernel
theorem d_W_isOne_22 : decode c_W_isOne 22 = .ok (.iconst 1, 1) := by decide +kernel
theorem d_W_isOne_23 : decode c_W_isOne 23 = .ok (.if_icmp .ne 7, 3) := by decide +kernel
theorem d_W_isOne_26 : decode c_W_isOne 26 = .ok (.iconst 1, 1) := by decide +kernel
theorem d_W_isOne_27 : decode c_W_isOne 27 = .ok (.goto 4, 3) := by decide +kernel
theorem d_W_isOne_30 : decode c_W_isOne 30 = .ok (.iconst 0, 1) := by decide +kernel
theorem d_W_isOne_31 : decode c_W_isOne 31 = .ok (.ireturn, 1) := by decide +kernel
theorem d_W_setSize_0 : decode c_W_setSize 0 = .ok (.aload_n 1, 1) := by decide +kernel
theorem d_W_setSize_1 : decode c_W_setSize 1 = .ok (.getfield 11, 3) := by decide +kernel
theorem d_W_setSize_4 : decode c_W_setSize 4 = .ok (.iconst 0, 1) := by decide +kernel
theorem d_W_setSize_5 : decode c_W_setSize 5 = .ok (.aload_n 0, 1) := by decide +kernel
theorem d_W_setSize_6 : decode c_W_setSize 6 = .ok (.getfield 11, 3) := by decide +kernel
theorem d_W_setSize_9 : decode c_W_setSize 9 = .ok (.iconst 0, 1) := by decide +kernel
theorem d_W_setSize_10 : decode c_W_setSize 10 = .ok (.aload_n 1, 1) := by decide +kernel
theorem d_W_setSize_11 : decode c_W_setSize 11 = .ok (.getfield 15, 3) := by decide +kernel
theorem d_W_setSize_14 : decode c_W_setSize 14 = .ok (.invokestatic 22, 3) := by decide +kernel
theorem d_W_setSize_17 : decode c_W_setSize 17 = .ok (.aload_n 0, 1) := by decide +kernel
theorem d_W_setSize_18 : decode c_W_setSize 18 = .ok (.aload_n 1, 1) := by decide +kernel
theorem d_W_setSize_19 : decode c_W_setSize 19 = .ok (.getfield 15, 3) := by decide +kernel
theorem d_W_setSize_22 : decode c_W_setSize 22 = .ok (.putfield 15, 3) := by decide +kernel
theorem d_W_setSize_25 : decode c_W_setSize 25 = .ok (.aload_n 0, 1) := by decide +kernel
theorem d_W_setSize_26 : decode c_W_setSize 26 = .ok (.aload_n 1, 1) := by decide +kernel
theorem d_W_setSize_27 : decode c_W_setSize 27 = .ok (.getfield 19, 3) := by decide +kernel
theorem d_W_setSize_30 : decode c_W_setSize 30 = .ok (.invokestatic 28, 3) := by decide +kernel
theorem d_W_setSize_33 : decode c_W_setSize 33 = .ok (.putfield 19, 3) := by decide +kernel
theorem d_W_setSize_36 : decode c_W_setSize 36 = .ok (.return_, 1) := by decide +kernel
theorem d_W_divide_0 : decode c_W_divide 0 = .ok (.aload_n 1, 1) := by decide +kernel
theorem d_W_divide_1 : decode c_W_divide 1 = .ok (.getfield 15, 3) := by decide +kernel
theorem d_W_divide_4 : decode c_W_divide 4 = .ok (.istore_n 3, 1) := by decide +kernel
theorem d_W_divide_5 : decode c_W_divide 5 = .ok (.aload_n 2, 1) := by decide +kernel
theorem d_W_divide_6 : decode c_W_divide 6 = .ok (.invokevirtual 34, 3) := by decide +kernel
theorem d_W_divide_9 : decode c_W_divide 9 = .ok (.iload_n 3, 1) := by decide +kernel
theorem d_W_divide_10 : decode c_W_divide 10 = .ok (.ifCond .eq 20, 3) := by decide +kernel
theorem d_W_divide_13 : decode c_W_divide 13 = .ok (.aload_n 0, 1) := by decide +kernel
theorem d_W_divide_14 : decode c_W_divide 14 = .ok (.getfield 15, 3) := by decide +kernel
theorem d_W_divide_17 : decode c_W_divide 17 = .ok (.iload_n 3, 1) := by decide +kernel
theorem d_W_divide_18 : decode c_W_divide 18 = .ok (.if_icmp .lt 12, 3) := by decide +kernel
theorem d_W_divide_21 : decode c_W_divide 21 = .ok (.aload_n 0, 1) := by decide +kernel
theorem d_W_divide_22 : decode c_W_divide 22 = .ok (.getfield 15, 3) := by decide +kernel
theorem d_W_divide_25 : decode c_W_divide 25 = .ok (.bipush 12, 2) := by decide +kernel
theorem d_W_divide_27 : decode c_W_divide 27 = .ok (.if_icmp .lt 4, 3) := by decide +kernel
theorem d_W_divide_30 : decode c_W_divide 30 = .ok (.return_, 1) := by decide +kernel
theorem d_W_divide_31 : decode c_W_divide 31 = .ok (.aload_n 1, 1) := by decide +kernel
theorem d_W_divide_32 : decode c_W_divide 32 = .ok (.getfield 11, 3) := by decide +kernel
theorem d_W_divide_35 : decode c_W_divide 35 = .ok (.iload_n 3, 1) := by decide +kernel
theorem d_W_divide_36 : decode c_W_divide 36 = .ok (.iconst 1, 1) := by decide +kernel
theorem d_W_divide_37 : decode c_W_divide 37 = .ok (.isub, 1) := by decide +kernel
theorem d_W_divide_38 : decode c_W_divide 38 = .ok (.iaload, 1) := by decide +kernel
theorem d_W_divide_39 : decode c_W_divide 39 = .ok (.invokestatic 60, 3) := by decide +kernel
theorem d_W_divide_42 : decode c_W_divide 42 = .ok (.iconst 2, 1) := by decide +kernel
theorem d_W_divide_43 : decode c_W_divide 43 = .ok (.isub, 1) := by decide +kernel
theorem d_W_divide_44 : decode c_W_divide 44 = .ok (.istore 4, 2) := by decide +kernel
theorem d_W_divide_46 : decode c_W_divide 46 = .ok (.lconst 1, 1) := by decide +kernel
theorem d_W_divide_47 : decode c_W_divide 47 = .ok (.aload_n 1, 1) := by decide +kernel
theorem d_W_divide_48 : decode c_W_divide 48 = .ok (.iload_n 3, 1) := by decide +kernel
theorem d_W_divide_49 : decode c_W_divide 49 = .ok (.iload 4, 2) := by decide +kernel
theorem d_W_divide_51 : decode c_W_divide 51 = .ok (.invokevirtual 65, 3) := by decide +kernel
theorem d_W_divide_54 : decode c_W_divide 54 = .ok (.bipush 30, 2) := by decide +kernel
theorem d_W_divide_56 : decode c_W_divide 56 = .ok (.lshr, 1) := by decide +kernel
theorem d_W_divide_57 : decode c_W_divide 57 = .ok (.invokestatic 69, 3) := by decide +kernel
theorem d_W_divide_60 : decode c_W_divide 60 = .ok (.lstore 5, 2) := by decide +kernel
theorem d_W_divide_62 : decode c_W_divide 62 = .ok (.aload_n 2, 1) := by decide +kernel
theorem d_W_divide_63 : decode c_W_divide 63 = .ok (.aload_n 0, 1) := by decide +kernel
theorem d_W_divide_64 : decode c_W_divide 64 = .ok (.getfield 15, 3) := by decide +kernel
theorem d_W_divide_67 : decode c_W_divide 67 = .ok (.iload_n 3, 1) := by decide +kernel
theorem d_W_divide_68 : decode c_W_divide 68 = .ok (.isub, 1) := by decide +kernel
theorem d_W_divide_69 : decode c_W_divide 69 = .ok (.iconst 1, 1) := by decide +kernel
theorem d_W_divide_70 : decode c_W_divide 70 = .ok (.iadd, 1) := by decide +kernel
theorem d_W_divide_71 : decode c_W_divide 71 = .ok (.putfield 15, 3) := by decide +kernel
theorem d_W_divide_74 : decode c_W_divide 74 = .ok (.aload_n 2, 1) := by decide +kernel
theorem d_W_divide_75 : decode c_W_divide 75 = .ok (.aload_n 0, 1) := by decide +kernel
theorem d_W_divide_76 : decode c_W_divide 76 = .ok (.getfield 19, 3) := by decide +kernel
theorem d_W_divide_79 : decode c_W_divide 79 = .ok (.aload_n 1, 1) := by decide +kernel
theorem d_W_divide_80 : decode c_W_divide 80 = .ok (.getfield 19, 3) := by decide +kernel
theorem d_W_divide_83 : decode c_W_divide 83 = .ok (.imul, 1) := by decide +kernel
theorem d_W_divide_84 : decode c_W_divide 84 = .ok (.putfield 19, 3) := by decide +kernel
theorem d_W_divide_87 : decode c_W_divide 87 = .ok (.aload_n 0, 1) := by decide +kernel
theorem d_W_divide_88 : decode c_W_divide 88 = .ok (.getfield 11, 3) := by decide +kernel
theorem d_W_divide_91 : decode c_W_divide 91 = .ok (.aload_n 0, 1) := by decide +kernel
theorem d_W_divide_92 : decode c_W_divide 92 = .ok (.getfield 15, 3) := by decide +kernel
theorem d_W_divide_95 : decode c_W_divide 95 = .ok (.iconst 0, 1) := by decide +kernel
theorem d_W_divide_96 : decode c_W_divide 96 = .ok (.iastore, 1) := by decide +kernel
theorem d_W_divide_97 : decode c_W_divide 97 = .ok (.aload_n 0, 1) := by decide +kernel
theorem d_W_divide_98 : decode c_W_divide 98 = .ok (.getfield 15, 3) := by decide +kernel
theorem d_W_divide_101 : decode c_W_divide 101 = .ok (.iload_n 3, 1) := by decide +kernel
theorem d_W_divide_102 : decode c_W_divide 102 = .ok (.isub, 1) := by decide +kernel
theorem d_W_divide_103 : decode c_W_divide 103 = .ok (.istore 7, 2) := by decide +kernel
theorem d_W_divide_105 : decode c_W_divide 105 = .ok (.iload 7, 2) := by decide +kernel
theorem d_W_divide_107 : decode c_W_divide 107 = .ok (.ifCond .lt 48, 3) := by decide +kernel
theorem d_W_divide_110 : decode c_W_divide 110 = .ok (.aload_n 0, 1) := by decide +kernel
theorem d_W_divide_111 : decode c_W_divide 111 = .ok (.iload 7, 2) := by decide +kernel
theorem d_W_divide_113 : decode c_W_divide 113 = .ok (.iload_n 3, 1) := by decide +kernel
theorem d_W_divide_114 : decode c_W_divide 114 = .ok (.iadd, 1) := by decide +kernel
theorem d_W_divide_115 : decode c_W_divide 115 = .ok (.iconst 1, 1) := by decide +kernel
theorem d_W_divide_116 : decode c_W_divide 116 = .ok (.iadd, 1) := by decide +kernel
theorem d_W_divide_117 : decode c_W_divide 117 = .ok (.iload 4, 2) := by decide +kernel
theorem d_W_divide_119 : decode c_W_divide 119 = .ok (.invokevirtual 65, 3) := by decide +kernel
theorem d_W_divide_122 : decode c_W_divide 122 = .ok (.lload 5, 2) := by decide +kernel
theorem d_W_divide_124 : decode c_W_divide 124 = .ok (.ldiv, 1) := by decide +kernel
theorem d_W_divide_125 : decode c_W_divide 125 = .ok (.ldc2_w 43, 3) := by decide +kernel
theorem d_W_divide_128 : decode c_W_divide 128 = .ok (.invokestatic 73, 3) := by decide +kernel
theorem d_W_divide_131 : decode c_W_divide 131 = .ok (.lstore 8, 2) := by decide +kernel
theorem d_W_divide_133 : decode c_W_divide 133 = .ok (.aload_n 2, 1) := by decide +kernel
theorem d_W_divide_134 : decode c_W_divide 134 = .ok (.getfield 11, 3) := by decide +kernel
theorem d_W_divide_137 : decode c_W_divide 137 = .ok (.iload 7, 2) := by decide +kernel
theorem d_W_divide_139 : decode c_W_divide 139 = .ok (.aload_n 0, 1) := by decide +kernel
theorem d_W_divide_140 : decode c_W_divide 140 = .ok (.aload_n 1, 1) := by decide +kernel
theorem d_W_divide_141 : decode c_W_divide 141 = .ok (.lload 8, 2) := by decide +kernel
theorem d_W_divide_143 : decode c_W_divide 143 = .ok (.iload 7, 2) := by decide +kernel
theorem d_W_divide_145 : decode c_W_divide 145 = .ok (.invokevirtual 76, 3) := by decide +kernel
theorem d_W_divide_148 : decode c_W_divide 148 = .ok (.iastore, 1) := by decide +kernel
theorem d_W_divide_149 : decode c_W_divide 149 = .ok (.iinc 7 (-1), 3) := by decide +kernel
theorem d_W_divide_152 : decode c_W_divide 152 = .ok (.goto (-47), 3) := by decide +kernel
theorem d_W_divide_155 : decode c_W_divide 155 = .ok (.aload_n 2, 1) := by decide +kernel
theorem d_W_divide_156 : decode c_W_divide 156 = .ok (.invokevirtual 45, 3) := by decide +kernel
theorem d_W_divide_159 : decode c_W_divide 159 = .ok (.aload_n 0, 1) := by decide +kernel
theorem d_W_divide_160 : decode c_W_divide 160 = .ok (.iload_n 3, 1) := by decide +kernel
theorem d_W_divide_161 : decode c_W_divide 161 = .ok (.putfield 15, 3) := by decide +kernel
theorem d_W_divide_164 : decode c_W_divide 164 = .ok (.aload_n 0, 1) := by decide +kernel
theorem d_W_divide_165 : decode c_W_divide 165 = .ok (.invokevirtual 45, 3) := by decide +kernel
theorem d_W_divide_168 : decode c_W_divide 168 = .ok (.return_, 1) := by decide +kernel
theorem d_W_topBelow_0 : decode c_W_topBelow 0 = .ok (.iload_n 1, 1) := by decide +kernel
theorem d_W_topBelow_1 : decode c_W_topBelow 1 = .ok (.iconst 1, 1) := by decide +kernel
theorem d_W_topBelow_2 : decode c_W_topBelow 2 = .ok (.if_icmp .lt 15, 3) := by decide +kernel
theorem d_W_topBelow_5 : decode c_W_topBelow 5 = .ok (.aload_n 0, 1) := by decide +kernel
theorem d_W_topBelow_6 : decode c_W_topBelow 6 = .ok (.getfield 11, 3) := by decide +kernel
theorem d_W_topBelow_9 : decode c_W_topBelow 9 = .ok (.iload_n 1, 1) := by decide +kernel
theorem d_W_topBelow_10 : decode c_W_topBelow 10 = .ok (.iconst 1, 1) := by decide +kernel
theorem d_W_topBelow_11 : decode c_W_topBelow 11 = .ok (.isub, 1) := by decide +kernel
theorem d_W_topBelow_12 : decode c_W_topBelow 12 = .ok (.iaload, 1) := by decide +kernel
theorem d_W_topBelow_13 : decode c_W_topBelow 13 = .ok (.i2l, 1) := by decide +kernel
theorem d_W_topBelow_14 : decode c_W_topBelow 14 = .ok (.goto 4, 3) := by decide +kernel
theorem d_W_topBelow_17 : decode c_W_topBelow 17 = .ok (.lconst 0, 1) := by decide +kernel
theorem d_W_topBelow_18 : decode c_W_topBelow 18 = .ok (.lstore_n 3, 1) := by decide +kernel
theorem d_W_topBelow_19 : decode c_W_topBelow 19 = .ok (.iload_n 1, 1) := by decide +kernel
theorem d_W_topBelow_20 : decode c_W_topBelow 20 = .ok (.iconst 2, 1) := by decide +kernel
theorem d_W_topBelow_21 : decode c_W_topBelow 21 = .ok (.if_icmp .lt 15, 3) := by decide +kernel
theorem d_W_topBelow_24 : decode c_W_topBelow 24 = .ok (.aload_n 0, 1) := by decide +kernel
theorem d_W_topBelow_25 : decode c_W_topBelow 25 = .ok (.getfield 11, 3) := by decide +kernel
theorem d_W_topBelow_28 : decode c_W_topBelow 28 = .ok (.iload_n 1, 1) := by decide +kernel
theorem d_W_topBelow_29 : decode c_W_topBelow 29 = .ok (.iconst 2, 1) := by decide +kernel
theorem d_W_topBelow_30 : decode c_W_topBelow 30 = .ok (.isub, 1) := by decide +kernel
theorem d_W_topBelow_31 : decode c_W_topBelow 31 = .ok (.iaload, 1) := by decide +kernel
theorem d_W_topBelow_32 : decode c_W_topBelow 32 = .ok (.i2l, 1) := by decide +kernel
theorem d_W_topBelow_33 : decode c_W_topBelow 33 = .ok (.goto 4, 3) := by decide +kernel
theorem d_W_topBelow_36 : decode c_W_topBelow 36 = .ok (.lconst 0, 1) := by decide +kernel
theorem d_W_topBelow_37 : decode c_W_topBelow 37 = .ok (.lstore 5, 2) := by decide +kernel
theorem d_W_topBelow_39 : decode c_W_topBelow 39 = .ok (.iload_n 1, 1) := by decide +kernel
theorem d_W_topBelow_40 : decode c_W_topBelow 40 = .ok (.iconst 3, 1) := by decide +kernel
theorem d_W_topBelow_41 : decode c_W_topBelow 41 = .ok (.if_icmp .lt 15, 3) := by decide +kernel
theorem d_W_topBelow_44 : decode c_W_topBelow 44 = .ok (.aload_n 0, 1) := by decide +kernel
theorem d_W_topBelow_45 : decode c_W_topBelow 45 = .ok (.getfield 11, 3) := by decide +kernel
theorem d_W_topBelow_48 : decode c_W_topBelow 48 = .ok (.iload_n 1, 1) := by decide +kernel
theorem d_W_topBelow_49 : decode c_W_topBelow 49 = .ok (.iconst 3, 1) := by decide +kernel
theorem d_W_topBelow_50 : decode c_W_topBelow 50 = .ok (.isub, 1) := by decide +kernel
theorem d_W_topBelow_51 : decode c_W_topBelow 51 = .ok (.iaload, 1) := by decide +kernel
theorem d_W_topBelow_52 : decode c_W_topBelow 52 = .ok (.i2l, 1) := by decide +kernel
theorem d_W_topBelow_53 : decode c_W_topBelow 53 = .ok (.goto 4, 3) := by decide +kernel
theorem d_W_topBelow_56 : decode c_W_topBelow 56 = .ok (.lconst 0, 1) := by decide +kernel
theorem d_W_topBelow_57 : decode c_W_topBelow 57 = .ok (.lstore 7, 2) := by decide +kernel
theorem d_W_topBelow_59 : decode c_W_topBelow 59 = .ok (.lload_n 3, 1) := by decide +kernel
theorem d_W_topBelow_60 : decode c_W_topBelow 60 = .ok (.bipush 30, 2) := by decide +kernel
theorem d_W_topBelow_62 : decode c_W_topBelow 62 = .ok (.lshl, 1) := by decide +kernel
theorem d_W_topBelow_63 : decode c_W_topBelow 63 = .ok (.lload 5, 2) := by decide +kernel
theorem d_W_topBelow_65 : decode c_W_topBelow 65 = .ok (.lor, 1) := by decide +kernel
theorem d_W_topBelow_66 : decode c_W_topBelow 66 = .ok (.iload_n 2, 1) := by decide +kernel
theorem d_W_topBelow_67 : decode c_W_topBelow 67 = .ok (.lshl, 1) := by decide +kernel
theorem d_W_topBelow_68 : decode c_W_topBelow 68 = .ok (.lload 7, 2) := by decide +kernel
theorem d_W_topBelow_70 : decode c_W_topBelow 70 = .ok (.bipush 30, 2) := by decide +kernel
theorem d_W_topBelow_72 : decode c_W_topBelow 72 = .ok (.iload_n 2, 1) := by decide +kernel
theorem d_W_topBelow_73 : decode c_W_topBelow 73 = .ok (.isub, 1) := by decide +kernel
theorem d_W_topBelow_74 : decode c_W_topBelow 74 = .ok (.lshr, 1) := by decide +kernel
theorem d_W_topBelow_75 : decode c_W_topBelow 75 = .ok (.lor, 1) := by decide +kernel
theorem d_W_topBelow_76 : decode c_W_topBelow 76 = .ok (.lreturn, 1) := by decide +kernel
theorem d_W_takeAway_0 : decode c_W_takeAway 0 = .ok (.iload 4, 2) := by decide +kernel
theorem d_W_takeAway_2 : decode c_W_takeAway 2 = .ok (.aload_n 1, 1) := by decide +kernel
theorem d_W_takeAway_3 : decode c_W_takeAway 3 = .ok (.getfield 15, 3) := by decide +kernel
theorem d_W_takeAway_6 : decode c_W_takeAway 6 = .ok (.iadd, 1) := by decide +kernel
theorem d_W_takeAway_7 : decode c_W_takeAway 7 = .ok (.istore 5, 2) := by decide +kernel
theorem d_W_takeAway_9 : decode c_W_takeAway 9 = .ok (.lconst 0, 1) := by decide +kernel
theorem d_W_takeAway_10 : decode c_W_takeAway 10 = .ok (.lstore 6, 2) := by decide +kernel
theorem d_W_takeAway_12 : decode c_W_takeAway 12 = .ok (.iconst 0, 1) := by decide +kernel
theorem d_W_takeAway_13 : decode c_W_takeAway 13 = .ok (.istore 8, 2) := by decide +kernel
theorem d_W_takeAway_15 : decode c_W_takeAway 15 = .ok (.iload 8, 2) := by decide +kernel
theorem d_W_takeAway_17 : decode c_W_takeAway 17 = .ok (.aload_n 1, 1) := by decide +kernel
theorem d_W_takeAway_18 : decode c_W_takeAway 18 = .ok (.getfield 15, 3) := by decide +kernel
theorem d_W_takeAway_21 : decode c_W_takeAway 21 = .ok (.if_icmp .ge 60, 3) := by decide +kernel
theorem d_W_takeAway_24 : decode c_W_takeAway 24 = .ok (.lload 6, 2) := by decide +kernel
theorem d_W_takeAway_26 : decode c_W_takeAway 26 = .ok (.aload_n 0, 1) := by decide +kernel
theorem d_W_takeAway_27 : decode c_W_takeAway 27 = .ok (.getfield 11, 3) := by decide +kernel
theorem d_W_takeAway_30 : decode c_W_takeAway 30 = .ok (.iload 4, 2) := by decide +kernel
theorem d_W_takeAway_32 : decode c_W_takeAway 32 = .ok (.iload 8, 2) := by decide +kernel
theorem d_W_takeAway_34 : decode c_W_takeAway 34 = .ok (.iadd, 1) := by decide +kernel
theorem d_W_takeAway_35 : decode c_W_takeAway 35 = .ok (.iaload, 1) := by decide +kernel
theorem d_W_takeAway_36 : decode c_W_takeAway 36 = .ok (.i2l, 1) := by decide +kernel
theorem d_W_takeAway_37 : decode c_W_takeAway 37 = .ok (.lload_n 2, 1) := by decide +kernel
theorem d_W_takeAway_38 : decode c_W_takeAway 38 = .ok (.aload_n 1, 1) := by decide +kernel
theorem d_W_takeAway_39 : decode c_W_takeAway 39 = .ok (.getfield 11, 3) := by decide +kernel
theorem d_W_takeAway_42 : decode c_W_takeAway 42 = .ok (.iload 8, 2) := by decide +kernel
theorem d_W_takeAway_44 : decode c_W_takeAway 44 = .ok (.iaload, 1) := by decide +kernel
theorem d_W_takeAway_45 : decode c_W_takeAway 45 = .ok (.i2l, 1) := by decide +kernel
theorem d_W_takeAway_46 : decode c_W_takeAway 46 = .ok (.lmul, 1) := by decide +kernel
theorem d_W_takeAway_47 : decode c_W_takeAway 47 = .ok (.lsub, 1) := by decide +kernel
theorem d_W_takeAway_48 : decode c_W_takeAway 48 = .ok (.ladd, 1) := by decide +kernel
theorem d_W_takeAway_49 : decode c_W_takeAway 49 = .ok (.lstore 6, 2) := by decide +kernel
theorem d_W_takeAway_51 : decode c_W_takeAway 51 = .ok (.aload_n 0, 1) := by decide +kernel
theorem d_W_takeAway_52 : decode c_W_takeAway 52 = .ok (.getfield 11, 3) := by decide +kernel
theorem d_W_takeAway_55 : decode c_W_takeAway 55 = .ok (.iload 4, 2) := by decide +kernel
theorem d_W_takeAway_57 : decode c_W_takeAway 57 = .ok (.iload 8, 2) := by decide +kernel
theorem d_W_takeAway_59 : decode c_W_takeAway 59 = .ok (.iadd, 1) := by decide +kernel
theorem d_W_takeAway_60 : decode c_W_takeAway 60 = .ok (.lload 6, 2) := by decide +kernel
theorem d_W_takeAway_62 : decode c_W_takeAway 62 = .ok (.ldc2_w 43, 3) := by decide +kernel
theorem d_W_takeAway_65 : decode c_W_takeAway 65 = .ok (.land, 1) := by decide +kernel
theorem d_W_takeAway_66 : decode c_W_takeAway 66 = .ok (.l2i, 1) := by decide +kernel
theorem d_W_takeAway_67 : decode c_W_takeAway 67 = .ok (.iastore, 1) := by decide +kernel
theorem d_W_takeAway_68 : decode c_W_takeAway 68 = .ok (.lload 6, 2) := by decide +kernel
theorem d_W_takeAway_70 : decode c_W_takeAway 70 = .ok (.bipush 30, 2) := by decide +kernel
theorem d_W_takeAway_72 : decode c_W_takeAway 72 = .ok (.lshr, 1) := by decide +kernel
theorem d_W_takeAway_73 : decode c_W_takeAway 73 = .ok (.lstore 6, 2) := by decide +kernel
theorem d_W_takeAway_75 : decode c_W_takeAway 75 = .ok (.iinc 8 1, 3) := by decide +kernel
theorem d_W_takeAway_78 : decode c_W_takeAway 78 = .ok (.goto (-63), 3) := by decide +kernel
theorem d_W_takeAway_81 : decode c_W_takeAway 81 = .ok (.aload_n 0, 1) := by decide +kernel
theorem d_W_takeAway_82 : decode c_W_takeAway 82 = .ok (.getfield 11, 3) := by decide +kernel
theorem d_W_takeAway_85 : decode c_W_takeAway 85 = .ok (.iload 5, 2) := by decide +kernel
theorem d_W_takeAway_87 : decode c_W_takeAway 87 = .ok (.iaload, 1) := by decide +kernel
theorem d_W_takeAway_88 : decode c_W_takeAway 88 = .ok (.i2l, 1) := by decide +kernel
theorem d_W_takeAway_89 : decode c_W_takeAway 89 = .ok (.lload 6, 2) := by decide +kernel
theorem d_W_takeAway_91 : decode c_W_takeAway 91 = .ok (.ladd, 1) := by decide +kernel
theorem d_W_takeAway_92 : decode c_W_takeAway 92 = .ok (.l2i, 1) := by decide +kernel
theorem d_W_takeAway_93 : decode c_W_takeAway 93 = .ok (.istore 8, 2) := by decide +kernel
theorem d_W_takeAway_95 : decode c_W_takeAway 95 = .ok (.lload_n 2, 1) := by decide +kernel
theorem d_W_takeAway_96 : decode c_W_takeAway 96 = .ok (.l2i, 1) := by decide +kernel
theorem d_W_takeAway_97 : decode c_W_takeAway 97 = .ok (.istore 9, 2) := by decide +kernel
theorem d_W_takeAway_99 : decode c_W_takeAway 99 = .ok (.iconst 0, 1) := by decide +kernel
theorem d_W_takeAway_100 : decode c_W_takeAway 100 = .ok (.istore 10, 2) := by decide +kernel
theorem d_W_takeAway_102 : decode c_W_takeAway 102 = .ok (.iload 10, 2) := by decide +kernel
theorem d_W_takeAway_104 : decode c_W_takeAway 104 = .ok (.iconst 2, 1) := by decide +kernel
theorem d_W_takeAway_105 : decode c_W_takeAway 105 = .ok (.if_icmp .ge 94, 3) := by decide +kernel
theorem d_W_takeAway_108 : decode c_W_takeAway 108 = .ok (.iload 8, 2) := by decide +kernel
theorem d_W_takeAway_110 : decode c_W_takeAway 110 = .ok (.ifCond .ge 89, 3) := by decide +kernel
theorem d_W_takeAway_113 : decode c_W_takeAway 113 = .ok (.lconst 0, 1) := by decide +kernel
theorem d_W_takeAway_114 : decode c_W_takeAway 114 = .ok (.lstore 6, 2) := by decide +kernel
theorem d_W_takeAway_116 : decode c_W_takeAway 116 = .ok (.iconst 0, 1) := by decide +kernel
theorem d_W_takeAway_117 : decode c_W_takeAway 117 = .ok (.istore 11, 2) := by decide +kernel
theorem d_W_takeAway_119 : decode c_W_takeAway 119 = .ok (.iload 11, 2) := by decide +kernel
theorem d_W_takeAway_121 : decode c_W_takeAway 121 = .ok (.aload_n 1, 1) := by decide +kernel
theorem d_W_takeAway_122 : decode c_W_takeAway 122 = .ok (.getfield 15, 3) := by decide +kernel
theorem d_W_takeAway_125 : decode c_W_takeAway 125 = .ok (.if_icmp .ge 57, 3) := by decide +kernel
theorem d_W_takeAway_128 : decode c_W_takeAway 128 = .ok (.lload 6, 2) := by decide +kernel
theorem d_W_takeAway_130 : decode c_W_takeAway 130 = .ok (.aload_n 0, 1) := by decide +kernel
theorem d_W_takeAway_131 : decode c_W_takeAway 131 = .ok (.getfield 11, 3) := by decide +kernel
theorem d_W_takeAway_134 : decode c_W_takeAway 134 = .ok (.iload 4, 2) := by decide +kernel
theorem d_W_takeAway_136 : decode c_W_takeAway 136 = .ok (.iload 11, 2) := by decide +kernel
theorem d_W_takeAway_138 : decode c_W_takeAway 138 = .ok (.iadd, 1) := by decide +kernel
theorem d_W_takeAway_139 : decode c_W_takeAway 139 = .ok (.iaload, 1) := by decide +kernel
theorem d_W_takeAway_140 : decode c_W_takeAway 140 = .ok (.aload_n 1, 1) := by decide +kernel
theorem d_W_takeAway_141 : decode c_W_takeAway 141 = .ok (.getfield 11, 3) := by decide +kernel
theorem d_W_takeAway_144 : decode c_W_takeAway 144 = .ok (.iload 11, 2) := by decide +kernel
theorem d_W_takeAway_146 : decode c_W_takeAway 146 = .ok (.iaload, 1) := by decide +kernel
theorem d_W_takeAway_147 : decode c_W_takeAway 147 = .ok (.iadd, 1) := by decide +kernel
theorem d_W_takeAway_148 : decode c_W_takeAway 148 = .ok (.i2l, 1) := by decide +kernel
theorem d_W_takeAway_149 : decode c_W_takeAway 149 = .ok (.ladd, 1) := by decide +kernel
theorem d_W_takeAway_150 : decode c_W_takeAway 150 = .ok (.lstore 6, 2) := by decide +kernel
theorem d_W_takeAway_152 : decode c_W_takeAway 152 = .ok (.aload_n 0, 1) := by decide +kernel
theorem d_W_takeAway_153 : decode c_W_takeAway 153 = .ok (.getfield 11, 3) := by decide +kernel
theorem d_W_takeAway_156 : decode c_W_takeAway 156 = .ok (.iload 4, 2) := by decide +kernel
theorem d_W_takeAway_158 : decode c_W_takeAway 158 = .ok (.iload 11, 2) := by decide +kernel
theorem d_W_takeAway_160 : decode c_W_takeAway 160 = .ok (.iadd, 1) := by decide +kernel
theorem d_W_takeAway_161 : decode c_W_takeAway 161 = .ok (.lload 6, 2) := by decide +kernel
theorem d_W_takeAway_163 : decode c_W_takeAway 163 = .ok (.ldc2_w 43, 3) := by decide +kernel
theorem d_W_takeAway_166 : decode c_W_takeAway 166 = .ok (.land, 1) := by decide +kernel
theorem d_W_takeAway_167 : decode c_W_takeAway 167 = .ok (.l2i, 1) := by decide +kernel
theorem d_W_takeAway_168 : decode c_W_takeAway 168 = .ok (.iastore, 1) := by decide +kernel
theorem d_W_takeAway_169 : decode c_W_takeAway 169 = .ok (.lload 6, 2) := by decide +kernel
theorem d_W_takeAway_171 : decode c_W_takeAway 171 = .ok (.bipush 30, 2) := by decide +kernel
theorem d_W_takeAway_173 : decode c_W_takeAway 173 = .ok (.lshr, 1) := by decide +kernel
theorem d_W_takeAway_174 : decode c_W_takeAway 174 = .ok (.lstore 6, 2) := by decide +kernel
theorem d_W_takeAway_176 : decode c_W_takeAway 176 = .ok (.iinc 11 1, 3) := by decide +kernel
theorem d_W_takeAway_179 : decode c_W_takeAway 179 = .ok (.goto (-60), 3) := by decide +kernel
theorem d_W_takeAway_182 : decode c_W_takeAway 182 = .ok (.iload 8, 2) := by decide +kernel
theorem d_W_takeAway_184 : decode c_W_takeAway 184 = .ok (.lload 6, 2) := by decide +kernel
theorem d_W_takeAway_186 : decode c_W_takeAway 186 = .ok (.l2i, 1) := by decide +kernel
theorem d_W_takeAway_187 : decode c_W_takeAway 187 = .ok (.iadd, 1) := by decide +kernel
theorem d_W_takeAway_188 : decode c_W_takeAway 188 = .ok (.istore 8, 2) := by decide +kernel
theorem d_W_takeAway_190 : decode c_W_takeAway 190 = .ok (.iinc 9 (-1), 3) := by decide +kernel
theorem d_W_takeAway_193 : decode c_W_takeAway 193 = .ok (.iinc 10 1, 3) := by decide +kernel
theorem d_W_takeAway_196 : decode c_W_takeAway 196 = .ok (.goto (-94), 3) := by decide +kernel
theorem d_W_takeAway_199 : decode c_W_takeAway 199 = .ok (.aload_n 0, 1) := by decide +kernel
theorem d_W_takeAway_200 : decode c_W_takeAway 200 = .ok (.getfield 11, 3) := by decide +kernel
theorem d_W_takeAway_203 : decode c_W_takeAway 203 = .ok (.iload 5, 2) := by decide +kernel
theorem d_W_takeAway_205 : decode c_W_takeAway 205 = .ok (.iload 8, 2) := by decide +kernel
theorem d_W_takeAway_207 : decode c_W_takeAway 207 = .ok (.iastore, 1) := by decide +kernel
theorem d_W_takeAway_208 : decode c_W_takeAway 208 = .ok (.iload 9, 2) := by decide +kernel
theorem d_W_takeAway_210 : decode c_W_takeAway 210 = .ok (.ireturn, 1) := by decide +kernel
theorem d_W_trim_0 : decode c_W_trim 0 = .ok (.aload_n 0, 1) := by decide +kernel
theorem d_W_trim_1 : decode c_W_trim 1 = .ok (.getfield 15, 3) := by decide +kernel
theorem d_W_trim_4 : decode c_W_trim 4 = .ok (.ifCond .le 30, 3) := by decide +kernel
theorem d_W_trim_7 : decode c_W_trim 7 = .ok (.aload_n 0, 1) := by decide +kernel
theorem d_W_trim_8 : decode c_W_trim 8 = .ok (.getfield 11, 3) := by decide +kernel
theorem d_W_trim_11 : decode c_W_trim 11 = .ok (.aload_n 0, 1) := by decide +kernel
theorem d_W_trim_12 : decode c_W_trim 12 = .ok (.getfield 15, 3) := by decide +kernel
theorem d_W_trim_15 : decode c_W_trim 15 = .ok (.iconst 1, 1) := by decide +kernel
theorem d_W_trim_16 : decode c_W_trim 16 = .ok (.isub, 1) := by decide +kernel
theorem d_W_trim_17 : decode c_W_trim 17 = .ok (.iaload, 1) := by decide +kernel
theorem d_W_trim_18 : decode c_W_trim 18 = .ok (.ifCond .ne 16, 3) := by decide +kernel
theorem d_W_trim_21 : decode c_W_trim 21 = .ok (.aload_n 0, 1) := by decide +kernel
theorem d_W_trim_22 : decode c_W_trim 22 = .ok (.dup, 1) := by decide +kernel
theorem d_W_trim_23 : decode c_W_trim 23 = .ok (.getfield 15, 3) := by decide +kernel
theorem d_W_trim_26 : decode c_W_trim 26 = .ok (.iconst 1, 1) := by decide +kernel
theorem d_W_trim_27 : decode c_W_trim 27 = .ok (.isub, 1) := by decide +kernel
theorem d_W_trim_28 : decode c_W_trim 28 = .ok (.putfield 15, 3) := by decide +kernel
theorem d_W_trim_31 : decode c_W_trim 31 = .ok (.goto (-31), 3) := by decide +kernel
theorem d_W_trim_34 : decode c_W_trim 34 = .ok (.aload_n 0, 1) := by decide +kernel
theorem d_W_trim_35 : decode c_W_trim 35 = .ok (.getfield 15, 3) := by decide +kernel
theorem d_W_trim_38 : decode c_W_trim 38 = .ok (.ifCond .ne 8, 3) := by decide +kernel
theorem d_W_trim_41 : decode c_W_trim 41 = .ok (.aload_n 0, 1) := by decide +kernel
theorem d_W_trim_42 : decode c_W_trim 42 = .ok (.iconst 0, 1) := by decide +kernel
theorem d_W_trim_43 : decode c_W_trim 43 = .ok (.putfield 19, 3) := by decide +kernel
theorem d_W_trim_46 : decode c_W_trim 46 = .ok (.return_, 1) := by decide +kernel
theorem d_T_store_0 : decode c_T_store 0 = .ok (.aload_n 3, 1) := by decide +kernel
theorem d_T_store_1 : decode c_T_store 1 = .ok (.getfield 59, 3) := by decide +kernel
theorem d_T_store_4 : decode c_T_store 4 = .ok (.iconst 5, 1) := by decide +kernel
theorem d_T_store_5 : decode c_T_store 5 = .ok (.invokestatic 75, 3) := by decide +kernel
theorem d_T_store_8 : decode c_T_store 8 = .ok (.istore 4, 2) := by decide +kernel
theorem d_T_store_10 : decode c_T_store 10 = .ok (.aload_n 0, 1) := by decide +kernel
theorem d_T_store_11 : decode c_T_store 11 = .ok (.getfield 21, 3) := by decide +kernel
theorem d_T_store_14 : decode c_T_store 14 = .ok (.iload_n 1, 1) := by decide +kernel
theorem d_T_store_15 : decode c_T_store 15 = .ok (.aaload, 1) := by decide +kernel
theorem d_T_store_16 : decode c_T_store 16 = .ok (.iload_n 2, 1) := by decide +kernel
theorem d_T_store_17 : decode c_T_store 17 = .ok (.bipush 6, 2) := by decide +kernel
theorem d_T_store_19 : decode c_T_store 19 = .ok (.imul, 1) := by decide +kernel
theorem d_T_store_20 : decode c_T_store 20 = .ok (.aload_n 3, 1) := by decide +kernel
theorem d_T_store_21 : decode c_T_store 21 = .ok (.getfield 64, 3) := by decide +kernel
theorem d_T_store_24 : decode c_T_store 24 = .ok (.iload 4, 2) := by decide +kernel
theorem d_T_store_26 : decode c_T_store 26 = .ok (.imul, 1) := by decide +kernel
theorem d_T_store_27 : decode c_T_store 27 = .ok (.iastore, 1) := by decide +kernel
theorem d_T_store_28 : decode c_T_store 28 = .ok (.aload_n 3, 1) := by decide +kernel
theorem d_T_store_29 : decode c_T_store 29 = .ok (.getfield 66, 3) := by decide +kernel
theorem d_T_store_32 : decode c_T_store 32 = .ok (.iconst 0, 1) := by decide +kernel
theorem d_T_store_33 : decode c_T_store 33 = .ok (.aload_n 0, 1) := by decide +kernel
theorem d_T_store_34 : decode c_T_store 34 = .ok (.getfield 21, 3) := by decide +kernel
theorem d_T_store_37 : decode c_T_store 37 = .ok (.iload_n 1, 1) := by decide +kernel
theorem d_T_store_38 : decode c_T_store 38 = .ok (.aaload, 1) := by decide +kernel
theorem d_T_store_39 : decode c_T_store 39 = .ok (.iload_n 2, 1) := by decide +kernel
theorem d_T_store_40 : decode c_T_store 40 = .ok (.bipush 6, 2) := by decide +kernel
theorem d_T_store_42 : decode c_T_store 42 = .ok (.imul, 1) := by decide +kernel
theorem d_T_store_43 : decode c_T_store 43 = .ok (.iconst 1, 1) := by decide +kernel
theorem d_T_store_44 : decode c_T_store 44 = .ok (.iadd, 1) := by decide +kernel
theorem d_T_store_45 : decode c_T_store 45 = .ok (.iload 4, 2) := by decide +kernel
theorem d_T_store_47 : decode c_T_store 47 = .ok (.invokestatic 69, 3) := by decide +kernel
theorem d_T_store_50 : decode c_T_store 50 = .ok (.return_, 1) := by decide +kernel
theorem d_T_negateRow_0 : decode c_T_negateRow 0 = .ok (.iconst 0, 1) := by decide +kernel
theorem d_T_negateRow_1 : decode c_T_negateRow 1 = .ok (.istore_n 2, 1) := by decide +kernel
theorem d_T_negateRow_2 : decode c_T_negateRow 2 = .ok (.iload_n 2, 1) := by decide +kernel
theorem d_T_negateRow_3 : decode c_T_negateRow 3 = .ok (.aload_n 0, 1) := by decide +kernel
theorem d_T_negateRow_4 : decode c_T_negateRow 4 = .ok (.getfield 31, 3) := by decide +kernel
theorem d_T_negateRow_7 : decode c_T_negateRow 7 = .ok (.if_icmp .ge 32, 3) := by decide +kernel
theorem d_T_negateRow_10 : decode c_T_negateRow 10 = .ok (.aload_n 0, 1) := by decide +kernel
theorem d_T_negateRow_11 : decode c_T_negateRow 11 = .ok (.getfield 21, 3) := by decide +kernel
theorem d_T_negateRow_14 : decode c_T_negateRow 14 = .ok (.iload_n 1, 1) := by decide +kernel
theorem d_T_negateRow_15 : decode c_T_negateRow 15 = .ok (.aaload, 1) := by decide +kernel
theorem d_T_negateRow_16 : decode c_T_negateRow 16 = .ok (.iload_n 2, 1) := by decide +kernel
theorem d_T_negateRow_17 : decode c_T_negateRow 17 = .ok (.bipush 6, 2) := by decide +kernel
theorem d_T_negateRow_19 : decode c_T_negateRow 19 = .ok (.imul, 1) := by decide +kernel
theorem d_T_negateRow_20 : decode c_T_negateRow 20 = .ok (.aload_n 0, 1) := by decide +kernel
theorem d_T_negateRow_21 : decode c_T_negateRow 21 = .ok (.getfield 21, 3) := by decide +kernel
theorem d_T_negateRow_24 : decode c_T_negateRow 24 = .ok (.iload_n 1, 1) := by decide +kernel
theorem d_T_negateRow_25 : decode c_T_negateRow 25 = .ok (.aaload, 1) := by decide +kernel
theorem d_T_negateRow_26 : decode c_T_negateRow 26 = .ok (.iload_n 2, 1) := by decide +kernel
theorem d_T_negateRow_27 : decode c_T_negateRow 27 = .ok (.bipush 6, 2) := by decide +kernel
theorem d_T_negateRow_29 : decode c_T_negateRow 29 = .ok (.imul, 1) := by decide +kernel
theorem d_T_negateRow_30 : decode c_T_negateRow 30 = .ok (.iaload, 1) := by decide +kernel
theorem d_T_negateRow_31 : decode c_T_negateRow 31 = .ok (.ineg, 1) := by decide +kernel
theorem d_T_negateRow_32 : decode c_T_negateRow 32 = .ok (.iastore, 1) := by decide +kernel
theorem d_T_negateRow_33 : decode c_T_negateRow 33 = .ok (.iinc 2 1, 3) := by decide +kernel
theorem d_T_negateRow_36 : decode c_T_negateRow 36 = .ok (.goto (-34), 3) := by decide +kernel
theorem d_T_negateRow_39 : decode c_T_negateRow 39 = .ok (.return_, 1) := by decide +kernel
theorem d_T_small_0 : decode c_T_small 0 = .ok (.aload_n 0, 1) := by decide +kernel
theorem d_T_small_1 : decode c_T_small 1 = .ok (.iload_n 1, 1) := by decide +kernel
theorem d_T_small_2 : decode c_T_small 2 = .ok (.iload_n 2, 1) := by decide +kernel
theorem d_T_small_3 : decode c_T_small 3 = .ok (.invokevirtual 44, 3) := by decide +kernel
theorem d_T_small_6 : decode c_T_small 6 = .ok (.aload_n 0, 1) := by decide +kernel
theorem d_T_small_7 : decode c_T_small 7 = .ok (.getfield 21, 3) := by decide +kernel
theorem d_T_small_10 : decode c_T_small 10 = .ok (.iload_n 1, 1) := by decide +kernel
theorem d_T_small_11 : decode c_T_small 11 = .ok (.aaload, 1) := by decide +kernel
theorem d_T_small_12 : decode c_T_small 12 = .ok (.iload_n 2, 1) := by decide +kernel
theorem d_T_small_13 : decode c_T_small 13 = .ok (.bipush 6, 2) := by decide +kernel
theorem d_T_small_15 : decode c_T_small 15 = .ok (.imul, 1) := by decide +kernel
theorem d_T_small_16 : decode c_T_small 16 = .ok (.iconst 1, 1) := by decide +kernel
theorem d_T_small_17 : decode c_T_small 17 = .ok (.iadd, 1) := by decide +kernel
theorem d_T_small_18 : decode c_T_small 18 = .ok (.iaload, 1) := by decide +kernel
theorem d_T_small_19 : decode c_T_small 19 = .ok (.imul, 1) := by decide +kernel
theorem d_T_small_20 : decode c_T_small 20 = .ok (.ireturn, 1) := by decide +kernel
theorem d_W_setProduct_0 : decode c_W_setProduct 0 = .ok (.aload_n 0, 1) := by decide +kernel
theorem d_W_setProduct_1 : decode c_W_setProduct 1 = .ok (.invokevirtual 34, 3) := by decide +kernel
theorem d_W_setProduct_4 : decode c_W_setProduct 4 = .ok (.aload_n 1, 1) := by decide +kernel
theorem d_W_setProduct_5 : decode c_W_setProduct 5 = .ok (.getfield 19, 3) := by decide +kernel
theorem d_W_setProduct_8 : decode c_W_setProduct 8 = .ok (.ifCond .eq 24, 3) := by decide +kernel
theorem d_W_setProduct_11 : decode c_W_setProduct 11 = .ok (.aload_n 2, 1) := by decide +kernel
theorem d_W_setProduct_12 : decode c_W_setProduct 12 = .ok (.getfield 19, 3) := by decide +kernel
theorem d_W_setProduct_15 : decode c_W_setProduct 15 = .ok (.ifCond .eq 17, 3) := by decide +kernel
theorem d_W_setProduct_18 : decode c_W_setProduct 18 = .ok (.aload_n 1, 1) := by decide +kernel
theorem d_W_setProduct_19 : decode c_W_setProduct 19 = .ok (.getfield 15, 3) := by decide +kernel
theorem d_W_setProduct_22 : decode c_W_setProduct 22 = .ok (.aload_n 2, 1) := by decide +kernel
theorem d_W_setProduct_23 : decode c_W_setProduct 23 = .ok (.getfield 15, 3) := by decide +kernel
theorem d_W_setProduct_26 : decode c_W_setProduct 26 = .ok (.iadd, 1) := by decide +kernel
theorem d_W_setProduct_27 : decode c_W_setProduct 27 = .ok (.bipush 12, 2) := by decide +kernel
theorem d_W_setProduct_29 : decode c_W_setProduct 29 = .ok (.if_icmp .le 4, 3) := by decide +kernel
theorem d_W_setProduct_32 : decode c_W_setProduct 32 = .ok (.return_, 1) := by decide +kernel
theorem d_W_setProduct_33 : decode c_W_setProduct 33 = .ok (.aload_n 0, 1) := by decide +kernel
theorem d_W_setProduct_34 : decode c_W_setProduct 34 = .ok (.aload_n 1, 1) := by decide +kernel
theorem d_W_setProduct_35 : decode c_W_setProduct 35 = .ok (.getfield 15, 3) := by decide +kernel
theorem d_W_setProduct_38 : decode c_W_setProduct 38 = .ok (.aload_n 2, 1) := by decide +kernel
theorem d_W_setProduct_39 : decode c_W_setProduct 39 = .ok (.getfield 15, 3) := by decide +kernel
theorem d_W_setProduct_42 : decode c_W_setProduct 42 = .ok (.iadd, 1) := by decide +kernel
theorem d_W_setProduct_43 : decode c_W_setProduct 43 = .ok (.putfield 15, 3) := by decide +kernel
theorem d_W_setProduct_46 : decode c_W_setProduct 46 = .ok (.aload_n 0, 1) := by decide +kernel
theorem d_W_setProduct_47 : decode c_W_setProduct 47 = .ok (.aload_n 1, 1) := by decide +kernel
theorem d_W_setProduct_48 : decode c_W_setProduct 48 = .ok (.getfield 19, 3) := by decide +kernel
theorem d_W_setProduct_51 : decode c_W_setProduct 51 = .ok (.aload_n 2, 1) := by decide +kernel
theorem d_W_setProduct_52 : decode c_W_setProduct 52 = .ok (.getfield 19, 3) := by decide +kernel
theorem d_W_setProduct_55 : decode c_W_setProduct 55 = .ok (.imul, 1) := by decide +kernel
theorem d_W_setProduct_56 : decode c_W_setProduct 56 = .ok (.putfield 19, 3) := by decide +kernel
theorem d_W_setProduct_59 : decode c_W_setProduct 59 = .ok (.aload_n 0, 1) := by decide +kernel
theorem d_W_setProduct_60 : decode c_W_setProduct 60 = .ok (.getfield 11, 3) := by decide +kernel
theorem d_W_setProduct_63 : decode c_W_setProduct 63 = .ok (.iconst 0, 1) := by decide +kernel
theorem d_W_setProduct_64 : decode c_W_setProduct 64 = .ok (.aload_n 0, 1) := by decide +kernel
theorem d_W_setProduct_65 : decode c_W_setProduct 65 = .ok (.getfield 15, 3) := by decide +kernel
theorem d_W_setProduct_68 : decode c_W_setProduct 68 = .ok (.iconst 0, 1) := by decide +kernel
theorem d_W_setProduct_69 : decode c_W_setProduct 69 = .ok (.invokestatic 37, 3) := by decide +kernel
theorem d_W_setProduct_72 : decode c_W_setProduct 72 = .ok (.iconst 0, 1) := by decide +kernel
theorem d_W_setProduct_73 : decode c_W_setProduct 73 = .ok (.istore_n 3, 1) := by decide +kernel
theorem d_W_setProduct_74 : decode c_W_setProduct 74 = .ok (.iload_n 3, 1) := by decide +kernel
theorem d_W_setProduct_75 : decode c_W_setProduct 75 = .ok (.aload_n 1, 1) := by decide +kernel
theorem d_W_setProduct_76 : decode c_W_setProduct 76 = .ok (.getfield 15, 3) := by decide +kernel
theorem d_W_setProduct_79 : decode c_W_setProduct 79 = .ok (.if_icmp .ge 103, 3) := by decide +kernel
theorem d_W_setProduct_82 : decode c_W_setProduct 82 = .ok (.aload_n 1, 1) := by decide +kernel
theorem d_W_setProduct_83 : decode c_W_setProduct 83 = .ok (.getfield 11, 3) := by decide +kernel
theorem d_W_setProduct_86 : decode c_W_setProduct 86 = .ok (.iload_n 3, 1) := by decide +kernel
theorem d_W_setProduct_87 : decode c_W_setProduct 87 = .ok (.iaload, 1) := by decide +kernel
theorem d_W_setProduct_88 : decode c_W_setProduct 88 = .ok (.i2l, 1) := by decide +kernel
theorem d_W_setProduct_89 : decode c_W_setProduct 89 = .ok (.lstore 4, 2) := by decide +kernel
theorem d_W_setProduct_91 : decode c_W_setProduct 91 = .ok (.lconst 0, 1) := by decide +kernel
theorem d_W_setProduct_92 : decode c_W_setProduct 92 = .ok (.lstore 6, 2) := by decide +kernel
theorem d_W_setProduct_94 : decode c_W_setProduct 94 = .ok (.iconst 0, 1) := by decide +kernel
theorem d_W_setProduct_95 : decode c_W_setProduct 95 = .ok (.istore 8, 2) := by decide +kernel
theorem d_W_setProduct_97 : decode c_W_setProduct 97 = .ok (.iload 8, 2) := by decide +kernel
theorem d_W_setProduct_99 : decode c_W_setProduct 99 = .ok (.aload_n 2, 1) := by decide +kernel
theorem d_W_setProduct_100 : decode c_W_setProduct 100 = .ok (.getfield 15, 3) := by decide +kernel
theorem d_W_setProduct_103 : decode c_W_setProduct 103 = .ok (.if_icmp .ge 59, 3) := by decide +kernel
theorem d_W_setProduct_106 : decode c_W_setProduct 106 = .ok (.lload 6, 2) := by decide +kernel
theorem d_W_setProduct_108 : decode c_W_setProduct 108 = .ok (.aload_n 0, 1) := by decide +kernel
theorem d_W_setProduct_109 : decode c_W_setProduct 109 = .ok (.getfield 11, 3) := by decide +kernel
theorem d_W_setProduct_112 : decode c_W_setProduct 112 = .ok (.iload_n 3, 1) := by decide +kernel
theorem d_W_setProduct_113 : decode c_W_setProduct 113 = .ok (.iload 8, 2) := by decide +kernel
theorem d_W_setProduct_115 : decode c_W_setProduct 115 = .ok (.iadd, 1) := by decide +kernel
theorem d_W_setProduct_116 : decode c_W_setProduct 116 = .ok (.iaload, 1) := by decide +kernel
theorem d_W_setProduct_117 : decode c_W_setProduct 117 = .ok (.i2l, 1) := by decide +kernel
theorem d_W_setProduct_118 : decode c_W_setProduct 118 = .ok (.lload 4, 2) := by decide +kernel
theorem d_W_setProduct_120 : decode c_W_setProduct 120 = .ok (.aload_n 2, 1) := by decide +kernel
theorem d_W_setProduct_121 : decode c_W_setProduct 121 = .ok (.getfield 11, 3) := by decide +kernel
theorem d_W_setProduct_124 : decode c_W_setProduct 124 = .ok (.iload 8, 2) := by decide +kernel
theorem d_W_setProduct_126 : decode c_W_setProduct 126 = .ok (.iaload, 1) := by decide +kernel
theorem d_W_setProduct_127 : decode c_W_setProduct 127 = .ok (.i2l, 1) := by decide +kernel
theorem d_W_setProduct_128 : decode c_W_setProduct 128 = .ok (.lmul, 1) := by decide +kernel
theorem d_W_setProduct_129 : decode c_W_setProduct 129 = .ok (.ladd, 1) := by decide +kernel
theorem d_W_setProduct_130 : decode c_W_setProduct 130 = .ok (.ladd, 1) := by decide +kernel
theorem d_W_setProduct_131 : decode c_W_setProduct 131 = .ok (.lstore 6, 2) := by decide +kernel
theorem d_W_setProduct_133 : decode c_W_setProduct 133 = .ok (.aload_n 0, 1) := by decide +kernel
theorem d_W_setProduct_134 : decode c_W_setProduct 134 = .ok (.getfield 11, 3) := by decide +kernel
theorem d_W_setProduct_137 : decode c_W_setProduct 137 = .ok (.iload_n 3, 1) := by decide +kernel
theorem d_W_setProduct_138 : decode c_W_setProduct 138 = .ok (.iload 8, 2) := by decide +kernel
theorem d_W_setProduct_140 : decode c_W_setProduct 140 = .ok (.iadd, 1) := by decide +kernel
theorem d_W_setProduct_141 : decode c_W_setProduct 141 = .ok (.lload 6, 2) := by decide +kernel
theorem d_W_setProduct_143 : decode c_W_setProduct 143 = .ok (.ldc2_w 43, 3) := by decide +kernel
theorem d_W_setProduct_146 : decode c_W_setProduct 146 = .ok (.land, 1) := by decide +kernel
theorem d_W_setProduct_147 : decode c_W_setProduct 147 = .ok (.l2i, 1) := by decide +kernel
theorem d_W_setProduct_148 : decode c_W_setProduct 148 = .ok (.iastore, 1) := by decide +kernel
theorem d_W_setProduct_149 : decode c_W_setProduct 149 = .ok (.lload 6, 2) := by decide +kernel
theorem d_W_setProduct_151 : decode c_W_setProduct 151 = .ok (.bipush 30, 2) := by decide +kernel
theorem d_W_setProduct_153 : decode c_W_setProduct 153 = .ok (.lshr, 1) := by decide +kernel
theorem d_W_setProduct_154 : decode c_W_setProduct 154 = .ok (.lstore 6, 2) := by decide +kernel
theorem d_W_setProduct_156 : decode c_W_setProduct 156 = .ok (.iinc 8 1, 3) := by decide +kernel
theorem d_W_setProduct_159 : decode c_W_setProduct 159 = .ok (.goto (-62), 3) := by decide +kernel
theorem d_W_setProduct_162 : decode c_W_setProduct 162 = .ok (.aload_n 0, 1) := by decide +kernel
theorem d_W_setProduct_163 : decode c_W_setProduct 163 = .ok (.getfield 11, 3) := by decide +kernel
theorem d_W_setProduct_166 : decode c_W_setProduct 166 = .ok (.iload_n 3, 1) := by decide +kernel
theorem d_W_setProduct_167 : decode c_W_setProduct 167 = .ok (.aload_n 2, 1) := by decide +kernel
theorem d_W_setProduct_168 : decode c_W_setProduct 168 = .ok (.getfield 15, 3) := by decide +kernel
theorem d_W_setProduct_171 : decode c_W_setProduct 171 = .ok (.iadd, 1) := by decide +kernel
theorem d_W_setProduct_172 : decode c_W_setProduct 172 = .ok (.lload 6, 2) := by decide +kernel
theorem d_W_setProduct_174 : decode c_W_setProduct 174 = .ok (.l2i, 1) := by decide +kernel
theorem d_W_setProduct_175 : decode c_W_setProduct 175 = .ok (.iastore, 1) := by decide +kernel
theorem d_W_setProduct_176 : decode c_W_setProduct 176 = .ok (.iinc 3 1, 3) := by decide +kernel
theorem d_W_setProduct_179 : decode c_W_setProduct 179 = .ok (.goto (-105), 3) := by decide +kernel
theorem d_W_setProduct_182 : decode c_W_setProduct 182 = .ok (.aload_n 0, 1) := by decide +kernel
theorem d_W_setProduct_183 : decode c_W_setProduct 183 = .ok (.invokevirtual 45, 3) := by decide +kernel
theorem d_W_setProduct_186 : decode c_W_setProduct 186 = .ok (.return_, 1) := by decide +kernel
theorem d_W_subtract_0 : decode c_W_subtract 0 = .ok (.aload_n 0, 1) := by decide +kernel
theorem d_W_subtract_1 : decode c_W_subtract 1 = .ok (.getfield 19, 3) := by decide +kernel
theorem d_W_subtract_4 : decode c_W_subtract 4 = .ok (.aload_n 1, 1) := by decide +kernel
theorem d_W_subtract_5 : decode c_W_subtract 5 = .ok (.getfield 19, 3) := by decide +kernel
theorem d_W_subtract_8 : decode c_W_subtract 8 = .ok (.imul, 1) := by decide +kernel
theorem d_W_subtract_9 : decode c_W_subtract 9 = .ok (.ifCond .ge 11, 3) := by decide +kernel
theorem d_W_subtract_12 : decode c_W_subtract 12 = .ok (.aload_n 0, 1) := by decide +kernel
theorem d_W_subtract_13 : decode c_W_subtract 13 = .ok (.aload_n 1, 1) := by decide +kernel
theorem d_W_subtract_14 : decode c_W_subtract 14 = .ok (.invokevirtual 48, 3) := by decide +kernel
theorem d_W_subtract_17 : decode c_W_subtract 17 = .ok (.goto 35, 3) := by decide +kernel
theorem d_W_subtract_20 : decode c_W_subtract 20 = .ok (.aload_n 0, 1) := by decide +kernel
theorem d_W_subtract_21 : decode c_W_subtract 21 = .ok (.aload_n 1, 1) := by decide +kernel
theorem d_W_subtract_22 : decode c_W_subtract 22 = .ok (.invokevirtual 52, 3) := by decide +kernel
theorem d_W_subtract_25 : decode c_W_subtract 25 = .ok (.ifCond .lt 12, 3) := by decide +kernel
theorem d_W_subtract_28 : decode c_W_subtract 28 = .ok (.aload_n 0, 1) := by decide +kernel
theorem d_W_subtract_29 : decode c_W_subtract 29 = .ok (.aload_n 0, 1) := by decide +kernel
theorem d_W_subtract_30 : decode c_W_subtract 30 = .ok (.aload_n 1, 1) := by decide +kernel
theorem d_W_subtract_31 : decode c_W_subtract 31 = .ok (.invokevirtual 56, 3) := by decide +kernel
theorem d_W_subtract_34 : decode c_W_subtract 34 = .ok (.goto 18, 3) := by decide +kernel
theorem d_W_subtract_37 : decode c_W_subtract 37 = .ok (.aload_n 0, 1) := by decide +kernel
theorem d_W_subtract_38 : decode c_W_subtract 38 = .ok (.aload_n 1, 1) := by decide +kernel
theorem d_W_subtract_39 : decode c_W_subtract 39 = .ok (.aload_n 0, 1) := by decide +kernel
theorem d_W_subtract_40 : decode c_W_subtract 40 = .ok (.invokevirtual 56, 3) := by decide +kernel
theorem d_W_subtract_43 : decode c_W_subtract 43 = .ok (.aload_n 0, 1) := by decide +kernel
theorem d_W_subtract_44 : decode c_W_subtract 44 = .ok (.aload_n 1, 1) := by decide +kernel
theorem d_W_subtract_45 : decode c_W_subtract 45 = .ok (.getfield 19, 3) := by decide +kernel
theorem d_W_subtract_48 : decode c_W_subtract 48 = .ok (.ineg, 1) := by decide +kernel
theorem d_W_subtract_49 : decode c_W_subtract 49 = .ok (.putfield 19, 3) := by decide +kernel
theorem d_W_subtract_52 : decode c_W_subtract 52 = .ok (.aload_n 0, 1) := by decide +kernel
theorem d_W_subtract_53 : decode c_W_subtract 53 = .ok (.invokevirtual 45, 3) := by decide +kernel
theorem d_W_subtract_56 : decode c_W_subtract 56 = .ok (.return_, 1) := by decide +kernel
theorem d_W_addSize_0 : decode c_W_addSize 0 = .ok (.aload_n 0, 1) := by decide +kernel
theorem d_W_addSize_1 : decode c_W_addSize 1 = .ok (.getfield 15, 3) := by decide +kernel
theorem d_W_addSize_4 : decode c_W_addSize 4 = .ok (.aload_n 1, 1) := by decide +kernel
theorem d_W_addSize_5 : decode c_W_addSize 5 = .ok (.getfield 15, 3) := by decide +kernel
theorem d_W_addSize_8 : decode c_W_addSize 8 = .ok (.invokestatic 84, 3) := by decide +kernel
theorem d_W_addSize_11 : decode c_W_addSize 11 = .ok (.bipush 11, 2) := by decide +kernel
theorem d_W_addSize_13 : decode c_W_addSize 13 = .ok (.invokestatic 86, 3) := by decide +kernel
theorem d_W_addSize_16 : decode c_W_addSize 16 = .ok (.istore_n 2, 1) := by decide +kernel
theorem d_W_addSize_17 : decode c_W_addSize 17 = .ok (.iconst 0, 1) := by decide +kernel
theorem d_W_addSize_18 : decode c_W_addSize 18 = .ok (.istore_n 3, 1) := by decide +kernel
theorem d_W_addSize_19 : decode c_W_addSize 19 = .ok (.iconst 0, 1) := by decide +kernel
theorem d_W_addSize_20 : decode c_W_addSize 20 = .ok (.istore 4, 2) := by decide +kernel
theorem d_W_addSize_22 : decode c_W_addSize 22 = .ok (.iload 4, 2) := by decide +kernel
theorem d_W_addSize_24 : decode c_W_addSize 24 = .ok (.iload_n 2, 1) := by decide +kernel
theorem d_W_addSize_25 : decode c_W_addSize 25 = .ok (.if_icmp .ge 41, 3) := by decide +kernel
theorem d_W_addSize_28 : decode c_W_addSize 28 = .ok (.iload_n 3, 1) := by decide +kernel
theorem d_W_addSize_29 : decode c_W_addSize 29 = .ok (.aload_n 0, 1) := by decide +kernel
theorem d_W_addSize_30 : decode c_W_addSize 30 = .ok (.iload 4, 2) := by decide +kernel
theorem d_W_addSize_32 : decode c_W_addSize 32 = .ok (.invokevirtual 88, 3) := by decide +kernel
theorem d_W_addSize_35 : decode c_W_addSize 35 = .ok (.aload_n 1, 1) := by decide +kernel
theorem d_W_addSize_36 : decode c_W_addSize 36 = .ok (.iload 4, 2) := by decide +kernel
theorem d_W_addSize_38 : decode c_W_addSize 38 = .ok (.invokevirtual 88, 3) := by decide +kernel
theorem d_W_addSize_41 : decode c_W_addSize 41 = .ok (.iadd, 1) := by decide +kernel
theorem d_W_addSize_42 : decode c_W_addSize 42 = .ok (.iadd, 1) := by decide +kernel
theorem d_W_addSize_43 : decode c_W_addSize 43 = .ok (.istore_n 3, 1) := by decide +kernel
theorem d_W_addSize_44 : decode c_W_addSize 44 = .ok (.aload_n 0, 1) := by decide +kernel
theorem d_W_addSize_45 : decode c_W_addSize 45 = .ok (.getfield 11, 3) := by decide +kernel
theorem d_W_addSize_48 : decode c_W_addSize 48 = .ok (.iload 4, 2) := by decide +kernel
theorem d_W_addSize_50 : decode c_W_addSize 50 = .ok (.iload_n 3, 1) := by decide +kernel
theorem d_W_addSize_51 : decode c_W_addSize 51 = .ok (.ldc 91, 2) := by decide +kernel
theorem d_W_addSize_53 : decode c_W_addSize 53 = .ok (.iand, 1) := by decide +kernel
theorem d_W_addSize_54 : decode c_W_addSize 54 = .ok (.iastore, 1) := by decide +kernel
theorem d_W_addSize_55 : decode c_W_addSize 55 = .ok (.iload_n 3, 1) := by decide +kernel
theorem d_W_addSize_56 : decode c_W_addSize 56 = .ok (.bipush 30, 2) := by decide +kernel
theorem d_W_addSize_58 : decode c_W_addSize 58 = .ok (.ishr, 1) := by decide +kernel
theorem d_W_addSize_59 : decode c_W_addSize 59 = .ok (.istore_n 3, 1) := by decide +kernel
theorem d_W_addSize_60 : decode c_W_addSize 60 = .ok (.iinc 4 1, 3) := by decide +kernel
theorem d_W_addSize_63 : decode c_W_addSize 63 = .ok (.goto (-41), 3) := by decide +kernel
theorem d_W_addSize_66 : decode c_W_addSize 66 = .ok (.aload_n 0, 1) := by decide +kernel
theorem d_W_addSize_67 : decode c_W_addSize 67 = .ok (.getfield 11, 3) := by decide +kernel
theorem d_W_addSize_70 : decode c_W_addSize 70 = .ok (.iload_n 2, 1) := by decide +kernel
theorem d_W_addSize_71 : decode c_W_addSize 71 = .ok (.iload_n 3, 1) := by decide +kernel
theorem d_W_addSize_72 : decode c_W_addSize 72 = .ok (.iastore, 1) := by decide +kernel
theorem d_W_addSize_73 : decode c_W_addSize 73 = .ok (.aload_n 0, 1) := by decide +kernel
theorem d_W_addSize_74 : decode c_W_addSize 74 = .ok (.iload_n 2, 1) := by decide +kernel
theorem d_W_addSize_75 : decode c_W_addSize 75 = .ok (.iconst 1, 1) := by decide +kernel
theorem d_W_addSize_76 : decode c_W_addSize 76 = .ok (.iadd, 1) := by decide +kernel
theorem d_W_addSize_77 : decode c_W_addSize 77 = .ok (.putfield 15, 3) := by decide +kernel
theorem d_W_addSize_80 : decode c_W_addSize 80 = .ok (.return_, 1) := by decide +kernel
theorem d_W_limbAt_0 : decode c_W_limbAt 0 = .ok (.iload_n 1, 1) := by decide +kernel
theorem d_W_limbAt_1 : decode c_W_limbAt 1 = .ok (.aload_n 0, 1) := by decide +kernel
theorem d_W_limbAt_2 : decode c_W_limbAt 2 = .ok (.getfield 15, 3) := by decide +kernel
theorem d_W_limbAt_5 : decode c_W_limbAt 5 = .ok (.if_icmp .ge 12, 3) := by decide +kernel
theorem d_W_limbAt_8 : decode c_W_limbAt 8 = .ok (.aload_n 0, 1) := by decide +kernel
theorem d_W_limbAt_9 : decode c_W_limbAt 9 = .ok (.getfield 11, 3) := by decide +kernel
theorem d_W_limbAt_12 : decode c_W_limbAt 12 = .ok (.iload_n 1, 1) := by decide +kernel
theorem d_W_limbAt_13 : decode c_W_limbAt 13 = .ok (.iaload, 1) := by decide +kernel
theorem d_W_limbAt_14 : decode c_W_limbAt 14 = .ok (.goto 4, 3) := by decide +kernel
theorem d_W_limbAt_17 : decode c_W_limbAt 17 = .ok (.iconst 0, 1) := by decide +kernel
theorem d_W_limbAt_18 : decode c_W_limbAt 18 = .ok (.ireturn, 1) := by decide +kernel
theorem d_W_compareSize_0 : decode c_W_compareSize 0 = .ok (.aload_n 0, 1) := by decide +kernel
theorem d_W_compareSize_1 : decode c_W_compareSize 1 = .ok (.getfield 15, 3) := by decide +kernel
theorem d_W_compareSize_4 : decode c_W_compareSize 4 = .ok (.aload_n 1, 1) := by decide +kernel
theorem d_W_compareSize_5 : decode c_W_compareSize 5 = .ok (.getfield 15, 3) := by decide +kernel
theorem d_W_compareSize_8 : decode c_W_compareSize 8 = .ok (.if_icmp .eq 15, 3) := by decide +kernel
theorem d_W_compareSize_11 : decode c_W_compareSize 11 = .ok (.aload_n 0, 1) := by decide +kernel
theorem d_W_compareSize_12 : decode c_W_compareSize 12 = .ok (.getfield 15, 3) := by decide +kernel
theorem d_W_compareSize_15 : decode c_W_compareSize 15 = .ok (.aload_n 1, 1) := by decide +kernel
theorem d_W_compareSize_16 : decode c_W_compareSize 16 = .ok (.getfield 15, 3) := by decide +kernel
theorem d_W_compareSize_19 : decode c_W_compareSize 19 = .ok (.invokestatic 80, 3) := by decide +kernel
theorem d_W_compareSize_22 : decode c_W_compareSize 22 = .ok (.ireturn, 1) := by decide +kernel
theorem d_W_compareSize_23 : decode c_W_compareSize 23 = .ok (.aload_n 0, 1) := by decide +kernel
theorem d_W_compareSize_24 : decode c_W_compareSize 24 = .ok (.getfield 15, 3) := by decide +kernel
theorem d_W_compareSize_27 : decode c_W_compareSize 27 = .ok (.iconst 1, 1) := by decide +kernel
theorem d_W_compareSize_28 : decode c_W_compareSize 28 = .ok (.isub, 1) := by decide +kernel
theorem d_W_compareSize_29 : decode c_W_compareSize 29 = .ok (.istore_n 2, 1) := by decide +kernel
theorem d_W_compareSize_30 : decode c_W_compareSize 30 = .ok (.iload_n 2, 1) := by decide +kernel
theorem d_W_compareSize_31 : decode c_W_compareSize 31 = .ok (.ifCond .lt 40, 3) := by decide +kernel
theorem d_W_compareSize_34 : decode c_W_compareSize 34 = .ok (.aload_n 0, 1) := by decide +kernel
theorem d_W_compareSize_35 : decode c_W_compareSize 35 = .ok (.getfield 11, 3) := by decide +kernel
theorem d_W_compareSize_38 : decode c_W_compareSize 38 = .ok (.iload_n 2, 1) := by decide +kernel
theorem d_W_compareSize_39 : decode c_W_compareSize 39 = .ok (.iaload, 1) := by decide +kernel
theorem d_W_compareSize_40 : decode c_W_compareSize 40 = .ok (.aload_n 1, 1) := by decide +kernel
theorem d_W_compareSize_41 : decode c_W_compareSize 41 = .ok (.getfield 11, 3) := by decide +kernel
theorem d_W_compareSize_44 : decode c_W_compareSize 44 = .ok (.iload_n 2, 1) := by decide +kernel
theorem d_W_compareSize_45 : decode c_W_compareSize 45 = .ok (.iaload, 1) := by decide +kernel
theorem d_W_compareSize_46 : decode c_W_compareSize 46 = .ok (.if_icmp .eq 19, 3) := by decide +kernel
theorem d_W_compareSize_49 : decode c_W_compareSize 49 = .ok (.aload_n 0, 1) := by decide +kernel
theorem d_W_compareSize_50 : decode c_W_compareSize 50 = .ok (.getfield 11, 3) := by decide +kernel
theorem d_W_compareSize_53 : decode c_W_compareSize 53 = .ok (.iload_n 2, 1) := by decide +kernel
theorem d_W_compareSize_54 : decode c_W_compareSize 54 = .ok (.iaload, 1) := by decide +kernel
theorem d_W_compareSize_55 : decode c_W_compareSize 55 = .ok (.aload_n 1, 1) := by decide +kernel
theorem d_W_compareSize_56 : decode c_W_compareSize 56 = .ok (.getfield 11, 3) := by decide +kernel
theorem d_W_compareSize_59 : decode c_W_compareSize 59 = .ok (.iload_n 2, 1) := by decide +kernel
theorem d_W_compareSize_60 : decode c_W_compareSize 60 = .ok (.iaload, 1) := by decide +kernel
theorem d_W_compareSize_61 : decode c_W_compareSize 61 = .ok (.invokestatic 80, 3) := by decide +kernel
theorem d_W_compareSize_64 : decode c_W_compareSize 64 = .ok (.ireturn, 1) := by decide +kernel
theorem d_W_compareSize_65 : decode c_W_compareSize 65 = .ok (.iinc 2 (-1), 3) := by decide +kernel
theorem d_W_compareSize_68 : decode c_W_compareSize 68 = .ok (.goto (-38), 3) := by decide +kernel
theorem d_W_compareSize_71 : decode c_W_compareSize 71 = .ok (.iconst 0, 1) := by decide +kernel
theorem d_W_compareSize_72 : decode c_W_compareSize 72 = .ok (.ireturn, 1) := by decide +kernel
theorem d_W_setDifference_0 : decode c_W_setDifference 0 = .ok (.iconst 0, 1) := by decide +kernel
theorem d_W_setDifference_1 : decode c_W_setDifference 1 = .ok (.istore_n 3, 1) := by decide +kernel
theorem d_W_setDifference_2 : decode c_W_setDifference 2 = .ok (.iconst 0, 1) := by decide +kernel
theorem d_W_setDifference_3 : decode c_W_setDifference 3 = .ok (.istore 4, 2) := by decide +kernel
theorem d_W_setDifference_5 : decode c_W_setDifference 5 = .ok (.iload 4, 2) := by decide +kernel
theorem d_W_setDifference_7 : decode c_W_setDifference 7 = .ok (.aload_n 1, 1) := by decide +kernel
theorem d_W_setDifference_8 : decode c_W_setDifference 8 = .ok (.getfield 15, 3) := by decide +kernel
theorem d_W_setDifference_11 : decode c_W_setDifference 11 = .ok (.if_icmp .ge 42, 3) := by decide +kernel
theorem d_W_setDifference_14 : decode c_W_setDifference 14 = .ok (.iload_n 3, 1) := by decide +kernel
theorem d_W_setDifference_15 : decode c_W_setDifference 15 = .ok (.aload_n 1, 1) := by decide +kernel
theorem d_W_setDifference_16 : decode c_W_setDifference 16 = .ok (.getfield 11, 3) := by decide +kernel
theorem d_W_setDifference_19 : decode c_W_setDifference 19 = .ok (.iload 4, 2) := by decide +kernel
theorem d_W_setDifference_21 : decode c_W_setDifference 21 = .ok (.iaload, 1) := by decide +kernel
theorem d_W_setDifference_22 : decode c_W_setDifference 22 = .ok (.aload_n 2, 1) := by decide +kernel
theorem d_W_setDifference_23 : decode c_W_setDifference 23 = .ok (.iload 4, 2) := by decide +kernel
theorem d_W_setDifference_25 : decode c_W_setDifference 25 = .ok (.invokevirtual 88, 3) := by decide +kernel
theorem d_W_setDifference_28 : decode c_W_setDifference 28 = .ok (.isub, 1) := by decide +kernel
theorem d_W_setDifference_29 : decode c_W_setDifference 29 = .ok (.iadd, 1) := by decide +kernel
theorem d_W_setDifference_30 : decode c_W_setDifference 30 = .ok (.istore_n 3, 1) := by decide +kernel
theorem d_W_setDifference_31 : decode c_W_setDifference 31 = .ok (.aload_n 0, 1) := by decide +kernel
theorem d_W_setDifference_32 : decode c_W_setDifference 32 = .ok (.getfield 11, 3) := by decide +kernel
theorem d_W_setDifference_35 : decode c_W_setDifference 35 = .ok (.iload 4, 2) := by decide +kernel
theorem d_W_setDifference_37 : decode c_W_setDifference 37 = .ok (.iload_n 3, 1) := by decide +kernel
theorem d_W_setDifference_38 : decode c_W_setDifference 38 = .ok (.ldc 91, 2) := by decide +kernel
theorem d_W_setDifference_40 : decode c_W_setDifference 40 = .ok (.iand, 1) := by decide +kernel
theorem d_W_setDifference_41 : decode c_W_setDifference 41 = .ok (.iastore, 1) := by decide +kernel
theorem d_W_setDifference_42 : decode c_W_setDifference 42 = .ok (.iload_n 3, 1) := by decide +kernel
theorem d_W_setDifference_43 : decode c_W_setDifference 43 = .ok (.bipush 30, 2) := by decide +kernel
theorem d_W_setDifference_45 : decode c_W_setDifference 45 = .ok (.ishr, 1) := by decide +kernel
theorem d_W_setDifference_46 : decode c_W_setDifference 46 = .ok (.istore_n 3, 1) := by decide +kernel
theorem d_W_setDifference_47 : decode c_W_setDifference 47 = .ok (.iinc 4 1, 3) := by decide +kernel
theorem d_W_setDifference_50 : decode c_W_setDifference 50 = .ok (.goto (-45), 3) := by decide +kernel
theorem d_W_setDifference_53 : decode c_W_setDifference 53 = .ok (.aload_n 0, 1) := by decide +kernel
theorem d_W_setDifference_54 : decode c_W_setDifference 54 = .ok (.aload_n 1, 1) := by decide +kernel
theorem d_W_setDifference_55 : decode c_W_setDifference 55 = .ok (.getfield 15, 3) := by decide +kernel
theorem d_W_setDifference_58 : decode c_W_setDifference 58 = .ok (.putfield 15, 3) := by decide +kernel
theorem d_W_setDifference_61 : decode c_W_setDifference 61 = .ok (.return_, 1) := by decide +kernel
theorem d_T_hasPlace_0 : decode c_T_hasPlace 0 = .ok (.iconst 0, 1) := by decide +kernel
theorem d_T_hasPlace_1 : decode c_T_hasPlace 1 = .ok (.istore_n 2, 1) := by decide +kernel
theorem d_T_hasPlace_2 : decode c_T_hasPlace 2 = .ok (.iload_n 2, 1) := by decide +kernel
theorem d_T_hasPlace_3 : decode c_T_hasPlace 3 = .ok (.aload_n 0, 1) := by decide +kernel
theorem d_T_hasPlace_4 : decode c_T_hasPlace 4 = .ok (.getfield 28, 3) := by decide +kernel
theorem d_T_hasPlace_7 : decode c_T_hasPlace 7 = .ok (.if_icmp .ge 21, 3) := by decide +kernel
theorem d_T_hasPlace_10 : decode c_T_hasPlace 10 = .ok (.aload_n 0, 1) := by decide +kernel
theorem d_T_hasPlace_11 : decode c_T_hasPlace 11 = .ok (.getfield 15, 3) := by decide +kernel
theorem d_T_hasPlace_14 : decode c_T_hasPlace 14 = .ok (.iload_n 2, 1) := by decide +kernel
theorem d_T_hasPlace_15 : decode c_T_hasPlace 15 = .ok (.iaload, 1) := by decide +kernel
theorem d_T_hasPlace_16 : decode c_T_hasPlace 16 = .ok (.iload_n 1, 1) := by decide +kernel
theorem d_T_hasPlace_17 : decode c_T_hasPlace 17 = .ok (.if_icmp .ne 5, 3) := by decide +kernel
theorem d_T_hasPlace_20 : decode c_T_hasPlace 20 = .ok (.iconst 1, 1) := by decide +kernel
theorem d_T_hasPlace_21 : decode c_T_hasPlace 21 = .ok (.ireturn, 1) := by decide +kernel
theorem d_T_hasPlace_22 : decode c_T_hasPlace 22 = .ok (.iinc 2 1, 3) := by decide +kernel
theorem d_T_hasPlace_25 : decode c_T_hasPlace 25 = .ok (.goto (-23), 3) := by decide +kernel
theorem d_T_hasPlace_28 : decode c_T_hasPlace 28 = .ok (.iconst 0, 1) := by decide +kernel
theorem d_T_hasPlace_29 : decode c_T_hasPlace 29 = .ok (.ireturn, 1) := by decide +kernel
theorem d_W_negate_0 : decode c_W_negate 0 = .ok (.aload_n 0, 1) := by decide +kernel
theorem d_W_negate_1 : decode c_W_negate 1 = .ok (.aload_n 0, 1) := by decide +kernel
theorem d_W_negate_2 : decode c_W_negate 2 = .ok (.getfield 19, 3) := by decide +kernel
theorem d_W_negate_5 : decode c_W_negate 5 = .ok (.ineg, 1) := by decide +kernel
theorem d_W_negate_6 : decode c_W_negate 6 = .ok (.putfield 19, 3) := by decide +kernel
theorem d_W_negate_9 : decode c_W_negate 9 = .ok (.return_, 1) := by decide +kernel
theorem d_T_copyNumbers_0 : decode c_T_copyNumbers 0 = .ok (.iconst 0, 1) := by decide +kernel
theorem d_T_copyNumbers_1 : decode c_T_copyNumbers 1 = .ok (.istore 4, 2) := by decide +kernel
theorem d_T_copyNumbers_3 : decode c_T_copyNumbers 3 = .ok (.iload 4, 2) := by decide +kernel
theorem d_T_copyNumbers_5 : decode c_T_copyNumbers 5 = .ok (.aload_n 1, 1) := by decide +kernel
theorem d_T_copyNumbers_6 : decode c_T_copyNumbers 6 = .ok (.getfield 28, 3) := by decide +kernel
theorem d_T_copyNumbers_9 : decode c_T_copyNumbers 9 = .ok (.if_icmp .ge 44, 3) := by decide +kernel
theorem d_T_copyNumbers_12 : decode c_T_copyNumbers 12 = .ok (.aload_n 0, 1) := by decide +kernel
theorem d_T_copyNumbers_13 : decode c_T_copyNumbers 13 = .ok (.getfield 21, 3) := by decide +kernel
theorem d_T_copyNumbers_16 : decode c_T_copyNumbers 16 = .ok (.iload_n 2, 1) := by decide +kernel
theorem d_T_copyNumbers_17 : decode c_T_copyNumbers 17 = .ok (.iload 4, 2) := by decide +kernel
theorem d_T_copyNumbers_19 : decode c_T_copyNumbers 19 = .ok (.iadd, 1) := by decide +kernel
theorem d_T_copyNumbers_20 : decode c_T_copyNumbers 20 = .ok (.aaload, 1) := by decide +kernel
theorem d_T_copyNumbers_21 : decode c_T_copyNumbers 21 = .ok (.astore 5, 2) := by decide +kernel
theorem d_T_copyNumbers_23 : decode c_T_copyNumbers 23 = .ok (.aload_n 1, 1) := by decide +kernel
theorem d_T_copyNumbers_24 : decode c_T_copyNumbers 24 = .ok (.getfield 21, 3) := by decide +kernel
theorem d_T_copyNumbers_27 : decode c_T_copyNumbers 27 = .ok (.iload 4, 2) := by decide +kernel
theorem d_T_copyNumbers_29 : decode c_T_copyNumbers 29 = .ok (.aaload, 1) := by decide +kernel
theorem d_T_copyNumbers_30 : decode c_T_copyNumbers 30 = .ok (.iconst 0, 1) := by decide +kernel
theorem d_T_copyNumbers_31 : decode c_T_copyNumbers 31 = .ok (.aload 5, 2) := by decide +kernel
theorem d_T_copyNumbers_33 : decode c_T_copyNumbers 33 = .ok (.iload_n 3, 1) := by decide +kernel
theorem d_T_copyNumbers_34 : decode c_T_copyNumbers 34 = .ok (.bipush 6, 2) := by decide +kernel
theorem d_T_copyNumbers_36 : decode c_T_copyNumbers 36 = .ok (.imul, 1) := by decide +kernel
theorem d_T_copyNumbers_37 : decode c_T_copyNumbers 37 = .ok (.aload_n 1, 1) := by decide +kernel
theorem d_T_copyNumbers_38 : decode c_T_copyNumbers 38 = .ok (.getfield 31, 3) := by decide +kernel
theorem d_T_copyNumbers_41 : decode c_T_copyNumbers 41 = .ok (.bipush 6, 2) := by decide +kernel
theorem d_T_copyNumbers_43 : decode c_T_copyNumbers 43 = .ok (.imul, 1) := by decide +kernel
theorem d_T_copyNumbers_44 : decode c_T_copyNumbers 44 = .ok (.invokestatic 69, 3) := by decide +kernel
theorem d_T_copyNumbers_47 : decode c_T_copyNumbers 47 = .ok (.iinc 4 1, 3) := by decide +kernel
theorem d_T_copyNumbers_50 : decode c_T_copyNumbers 50 = .ok (.goto (-47), 3) := by decide +kernel
theorem d_T_copyNumbers_53 : decode c_T_copyNumbers 53 = .ok (.return_, 1) := by decide +kernel
theorem d_T_dropFirstRows_0 : decode c_T_dropFirstRows 0 = .ok (.aload_n 0, 1) := by decide +kernel
theorem d_T_dropFirstRows_1 : decode c_T_dropFirstRows 1 = .ok (.dup, 1) := by decide +kernel
theorem d_T_dropFirstRows_2 : decode c_T_dropFirstRows 2 = .ok (.getfield 28, 3) := by decide +kernel
theorem d_T_dropFirstRows_5 : decode c_T_dropFirstRows 5 = .ok (.iload_n 1, 1) := by decide +kernel
theorem d_T_dropFirstRows_6 : decode c_T_dropFirstRows 6 = .ok (.isub, 1) := by decide +kernel
theorem d_T_dropFirstRows_7 : decode c_T_dropFirstRows 7 = .ok (.putfield 28, 3) := by decide +kernel
theorem d_T_dropFirstRows_10 : decode c_T_dropFirstRows 10 = .ok (.iconst 0, 1) := by decide +kernel
theorem d_T_dropFirstRows_11 : decode c_T_dropFirstRows 11 = .ok (.istore_n 2, 1) := by decide +kernel
theorem d_T_dropFirstRows_12 : decode c_T_dropFirstRows 12 = .ok (.iload_n 2, 1) := by decide +kernel
theorem d_T_dropFirstRows_13 : decode c_T_dropFirstRows 13 = .ok (.aload_n 0, 1) := by decide +kernel
theorem d_T_dropFirstRows_14 : decode c_T_dropFirstRows 14 = .ok (.getfield 28, 3) := by decide +kernel
theorem d_T_dropFirstRows_17 : decode c_T_dropFirstRows 17 = .ok (.if_icmp .ge 17, 3) := by decide +kernel
theorem d_T_dropFirstRows_20 : decode c_T_dropFirstRows 20 = .ok (.aload_n 0, 1) := by decide +kernel
theorem d_T_dropFirstRows_21 : decode c_T_dropFirstRows 21 = .ok (.iload_n 2, 1) := by decide +kernel
theorem d_T_dropFirstRows_22 : decode c_T_dropFirstRows 22 = .ok (.iload_n 2, 1) := by decide +kernel
theorem d_T_dropFirstRows_23 : decode c_T_dropFirstRows 23 = .ok (.iload_n 1, 1) := by decide +kernel
theorem d_T_dropFirstRows_24 : decode c_T_dropFirstRows 24 = .ok (.iadd, 1) := by decide +kernel
theorem d_T_dropFirstRows_25 : decode c_T_dropFirstRows 25 = .ok (.invokevirtual 79, 3) := by decide +kernel
theorem d_T_dropFirstRows_28 : decode c_T_dropFirstRows 28 = .ok (.iinc 2 1, 3) := by decide +kernel
theorem d_T_dropFirstRows_31 : decode c_T_dropFirstRows 31 = .ok (.goto (-19), 3) := by decide +kernel
theorem d_T_dropFirstRows_34 : decode c_T_dropFirstRows 34 = .ok (.return_, 1) := by decide +kernel
theorem d_T_dropColumns_0 : decode c_T_dropColumns 0 = .ok (.iconst 0, 1) := by decide +kernel
theorem d_T_dropColumns_1 : decode c_T_dropColumns 1 = .ok (.istore_n 2, 1) := by decide +kernel
theorem d_T_dropColumns_2 : decode c_T_dropColumns 2 = .ok (.iconst 0, 1) := by decide +kernel
theorem d_T_dropColumns_3 : decode c_T_dropColumns 3 = .ok (.istore_n 3, 1) := by decide +kernel
theorem d_T_dropColumns_4 : decode c_T_dropColumns 4 = .ok (.iload_n 3, 1) := by decide +kernel
theorem d_T_dropColumns_5 : decode c_T_dropColumns 5 = .ok (.aload_n 0, 1) := by decide +kernel
theorem d_T_dropColumns_6 : decode c_T_dropColumns 6 = .ok (.getfield 31, 3) := by decide +kernel
theorem d_T_dropColumns_9 : decode c_T_dropColumns 9 = .ok (.if_icmp .ge 64, 3) := by decide +kernel
theorem d_T_dropColumns_12 : decode c_T_dropColumns 12 = .ok (.iload_n 1, 1) := by decide +kernel
theorem d_T_dropColumns_13 : decode c_T_dropColumns 13 = .ok (.iload_n 3, 1) := by decide +kernel
theorem d_T_dropColumns_14 : decode c_T_dropColumns 14 = .ok (.ishr, 1) := by decide +kernel
theorem d_T_dropColumns_15 : decode c_T_dropColumns 15 = .ok (.iconst 1, 1) := by decide +kernel
theorem d_T_dropColumns_16 : decode c_T_dropColumns 16 = .ok (.iand, 1) := by decide +kernel
theorem d_T_dropColumns_17 : decode c_T_dropColumns 17 = .ok (.ifCond .ne 50, 3) := by decide +kernel
theorem d_T_dropColumns_20 : decode c_T_dropColumns 20 = .ok (.iconst 0, 1) := by decide +kernel
theorem d_T_dropColumns_21 : decode c_T_dropColumns 21 = .ok (.istore 4, 2) := by decide +kernel
theorem d_T_dropColumns_23 : decode c_T_dropColumns 23 = .ok (.iload 4, 2) := by decide +kernel
theorem d_T_dropColumns_25 : decode c_T_dropColumns 25 = .ok (.aload_n 0, 1) := by decide +kernel
theorem d_T_dropColumns_26 : decode c_T_dropColumns 26 = .ok (.getfield 28, 3) := by decide +kernel
theorem d_T_dropColumns_29 : decode c_T_dropColumns 29 = .ok (.if_icmp .ge 35, 3) := by decide +kernel
theorem d_T_dropColumns_32 : decode c_T_dropColumns 32 = .ok (.aload_n 0, 1) := by decide +kernel
theorem d_T_dropColumns_33 : decode c_T_dropColumns 33 = .ok (.getfield 21, 3) := by decide +kernel
theorem d_T_dropColumns_36 : decode c_T_dropColumns 36 = .ok (.iload 4, 2) := by decide +kernel
theorem d_T_dropColumns_38 : decode c_T_dropColumns 38 = .ok (.aaload, 1) := by decide +kernel
theorem d_T_dropColumns_39 : decode c_T_dropColumns 39 = .ok (.astore 5, 2) := by decide +kernel
theorem d_T_dropColumns_41 : decode c_T_dropColumns 41 = .ok (.aload 5, 2) := by decide +kernel
theorem d_T_dropColumns_43 : decode c_T_dropColumns 43 = .ok (.iload_n 3, 1) := by decide +kernel
theorem d_T_dropColumns_44 : decode c_T_dropColumns 44 = .ok (.bipush 6, 2) := by decide +kernel
theorem d_T_dropColumns_46 : decode c_T_dropColumns 46 = .ok (.imul, 1) := by decide +kernel
theorem d_T_dropColumns_47 : decode c_T_dropColumns 47 = .ok (.aload 5, 2) := by decide +kernel
theorem d_T_dropColumns_49 : decode c_T_dropColumns 49 = .ok (.iload_n 2, 1) := by decide +kernel
theorem d_T_dropColumns_50 : decode c_T_dropColumns 50 = .ok (.bipush 6, 2) := by decide +kernel
theorem d_T_dropColumns_52 : decode c_T_dropColumns 52 = .ok (.imul, 1) := by decide +kernel
theorem d_T_dropColumns_53 : decode c_T_dropColumns 53 = .ok (.bipush 6, 2) := by decide +kernel
theorem d_T_dropColumns_55 : decode c_T_dropColumns 55 = .ok (.invokestatic 69, 3) := by decide +kernel
theorem d_T_dropColumns_58 : decode c_T_dropColumns 58 = .ok (.iinc 4 1, 3) := by decide +kernel
theorem d_T_dropColumns_61 : decode c_T_dropColumns 61 = .ok (.goto (-38), 3) := by decide +kernel
theorem d_T_dropColumns_64 : decode c_T_dropColumns 64 = .ok (.iinc 2 1, 3) := by decide +kernel
theorem d_T_dropColumns_67 : decode c_T_dropColumns 67 = .ok (.iinc 3 1, 3) := by decide +kernel
theorem d_T_dropColumns_70 : decode c_T_dropColumns 70 = .ok (.goto (-66), 3) := by decide +kernel
theorem d_T_dropColumns_73 : decode c_T_dropColumns 73 = .ok (.aload_n 0, 1) := by decide +kernel
theorem d_T_dropColumns_74 : decode c_T_dropColumns 74 = .ok (.iload_n 2, 1) := by decide +kernel
theorem d_T_dropColumns_75 : decode c_T_dropColumns 75 = .ok (.putfield 31, 3) := by decide +kernel
theorem d_T_dropColumns_78 : decode c_T_dropColumns 78 = .ok (.return_, 1) := by decide +kernel
theorem d_T_toldDigit_0 : decode c_T_toldDigit 0 = .ok (.aload_n 0, 1) := by decide +kernel
theorem d_T_toldDigit_1 : decode c_T_toldDigit 1 = .ok (.iload_n 1, 1) := by decide +kernel
theorem d_T_toldDigit_2 : decode c_T_toldDigit 2 = .ok (.iload_n 2, 1) := by decide +kernel
theorem d_T_toldDigit_3 : decode c_T_toldDigit 3 = .ok (.invokevirtual 44, 3) := by decide +kernel
theorem d_T_toldDigit_6 : decode c_T_toldDigit 6 = .ok (.invokestatic 54, 3) := by decide +kernel
theorem d_T_toldDigit_9 : decode c_T_toldDigit 9 = .ok (.istore 4, 2) := by decide +kernel
theorem d_T_toldDigit_11 : decode c_T_toldDigit 11 = .ok (.iload_n 3, 1) := by decide +kernel
theorem d_T_toldDigit_12 : decode c_T_toldDigit 12 = .ok (.iload 4, 2) := by decide +kernel
theorem d_T_toldDigit_14 : decode c_T_toldDigit 14 = .ok (.bipush 30, 2) := by decide +kernel
theorem d_T_toldDigit_16 : decode c_T_toldDigit 16 = .ok (.imul, 1) := by decide +kernel
theorem d_T_toldDigit_17 : decode c_T_toldDigit 17 = .ok (.bipush 16, 2) := by decide +kernel
theorem d_T_toldDigit_19 : decode c_T_toldDigit 19 = .ok (.idiv, 1) := by decide +kernel
theorem d_T_toldDigit_20 : decode c_T_toldDigit 20 = .ok (.if_icmp .le 5, 3) := by decide +kernel
theorem d_T_toldDigit_23 : decode c_T_toldDigit 23 = .ok (.iconst 0, 1) := by decide +kernel
theorem d_T_toldDigit_24 : decode c_T_toldDigit 24 = .ok (.ireturn, 1) := by decide +kernel
theorem d_T_toldDigit_25 : decode c_T_toldDigit 25 = .ok (.iload_n 3, 1) := by decide +kernel
theorem d_T_toldDigit_26 : decode c_T_toldDigit 26 = .ok (.bipush 16, 2) := by decide +kernel
theorem d_T_toldDigit_28 : decode c_T_toldDigit 28 = .ok (.imul, 1) := by decide +kernel
theorem d_T_toldDigit_29 : decode c_T_toldDigit 29 = .ok (.bipush 30, 2) := by decide +kernel
theorem d_T_toldDigit_31 : decode c_T_toldDigit 31 = .ok (.idiv, 1) := by decide +kernel
theorem d_T_toldDigit_32 : decode c_T_toldDigit 32 = .ok (.istore 5, 2) := by decide +kernel
theorem d_T_toldDigit_34 : decode c_T_toldDigit 34 = .ok (.iload_n 3, 1) := by decide +kernel
theorem d_T_toldDigit_35 : decode c_T_toldDigit 35 = .ok (.bipush 16, 2) := by decide +kernel
theorem d_T_toldDigit_37 : decode c_T_toldDigit 37 = .ok (.imul, 1) := by decide +kernel
theorem d_T_toldDigit_38 : decode c_T_toldDigit 38 = .ok (.bipush 30, 2) := by decide +kernel
theorem d_T_toldDigit_40 : decode c_T_toldDigit 40 = .ok (.irem, 1) := by decide +kernel
theorem d_T_toldDigit_41 : decode c_T_toldDigit 41 = .ok (.istore 6, 2) := by decide +kernel
theorem d_T_toldDigit_43 : decode c_T_toldDigit 43 = .ok (.iload_n 2, 1) := by decide +kernel
theorem d_T_toldDigit_44 : decode c_T_toldDigit 44 = .ok (.bipush 6, 2) := by decide +kernel
theorem d_T_toldDigit_46 : decode c_T_toldDigit 46 = .ok (.imul, 1) := by decide +kernel
theorem d_T_toldDigit_47 : decode c_T_toldDigit 47 = .ok (.iconst 1, 1) := by decide +kernel
theorem d_T_toldDigit_48 : decode c_T_toldDigit 48 = .ok (.iadd, 1) := by decide +kernel
theorem d_T_toldDigit_49 : decode c_T_toldDigit 49 = .ok (.istore 7, 2) := by decide +kernel
theorem d_T_toldDigit_51 : decode c_T_toldDigit 51 = .ok (.iload 5, 2) := by decide +kernel
theorem d_T_toldDigit_53 : decode c_T_toldDigit 53 = .ok (.iload 4, 2) := by decide +kernel
theorem d_T_toldDigit_55 : decode c_T_toldDigit 55 = .ok (.if_icmp .ge 19, 3) := by decide +kernel
theorem d_T_toldDigit_58 : decode c_T_toldDigit 58 = .ok (.aload_n 0, 1) := by decide +kernel
theorem d_T_toldDigit_59 : decode c_T_toldDigit 59 = .ok (.getfield 21, 3) := by decide +kernel
theorem d_T_toldDigit_62 : decode c_T_toldDigit 62 = .ok (.iload_n 1, 1) := by decide +kernel
theorem d_T_toldDigit_63 : decode c_T_toldDigit 63 = .ok (.aaload, 1) := by decide +kernel
theorem d_T_toldDigit_64 : decode c_T_toldDigit 64 = .ok (.iload 7, 2) := by decide +kernel
theorem d_T_toldDigit_66 : decode c_T_toldDigit 66 = .ok (.iload 5, 2) := by decide +kernel
theorem d_T_toldDigit_68 : decode c_T_toldDigit 68 = .ok (.iadd, 1) := by decide +kernel
theorem d_T_toldDigit_69 : decode c_T_toldDigit 69 = .ok (.iaload, 1) := by decide +kernel
theorem d_T_toldDigit_70 : decode c_T_toldDigit 70 = .ok (.i2l, 1) := by decide +kernel
theorem d_T_toldDigit_71 : decode c_T_toldDigit 71 = .ok (.goto 4, 3) := by decide +kernel
theorem d_T_toldDigit_74 : decode c_T_toldDigit 74 = .ok (.lconst 0, 1) := by decide +kernel
theorem d_T_toldDigit_75 : decode c_T_toldDigit 75 = .ok (.lstore 8, 2) := by decide +kernel
theorem d_T_toldDigit_77 : decode c_T_toldDigit 77 = .ok (.iload 5, 2) := by decide +kernel
theorem d_T_toldDigit_79 : decode c_T_toldDigit 79 = .ok (.iconst 1, 1) := by decide +kernel
theorem d_T_toldDigit_80 : decode c_T_toldDigit 80 = .ok (.iadd, 1) := by decide +kernel
theorem d_T_toldDigit_81 : decode c_T_toldDigit 81 = .ok (.iload 4, 2) := by decide +kernel
theorem d_T_toldDigit_83 : decode c_T_toldDigit 83 = .ok (.if_icmp .ge 21, 3) := by decide +kernel
theorem d_T_toldDigit_86 : decode c_T_toldDigit 86 = .ok (.aload_n 0, 1) := by decide +kernel
theorem d_T_toldDigit_87 : decode c_T_toldDigit 87 = .ok (.getfield 21, 3) := by decide +kernel
theorem d_T_toldDigit_90 : decode c_T_toldDigit 90 = .ok (.iload_n 1, 1) := by decide +kernel
theorem d_T_toldDigit_91 : decode c_T_toldDigit 91 = .ok (.aaload, 1) := by decide +kernel
theorem d_T_toldDigit_92 : decode c_T_toldDigit 92 = .ok (.iload 7, 2) := by decide +kernel
theorem d_T_toldDigit_94 : decode c_T_toldDigit 94 = .ok (.iload 5, 2) := by decide +kernel
theorem d_T_toldDigit_96 : decode c_T_toldDigit 96 = .ok (.iadd, 1) := by decide +kernel
theorem d_T_toldDigit_97 : decode c_T_toldDigit 97 = .ok (.iconst 1, 1) := by decide +kernel
theorem d_T_toldDigit_98 : decode c_T_toldDigit 98 = .ok (.iadd, 1) := by decide +kernel
theorem d_T_toldDigit_99 : decode c_T_toldDigit 99 = .ok (.iaload, 1) := by decide +kernel
theorem d_T_toldDigit_100 : decode c_T_toldDigit 100 = .ok (.i2l, 1) := by decide +kernel
theorem d_T_toldDigit_101 : decode c_T_toldDigit 101 = .ok (.goto 4, 3) := by decide +kernel
theorem d_T_toldDigit_104 : decode c_T_toldDigit 104 = .ok (.lconst 0, 1) := by decide +kernel
theorem d_T_toldDigit_105 : decode c_T_toldDigit 105 = .ok (.lstore 10, 2) := by decide +kernel
theorem d_T_toldDigit_107 : decode c_T_toldDigit 107 = .ok (.lload 10, 2) := by decide +kernel
theorem d_T_toldDigit_109 : decode c_T_toldDigit 109 = .ok (.bipush 30, 2) := by decide +kernel
theorem d_T_toldDigit_111 : decode c_T_toldDigit 111 = .ok (.lshl, 1) := by decide +kernel
theorem d_T_toldDigit_112 : decode c_T_toldDigit 112 = .ok (.lload 8, 2) := by decide +kernel
theorem d_T_toldDigit_114 : decode c_T_toldDigit 114 = .ok (.lor, 1) := by decide +kernel
theorem d_T_toldDigit_115 : decode c_T_toldDigit 115 = .ok (.iload 6, 2) := by decide +kernel
theorem d_T_toldDigit_117 : decode c_T_toldDigit 117 = .ok (.lshr, 1) := by decide +kernel
theorem d_T_toldDigit_118 : decode c_T_toldDigit 118 = .ok (.l2i, 1) := by decide +kernel
theorem d_T_toldDigit_119 : decode c_T_toldDigit 119 = .ok (.ldc 78, 2) := by decide +kernel
theorem d_T_toldDigit_121 : decode c_T_toldDigit 121 = .ok (.iand, 1) := by decide +kernel
theorem d_T_toldDigit_122 : decode c_T_toldDigit 122 = .ok (.ireturn, 1) := by decide +kernel
