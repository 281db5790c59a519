theorem dX1_remain_0 : decode cX1_remain 0 = .ok (.aload_n 0, 1) := by decide +kernel
theorem dX1_remain_1 : decode cX1_remain 1 = .ok (.invokevirtual 9, 3) := by decide +kernel
theorem dX1_remain_4 : decode cX1_remain 4 = .ok (.istore_n 1, 1) := by decide +kernel
theorem dX1_remain_5 : decode cX1_remain 5 = .ok (.iconst 0, 1) := by decide +kernel
theorem dX1_remain_6 : decode cX1_remain 6 = .ok (.istore_n 2, 1) := by decide +kernel
theorem dX1_remain_7 : decode cX1_remain 7 = .ok (.iload_n 2, 1) := by decide +kernel
theorem dX1_remain_8 : decode cX1_remain 8 = .ok (.aload_n 0, 1) := by decide +kernel
theorem dX1_remain_9 : decode cX1_remain 9 = .ok (.getfield 15, 3) := by decide +kernel
theorem dX1_remain_12 : decode cX1_remain 12 = .ok (.if_icmp .ge 44, 3) := by decide +kernel
theorem dX1_remain_15 : decode cX1_remain 15 = .ok (.iconst 0, 1) := by decide +kernel
theorem dX1_remain_16 : decode cX1_remain 16 = .ok (.istore_n 3, 1) := by decide +kernel
theorem dX1_remain_17 : decode cX1_remain 17 = .ok (.iload_n 3, 1) := by decide +kernel
theorem dX1_remain_18 : decode cX1_remain 18 = .ok (.aload_n 0, 1) := by decide +kernel
theorem dX1_remain_19 : decode cX1_remain 19 = .ok (.getfield 15, 3) := by decide +kernel
theorem dX1_remain_22 : decode cX1_remain 22 = .ok (.if_icmp .ge 28, 3) := by decide +kernel
theorem dX1_remain_25 : decode cX1_remain 25 = .ok (.aload_n 0, 1) := by decide +kernel
theorem dX1_remain_26 : decode cX1_remain 26 = .ok (.getfield 19, 3) := by decide +kernel
theorem dX1_remain_29 : decode cX1_remain 29 = .ok (.iload_n 3, 1) := by decide +kernel
theorem dX1_remain_30 : decode cX1_remain 30 = .ok (.iaload, 1) := by decide +kernel
theorem dX1_remain_31 : decode cX1_remain 31 = .ok (.iload_n 1, 1) := by decide +kernel
theorem dX1_remain_32 : decode cX1_remain 32 = .ok (.iand, 1) := by decide +kernel
theorem dX1_remain_33 : decode cX1_remain 33 = .ok (.ifCond .ne 11, 3) := by decide +kernel
theorem dX1_remain_36 : decode cX1_remain 36 = .ok (.iload_n 1, 1) := by decide +kernel
theorem dX1_remain_37 : decode cX1_remain 37 = .ok (.iconst 1, 1) := by decide +kernel
theorem dX1_remain_38 : decode cX1_remain 38 = .ok (.iload_n 3, 1) := by decide +kernel
theorem dX1_remain_39 : decode cX1_remain 39 = .ok (.ishl, 1) := by decide +kernel
theorem dX1_remain_40 : decode cX1_remain 40 = .ok (.iconst (-1), 1) := by decide +kernel
theorem dX1_remain_41 : decode cX1_remain 41 = .ok (.ixor, 1) := by decide +kernel
theorem dX1_remain_42 : decode cX1_remain 42 = .ok (.iand, 1) := by decide +kernel
theorem dX1_remain_43 : decode cX1_remain 43 = .ok (.istore_n 1, 1) := by decide +kernel
theorem dX1_remain_44 : decode cX1_remain 44 = .ok (.iinc 3 1, 3) := by decide +kernel
theorem dX1_remain_47 : decode cX1_remain 47 = .ok (.goto (-30), 3) := by decide +kernel
theorem dX1_remain_50 : decode cX1_remain 50 = .ok (.iinc 2 1, 3) := by decide +kernel
theorem dX1_remain_53 : decode cX1_remain 53 = .ok (.goto (-46), 3) := by decide +kernel
theorem dX1_remain_56 : decode cX1_remain 56 = .ok (.iload_n 1, 1) := by decide +kernel
theorem dX1_remain_57 : decode cX1_remain 57 = .ok (.ifCond .eq 7, 3) := by decide +kernel
theorem dX1_remain_60 : decode cX1_remain 60 = .ok (.iconst 1, 1) := by decide +kernel
theorem dX1_remain_61 : decode cX1_remain 61 = .ok (.goto 4, 3) := by decide +kernel
theorem dX1_remain_64 : decode cX1_remain 64 = .ok (.iconst 0, 1) := by decide +kernel
theorem dX1_remain_65 : decode cX1_remain 65 = .ok (.ireturn, 1) := by decide +kernel
theorem dX1_areFound_0 : decode cX1_areFound 0 = .ok (.iconst 0, 1) := by decide +kernel
theorem dX1_areFound_1 : decode cX1_areFound 1 = .ok (.istore_n 1, 1) := by decide +kernel
theorem dX1_areFound_2 : decode cX1_areFound 2 = .ok (.iload_n 1, 1) := by decide +kernel
theorem dX1_areFound_3 : decode cX1_areFound 3 = .ok (.aload_n 0, 1) := by decide +kernel
theorem dX1_areFound_4 : decode cX1_areFound 4 = .ok (.getfield 15, 3) := by decide +kernel
theorem dX1_areFound_7 : decode cX1_areFound 7 = .ok (.if_icmp .ge 24, 3) := by decide +kernel
theorem dX1_areFound_10 : decode cX1_areFound 10 = .ok (.aload_n 0, 1) := by decide +kernel
theorem dX1_areFound_11 : decode cX1_areFound 11 = .ok (.getfield 19, 3) := by decide +kernel
theorem dX1_areFound_14 : decode cX1_areFound 14 = .ok (.iload_n 1, 1) := by decide +kernel
theorem dX1_areFound_15 : decode cX1_areFound 15 = .ok (.iconst 0, 1) := by decide +kernel
theorem dX1_areFound_16 : decode cX1_areFound 16 = .ok (.iconst 0, 1) := by decide +kernel
theorem dX1_areFound_17 : decode cX1_areFound 17 = .ok (.invokestatic 23, 3) := by decide +kernel
theorem dX1_areFound_20 : decode cX1_areFound 20 = .ok (.ifCond .eq 5, 3) := by decide +kernel
theorem dX1_areFound_23 : decode cX1_areFound 23 = .ok (.iconst 1, 1) := by decide +kernel
theorem dX1_areFound_24 : decode cX1_areFound 24 = .ok (.ireturn, 1) := by decide +kernel
theorem dX1_areFound_25 : decode cX1_areFound 25 = .ok (.iinc 1 1, 3) := by decide +kernel
theorem dX1_areFound_28 : decode cX1_areFound 28 = .ok (.goto (-26), 3) := by decide +kernel
theorem dX1_areFound_31 : decode cX1_areFound 31 = .ok (.iconst 0, 1) := by decide +kernel
theorem dX1_areFound_32 : decode cX1_areFound 32 = .ok (.ireturn, 1) := by decide +kernel
theorem dX1_meetsPath_0 : decode cX1_meetsPath 0 = .ok (.iload_n 2, 1) := by decide +kernel
theorem dX1_meetsPath_1 : decode cX1_meetsPath 1 = .ok (.iload_n 1, 1) := by decide +kernel
theorem dX1_meetsPath_2 : decode cX1_meetsPath 2 = .ok (.invokestatic 29, 3) := by decide +kernel
theorem dX1_meetsPath_5 : decode cX1_meetsPath 5 = .ok (.ifCond .eq 5, 3) := by decide +kernel
theorem dX1_meetsPath_8 : decode cX1_meetsPath 8 = .ok (.iconst 1, 1) := by decide +kernel
theorem dX1_meetsPath_9 : decode cX1_meetsPath 9 = .ok (.ireturn, 1) := by decide +kernel
theorem dX1_meetsPath_10 : decode cX1_meetsPath 10 = .ok (.iload_n 3, 1) := by decide +kernel
theorem dX1_meetsPath_11 : decode cX1_meetsPath 11 = .ok (.bipush 8, 2) := by decide +kernel
theorem dX1_meetsPath_13 : decode cX1_meetsPath 13 = .ok (.if_icmp .lt 5, 3) := by decide +kernel
theorem dX1_meetsPath_16 : decode cX1_meetsPath 16 = .ok (.iconst 0, 1) := by decide +kernel
theorem dX1_meetsPath_17 : decode cX1_meetsPath 17 = .ok (.ireturn, 1) := by decide +kernel
theorem dX1_meetsPath_18 : decode cX1_meetsPath 18 = .ok (.iconst 0, 1) := by decide +kernel
theorem dX1_meetsPath_19 : decode cX1_meetsPath 19 = .ok (.istore 4, 2) := by decide +kernel
theorem dX1_meetsPath_21 : decode cX1_meetsPath 21 = .ok (.iload 4, 2) := by decide +kernel
theorem dX1_meetsPath_23 : decode cX1_meetsPath 23 = .ok (.bipush 8, 2) := by decide +kernel
theorem dX1_meetsPath_25 : decode cX1_meetsPath 25 = .ok (.if_icmp .ge 39, 3) := by decide +kernel
theorem dX1_meetsPath_28 : decode cX1_meetsPath 28 = .ok (.aload_n 0, 1) := by decide +kernel
theorem dX1_meetsPath_29 : decode cX1_meetsPath 29 = .ok (.iload_n 1, 1) := by decide +kernel
theorem dX1_meetsPath_30 : decode cX1_meetsPath 30 = .ok (.iaload, 1) := by decide +kernel
theorem dX1_meetsPath_31 : decode cX1_meetsPath 31 = .ok (.iload 4, 2) := by decide +kernel
theorem dX1_meetsPath_33 : decode cX1_meetsPath 33 = .ok (.invokestatic 29, 3) := by decide +kernel
theorem dX1_meetsPath_36 : decode cX1_meetsPath 36 = .ok (.ifCond .eq 22, 3) := by decide +kernel
theorem dX1_meetsPath_39 : decode cX1_meetsPath 39 = .ok (.aload_n 0, 1) := by decide +kernel
theorem dX1_meetsPath_40 : decode cX1_meetsPath 40 = .ok (.iload 4, 2) := by decide +kernel
theorem dX1_meetsPath_42 : decode cX1_meetsPath 42 = .ok (.iload_n 2, 1) := by decide +kernel
theorem dX1_meetsPath_43 : decode cX1_meetsPath 43 = .ok (.iconst 1, 1) := by decide +kernel
theorem dX1_meetsPath_44 : decode cX1_meetsPath 44 = .ok (.iload_n 1, 1) := by decide +kernel
theorem dX1_meetsPath_45 : decode cX1_meetsPath 45 = .ok (.ishl, 1) := by decide +kernel
theorem dX1_meetsPath_46 : decode cX1_meetsPath 46 = .ok (.ior, 1) := by decide +kernel
theorem dX1_meetsPath_47 : decode cX1_meetsPath 47 = .ok (.iload_n 3, 1) := by decide +kernel
theorem dX1_meetsPath_48 : decode cX1_meetsPath 48 = .ok (.iconst 1, 1) := by decide +kernel
theorem dX1_meetsPath_49 : decode cX1_meetsPath 49 = .ok (.iadd, 1) := by decide +kernel
theorem dX1_meetsPath_50 : decode cX1_meetsPath 50 = .ok (.invokestatic 23, 3) := by decide +kernel
theorem dX1_meetsPath_53 : decode cX1_meetsPath 53 = .ok (.ifCond .eq 5, 3) := by decide +kernel
theorem dX1_meetsPath_56 : decode cX1_meetsPath 56 = .ok (.iconst 1, 1) := by decide +kernel
theorem dX1_meetsPath_57 : decode cX1_meetsPath 57 = .ok (.ireturn, 1) := by decide +kernel
theorem dX1_meetsPath_58 : decode cX1_meetsPath 58 = .ok (.iinc 4 1, 3) := by decide +kernel
theorem dX1_meetsPath_61 : decode cX1_meetsPath 61 = .ok (.goto (-40), 3) := by decide +kernel
theorem dX1_meetsPath_64 : decode cX1_meetsPath 64 = .ok (.iconst 0, 1) := by decide +kernel
theorem dX1_meetsPath_65 : decode cX1_meetsPath 65 = .ok (.ireturn, 1) := by decide +kernel
theorem dX2_init_0 : decode cX2_init 0 = .ok (.aload_n 0, 1) := by decide +kernel
theorem dX2_init_1 : decode cX2_init 1 = .ok (.invokespecial 3, 3) := by decide +kernel
theorem dX2_init_4 : decode cX2_init 4 = .ok (.aload_n 0, 1) := by decide +kernel
theorem dX2_init_5 : decode cX2_init 5 = .ok (.bipush 12, 2) := by decide +kernel
theorem dX2_init_7 : decode cX2_init 7 = .ok (.newarray .int, 2) := by decide +kernel
theorem dX2_init_9 : decode cX2_init 9 = .ok (.putfield 9, 3) := by decide +kernel
theorem dX2_init_12 : decode cX2_init 12 = .ok (.aload_n 0, 1) := by decide +kernel
theorem dX2_init_13 : decode cX2_init 13 = .ok (.iconst 0, 1) := by decide +kernel
theorem dX2_init_14 : decode cX2_init 14 = .ok (.putfield 15, 3) := by decide +kernel
theorem dX2_init_17 : decode cX2_init 17 = .ok (.aload_n 0, 1) := by decide +kernel
theorem dX2_init_18 : decode cX2_init 18 = .ok (.iconst 0, 1) := by decide +kernel
theorem dX2_init_19 : decode cX2_init 19 = .ok (.putfield 19, 3) := by decide +kernel
theorem dX2_init_22 : decode cX2_init 22 = .ok (.aload_n 0, 1) := by decide +kernel
theorem dX2_init_23 : decode cX2_init 23 = .ok (.iconst 0, 1) := by decide +kernel
theorem dX2_init_24 : decode cX2_init 24 = .ok (.putfield 22, 3) := by decide +kernel
theorem dX2_init_27 : decode cX2_init 27 = .ok (.aload_n 0, 1) := by decide +kernel
theorem dX2_init_28 : decode cX2_init 28 = .ok (.iconst 0, 1) := by decide +kernel
theorem dX2_init_29 : decode cX2_init 29 = .ok (.putfield 25, 3) := by decide +kernel
theorem dX2_init_32 : decode cX2_init 32 = .ok (.return_, 1) := by decide +kernel
theorem dX2_copyFrom_0 : decode cX2_copyFrom 0 = .ok (.aload_n 1, 1) := by decide +kernel
theorem dX2_copyFrom_1 : decode cX2_copyFrom 1 = .ok (.getfield 9, 3) := by decide +kernel
theorem dX2_copyFrom_4 : decode cX2_copyFrom 4 = .ok (.iconst 0, 1) := by decide +kernel
theorem dX2_copyFrom_5 : decode cX2_copyFrom 5 = .ok (.aload_n 0, 1) := by decide +kernel
theorem dX2_copyFrom_6 : decode cX2_copyFrom 6 = .ok (.getfield 9, 3) := by decide +kernel
theorem dX2_copyFrom_9 : decode cX2_copyFrom 9 = .ok (.iconst 0, 1) := by decide +kernel
theorem dX2_copyFrom_10 : decode cX2_copyFrom 10 = .ok (.bipush 12, 2) := by decide +kernel
theorem dX2_copyFrom_12 : decode cX2_copyFrom 12 = .ok (.invokestatic 28, 3) := by decide +kernel
theorem dX2_copyFrom_15 : decode cX2_copyFrom 15 = .ok (.aload_n 0, 1) := by decide +kernel
theorem dX2_copyFrom_16 : decode cX2_copyFrom 16 = .ok (.aload_n 1, 1) := by decide +kernel
theorem dX2_copyFrom_17 : decode cX2_copyFrom 17 = .ok (.getfield 15, 3) := by decide +kernel
theorem dX2_copyFrom_20 : decode cX2_copyFrom 20 = .ok (.putfield 15, 3) := by decide +kernel
theorem dX2_copyFrom_23 : decode cX2_copyFrom 23 = .ok (.aload_n 0, 1) := by decide +kernel
theorem dX2_copyFrom_24 : decode cX2_copyFrom 24 = .ok (.aload_n 1, 1) := by decide +kernel
theorem dX2_copyFrom_25 : decode cX2_copyFrom 25 = .ok (.getfield 19, 3) := by decide +kernel
theorem dX2_copyFrom_28 : decode cX2_copyFrom 28 = .ok (.putfield 19, 3) := by decide +kernel
theorem dX2_copyFrom_31 : decode cX2_copyFrom 31 = .ok (.aload_n 0, 1) := by decide +kernel
theorem dX2_copyFrom_32 : decode cX2_copyFrom 32 = .ok (.aload_n 1, 1) := by decide +kernel
theorem dX2_copyFrom_33 : decode cX2_copyFrom 33 = .ok (.getfield 22, 3) := by decide +kernel
theorem dX2_copyFrom_36 : decode cX2_copyFrom 36 = .ok (.putfield 22, 3) := by decide +kernel
theorem dX2_copyFrom_39 : decode cX2_copyFrom 39 = .ok (.aload_n 0, 1) := by decide +kernel
theorem dX2_copyFrom_40 : decode cX2_copyFrom 40 = .ok (.aload_n 1, 1) := by decide +kernel
theorem dX2_copyFrom_41 : decode cX2_copyFrom 41 = .ok (.getfield 25, 3) := by decide +kernel
theorem dX2_copyFrom_44 : decode cX2_copyFrom 44 = .ok (.putfield 25, 3) := by decide +kernel
theorem dX2_copyFrom_47 : decode cX2_copyFrom 47 = .ok (.return_, 1) := by decide +kernel
theorem dX2_isProponents_0 : decode cX2_isProponents 0 = .ok (.iload_n 0, 1) := by decide +kernel
theorem dX2_isProponents_1 : decode cX2_isProponents 1 = .ok (.iconst 2, 1) := by decide +kernel
theorem dX2_isProponents_2 : decode cX2_isProponents 2 = .ok (.irem, 1) := by decide +kernel
theorem dX2_isProponents_3 : decode cX2_isProponents 3 = .ok (.ifCond .ne 7, 3) := by decide +kernel
theorem dX2_isProponents_6 : decode cX2_isProponents 6 = .ok (.iconst 1, 1) := by decide +kernel
theorem dX2_isProponents_7 : decode cX2_isProponents 7 = .ok (.goto 4, 3) := by decide +kernel
theorem dX2_isProponents_10 : decode cX2_isProponents 10 = .ok (.iconst 0, 1) := by decide +kernel
theorem dX2_isProponents_11 : decode cX2_isProponents 11 = .ok (.ireturn, 1) := by decide +kernel
theorem dX2_isHeld_0 : decode cX2_isHeld 0 = .ok (.aload_n 0, 1) := by decide +kernel
theorem dX2_isHeld_1 : decode cX2_isHeld 1 = .ok (.getfield 15, 3) := by decide +kernel
theorem dX2_isHeld_4 : decode cX2_isHeld 4 = .ok (.ifCond .le 7, 3) := by decide +kernel
theorem dX2_isHeld_7 : decode cX2_isHeld 7 = .ok (.iconst 1, 1) := by decide +kernel
theorem dX2_isHeld_8 : decode cX2_isHeld 8 = .ok (.goto 4, 3) := by decide +kernel
theorem dX2_isHeld_11 : decode cX2_isHeld 11 = .ok (.iconst 0, 1) := by decide +kernel
theorem dX2_isHeld_12 : decode cX2_isHeld 12 = .ok (.ireturn, 1) := by decide +kernel
theorem dX2_isFull_0 : decode cX2_isFull 0 = .ok (.aload_n 0, 1) := by decide +kernel
theorem dX2_isFull_1 : decode cX2_isFull 1 = .ok (.getfield 15, 3) := by decide +kernel
theorem dX2_isFull_4 : decode cX2_isFull 4 = .ok (.bipush 12, 2) := by decide +kernel
theorem dX2_isFull_6 : decode cX2_isFull 6 = .ok (.if_icmp .lt 7, 3) := by decide +kernel
theorem dX2_isFull_9 : decode cX2_isFull 9 = .ok (.iconst 1, 1) := by decide +kernel
theorem dX2_isFull_10 : decode cX2_isFull 10 = .ok (.goto 4, 3) := by decide +kernel
theorem dX2_isFull_13 : decode cX2_isFull 13 = .ok (.iconst 0, 1) := by decide +kernel
theorem dX2_isFull_14 : decode cX2_isFull 14 = .ok (.ireturn, 1) := by decide +kernel
theorem dX2_mustBeHeld_0 : decode cX2_mustBeHeld 0 = .ok (.aload_n 0, 1) := by decide +kernel
theorem dX2_mustBeHeld_1 : decode cX2_mustBeHeld 1 = .ok (.getfield 15, 3) := by decide +kernel
theorem dX2_mustBeHeld_4 : decode cX2_mustBeHeld 4 = .ok (.ifCond .ne 13, 3) := by decide +kernel
theorem dX2_mustBeHeld_7 : decode cX2_mustBeHeld 7 = .ok (.new 34, 3) := by decide +kernel
theorem dX2_mustBeHeld_10 : decode cX2_mustBeHeld 10 = .ok (.dup, 1) := by decide +kernel
theorem dX2_mustBeHeld_11 : decode cX2_mustBeHeld 11 = .ok (.ldc 36, 2) := by decide +kernel
theorem dX2_mustBeHeld_13 : decode cX2_mustBeHeld 13 = .ok (.invokespecial 38, 3) := by decide +kernel
theorem dX2_mustBeHeld_16 : decode cX2_mustBeHeld 16 = .ok (.athrow, 1) := by decide +kernel
theorem dX2_mustBeHeld_17 : decode cX2_mustBeHeld 17 = .ok (.return_, 1) := by decide +kernel
theorem dX2_last_0 : decode cX2_last 0 = .ok (.aload_n 0, 1) := by decide +kernel
theorem dX2_last_1 : decode cX2_last 1 = .ok (.getfield 15, 3) := by decide +kernel
theorem dX2_last_4 : decode cX2_last 4 = .ok (.ifCond .le 17, 3) := by decide +kernel
theorem dX2_last_7 : decode cX2_last 7 = .ok (.aload_n 0, 1) := by decide +kernel
theorem dX2_last_8 : decode cX2_last 8 = .ok (.getfield 9, 3) := by decide +kernel
theorem dX2_last_11 : decode cX2_last 11 = .ok (.aload_n 0, 1) := by decide +kernel
theorem dX2_last_12 : decode cX2_last 12 = .ok (.getfield 15, 3) := by decide +kernel
theorem dX2_last_15 : decode cX2_last 15 = .ok (.iconst 1, 1) := by decide +kernel
theorem dX2_last_16 : decode cX2_last 16 = .ok (.isub, 1) := by decide +kernel
theorem dX2_last_17 : decode cX2_last 17 = .ok (.iaload, 1) := by decide +kernel
theorem dX2_last_18 : decode cX2_last 18 = .ok (.goto 4, 3) := by decide +kernel
theorem dX2_last_21 : decode cX2_last 21 = .ok (.iconst (-1), 1) := by decide +kernel
theorem dX2_last_22 : decode cX2_last 22 = .ok (.ireturn, 1) := by decide +kernel
theorem dX2_isMovedByProponent_0 : decode cX2_isMovedByProponent 0 = .ok (.iconst 0, 1) := by decide +kernel
theorem dX2_isMovedByProponent_1 : decode cX2_isMovedByProponent 1 = .ok (.istore_n 2, 1) := by decide +kernel
theorem dX2_isMovedByProponent_2 : decode cX2_isMovedByProponent 2 = .ok (.iload_n 2, 1) := by decide +kernel
theorem dX2_isMovedByProponent_3 : decode cX2_isMovedByProponent 3 = .ok (.aload_n 0, 1) := by decide +kernel
theorem dX2_isMovedByProponent_4 : decode cX2_isMovedByProponent 4 = .ok (.getfield 15, 3) := by decide +kernel
theorem dX2_isMovedByProponent_7 : decode cX2_isMovedByProponent 7 = .ok (.if_icmp .ge 28, 3) := by decide +kernel
theorem dX2_isMovedByProponent_10 : decode cX2_isMovedByProponent 10 = .ok (.iload_n 2, 1) := by decide +kernel
theorem dX2_isMovedByProponent_11 : decode cX2_isMovedByProponent 11 = .ok (.invokestatic 41, 3) := by decide +kernel
theorem dX2_isMovedByProponent_14 : decode cX2_isMovedByProponent 14 = .ok (.ifCond .eq 15, 3) := by decide +kernel
theorem dX2_isMovedByProponent_17 : decode cX2_isMovedByProponent 17 = .ok (.aload_n 0, 1) := by decide +kernel
theorem dX2_isMovedByProponent_18 : decode cX2_isMovedByProponent 18 = .ok (.getfield 9, 3) := by decide +kernel
theorem dX2_isMovedByProponent_21 : decode cX2_isMovedByProponent 21 = .ok (.iload_n 2, 1) := by decide +kernel
theorem dX2_isMovedByProponent_22 : decode cX2_isMovedByProponent 22 = .ok (.iaload, 1) := by decide +kernel
theorem dX2_isMovedByProponent_23 : decode cX2_isMovedByProponent 23 = .ok (.iload_n 1, 1) := by decide +kernel
theorem dX2_isMovedByProponent_24 : decode cX2_isMovedByProponent 24 = .ok (.if_icmp .ne 5, 3) := by decide +kernel
theorem dX2_isMovedByProponent_27 : decode cX2_isMovedByProponent 27 = .ok (.iconst 1, 1) := by decide +kernel
theorem dX2_isMovedByProponent_28 : decode cX2_isMovedByProponent 28 = .ok (.ireturn, 1) := by decide +kernel
theorem dX2_isMovedByProponent_29 : decode cX2_isMovedByProponent 29 = .ok (.iinc 2 1, 3) := by decide +kernel
theorem dX2_isMovedByProponent_32 : decode cX2_isMovedByProponent 32 = .ok (.goto (-30), 3) := by decide +kernel
theorem dX2_isMovedByProponent_35 : decode cX2_isMovedByProponent 35 = .ok (.iconst 0, 1) := by decide +kernel
theorem dX2_isMovedByProponent_36 : decode cX2_isMovedByProponent 36 = .ok (.ireturn, 1) := by decide +kernel
theorem dX2_add_0 : decode cX2_add 0 = .ok (.aload_n 0, 1) := by decide +kernel
theorem dX2_add_1 : decode cX2_add 1 = .ok (.invokevirtual 45, 3) := by decide +kernel
theorem dX2_add_4 : decode cX2_add 4 = .ok (.ifCond .ne 23, 3) := by decide +kernel
theorem dX2_add_7 : decode cX2_add 7 = .ok (.aload_n 0, 1) := by decide +kernel
theorem dX2_add_8 : decode cX2_add 8 = .ok (.getfield 9, 3) := by decide +kernel
theorem dX2_add_11 : decode cX2_add 11 = .ok (.aload_n 0, 1) := by decide +kernel
theorem dX2_add_12 : decode cX2_add 12 = .ok (.getfield 15, 3) := by decide +kernel
theorem dX2_add_15 : decode cX2_add 15 = .ok (.iload_n 1, 1) := by decide +kernel
theorem dX2_add_16 : decode cX2_add 16 = .ok (.iastore, 1) := by decide +kernel
theorem dX2_add_17 : decode cX2_add 17 = .ok (.aload_n 0, 1) := by decide +kernel
theorem dX2_add_18 : decode cX2_add 18 = .ok (.dup, 1) := by decide +kernel
theorem dX2_add_19 : decode cX2_add 19 = .ok (.getfield 15, 3) := by decide +kernel
theorem dX2_add_22 : decode cX2_add 22 = .ok (.iconst 1, 1) := by decide +kernel
theorem dX2_add_23 : decode cX2_add 23 = .ok (.iadd, 1) := by decide +kernel
theorem dX2_add_24 : decode cX2_add 24 = .ok (.putfield 15, 3) := by decide +kernel
theorem dX2_add_27 : decode cX2_add 27 = .ok (.return_, 1) := by decide +kernel
theorem dX2_dropLast_0 : decode cX2_dropLast 0 = .ok (.aload_n 0, 1) := by decide +kernel
theorem dX2_dropLast_1 : decode cX2_dropLast 1 = .ok (.invokevirtual 49, 3) := by decide +kernel
theorem dX2_dropLast_4 : decode cX2_dropLast 4 = .ok (.aload_n 0, 1) := by decide +kernel
theorem dX2_dropLast_5 : decode cX2_dropLast 5 = .ok (.getfield 15, 3) := by decide +kernel
theorem dX2_dropLast_8 : decode cX2_dropLast 8 = .ok (.iconst 1, 1) := by decide +kernel
theorem dX2_dropLast_9 : decode cX2_dropLast 9 = .ok (.if_icmp .ne 13, 3) := by decide +kernel
theorem dX2_dropLast_12 : decode cX2_dropLast 12 = .ok (.new 52, 3) := by decide +kernel
theorem dX2_dropLast_15 : decode cX2_dropLast 15 = .ok (.dup, 1) := by decide +kernel
theorem dX2_dropLast_16 : decode cX2_dropLast 16 = .ok (.ldc 54, 2) := by decide +kernel
theorem dX2_dropLast_18 : decode cX2_dropLast 18 = .ok (.invokespecial 56, 3) := by decide +kernel
theorem dX2_dropLast_21 : decode cX2_dropLast 21 = .ok (.athrow, 1) := by decide +kernel
theorem dX2_dropLast_22 : decode cX2_dropLast 22 = .ok (.aload_n 0, 1) := by decide +kernel
theorem dX2_dropLast_23 : decode cX2_dropLast 23 = .ok (.dup, 1) := by decide +kernel
theorem dX2_dropLast_24 : decode cX2_dropLast 24 = .ok (.getfield 15, 3) := by decide +kernel
theorem dX2_dropLast_27 : decode cX2_dropLast 27 = .ok (.iconst 1, 1) := by decide +kernel
theorem dX2_dropLast_28 : decode cX2_dropLast 28 = .ok (.isub, 1) := by decide +kernel
theorem dX2_dropLast_29 : decode cX2_dropLast 29 = .ok (.putfield 15, 3) := by decide +kernel
theorem dX2_dropLast_32 : decode cX2_dropLast 32 = .ok (.aload_n 0, 1) := by decide +kernel
theorem dX2_dropLast_33 : decode cX2_dropLast 33 = .ok (.getfield 15, 3) := by decide +kernel
theorem dX2_dropLast_36 : decode cX2_dropLast 36 = .ok (.ireturn, 1) := by decide +kernel
theorem dX2_end_0 : decode cX2_end 0 = .ok (.aload_n 0, 1) := by decide +kernel
theorem dX2_end_1 : decode cX2_end 1 = .ok (.invokevirtual 49, 3) := by decide +kernel
theorem dX2_end_4 : decode cX2_end 4 = .ok (.aload_n 0, 1) := by decide +kernel
theorem dX2_end_5 : decode cX2_end 5 = .ok (.getfield 15, 3) := by decide +kernel
theorem dX2_end_8 : decode cX2_end 8 = .ok (.iconst 1, 1) := by decide +kernel
theorem dX2_end_9 : decode cX2_end 9 = .ok (.isub, 1) := by decide +kernel
theorem dX2_end_10 : decode cX2_end 10 = .ok (.invokestatic 41, 3) := by decide +kernel
theorem dX2_end_13 : decode cX2_end 13 = .ok (.istore_n 1, 1) := by decide +kernel
theorem dX2_end_14 : decode cX2_end 14 = .ok (.aload_n 0, 1) := by decide +kernel
theorem dX2_end_15 : decode cX2_end 15 = .ok (.iconst 0, 1) := by decide +kernel
theorem dX2_end_16 : decode cX2_end 16 = .ok (.putfield 15, 3) := by decide +kernel
theorem dX2_end_19 : decode cX2_end 19 = .ok (.aload_n 0, 1) := by decide +kernel
theorem dX2_end_20 : decode cX2_end 20 = .ok (.dup, 1) := by decide +kernel
theorem dX2_end_21 : decode cX2_end 21 = .ok (.getfield 19, 3) := by decide +kernel
theorem dX2_end_24 : decode cX2_end 24 = .ok (.iconst 1, 1) := by decide +kernel
theorem dX2_end_25 : decode cX2_end 25 = .ok (.iadd, 1) := by decide +kernel
theorem dX2_end_26 : decode cX2_end 26 = .ok (.putfield 19, 3) := by decide +kernel
theorem dX2_end_29 : decode cX2_end 29 = .ok (.iload_n 1, 1) := by decide +kernel
theorem dX2_end_30 : decode cX2_end 30 = .ok (.ifCond .eq 16, 3) := by decide +kernel
theorem dX2_end_33 : decode cX2_end 33 = .ok (.aload_n 0, 1) := by decide +kernel
theorem dX2_end_34 : decode cX2_end 34 = .ok (.dup, 1) := by decide +kernel
theorem dX2_end_35 : decode cX2_end 35 = .ok (.getfield 22, 3) := by decide +kernel
theorem dX2_end_38 : decode cX2_end 38 = .ok (.iconst 1, 1) := by decide +kernel
theorem dX2_end_39 : decode cX2_end 39 = .ok (.iadd, 1) := by decide +kernel
theorem dX2_end_40 : decode cX2_end 40 = .ok (.putfield 22, 3) := by decide +kernel
theorem dX2_end_43 : decode cX2_end 43 = .ok (.bipush 112, 2) := by decide +kernel
theorem dX2_end_45 : decode cX2_end 45 = .ok (.ireturn, 1) := by decide +kernel
theorem dX2_end_46 : decode cX2_end 46 = .ok (.bipush 111, 2) := by decide +kernel
theorem dX2_end_48 : decode cX2_end 48 = .ok (.ireturn, 1) := by decide +kernel
theorem dX2_breakOffIfMoved_0 : decode cX2_breakOffIfMoved 0 = .ok (.iconst 0, 1) := by decide +kernel
theorem dX2_breakOffIfMoved_1 : decode cX2_breakOffIfMoved 1 = .ok (.istore_n 2, 1) := by decide +kernel
theorem dX2_breakOffIfMoved_2 : decode cX2_breakOffIfMoved 2 = .ok (.iload_n 2, 1) := by decide +kernel
theorem dX2_breakOffIfMoved_3 : decode cX2_breakOffIfMoved 3 = .ok (.aload_n 0, 1) := by decide +kernel
theorem dX2_breakOffIfMoved_4 : decode cX2_breakOffIfMoved 4 = .ok (.getfield 15, 3) := by decide +kernel
theorem dX2_breakOffIfMoved_7 : decode cX2_breakOffIfMoved 7 = .ok (.if_icmp .ge 35, 3) := by decide +kernel
theorem dX2_breakOffIfMoved_10 : decode cX2_breakOffIfMoved 10 = .ok (.aload_n 0, 1) := by decide +kernel
theorem dX2_breakOffIfMoved_11 : decode cX2_breakOffIfMoved 11 = .ok (.getfield 9, 3) := by decide +kernel
theorem dX2_breakOffIfMoved_14 : decode cX2_breakOffIfMoved 14 = .ok (.iload_n 2, 1) := by decide +kernel
theorem dX2_breakOffIfMoved_15 : decode cX2_breakOffIfMoved 15 = .ok (.iaload, 1) := by decide +kernel
theorem dX2_breakOffIfMoved_16 : decode cX2_breakOffIfMoved 16 = .ok (.iload_n 1, 1) := by decide +kernel
theorem dX2_breakOffIfMoved_17 : decode cX2_breakOffIfMoved 17 = .ok (.if_icmp .ne 19, 3) := by decide +kernel
theorem dX2_breakOffIfMoved_20 : decode cX2_breakOffIfMoved 20 = .ok (.aload_n 0, 1) := by decide +kernel
theorem dX2_breakOffIfMoved_21 : decode cX2_breakOffIfMoved 21 = .ok (.iconst 0, 1) := by decide +kernel
theorem dX2_breakOffIfMoved_22 : decode cX2_breakOffIfMoved 22 = .ok (.putfield 15, 3) := by decide +kernel
theorem dX2_breakOffIfMoved_25 : decode cX2_breakOffIfMoved 25 = .ok (.aload_n 0, 1) := by decide +kernel
theorem dX2_breakOffIfMoved_26 : decode cX2_breakOffIfMoved 26 = .ok (.dup, 1) := by decide +kernel
theorem dX2_breakOffIfMoved_27 : decode cX2_breakOffIfMoved 27 = .ok (.getfield 25, 3) := by decide +kernel
theorem dX2_breakOffIfMoved_30 : decode cX2_breakOffIfMoved 30 = .ok (.iconst 1, 1) := by decide +kernel
theorem dX2_breakOffIfMoved_31 : decode cX2_breakOffIfMoved 31 = .ok (.iadd, 1) := by decide +kernel
theorem dX2_breakOffIfMoved_32 : decode cX2_breakOffIfMoved 32 = .ok (.putfield 25, 3) := by decide +kernel
theorem dX2_breakOffIfMoved_35 : decode cX2_breakOffIfMoved 35 = .ok (.return_, 1) := by decide +kernel
theorem dX2_breakOffIfMoved_36 : decode cX2_breakOffIfMoved 36 = .ok (.iinc 2 1, 3) := by decide +kernel
theorem dX2_breakOffIfMoved_39 : decode cX2_breakOffIfMoved 39 = .ok (.goto (-37), 3) := by decide +kernel
theorem dX2_breakOffIfMoved_42 : decode cX2_breakOffIfMoved 42 = .ok (.return_, 1) := by decide +kernel
theorem dX3_init_0 : decode cX3_init 0 = .ok (.aload_n 0, 1) := by decide +kernel
theorem dX3_init_1 : decode cX3_init 1 = .ok (.invokespecial 3, 3) := by decide +kernel
theorem dX3_init_4 : decode cX3_init 4 = .ok (.aload_n 0, 1) := by decide +kernel
theorem dX3_init_5 : decode cX3_init 5 = .ok (.sipush 256, 3) := by decide +kernel
theorem dX3_init_8 : decode cX3_init 8 = .ok (.newarray .boolean, 2) := by decide +kernel
theorem dX3_init_10 : decode cX3_init 10 = .ok (.putfield 9, 3) := by decide +kernel
theorem dX3_init_13 : decode cX3_init 13 = .ok (.aload_n 0, 1) := by decide +kernel
theorem dX3_init_14 : decode cX3_init 14 = .ok (.sipush 256, 3) := by decide +kernel
theorem dX3_init_17 : decode cX3_init 17 = .ok (.newarray .boolean, 2) := by decide +kernel
theorem dX3_init_19 : decode cX3_init 19 = .ok (.putfield 15, 3) := by decide +kernel
theorem dX3_init_22 : decode cX3_init 22 = .ok (.aload_n 0, 1) := by decide +kernel
theorem dX3_init_23 : decode cX3_init 23 = .ok (.iconst 1, 1) := by decide +kernel
theorem dX3_init_24 : decode cX3_init 24 = .ok (.putfield 18, 3) := by decide +kernel
theorem dX3_init_27 : decode cX3_init 27 = .ok (.return_, 1) := by decide +kernel
theorem dX3_countStable_0 : decode cX3_countStable 0 = .ok (.iconst 0, 1) := by decide +kernel
theorem dX3_countStable_1 : decode cX3_countStable 1 = .ok (.istore_n 2, 1) := by decide +kernel
theorem dX3_countStable_2 : decode cX3_countStable 2 = .ok (.aload_n 1, 1) := by decide +kernel
theorem dX3_countStable_3 : decode cX3_countStable 3 = .ok (.invokevirtual 22, 3) := by decide +kernel
theorem dX3_countStable_6 : decode cX3_countStable 6 = .ok (.istore_n 3, 1) := by decide +kernel
theorem dX3_countStable_7 : decode cX3_countStable 7 = .ok (.iconst 0, 1) := by decide +kernel
theorem dX3_countStable_8 : decode cX3_countStable 8 = .ok (.istore 4, 2) := by decide +kernel
theorem dX3_countStable_10 : decode cX3_countStable 10 = .ok (.iload 4, 2) := by decide +kernel
theorem dX3_countStable_12 : decode cX3_countStable 12 = .ok (.iload_n 3, 1) := by decide +kernel
theorem dX3_countStable_13 : decode cX3_countStable 13 = .ok (.if_icmp .gt 36, 3) := by decide +kernel
theorem dX3_countStable_16 : decode cX3_countStable 16 = .ok (.aload_n 1, 1) := by decide +kernel
theorem dX3_countStable_17 : decode cX3_countStable 17 = .ok (.iload 4, 2) := by decide +kernel
theorem dX3_countStable_19 : decode cX3_countStable 19 = .ok (.invokestatic 28, 3) := by decide +kernel
theorem dX3_countStable_22 : decode cX3_countStable 22 = .ok (.ifCond .eq 21, 3) := by decide +kernel
theorem dX3_countStable_25 : decode cX3_countStable 25 = .ok (.aload_n 1, 1) := by decide +kernel
theorem dX3_countStable_26 : decode cX3_countStable 26 = .ok (.iload_n 3, 1) := by decide +kernel
theorem dX3_countStable_27 : decode cX3_countStable 27 = .ok (.iload 4, 2) := by decide +kernel
theorem dX3_countStable_29 : decode cX3_countStable 29 = .ok (.iconst (-1), 1) := by decide +kernel
theorem dX3_countStable_30 : decode cX3_countStable 30 = .ok (.ixor, 1) := by decide +kernel
theorem dX3_countStable_31 : decode cX3_countStable 31 = .ok (.iand, 1) := by decide +kernel
theorem dX3_countStable_32 : decode cX3_countStable 32 = .ok (.iload 4, 2) := by decide +kernel
theorem dX3_countStable_34 : decode cX3_countStable 34 = .ok (.invokestatic 32, 3) := by decide +kernel
theorem dX3_countStable_37 : decode cX3_countStable 37 = .ok (.ifCond .eq 6, 3) := by decide +kernel
theorem dX3_countStable_40 : decode cX3_countStable 40 = .ok (.iinc 2 1, 3) := by decide +kernel
theorem dX3_countStable_43 : decode cX3_countStable 43 = .ok (.iinc 4 1, 3) := by decide +kernel
theorem dX3_countStable_46 : decode cX3_countStable 46 = .ok (.goto (-36), 3) := by decide +kernel
theorem dX3_countStable_49 : decode cX3_countStable 49 = .ok (.iload_n 2, 1) := by decide +kernel
theorem dX3_countStable_50 : decode cX3_countStable 50 = .ok (.ireturn, 1) := by decide +kernel
theorem dX3_countStableByLabels_0 : decode cX3_countStableByLabels 0 = .ok (.aload_n 1, 1) := by decide +kernel
theorem dX3_countStableByLabels_1 : decode cX3_countStableByLabels 1 = .ok (.iconst 0, 1) := by decide +kernel
theorem dX3_countStableByLabels_2 : decode cX3_countStableByLabels 2 = .ok (.iconst 0, 1) := by decide +kernel
theorem dX3_countStableByLabels_3 : decode cX3_countStableByLabels 3 = .ok (.iconst 0, 1) := by decide +kernel
theorem dX3_countStableByLabels_4 : decode cX3_countStableByLabels 4 = .ok (.invokestatic 36, 3) := by decide +kernel
theorem dX3_countStableByLabels_7 : decode cX3_countStableByLabels 7 = .ok (.ireturn, 1) := by decide +kernel
theorem dX3_sizeOfGreatestAdmissible_0 : decode cX3_sizeOfGreatestAdmissible 0 = .ok (.iconst 0, 1) := by decide +kernel
theorem dX3_sizeOfGreatestAdmissible_1 : decode cX3_sizeOfGreatestAdmissible 1 = .ok (.istore_n 2, 1) := by decide +kernel
theorem dX3_sizeOfGreatestAdmissible_2 : decode cX3_sizeOfGreatestAdmissible 2 = .ok (.aload_n 1, 1) := by decide +kernel
theorem dX3_sizeOfGreatestAdmissible_3 : decode cX3_sizeOfGreatestAdmissible 3 = .ok (.invokevirtual 22, 3) := by decide +kernel
theorem dX3_sizeOfGreatestAdmissible_6 : decode cX3_sizeOfGreatestAdmissible 6 = .ok (.istore_n 3, 1) := by decide +kernel
theorem dX3_sizeOfGreatestAdmissible_7 : decode cX3_sizeOfGreatestAdmissible 7 = .ok (.iconst 0, 1) := by decide +kernel
theorem dX3_sizeOfGreatestAdmissible_8 : decode cX3_sizeOfGreatestAdmissible 8 = .ok (.istore 4, 2) := by decide +kernel
theorem dX3_sizeOfGreatestAdmissible_10 : decode cX3_sizeOfGreatestAdmissible 10 = .ok (.iload 4, 2) := by decide +kernel
theorem dX3_sizeOfGreatestAdmissible_12 : decode cX3_sizeOfGreatestAdmissible 12 = .ok (.iload_n 3, 1) := by decide +kernel
theorem dX3_sizeOfGreatestAdmissible_13 : decode cX3_sizeOfGreatestAdmissible 13 = .ok (.if_icmp .gt 28, 3) := by decide +kernel
theorem dX3_sizeOfGreatestAdmissible_16 : decode cX3_sizeOfGreatestAdmissible 16 = .ok (.aload_n 1, 1) := by decide +kernel
theorem dX3_sizeOfGreatestAdmissible_17 : decode cX3_sizeOfGreatestAdmissible 17 = .ok (.iload 4, 2) := by decide +kernel
theorem dX3_sizeOfGreatestAdmissible_19 : decode cX3_sizeOfGreatestAdmissible 19 = .ok (.invokestatic 40, 3) := by decide +kernel
theorem dX3_sizeOfGreatestAdmissible_22 : decode cX3_sizeOfGreatestAdmissible 22 = .ok (.ifCond .eq 13, 3) := by decide +kernel
theorem dX3_sizeOfGreatestAdmissible_25 : decode cX3_sizeOfGreatestAdmissible 25 = .ok (.iload_n 2, 1) := by decide +kernel
theorem dX3_sizeOfGreatestAdmissible_26 : decode cX3_sizeOfGreatestAdmissible 26 = .ok (.iload 4, 2) := by decide +kernel
theorem dX3_sizeOfGreatestAdmissible_28 : decode cX3_sizeOfGreatestAdmissible 28 = .ok (.invokestatic 43, 3) := by decide +kernel
theorem dX3_sizeOfGreatestAdmissible_31 : decode cX3_sizeOfGreatestAdmissible 31 = .ok (.invokestatic 49, 3) := by decide +kernel
theorem dX3_sizeOfGreatestAdmissible_34 : decode cX3_sizeOfGreatestAdmissible 34 = .ok (.istore_n 2, 1) := by decide +kernel
theorem dX3_sizeOfGreatestAdmissible_35 : decode cX3_sizeOfGreatestAdmissible 35 = .ok (.iinc 4 1, 3) := by decide +kernel
theorem dX3_sizeOfGreatestAdmissible_38 : decode cX3_sizeOfGreatestAdmissible 38 = .ok (.goto (-28), 3) := by decide +kernel
theorem dX3_sizeOfGreatestAdmissible_41 : decode cX3_sizeOfGreatestAdmissible 41 = .ok (.iload_n 2, 1) := by decide +kernel
theorem dX3_sizeOfGreatestAdmissible_42 : decode cX3_sizeOfGreatestAdmissible 42 = .ok (.ireturn, 1) := by decide +kernel
theorem dX3_find_0 : decode cX3_find 0 = .ok (.aload_n 1, 1) := by decide +kernel
theorem dX3_find_1 : decode cX3_find 1 = .ok (.invokevirtual 22, 3) := by decide +kernel
theorem dX3_find_4 : decode cX3_find 4 = .ok (.istore_n 2, 1) := by decide +kernel
theorem dX3_find_5 : decode cX3_find 5 = .ok (.aload_n 0, 1) := by decide +kernel
theorem dX3_find_6 : decode cX3_find 6 = .ok (.iload_n 2, 1) := by decide +kernel
theorem dX3_find_7 : decode cX3_find 7 = .ok (.iconst 1, 1) := by decide +kernel
theorem dX3_find_8 : decode cX3_find 8 = .ok (.iadd, 1) := by decide +kernel
theorem dX3_find_9 : decode cX3_find 9 = .ok (.putfield 18, 3) := by decide +kernel
theorem dX3_find_12 : decode cX3_find 12 = .ok (.iload_n 2, 1) := by decide +kernel
theorem dX3_find_13 : decode cX3_find 13 = .ok (.istore_n 3, 1) := by decide +kernel
theorem dX3_find_14 : decode cX3_find 14 = .ok (.iload_n 3, 1) := by decide +kernel
theorem dX3_find_15 : decode cX3_find 15 = .ok (.ifCond .lt 66, 3) := by decide +kernel
theorem dX3_find_18 : decode cX3_find 18 = .ok (.aload_n 1, 1) := by decide +kernel
theorem dX3_find_19 : decode cX3_find 19 = .ok (.iload_n 3, 1) := by decide +kernel
theorem dX3_find_20 : decode cX3_find 20 = .ok (.invokestatic 40, 3) := by decide +kernel
theorem dX3_find_23 : decode cX3_find 23 = .ok (.istore 4, 2) := by decide +kernel
theorem dX3_find_25 : decode cX3_find 25 = .ok (.aload_n 0, 1) := by decide +kernel
theorem dX3_find_26 : decode cX3_find 26 = .ok (.iload_n 3, 1) := by decide +kernel
theorem dX3_find_27 : decode cX3_find 27 = .ok (.iload_n 2, 1) := by decide +kernel
theorem dX3_find_28 : decode cX3_find 28 = .ok (.invokevirtual 55, 3) := by decide +kernel
theorem dX3_find_31 : decode cX3_find 31 = .ok (.istore 5, 2) := by decide +kernel
theorem dX3_find_33 : decode cX3_find 33 = .ok (.aload_n 0, 1) := by decide +kernel
theorem dX3_find_34 : decode cX3_find 34 = .ok (.getfield 9, 3) := by decide +kernel
theorem dX3_find_37 : decode cX3_find 37 = .ok (.iload_n 3, 1) := by decide +kernel
theorem dX3_find_38 : decode cX3_find 38 = .ok (.iload 4, 2) := by decide +kernel
theorem dX3_find_40 : decode cX3_find 40 = .ok (.ifCond .eq 12, 3) := by decide +kernel
theorem dX3_find_43 : decode cX3_find 43 = .ok (.iload 5, 2) := by decide +kernel
theorem dX3_find_45 : decode cX3_find 45 = .ok (.ifCond .ne 7, 3) := by decide +kernel
theorem dX3_find_48 : decode cX3_find 48 = .ok (.iconst 1, 1) := by decide +kernel
theorem dX3_find_49 : decode cX3_find 49 = .ok (.goto 4, 3) := by decide +kernel
theorem dX3_find_52 : decode cX3_find 52 = .ok (.iconst 0, 1) := by decide +kernel
theorem dX3_find_53 : decode cX3_find 53 = .ok (.bastore, 1) := by decide +kernel
theorem dX3_find_54 : decode cX3_find 54 = .ok (.aload_n 0, 1) := by decide +kernel
theorem dX3_find_55 : decode cX3_find 55 = .ok (.getfield 15, 3) := by decide +kernel
theorem dX3_find_58 : decode cX3_find 58 = .ok (.iload_n 3, 1) := by decide +kernel
theorem dX3_find_59 : decode cX3_find 59 = .ok (.iload 4, 2) := by decide +kernel
theorem dX3_find_61 : decode cX3_find 61 = .ok (.ifCond .ne 8, 3) := by decide +kernel
theorem dX3_find_64 : decode cX3_find 64 = .ok (.iload 5, 2) := by decide +kernel
theorem dX3_find_66 : decode cX3_find 66 = .ok (.ifCond .eq 7, 3) := by decide +kernel
theorem dX3_find_69 : decode cX3_find 69 = .ok (.iconst 1, 1) := by decide +kernel
theorem dX3_find_70 : decode cX3_find 70 = .ok (.goto 4, 3) := by decide +kernel
theorem dX3_find_73 : decode cX3_find 73 = .ok (.iconst 0, 1) := by decide +kernel
theorem dX3_find_74 : decode cX3_find 74 = .ok (.bastore, 1) := by decide +kernel
theorem dX3_find_75 : decode cX3_find 75 = .ok (.iinc 3 (-1), 3) := by decide +kernel
theorem dX3_find_78 : decode cX3_find 78 = .ok (.goto (-64), 3) := by decide +kernel
theorem dX3_find_81 : decode cX3_find 81 = .ok (.return_, 1) := by decide +kernel
theorem dX3_countPreferredWith_0 : decode cX3_countPreferredWith 0 = .ok (.iconst 0, 1) := by decide +kernel
theorem dX3_countPreferredWith_1 : decode cX3_countPreferredWith 1 = .ok (.istore_n 2, 1) := by decide +kernel
theorem dX3_countPreferredWith_2 : decode cX3_countPreferredWith 2 = .ok (.iconst 0, 1) := by decide +kernel
theorem dX3_countPreferredWith_3 : decode cX3_countPreferredWith 3 = .ok (.istore_n 3, 1) := by decide +kernel
theorem dX3_countPreferredWith_4 : decode cX3_countPreferredWith 4 = .ok (.iload_n 3, 1) := by decide +kernel
theorem dX3_countPreferredWith_5 : decode cX3_countPreferredWith 5 = .ok (.aload_n 0, 1) := by decide +kernel
theorem dX3_countPreferredWith_6 : decode cX3_countPreferredWith 6 = .ok (.getfield 18, 3) := by decide +kernel
theorem dX3_countPreferredWith_9 : decode cX3_countPreferredWith 9 = .ok (.if_icmp .ge 28, 3) := by decide +kernel
theorem dX3_countPreferredWith_12 : decode cX3_countPreferredWith 12 = .ok (.aload_n 0, 1) := by decide +kernel
theorem dX3_countPreferredWith_13 : decode cX3_countPreferredWith 13 = .ok (.getfield 9, 3) := by decide +kernel
theorem dX3_countPreferredWith_16 : decode cX3_countPreferredWith 16 = .ok (.iload_n 3, 1) := by decide +kernel
theorem dX3_countPreferredWith_17 : decode cX3_countPreferredWith 17 = .ok (.baload, 1) := by decide +kernel
theorem dX3_countPreferredWith_18 : decode cX3_countPreferredWith 18 = .ok (.ifCond .eq 13, 3) := by decide +kernel
theorem dX3_countPreferredWith_21 : decode cX3_countPreferredWith 21 = .ok (.iload_n 3, 1) := by decide +kernel
theorem dX3_countPreferredWith_22 : decode cX3_countPreferredWith 22 = .ok (.iload_n 1, 1) := by decide +kernel
theorem dX3_countPreferredWith_23 : decode cX3_countPreferredWith 23 = .ok (.iand, 1) := by decide +kernel
theorem dX3_countPreferredWith_24 : decode cX3_countPreferredWith 24 = .ok (.iload_n 1, 1) := by decide +kernel
theorem dX3_countPreferredWith_25 : decode cX3_countPreferredWith 25 = .ok (.if_icmp .ne 6, 3) := by decide +kernel
theorem dX3_countPreferredWith_28 : decode cX3_countPreferredWith 28 = .ok (.iinc 2 1, 3) := by decide +kernel
theorem dX3_countPreferredWith_31 : decode cX3_countPreferredWith 31 = .ok (.iinc 3 1, 3) := by decide +kernel
theorem dX3_countPreferredWith_34 : decode cX3_countPreferredWith 34 = .ok (.goto (-30), 3) := by decide +kernel
theorem dX3_countPreferredWith_37 : decode cX3_countPreferredWith 37 = .ok (.iload_n 2, 1) := by decide +kernel
theorem dX3_countPreferredWith_38 : decode cX3_countPreferredWith 38 = .ok (.ireturn, 1) := by decide +kernel
theorem dX3_isCoveredByGreater_0 : decode cX3_isCoveredByGreater 0 = .ok (.iconst 0, 1) := by decide +kernel
theorem dX3_isCoveredByGreater_1 : decode cX3_isCoveredByGreater 1 = .ok (.istore_n 3, 1) := by decide +kernel
theorem dX3_isCoveredByGreater_2 : decode cX3_isCoveredByGreater 2 = .ok (.iload_n 3, 1) := by decide +kernel
theorem dX3_isCoveredByGreater_3 : decode cX3_isCoveredByGreater 3 = .ok (.bipush 8, 2) := by decide +kernel
theorem dX3_isCoveredByGreater_5 : decode cX3_isCoveredByGreater 5 = .ok (.if_icmp .ge 36, 3) := by decide +kernel
theorem dX3_isCoveredByGreater_8 : decode cX3_isCoveredByGreater 8 = .ok (.iload_n 2, 1) := by decide +kernel
theorem dX3_isCoveredByGreater_9 : decode cX3_isCoveredByGreater 9 = .ok (.iload_n 1, 1) := by decide +kernel
theorem dX3_isCoveredByGreater_10 : decode cX3_isCoveredByGreater 10 = .ok (.iconst (-1), 1) := by decide +kernel
theorem dX3_isCoveredByGreater_11 : decode cX3_isCoveredByGreater 11 = .ok (.ixor, 1) := by decide +kernel
theorem dX3_isCoveredByGreater_12 : decode cX3_isCoveredByGreater 12 = .ok (.iand, 1) := by decide +kernel
theorem dX3_isCoveredByGreater_13 : decode cX3_isCoveredByGreater 13 = .ok (.iload_n 3, 1) := by decide +kernel
theorem dX3_isCoveredByGreater_14 : decode cX3_isCoveredByGreater 14 = .ok (.invokestatic 59, 3) := by decide +kernel
theorem dX3_isCoveredByGreater_17 : decode cX3_isCoveredByGreater 17 = .ok (.ifCond .eq 18, 3) := by decide +kernel
theorem dX3_isCoveredByGreater_20 : decode cX3_isCoveredByGreater 20 = .ok (.aload_n 0, 1) := by decide +kernel
theorem dX3_isCoveredByGreater_21 : decode cX3_isCoveredByGreater 21 = .ok (.getfield 15, 3) := by decide +kernel
theorem dX3_isCoveredByGreater_24 : decode cX3_isCoveredByGreater 24 = .ok (.iload_n 1, 1) := by decide +kernel
theorem dX3_isCoveredByGreater_25 : decode cX3_isCoveredByGreater 25 = .ok (.iconst 1, 1) := by decide +kernel
theorem dX3_isCoveredByGreater_26 : decode cX3_isCoveredByGreater 26 = .ok (.iload_n 3, 1) := by decide +kernel
theorem dX3_isCoveredByGreater_27 : decode cX3_isCoveredByGreater 27 = .ok (.ishl, 1) := by decide +kernel
theorem dX3_isCoveredByGreater_28 : decode cX3_isCoveredByGreater 28 = .ok (.ior, 1) := by decide +kernel
theorem dX3_isCoveredByGreater_29 : decode cX3_isCoveredByGreater 29 = .ok (.baload, 1) := by decide +kernel
theorem dX3_isCoveredByGreater_30 : decode cX3_isCoveredByGreater 30 = .ok (.ifCond .eq 5, 3) := by decide +kernel
theorem dX3_isCoveredByGreater_33 : decode cX3_isCoveredByGreater 33 = .ok (.iconst 1, 1) := by decide +kernel
theorem dX3_isCoveredByGreater_34 : decode cX3_isCoveredByGreater 34 = .ok (.ireturn, 1) := by decide +kernel
theorem dX3_isCoveredByGreater_35 : decode cX3_isCoveredByGreater 35 = .ok (.iinc 3 1, 3) := by decide +kernel
theorem dX3_isCoveredByGreater_38 : decode cX3_isCoveredByGreater 38 = .ok (.goto (-36), 3) := by decide +kernel
theorem dX3_isCoveredByGreater_41 : decode cX3_isCoveredByGreater 41 = .ok (.iconst 0, 1) := by decide +kernel
theorem dX3_isCoveredByGreater_42 : decode cX3_isCoveredByGreater 42 = .ok (.ireturn, 1) := by decide +kernel
theorem dX3_attackersOf_0 : decode cX3_attackersOf 0 = .ok (.iconst 0, 1) := by decide +kernel
theorem dX3_attackersOf_1 : decode cX3_attackersOf 1 = .ok (.istore_n 2, 1) := by decide +kernel
theorem dX3_attackersOf_2 : decode cX3_attackersOf 2 = .ok (.iconst 0, 1) := by decide +kernel
theorem dX3_attackersOf_3 : decode cX3_attackersOf 3 = .ok (.istore_n 3, 1) := by decide +kernel
theorem dX3_attackersOf_4 : decode cX3_attackersOf 4 = .ok (.iload_n 3, 1) := by decide +kernel
theorem dX3_attackersOf_5 : decode cX3_attackersOf 5 = .ok (.aload_n 0, 1) := by decide +kernel
theorem dX3_attackersOf_6 : decode cX3_attackersOf 6 = .ok (.getfield 62, 3) := by decide +kernel
theorem dX3_attackersOf_9 : decode cX3_attackersOf 9 = .ok (.if_icmp .ge 26, 3) := by decide +kernel
theorem dX3_attackersOf_12 : decode cX3_attackersOf 12 = .ok (.iload_n 1, 1) := by decide +kernel
theorem dX3_attackersOf_13 : decode cX3_attackersOf 13 = .ok (.iload_n 3, 1) := by decide +kernel
theorem dX3_attackersOf_14 : decode cX3_attackersOf 14 = .ok (.invokestatic 59, 3) := by decide +kernel
theorem dX3_attackersOf_17 : decode cX3_attackersOf 17 = .ok (.ifCond .eq 12, 3) := by decide +kernel
theorem dX3_attackersOf_20 : decode cX3_attackersOf 20 = .ok (.iload_n 2, 1) := by decide +kernel
theorem dX3_attackersOf_21 : decode cX3_attackersOf 21 = .ok (.aload_n 0, 1) := by decide +kernel
theorem dX3_attackersOf_22 : decode cX3_attackersOf 22 = .ok (.getfield 65, 3) := by decide +kernel
theorem dX3_attackersOf_25 : decode cX3_attackersOf 25 = .ok (.iload_n 3, 1) := by decide +kernel
theorem dX3_attackersOf_26 : decode cX3_attackersOf 26 = .ok (.iaload, 1) := by decide +kernel
theorem dX3_attackersOf_27 : decode cX3_attackersOf 27 = .ok (.ior, 1) := by decide +kernel
theorem dX3_attackersOf_28 : decode cX3_attackersOf 28 = .ok (.istore_n 2, 1) := by decide +kernel
theorem dX3_attackersOf_29 : decode cX3_attackersOf 29 = .ok (.iinc 3 1, 3) := by decide +kernel
theorem dX3_attackersOf_32 : decode cX3_attackersOf 32 = .ok (.goto (-28), 3) := by decide +kernel
theorem dX3_attackersOf_35 : decode cX3_attackersOf 35 = .ok (.iload_n 2, 1) := by decide +kernel
theorem dX3_attackersOf_36 : decode cX3_attackersOf 36 = .ok (.ireturn, 1) := by decide +kernel
theorem dX3_isFree_0 : decode cX3_isFree 0 = .ok (.aload_n 0, 1) := by decide +kernel
theorem dX3_isFree_1 : decode cX3_isFree 1 = .ok (.iload_n 1, 1) := by decide +kernel
theorem dX3_isFree_2 : decode cX3_isFree 2 = .ok (.invokestatic 69, 3) := by decide +kernel
theorem dX3_isFree_5 : decode cX3_isFree 5 = .ok (.iload_n 1, 1) := by decide +kernel
theorem dX3_isFree_6 : decode cX3_isFree 6 = .ok (.iand, 1) := by decide +kernel
theorem dX3_isFree_7 : decode cX3_isFree 7 = .ok (.ifCond .ne 7, 3) := by decide +kernel
theorem dX3_isFree_10 : decode cX3_isFree 10 = .ok (.iconst 1, 1) := by decide +kernel
theorem dX3_isFree_11 : decode cX3_isFree 11 = .ok (.goto 4, 3) := by decide +kernel
theorem dX3_isFree_14 : decode cX3_isFree 14 = .ok (.iconst 0, 1) := by decide +kernel
theorem dX3_isFree_15 : decode cX3_isFree 15 = .ok (.ireturn, 1) := by decide +kernel
theorem dX3_isAttackedBy_0 : decode cX3_isAttackedBy 0 = .ok (.iconst 0, 1) := by decide +kernel
theorem dX3_isAttackedBy_1 : decode cX3_isAttackedBy 1 = .ok (.istore_n 3, 1) := by decide +kernel
theorem dX3_isAttackedBy_2 : decode cX3_isAttackedBy 2 = .ok (.iload_n 3, 1) := by decide +kernel
theorem dX3_isAttackedBy_3 : decode cX3_isAttackedBy 3 = .ok (.aload_n 0, 1) := by decide +kernel
theorem dX3_isAttackedBy_4 : decode cX3_isAttackedBy 4 = .ok (.getfield 62, 3) := by decide +kernel
theorem dX3_isAttackedBy_7 : decode cX3_isAttackedBy 7 = .ok (.if_icmp .ge 30, 3) := by decide +kernel
theorem dX3_isAttackedBy_10 : decode cX3_isAttackedBy 10 = .ok (.iload_n 1, 1) := by decide +kernel
theorem dX3_isAttackedBy_11 : decode cX3_isAttackedBy 11 = .ok (.iload_n 3, 1) := by decide +kernel
theorem dX3_isAttackedBy_12 : decode cX3_isAttackedBy 12 = .ok (.invokestatic 59, 3) := by decide +kernel
theorem dX3_isAttackedBy_15 : decode cX3_isAttackedBy 15 = .ok (.ifCond .eq 16, 3) := by decide +kernel
theorem dX3_isAttackedBy_18 : decode cX3_isAttackedBy 18 = .ok (.aload_n 0, 1) := by decide +kernel
theorem dX3_isAttackedBy_19 : decode cX3_isAttackedBy 19 = .ok (.getfield 65, 3) := by decide +kernel
theorem dX3_isAttackedBy_22 : decode cX3_isAttackedBy 22 = .ok (.iload_n 3, 1) := by decide +kernel
theorem dX3_isAttackedBy_23 : decode cX3_isAttackedBy 23 = .ok (.iaload, 1) := by decide +kernel
theorem dX3_isAttackedBy_24 : decode cX3_isAttackedBy 24 = .ok (.iload_n 2, 1) := by decide +kernel
theorem dX3_isAttackedBy_25 : decode cX3_isAttackedBy 25 = .ok (.iand, 1) := by decide +kernel
theorem dX3_isAttackedBy_26 : decode cX3_isAttackedBy 26 = .ok (.ifCond .ne 5, 3) := by decide +kernel
theorem dX3_isAttackedBy_29 : decode cX3_isAttackedBy 29 = .ok (.iconst 0, 1) := by decide +kernel
theorem dX3_isAttackedBy_30 : decode cX3_isAttackedBy 30 = .ok (.ireturn, 1) := by decide +kernel
theorem dX3_isAttackedBy_31 : decode cX3_isAttackedBy 31 = .ok (.iinc 3 1, 3) := by decide +kernel
theorem dX3_isAttackedBy_34 : decode cX3_isAttackedBy 34 = .ok (.goto (-32), 3) := by decide +kernel
theorem dX3_isAttackedBy_37 : decode cX3_isAttackedBy 37 = .ok (.iconst 1, 1) := by decide +kernel
theorem dX3_isAttackedBy_38 : decode cX3_isAttackedBy 38 = .ok (.ireturn, 1) := by decide +kernel
theorem dX3_isAdmissible_0 : decode cX3_isAdmissible 0 = .ok (.aload_n 0, 1) := by decide +kernel
theorem dX3_isAdmissible_1 : decode cX3_isAdmissible 1 = .ok (.iload_n 1, 1) := by decide +kernel
theorem dX3_isAdmissible_2 : decode cX3_isAdmissible 2 = .ok (.invokestatic 69, 3) := by decide +kernel
theorem dX3_isAdmissible_5 : decode cX3_isAdmissible 5 = .ok (.istore_n 2, 1) := by decide +kernel
theorem dX3_isAdmissible_6 : decode cX3_isAdmissible 6 = .ok (.iload_n 2, 1) := by decide +kernel
theorem dX3_isAdmissible_7 : decode cX3_isAdmissible 7 = .ok (.iload_n 1, 1) := by decide +kernel
theorem dX3_isAdmissible_8 : decode cX3_isAdmissible 8 = .ok (.iand, 1) := by decide +kernel
theorem dX3_isAdmissible_9 : decode cX3_isAdmissible 9 = .ok (.ifCond .ne 16, 3) := by decide +kernel
theorem dX3_isAdmissible_12 : decode cX3_isAdmissible 12 = .ok (.aload_n 0, 1) := by decide +kernel
theorem dX3_isAdmissible_13 : decode cX3_isAdmissible 13 = .ok (.iload_n 2, 1) := by decide +kernel
theorem dX3_isAdmissible_14 : decode cX3_isAdmissible 14 = .ok (.iload_n 1, 1) := by decide +kernel
theorem dX3_isAdmissible_15 : decode cX3_isAdmissible 15 = .ok (.invokestatic 32, 3) := by decide +kernel
theorem dX3_isAdmissible_18 : decode cX3_isAdmissible 18 = .ok (.ifCond .eq 7, 3) := by decide +kernel
theorem dX3_isAdmissible_21 : decode cX3_isAdmissible 21 = .ok (.iconst 1, 1) := by decide +kernel
theorem dX3_isAdmissible_22 : decode cX3_isAdmissible 22 = .ok (.goto 4, 3) := by decide +kernel
theorem dX3_isAdmissible_25 : decode cX3_isAdmissible 25 = .ok (.iconst 0, 1) := by decide +kernel
theorem dX3_isAdmissible_26 : decode cX3_isAdmissible 26 = .ok (.ireturn, 1) := by decide +kernel
theorem dX3_countFrom_0 : decode cX3_countFrom 0 = .ok (.aload_n 0, 1) := by decide +kernel
theorem dX3_countFrom_1 : decode cX3_countFrom 1 = .ok (.iload_n 2, 1) := by decide +kernel
theorem dX3_countFrom_2 : decode cX3_countFrom 2 = .ok (.invokestatic 28, 3) := by decide +kernel
theorem dX3_countFrom_5 : decode cX3_countFrom 5 = .ok (.ifCond .eq 19, 3) := by decide +kernel
theorem dX3_countFrom_8 : decode cX3_countFrom 8 = .ok (.aload_n 0, 1) := by decide +kernel
theorem dX3_countFrom_9 : decode cX3_countFrom 9 = .ok (.iload_n 3, 1) := by decide +kernel
theorem dX3_countFrom_10 : decode cX3_countFrom 10 = .ok (.aload_n 0, 1) := by decide +kernel
theorem dX3_countFrom_11 : decode cX3_countFrom 11 = .ok (.invokevirtual 22, 3) := by decide +kernel
theorem dX3_countFrom_14 : decode cX3_countFrom 14 = .ok (.iload_n 3, 1) := by decide +kernel
theorem dX3_countFrom_15 : decode cX3_countFrom 15 = .ok (.iconst (-1), 1) := by decide +kernel
theorem dX3_countFrom_16 : decode cX3_countFrom 16 = .ok (.ixor, 1) := by decide +kernel
theorem dX3_countFrom_17 : decode cX3_countFrom 17 = .ok (.iand, 1) := by decide +kernel
theorem dX3_countFrom_18 : decode cX3_countFrom 18 = .ok (.invokestatic 32, 3) := by decide +kernel
theorem dX3_countFrom_21 : decode cX3_countFrom 21 = .ok (.ifCond .ne 7, 3) := by decide +kernel
theorem dX3_countFrom_24 : decode cX3_countFrom 24 = .ok (.iconst 1, 1) := by decide +kernel
theorem dX3_countFrom_25 : decode cX3_countFrom 25 = .ok (.goto 4, 3) := by decide +kernel
theorem dX3_countFrom_28 : decode cX3_countFrom 28 = .ok (.iconst 0, 1) := by decide +kernel
theorem dX3_countFrom_29 : decode cX3_countFrom 29 = .ok (.istore 4, 2) := by decide +kernel
theorem dX3_countFrom_31 : decode cX3_countFrom 31 = .ok (.iload 4, 2) := by decide +kernel
theorem dX3_countFrom_33 : decode cX3_countFrom 33 = .ok (.ifCond .ne 11, 3) := by decide +kernel
theorem dX3_countFrom_36 : decode cX3_countFrom 36 = .ok (.iload_n 1, 1) := by decide +kernel
theorem dX3_countFrom_37 : decode cX3_countFrom 37 = .ok (.aload_n 0, 1) := by decide +kernel
theorem dX3_countFrom_38 : decode cX3_countFrom 38 = .ok (.getfield 62, 3) := by decide +kernel
theorem dX3_countFrom_41 : decode cX3_countFrom 41 = .ok (.if_icmp .le 5, 3) := by decide +kernel
theorem dX3_countFrom_44 : decode cX3_countFrom 44 = .ok (.iconst 0, 1) := by decide +kernel
theorem dX3_countFrom_45 : decode cX3_countFrom 45 = .ok (.ireturn, 1) := by decide +kernel
theorem dX3_countFrom_46 : decode cX3_countFrom 46 = .ok (.iload_n 1, 1) := by decide +kernel
theorem dX3_countFrom_47 : decode cX3_countFrom 47 = .ok (.aload_n 0, 1) := by decide +kernel
theorem dX3_countFrom_48 : decode cX3_countFrom 48 = .ok (.getfield 62, 3) := by decide +kernel
theorem dX3_countFrom_51 : decode cX3_countFrom 51 = .ok (.if_icmp .ne 5, 3) := by decide +kernel
theorem dX3_countFrom_54 : decode cX3_countFrom 54 = .ok (.iconst 1, 1) := by decide +kernel
theorem dX3_countFrom_55 : decode cX3_countFrom 55 = .ok (.ireturn, 1) := by decide +kernel
theorem dX3_countFrom_56 : decode cX3_countFrom 56 = .ok (.aload_n 0, 1) := by decide +kernel
theorem dX3_countFrom_57 : decode cX3_countFrom 57 = .ok (.iload_n 1, 1) := by decide +kernel
theorem dX3_countFrom_58 : decode cX3_countFrom 58 = .ok (.iconst 1, 1) := by decide +kernel
theorem dX3_countFrom_59 : decode cX3_countFrom 59 = .ok (.iadd, 1) := by decide +kernel
theorem dX3_countFrom_60 : decode cX3_countFrom 60 = .ok (.iload_n 2, 1) := by decide +kernel
theorem dX3_countFrom_61 : decode cX3_countFrom 61 = .ok (.iconst 1, 1) := by decide +kernel
theorem dX3_countFrom_62 : decode cX3_countFrom 62 = .ok (.iload_n 1, 1) := by decide +kernel
theorem dX3_countFrom_63 : decode cX3_countFrom 63 = .ok (.ishl, 1) := by decide +kernel
theorem dX3_countFrom_64 : decode cX3_countFrom 64 = .ok (.ior, 1) := by decide +kernel
theorem dX3_countFrom_65 : decode cX3_countFrom 65 = .ok (.iload_n 3, 1) := by decide +kernel
theorem dX3_countFrom_66 : decode cX3_countFrom 66 = .ok (.invokestatic 36, 3) := by decide +kernel
theorem dX3_countFrom_69 : decode cX3_countFrom 69 = .ok (.aload_n 0, 1) := by decide +kernel
theorem dX3_countFrom_70 : decode cX3_countFrom 70 = .ok (.iload_n 1, 1) := by decide +kernel
theorem dX3_countFrom_71 : decode cX3_countFrom 71 = .ok (.iconst 1, 1) := by decide +kernel
theorem dX3_countFrom_72 : decode cX3_countFrom 72 = .ok (.iadd, 1) := by decide +kernel
theorem dX3_countFrom_73 : decode cX3_countFrom 73 = .ok (.iload_n 2, 1) := by decide +kernel
theorem dX3_countFrom_74 : decode cX3_countFrom 74 = .ok (.iload_n 3, 1) := by decide +kernel
theorem dX3_countFrom_75 : decode cX3_countFrom 75 = .ok (.iconst 1, 1) := by decide +kernel
theorem dX3_countFrom_76 : decode cX3_countFrom 76 = .ok (.iload_n 1, 1) := by decide +kernel
theorem dX3_countFrom_77 : decode cX3_countFrom 77 = .ok (.ishl, 1) := by decide +kernel
theorem dX3_countFrom_78 : decode cX3_countFrom 78 = .ok (.ior, 1) := by decide +kernel
theorem dX3_countFrom_79 : decode cX3_countFrom 79 = .ok (.invokestatic 36, 3) := by decide +kernel
theorem dX3_countFrom_82 : decode cX3_countFrom 82 = .ok (.iadd, 1) := by decide +kernel
theorem dX3_countFrom_83 : decode cX3_countFrom 83 = .ok (.ireturn, 1) := by decide +kernel
theorem dX4_init_0 : decode cX4_init 0 = .ok (.aload_n 0, 1) := by decide +kernel
theorem dX4_init_1 : decode cX4_init 1 = .ok (.invokespecial 3, 3) := by decide +kernel
theorem dX4_init_4 : decode cX4_init 4 = .ok (.aload_n 0, 1) := by decide +kernel
theorem dX4_init_5 : decode cX4_init 5 = .ok (.sipush 256, 3) := by decide +kernel
theorem dX4_init_8 : decode cX4_init 8 = .ok (.newarray .int, 2) := by decide +kernel
theorem dX4_init_10 : decode cX4_init 10 = .ok (.putfield 9, 3) := by decide +kernel
theorem dX4_init_13 : decode cX4_init 13 = .ok (.aload_n 0, 1) := by decide +kernel
theorem dX4_init_14 : decode cX4_init 14 = .ok (.sipush 256, 3) := by decide +kernel
theorem dX4_init_17 : decode cX4_init 17 = .ok (.newarray .int, 2) := by decide +kernel
theorem dX4_init_19 : decode cX4_init 19 = .ok (.putfield 15, 3) := by decide +kernel
theorem dX4_init_22 : decode cX4_init 22 = .ok (.return_, 1) := by decide +kernel
theorem dX4_isWonByProponent_0 : decode cX4_isWonByProponent 0 = .ok (.aload_n 0, 1) := by decide +kernel
theorem dX4_isWonByProponent_1 : decode cX4_isWonByProponent 1 = .ok (.getfield 9, 3) := by decide +kernel
theorem dX4_isWonByProponent_4 : decode cX4_isWonByProponent 4 = .ok (.iconst 0, 1) := by decide +kernel
theorem dX4_isWonByProponent_5 : decode cX4_isWonByProponent 5 = .ok (.invokestatic 18, 3) := by decide +kernel
theorem dX4_isWonByProponent_8 : decode cX4_isWonByProponent 8 = .ok (.aload_n 0, 1) := by decide +kernel
theorem dX4_isWonByProponent_9 : decode cX4_isWonByProponent 9 = .ok (.getfield 15, 3) := by decide +kernel
theorem dX4_isWonByProponent_12 : decode cX4_isWonByProponent 12 = .ok (.iconst 0, 1) := by decide +kernel
theorem dX4_isWonByProponent_13 : decode cX4_isWonByProponent 13 = .ok (.invokestatic 18, 3) := by decide +kernel
theorem dX4_isWonByProponent_16 : decode cX4_isWonByProponent 16 = .ok (.aload_n 0, 1) := by decide +kernel
theorem dX4_isWonByProponent_17 : decode cX4_isWonByProponent 17 = .ok (.aload_n 1, 1) := by decide +kernel
theorem dX4_isWonByProponent_18 : decode cX4_isWonByProponent 18 = .ok (.getfield 24, 3) := by decide +kernel
theorem dX4_isWonByProponent_21 : decode cX4_isWonByProponent 21 = .ok (.iload_n 2, 1) := by decide +kernel
theorem dX4_isWonByProponent_22 : decode cX4_isWonByProponent 22 = .ok (.iconst 1, 1) := by decide +kernel
theorem dX4_isWonByProponent_23 : decode cX4_isWonByProponent 23 = .ok (.iload_n 2, 1) := by decide +kernel
theorem dX4_isWonByProponent_24 : decode cX4_isWonByProponent 24 = .ok (.ishl, 1) := by decide +kernel
theorem dX4_isWonByProponent_25 : decode cX4_isWonByProponent 25 = .ok (.iconst 1, 1) := by decide +kernel
theorem dX4_isWonByProponent_26 : decode cX4_isWonByProponent 26 = .ok (.invokevirtual 29, 3) := by decide +kernel
theorem dX4_isWonByProponent_29 : decode cX4_isWonByProponent 29 = .ok (.ireturn, 1) := by decide +kernel
theorem dX4_holds_0 : decode cX4_holds 0 = .ok (.iload 4, 2) := by decide +kernel
theorem dX4_holds_2 : decode cX4_holds 2 = .ok (.bipush 8, 2) := by decide +kernel
theorem dX4_holds_4 : decode cX4_holds 4 = .ok (.if_icmp .gt 16, 3) := by decide +kernel
theorem dX4_holds_7 : decode cX4_holds 7 = .ok (.aload_n 0, 1) := by decide +kernel
theorem dX4_holds_8 : decode cX4_holds 8 = .ok (.getfield 15, 3) := by decide +kernel
theorem dX4_holds_11 : decode cX4_holds 11 = .ok (.iload_n 3, 1) := by decide +kernel
theorem dX4_holds_12 : decode cX4_holds 12 = .ok (.iaload, 1) := by decide +kernel
theorem dX4_holds_13 : decode cX4_holds 13 = .ok (.iload_n 2, 1) := by decide +kernel
theorem dX4_holds_14 : decode cX4_holds 14 = .ok (.invokestatic 33, 3) := by decide +kernel
theorem dX4_holds_17 : decode cX4_holds 17 = .ok (.ifCond .eq 5, 3) := by decide +kernel
theorem dX4_holds_20 : decode cX4_holds 20 = .ok (.iconst 0, 1) := by decide +kernel
theorem dX4_holds_21 : decode cX4_holds 21 = .ok (.ireturn, 1) := by decide +kernel
theorem dX4_holds_22 : decode cX4_holds 22 = .ok (.aload_n 0, 1) := by decide +kernel
theorem dX4_holds_23 : decode cX4_holds 23 = .ok (.getfield 9, 3) := by decide +kernel
theorem dX4_holds_26 : decode cX4_holds 26 = .ok (.iload_n 3, 1) := by decide +kernel
theorem dX4_holds_27 : decode cX4_holds 27 = .ok (.iaload, 1) := by decide +kernel
theorem dX4_holds_28 : decode cX4_holds 28 = .ok (.iload_n 2, 1) := by decide +kernel
theorem dX4_holds_29 : decode cX4_holds 29 = .ok (.invokestatic 33, 3) := by decide +kernel
theorem dX4_holds_32 : decode cX4_holds 32 = .ok (.ifCond .eq 5, 3) := by decide +kernel
theorem dX4_holds_35 : decode cX4_holds 35 = .ok (.iconst 1, 1) := by decide +kernel
theorem dX4_holds_36 : decode cX4_holds 36 = .ok (.ireturn, 1) := by decide +kernel
theorem dX4_holds_37 : decode cX4_holds 37 = .ok (.iconst 0, 1) := by decide +kernel
theorem dX4_holds_38 : decode cX4_holds 38 = .ok (.istore 5, 2) := by decide +kernel
theorem dX4_holds_40 : decode cX4_holds 40 = .ok (.iload 5, 2) := by decide +kernel
theorem dX4_holds_42 : decode cX4_holds 42 = .ok (.bipush 8, 2) := by decide +kernel
theorem dX4_holds_44 : decode cX4_holds 44 = .ok (.if_icmp .ge 47, 3) := by decide +kernel
theorem dX4_holds_47 : decode cX4_holds 47 = .ok (.aload_n 1, 1) := by decide +kernel
theorem dX4_holds_48 : decode cX4_holds 48 = .ok (.iload_n 2, 1) := by decide +kernel
theorem dX4_holds_49 : decode cX4_holds 49 = .ok (.iaload, 1) := by decide +kernel
theorem dX4_holds_50 : decode cX4_holds 50 = .ok (.iload 5, 2) := by decide +kernel
theorem dX4_holds_52 : decode cX4_holds 52 = .ok (.invokestatic 33, 3) := by decide +kernel
theorem dX4_holds_55 : decode cX4_holds 55 = .ok (.ifCond .eq 30, 3) := by decide +kernel
theorem dX4_holds_58 : decode cX4_holds 58 = .ok (.aload_n 0, 1) := by decide +kernel
theorem dX4_holds_59 : decode cX4_holds 59 = .ok (.aload_n 1, 1) := by decide +kernel
theorem dX4_holds_60 : decode cX4_holds 60 = .ok (.iload 5, 2) := by decide +kernel
theorem dX4_holds_62 : decode cX4_holds 62 = .ok (.iload_n 3, 1) := by decide +kernel
theorem dX4_holds_63 : decode cX4_holds 63 = .ok (.iload 4, 2) := by decide +kernel
theorem dX4_holds_65 : decode cX4_holds 65 = .ok (.invokevirtual 37, 3) := by decide +kernel
theorem dX4_holds_68 : decode cX4_holds 68 = .ok (.ifCond .ne 17, 3) := by decide +kernel
theorem dX4_holds_71 : decode cX4_holds 71 = .ok (.aload_n 0, 1) := by decide +kernel
theorem dX4_holds_72 : decode cX4_holds 72 = .ok (.getfield 15, 3) := by decide +kernel
theorem dX4_holds_75 : decode cX4_holds 75 = .ok (.iload_n 3, 1) := by decide +kernel
theorem dX4_holds_76 : decode cX4_holds 76 = .ok (.dup2, 1) := by decide +kernel
theorem dX4_holds_77 : decode cX4_holds 77 = .ok (.iaload, 1) := by decide +kernel
theorem dX4_holds_78 : decode cX4_holds 78 = .ok (.iconst 1, 1) := by decide +kernel
theorem dX4_holds_79 : decode cX4_holds 79 = .ok (.iload_n 2, 1) := by decide +kernel
theorem dX4_holds_80 : decode cX4_holds 80 = .ok (.ishl, 1) := by decide +kernel
theorem dX4_holds_81 : decode cX4_holds 81 = .ok (.ior, 1) := by decide +kernel
theorem dX4_holds_82 : decode cX4_holds 82 = .ok (.iastore, 1) := by decide +kernel
theorem dX4_holds_83 : decode cX4_holds 83 = .ok (.iconst 0, 1) := by decide +kernel
theorem dX4_holds_84 : decode cX4_holds 84 = .ok (.ireturn, 1) := by decide +kernel
theorem dX4_holds_85 : decode cX4_holds 85 = .ok (.iinc 5 1, 3) := by decide +kernel
theorem dX4_holds_88 : decode cX4_holds 88 = .ok (.goto (-48), 3) := by decide +kernel
theorem dX4_holds_91 : decode cX4_holds 91 = .ok (.aload_n 0, 1) := by decide +kernel
theorem dX4_holds_92 : decode cX4_holds 92 = .ok (.getfield 9, 3) := by decide +kernel
theorem dX4_holds_95 : decode cX4_holds 95 = .ok (.iload_n 3, 1) := by decide +kernel
theorem dX4_holds_96 : decode cX4_holds 96 = .ok (.dup2, 1) := by decide +kernel
theorem dX4_holds_97 : decode cX4_holds 97 = .ok (.iaload, 1) := by decide +kernel
theorem dX4_holds_98 : decode cX4_holds 98 = .ok (.iconst 1, 1) := by decide +kernel
theorem dX4_holds_99 : decode cX4_holds 99 = .ok (.iload_n 2, 1) := by decide +kernel
theorem dX4_holds_100 : decode cX4_holds 100 = .ok (.ishl, 1) := by decide +kernel
theorem dX4_holds_101 : decode cX4_holds 101 = .ok (.ior, 1) := by decide +kernel
theorem dX4_holds_102 : decode cX4_holds 102 = .ok (.iastore, 1) := by decide +kernel
theorem dX4_holds_103 : decode cX4_holds 103 = .ok (.iconst 1, 1) := by decide +kernel
theorem dX4_holds_104 : decode cX4_holds 104 = .ok (.ireturn, 1) := by decide +kernel
theorem dX4_isAnswered_0 : decode cX4_isAnswered 0 = .ok (.aload_n 1, 1) := by decide +kernel
theorem dX4_isAnswered_1 : decode cX4_isAnswered 1 = .ok (.iload_n 2, 1) := by decide +kernel
theorem dX4_isAnswered_2 : decode cX4_isAnswered 2 = .ok (.iaload, 1) := by decide +kernel
theorem dX4_isAnswered_3 : decode cX4_isAnswered 3 = .ok (.iload_n 3, 1) := by decide +kernel
theorem dX4_isAnswered_4 : decode cX4_isAnswered 4 = .ok (.iconst (-1), 1) := by decide +kernel
theorem dX4_isAnswered_5 : decode cX4_isAnswered 5 = .ok (.ixor, 1) := by decide +kernel
theorem dX4_isAnswered_6 : decode cX4_isAnswered 6 = .ok (.iand, 1) := by decide +kernel
theorem dX4_isAnswered_7 : decode cX4_isAnswered 7 = .ok (.istore 5, 2) := by decide +kernel
theorem dX4_isAnswered_9 : decode cX4_isAnswered 9 = .ok (.iconst 0, 1) := by decide +kernel
theorem dX4_isAnswered_10 : decode cX4_isAnswered 10 = .ok (.istore 6, 2) := by decide +kernel
theorem dX4_isAnswered_12 : decode cX4_isAnswered 12 = .ok (.iload 6, 2) := by decide +kernel
theorem dX4_isAnswered_14 : decode cX4_isAnswered 14 = .ok (.bipush 8, 2) := by decide +kernel
theorem dX4_isAnswered_16 : decode cX4_isAnswered 16 = .ok (.if_icmp .ge 41, 3) := by decide +kernel
theorem dX4_isAnswered_19 : decode cX4_isAnswered 19 = .ok (.iload 5, 2) := by decide +kernel
theorem dX4_isAnswered_21 : decode cX4_isAnswered 21 = .ok (.iload 6, 2) := by decide +kernel
theorem dX4_isAnswered_23 : decode cX4_isAnswered 23 = .ok (.invokestatic 33, 3) := by decide +kernel
theorem dX4_isAnswered_26 : decode cX4_isAnswered 26 = .ok (.ifCond .eq 25, 3) := by decide +kernel
theorem dX4_isAnswered_29 : decode cX4_isAnswered 29 = .ok (.aload_n 0, 1) := by decide +kernel
theorem dX4_isAnswered_30 : decode cX4_isAnswered 30 = .ok (.aload_n 1, 1) := by decide +kernel
theorem dX4_isAnswered_31 : decode cX4_isAnswered 31 = .ok (.iload 6, 2) := by decide +kernel
theorem dX4_isAnswered_33 : decode cX4_isAnswered 33 = .ok (.iload_n 3, 1) := by decide +kernel
theorem dX4_isAnswered_34 : decode cX4_isAnswered 34 = .ok (.iconst 1, 1) := by decide +kernel
theorem dX4_isAnswered_35 : decode cX4_isAnswered 35 = .ok (.iload 6, 2) := by decide +kernel
theorem dX4_isAnswered_37 : decode cX4_isAnswered 37 = .ok (.ishl, 1) := by decide +kernel
theorem dX4_isAnswered_38 : decode cX4_isAnswered 38 = .ok (.ior, 1) := by decide +kernel
theorem dX4_isAnswered_39 : decode cX4_isAnswered 39 = .ok (.iload 4, 2) := by decide +kernel
theorem dX4_isAnswered_41 : decode cX4_isAnswered 41 = .ok (.iconst 1, 1) := by decide +kernel
theorem dX4_isAnswered_42 : decode cX4_isAnswered 42 = .ok (.iadd, 1) := by decide +kernel
theorem dX4_isAnswered_43 : decode cX4_isAnswered 43 = .ok (.invokevirtual 29, 3) := by decide +kernel
theorem dX4_isAnswered_46 : decode cX4_isAnswered 46 = .ok (.ifCond .eq 5, 3) := by decide +kernel
theorem dX4_isAnswered_49 : decode cX4_isAnswered 49 = .ok (.iconst 1, 1) := by decide +kernel
theorem dX4_isAnswered_50 : decode cX4_isAnswered 50 = .ok (.ireturn, 1) := by decide +kernel
theorem dX4_isAnswered_51 : decode cX4_isAnswered 51 = .ok (.iinc 6 1, 3) := by decide +kernel
theorem dX4_isAnswered_54 : decode cX4_isAnswered 54 = .ok (.goto (-42), 3) := by decide +kernel
theorem dX4_isAnswered_57 : decode cX4_isAnswered 57 = .ok (.iconst 0, 1) := by decide +kernel
theorem dX4_isAnswered_58 : decode cX4_isAnswered 58 = .ok (.ireturn, 1) := by decide +kernel
theorem dX5_init_0 : decode cX5_init 0 = .ok (.aload_n 0, 1) := by decide +kernel
theorem dX5_init_1 : decode cX5_init 1 = .ok (.invokespecial 3, 3) := by decide +kernel
theorem dX5_init_4 : decode cX5_init 4 = .ok (.aload_n 0, 1) := by decide +kernel
theorem dX5_init_5 : decode cX5_init 5 = .ok (.bipush 9, 2) := by decide +kernel
theorem dX5_init_7 : decode cX5_init 7 = .ok (.anewarray 9, 3) := by decide +kernel
theorem dX5_init_10 : decode cX5_init 10 = .ok (.putfield 11, 3) := by decide +kernel
theorem dX5_init_13 : decode cX5_init 13 = .ok (.aload_n 0, 1) := by decide +kernel
theorem dX5_init_14 : decode cX5_init 14 = .ok (.iconst 0, 1) := by decide +kernel
theorem dX5_init_15 : decode cX5_init 15 = .ok (.putfield 17, 3) := by decide +kernel
theorem dX5_init_18 : decode cX5_init 18 = .ok (.aload_n 0, 1) := by decide +kernel
theorem dX5_init_19 : decode cX5_init 19 = .ok (.iconst 0, 1) := by decide +kernel
theorem dX5_init_20 : decode cX5_init 20 = .ok (.putfield 21, 3) := by decide +kernel
theorem dX5_init_23 : decode cX5_init 23 = .ok (.iconst 0, 1) := by decide +kernel
theorem dX5_init_24 : decode cX5_init 24 = .ok (.istore_n 1, 1) := by decide +kernel
theorem dX5_init_25 : decode cX5_init 25 = .ok (.iload_n 1, 1) := by decide +kernel
theorem dX5_init_26 : decode cX5_init 26 = .ok (.bipush 8, 2) := by decide +kernel
theorem dX5_init_28 : decode cX5_init 28 = .ok (.if_icmp .gt 22, 3) := by decide +kernel
theorem dX5_init_31 : decode cX5_init 31 = .ok (.aload_n 0, 1) := by decide +kernel
theorem dX5_init_32 : decode cX5_init 32 = .ok (.getfield 11, 3) := by decide +kernel
theorem dX5_init_35 : decode cX5_init 35 = .ok (.iload_n 1, 1) := by decide +kernel
theorem dX5_init_36 : decode cX5_init 36 = .ok (.new 9, 3) := by decide +kernel
theorem dX5_init_39 : decode cX5_init 39 = .ok (.dup, 1) := by decide +kernel
theorem dX5_init_40 : decode cX5_init 40 = .ok (.invokespecial 24, 3) := by decide +kernel
theorem dX5_init_43 : decode cX5_init 43 = .ok (.aastore, 1) := by decide +kernel
theorem dX5_init_44 : decode cX5_init 44 = .ok (.iinc 1 1, 3) := by decide +kernel
theorem dX5_init_47 : decode cX5_init 47 = .ok (.goto (-22), 3) := by decide +kernel
theorem dX5_init_50 : decode cX5_init 50 = .ok (.return_, 1) := by decide +kernel
theorem dX5_draft_0 : decode cX5_draft 0 = .ok (.aload_n 0, 1) := by decide +kernel
theorem dX5_draft_1 : decode cX5_draft 1 = .ok (.getfield 11, 3) := by decide +kernel
theorem dX5_draft_4 : decode cX5_draft 4 = .ok (.aload_n 0, 1) := by decide +kernel
theorem dX5_draft_5 : decode cX5_draft 5 = .ok (.getfield 17, 3) := by decide +kernel
theorem dX5_draft_8 : decode cX5_draft 8 = .ok (.aaload, 1) := by decide +kernel
theorem dX5_draft_9 : decode cX5_draft 9 = .ok (.areturn, 1) := by decide +kernel
theorem dX5_begin_0 : decode cX5_begin 0 = .ok (.aload_n 0, 1) := by decide +kernel
theorem dX5_begin_1 : decode cX5_begin 1 = .ok (.invokevirtual 25, 3) := by decide +kernel
theorem dX5_begin_4 : decode cX5_begin 4 = .ok (.aload_n 1, 1) := by decide +kernel
theorem dX5_begin_5 : decode cX5_begin 5 = .ok (.invokevirtual 29, 3) := by decide +kernel
theorem dX5_begin_8 : decode cX5_begin 8 = .ok (.return_, 1) := by decide +kernel
theorem dX5_keep_0 : decode cX5_keep 0 = .ok (.aload_n 0, 1) := by decide +kernel
theorem dX5_keep_1 : decode cX5_keep 1 = .ok (.aload_n 0, 1) := by decide +kernel
theorem dX5_keep_2 : decode cX5_keep 2 = .ok (.getfield 17, 3) := by decide +kernel
theorem dX5_keep_5 : decode cX5_keep 5 = .ok (.bipush 8, 2) := by decide +kernel
theorem dX5_keep_7 : decode cX5_keep 7 = .ok (.if_icmp .ne 7, 3) := by decide +kernel
theorem dX5_keep_10 : decode cX5_keep 10 = .ok (.iconst 0, 1) := by decide +kernel
theorem dX5_keep_11 : decode cX5_keep 11 = .ok (.goto 9, 3) := by decide +kernel
theorem dX5_keep_14 : decode cX5_keep 14 = .ok (.aload_n 0, 1) := by decide +kernel
theorem dX5_keep_15 : decode cX5_keep 15 = .ok (.getfield 17, 3) := by decide +kernel
theorem dX5_keep_18 : decode cX5_keep 18 = .ok (.iconst 1, 1) := by decide +kernel
theorem dX5_keep_19 : decode cX5_keep 19 = .ok (.iadd, 1) := by decide +kernel
theorem dX5_keep_20 : decode cX5_keep 20 = .ok (.putfield 17, 3) := by decide +kernel
theorem dX5_keep_23 : decode cX5_keep 23 = .ok (.aload_n 0, 1) := by decide +kernel
theorem dX5_keep_24 : decode cX5_keep 24 = .ok (.bipush 8, 2) := by decide +kernel
theorem dX5_keep_26 : decode cX5_keep 26 = .ok (.aload_n 0, 1) := by decide +kernel
theorem dX5_keep_27 : decode cX5_keep 27 = .ok (.getfield 21, 3) := by decide +kernel
theorem dX5_keep_30 : decode cX5_keep 30 = .ok (.iconst 1, 1) := by decide +kernel
theorem dX5_keep_31 : decode cX5_keep 31 = .ok (.iadd, 1) := by decide +kernel
theorem dX5_keep_32 : decode cX5_keep 32 = .ok (.invokestatic 33, 3) := by decide +kernel
theorem dX5_keep_35 : decode cX5_keep 35 = .ok (.putfield 21, 3) := by decide +kernel
theorem dX5_keep_38 : decode cX5_keep 38 = .ok (.return_, 1) := by decide +kernel
theorem dX6_init_0 : decode cX6_init 0 = .ok (.aload_n 0, 1) := by decide +kernel
theorem dX6_init_1 : decode cX6_init 1 = .ok (.invokespecial 3, 3) := by decide +kernel
theorem dX6_init_4 : decode cX6_init 4 = .ok (.aload_n 0, 1) := by decide +kernel
theorem dX6_init_5 : decode cX6_init 5 = .ok (.bipush 8, 2) := by decide +kernel
theorem dX6_init_7 : decode cX6_init 7 = .ok (.newarray .int, 2) := by decide +kernel
theorem dX6_init_9 : decode cX6_init 9 = .ok (.putfield 9, 3) := by decide +kernel
theorem dX6_init_12 : decode cX6_init 12 = .ok (.aload_n 0, 1) := by decide +kernel
theorem dX6_init_13 : decode cX6_init 13 = .ok (.iconst 0, 1) := by decide +kernel
theorem dX6_init_14 : decode cX6_init 14 = .ok (.putfield 15, 3) := by decide +kernel
theorem dX6_init_17 : decode cX6_init 17 = .ok (.aload_n 0, 1) := by decide +kernel
theorem dX6_init_18 : decode cX6_init 18 = .ok (.iconst 0, 1) := by decide +kernel
theorem dX6_init_19 : decode cX6_init 19 = .ok (.putfield 19, 3) := by decide +kernel
theorem dX6_init_22 : decode cX6_init 22 = .ok (.return_, 1) := by decide +kernel
theorem dX6_give_0 : decode cX6_give 0 = .ok (.aload_n 0, 1) := by decide +kernel
theorem dX6_give_1 : decode cX6_give 1 = .ok (.iconst 0, 1) := by decide +kernel
theorem dX6_give_2 : decode cX6_give 2 = .ok (.putfield 15, 3) := by decide +kernel
theorem dX6_give_5 : decode cX6_give 5 = .ok (.aload_n 0, 1) := by decide +kernel
theorem dX6_give_6 : decode cX6_give 6 = .ok (.iconst 0, 1) := by decide +kernel
theorem dX6_give_7 : decode cX6_give 7 = .ok (.putfield 19, 3) := by decide +kernel
theorem dX6_give_10 : decode cX6_give 10 = .ok (.iconst 1, 1) := by decide +kernel
theorem dX6_give_11 : decode cX6_give 11 = .ok (.istore_n 2, 1) := by decide +kernel
theorem dX6_give_12 : decode cX6_give 12 = .ok (.iconst 1, 1) := by decide +kernel
theorem dX6_give_13 : decode cX6_give 13 = .ok (.istore_n 3, 1) := by decide +kernel
theorem dX6_give_14 : decode cX6_give 14 = .ok (.iload_n 2, 1) := by decide +kernel
theorem dX6_give_15 : decode cX6_give 15 = .ok (.ifCond .eq 88, 3) := by decide +kernel
theorem dX6_give_18 : decode cX6_give 18 = .ok (.iload_n 3, 1) := by decide +kernel
theorem dX6_give_19 : decode cX6_give 19 = .ok (.bipush 8, 2) := by decide +kernel
theorem dX6_give_21 : decode cX6_give 21 = .ok (.if_icmp .gt 82, 3) := by decide +kernel
theorem dX6_give_24 : decode cX6_give 24 = .ok (.aload_n 0, 1) := by decide +kernel
theorem dX6_give_25 : decode cX6_give 25 = .ok (.getfield 15, 3) := by decide +kernel
theorem dX6_give_28 : decode cX6_give 28 = .ok (.aload_n 0, 1) := by decide +kernel
theorem dX6_give_29 : decode cX6_give 29 = .ok (.getfield 19, 3) := by decide +kernel
theorem dX6_give_32 : decode cX6_give 32 = .ok (.ior, 1) := by decide +kernel
theorem dX6_give_33 : decode cX6_give 33 = .ok (.istore 4, 2) := by decide +kernel
theorem dX6_give_35 : decode cX6_give 35 = .ok (.aload_n 0, 1) := by decide +kernel
theorem dX6_give_36 : decode cX6_give 36 = .ok (.dup, 1) := by decide +kernel
theorem dX6_give_37 : decode cX6_give 37 = .ok (.getfield 15, 3) := by decide +kernel
theorem dX6_give_40 : decode cX6_give 40 = .ok (.aload_n 0, 1) := by decide +kernel
theorem dX6_give_41 : decode cX6_give 41 = .ok (.aload_n 1, 1) := by decide +kernel
theorem dX6_give_42 : decode cX6_give 42 = .ok (.invokevirtual 22, 3) := by decide +kernel
theorem dX6_give_45 : decode cX6_give 45 = .ok (.ior, 1) := by decide +kernel
theorem dX6_give_46 : decode cX6_give 46 = .ok (.putfield 15, 3) := by decide +kernel
theorem dX6_give_49 : decode cX6_give 49 = .ok (.aload_n 0, 1) := by decide +kernel
theorem dX6_give_50 : decode cX6_give 50 = .ok (.dup, 1) := by decide +kernel
theorem dX6_give_51 : decode cX6_give 51 = .ok (.getfield 19, 3) := by decide +kernel
theorem dX6_give_54 : decode cX6_give 54 = .ok (.aload_n 0, 1) := by decide +kernel
theorem dX6_give_55 : decode cX6_give 55 = .ok (.aload_n 1, 1) := by decide +kernel
theorem dX6_give_56 : decode cX6_give 56 = .ok (.invokevirtual 26, 3) := by decide +kernel
theorem dX6_give_59 : decode cX6_give 59 = .ok (.ior, 1) := by decide +kernel
theorem dX6_give_60 : decode cX6_give 60 = .ok (.putfield 19, 3) := by decide +kernel
theorem dX6_give_63 : decode cX6_give 63 = .ok (.aload_n 0, 1) := by decide +kernel
theorem dX6_give_64 : decode cX6_give 64 = .ok (.getfield 15, 3) := by decide +kernel
theorem dX6_give_67 : decode cX6_give 67 = .ok (.aload_n 0, 1) := by decide +kernel
theorem dX6_give_68 : decode cX6_give 68 = .ok (.getfield 19, 3) := by decide +kernel
theorem dX6_give_71 : decode cX6_give 71 = .ok (.ior, 1) := by decide +kernel
theorem dX6_give_72 : decode cX6_give 72 = .ok (.iload 4, 2) := by decide +kernel
theorem dX6_give_74 : decode cX6_give 74 = .ok (.iconst (-1), 1) := by decide +kernel
theorem dX6_give_75 : decode cX6_give 75 = .ok (.ixor, 1) := by decide +kernel
theorem dX6_give_76 : decode cX6_give 76 = .ok (.iand, 1) := by decide +kernel
theorem dX6_give_77 : decode cX6_give 77 = .ok (.istore 5, 2) := by decide +kernel
theorem dX6_give_79 : decode cX6_give 79 = .ok (.aload_n 0, 1) := by decide +kernel
theorem dX6_give_80 : decode cX6_give 80 = .ok (.iload 5, 2) := by decide +kernel
theorem dX6_give_82 : decode cX6_give 82 = .ok (.iload_n 3, 1) := by decide +kernel
theorem dX6_give_83 : decode cX6_give 83 = .ok (.invokevirtual 29, 3) := by decide +kernel
theorem dX6_give_86 : decode cX6_give 86 = .ok (.iload 5, 2) := by decide +kernel
theorem dX6_give_88 : decode cX6_give 88 = .ok (.ifCond .eq 7, 3) := by decide +kernel
theorem dX6_give_91 : decode cX6_give 91 = .ok (.iconst 1, 1) := by decide +kernel
theorem dX6_give_92 : decode cX6_give 92 = .ok (.goto 4, 3) := by decide +kernel
theorem dX6_give_95 : decode cX6_give 95 = .ok (.iconst 0, 1) := by decide +kernel
theorem dX6_give_96 : decode cX6_give 96 = .ok (.istore_n 2, 1) := by decide +kernel
theorem dX6_give_97 : decode cX6_give 97 = .ok (.iinc 3 1, 3) := by decide +kernel
theorem dX6_give_100 : decode cX6_give 100 = .ok (.goto (-86), 3) := by decide +kernel
theorem dX6_give_103 : decode cX6_give 103 = .ok (.return_, 1) := by decide +kernel
theorem dX6_letter_0 : decode cX6_letter 0 = .ok (.aload_n 0, 1) := by decide +kernel
theorem dX6_letter_1 : decode cX6_letter 1 = .ok (.getfield 15, 3) := by decide +kernel
theorem dX6_letter_4 : decode cX6_letter 4 = .ok (.iload_n 1, 1) := by decide +kernel
theorem dX6_letter_5 : decode cX6_letter 5 = .ok (.invokestatic 33, 3) := by decide +kernel
theorem dX6_letter_8 : decode cX6_letter 8 = .ok (.ifCond .eq 6, 3) := by decide +kernel
theorem dX6_letter_11 : decode cX6_letter 11 = .ok (.bipush 97, 2) := by decide +kernel
theorem dX6_letter_13 : decode cX6_letter 13 = .ok (.ireturn, 1) := by decide +kernel
theorem dX6_letter_14 : decode cX6_letter 14 = .ok (.aload_n 0, 1) := by decide +kernel
theorem dX6_letter_15 : decode cX6_letter 15 = .ok (.getfield 19, 3) := by decide +kernel
theorem dX6_letter_18 : decode cX6_letter 18 = .ok (.iload_n 1, 1) := by decide +kernel
theorem dX6_letter_19 : decode cX6_letter 19 = .ok (.invokestatic 33, 3) := by decide +kernel
theorem dX6_letter_22 : decode cX6_letter 22 = .ok (.ifCond .eq 8, 3) := by decide +kernel
theorem dX6_letter_25 : decode cX6_letter 25 = .ok (.bipush 114, 2) := by decide +kernel
theorem dX6_letter_27 : decode cX6_letter 27 = .ok (.goto 5, 3) := by decide +kernel
theorem dX6_letter_30 : decode cX6_letter 30 = .ok (.bipush 117, 2) := by decide +kernel
theorem dX6_letter_32 : decode cX6_letter 32 = .ok (.ireturn, 1) := by decide +kernel
theorem dX6_findAcceptable_0 : decode cX6_findAcceptable 0 = .ok (.iconst 0, 1) := by decide +kernel
theorem dX6_findAcceptable_1 : decode cX6_findAcceptable 1 = .ok (.istore_n 2, 1) := by decide +kernel
theorem dX6_findAcceptable_2 : decode cX6_findAcceptable 2 = .ok (.iconst 0, 1) := by decide +kernel
theorem dX6_findAcceptable_3 : decode cX6_findAcceptable 3 = .ok (.istore_n 3, 1) := by decide +kernel
theorem dX6_findAcceptable_4 : decode cX6_findAcceptable 4 = .ok (.iload_n 3, 1) := by decide +kernel
theorem dX6_findAcceptable_5 : decode cX6_findAcceptable 5 = .ok (.aload_n 1, 1) := by decide +kernel
theorem dX6_findAcceptable_6 : decode cX6_findAcceptable 6 = .ok (.getfield 37, 3) := by decide +kernel
theorem dX6_findAcceptable_9 : decode cX6_findAcceptable 9 = .ok (.if_icmp .ge 41, 3) := by decide +kernel
theorem dX6_findAcceptable_12 : decode cX6_findAcceptable 12 = .ok (.aload_n 0, 1) := by decide +kernel
theorem dX6_findAcceptable_13 : decode cX6_findAcceptable 13 = .ok (.iload_n 3, 1) := by decide +kernel
theorem dX6_findAcceptable_14 : decode cX6_findAcceptable 14 = .ok (.invokevirtual 42, 3) := by decide +kernel
theorem dX6_findAcceptable_17 : decode cX6_findAcceptable 17 = .ok (.bipush 117, 2) := by decide +kernel
theorem dX6_findAcceptable_19 : decode cX6_findAcceptable 19 = .ok (.if_icmp .ne 25, 3) := by decide +kernel
theorem dX6_findAcceptable_22 : decode cX6_findAcceptable 22 = .ok (.aload_n 1, 1) := by decide +kernel
theorem dX6_findAcceptable_23 : decode cX6_findAcceptable 23 = .ok (.getfield 46, 3) := by decide +kernel
theorem dX6_findAcceptable_26 : decode cX6_findAcceptable 26 = .ok (.iload_n 3, 1) := by decide +kernel
theorem dX6_findAcceptable_27 : decode cX6_findAcceptable 27 = .ok (.iaload, 1) := by decide +kernel
theorem dX6_findAcceptable_28 : decode cX6_findAcceptable 28 = .ok (.aload_n 0, 1) := by decide +kernel
theorem dX6_findAcceptable_29 : decode cX6_findAcceptable 29 = .ok (.getfield 19, 3) := by decide +kernel
theorem dX6_findAcceptable_32 : decode cX6_findAcceptable 32 = .ok (.iconst (-1), 1) := by decide +kernel
theorem dX6_findAcceptable_33 : decode cX6_findAcceptable 33 = .ok (.ixor, 1) := by decide +kernel
theorem dX6_findAcceptable_34 : decode cX6_findAcceptable 34 = .ok (.iand, 1) := by decide +kernel
theorem dX6_findAcceptable_35 : decode cX6_findAcceptable 35 = .ok (.ifCond .ne 9, 3) := by decide +kernel
theorem dX6_findAcceptable_38 : decode cX6_findAcceptable 38 = .ok (.iload_n 2, 1) := by decide +kernel
theorem dX6_findAcceptable_39 : decode cX6_findAcceptable 39 = .ok (.iconst 1, 1) := by decide +kernel
theorem dX6_findAcceptable_40 : decode cX6_findAcceptable 40 = .ok (.iload_n 3, 1) := by decide +kernel
theorem dX6_findAcceptable_41 : decode cX6_findAcceptable 41 = .ok (.ishl, 1) := by decide +kernel
theorem dX6_findAcceptable_42 : decode cX6_findAcceptable 42 = .ok (.ior, 1) := by decide +kernel
theorem dX6_findAcceptable_43 : decode cX6_findAcceptable 43 = .ok (.istore_n 2, 1) := by decide +kernel
theorem dX6_findAcceptable_44 : decode cX6_findAcceptable 44 = .ok (.iinc 3 1, 3) := by decide +kernel
theorem dX6_findAcceptable_47 : decode cX6_findAcceptable 47 = .ok (.goto (-43), 3) := by decide +kernel
theorem dX6_findAcceptable_50 : decode cX6_findAcceptable 50 = .ok (.iload_n 2, 1) := by decide +kernel
theorem dX6_findAcceptable_51 : decode cX6_findAcceptable 51 = .ok (.ireturn, 1) := by decide +kernel
theorem dX6_findRejectable_0 : decode cX6_findRejectable 0 = .ok (.iconst 0, 1) := by decide +kernel
theorem dX6_findRejectable_1 : decode cX6_findRejectable 1 = .ok (.istore_n 2, 1) := by decide +kernel
theorem dX6_findRejectable_2 : decode cX6_findRejectable 2 = .ok (.iconst 0, 1) := by decide +kernel
theorem dX6_findRejectable_3 : decode cX6_findRejectable 3 = .ok (.istore_n 3, 1) := by decide +kernel
theorem dX6_findRejectable_4 : decode cX6_findRejectable 4 = .ok (.iload_n 3, 1) := by decide +kernel
theorem dX6_findRejectable_5 : decode cX6_findRejectable 5 = .ok (.aload_n 1, 1) := by decide +kernel
theorem dX6_findRejectable_6 : decode cX6_findRejectable 6 = .ok (.getfield 37, 3) := by decide +kernel
theorem dX6_findRejectable_9 : decode cX6_findRejectable 9 = .ok (.if_icmp .ge 39, 3) := by decide +kernel
theorem dX6_findRejectable_12 : decode cX6_findRejectable 12 = .ok (.aload_n 0, 1) := by decide +kernel
theorem dX6_findRejectable_13 : decode cX6_findRejectable 13 = .ok (.iload_n 3, 1) := by decide +kernel
theorem dX6_findRejectable_14 : decode cX6_findRejectable 14 = .ok (.invokevirtual 42, 3) := by decide +kernel
theorem dX6_findRejectable_17 : decode cX6_findRejectable 17 = .ok (.bipush 117, 2) := by decide +kernel
theorem dX6_findRejectable_19 : decode cX6_findRejectable 19 = .ok (.if_icmp .ne 23, 3) := by decide +kernel
theorem dX6_findRejectable_22 : decode cX6_findRejectable 22 = .ok (.aload_n 1, 1) := by decide +kernel
theorem dX6_findRejectable_23 : decode cX6_findRejectable 23 = .ok (.getfield 46, 3) := by decide +kernel
theorem dX6_findRejectable_26 : decode cX6_findRejectable 26 = .ok (.iload_n 3, 1) := by decide +kernel
theorem dX6_findRejectable_27 : decode cX6_findRejectable 27 = .ok (.iaload, 1) := by decide +kernel
theorem dX6_findRejectable_28 : decode cX6_findRejectable 28 = .ok (.aload_n 0, 1) := by decide +kernel
theorem dX6_findRejectable_29 : decode cX6_findRejectable 29 = .ok (.getfield 15, 3) := by decide +kernel
theorem dX6_findRejectable_32 : decode cX6_findRejectable 32 = .ok (.iand, 1) := by decide +kernel
theorem dX6_findRejectable_33 : decode cX6_findRejectable 33 = .ok (.ifCond .eq 9, 3) := by decide +kernel
theorem dX6_findRejectable_36 : decode cX6_findRejectable 36 = .ok (.iload_n 2, 1) := by decide +kernel
theorem dX6_findRejectable_37 : decode cX6_findRejectable 37 = .ok (.iconst 1, 1) := by decide +kernel
theorem dX6_findRejectable_38 : decode cX6_findRejectable 38 = .ok (.iload_n 3, 1) := by decide +kernel
theorem dX6_findRejectable_39 : decode cX6_findRejectable 39 = .ok (.ishl, 1) := by decide +kernel
theorem dX6_findRejectable_40 : decode cX6_findRejectable 40 = .ok (.ior, 1) := by decide +kernel
theorem dX6_findRejectable_41 : decode cX6_findRejectable 41 = .ok (.istore_n 2, 1) := by decide +kernel
theorem dX6_findRejectable_42 : decode cX6_findRejectable 42 = .ok (.iinc 3 1, 3) := by decide +kernel
theorem dX6_findRejectable_45 : decode cX6_findRejectable 45 = .ok (.goto (-41), 3) := by decide +kernel
theorem dX6_findRejectable_48 : decode cX6_findRejectable 48 = .ok (.iload_n 2, 1) := by decide +kernel
theorem dX6_findRejectable_49 : decode cX6_findRejectable 49 = .ok (.ireturn, 1) := by decide +kernel
theorem dX6_noteRound_0 : decode cX6_noteRound 0 = .ok (.iconst 0, 1) := by decide +kernel
theorem dX6_noteRound_1 : decode cX6_noteRound 1 = .ok (.istore_n 3, 1) := by decide +kernel
theorem dX6_noteRound_2 : decode cX6_noteRound 2 = .ok (.iload_n 3, 1) := by decide +kernel
theorem dX6_noteRound_3 : decode cX6_noteRound 3 = .ok (.bipush 8, 2) := by decide +kernel
theorem dX6_noteRound_5 : decode cX6_noteRound 5 = .ok (.if_icmp .ge 24, 3) := by decide +kernel
theorem dX6_noteRound_8 : decode cX6_noteRound 8 = .ok (.iload_n 1, 1) := by decide +kernel
theorem dX6_noteRound_9 : decode cX6_noteRound 9 = .ok (.iload_n 3, 1) := by decide +kernel
theorem dX6_noteRound_10 : decode cX6_noteRound 10 = .ok (.invokestatic 33, 3) := by decide +kernel
theorem dX6_noteRound_13 : decode cX6_noteRound 13 = .ok (.ifCond .eq 10, 3) := by decide +kernel
theorem dX6_noteRound_16 : decode cX6_noteRound 16 = .ok (.aload_n 0, 1) := by decide +kernel
theorem dX6_noteRound_17 : decode cX6_noteRound 17 = .ok (.getfield 9, 3) := by decide +kernel
theorem dX6_noteRound_20 : decode cX6_noteRound 20 = .ok (.iload_n 3, 1) := by decide +kernel
theorem dX6_noteRound_21 : decode cX6_noteRound 21 = .ok (.iload_n 2, 1) := by decide +kernel
theorem dX6_noteRound_22 : decode cX6_noteRound 22 = .ok (.iastore, 1) := by decide +kernel
theorem dX6_noteRound_23 : decode cX6_noteRound 23 = .ok (.iinc 3 1, 3) := by decide +kernel
theorem dX6_noteRound_26 : decode cX6_noteRound 26 = .ok (.goto (-24), 3) := by decide +kernel
theorem dX6_noteRound_29 : decode cX6_noteRound 29 = .ok (.return_, 1) := by decide +kernel
theorem dX7_init_0 : decode cX7_init 0 = .ok (.aload_n 0, 1) := by decide +kernel
theorem dX7_init_1 : decode cX7_init 1 = .ok (.invokespecial 3, 3) := by decide +kernel
theorem dX7_init_4 : decode cX7_init 4 = .ok (.aload_n 0, 1) := by decide +kernel
theorem dX7_init_5 : decode cX7_init 5 = .ok (.bipush 16, 2) := by decide +kernel
theorem dX7_init_7 : decode cX7_init 7 = .ok (.newarray .int, 2) := by decide +kernel
theorem dX7_init_9 : decode cX7_init 9 = .ok (.putfield 11, 3) := by decide +kernel
theorem dX7_init_12 : decode cX7_init 12 = .ok (.aload_n 0, 1) := by decide +kernel
theorem dX7_init_13 : decode cX7_init 13 = .ok (.bipush 16, 2) := by decide +kernel
theorem dX7_init_15 : decode cX7_init 15 = .ok (.newarray .int, 2) := by decide +kernel
theorem dX7_init_17 : decode cX7_init 17 = .ok (.putfield 15, 3) := by decide +kernel
theorem dX7_init_20 : decode cX7_init 20 = .ok (.aload_n 0, 1) := by decide +kernel
theorem dX7_init_21 : decode cX7_init 21 = .ok (.bipush 16, 2) := by decide +kernel
theorem dX7_init_23 : decode cX7_init 23 = .ok (.newarray .int, 2) := by decide +kernel
theorem dX7_init_25 : decode cX7_init 25 = .ok (.putfield 18, 3) := by decide +kernel
theorem dX7_init_28 : decode cX7_init 28 = .ok (.aload_n 0, 1) := by decide +kernel
theorem dX7_init_29 : decode cX7_init 29 = .ok (.iconst 0, 1) := by decide +kernel
theorem dX7_init_30 : decode cX7_init 30 = .ok (.putfield 21, 3) := by decide +kernel
theorem dX7_init_33 : decode cX7_init 33 = .ok (.aload_n 0, 1) := by decide +kernel
theorem dX7_init_34 : decode cX7_init 34 = .ok (.iconst 0, 1) := by decide +kernel
theorem dX7_init_35 : decode cX7_init 35 = .ok (.putfield 25, 3) := by decide +kernel
theorem dX7_init_38 : decode cX7_init 38 = .ok (.aload_n 0, 1) := by decide +kernel
theorem dX7_init_39 : decode cX7_init 39 = .ok (.iconst 0, 1) := by decide +kernel
theorem dX7_init_40 : decode cX7_init 40 = .ok (.putfield 28, 3) := by decide +kernel
theorem dX7_init_43 : decode cX7_init 43 = .ok (.return_, 1) := by decide +kernel
theorem dX8_init_0 : decode cX8_init 0 = .ok (.aload_n 0, 1) := by decide +kernel
theorem dX8_init_1 : decode cX8_init 1 = .ok (.invokespecial 3, 3) := by decide +kernel
theorem dX8_init_4 : decode cX8_init 4 = .ok (.aload_n 0, 1) := by decide +kernel
theorem dX8_init_5 : decode cX8_init 5 = .ok (.bipush 8, 2) := by decide +kernel
theorem dX8_init_7 : decode cX8_init 7 = .ok (.newarray .int, 2) := by decide +kernel
theorem dX8_init_9 : decode cX8_init 9 = .ok (.putfield 9, 3) := by decide +kernel
theorem dX8_init_12 : decode cX8_init 12 = .ok (.aload_n 0, 1) := by decide +kernel
theorem dX8_init_13 : decode cX8_init 13 = .ok (.bipush 8, 2) := by decide +kernel
theorem dX8_init_15 : decode cX8_init 15 = .ok (.newarray .int, 2) := by decide +kernel
theorem dX8_init_17 : decode cX8_init 17 = .ok (.putfield 15, 3) := by decide +kernel
theorem dX8_init_20 : decode cX8_init 20 = .ok (.aload_n 0, 1) := by decide +kernel
theorem dX8_init_21 : decode cX8_init 21 = .ok (.bipush 8, 2) := by decide +kernel
theorem dX8_init_23 : decode cX8_init 23 = .ok (.newarray .int, 2) := by decide +kernel
theorem dX8_init_25 : decode cX8_init 25 = .ok (.putfield 18, 3) := by decide +kernel
theorem dX8_init_28 : decode cX8_init 28 = .ok (.aload_n 0, 1) := by decide +kernel
theorem dX8_init_29 : decode cX8_init 29 = .ok (.bipush 8, 2) := by decide +kernel
theorem dX8_init_31 : decode cX8_init 31 = .ok (.newarray .int, 2) := by decide +kernel
theorem dX8_init_33 : decode cX8_init 33 = .ok (.putfield 21, 3) := by decide +kernel
theorem dX8_init_36 : decode cX8_init 36 = .ok (.aload_n 0, 1) := by decide +kernel
theorem dX8_init_37 : decode cX8_init 37 = .ok (.bipush 8, 2) := by decide +kernel
theorem dX8_init_39 : decode cX8_init 39 = .ok (.newarray .int, 2) := by decide +kernel
theorem dX8_init_41 : decode cX8_init 41 = .ok (.putfield 24, 3) := by decide +kernel
theorem dX8_init_44 : decode cX8_init 44 = .ok (.aload_n 0, 1) := by decide +kernel
theorem dX8_init_45 : decode cX8_init 45 = .ok (.new 27, 3) := by decide +kernel
theorem dX8_init_48 : decode cX8_init 48 = .ok (.dup, 1) := by decide +kernel
theorem dX8_init_49 : decode cX8_init 49 = .ok (.invokespecial 29, 3) := by decide +kernel
theorem dX8_init_52 : decode cX8_init 52 = .ok (.putfield 30, 3) := by decide +kernel
theorem dX8_init_55 : decode cX8_init 55 = .ok (.aload_n 0, 1) := by decide +kernel
theorem dX8_init_56 : decode cX8_init 56 = .ok (.iconst 0, 1) := by decide +kernel
theorem dX8_init_57 : decode cX8_init 57 = .ok (.putfield 34, 3) := by decide +kernel
theorem dX8_init_60 : decode cX8_init 60 = .ok (.aload_n 0, 1) := by decide +kernel
theorem dX8_init_61 : decode cX8_init 61 = .ok (.iconst 0, 1) := by decide +kernel
theorem dX8_init_62 : decode cX8_init 62 = .ok (.putfield 38, 3) := by decide +kernel
theorem dX8_init_65 : decode cX8_init 65 = .ok (.aload_n 0, 1) := by decide +kernel
theorem dX8_init_66 : decode cX8_init 66 = .ok (.iconst 0, 1) := by decide +kernel
theorem dX8_init_67 : decode cX8_init 67 = .ok (.putfield 41, 3) := by decide +kernel
theorem dX8_init_70 : decode cX8_init 70 = .ok (.return_, 1) := by decide +kernel
theorem dX8_copyFrom_0 : decode cX8_copyFrom 0 = .ok (.aload_n 1, 1) := by decide +kernel
theorem dX8_copyFrom_1 : decode cX8_copyFrom 1 = .ok (.getfield 9, 3) := by decide +kernel
theorem dX8_copyFrom_4 : decode cX8_copyFrom 4 = .ok (.iconst 0, 1) := by decide +kernel
theorem dX8_copyFrom_5 : decode cX8_copyFrom 5 = .ok (.aload_n 0, 1) := by decide +kernel
theorem dX8_copyFrom_6 : decode cX8_copyFrom 6 = .ok (.getfield 9, 3) := by decide +kernel
theorem dX8_copyFrom_9 : decode cX8_copyFrom 9 = .ok (.iconst 0, 1) := by decide +kernel
theorem dX8_copyFrom_10 : decode cX8_copyFrom 10 = .ok (.bipush 8, 2) := by decide +kernel
theorem dX8_copyFrom_12 : decode cX8_copyFrom 12 = .ok (.invokestatic 44, 3) := by decide +kernel
theorem dX8_copyFrom_15 : decode cX8_copyFrom 15 = .ok (.aload_n 1, 1) := by decide +kernel
theorem dX8_copyFrom_16 : decode cX8_copyFrom 16 = .ok (.getfield 15, 3) := by decide +kernel
theorem dX8_copyFrom_19 : decode cX8_copyFrom 19 = .ok (.iconst 0, 1) := by decide +kernel
theorem dX8_copyFrom_20 : decode cX8_copyFrom 20 = .ok (.aload_n 0, 1) := by decide +kernel
theorem dX8_copyFrom_21 : decode cX8_copyFrom 21 = .ok (.getfield 15, 3) := by decide +kernel
theorem dX8_copyFrom_24 : decode cX8_copyFrom 24 = .ok (.iconst 0, 1) := by decide +kernel
theorem dX8_copyFrom_25 : decode cX8_copyFrom 25 = .ok (.bipush 8, 2) := by decide +kernel
theorem dX8_copyFrom_27 : decode cX8_copyFrom 27 = .ok (.invokestatic 44, 3) := by decide +kernel
theorem dX8_copyFrom_30 : decode cX8_copyFrom 30 = .ok (.aload_n 1, 1) := by decide +kernel
theorem dX8_copyFrom_31 : decode cX8_copyFrom 31 = .ok (.getfield 18, 3) := by decide +kernel
theorem dX8_copyFrom_34 : decode cX8_copyFrom 34 = .ok (.iconst 0, 1) := by decide +kernel
theorem dX8_copyFrom_35 : decode cX8_copyFrom 35 = .ok (.aload_n 0, 1) := by decide +kernel
theorem dX8_copyFrom_36 : decode cX8_copyFrom 36 = .ok (.getfield 18, 3) := by decide +kernel
theorem dX8_copyFrom_39 : decode cX8_copyFrom 39 = .ok (.iconst 0, 1) := by decide +kernel
theorem dX8_copyFrom_40 : decode cX8_copyFrom 40 = .ok (.bipush 8, 2) := by decide +kernel
theorem dX8_copyFrom_42 : decode cX8_copyFrom 42 = .ok (.invokestatic 44, 3) := by decide +kernel
theorem dX8_copyFrom_45 : decode cX8_copyFrom 45 = .ok (.aload_n 1, 1) := by decide +kernel
theorem dX8_copyFrom_46 : decode cX8_copyFrom 46 = .ok (.getfield 21, 3) := by decide +kernel
theorem dX8_copyFrom_49 : decode cX8_copyFrom 49 = .ok (.iconst 0, 1) := by decide +kernel
theorem dX8_copyFrom_50 : decode cX8_copyFrom 50 = .ok (.aload_n 0, 1) := by decide +kernel
theorem dX8_copyFrom_51 : decode cX8_copyFrom 51 = .ok (.getfield 21, 3) := by decide +kernel
theorem dX8_copyFrom_54 : decode cX8_copyFrom 54 = .ok (.iconst 0, 1) := by decide +kernel
theorem dX8_copyFrom_55 : decode cX8_copyFrom 55 = .ok (.bipush 8, 2) := by decide +kernel
theorem dX8_copyFrom_57 : decode cX8_copyFrom 57 = .ok (.invokestatic 44, 3) := by decide +kernel
theorem dX8_copyFrom_60 : decode cX8_copyFrom 60 = .ok (.aload_n 1, 1) := by decide +kernel
theorem dX8_copyFrom_61 : decode cX8_copyFrom 61 = .ok (.getfield 24, 3) := by decide +kernel
theorem dX8_copyFrom_64 : decode cX8_copyFrom 64 = .ok (.iconst 0, 1) := by decide +kernel
theorem dX8_copyFrom_65 : decode cX8_copyFrom 65 = .ok (.aload_n 0, 1) := by decide +kernel
theorem dX8_copyFrom_66 : decode cX8_copyFrom 66 = .ok (.getfield 24, 3) := by decide +kernel
theorem dX8_copyFrom_69 : decode cX8_copyFrom 69 = .ok (.iconst 0, 1) := by decide +kernel
theorem dX8_copyFrom_70 : decode cX8_copyFrom 70 = .ok (.bipush 8, 2) := by decide +kernel
theorem dX8_copyFrom_72 : decode cX8_copyFrom 72 = .ok (.invokestatic 44, 3) := by decide +kernel
theorem dX8_copyFrom_75 : decode cX8_copyFrom 75 = .ok (.aload_n 0, 1) := by decide +kernel
theorem dX8_copyFrom_76 : decode cX8_copyFrom 76 = .ok (.getfield 30, 3) := by decide +kernel
theorem dX8_copyFrom_79 : decode cX8_copyFrom 79 = .ok (.aload_n 1, 1) := by decide +kernel
theorem dX8_copyFrom_80 : decode cX8_copyFrom 80 = .ok (.getfield 30, 3) := by decide +kernel
theorem dX8_copyFrom_83 : decode cX8_copyFrom 83 = .ok (.invokevirtual 50, 3) := by decide +kernel
theorem dX8_copyFrom_86 : decode cX8_copyFrom 86 = .ok (.aload_n 0, 1) := by decide +kernel
theorem dX8_copyFrom_87 : decode cX8_copyFrom 87 = .ok (.aload_n 1, 1) := by decide +kernel
theorem dX8_copyFrom_88 : decode cX8_copyFrom 88 = .ok (.getfield 34, 3) := by decide +kernel
theorem dX8_copyFrom_91 : decode cX8_copyFrom 91 = .ok (.putfield 34, 3) := by decide +kernel
theorem dX8_copyFrom_94 : decode cX8_copyFrom 94 = .ok (.aload_n 0, 1) := by decide +kernel
theorem dX8_copyFrom_95 : decode cX8_copyFrom 95 = .ok (.aload_n 1, 1) := by decide +kernel
theorem dX8_copyFrom_96 : decode cX8_copyFrom 96 = .ok (.getfield 38, 3) := by decide +kernel
theorem dX8_copyFrom_99 : decode cX8_copyFrom 99 = .ok (.putfield 38, 3) := by decide +kernel
theorem dX8_copyFrom_102 : decode cX8_copyFrom 102 = .ok (.aload_n 0, 1) := by decide +kernel
theorem dX8_copyFrom_103 : decode cX8_copyFrom 103 = .ok (.aload_n 1, 1) := by decide +kernel
theorem dX8_copyFrom_104 : decode cX8_copyFrom 104 = .ok (.getfield 41, 3) := by decide +kernel
theorem dX8_copyFrom_107 : decode cX8_copyFrom 107 = .ok (.putfield 41, 3) := by decide +kernel
theorem dX8_copyFrom_110 : decode cX8_copyFrom 110 = .ok (.return_, 1) := by decide +kernel
theorem dX8_apply_0 : decode cX8_apply 0 = .ok (.getstatic 54, 3) := by decide +kernel
theorem dX8_apply_3 : decode cX8_apply 3 = .ok (.aload_n 1, 1) := by decide +kernel
theorem dX8_apply_4 : decode cX8_apply 4 = .ok (.invokevirtual 59, 3) := by decide +kernel
theorem dX8_apply_7 : decode cX8_apply 7 = .ok (.iaload, 1) := by decide +kernel
theorem dX8_apply_8 : decode cX8_apply 8 = .ok (.tableswitch 123 1 10 #[56, 62, 68, 75, 82, 89, 95, 101, 107, 115], 56) := by decide +kernel
theorem dX8_apply_64 : decode cX8_apply 64 = .ok (.aload_n 0, 1) := by decide +kernel
theorem dX8_apply_65 : decode cX8_apply 65 = .ok (.iload_n 2, 1) := by decide +kernel
theorem dX8_apply_66 : decode cX8_apply 66 = .ok (.invokevirtual 65, 3) := by decide +kernel
theorem dX8_apply_69 : decode cX8_apply 69 = .ok (.ireturn, 1) := by decide +kernel
theorem dX8_apply_70 : decode cX8_apply 70 = .ok (.aload_n 0, 1) := by decide +kernel
theorem dX8_apply_71 : decode cX8_apply 71 = .ok (.iload_n 2, 1) := by decide +kernel
theorem dX8_apply_72 : decode cX8_apply 72 = .ok (.invokevirtual 69, 3) := by decide +kernel
theorem dX8_apply_75 : decode cX8_apply 75 = .ok (.ireturn, 1) := by decide +kernel
theorem dX8_apply_76 : decode cX8_apply 76 = .ok (.aload_n 0, 1) := by decide +kernel
theorem dX8_apply_77 : decode cX8_apply 77 = .ok (.iload_n 2, 1) := by decide +kernel
theorem dX8_apply_78 : decode cX8_apply 78 = .ok (.iload_n 3, 1) := by decide +kernel
theorem dX8_apply_79 : decode cX8_apply 79 = .ok (.invokevirtual 72, 3) := by decide +kernel
theorem dX8_apply_82 : decode cX8_apply 82 = .ok (.ireturn, 1) := by decide +kernel
theorem dX8_apply_83 : decode cX8_apply 83 = .ok (.aload_n 0, 1) := by decide +kernel
theorem dX8_apply_84 : decode cX8_apply 84 = .ok (.iload_n 2, 1) := by decide +kernel
theorem dX8_apply_85 : decode cX8_apply 85 = .ok (.iload_n 3, 1) := by decide +kernel
theorem dX8_apply_86 : decode cX8_apply 86 = .ok (.invokevirtual 76, 3) := by decide +kernel
theorem dX8_apply_89 : decode cX8_apply 89 = .ok (.ireturn, 1) := by decide +kernel
theorem dX8_apply_90 : decode cX8_apply 90 = .ok (.aload_n 0, 1) := by decide +kernel
theorem dX8_apply_91 : decode cX8_apply 91 = .ok (.iload_n 2, 1) := by decide +kernel
theorem dX8_apply_92 : decode cX8_apply 92 = .ok (.iload_n 3, 1) := by decide +kernel
theorem dX8_apply_93 : decode cX8_apply 93 = .ok (.invokevirtual 79, 3) := by decide +kernel
theorem dX8_apply_96 : decode cX8_apply 96 = .ok (.ireturn, 1) := by decide +kernel
theorem dX8_apply_97 : decode cX8_apply 97 = .ok (.aload_n 0, 1) := by decide +kernel
theorem dX8_apply_98 : decode cX8_apply 98 = .ok (.iload_n 2, 1) := by decide +kernel
theorem dX8_apply_99 : decode cX8_apply 99 = .ok (.invokevirtual 82, 3) := by decide +kernel
theorem dX8_apply_102 : decode cX8_apply 102 = .ok (.ireturn, 1) := by decide +kernel
theorem dX8_apply_103 : decode cX8_apply 103 = .ok (.aload_n 0, 1) := by decide +kernel
theorem dX8_apply_104 : decode cX8_apply 104 = .ok (.iload_n 2, 1) := by decide +kernel
theorem dX8_apply_105 : decode cX8_apply 105 = .ok (.invokevirtual 85, 3) := by decide +kernel
theorem dX8_apply_108 : decode cX8_apply 108 = .ok (.ireturn, 1) := by decide +kernel
theorem dX8_apply_109 : decode cX8_apply 109 = .ok (.aload_n 0, 1) := by decide +kernel
theorem dX8_apply_110 : decode cX8_apply 110 = .ok (.iload_n 2, 1) := by decide +kernel
theorem dX8_apply_111 : decode cX8_apply 111 = .ok (.invokevirtual 88, 3) := by decide +kernel
theorem dX8_apply_114 : decode cX8_apply 114 = .ok (.ireturn, 1) := by decide +kernel
theorem dX8_apply_115 : decode cX8_apply 115 = .ok (.aload_n 0, 1) := by decide +kernel
theorem dX8_apply_116 : decode cX8_apply 116 = .ok (.getfield 30, 3) := by decide +kernel
theorem dX8_apply_119 : decode cX8_apply 119 = .ok (.invokevirtual 91, 3) := by decide +kernel
theorem dX8_apply_122 : decode cX8_apply 122 = .ok (.ireturn, 1) := by decide +kernel
theorem dX8_apply_123 : decode cX8_apply 123 = .ok (.aload_n 0, 1) := by decide +kernel
theorem dX8_apply_124 : decode cX8_apply 124 = .ok (.getfield 30, 3) := by decide +kernel
theorem dX8_apply_127 : decode cX8_apply 127 = .ok (.invokevirtual 94, 3) := by decide +kernel
theorem dX8_apply_130 : decode cX8_apply 130 = .ok (.ireturn, 1) := by decide +kernel
theorem dX8_apply_131 : decode cX8_apply 131 = .ok (.aload_n 0, 1) := by decide +kernel
theorem dX8_apply_132 : decode cX8_apply 132 = .ok (.iload_n 2, 1) := by decide +kernel
theorem dX8_apply_133 : decode cX8_apply 133 = .ok (.invokevirtual 98, 3) := by decide +kernel
theorem dX8_apply_136 : decode cX8_apply 136 = .ok (.ireturn, 1) := by decide +kernel
theorem dX8_slotOfKnown_0 : decode cX8_slotOfKnown 0 = .ok (.iconst 0, 1) := by decide +kernel
theorem dX8_slotOfKnown_1 : decode cX8_slotOfKnown 1 = .ok (.istore_n 2, 1) := by decide +kernel
theorem dX8_slotOfKnown_2 : decode cX8_slotOfKnown 2 = .ok (.iload_n 2, 1) := by decide +kernel
theorem dX8_slotOfKnown_3 : decode cX8_slotOfKnown 3 = .ok (.aload_n 0, 1) := by decide +kernel
theorem dX8_slotOfKnown_4 : decode cX8_slotOfKnown 4 = .ok (.getfield 34, 3) := by decide +kernel
theorem dX8_slotOfKnown_7 : decode cX8_slotOfKnown 7 = .ok (.if_icmp .ge 21, 3) := by decide +kernel
theorem dX8_slotOfKnown_10 : decode cX8_slotOfKnown 10 = .ok (.aload_n 0, 1) := by decide +kernel
theorem dX8_slotOfKnown_11 : decode cX8_slotOfKnown 11 = .ok (.getfield 9, 3) := by decide +kernel
theorem dX8_slotOfKnown_14 : decode cX8_slotOfKnown 14 = .ok (.iload_n 2, 1) := by decide +kernel
theorem dX8_slotOfKnown_15 : decode cX8_slotOfKnown 15 = .ok (.iaload, 1) := by decide +kernel
theorem dX8_slotOfKnown_16 : decode cX8_slotOfKnown 16 = .ok (.iload_n 1, 1) := by decide +kernel
theorem dX8_slotOfKnown_17 : decode cX8_slotOfKnown 17 = .ok (.if_icmp .ne 5, 3) := by decide +kernel
theorem dX8_slotOfKnown_20 : decode cX8_slotOfKnown 20 = .ok (.iload_n 2, 1) := by decide +kernel
theorem dX8_slotOfKnown_21 : decode cX8_slotOfKnown 21 = .ok (.ireturn, 1) := by decide +kernel
theorem dX8_slotOfKnown_22 : decode cX8_slotOfKnown 22 = .ok (.iinc 2 1, 3) := by decide +kernel
theorem dX8_slotOfKnown_25 : decode cX8_slotOfKnown 25 = .ok (.goto (-23), 3) := by decide +kernel
theorem dX8_slotOfKnown_28 : decode cX8_slotOfKnown 28 = .ok (.new 101, 3) := by decide +kernel
theorem dX8_slotOfKnown_31 : decode cX8_slotOfKnown 31 = .ok (.dup, 1) := by decide +kernel
theorem dX8_slotOfKnown_32 : decode cX8_slotOfKnown 32 = .ok (.ldc 103, 2) := by decide +kernel
theorem dX8_slotOfKnown_34 : decode cX8_slotOfKnown 34 = .ok (.invokespecial 105, 3) := by decide +kernel
theorem dX8_slotOfKnown_37 : decode cX8_slotOfKnown 37 = .ok (.athrow, 1) := by decide +kernel
theorem dX8_slotOfReply_0 : decode cX8_slotOfReply 0 = .ok (.aload_n 0, 1) := by decide +kernel
theorem dX8_slotOfReply_1 : decode cX8_slotOfReply 1 = .ok (.getfield 30, 3) := by decide +kernel
theorem dX8_slotOfReply_4 : decode cX8_slotOfReply 4 = .ok (.invokevirtual 108, 3) := by decide +kernel
theorem dX8_slotOfReply_7 : decode cX8_slotOfReply 7 = .ok (.aload_n 0, 1) := by decide +kernel
theorem dX8_slotOfReply_8 : decode cX8_slotOfReply 8 = .ok (.iload_n 1, 1) := by decide +kernel
theorem dX8_slotOfReply_9 : decode cX8_slotOfReply 9 = .ok (.invokevirtual 111, 3) := by decide +kernel
theorem dX8_slotOfReply_12 : decode cX8_slotOfReply 12 = .ok (.ireturn, 1) := by decide +kernel
theorem dX8_all_0 : decode cX8_all 0 = .ok (.iconst 1, 1) := by decide +kernel
theorem dX8_all_1 : decode cX8_all 1 = .ok (.aload_n 0, 1) := by decide +kernel
theorem dX8_all_2 : decode cX8_all 2 = .ok (.getfield 34, 3) := by decide +kernel
theorem dX8_all_5 : decode cX8_all 5 = .ok (.ishl, 1) := by decide +kernel
theorem dX8_all_6 : decode cX8_all 6 = .ok (.iconst 1, 1) := by decide +kernel
theorem dX8_all_7 : decode cX8_all 7 = .ok (.isub, 1) := by decide +kernel
theorem dX8_all_8 : decode cX8_all 8 = .ok (.ireturn, 1) := by decide +kernel
theorem dX8_strength_0 : decode cX8_strength 0 = .ok (.aload_n 0, 1) := by decide +kernel
theorem dX8_strength_1 : decode cX8_strength 1 = .ok (.getfield 15, 3) := by decide +kernel
theorem dX8_strength_4 : decode cX8_strength 4 = .ok (.iload_n 1, 1) := by decide +kernel
theorem dX8_strength_5 : decode cX8_strength 5 = .ok (.iaload, 1) := by decide +kernel
theorem dX8_strength_6 : decode cX8_strength 6 = .ok (.aload_n 0, 1) := by decide +kernel
theorem dX8_strength_7 : decode cX8_strength 7 = .ok (.getfield 18, 3) := by decide +kernel
theorem dX8_strength_10 : decode cX8_strength 10 = .ok (.iload_n 1, 1) := by decide +kernel
theorem dX8_strength_11 : decode cX8_strength 11 = .ok (.iaload, 1) := by decide +kernel
theorem dX8_strength_12 : decode cX8_strength 12 = .ok (.bipush 10, 2) := by decide +kernel
theorem dX8_strength_14 : decode cX8_strength 14 = .ok (.idiv, 1) := by decide +kernel
theorem dX8_strength_15 : decode cX8_strength 15 = .ok (.isub, 1) := by decide +kernel
theorem dX8_strength_16 : decode cX8_strength 16 = .ok (.istore_n 2, 1) := by decide +kernel
theorem dX8_strength_17 : decode cX8_strength 17 = .ok (.iload_n 2, 1) := by decide +kernel
theorem dX8_strength_18 : decode cX8_strength 18 = .ok (.iconst 1, 1) := by decide +kernel
theorem dX8_strength_19 : decode cX8_strength 19 = .ok (.if_icmp .ge 7, 3) := by decide +kernel
theorem dX8_strength_22 : decode cX8_strength 22 = .ok (.iconst 1, 1) := by decide +kernel
theorem dX8_strength_23 : decode cX8_strength 23 = .ok (.goto 4, 3) := by decide +kernel
theorem dX8_strength_26 : decode cX8_strength 26 = .ok (.iload_n 2, 1) := by decide +kernel
theorem dX8_strength_27 : decode cX8_strength 27 = .ok (.ireturn, 1) := by decide +kernel
theorem dX8_countAttacks_0 : decode cX8_countAttacks 0 = .ok (.iconst 0, 1) := by decide +kernel
theorem dX8_countAttacks_1 : decode cX8_countAttacks 1 = .ok (.istore_n 1, 1) := by decide +kernel
theorem dX8_countAttacks_2 : decode cX8_countAttacks 2 = .ok (.iconst 0, 1) := by decide +kernel
theorem dX8_countAttacks_3 : decode cX8_countAttacks 3 = .ok (.istore_n 2, 1) := by decide +kernel
theorem dX8_countAttacks_4 : decode cX8_countAttacks 4 = .ok (.iload_n 2, 1) := by decide +kernel
theorem dX8_countAttacks_5 : decode cX8_countAttacks 5 = .ok (.aload_n 0, 1) := by decide +kernel
theorem dX8_countAttacks_6 : decode cX8_countAttacks 6 = .ok (.getfield 34, 3) := by decide +kernel
theorem dX8_countAttacks_9 : decode cX8_countAttacks 9 = .ok (.if_icmp .ge 21, 3) := by decide +kernel
theorem dX8_countAttacks_12 : decode cX8_countAttacks 12 = .ok (.iload_n 1, 1) := by decide +kernel
theorem dX8_countAttacks_13 : decode cX8_countAttacks 13 = .ok (.aload_n 0, 1) := by decide +kernel
theorem dX8_countAttacks_14 : decode cX8_countAttacks 14 = .ok (.getfield 21, 3) := by decide +kernel
theorem dX8_countAttacks_17 : decode cX8_countAttacks 17 = .ok (.iload_n 2, 1) := by decide +kernel
theorem dX8_countAttacks_18 : decode cX8_countAttacks 18 = .ok (.iaload, 1) := by decide +kernel
theorem dX8_countAttacks_19 : decode cX8_countAttacks 19 = .ok (.invokestatic 114, 3) := by decide +kernel
theorem dX8_countAttacks_22 : decode cX8_countAttacks 22 = .ok (.iadd, 1) := by decide +kernel
theorem dX8_countAttacks_23 : decode cX8_countAttacks 23 = .ok (.istore_n 1, 1) := by decide +kernel
theorem dX8_countAttacks_24 : decode cX8_countAttacks 24 = .ok (.iinc 2 1, 3) := by decide +kernel
theorem dX8_countAttacks_27 : decode cX8_countAttacks 27 = .ok (.goto (-23), 3) := by decide +kernel
theorem dX8_countAttacks_30 : decode cX8_countAttacks 30 = .ok (.iload_n 1, 1) := by decide +kernel
theorem dX8_countAttacks_31 : decode cX8_countAttacks 31 = .ok (.ireturn, 1) := by decide +kernel
theorem dX8_rank_0 : decode cX8_rank 0 = .ok (.iconst 0, 1) := by decide +kernel
theorem dX8_rank_1 : decode cX8_rank 1 = .ok (.istore_n 2, 1) := by decide +kernel
theorem dX8_rank_2 : decode cX8_rank 2 = .ok (.iconst 0, 1) := by decide +kernel
theorem dX8_rank_3 : decode cX8_rank 3 = .ok (.istore_n 3, 1) := by decide +kernel
theorem dX8_rank_4 : decode cX8_rank 4 = .ok (.iload_n 3, 1) := by decide +kernel
theorem dX8_rank_5 : decode cX8_rank 5 = .ok (.aload_n 0, 1) := by decide +kernel
theorem dX8_rank_6 : decode cX8_rank 6 = .ok (.getfield 34, 3) := by decide +kernel
theorem dX8_rank_9 : decode cX8_rank 9 = .ok (.if_icmp .ge 26, 3) := by decide +kernel
theorem dX8_rank_12 : decode cX8_rank 12 = .ok (.iload_n 3, 1) := by decide +kernel
theorem dX8_rank_13 : decode cX8_rank 13 = .ok (.iload_n 1, 1) := by decide +kernel
theorem dX8_rank_14 : decode cX8_rank 14 = .ok (.if_icmp .eq 15, 3) := by decide +kernel
theorem dX8_rank_17 : decode cX8_rank 17 = .ok (.aload_n 0, 1) := by decide +kernel
theorem dX8_rank_18 : decode cX8_rank 18 = .ok (.iload_n 3, 1) := by decide +kernel
theorem dX8_rank_19 : decode cX8_rank 19 = .ok (.iload_n 1, 1) := by decide +kernel
theorem dX8_rank_20 : decode cX8_rank 20 = .ok (.invokevirtual 119, 3) := by decide +kernel
theorem dX8_rank_23 : decode cX8_rank 23 = .ok (.ifCond .eq 6, 3) := by decide +kernel
theorem dX8_rank_26 : decode cX8_rank 26 = .ok (.iinc 2 1, 3) := by decide +kernel
theorem dX8_rank_29 : decode cX8_rank 29 = .ok (.iinc 3 1, 3) := by decide +kernel
theorem dX8_rank_32 : decode cX8_rank 32 = .ok (.goto (-28), 3) := by decide +kernel
theorem dX8_rank_35 : decode cX8_rank 35 = .ok (.iload_n 2, 1) := by decide +kernel
theorem dX8_rank_36 : decode cX8_rank 36 = .ok (.ireturn, 1) := by decide +kernel
theorem dX8_isAllowed_0 : decode cX8_isAllowed 0 = .ok (.aload_n 0, 1) := by decide +kernel
theorem dX8_isAllowed_1 : decode cX8_isAllowed 1 = .ok (.getfield 24, 3) := by decide +kernel
theorem dX8_isAllowed_4 : decode cX8_isAllowed 4 = .ok (.aload_n 0, 1) := by decide +kernel
theorem dX8_isAllowed_5 : decode cX8_isAllowed 5 = .ok (.aload_n 0, 1) := by decide +kernel
theorem dX8_isAllowed_6 : decode cX8_isAllowed 6 = .ok (.getfield 30, 3) := by decide +kernel
theorem dX8_isAllowed_9 : decode cX8_isAllowed 9 = .ok (.invokevirtual 123, 3) := by decide +kernel
theorem dX8_isAllowed_12 : decode cX8_isAllowed 12 = .ok (.invokevirtual 111, 3) := by decide +kernel
theorem dX8_isAllowed_15 : decode cX8_isAllowed 15 = .ok (.iaload, 1) := by decide +kernel
theorem dX8_isAllowed_16 : decode cX8_isAllowed 16 = .ok (.istore_n 2, 1) := by decide +kernel
theorem dX8_isAllowed_17 : decode cX8_isAllowed 17 = .ok (.iload_n 2, 1) := by decide +kernel
theorem dX8_isAllowed_18 : decode cX8_isAllowed 18 = .ok (.iload_n 1, 1) := by decide +kernel
theorem dX8_isAllowed_19 : decode cX8_isAllowed 19 = .ok (.invokestatic 126, 3) := by decide +kernel
theorem dX8_isAllowed_22 : decode cX8_isAllowed 22 = .ok (.ifCond .eq 36, 3) := by decide +kernel
theorem dX8_isAllowed_25 : decode cX8_isAllowed 25 = .ok (.aload_n 0, 1) := by decide +kernel
theorem dX8_isAllowed_26 : decode cX8_isAllowed 26 = .ok (.getfield 30, 3) := by decide +kernel
theorem dX8_isAllowed_29 : decode cX8_isAllowed 29 = .ok (.getfield 129, 3) := by decide +kernel
theorem dX8_isAllowed_32 : decode cX8_isAllowed 32 = .ok (.invokestatic 130, 3) := by decide +kernel
theorem dX8_isAllowed_35 : decode cX8_isAllowed 35 = .ok (.ifCond .eq 19, 3) := by decide +kernel
theorem dX8_isAllowed_38 : decode cX8_isAllowed 38 = .ok (.aload_n 0, 1) := by decide +kernel
theorem dX8_isAllowed_39 : decode cX8_isAllowed 39 = .ok (.getfield 30, 3) := by decide +kernel
theorem dX8_isAllowed_42 : decode cX8_isAllowed 42 = .ok (.aload_n 0, 1) := by decide +kernel
theorem dX8_isAllowed_43 : decode cX8_isAllowed 43 = .ok (.getfield 9, 3) := by decide +kernel
theorem dX8_isAllowed_46 : decode cX8_isAllowed 46 = .ok (.iload_n 1, 1) := by decide +kernel
theorem dX8_isAllowed_47 : decode cX8_isAllowed 47 = .ok (.iaload, 1) := by decide +kernel
theorem dX8_isAllowed_48 : decode cX8_isAllowed 48 = .ok (.invokevirtual 134, 3) := by decide +kernel
theorem dX8_isAllowed_51 : decode cX8_isAllowed 51 = .ok (.ifCond .ne 7, 3) := by decide +kernel
theorem dX8_isAllowed_54 : decode cX8_isAllowed 54 = .ok (.iconst 1, 1) := by decide +kernel
theorem dX8_isAllowed_55 : decode cX8_isAllowed 55 = .ok (.goto 4, 3) := by decide +kernel
theorem dX8_isAllowed_58 : decode cX8_isAllowed 58 = .ok (.iconst 0, 1) := by decide +kernel
theorem dX8_isAllowed_59 : decode cX8_isAllowed 59 = .ok (.ireturn, 1) := by decide +kernel
theorem dX8_age_0 : decode cX8_age 0 = .ok (.aload_n 0, 1) := by decide +kernel
theorem dX8_age_1 : decode cX8_age 1 = .ok (.dup, 1) := by decide +kernel
theorem dX8_age_2 : decode cX8_age 2 = .ok (.getfield 41, 3) := by decide +kernel
theorem dX8_age_5 : decode cX8_age 5 = .ok (.iload_n 1, 1) := by decide +kernel
theorem dX8_age_6 : decode cX8_age 6 = .ok (.iadd, 1) := by decide +kernel
theorem dX8_age_7 : decode cX8_age 7 = .ok (.putfield 41, 3) := by decide +kernel
theorem dX8_age_10 : decode cX8_age 10 = .ok (.iconst 0, 1) := by decide +kernel
theorem dX8_age_11 : decode cX8_age 11 = .ok (.istore_n 2, 1) := by decide +kernel
theorem dX8_age_12 : decode cX8_age 12 = .ok (.iload_n 2, 1) := by decide +kernel
theorem dX8_age_13 : decode cX8_age 13 = .ok (.aload_n 0, 1) := by decide +kernel
theorem dX8_age_14 : decode cX8_age 14 = .ok (.getfield 34, 3) := by decide +kernel
theorem dX8_age_17 : decode cX8_age 17 = .ok (.if_icmp .ge 28, 3) := by decide +kernel
theorem dX8_age_20 : decode cX8_age 20 = .ok (.aload_n 0, 1) := by decide +kernel
theorem dX8_age_21 : decode cX8_age 21 = .ok (.getfield 18, 3) := by decide +kernel
theorem dX8_age_24 : decode cX8_age 24 = .ok (.iload_n 2, 1) := by decide +kernel
theorem dX8_age_25 : decode cX8_age 25 = .ok (.bipush 90, 2) := by decide +kernel
theorem dX8_age_27 : decode cX8_age 27 = .ok (.aload_n 0, 1) := by decide +kernel
theorem dX8_age_28 : decode cX8_age 28 = .ok (.getfield 18, 3) := by decide +kernel
theorem dX8_age_31 : decode cX8_age 31 = .ok (.iload_n 2, 1) := by decide +kernel
theorem dX8_age_32 : decode cX8_age 32 = .ok (.iaload, 1) := by decide +kernel
theorem dX8_age_33 : decode cX8_age 33 = .ok (.iload_n 1, 1) := by decide +kernel
theorem dX8_age_34 : decode cX8_age 34 = .ok (.iadd, 1) := by decide +kernel
theorem dX8_age_35 : decode cX8_age 35 = .ok (.invokestatic 137, 3) := by decide +kernel
theorem dX8_age_38 : decode cX8_age 38 = .ok (.iastore, 1) := by decide +kernel
theorem dX8_age_39 : decode cX8_age 39 = .ok (.iinc 2 1, 3) := by decide +kernel
theorem dX8_age_42 : decode cX8_age 42 = .ok (.goto (-30), 3) := by decide +kernel
theorem dX8_age_45 : decode cX8_age 45 = .ok (.aload_n 0, 1) := by decide +kernel
theorem dX8_age_46 : decode cX8_age 46 = .ok (.invokevirtual 142, 3) := by decide +kernel
theorem dX8_age_49 : decode cX8_age 49 = .ok (.ireturn, 1) := by decide +kernel
theorem dX8_add_0 : decode cX8_add 0 = .ok (.iload_n 1, 1) := by decide +kernel
theorem dX8_add_1 : decode cX8_add 1 = .ok (.invokestatic 145, 3) := by decide +kernel
theorem dX8_add_4 : decode cX8_add 4 = .ok (.aload_n 0, 1) := by decide +kernel
theorem dX8_add_5 : decode cX8_add 5 = .ok (.getfield 34, 3) := by decide +kernel
theorem dX8_add_8 : decode cX8_add 8 = .ok (.bipush 8, 2) := by decide +kernel
theorem dX8_add_10 : decode cX8_add 10 = .ok (.if_icmp .lt 13, 3) := by decide +kernel
theorem dX8_add_13 : decode cX8_add 13 = .ok (.new 149, 3) := by decide +kernel
theorem dX8_add_16 : decode cX8_add 16 = .ok (.dup, 1) := by decide +kernel
theorem dX8_add_17 : decode cX8_add 17 = .ok (.ldc 151, 2) := by decide +kernel
theorem dX8_add_19 : decode cX8_add 19 = .ok (.invokespecial 153, 3) := by decide +kernel
theorem dX8_add_22 : decode cX8_add 22 = .ok (.athrow, 1) := by decide +kernel
theorem dX8_add_23 : decode cX8_add 23 = .ok (.aload_n 0, 1) := by decide +kernel
theorem dX8_add_24 : decode cX8_add 24 = .ok (.getfield 38, 3) := by decide +kernel
theorem dX8_add_27 : decode cX8_add 27 = .ok (.istore_n 2, 1) := by decide +kernel
theorem dX8_add_28 : decode cX8_add 28 = .ok (.aload_n 0, 1) := by decide +kernel
theorem dX8_add_29 : decode cX8_add 29 = .ok (.getfield 9, 3) := by decide +kernel
theorem dX8_add_32 : decode cX8_add 32 = .ok (.aload_n 0, 1) := by decide +kernel
theorem dX8_add_33 : decode cX8_add 33 = .ok (.getfield 34, 3) := by decide +kernel
theorem dX8_add_36 : decode cX8_add 36 = .ok (.iload_n 2, 1) := by decide +kernel
theorem dX8_add_37 : decode cX8_add 37 = .ok (.iastore, 1) := by decide +kernel
theorem dX8_add_38 : decode cX8_add 38 = .ok (.aload_n 0, 1) := by decide +kernel
theorem dX8_add_39 : decode cX8_add 39 = .ok (.getfield 15, 3) := by decide +kernel
theorem dX8_add_42 : decode cX8_add 42 = .ok (.aload_n 0, 1) := by decide +kernel
theorem dX8_add_43 : decode cX8_add 43 = .ok (.getfield 34, 3) := by decide +kernel
theorem dX8_add_46 : decode cX8_add 46 = .ok (.iload_n 1, 1) := by decide +kernel
theorem dX8_add_47 : decode cX8_add 47 = .ok (.iastore, 1) := by decide +kernel
theorem dX8_add_48 : decode cX8_add 48 = .ok (.aload_n 0, 1) := by decide +kernel
theorem dX8_add_49 : decode cX8_add 49 = .ok (.getfield 18, 3) := by decide +kernel
theorem dX8_add_52 : decode cX8_add 52 = .ok (.aload_n 0, 1) := by decide +kernel
theorem dX8_add_53 : decode cX8_add 53 = .ok (.getfield 34, 3) := by decide +kernel
theorem dX8_add_56 : decode cX8_add 56 = .ok (.iconst 0, 1) := by decide +kernel
theorem dX8_add_57 : decode cX8_add 57 = .ok (.iastore, 1) := by decide +kernel
theorem dX8_add_58 : decode cX8_add 58 = .ok (.aload_n 0, 1) := by decide +kernel
theorem dX8_add_59 : decode cX8_add 59 = .ok (.getfield 21, 3) := by decide +kernel
theorem dX8_add_62 : decode cX8_add 62 = .ok (.aload_n 0, 1) := by decide +kernel
theorem dX8_add_63 : decode cX8_add 63 = .ok (.getfield 34, 3) := by decide +kernel
theorem dX8_add_66 : decode cX8_add 66 = .ok (.iconst 0, 1) := by decide +kernel
theorem dX8_add_67 : decode cX8_add 67 = .ok (.iastore, 1) := by decide +kernel
theorem dX8_add_68 : decode cX8_add 68 = .ok (.aload_n 0, 1) := by decide +kernel
theorem dX8_add_69 : decode cX8_add 69 = .ok (.dup, 1) := by decide +kernel
theorem dX8_add_70 : decode cX8_add 70 = .ok (.getfield 34, 3) := by decide +kernel
theorem dX8_add_73 : decode cX8_add 73 = .ok (.iconst 1, 1) := by decide +kernel
theorem dX8_add_74 : decode cX8_add 74 = .ok (.iadd, 1) := by decide +kernel
theorem dX8_add_75 : decode cX8_add 75 = .ok (.putfield 34, 3) := by decide +kernel
theorem dX8_add_78 : decode cX8_add 78 = .ok (.aload_n 0, 1) := by decide +kernel
theorem dX8_add_79 : decode cX8_add 79 = .ok (.dup, 1) := by decide +kernel
theorem dX8_add_80 : decode cX8_add 80 = .ok (.getfield 38, 3) := by decide +kernel
theorem dX8_add_83 : decode cX8_add 83 = .ok (.iconst 1, 1) := by decide +kernel
theorem dX8_add_84 : decode cX8_add 84 = .ok (.iadd, 1) := by decide +kernel
theorem dX8_add_85 : decode cX8_add 85 = .ok (.putfield 38, 3) := by decide +kernel
theorem dX8_add_88 : decode cX8_add 88 = .ok (.aload_n 0, 1) := by decide +kernel
theorem dX8_add_89 : decode cX8_add 89 = .ok (.invokevirtual 142, 3) := by decide +kernel
theorem dX8_add_92 : decode cX8_add 92 = .ok (.pop, 1) := by decide +kernel
theorem dX8_add_93 : decode cX8_add 93 = .ok (.iload_n 2, 1) := by decide +kernel
theorem dX8_add_94 : decode cX8_add 94 = .ok (.ireturn, 1) := by decide +kernel
theorem dX8_remove_0 : decode cX8_remove 0 = .ok (.aload_n 0, 1) := by decide +kernel
theorem dX8_remove_1 : decode cX8_remove 1 = .ok (.iload_n 1, 1) := by decide +kernel
theorem dX8_remove_2 : decode cX8_remove 2 = .ok (.invokevirtual 111, 3) := by decide +kernel
theorem dX8_remove_5 : decode cX8_remove 5 = .ok (.istore_n 2, 1) := by decide +kernel
theorem dX8_remove_6 : decode cX8_remove 6 = .ok (.aload_n 0, 1) := by decide +kernel
theorem dX8_remove_7 : decode cX8_remove 7 = .ok (.invokevirtual 154, 3) := by decide +kernel
theorem dX8_remove_10 : decode cX8_remove 10 = .ok (.istore_n 3, 1) := by decide +kernel
theorem dX8_remove_11 : decode cX8_remove 11 = .ok (.aload_n 0, 1) := by decide +kernel
theorem dX8_remove_12 : decode cX8_remove 12 = .ok (.dup, 1) := by decide +kernel
theorem dX8_remove_13 : decode cX8_remove 13 = .ok (.getfield 34, 3) := by decide +kernel
theorem dX8_remove_16 : decode cX8_remove 16 = .ok (.iconst 1, 1) := by decide +kernel
theorem dX8_remove_17 : decode cX8_remove 17 = .ok (.isub, 1) := by decide +kernel
theorem dX8_remove_18 : decode cX8_remove 18 = .ok (.putfield 34, 3) := by decide +kernel
theorem dX8_remove_21 : decode cX8_remove 21 = .ok (.iload_n 2, 1) := by decide +kernel
theorem dX8_remove_22 : decode cX8_remove 22 = .ok (.istore 4, 2) := by decide +kernel
theorem dX8_remove_24 : decode cX8_remove 24 = .ok (.iload 4, 2) := by decide +kernel
theorem dX8_remove_26 : decode cX8_remove 26 = .ok (.aload_n 0, 1) := by decide +kernel
theorem dX8_remove_27 : decode cX8_remove 27 = .ok (.getfield 34, 3) := by decide +kernel
theorem dX8_remove_30 : decode cX8_remove 30 = .ok (.if_icmp .ge 73, 3) := by decide +kernel
theorem dX8_remove_33 : decode cX8_remove 33 = .ok (.aload_n 0, 1) := by decide +kernel
theorem dX8_remove_34 : decode cX8_remove 34 = .ok (.getfield 9, 3) := by decide +kernel
theorem dX8_remove_37 : decode cX8_remove 37 = .ok (.iload 4, 2) := by decide +kernel
theorem dX8_remove_39 : decode cX8_remove 39 = .ok (.aload_n 0, 1) := by decide +kernel
theorem dX8_remove_40 : decode cX8_remove 40 = .ok (.getfield 9, 3) := by decide +kernel
theorem dX8_remove_43 : decode cX8_remove 43 = .ok (.iload 4, 2) := by decide +kernel
theorem dX8_remove_45 : decode cX8_remove 45 = .ok (.iconst 1, 1) := by decide +kernel
theorem dX8_remove_46 : decode cX8_remove 46 = .ok (.iadd, 1) := by decide +kernel
theorem dX8_remove_47 : decode cX8_remove 47 = .ok (.iaload, 1) := by decide +kernel
theorem dX8_remove_48 : decode cX8_remove 48 = .ok (.iastore, 1) := by decide +kernel
theorem dX8_remove_49 : decode cX8_remove 49 = .ok (.aload_n 0, 1) := by decide +kernel
theorem dX8_remove_50 : decode cX8_remove 50 = .ok (.getfield 15, 3) := by decide +kernel
theorem dX8_remove_53 : decode cX8_remove 53 = .ok (.iload 4, 2) := by decide +kernel
theorem dX8_remove_55 : decode cX8_remove 55 = .ok (.aload_n 0, 1) := by decide +kernel
theorem dX8_remove_56 : decode cX8_remove 56 = .ok (.getfield 15, 3) := by decide +kernel
theorem dX8_remove_59 : decode cX8_remove 59 = .ok (.iload 4, 2) := by decide +kernel
theorem dX8_remove_61 : decode cX8_remove 61 = .ok (.iconst 1, 1) := by decide +kernel
theorem dX8_remove_62 : decode cX8_remove 62 = .ok (.iadd, 1) := by decide +kernel
theorem dX8_remove_63 : decode cX8_remove 63 = .ok (.iaload, 1) := by decide +kernel
theorem dX8_remove_64 : decode cX8_remove 64 = .ok (.iastore, 1) := by decide +kernel
theorem dX8_remove_65 : decode cX8_remove 65 = .ok (.aload_n 0, 1) := by decide +kernel
theorem dX8_remove_66 : decode cX8_remove 66 = .ok (.getfield 18, 3) := by decide +kernel
theorem dX8_remove_69 : decode cX8_remove 69 = .ok (.iload 4, 2) := by decide +kernel
theorem dX8_remove_71 : decode cX8_remove 71 = .ok (.aload_n 0, 1) := by decide +kernel
theorem dX8_remove_72 : decode cX8_remove 72 = .ok (.getfield 18, 3) := by decide +kernel
theorem dX8_remove_75 : decode cX8_remove 75 = .ok (.iload 4, 2) := by decide +kernel
theorem dX8_remove_77 : decode cX8_remove 77 = .ok (.iconst 1, 1) := by decide +kernel
theorem dX8_remove_78 : decode cX8_remove 78 = .ok (.iadd, 1) := by decide +kernel
theorem dX8_remove_79 : decode cX8_remove 79 = .ok (.iaload, 1) := by decide +kernel
theorem dX8_remove_80 : decode cX8_remove 80 = .ok (.iastore, 1) := by decide +kernel
theorem dX8_remove_81 : decode cX8_remove 81 = .ok (.aload_n 0, 1) := by decide +kernel
theorem dX8_remove_82 : decode cX8_remove 82 = .ok (.getfield 21, 3) := by decide +kernel
theorem dX8_remove_85 : decode cX8_remove 85 = .ok (.iload 4, 2) := by decide +kernel
theorem dX8_remove_87 : decode cX8_remove 87 = .ok (.aload_n 0, 1) := by decide +kernel
theorem dX8_remove_88 : decode cX8_remove 88 = .ok (.getfield 21, 3) := by decide +kernel
theorem dX8_remove_91 : decode cX8_remove 91 = .ok (.iload 4, 2) := by decide +kernel
theorem dX8_remove_93 : decode cX8_remove 93 = .ok (.iconst 1, 1) := by decide +kernel
theorem dX8_remove_94 : decode cX8_remove 94 = .ok (.iadd, 1) := by decide +kernel
theorem dX8_remove_95 : decode cX8_remove 95 = .ok (.iaload, 1) := by decide +kernel
theorem dX8_remove_96 : decode cX8_remove 96 = .ok (.iastore, 1) := by decide +kernel
theorem dX8_remove_97 : decode cX8_remove 97 = .ok (.iinc 4 1, 3) := by decide +kernel
theorem dX8_remove_100 : decode cX8_remove 100 = .ok (.goto (-76), 3) := by decide +kernel
theorem dX8_remove_103 : decode cX8_remove 103 = .ok (.iconst 0, 1) := by decide +kernel
theorem dX8_remove_104 : decode cX8_remove 104 = .ok (.istore 4, 2) := by decide +kernel
theorem dX8_remove_106 : decode cX8_remove 106 = .ok (.iload 4, 2) := by decide +kernel
theorem dX8_remove_108 : decode cX8_remove 108 = .ok (.aload_n 0, 1) := by decide +kernel
theorem dX8_remove_109 : decode cX8_remove 109 = .ok (.getfield 34, 3) := by decide +kernel
theorem dX8_remove_112 : decode cX8_remove 112 = .ok (.if_icmp .ge 27, 3) := by decide +kernel
theorem dX8_remove_115 : decode cX8_remove 115 = .ok (.aload_n 0, 1) := by decide +kernel
theorem dX8_remove_116 : decode cX8_remove 116 = .ok (.getfield 21, 3) := by decide +kernel
theorem dX8_remove_119 : decode cX8_remove 119 = .ok (.iload 4, 2) := by decide +kernel
theorem dX8_remove_121 : decode cX8_remove 121 = .ok (.aload_n 0, 1) := by decide +kernel
theorem dX8_remove_122 : decode cX8_remove 122 = .ok (.getfield 21, 3) := by decide +kernel
theorem dX8_remove_125 : decode cX8_remove 125 = .ok (.iload 4, 2) := by decide +kernel
theorem dX8_remove_127 : decode cX8_remove 127 = .ok (.iaload, 1) := by decide +kernel
theorem dX8_remove_128 : decode cX8_remove 128 = .ok (.iload_n 2, 1) := by decide +kernel
theorem dX8_remove_129 : decode cX8_remove 129 = .ok (.invokestatic 157, 3) := by decide +kernel
theorem dX8_remove_132 : decode cX8_remove 132 = .ok (.iastore, 1) := by decide +kernel
theorem dX8_remove_133 : decode cX8_remove 133 = .ok (.iinc 4 1, 3) := by decide +kernel
theorem dX8_remove_136 : decode cX8_remove 136 = .ok (.goto (-30), 3) := by decide +kernel
theorem dX8_remove_139 : decode cX8_remove 139 = .ok (.aload_n 0, 1) := by decide +kernel
theorem dX8_remove_140 : decode cX8_remove 140 = .ok (.invokevirtual 142, 3) := by decide +kernel
theorem dX8_remove_143 : decode cX8_remove 143 = .ok (.pop, 1) := by decide +kernel
theorem dX8_remove_144 : decode cX8_remove 144 = .ok (.aload_n 0, 1) := by decide +kernel
theorem dX8_remove_145 : decode cX8_remove 145 = .ok (.getfield 30, 3) := by decide +kernel
theorem dX8_remove_148 : decode cX8_remove 148 = .ok (.iload_n 1, 1) := by decide +kernel
theorem dX8_remove_149 : decode cX8_remove 149 = .ok (.invokevirtual 160, 3) := by decide +kernel
theorem dX8_remove_152 : decode cX8_remove 152 = .ok (.iload_n 3, 1) := by decide +kernel
theorem dX8_remove_153 : decode cX8_remove 153 = .ok (.aload_n 0, 1) := by decide +kernel
theorem dX8_remove_154 : decode cX8_remove 154 = .ok (.invokevirtual 154, 3) := by decide +kernel
theorem dX8_remove_157 : decode cX8_remove 157 = .ok (.isub, 1) := by decide +kernel
theorem dX8_remove_158 : decode cX8_remove 158 = .ok (.ireturn, 1) := by decide +kernel
theorem dX8_attack_0 : decode cX8_attack 0 = .ok (.aload_n 0, 1) := by decide +kernel
theorem dX8_attack_1 : decode cX8_attack 1 = .ok (.iload_n 1, 1) := by decide +kernel
theorem dX8_attack_2 : decode cX8_attack 2 = .ok (.invokevirtual 111, 3) := by decide +kernel
theorem dX8_attack_5 : decode cX8_attack 5 = .ok (.istore_n 3, 1) := by decide +kernel
theorem dX8_attack_6 : decode cX8_attack 6 = .ok (.aload_n 0, 1) := by decide +kernel
theorem dX8_attack_7 : decode cX8_attack 7 = .ok (.iload_n 2, 1) := by decide +kernel
theorem dX8_attack_8 : decode cX8_attack 8 = .ok (.invokevirtual 111, 3) := by decide +kernel
theorem dX8_attack_11 : decode cX8_attack 11 = .ok (.istore 4, 2) := by decide +kernel
theorem dX8_attack_13 : decode cX8_attack 13 = .ok (.iload_n 3, 1) := by decide +kernel
theorem dX8_attack_14 : decode cX8_attack 14 = .ok (.iload 4, 2) := by decide +kernel
theorem dX8_attack_16 : decode cX8_attack 16 = .ok (.if_icmp .ne 13, 3) := by decide +kernel
theorem dX8_attack_19 : decode cX8_attack 19 = .ok (.new 163, 3) := by decide +kernel
theorem dX8_attack_22 : decode cX8_attack 22 = .ok (.dup, 1) := by decide +kernel
theorem dX8_attack_23 : decode cX8_attack 23 = .ok (.ldc 165, 2) := by decide +kernel
theorem dX8_attack_25 : decode cX8_attack 25 = .ok (.invokespecial 167, 3) := by decide +kernel
theorem dX8_attack_28 : decode cX8_attack 28 = .ok (.athrow, 1) := by decide +kernel
theorem dX8_attack_29 : decode cX8_attack 29 = .ok (.aload_n 0, 1) := by decide +kernel
theorem dX8_attack_30 : decode cX8_attack 30 = .ok (.getfield 21, 3) := by decide +kernel
theorem dX8_attack_33 : decode cX8_attack 33 = .ok (.iload_n 3, 1) := by decide +kernel
theorem dX8_attack_34 : decode cX8_attack 34 = .ok (.iaload, 1) := by decide +kernel
theorem dX8_attack_35 : decode cX8_attack 35 = .ok (.iload 4, 2) := by decide +kernel
theorem dX8_attack_37 : decode cX8_attack 37 = .ok (.invokestatic 126, 3) := by decide +kernel
theorem dX8_attack_40 : decode cX8_attack 40 = .ok (.ifCond .eq 13, 3) := by decide +kernel
theorem dX8_attack_43 : decode cX8_attack 43 = .ok (.new 149, 3) := by decide +kernel
theorem dX8_attack_46 : decode cX8_attack 46 = .ok (.dup, 1) := by decide +kernel
theorem dX8_attack_47 : decode cX8_attack 47 = .ok (.ldc 168, 2) := by decide +kernel
theorem dX8_attack_49 : decode cX8_attack 49 = .ok (.invokespecial 153, 3) := by decide +kernel
theorem dX8_attack_52 : decode cX8_attack 52 = .ok (.athrow, 1) := by decide +kernel
theorem dX8_attack_53 : decode cX8_attack 53 = .ok (.aload_n 0, 1) := by decide +kernel
theorem dX8_attack_54 : decode cX8_attack 54 = .ok (.invokevirtual 154, 3) := by decide +kernel
theorem dX8_attack_57 : decode cX8_attack 57 = .ok (.bipush 20, 2) := by decide +kernel
theorem dX8_attack_59 : decode cX8_attack 59 = .ok (.if_icmp .lt 13, 3) := by decide +kernel
theorem dX8_attack_62 : decode cX8_attack 62 = .ok (.new 149, 3) := by decide +kernel
theorem dX8_attack_65 : decode cX8_attack 65 = .ok (.dup, 1) := by decide +kernel
theorem dX8_attack_66 : decode cX8_attack 66 = .ok (.ldc 170, 2) := by decide +kernel
theorem dX8_attack_68 : decode cX8_attack 68 = .ok (.invokespecial 153, 3) := by decide +kernel
theorem dX8_attack_71 : decode cX8_attack 71 = .ok (.athrow, 1) := by decide +kernel
theorem dX8_attack_72 : decode cX8_attack 72 = .ok (.aload_n 0, 1) := by decide +kernel
theorem dX8_attack_73 : decode cX8_attack 73 = .ok (.getfield 21, 3) := by decide +kernel
theorem dX8_attack_76 : decode cX8_attack 76 = .ok (.iload_n 3, 1) := by decide +kernel
theorem dX8_attack_77 : decode cX8_attack 77 = .ok (.dup2, 1) := by decide +kernel
theorem dX8_attack_78 : decode cX8_attack 78 = .ok (.iaload, 1) := by decide +kernel
theorem dX8_attack_79 : decode cX8_attack 79 = .ok (.iconst 1, 1) := by decide +kernel
theorem dX8_attack_80 : decode cX8_attack 80 = .ok (.iload 4, 2) := by decide +kernel
theorem dX8_attack_82 : decode cX8_attack 82 = .ok (.ishl, 1) := by decide +kernel
theorem dX8_attack_83 : decode cX8_attack 83 = .ok (.ior, 1) := by decide +kernel
theorem dX8_attack_84 : decode cX8_attack 84 = .ok (.iastore, 1) := by decide +kernel
theorem dX8_attack_85 : decode cX8_attack 85 = .ok (.aload_n 0, 1) := by decide +kernel
theorem dX8_attack_86 : decode cX8_attack 86 = .ok (.invokevirtual 142, 3) := by decide +kernel
theorem dX8_attack_89 : decode cX8_attack 89 = .ok (.pop, 1) := by decide +kernel
theorem dX8_attack_90 : decode cX8_attack 90 = .ok (.aload_n 0, 1) := by decide +kernel
theorem dX8_attack_91 : decode cX8_attack 91 = .ok (.invokevirtual 154, 3) := by decide +kernel
theorem dX8_attack_94 : decode cX8_attack 94 = .ok (.ireturn, 1) := by decide +kernel
theorem dX8_yieldAttack_0 : decode cX8_yieldAttack 0 = .ok (.aload_n 0, 1) := by decide +kernel
theorem dX8_yieldAttack_1 : decode cX8_yieldAttack 1 = .ok (.iload_n 1, 1) := by decide +kernel
theorem dX8_yieldAttack_2 : decode cX8_yieldAttack 2 = .ok (.invokevirtual 111, 3) := by decide +kernel
theorem dX8_yieldAttack_5 : decode cX8_yieldAttack 5 = .ok (.istore_n 3, 1) := by decide +kernel
theorem dX8_yieldAttack_6 : decode cX8_yieldAttack 6 = .ok (.aload_n 0, 1) := by decide +kernel
theorem dX8_yieldAttack_7 : decode cX8_yieldAttack 7 = .ok (.iload_n 2, 1) := by decide +kernel
theorem dX8_yieldAttack_8 : decode cX8_yieldAttack 8 = .ok (.invokevirtual 111, 3) := by decide +kernel
theorem dX8_yieldAttack_11 : decode cX8_yieldAttack 11 = .ok (.istore 4, 2) := by decide +kernel
theorem dX8_yieldAttack_13 : decode cX8_yieldAttack 13 = .ok (.aload_n 0, 1) := by decide +kernel
theorem dX8_yieldAttack_14 : decode cX8_yieldAttack 14 = .ok (.getfield 21, 3) := by decide +kernel
theorem dX8_yieldAttack_17 : decode cX8_yieldAttack 17 = .ok (.iload_n 3, 1) := by decide +kernel
theorem dX8_yieldAttack_18 : decode cX8_yieldAttack 18 = .ok (.iaload, 1) := by decide +kernel
theorem dX8_yieldAttack_19 : decode cX8_yieldAttack 19 = .ok (.iload 4, 2) := by decide +kernel
theorem dX8_yieldAttack_21 : decode cX8_yieldAttack 21 = .ok (.invokestatic 126, 3) := by decide +kernel
theorem dX8_yieldAttack_24 : decode cX8_yieldAttack 24 = .ok (.ifCond .ne 13, 3) := by decide +kernel
theorem dX8_yieldAttack_27 : decode cX8_yieldAttack 27 = .ok (.new 101, 3) := by decide +kernel
theorem dX8_yieldAttack_30 : decode cX8_yieldAttack 30 = .ok (.dup, 1) := by decide +kernel
theorem dX8_yieldAttack_31 : decode cX8_yieldAttack 31 = .ok (.ldc 172, 2) := by decide +kernel
theorem dX8_yieldAttack_33 : decode cX8_yieldAttack 33 = .ok (.invokespecial 105, 3) := by decide +kernel
theorem dX8_yieldAttack_36 : decode cX8_yieldAttack 36 = .ok (.athrow, 1) := by decide +kernel
theorem dX8_yieldAttack_37 : decode cX8_yieldAttack 37 = .ok (.aload_n 0, 1) := by decide +kernel
theorem dX8_yieldAttack_38 : decode cX8_yieldAttack 38 = .ok (.getfield 21, 3) := by decide +kernel
theorem dX8_yieldAttack_41 : decode cX8_yieldAttack 41 = .ok (.iload_n 3, 1) := by decide +kernel
theorem dX8_yieldAttack_42 : decode cX8_yieldAttack 42 = .ok (.dup2, 1) := by decide +kernel
theorem dX8_yieldAttack_43 : decode cX8_yieldAttack 43 = .ok (.iaload, 1) := by decide +kernel
theorem dX8_yieldAttack_44 : decode cX8_yieldAttack 44 = .ok (.iconst 1, 1) := by decide +kernel
theorem dX8_yieldAttack_45 : decode cX8_yieldAttack 45 = .ok (.iload 4, 2) := by decide +kernel
theorem dX8_yieldAttack_47 : decode cX8_yieldAttack 47 = .ok (.ishl, 1) := by decide +kernel
theorem dX8_yieldAttack_48 : decode cX8_yieldAttack 48 = .ok (.iconst (-1), 1) := by decide +kernel
theorem dX8_yieldAttack_49 : decode cX8_yieldAttack 49 = .ok (.ixor, 1) := by decide +kernel
theorem dX8_yieldAttack_50 : decode cX8_yieldAttack 50 = .ok (.iand, 1) := by decide +kernel
theorem dX8_yieldAttack_51 : decode cX8_yieldAttack 51 = .ok (.iastore, 1) := by decide +kernel
theorem dX8_yieldAttack_52 : decode cX8_yieldAttack 52 = .ok (.aload_n 0, 1) := by decide +kernel
theorem dX8_yieldAttack_53 : decode cX8_yieldAttack 53 = .ok (.invokevirtual 142, 3) := by decide +kernel
theorem dX8_yieldAttack_56 : decode cX8_yieldAttack 56 = .ok (.pop, 1) := by decide +kernel
theorem dX8_yieldAttack_57 : decode cX8_yieldAttack 57 = .ok (.aload_n 0, 1) := by decide +kernel
theorem dX8_yieldAttack_58 : decode cX8_yieldAttack 58 = .ok (.invokevirtual 154, 3) := by decide +kernel
theorem dX8_yieldAttack_61 : decode cX8_yieldAttack 61 = .ok (.ireturn, 1) := by decide +kernel
theorem dX8_weigh_0 : decode cX8_weigh 0 = .ok (.aload_n 0, 1) := by decide +kernel
theorem dX8_weigh_1 : decode cX8_weigh 1 = .ok (.iload_n 1, 1) := by decide +kernel
theorem dX8_weigh_2 : decode cX8_weigh 2 = .ok (.invokevirtual 111, 3) := by decide +kernel
theorem dX8_weigh_5 : decode cX8_weigh 5 = .ok (.istore_n 3, 1) := by decide +kernel
theorem dX8_weigh_6 : decode cX8_weigh 6 = .ok (.iload_n 2, 1) := by decide +kernel
theorem dX8_weigh_7 : decode cX8_weigh 7 = .ok (.invokestatic 145, 3) := by decide +kernel
theorem dX8_weigh_10 : decode cX8_weigh 10 = .ok (.aload_n 0, 1) := by decide +kernel
theorem dX8_weigh_11 : decode cX8_weigh 11 = .ok (.getfield 15, 3) := by decide +kernel
theorem dX8_weigh_14 : decode cX8_weigh 14 = .ok (.iload_n 3, 1) := by decide +kernel
theorem dX8_weigh_15 : decode cX8_weigh 15 = .ok (.iaload, 1) := by decide +kernel
theorem dX8_weigh_16 : decode cX8_weigh 16 = .ok (.istore 4, 2) := by decide +kernel
theorem dX8_weigh_18 : decode cX8_weigh 18 = .ok (.aload_n 0, 1) := by decide +kernel
theorem dX8_weigh_19 : decode cX8_weigh 19 = .ok (.getfield 15, 3) := by decide +kernel
theorem dX8_weigh_22 : decode cX8_weigh 22 = .ok (.iload_n 3, 1) := by decide +kernel
theorem dX8_weigh_23 : decode cX8_weigh 23 = .ok (.iload_n 2, 1) := by decide +kernel
theorem dX8_weigh_24 : decode cX8_weigh 24 = .ok (.iastore, 1) := by decide +kernel
theorem dX8_weigh_25 : decode cX8_weigh 25 = .ok (.aload_n 0, 1) := by decide +kernel
theorem dX8_weigh_26 : decode cX8_weigh 26 = .ok (.invokevirtual 142, 3) := by decide +kernel
theorem dX8_weigh_29 : decode cX8_weigh 29 = .ok (.pop, 1) := by decide +kernel
theorem dX8_weigh_30 : decode cX8_weigh 30 = .ok (.iload 4, 2) := by decide +kernel
theorem dX8_weigh_32 : decode cX8_weigh 32 = .ok (.ireturn, 1) := by decide +kernel
theorem dX8_makeNew_0 : decode cX8_makeNew 0 = .ok (.aload_n 0, 1) := by decide +kernel
theorem dX8_makeNew_1 : decode cX8_makeNew 1 = .ok (.iload_n 1, 1) := by decide +kernel
theorem dX8_makeNew_2 : decode cX8_makeNew 2 = .ok (.invokevirtual 111, 3) := by decide +kernel
theorem dX8_makeNew_5 : decode cX8_makeNew 5 = .ok (.istore_n 2, 1) := by decide +kernel
theorem dX8_makeNew_6 : decode cX8_makeNew 6 = .ok (.aload_n 0, 1) := by decide +kernel
theorem dX8_makeNew_7 : decode cX8_makeNew 7 = .ok (.getfield 18, 3) := by decide +kernel
theorem dX8_makeNew_10 : decode cX8_makeNew 10 = .ok (.iload_n 2, 1) := by decide +kernel
theorem dX8_makeNew_11 : decode cX8_makeNew 11 = .ok (.iaload, 1) := by decide +kernel
theorem dX8_makeNew_12 : decode cX8_makeNew 12 = .ok (.istore_n 3, 1) := by decide +kernel
theorem dX8_makeNew_13 : decode cX8_makeNew 13 = .ok (.aload_n 0, 1) := by decide +kernel
theorem dX8_makeNew_14 : decode cX8_makeNew 14 = .ok (.getfield 18, 3) := by decide +kernel
theorem dX8_makeNew_17 : decode cX8_makeNew 17 = .ok (.iload_n 2, 1) := by decide +kernel
theorem dX8_makeNew_18 : decode cX8_makeNew 18 = .ok (.iconst 0, 1) := by decide +kernel
theorem dX8_makeNew_19 : decode cX8_makeNew 19 = .ok (.iastore, 1) := by decide +kernel
theorem dX8_makeNew_20 : decode cX8_makeNew 20 = .ok (.aload_n 0, 1) := by decide +kernel
theorem dX8_makeNew_21 : decode cX8_makeNew 21 = .ok (.invokevirtual 142, 3) := by decide +kernel
theorem dX8_makeNew_24 : decode cX8_makeNew 24 = .ok (.pop, 1) := by decide +kernel
theorem dX8_makeNew_25 : decode cX8_makeNew 25 = .ok (.iload_n 3, 1) := by decide +kernel
theorem dX8_makeNew_26 : decode cX8_makeNew 26 = .ok (.ireturn, 1) := by decide +kernel
theorem dX8_claim_0 : decode cX8_claim 0 = .ok (.aload_n 0, 1) := by decide +kernel
theorem dX8_claim_1 : decode cX8_claim 1 = .ok (.iload_n 1, 1) := by decide +kernel
theorem dX8_claim_2 : decode cX8_claim 2 = .ok (.invokevirtual 111, 3) := by decide +kernel
theorem dX8_claim_5 : decode cX8_claim 5 = .ok (.istore_n 2, 1) := by decide +kernel
theorem dX8_claim_6 : decode cX8_claim 6 = .ok (.aload_n 0, 1) := by decide +kernel
theorem dX8_claim_7 : decode cX8_claim 7 = .ok (.getfield 30, 3) := by decide +kernel
theorem dX8_claim_10 : decode cX8_claim 10 = .ok (.invokevirtual 174, 3) := by decide +kernel
theorem dX8_claim_13 : decode cX8_claim 13 = .ok (.ifCond .eq 13, 3) := by decide +kernel
theorem dX8_claim_16 : decode cX8_claim 16 = .ok (.new 149, 3) := by decide +kernel
theorem dX8_claim_19 : decode cX8_claim 19 = .ok (.dup, 1) := by decide +kernel
theorem dX8_claim_20 : decode cX8_claim 20 = .ok (.ldc 178, 2) := by decide +kernel
theorem dX8_claim_22 : decode cX8_claim 22 = .ok (.invokespecial 153, 3) := by decide +kernel
theorem dX8_claim_25 : decode cX8_claim 25 = .ok (.athrow, 1) := by decide +kernel
theorem dX8_claim_26 : decode cX8_claim 26 = .ok (.aload_n 0, 1) := by decide +kernel
theorem dX8_claim_27 : decode cX8_claim 27 = .ok (.getfield 30, 3) := by decide +kernel
theorem dX8_claim_30 : decode cX8_claim 30 = .ok (.iload_n 1, 1) := by decide +kernel
theorem dX8_claim_31 : decode cX8_claim 31 = .ok (.invokevirtual 180, 3) := by decide +kernel
theorem dX8_claim_34 : decode cX8_claim 34 = .ok (.aload_n 0, 1) := by decide +kernel
theorem dX8_claim_35 : decode cX8_claim 35 = .ok (.getfield 24, 3) := by decide +kernel
theorem dX8_claim_38 : decode cX8_claim 38 = .ok (.iload_n 2, 1) := by decide +kernel
theorem dX8_claim_39 : decode cX8_claim 39 = .ok (.iaload, 1) := by decide +kernel
theorem dX8_claim_40 : decode cX8_claim 40 = .ok (.invokestatic 114, 3) := by decide +kernel
theorem dX8_claim_43 : decode cX8_claim 43 = .ok (.ireturn, 1) := by decide +kernel
theorem dX8_reply_0 : decode cX8_reply 0 = .ok (.aload_n 0, 1) := by decide +kernel
theorem dX8_reply_1 : decode cX8_reply 1 = .ok (.iload_n 1, 1) := by decide +kernel
theorem dX8_reply_2 : decode cX8_reply 2 = .ok (.invokevirtual 182, 3) := by decide +kernel
theorem dX8_reply_5 : decode cX8_reply 5 = .ok (.istore_n 2, 1) := by decide +kernel
theorem dX8_reply_6 : decode cX8_reply 6 = .ok (.aload_n 0, 1) := by decide +kernel
theorem dX8_reply_7 : decode cX8_reply 7 = .ok (.iload_n 2, 1) := by decide +kernel
theorem dX8_reply_8 : decode cX8_reply 8 = .ok (.invokevirtual 185, 3) := by decide +kernel
theorem dX8_reply_11 : decode cX8_reply 11 = .ok (.ifCond .ne 13, 3) := by decide +kernel
theorem dX8_reply_14 : decode cX8_reply 14 = .ok (.new 163, 3) := by decide +kernel
theorem dX8_reply_17 : decode cX8_reply 17 = .ok (.dup, 1) := by decide +kernel
theorem dX8_reply_18 : decode cX8_reply 18 = .ok (.ldc 188, 2) := by decide +kernel
theorem dX8_reply_20 : decode cX8_reply 20 = .ok (.invokespecial 167, 3) := by decide +kernel
theorem dX8_reply_23 : decode cX8_reply 23 = .ok (.athrow, 1) := by decide +kernel
theorem dX8_reply_24 : decode cX8_reply 24 = .ok (.aload_n 0, 1) := by decide +kernel
theorem dX8_reply_25 : decode cX8_reply 25 = .ok (.getfield 30, 3) := by decide +kernel
theorem dX8_reply_28 : decode cX8_reply 28 = .ok (.invokevirtual 190, 3) := by decide +kernel
theorem dX8_reply_31 : decode cX8_reply 31 = .ok (.ifCond .eq 13, 3) := by decide +kernel
theorem dX8_reply_34 : decode cX8_reply 34 = .ok (.new 149, 3) := by decide +kernel
theorem dX8_reply_37 : decode cX8_reply 37 = .ok (.dup, 1) := by decide +kernel
theorem dX8_reply_38 : decode cX8_reply 38 = .ok (.ldc 193, 2) := by decide +kernel
theorem dX8_reply_40 : decode cX8_reply 40 = .ok (.invokespecial 153, 3) := by decide +kernel
theorem dX8_reply_43 : decode cX8_reply 43 = .ok (.athrow, 1) := by decide +kernel
theorem dX8_reply_44 : decode cX8_reply 44 = .ok (.aload_n 0, 1) := by decide +kernel
theorem dX8_reply_45 : decode cX8_reply 45 = .ok (.getfield 30, 3) := by decide +kernel
theorem dX8_reply_48 : decode cX8_reply 48 = .ok (.iload_n 1, 1) := by decide +kernel
theorem dX8_reply_49 : decode cX8_reply 49 = .ok (.invokevirtual 180, 3) := by decide +kernel
theorem dX8_reply_52 : decode cX8_reply 52 = .ok (.aload_n 0, 1) := by decide +kernel
theorem dX8_reply_53 : decode cX8_reply 53 = .ok (.getfield 30, 3) := by decide +kernel
theorem dX8_reply_56 : decode cX8_reply 56 = .ok (.getfield 129, 3) := by decide +kernel
theorem dX8_reply_59 : decode cX8_reply 59 = .ok (.ireturn, 1) := by decide +kernel
theorem dX8_letPass_0 : decode cX8_letPass 0 = .ok (.iload_n 1, 1) := by decide +kernel
theorem dX8_letPass_1 : decode cX8_letPass 1 = .ok (.iconst 1, 1) := by decide +kernel
theorem dX8_letPass_2 : decode cX8_letPass 2 = .ok (.if_icmp .lt 9, 3) := by decide +kernel
theorem dX8_letPass_5 : decode cX8_letPass 5 = .ok (.iload_n 1, 1) := by decide +kernel
theorem dX8_letPass_6 : decode cX8_letPass 6 = .ok (.bipush 90, 2) := by decide +kernel
theorem dX8_letPass_8 : decode cX8_letPass 8 = .ok (.if_icmp .le 13, 3) := by decide +kernel
theorem dX8_letPass_11 : decode cX8_letPass 11 = .ok (.new 163, 3) := by decide +kernel
theorem dX8_letPass_14 : decode cX8_letPass 14 = .ok (.dup, 1) := by decide +kernel
theorem dX8_letPass_15 : decode cX8_letPass 15 = .ok (.ldc 195, 2) := by decide +kernel
theorem dX8_letPass_17 : decode cX8_letPass 17 = .ok (.invokespecial 167, 3) := by decide +kernel
theorem dX8_letPass_20 : decode cX8_letPass 20 = .ok (.athrow, 1) := by decide +kernel
theorem dX8_letPass_21 : decode cX8_letPass 21 = .ok (.aload_n 0, 1) := by decide +kernel
theorem dX8_letPass_22 : decode cX8_letPass 22 = .ok (.iload_n 1, 1) := by decide +kernel
theorem dX8_letPass_23 : decode cX8_letPass 23 = .ok (.invokevirtual 197, 3) := by decide +kernel
theorem dX8_letPass_26 : decode cX8_letPass 26 = .ok (.ireturn, 1) := by decide +kernel
theorem dX8_mustBeWeight_0 : decode cX8_mustBeWeight 0 = .ok (.iload_n 0, 1) := by decide +kernel
theorem dX8_mustBeWeight_1 : decode cX8_mustBeWeight 1 = .ok (.iconst 1, 1) := by decide +kernel
theorem dX8_mustBeWeight_2 : decode cX8_mustBeWeight 2 = .ok (.if_icmp .lt 9, 3) := by decide +kernel
theorem dX8_mustBeWeight_5 : decode cX8_mustBeWeight 5 = .ok (.iload_n 0, 1) := by decide +kernel
theorem dX8_mustBeWeight_6 : decode cX8_mustBeWeight 6 = .ok (.bipush 9, 2) := by decide +kernel
theorem dX8_mustBeWeight_8 : decode cX8_mustBeWeight 8 = .ok (.if_icmp .le 13, 3) := by decide +kernel
theorem dX8_mustBeWeight_11 : decode cX8_mustBeWeight 11 = .ok (.new 163, 3) := by decide +kernel
theorem dX8_mustBeWeight_14 : decode cX8_mustBeWeight 14 = .ok (.dup, 1) := by decide +kernel
theorem dX8_mustBeWeight_15 : decode cX8_mustBeWeight 15 = .ok (.ldc 200, 2) := by decide +kernel
theorem dX8_mustBeWeight_17 : decode cX8_mustBeWeight 17 = .ok (.invokespecial 167, 3) := by decide +kernel
theorem dX8_mustBeWeight_20 : decode cX8_mustBeWeight 20 = .ok (.athrow, 1) := by decide +kernel
theorem dX8_mustBeWeight_21 : decode cX8_mustBeWeight 21 = .ok (.return_, 1) := by decide +kernel
theorem dX8_withoutSlot_0 : decode cX8_withoutSlot 0 = .ok (.iconst 1, 1) := by decide +kernel
theorem dX8_withoutSlot_1 : decode cX8_withoutSlot 1 = .ok (.iload_n 1, 1) := by decide +kernel
theorem dX8_withoutSlot_2 : decode cX8_withoutSlot 2 = .ok (.ishl, 1) := by decide +kernel
theorem dX8_withoutSlot_3 : decode cX8_withoutSlot 3 = .ok (.iconst 1, 1) := by decide +kernel
theorem dX8_withoutSlot_4 : decode cX8_withoutSlot 4 = .ok (.isub, 1) := by decide +kernel
theorem dX8_withoutSlot_5 : decode cX8_withoutSlot 5 = .ok (.istore_n 2, 1) := by decide +kernel
theorem dX8_withoutSlot_6 : decode cX8_withoutSlot 6 = .ok (.iload_n 0, 1) := by decide +kernel
theorem dX8_withoutSlot_7 : decode cX8_withoutSlot 7 = .ok (.iload_n 2, 1) := by decide +kernel
theorem dX8_withoutSlot_8 : decode cX8_withoutSlot 8 = .ok (.iand, 1) := by decide +kernel
theorem dX8_withoutSlot_9 : decode cX8_withoutSlot 9 = .ok (.iload_n 0, 1) := by decide +kernel
theorem dX8_withoutSlot_10 : decode cX8_withoutSlot 10 = .ok (.iconst 1, 1) := by decide +kernel
theorem dX8_withoutSlot_11 : decode cX8_withoutSlot 11 = .ok (.ishr, 1) := by decide +kernel
theorem dX8_withoutSlot_12 : decode cX8_withoutSlot 12 = .ok (.iload_n 2, 1) := by decide +kernel
theorem dX8_withoutSlot_13 : decode cX8_withoutSlot 13 = .ok (.iconst (-1), 1) := by decide +kernel
theorem dX8_withoutSlot_14 : decode cX8_withoutSlot 14 = .ok (.ixor, 1) := by decide +kernel
theorem dX8_withoutSlot_15 : decode cX8_withoutSlot 15 = .ok (.iand, 1) := by decide +kernel
theorem dX8_withoutSlot_16 : decode cX8_withoutSlot 16 = .ok (.ior, 1) := by decide +kernel
theorem dX8_withoutSlot_17 : decode cX8_withoutSlot 17 = .ok (.ireturn, 1) := by decide +kernel
theorem dX8_isBefore_0 : decode cX8_isBefore 0 = .ok (.aload_n 0, 1) := by decide +kernel
theorem dX8_isBefore_1 : decode cX8_isBefore 1 = .ok (.iload_n 1, 1) := by decide +kernel
theorem dX8_isBefore_2 : decode cX8_isBefore 2 = .ok (.invokevirtual 202, 3) := by decide +kernel
theorem dX8_isBefore_5 : decode cX8_isBefore 5 = .ok (.aload_n 0, 1) := by decide +kernel
theorem dX8_isBefore_6 : decode cX8_isBefore 6 = .ok (.iload_n 2, 1) := by decide +kernel
theorem dX8_isBefore_7 : decode cX8_isBefore 7 = .ok (.invokevirtual 202, 3) := by decide +kernel
theorem dX8_isBefore_10 : decode cX8_isBefore 10 = .ok (.if_icmp .eq 22, 3) := by decide +kernel
theorem dX8_isBefore_13 : decode cX8_isBefore 13 = .ok (.aload_n 0, 1) := by decide +kernel
theorem dX8_isBefore_14 : decode cX8_isBefore 14 = .ok (.iload_n 1, 1) := by decide +kernel
theorem dX8_isBefore_15 : decode cX8_isBefore 15 = .ok (.invokevirtual 202, 3) := by decide +kernel
theorem dX8_isBefore_18 : decode cX8_isBefore 18 = .ok (.aload_n 0, 1) := by decide +kernel
theorem dX8_isBefore_19 : decode cX8_isBefore 19 = .ok (.iload_n 2, 1) := by decide +kernel
theorem dX8_isBefore_20 : decode cX8_isBefore 20 = .ok (.invokevirtual 202, 3) := by decide +kernel
theorem dX8_isBefore_23 : decode cX8_isBefore 23 = .ok (.if_icmp .le 7, 3) := by decide +kernel
theorem dX8_isBefore_26 : decode cX8_isBefore 26 = .ok (.iconst 1, 1) := by decide +kernel
theorem dX8_isBefore_27 : decode cX8_isBefore 27 = .ok (.goto 4, 3) := by decide +kernel
theorem dX8_isBefore_30 : decode cX8_isBefore 30 = .ok (.iconst 0, 1) := by decide +kernel
theorem dX8_isBefore_31 : decode cX8_isBefore 31 = .ok (.ireturn, 1) := by decide +kernel
theorem dX8_isBefore_32 : decode cX8_isBefore 32 = .ok (.aload_n 0, 1) := by decide +kernel
theorem dX8_isBefore_33 : decode cX8_isBefore 33 = .ok (.getfield 24, 3) := by decide +kernel
theorem dX8_isBefore_36 : decode cX8_isBefore 36 = .ok (.iload_n 1, 1) := by decide +kernel
theorem dX8_isBefore_37 : decode cX8_isBefore 37 = .ok (.iaload, 1) := by decide +kernel
theorem dX8_isBefore_38 : decode cX8_isBefore 38 = .ok (.invokestatic 114, 3) := by decide +kernel
theorem dX8_isBefore_41 : decode cX8_isBefore 41 = .ok (.istore_n 3, 1) := by decide +kernel
theorem dX8_isBefore_42 : decode cX8_isBefore 42 = .ok (.aload_n 0, 1) := by decide +kernel
theorem dX8_isBefore_43 : decode cX8_isBefore 43 = .ok (.getfield 24, 3) := by decide +kernel
theorem dX8_isBefore_46 : decode cX8_isBefore 46 = .ok (.iload_n 2, 1) := by decide +kernel
theorem dX8_isBefore_47 : decode cX8_isBefore 47 = .ok (.iaload, 1) := by decide +kernel
theorem dX8_isBefore_48 : decode cX8_isBefore 48 = .ok (.invokestatic 114, 3) := by decide +kernel
theorem dX8_isBefore_51 : decode cX8_isBefore 51 = .ok (.istore 4, 2) := by decide +kernel
theorem dX8_isBefore_53 : decode cX8_isBefore 53 = .ok (.iload_n 3, 1) := by decide +kernel
theorem dX8_isBefore_54 : decode cX8_isBefore 54 = .ok (.iload 4, 2) := by decide +kernel
theorem dX8_isBefore_56 : decode cX8_isBefore 56 = .ok (.if_icmp .eq 15, 3) := by decide +kernel
theorem dX8_isBefore_59 : decode cX8_isBefore 59 = .ok (.iload_n 3, 1) := by decide +kernel
theorem dX8_isBefore_60 : decode cX8_isBefore 60 = .ok (.iload 4, 2) := by decide +kernel
theorem dX8_isBefore_62 : decode cX8_isBefore 62 = .ok (.if_icmp .ge 7, 3) := by decide +kernel
theorem dX8_isBefore_65 : decode cX8_isBefore 65 = .ok (.iconst 1, 1) := by decide +kernel
theorem dX8_isBefore_66 : decode cX8_isBefore 66 = .ok (.goto 4, 3) := by decide +kernel
theorem dX8_isBefore_69 : decode cX8_isBefore 69 = .ok (.iconst 0, 1) := by decide +kernel
theorem dX8_isBefore_70 : decode cX8_isBefore 70 = .ok (.ireturn, 1) := by decide +kernel
theorem dX8_isBefore_71 : decode cX8_isBefore 71 = .ok (.iload_n 1, 1) := by decide +kernel
theorem dX8_isBefore_72 : decode cX8_isBefore 72 = .ok (.iload_n 2, 1) := by decide +kernel
theorem dX8_isBefore_73 : decode cX8_isBefore 73 = .ok (.if_icmp .ge 7, 3) := by decide +kernel
theorem dX8_isBefore_76 : decode cX8_isBefore 76 = .ok (.iconst 1, 1) := by decide +kernel
theorem dX8_isBefore_77 : decode cX8_isBefore 77 = .ok (.goto 4, 3) := by decide +kernel
theorem dX8_isBefore_80 : decode cX8_isBefore 80 = .ok (.iconst 0, 1) := by decide +kernel
theorem dX8_isBefore_81 : decode cX8_isBefore 81 = .ok (.ireturn, 1) := by decide +kernel
theorem dX8_findAttackers_0 : decode cX8_findAttackers 0 = .ok (.iconst 0, 1) := by decide +kernel
theorem dX8_findAttackers_1 : decode cX8_findAttackers 1 = .ok (.istore_n 1, 1) := by decide +kernel
theorem dX8_findAttackers_2 : decode cX8_findAttackers 2 = .ok (.iconst 0, 1) := by decide +kernel
theorem dX8_findAttackers_3 : decode cX8_findAttackers 3 = .ok (.istore_n 2, 1) := by decide +kernel
theorem dX8_findAttackers_4 : decode cX8_findAttackers 4 = .ok (.iload_n 2, 1) := by decide +kernel
theorem dX8_findAttackers_5 : decode cX8_findAttackers 5 = .ok (.aload_n 0, 1) := by decide +kernel
theorem dX8_findAttackers_6 : decode cX8_findAttackers 6 = .ok (.getfield 34, 3) := by decide +kernel
theorem dX8_findAttackers_9 : decode cX8_findAttackers 9 = .ok (.if_icmp .ge 85, 3) := by decide +kernel
theorem dX8_findAttackers_12 : decode cX8_findAttackers 12 = .ok (.iconst 0, 1) := by decide +kernel
theorem dX8_findAttackers_13 : decode cX8_findAttackers 13 = .ok (.istore_n 3, 1) := by decide +kernel
theorem dX8_findAttackers_14 : decode cX8_findAttackers 14 = .ok (.iconst 0, 1) := by decide +kernel
theorem dX8_findAttackers_15 : decode cX8_findAttackers 15 = .ok (.istore 4, 2) := by decide +kernel
theorem dX8_findAttackers_17 : decode cX8_findAttackers 17 = .ok (.iload 4, 2) := by decide +kernel
theorem dX8_findAttackers_19 : decode cX8_findAttackers 19 = .ok (.aload_n 0, 1) := by decide +kernel
theorem dX8_findAttackers_20 : decode cX8_findAttackers 20 = .ok (.getfield 34, 3) := by decide +kernel
theorem dX8_findAttackers_23 : decode cX8_findAttackers 23 = .ok (.if_icmp .ge 44, 3) := by decide +kernel
theorem dX8_findAttackers_26 : decode cX8_findAttackers 26 = .ok (.aload_n 0, 1) := by decide +kernel
theorem dX8_findAttackers_27 : decode cX8_findAttackers 27 = .ok (.getfield 21, 3) := by decide +kernel
theorem dX8_findAttackers_30 : decode cX8_findAttackers 30 = .ok (.iload 4, 2) := by decide +kernel
theorem dX8_findAttackers_32 : decode cX8_findAttackers 32 = .ok (.iaload, 1) := by decide +kernel
theorem dX8_findAttackers_33 : decode cX8_findAttackers 33 = .ok (.iload_n 2, 1) := by decide +kernel
theorem dX8_findAttackers_34 : decode cX8_findAttackers 34 = .ok (.invokestatic 126, 3) := by decide +kernel
theorem dX8_findAttackers_37 : decode cX8_findAttackers 37 = .ok (.ifCond .eq 24, 3) := by decide +kernel
theorem dX8_findAttackers_40 : decode cX8_findAttackers 40 = .ok (.aload_n 0, 1) := by decide +kernel
theorem dX8_findAttackers_41 : decode cX8_findAttackers 41 = .ok (.iload 4, 2) := by decide +kernel
theorem dX8_findAttackers_43 : decode cX8_findAttackers 43 = .ok (.invokevirtual 202, 3) := by decide +kernel
theorem dX8_findAttackers_46 : decode cX8_findAttackers 46 = .ok (.aload_n 0, 1) := by decide +kernel
theorem dX8_findAttackers_47 : decode cX8_findAttackers 47 = .ok (.iload_n 2, 1) := by decide +kernel
theorem dX8_findAttackers_48 : decode cX8_findAttackers 48 = .ok (.invokevirtual 202, 3) := by decide +kernel
theorem dX8_findAttackers_51 : decode cX8_findAttackers 51 = .ok (.if_icmp .lt 10, 3) := by decide +kernel
theorem dX8_findAttackers_54 : decode cX8_findAttackers 54 = .ok (.iload_n 3, 1) := by decide +kernel
theorem dX8_findAttackers_55 : decode cX8_findAttackers 55 = .ok (.iconst 1, 1) := by decide +kernel
theorem dX8_findAttackers_56 : decode cX8_findAttackers 56 = .ok (.iload 4, 2) := by decide +kernel
theorem dX8_findAttackers_58 : decode cX8_findAttackers 58 = .ok (.ishl, 1) := by decide +kernel
theorem dX8_findAttackers_59 : decode cX8_findAttackers 59 = .ok (.ior, 1) := by decide +kernel
theorem dX8_findAttackers_60 : decode cX8_findAttackers 60 = .ok (.istore_n 3, 1) := by decide +kernel
theorem dX8_findAttackers_61 : decode cX8_findAttackers 61 = .ok (.iinc 4 1, 3) := by decide +kernel
theorem dX8_findAttackers_64 : decode cX8_findAttackers 64 = .ok (.goto (-47), 3) := by decide +kernel
theorem dX8_findAttackers_67 : decode cX8_findAttackers 67 = .ok (.iload_n 1, 1) := by decide +kernel
theorem dX8_findAttackers_68 : decode cX8_findAttackers 68 = .ok (.iload_n 3, 1) := by decide +kernel
theorem dX8_findAttackers_69 : decode cX8_findAttackers 69 = .ok (.aload_n 0, 1) := by decide +kernel
theorem dX8_findAttackers_70 : decode cX8_findAttackers 70 = .ok (.getfield 24, 3) := by decide +kernel
theorem dX8_findAttackers_73 : decode cX8_findAttackers 73 = .ok (.iload_n 2, 1) := by decide +kernel
theorem dX8_findAttackers_74 : decode cX8_findAttackers 74 = .ok (.iaload, 1) := by decide +kernel
theorem dX8_findAttackers_75 : decode cX8_findAttackers 75 = .ok (.ixor, 1) := by decide +kernel
theorem dX8_findAttackers_76 : decode cX8_findAttackers 76 = .ok (.invokestatic 114, 3) := by decide +kernel
theorem dX8_findAttackers_79 : decode cX8_findAttackers 79 = .ok (.iadd, 1) := by decide +kernel
theorem dX8_findAttackers_80 : decode cX8_findAttackers 80 = .ok (.istore_n 1, 1) := by decide +kernel
theorem dX8_findAttackers_81 : decode cX8_findAttackers 81 = .ok (.aload_n 0, 1) := by decide +kernel
theorem dX8_findAttackers_82 : decode cX8_findAttackers 82 = .ok (.getfield 24, 3) := by decide +kernel
theorem dX8_findAttackers_85 : decode cX8_findAttackers 85 = .ok (.iload_n 2, 1) := by decide +kernel
theorem dX8_findAttackers_86 : decode cX8_findAttackers 86 = .ok (.iload_n 3, 1) := by decide +kernel
theorem dX8_findAttackers_87 : decode cX8_findAttackers 87 = .ok (.iastore, 1) := by decide +kernel
theorem dX8_findAttackers_88 : decode cX8_findAttackers 88 = .ok (.iinc 2 1, 3) := by decide +kernel
theorem dX8_findAttackers_91 : decode cX8_findAttackers 91 = .ok (.goto (-87), 3) := by decide +kernel
theorem dX8_findAttackers_94 : decode cX8_findAttackers 94 = .ok (.iload_n 1, 1) := by decide +kernel
theorem dX8_findAttackers_95 : decode cX8_findAttackers 95 = .ok (.ireturn, 1) := by decide +kernel
theorem dX10_init_0 : decode cX10_init 0 = .ok (.aload_n 0, 1) := by decide +kernel
theorem dX10_init_1 : decode cX10_init 1 = .ok (.invokespecial 3, 3) := by decide +kernel
theorem dX10_init_4 : decode cX10_init 4 = .ok (.aload_n 0, 1) := by decide +kernel
theorem dX10_init_5 : decode cX10_init 5 = .ok (.new 9, 3) := by decide +kernel
theorem dX10_init_8 : decode cX10_init 8 = .ok (.dup, 1) := by decide +kernel
theorem dX10_init_9 : decode cX10_init 9 = .ok (.invokespecial 11, 3) := by decide +kernel
theorem dX10_init_12 : decode cX10_init 12 = .ok (.putfield 12, 3) := by decide +kernel
theorem dX10_init_15 : decode cX10_init 15 = .ok (.aload_n 0, 1) := by decide +kernel
theorem dX10_init_16 : decode cX10_init 16 = .ok (.new 9, 3) := by decide +kernel
theorem dX10_init_19 : decode cX10_init 19 = .ok (.dup, 1) := by decide +kernel
theorem dX10_init_20 : decode cX10_init 20 = .ok (.invokespecial 11, 3) := by decide +kernel
theorem dX10_init_23 : decode cX10_init 23 = .ok (.putfield 16, 3) := by decide +kernel
theorem dX10_init_26 : decode cX10_init 26 = .ok (.aload_n 0, 1) := by decide +kernel
theorem dX10_init_27 : decode cX10_init 27 = .ok (.new 9, 3) := by decide +kernel
theorem dX10_init_30 : decode cX10_init 30 = .ok (.dup, 1) := by decide +kernel
theorem dX10_init_31 : decode cX10_init 31 = .ok (.invokespecial 11, 3) := by decide +kernel
theorem dX10_init_34 : decode cX10_init 34 = .ok (.putfield 19, 3) := by decide +kernel
theorem dX10_init_37 : decode cX10_init 37 = .ok (.aload_n 0, 1) := by decide +kernel
theorem dX10_init_38 : decode cX10_init 38 = .ok (.new 22, 3) := by decide +kernel
theorem dX10_init_41 : decode cX10_init 41 = .ok (.dup, 1) := by decide +kernel
theorem dX10_init_42 : decode cX10_init 42 = .ok (.invokespecial 24, 3) := by decide +kernel
theorem dX10_init_45 : decode cX10_init 45 = .ok (.putfield 25, 3) := by decide +kernel
theorem dX10_init_48 : decode cX10_init 48 = .ok (.aload_n 0, 1) := by decide +kernel
theorem dX10_init_49 : decode cX10_init 49 = .ok (.new 29, 3) := by decide +kernel
theorem dX10_init_52 : decode cX10_init 52 = .ok (.dup, 1) := by decide +kernel
theorem dX10_init_53 : decode cX10_init 53 = .ok (.invokespecial 31, 3) := by decide +kernel
theorem dX10_init_56 : decode cX10_init 56 = .ok (.putfield 32, 3) := by decide +kernel
theorem dX10_init_59 : decode cX10_init 59 = .ok (.aload_n 0, 1) := by decide +kernel
theorem dX10_init_60 : decode cX10_init 60 = .ok (.new 36, 3) := by decide +kernel
theorem dX10_init_63 : decode cX10_init 63 = .ok (.dup, 1) := by decide +kernel
theorem dX10_init_64 : decode cX10_init 64 = .ok (.invokespecial 38, 3) := by decide +kernel
theorem dX10_init_67 : decode cX10_init 67 = .ok (.putfield 39, 3) := by decide +kernel
theorem dX10_init_70 : decode cX10_init 70 = .ok (.aload_n 0, 1) := by decide +kernel
theorem dX10_init_71 : decode cX10_init 71 = .ok (.new 43, 3) := by decide +kernel
theorem dX10_init_74 : decode cX10_init 74 = .ok (.dup, 1) := by decide +kernel
theorem dX10_init_75 : decode cX10_init 75 = .ok (.invokespecial 45, 3) := by decide +kernel
theorem dX10_init_78 : decode cX10_init 78 = .ok (.putfield 46, 3) := by decide +kernel
theorem dX10_init_81 : decode cX10_init 81 = .ok (.aload_n 0, 1) := by decide +kernel
theorem dX10_init_82 : decode cX10_init 82 = .ok (.new 50, 3) := by decide +kernel
theorem dX10_init_85 : decode cX10_init 85 = .ok (.dup, 1) := by decide +kernel
theorem dX10_init_86 : decode cX10_init 86 = .ok (.invokespecial 52, 3) := by decide +kernel
theorem dX10_init_89 : decode cX10_init 89 = .ok (.putfield 53, 3) := by decide +kernel
theorem dX10_init_92 : decode cX10_init 92 = .ok (.aload_n 0, 1) := by decide +kernel
theorem dX10_init_93 : decode cX10_init 93 = .ok (.new 57, 3) := by decide +kernel
theorem dX10_init_96 : decode cX10_init 96 = .ok (.dup, 1) := by decide +kernel
theorem dX10_init_97 : decode cX10_init 97 = .ok (.invokespecial 59, 3) := by decide +kernel
theorem dX10_init_100 : decode cX10_init 100 = .ok (.putfield 60, 3) := by decide +kernel
theorem dX10_init_103 : decode cX10_init 103 = .ok (.aload_n 0, 1) := by decide +kernel
theorem dX10_init_104 : decode cX10_init 104 = .ok (.new 57, 3) := by decide +kernel
theorem dX10_init_107 : decode cX10_init 107 = .ok (.dup, 1) := by decide +kernel
theorem dX10_init_108 : decode cX10_init 108 = .ok (.invokespecial 59, 3) := by decide +kernel
theorem dX10_init_111 : decode cX10_init 111 = .ok (.putfield 64, 3) := by decide +kernel
theorem dX10_init_114 : decode cX10_init 114 = .ok (.aload_n 0, 1) := by decide +kernel
theorem dX10_init_115 : decode cX10_init 115 = .ok (.iconst 0, 1) := by decide +kernel
theorem dX10_init_116 : decode cX10_init 116 = .ok (.putfield 67, 3) := by decide +kernel
theorem dX10_init_119 : decode cX10_init 119 = .ok (.aload_n 0, 1) := by decide +kernel
theorem dX10_init_120 : decode cX10_init 120 = .ok (.iconst (-1), 1) := by decide +kernel
theorem dX10_init_121 : decode cX10_init 121 = .ok (.putfield 71, 3) := by decide +kernel
theorem dX10_init_124 : decode cX10_init 124 = .ok (.aload_n 0, 1) := by decide +kernel
theorem dX10_init_125 : decode cX10_init 125 = .ok (.iconst (-1), 1) := by decide +kernel
theorem dX10_init_126 : decode cX10_init 126 = .ok (.putfield 75, 3) := by decide +kernel
theorem dX10_init_129 : decode cX10_init 129 = .ok (.return_, 1) := by decide +kernel
theorem dX10_addArgument_0 : decode cX10_addArgument 0 = .ok (.aload_n 0, 1) := by decide +kernel
theorem dX10_addArgument_1 : decode cX10_addArgument 1 = .ok (.getstatic 78, 3) := by decide +kernel
theorem dX10_addArgument_4 : decode cX10_addArgument 4 = .ok (.iload_n 1, 1) := by decide +kernel
theorem dX10_addArgument_5 : decode cX10_addArgument 5 = .ok (.iconst 0, 1) := by decide +kernel
theorem dX10_addArgument_6 : decode cX10_addArgument 6 = .ok (.invokevirtual 84, 3) := by decide +kernel
theorem dX10_addArgument_9 : decode cX10_addArgument 9 = .ok (.ireturn, 1) := by decide +kernel
theorem dX10_removeArgument_0 : decode cX10_removeArgument 0 = .ok (.aload_n 0, 1) := by decide +kernel
theorem dX10_removeArgument_1 : decode cX10_removeArgument 1 = .ok (.getstatic 88, 3) := by decide +kernel
theorem dX10_removeArgument_4 : decode cX10_removeArgument 4 = .ok (.iload_n 1, 1) := by decide +kernel
theorem dX10_removeArgument_5 : decode cX10_removeArgument 5 = .ok (.iconst 0, 1) := by decide +kernel
theorem dX10_removeArgument_6 : decode cX10_removeArgument 6 = .ok (.invokevirtual 84, 3) := by decide +kernel
theorem dX10_removeArgument_9 : decode cX10_removeArgument 9 = .ok (.ireturn, 1) := by decide +kernel
theorem dX10_addAttack_0 : decode cX10_addAttack 0 = .ok (.aload_n 0, 1) := by decide +kernel
theorem dX10_addAttack_1 : decode cX10_addAttack 1 = .ok (.getstatic 91, 3) := by decide +kernel
theorem dX10_addAttack_4 : decode cX10_addAttack 4 = .ok (.iload_n 1, 1) := by decide +kernel
theorem dX10_addAttack_5 : decode cX10_addAttack 5 = .ok (.iload_n 2, 1) := by decide +kernel
theorem dX10_addAttack_6 : decode cX10_addAttack 6 = .ok (.invokevirtual 84, 3) := by decide +kernel
theorem dX10_addAttack_9 : decode cX10_addAttack 9 = .ok (.ireturn, 1) := by decide +kernel
theorem dX10_removeAttack_0 : decode cX10_removeAttack 0 = .ok (.aload_n 0, 1) := by decide +kernel
theorem dX10_removeAttack_1 : decode cX10_removeAttack 1 = .ok (.getstatic 94, 3) := by decide +kernel
theorem dX10_removeAttack_4 : decode cX10_removeAttack 4 = .ok (.iload_n 1, 1) := by decide +kernel
theorem dX10_removeAttack_5 : decode cX10_removeAttack 5 = .ok (.iload_n 2, 1) := by decide +kernel
theorem dX10_removeAttack_6 : decode cX10_removeAttack 6 = .ok (.invokevirtual 84, 3) := by decide +kernel
theorem dX10_removeAttack_9 : decode cX10_removeAttack 9 = .ok (.ireturn, 1) := by decide +kernel
theorem dX10_setWeight_0 : decode cX10_setWeight 0 = .ok (.aload_n 0, 1) := by decide +kernel
theorem dX10_setWeight_1 : decode cX10_setWeight 1 = .ok (.getstatic 97, 3) := by decide +kernel
theorem dX10_setWeight_4 : decode cX10_setWeight 4 = .ok (.iload_n 1, 1) := by decide +kernel
theorem dX10_setWeight_5 : decode cX10_setWeight 5 = .ok (.iload_n 2, 1) := by decide +kernel
theorem dX10_setWeight_6 : decode cX10_setWeight 6 = .ok (.invokevirtual 84, 3) := by decide +kernel
theorem dX10_setWeight_9 : decode cX10_setWeight 9 = .ok (.ireturn, 1) := by decide +kernel
theorem dX10_renew_0 : decode cX10_renew 0 = .ok (.aload_n 0, 1) := by decide +kernel
theorem dX10_renew_1 : decode cX10_renew 1 = .ok (.getstatic 100, 3) := by decide +kernel
theorem dX10_renew_4 : decode cX10_renew 4 = .ok (.iload_n 1, 1) := by decide +kernel
theorem dX10_renew_5 : decode cX10_renew 5 = .ok (.iconst 0, 1) := by decide +kernel
theorem dX10_renew_6 : decode cX10_renew 6 = .ok (.invokevirtual 84, 3) := by decide +kernel
theorem dX10_renew_9 : decode cX10_renew 9 = .ok (.ireturn, 1) := by decide +kernel
theorem dX10_startDialogue_0 : decode cX10_startDialogue 0 = .ok (.aload_n 0, 1) := by decide +kernel
theorem dX10_startDialogue_1 : decode cX10_startDialogue 1 = .ok (.getstatic 103, 3) := by decide +kernel
theorem dX10_startDialogue_4 : decode cX10_startDialogue 4 = .ok (.iload_n 1, 1) := by decide +kernel
theorem dX10_startDialogue_5 : decode cX10_startDialogue 5 = .ok (.iconst 0, 1) := by decide +kernel
theorem dX10_startDialogue_6 : decode cX10_startDialogue 6 = .ok (.invokevirtual 84, 3) := by decide +kernel
theorem dX10_startDialogue_9 : decode cX10_startDialogue 9 = .ok (.ireturn, 1) := by decide +kernel
theorem dX10_move_0 : decode cX10_move 0 = .ok (.aload_n 0, 1) := by decide +kernel
theorem dX10_move_1 : decode cX10_move 1 = .ok (.getstatic 106, 3) := by decide +kernel
theorem dX10_move_4 : decode cX10_move 4 = .ok (.iload_n 1, 1) := by decide +kernel
theorem dX10_move_5 : decode cX10_move 5 = .ok (.iconst 0, 1) := by decide +kernel
theorem dX10_move_6 : decode cX10_move 6 = .ok (.invokevirtual 84, 3) := by decide +kernel
theorem dX10_move_9 : decode cX10_move 9 = .ok (.ireturn, 1) := by decide +kernel
theorem dX10_takeBack_0 : decode cX10_takeBack 0 = .ok (.aload_n 0, 1) := by decide +kernel
theorem dX10_takeBack_1 : decode cX10_takeBack 1 = .ok (.getstatic 109, 3) := by decide +kernel
theorem dX10_takeBack_4 : decode cX10_takeBack 4 = .ok (.iconst 0, 1) := by decide +kernel
theorem dX10_takeBack_5 : decode cX10_takeBack 5 = .ok (.iconst 0, 1) := by decide +kernel
theorem dX10_takeBack_6 : decode cX10_takeBack 6 = .ok (.invokevirtual 84, 3) := by decide +kernel
theorem dX10_takeBack_9 : decode cX10_takeBack 9 = .ok (.ireturn, 1) := by decide +kernel
theorem dX10_endDialogue_0 : decode cX10_endDialogue 0 = .ok (.aload_n 0, 1) := by decide +kernel
theorem dX10_endDialogue_1 : decode cX10_endDialogue 1 = .ok (.getstatic 112, 3) := by decide +kernel
theorem dX10_endDialogue_4 : decode cX10_endDialogue 4 = .ok (.iconst 0, 1) := by decide +kernel
theorem dX10_endDialogue_5 : decode cX10_endDialogue 5 = .ok (.iconst 0, 1) := by decide +kernel
theorem dX10_endDialogue_6 : decode cX10_endDialogue 6 = .ok (.invokevirtual 84, 3) := by decide +kernel
theorem dX10_endDialogue_9 : decode cX10_endDialogue 9 = .ok (.i2c, 1) := by decide +kernel
theorem dX10_endDialogue_10 : decode cX10_endDialogue 10 = .ok (.ireturn, 1) := by decide +kernel
theorem dX10_pass_0 : decode cX10_pass 0 = .ok (.aload_n 0, 1) := by decide +kernel
theorem dX10_pass_1 : decode cX10_pass 1 = .ok (.getstatic 115, 3) := by decide +kernel
theorem dX10_pass_4 : decode cX10_pass 4 = .ok (.iload_n 1, 1) := by decide +kernel
theorem dX10_pass_5 : decode cX10_pass 5 = .ok (.iconst 0, 1) := by decide +kernel
theorem dX10_pass_6 : decode cX10_pass 6 = .ok (.invokevirtual 84, 3) := by decide +kernel
theorem dX10_pass_9 : decode cX10_pass 9 = .ok (.ireturn, 1) := by decide +kernel
theorem dX10_argumentCount_0 : decode cX10_argumentCount 0 = .ok (.aload_n 0, 1) := by decide +kernel
theorem dX10_argumentCount_1 : decode cX10_argumentCount 1 = .ok (.getfield 12, 3) := by decide +kernel
theorem dX10_argumentCount_4 : decode cX10_argumentCount 4 = .ok (.getfield 121, 3) := by decide +kernel
theorem dX10_argumentCount_7 : decode cX10_argumentCount 7 = .ok (.ireturn, 1) := by decide +kernel
theorem dX10_idAt_0 : decode cX10_idAt 0 = .ok (.iload_n 1, 1) := by decide +kernel
theorem dX10_idAt_1 : decode cX10_idAt 1 = .ok (.ifCond .lt 14, 3) := by decide +kernel
theorem dX10_idAt_4 : decode cX10_idAt 4 = .ok (.iload_n 1, 1) := by decide +kernel
theorem dX10_idAt_5 : decode cX10_idAt 5 = .ok (.aload_n 0, 1) := by decide +kernel
theorem dX10_idAt_6 : decode cX10_idAt 6 = .ok (.getfield 12, 3) := by decide +kernel
theorem dX10_idAt_9 : decode cX10_idAt 9 = .ok (.getfield 121, 3) := by decide +kernel
theorem dX10_idAt_12 : decode cX10_idAt 12 = .ok (.if_icmp .lt 13, 3) := by decide +kernel
theorem dX10_idAt_15 : decode cX10_idAt 15 = .ok (.new 124, 3) := by decide +kernel
theorem dX10_idAt_18 : decode cX10_idAt 18 = .ok (.dup, 1) := by decide +kernel
theorem dX10_idAt_19 : decode cX10_idAt 19 = .ok (.ldc 126, 2) := by decide +kernel
theorem dX10_idAt_21 : decode cX10_idAt 21 = .ok (.invokespecial 128, 3) := by decide +kernel
theorem dX10_idAt_24 : decode cX10_idAt 24 = .ok (.athrow, 1) := by decide +kernel
theorem dX10_idAt_25 : decode cX10_idAt 25 = .ok (.aload_n 0, 1) := by decide +kernel
theorem dX10_idAt_26 : decode cX10_idAt 26 = .ok (.getfield 12, 3) := by decide +kernel
theorem dX10_idAt_29 : decode cX10_idAt 29 = .ok (.getfield 131, 3) := by decide +kernel
theorem dX10_idAt_32 : decode cX10_idAt 32 = .ok (.iload_n 1, 1) := by decide +kernel
theorem dX10_idAt_33 : decode cX10_idAt 33 = .ok (.iaload, 1) := by decide +kernel
theorem dX10_idAt_34 : decode cX10_idAt 34 = .ok (.ireturn, 1) := by decide +kernel
theorem dX10_weightOf_0 : decode cX10_weightOf 0 = .ok (.aload_n 0, 1) := by decide +kernel
theorem dX10_weightOf_1 : decode cX10_weightOf 1 = .ok (.getfield 12, 3) := by decide +kernel
theorem dX10_weightOf_4 : decode cX10_weightOf 4 = .ok (.getfield 135, 3) := by decide +kernel
theorem dX10_weightOf_7 : decode cX10_weightOf 7 = .ok (.aload_n 0, 1) := by decide +kernel
theorem dX10_weightOf_8 : decode cX10_weightOf 8 = .ok (.getfield 12, 3) := by decide +kernel
theorem dX10_weightOf_11 : decode cX10_weightOf 11 = .ok (.iload_n 1, 1) := by decide +kernel
theorem dX10_weightOf_12 : decode cX10_weightOf 12 = .ok (.invokevirtual 138, 3) := by decide +kernel
theorem dX10_weightOf_15 : decode cX10_weightOf 15 = .ok (.iaload, 1) := by decide +kernel
theorem dX10_weightOf_16 : decode cX10_weightOf 16 = .ok (.ireturn, 1) := by decide +kernel
theorem dX10_ageOf_0 : decode cX10_ageOf 0 = .ok (.aload_n 0, 1) := by decide +kernel
theorem dX10_ageOf_1 : decode cX10_ageOf 1 = .ok (.getfield 12, 3) := by decide +kernel
theorem dX10_ageOf_4 : decode cX10_ageOf 4 = .ok (.getfield 142, 3) := by decide +kernel
theorem dX10_ageOf_7 : decode cX10_ageOf 7 = .ok (.aload_n 0, 1) := by decide +kernel
theorem dX10_ageOf_8 : decode cX10_ageOf 8 = .ok (.getfield 12, 3) := by decide +kernel
theorem dX10_ageOf_11 : decode cX10_ageOf 11 = .ok (.iload_n 1, 1) := by decide +kernel
theorem dX10_ageOf_12 : decode cX10_ageOf 12 = .ok (.invokevirtual 138, 3) := by decide +kernel
theorem dX10_ageOf_15 : decode cX10_ageOf 15 = .ok (.iaload, 1) := by decide +kernel
theorem dX10_ageOf_16 : decode cX10_ageOf 16 = .ok (.ireturn, 1) := by decide +kernel
theorem dX10_strengthOf_0 : decode cX10_strengthOf 0 = .ok (.aload_n 0, 1) := by decide +kernel
theorem dX10_strengthOf_1 : decode cX10_strengthOf 1 = .ok (.getfield 12, 3) := by decide +kernel
theorem dX10_strengthOf_4 : decode cX10_strengthOf 4 = .ok (.aload_n 0, 1) := by decide +kernel
theorem dX10_strengthOf_5 : decode cX10_strengthOf 5 = .ok (.getfield 12, 3) := by decide +kernel
theorem dX10_strengthOf_8 : decode cX10_strengthOf 8 = .ok (.iload_n 1, 1) := by decide +kernel
theorem dX10_strengthOf_9 : decode cX10_strengthOf 9 = .ok (.invokevirtual 138, 3) := by decide +kernel
theorem dX10_strengthOf_12 : decode cX10_strengthOf 12 = .ok (.invokevirtual 145, 3) := by decide +kernel
theorem dX10_strengthOf_15 : decode cX10_strengthOf 15 = .ok (.ireturn, 1) := by decide +kernel
theorem dX10_attackCount_0 : decode cX10_attackCount 0 = .ok (.aload_n 0, 1) := by decide +kernel
theorem dX10_attackCount_1 : decode cX10_attackCount 1 = .ok (.getfield 12, 3) := by decide +kernel
theorem dX10_attackCount_4 : decode cX10_attackCount 4 = .ok (.invokevirtual 148, 3) := by decide +kernel
theorem dX10_attackCount_7 : decode cX10_attackCount 7 = .ok (.ireturn, 1) := by decide +kernel
theorem dX10_hasAttack_0 : decode cX10_hasAttack 0 = .ok (.aload_n 0, 1) := by decide +kernel
theorem dX10_hasAttack_1 : decode cX10_hasAttack 1 = .ok (.getfield 12, 3) := by decide +kernel
theorem dX10_hasAttack_4 : decode cX10_hasAttack 4 = .ok (.iload_n 1, 1) := by decide +kernel
theorem dX10_hasAttack_5 : decode cX10_hasAttack 5 = .ok (.invokevirtual 138, 3) := by decide +kernel
theorem dX10_hasAttack_8 : decode cX10_hasAttack 8 = .ok (.istore_n 3, 1) := by decide +kernel
theorem dX10_hasAttack_9 : decode cX10_hasAttack 9 = .ok (.aload_n 0, 1) := by decide +kernel
theorem dX10_hasAttack_10 : decode cX10_hasAttack 10 = .ok (.getfield 12, 3) := by decide +kernel
theorem dX10_hasAttack_13 : decode cX10_hasAttack 13 = .ok (.iload_n 2, 1) := by decide +kernel
theorem dX10_hasAttack_14 : decode cX10_hasAttack 14 = .ok (.invokevirtual 138, 3) := by decide +kernel
theorem dX10_hasAttack_17 : decode cX10_hasAttack 17 = .ok (.istore 4, 2) := by decide +kernel
theorem dX10_hasAttack_19 : decode cX10_hasAttack 19 = .ok (.aload_n 0, 1) := by decide +kernel
theorem dX10_hasAttack_20 : decode cX10_hasAttack 20 = .ok (.getfield 12, 3) := by decide +kernel
theorem dX10_hasAttack_23 : decode cX10_hasAttack 23 = .ok (.getfield 152, 3) := by decide +kernel
theorem dX10_hasAttack_26 : decode cX10_hasAttack 26 = .ok (.iload_n 3, 1) := by decide +kernel
theorem dX10_hasAttack_27 : decode cX10_hasAttack 27 = .ok (.iaload, 1) := by decide +kernel
theorem dX10_hasAttack_28 : decode cX10_hasAttack 28 = .ok (.iload 4, 2) := by decide +kernel
theorem dX10_hasAttack_30 : decode cX10_hasAttack 30 = .ok (.invokestatic 155, 3) := by decide +kernel
theorem dX10_hasAttack_33 : decode cX10_hasAttack 33 = .ok (.ireturn, 1) := by decide +kernel
theorem dX10_isSuccessful_0 : decode cX10_isSuccessful 0 = .ok (.aload_n 0, 1) := by decide +kernel
theorem dX10_isSuccessful_1 : decode cX10_isSuccessful 1 = .ok (.getfield 12, 3) := by decide +kernel
theorem dX10_isSuccessful_4 : decode cX10_isSuccessful 4 = .ok (.iload_n 1, 1) := by decide +kernel
theorem dX10_isSuccessful_5 : decode cX10_isSuccessful 5 = .ok (.invokevirtual 138, 3) := by decide +kernel
theorem dX10_isSuccessful_8 : decode cX10_isSuccessful 8 = .ok (.istore_n 3, 1) := by decide +kernel
theorem dX10_isSuccessful_9 : decode cX10_isSuccessful 9 = .ok (.aload_n 0, 1) := by decide +kernel
theorem dX10_isSuccessful_10 : decode cX10_isSuccessful 10 = .ok (.getfield 12, 3) := by decide +kernel
theorem dX10_isSuccessful_13 : decode cX10_isSuccessful 13 = .ok (.iload_n 2, 1) := by decide +kernel
theorem dX10_isSuccessful_14 : decode cX10_isSuccessful 14 = .ok (.invokevirtual 138, 3) := by decide +kernel
theorem dX10_isSuccessful_17 : decode cX10_isSuccessful 17 = .ok (.istore 4, 2) := by decide +kernel
theorem dX10_isSuccessful_19 : decode cX10_isSuccessful 19 = .ok (.aload_n 0, 1) := by decide +kernel
theorem dX10_isSuccessful_20 : decode cX10_isSuccessful 20 = .ok (.getfield 12, 3) := by decide +kernel
theorem dX10_isSuccessful_23 : decode cX10_isSuccessful 23 = .ok (.getfield 152, 3) := by decide +kernel
theorem dX10_isSuccessful_26 : decode cX10_isSuccessful 26 = .ok (.iload_n 3, 1) := by decide +kernel
theorem dX10_isSuccessful_27 : decode cX10_isSuccessful 27 = .ok (.iaload, 1) := by decide +kernel
theorem dX10_isSuccessful_28 : decode cX10_isSuccessful 28 = .ok (.iload 4, 2) := by decide +kernel
theorem dX10_isSuccessful_30 : decode cX10_isSuccessful 30 = .ok (.invokestatic 155, 3) := by decide +kernel
theorem dX10_isSuccessful_33 : decode cX10_isSuccessful 33 = .ok (.ifCond .ne 13, 3) := by decide +kernel
theorem dX10_isSuccessful_36 : decode cX10_isSuccessful 36 = .ok (.new 159, 3) := by decide +kernel
theorem dX10_isSuccessful_39 : decode cX10_isSuccessful 39 = .ok (.dup, 1) := by decide +kernel
theorem dX10_isSuccessful_40 : decode cX10_isSuccessful 40 = .ok (.ldc 161, 2) := by decide +kernel
theorem dX10_isSuccessful_42 : decode cX10_isSuccessful 42 = .ok (.invokespecial 163, 3) := by decide +kernel
theorem dX10_isSuccessful_45 : decode cX10_isSuccessful 45 = .ok (.athrow, 1) := by decide +kernel
theorem dX10_isSuccessful_46 : decode cX10_isSuccessful 46 = .ok (.aload_n 0, 1) := by decide +kernel
theorem dX10_isSuccessful_47 : decode cX10_isSuccessful 47 = .ok (.getfield 12, 3) := by decide +kernel
theorem dX10_isSuccessful_50 : decode cX10_isSuccessful 50 = .ok (.getfield 164, 3) := by decide +kernel
theorem dX10_isSuccessful_53 : decode cX10_isSuccessful 53 = .ok (.iload 4, 2) := by decide +kernel
theorem dX10_isSuccessful_55 : decode cX10_isSuccessful 55 = .ok (.iaload, 1) := by decide +kernel
theorem dX10_isSuccessful_56 : decode cX10_isSuccessful 56 = .ok (.iload_n 3, 1) := by decide +kernel
theorem dX10_isSuccessful_57 : decode cX10_isSuccessful 57 = .ok (.invokestatic 155, 3) := by decide +kernel
theorem dX10_isSuccessful_60 : decode cX10_isSuccessful 60 = .ok (.ireturn, 1) := by decide +kernel
theorem dX10_successfulCount_0 : decode cX10_successfulCount 0 = .ok (.iconst 0, 1) := by decide +kernel
theorem dX10_successfulCount_1 : decode cX10_successfulCount 1 = .ok (.istore_n 1, 1) := by decide +kernel
theorem dX10_successfulCount_2 : decode cX10_successfulCount 2 = .ok (.iconst 0, 1) := by decide +kernel
theorem dX10_successfulCount_3 : decode cX10_successfulCount 3 = .ok (.istore_n 2, 1) := by decide +kernel
theorem dX10_successfulCount_4 : decode cX10_successfulCount 4 = .ok (.iload_n 2, 1) := by decide +kernel
theorem dX10_successfulCount_5 : decode cX10_successfulCount 5 = .ok (.aload_n 0, 1) := by decide +kernel
theorem dX10_successfulCount_6 : decode cX10_successfulCount 6 = .ok (.getfield 12, 3) := by decide +kernel
theorem dX10_successfulCount_9 : decode cX10_successfulCount 9 = .ok (.getfield 121, 3) := by decide +kernel
theorem dX10_successfulCount_12 : decode cX10_successfulCount 12 = .ok (.if_icmp .ge 24, 3) := by decide +kernel
theorem dX10_successfulCount_15 : decode cX10_successfulCount 15 = .ok (.iload_n 1, 1) := by decide +kernel
theorem dX10_successfulCount_16 : decode cX10_successfulCount 16 = .ok (.aload_n 0, 1) := by decide +kernel
theorem dX10_successfulCount_17 : decode cX10_successfulCount 17 = .ok (.getfield 12, 3) := by decide +kernel
theorem dX10_successfulCount_20 : decode cX10_successfulCount 20 = .ok (.getfield 164, 3) := by decide +kernel
theorem dX10_successfulCount_23 : decode cX10_successfulCount 23 = .ok (.iload_n 2, 1) := by decide +kernel
theorem dX10_successfulCount_24 : decode cX10_successfulCount 24 = .ok (.iaload, 1) := by decide +kernel
theorem dX10_successfulCount_25 : decode cX10_successfulCount 25 = .ok (.invokestatic 167, 3) := by decide +kernel
theorem dX10_successfulCount_28 : decode cX10_successfulCount 28 = .ok (.iadd, 1) := by decide +kernel
theorem dX10_successfulCount_29 : decode cX10_successfulCount 29 = .ok (.istore_n 1, 1) := by decide +kernel
theorem dX10_successfulCount_30 : decode cX10_successfulCount 30 = .ok (.iinc 2 1, 3) := by decide +kernel
theorem dX10_successfulCount_33 : decode cX10_successfulCount 33 = .ok (.goto (-29), 3) := by decide +kernel
theorem dX10_successfulCount_36 : decode cX10_successfulCount 36 = .ok (.iload_n 1, 1) := by decide +kernel
theorem dX10_successfulCount_37 : decode cX10_successfulCount 37 = .ok (.ireturn, 1) := by decide +kernel
theorem dX10_attackerCount_0 : decode cX10_attackerCount 0 = .ok (.aload_n 0, 1) := by decide +kernel
theorem dX10_attackerCount_1 : decode cX10_attackerCount 1 = .ok (.getfield 12, 3) := by decide +kernel
theorem dX10_attackerCount_4 : decode cX10_attackerCount 4 = .ok (.getfield 164, 3) := by decide +kernel
theorem dX10_attackerCount_7 : decode cX10_attackerCount 7 = .ok (.aload_n 0, 1) := by decide +kernel
theorem dX10_attackerCount_8 : decode cX10_attackerCount 8 = .ok (.getfield 12, 3) := by decide +kernel
theorem dX10_attackerCount_11 : decode cX10_attackerCount 11 = .ok (.iload_n 1, 1) := by decide +kernel
theorem dX10_attackerCount_12 : decode cX10_attackerCount 12 = .ok (.invokevirtual 138, 3) := by decide +kernel
theorem dX10_attackerCount_15 : decode cX10_attackerCount 15 = .ok (.iaload, 1) := by decide +kernel
theorem dX10_attackerCount_16 : decode cX10_attackerCount 16 = .ok (.invokestatic 167, 3) := by decide +kernel
theorem dX10_attackerCount_19 : decode cX10_attackerCount 19 = .ok (.ireturn, 1) := by decide +kernel
theorem dX10_attackerAt_0 : decode cX10_attackerAt 0 = .ok (.aload_n 0, 1) := by decide +kernel
theorem dX10_attackerAt_1 : decode cX10_attackerAt 1 = .ok (.getfield 12, 3) := by decide +kernel
theorem dX10_attackerAt_4 : decode cX10_attackerAt 4 = .ok (.getfield 164, 3) := by decide +kernel
theorem dX10_attackerAt_7 : decode cX10_attackerAt 7 = .ok (.aload_n 0, 1) := by decide +kernel
theorem dX10_attackerAt_8 : decode cX10_attackerAt 8 = .ok (.getfield 12, 3) := by decide +kernel
theorem dX10_attackerAt_11 : decode cX10_attackerAt 11 = .ok (.iload_n 1, 1) := by decide +kernel
theorem dX10_attackerAt_12 : decode cX10_attackerAt 12 = .ok (.invokevirtual 138, 3) := by decide +kernel
theorem dX10_attackerAt_15 : decode cX10_attackerAt 15 = .ok (.iaload, 1) := by decide +kernel
theorem dX10_attackerAt_16 : decode cX10_attackerAt 16 = .ok (.istore_n 3, 1) := by decide +kernel
theorem dX10_attackerAt_17 : decode cX10_attackerAt 17 = .ok (.iconst 0, 1) := by decide +kernel
theorem dX10_attackerAt_18 : decode cX10_attackerAt 18 = .ok (.istore 4, 2) := by decide +kernel
theorem dX10_attackerAt_20 : decode cX10_attackerAt 20 = .ok (.iconst 0, 1) := by decide +kernel
theorem dX10_attackerAt_21 : decode cX10_attackerAt 21 = .ok (.istore 5, 2) := by decide +kernel
theorem dX10_attackerAt_23 : decode cX10_attackerAt 23 = .ok (.iload 5, 2) := by decide +kernel
theorem dX10_attackerAt_25 : decode cX10_attackerAt 25 = .ok (.aload_n 0, 1) := by decide +kernel
theorem dX10_attackerAt_26 : decode cX10_attackerAt 26 = .ok (.getfield 12, 3) := by decide +kernel
theorem dX10_attackerAt_29 : decode cX10_attackerAt 29 = .ok (.getfield 121, 3) := by decide +kernel
theorem dX10_attackerAt_32 : decode cX10_attackerAt 32 = .ok (.if_icmp .ge 38, 3) := by decide +kernel
theorem dX10_attackerAt_35 : decode cX10_attackerAt 35 = .ok (.iload_n 3, 1) := by decide +kernel
theorem dX10_attackerAt_36 : decode cX10_attackerAt 36 = .ok (.iload 5, 2) := by decide +kernel
theorem dX10_attackerAt_38 : decode cX10_attackerAt 38 = .ok (.invokestatic 155, 3) := by decide +kernel
theorem dX10_attackerAt_41 : decode cX10_attackerAt 41 = .ok (.ifCond .eq 23, 3) := by decide +kernel
theorem dX10_attackerAt_44 : decode cX10_attackerAt 44 = .ok (.iload 4, 2) := by decide +kernel
theorem dX10_attackerAt_46 : decode cX10_attackerAt 46 = .ok (.iload_n 2, 1) := by decide +kernel
theorem dX10_attackerAt_47 : decode cX10_attackerAt 47 = .ok (.if_icmp .ne 14, 3) := by decide +kernel
theorem dX10_attackerAt_50 : decode cX10_attackerAt 50 = .ok (.aload_n 0, 1) := by decide +kernel
theorem dX10_attackerAt_51 : decode cX10_attackerAt 51 = .ok (.getfield 12, 3) := by decide +kernel
theorem dX10_attackerAt_54 : decode cX10_attackerAt 54 = .ok (.getfield 131, 3) := by decide +kernel
theorem dX10_attackerAt_57 : decode cX10_attackerAt 57 = .ok (.iload 5, 2) := by decide +kernel
theorem dX10_attackerAt_59 : decode cX10_attackerAt 59 = .ok (.iaload, 1) := by decide +kernel
theorem dX10_attackerAt_60 : decode cX10_attackerAt 60 = .ok (.ireturn, 1) := by decide +kernel
theorem dX10_attackerAt_61 : decode cX10_attackerAt 61 = .ok (.iinc 4 1, 3) := by decide +kernel
theorem dX10_attackerAt_64 : decode cX10_attackerAt 64 = .ok (.iinc 5 1, 3) := by decide +kernel
theorem dX10_attackerAt_67 : decode cX10_attackerAt 67 = .ok (.goto (-44), 3) := by decide +kernel
theorem dX10_attackerAt_70 : decode cX10_attackerAt 70 = .ok (.new 124, 3) := by decide +kernel
theorem dX10_attackerAt_73 : decode cX10_attackerAt 73 = .ok (.dup, 1) := by decide +kernel
theorem dX10_attackerAt_74 : decode cX10_attackerAt 74 = .ok (.ldc 172, 2) := by decide +kernel
theorem dX10_attackerAt_76 : decode cX10_attackerAt 76 = .ok (.invokespecial 128, 3) := by decide +kernel
theorem dX10_attackerAt_79 : decode cX10_attackerAt 79 = .ok (.athrow, 1) := by decide +kernel
theorem dX10_status_0 : decode cX10_status 0 = .ok (.aload_n 0, 1) := by decide +kernel
theorem dX10_status_1 : decode cX10_status 1 = .ok (.getfield 12, 3) := by decide +kernel
theorem dX10_status_4 : decode cX10_status 4 = .ok (.iload_n 1, 1) := by decide +kernel
theorem dX10_status_5 : decode cX10_status 5 = .ok (.invokevirtual 138, 3) := by decide +kernel
theorem dX10_status_8 : decode cX10_status 8 = .ok (.istore_n 2, 1) := by decide +kernel
theorem dX10_status_9 : decode cX10_status 9 = .ok (.aload_n 0, 1) := by decide +kernel
theorem dX10_status_10 : decode cX10_status 10 = .ok (.getfield 32, 3) := by decide +kernel
theorem dX10_status_13 : decode cX10_status 13 = .ok (.aload_n 0, 1) := by decide +kernel
theorem dX10_status_14 : decode cX10_status 14 = .ok (.getfield 12, 3) := by decide +kernel
theorem dX10_status_17 : decode cX10_status 17 = .ok (.invokevirtual 174, 3) := by decide +kernel
theorem dX10_status_20 : decode cX10_status 20 = .ok (.aload_n 0, 1) := by decide +kernel
theorem dX10_status_21 : decode cX10_status 21 = .ok (.getfield 32, 3) := by decide +kernel
theorem dX10_status_24 : decode cX10_status 24 = .ok (.iload_n 2, 1) := by decide +kernel
theorem dX10_status_25 : decode cX10_status 25 = .ok (.invokevirtual 178, 3) := by decide +kernel
theorem dX10_status_28 : decode cX10_status 28 = .ok (.ireturn, 1) := by decide +kernel
theorem dX10_roundOf_0 : decode cX10_roundOf 0 = .ok (.aload_n 0, 1) := by decide +kernel
theorem dX10_roundOf_1 : decode cX10_roundOf 1 = .ok (.getfield 12, 3) := by decide +kernel
theorem dX10_roundOf_4 : decode cX10_roundOf 4 = .ok (.iload_n 1, 1) := by decide +kernel
theorem dX10_roundOf_5 : decode cX10_roundOf 5 = .ok (.invokevirtual 138, 3) := by decide +kernel
theorem dX10_roundOf_8 : decode cX10_roundOf 8 = .ok (.istore_n 2, 1) := by decide +kernel
theorem dX10_roundOf_9 : decode cX10_roundOf 9 = .ok (.aload_n 0, 1) := by decide +kernel
theorem dX10_roundOf_10 : decode cX10_roundOf 10 = .ok (.getfield 32, 3) := by decide +kernel
theorem dX10_roundOf_13 : decode cX10_roundOf 13 = .ok (.aload_n 0, 1) := by decide +kernel
theorem dX10_roundOf_14 : decode cX10_roundOf 14 = .ok (.getfield 12, 3) := by decide +kernel
theorem dX10_roundOf_17 : decode cX10_roundOf 17 = .ok (.invokevirtual 174, 3) := by decide +kernel
theorem dX10_roundOf_20 : decode cX10_roundOf 20 = .ok (.aload_n 0, 1) := by decide +kernel
theorem dX10_roundOf_21 : decode cX10_roundOf 21 = .ok (.getfield 32, 3) := by decide +kernel
theorem dX10_roundOf_24 : decode cX10_roundOf 24 = .ok (.iload_n 2, 1) := by decide +kernel
theorem dX10_roundOf_25 : decode cX10_roundOf 25 = .ok (.invokevirtual 178, 3) := by decide +kernel
theorem dX10_roundOf_28 : decode cX10_roundOf 28 = .ok (.bipush 117, 2) := by decide +kernel
theorem dX10_roundOf_30 : decode cX10_roundOf 30 = .ok (.if_icmp .ne 13, 3) := by decide +kernel
theorem dX10_roundOf_33 : decode cX10_roundOf 33 = .ok (.new 159, 3) := by decide +kernel
theorem dX10_roundOf_36 : decode cX10_roundOf 36 = .ok (.dup, 1) := by decide +kernel
theorem dX10_roundOf_37 : decode cX10_roundOf 37 = .ok (.ldc 182, 2) := by decide +kernel
theorem dX10_roundOf_39 : decode cX10_roundOf 39 = .ok (.invokespecial 163, 3) := by decide +kernel
theorem dX10_roundOf_42 : decode cX10_roundOf 42 = .ok (.athrow, 1) := by decide +kernel
theorem dX10_roundOf_43 : decode cX10_roundOf 43 = .ok (.aload_n 0, 1) := by decide +kernel
theorem dX10_roundOf_44 : decode cX10_roundOf 44 = .ok (.getfield 32, 3) := by decide +kernel
theorem dX10_roundOf_47 : decode cX10_roundOf 47 = .ok (.getfield 184, 3) := by decide +kernel
theorem dX10_roundOf_50 : decode cX10_roundOf 50 = .ok (.iload_n 2, 1) := by decide +kernel
theorem dX10_roundOf_51 : decode cX10_roundOf 51 = .ok (.iaload, 1) := by decide +kernel
theorem dX10_roundOf_52 : decode cX10_roundOf 52 = .ok (.ireturn, 1) := by decide +kernel
theorem dX10_isAcceptedByGame_0 : decode cX10_isAcceptedByGame 0 = .ok (.aload_n 0, 1) := by decide +kernel
theorem dX10_isAcceptedByGame_1 : decode cX10_isAcceptedByGame 1 = .ok (.getfield 39, 3) := by decide +kernel
theorem dX10_isAcceptedByGame_4 : decode cX10_isAcceptedByGame 4 = .ok (.aload_n 0, 1) := by decide +kernel
theorem dX10_isAcceptedByGame_5 : decode cX10_isAcceptedByGame 5 = .ok (.getfield 12, 3) := by decide +kernel
theorem dX10_isAcceptedByGame_8 : decode cX10_isAcceptedByGame 8 = .ok (.aload_n 0, 1) := by decide +kernel
theorem dX10_isAcceptedByGame_9 : decode cX10_isAcceptedByGame 9 = .ok (.getfield 12, 3) := by decide +kernel
theorem dX10_isAcceptedByGame_12 : decode cX10_isAcceptedByGame 12 = .ok (.iload_n 1, 1) := by decide +kernel
theorem dX10_isAcceptedByGame_13 : decode cX10_isAcceptedByGame 13 = .ok (.invokevirtual 138, 3) := by decide +kernel
theorem dX10_isAcceptedByGame_16 : decode cX10_isAcceptedByGame 16 = .ok (.invokevirtual 187, 3) := by decide +kernel
theorem dX10_isAcceptedByGame_19 : decode cX10_isAcceptedByGame 19 = .ok (.ireturn, 1) := by decide +kernel
theorem dX10_canOpponentWin_0 : decode cX10_canOpponentWin 0 = .ok (.aload_n 0, 1) := by decide +kernel
theorem dX10_canOpponentWin_1 : decode cX10_canOpponentWin 1 = .ok (.iload_n 1, 1) := by decide +kernel
theorem dX10_canOpponentWin_2 : decode cX10_canOpponentWin 2 = .ok (.invokevirtual 191, 3) := by decide +kernel
theorem dX10_canOpponentWin_5 : decode cX10_canOpponentWin 5 = .ok (.ifCond .ne 7, 3) := by decide +kernel
theorem dX10_canOpponentWin_8 : decode cX10_canOpponentWin 8 = .ok (.iconst 1, 1) := by decide +kernel
theorem dX10_canOpponentWin_9 : decode cX10_canOpponentWin 9 = .ok (.goto 4, 3) := by decide +kernel
theorem dX10_canOpponentWin_12 : decode cX10_canOpponentWin 12 = .ok (.iconst 0, 1) := by decide +kernel
theorem dX10_canOpponentWin_13 : decode cX10_canOpponentWin 13 = .ok (.ireturn, 1) := by decide +kernel
theorem dX10_acceptedCount_0 : decode cX10_acceptedCount 0 = .ok (.aload_n 0, 1) := by decide +kernel
theorem dX10_acceptedCount_1 : decode cX10_acceptedCount 1 = .ok (.getfield 32, 3) := by decide +kernel
theorem dX10_acceptedCount_4 : decode cX10_acceptedCount 4 = .ok (.aload_n 0, 1) := by decide +kernel
theorem dX10_acceptedCount_5 : decode cX10_acceptedCount 5 = .ok (.getfield 12, 3) := by decide +kernel
theorem dX10_acceptedCount_8 : decode cX10_acceptedCount 8 = .ok (.invokevirtual 174, 3) := by decide +kernel
theorem dX10_acceptedCount_11 : decode cX10_acceptedCount 11 = .ok (.aload_n 0, 1) := by decide +kernel
theorem dX10_acceptedCount_12 : decode cX10_acceptedCount 12 = .ok (.getfield 32, 3) := by decide +kernel
theorem dX10_acceptedCount_15 : decode cX10_acceptedCount 15 = .ok (.getfield 195, 3) := by decide +kernel
theorem dX10_acceptedCount_18 : decode cX10_acceptedCount 18 = .ok (.invokestatic 167, 3) := by decide +kernel
theorem dX10_acceptedCount_21 : decode cX10_acceptedCount 21 = .ok (.ireturn, 1) := by decide +kernel
theorem dX10_undecidedCount_0 : decode cX10_undecidedCount 0 = .ok (.aload_n 0, 1) := by decide +kernel
theorem dX10_undecidedCount_1 : decode cX10_undecidedCount 1 = .ok (.getfield 32, 3) := by decide +kernel
theorem dX10_undecidedCount_4 : decode cX10_undecidedCount 4 = .ok (.aload_n 0, 1) := by decide +kernel
theorem dX10_undecidedCount_5 : decode cX10_undecidedCount 5 = .ok (.getfield 12, 3) := by decide +kernel
theorem dX10_undecidedCount_8 : decode cX10_undecidedCount 8 = .ok (.invokevirtual 174, 3) := by decide +kernel
theorem dX10_undecidedCount_11 : decode cX10_undecidedCount 11 = .ok (.aload_n 0, 1) := by decide +kernel
theorem dX10_undecidedCount_12 : decode cX10_undecidedCount 12 = .ok (.getfield 12, 3) := by decide +kernel
theorem dX10_undecidedCount_15 : decode cX10_undecidedCount 15 = .ok (.getfield 121, 3) := by decide +kernel
theorem dX10_undecidedCount_18 : decode cX10_undecidedCount 18 = .ok (.aload_n 0, 1) := by decide +kernel
theorem dX10_undecidedCount_19 : decode cX10_undecidedCount 19 = .ok (.getfield 32, 3) := by decide +kernel
theorem dX10_undecidedCount_22 : decode cX10_undecidedCount 22 = .ok (.getfield 195, 3) := by decide +kernel
theorem dX10_undecidedCount_25 : decode cX10_undecidedCount 25 = .ok (.aload_n 0, 1) := by decide +kernel
theorem dX10_undecidedCount_26 : decode cX10_undecidedCount 26 = .ok (.getfield 32, 3) := by decide +kernel
theorem dX10_undecidedCount_29 : decode cX10_undecidedCount 29 = .ok (.getfield 198, 3) := by decide +kernel
theorem dX10_undecidedCount_32 : decode cX10_undecidedCount 32 = .ok (.ior, 1) := by decide +kernel
theorem dX10_undecidedCount_33 : decode cX10_undecidedCount 33 = .ok (.invokestatic 167, 3) := by decide +kernel
theorem dX10_undecidedCount_36 : decode cX10_undecidedCount 36 = .ok (.isub, 1) := by decide +kernel
theorem dX10_undecidedCount_37 : decode cX10_undecidedCount 37 = .ok (.ireturn, 1) := by decide +kernel
theorem dX10_stableCount_0 : decode cX10_stableCount 0 = .ok (.aload_n 0, 1) := by decide +kernel
theorem dX10_stableCount_1 : decode cX10_stableCount 1 = .ok (.getfield 46, 3) := by decide +kernel
theorem dX10_stableCount_4 : decode cX10_stableCount 4 = .ok (.aload_n 0, 1) := by decide +kernel
theorem dX10_stableCount_5 : decode cX10_stableCount 5 = .ok (.getfield 12, 3) := by decide +kernel
theorem dX10_stableCount_8 : decode cX10_stableCount 8 = .ok (.invokevirtual 201, 3) := by decide +kernel
theorem dX10_stableCount_11 : decode cX10_stableCount 11 = .ok (.ireturn, 1) := by decide +kernel
theorem dX10_stableCountByLabels_0 : decode cX10_stableCountByLabels 0 = .ok (.aload_n 0, 1) := by decide +kernel
theorem dX10_stableCountByLabels_1 : decode cX10_stableCountByLabels 1 = .ok (.getfield 46, 3) := by decide +kernel
theorem dX10_stableCountByLabels_4 : decode cX10_stableCountByLabels 4 = .ok (.aload_n 0, 1) := by decide +kernel
theorem dX10_stableCountByLabels_5 : decode cX10_stableCountByLabels 5 = .ok (.getfield 12, 3) := by decide +kernel
theorem dX10_stableCountByLabels_8 : decode cX10_stableCountByLabels 8 = .ok (.invokevirtual 205, 3) := by decide +kernel
theorem dX10_stableCountByLabels_11 : decode cX10_stableCountByLabels 11 = .ok (.ireturn, 1) := by decide +kernel
theorem dX10_preferredCount_0 : decode cX10_preferredCount 0 = .ok (.aload_n 0, 1) := by decide +kernel
theorem dX10_preferredCount_1 : decode cX10_preferredCount 1 = .ok (.getfield 46, 3) := by decide +kernel
theorem dX10_preferredCount_4 : decode cX10_preferredCount 4 = .ok (.aload_n 0, 1) := by decide +kernel
theorem dX10_preferredCount_5 : decode cX10_preferredCount 5 = .ok (.getfield 12, 3) := by decide +kernel
theorem dX10_preferredCount_8 : decode cX10_preferredCount 8 = .ok (.invokevirtual 208, 3) := by decide +kernel
theorem dX10_preferredCount_11 : decode cX10_preferredCount 11 = .ok (.aload_n 0, 1) := by decide +kernel
theorem dX10_preferredCount_12 : decode cX10_preferredCount 12 = .ok (.getfield 46, 3) := by decide +kernel
theorem dX10_preferredCount_15 : decode cX10_preferredCount 15 = .ok (.iconst 0, 1) := by decide +kernel
theorem dX10_preferredCount_16 : decode cX10_preferredCount 16 = .ok (.invokevirtual 211, 3) := by decide +kernel
theorem dX10_preferredCount_19 : decode cX10_preferredCount 19 = .ok (.ireturn, 1) := by decide +kernel
theorem dX10_greatestAdmissible_0 : decode cX10_greatestAdmissible 0 = .ok (.aload_n 0, 1) := by decide +kernel
theorem dX10_greatestAdmissible_1 : decode cX10_greatestAdmissible 1 = .ok (.getfield 46, 3) := by decide +kernel
theorem dX10_greatestAdmissible_4 : decode cX10_greatestAdmissible 4 = .ok (.aload_n 0, 1) := by decide +kernel
theorem dX10_greatestAdmissible_5 : decode cX10_greatestAdmissible 5 = .ok (.getfield 12, 3) := by decide +kernel
theorem dX10_greatestAdmissible_8 : decode cX10_greatestAdmissible 8 = .ok (.invokevirtual 214, 3) := by decide +kernel
theorem dX10_greatestAdmissible_11 : decode cX10_greatestAdmissible 11 = .ok (.ireturn, 1) := by decide +kernel
theorem dX10_isCredible_0 : decode cX10_isCredible 0 = .ok (.aload_n 0, 1) := by decide +kernel
theorem dX10_isCredible_1 : decode cX10_isCredible 1 = .ok (.iload_n 1, 1) := by decide +kernel
theorem dX10_isCredible_2 : decode cX10_isCredible 2 = .ok (.iload_n 1, 1) := by decide +kernel
theorem dX10_isCredible_3 : decode cX10_isCredible 3 = .ok (.invokevirtual 217, 3) := by decide +kernel
theorem dX10_isCredible_6 : decode cX10_isCredible 6 = .ok (.ireturn, 1) := by decide +kernel
theorem dX10_isCertain_0 : decode cX10_isCertain 0 = .ok (.iconst 1, 1) := by decide +kernel
theorem dX10_isCertain_1 : decode cX10_isCertain 1 = .ok (.aload_n 0, 1) := by decide +kernel
theorem dX10_isCertain_2 : decode cX10_isCertain 2 = .ok (.getfield 12, 3) := by decide +kernel
theorem dX10_isCertain_5 : decode cX10_isCertain 5 = .ok (.iload_n 1, 1) := by decide +kernel
theorem dX10_isCertain_6 : decode cX10_isCertain 6 = .ok (.invokevirtual 138, 3) := by decide +kernel
theorem dX10_isCertain_9 : decode cX10_isCertain 9 = .ok (.ishl, 1) := by decide +kernel
theorem dX10_isCertain_10 : decode cX10_isCertain 10 = .ok (.istore_n 2, 1) := by decide +kernel
theorem dX10_isCertain_11 : decode cX10_isCertain 11 = .ok (.aload_n 0, 1) := by decide +kernel
theorem dX10_isCertain_12 : decode cX10_isCertain 12 = .ok (.getfield 46, 3) := by decide +kernel
theorem dX10_isCertain_15 : decode cX10_isCertain 15 = .ok (.aload_n 0, 1) := by decide +kernel
theorem dX10_isCertain_16 : decode cX10_isCertain 16 = .ok (.getfield 12, 3) := by decide +kernel
theorem dX10_isCertain_19 : decode cX10_isCertain 19 = .ok (.invokevirtual 208, 3) := by decide +kernel
theorem dX10_isCertain_22 : decode cX10_isCertain 22 = .ok (.aload_n 0, 1) := by decide +kernel
theorem dX10_isCertain_23 : decode cX10_isCertain 23 = .ok (.getfield 46, 3) := by decide +kernel
theorem dX10_isCertain_26 : decode cX10_isCertain 26 = .ok (.iload_n 2, 1) := by decide +kernel
theorem dX10_isCertain_27 : decode cX10_isCertain 27 = .ok (.invokevirtual 211, 3) := by decide +kernel
theorem dX10_isCertain_30 : decode cX10_isCertain 30 = .ok (.aload_n 0, 1) := by decide +kernel
theorem dX10_isCertain_31 : decode cX10_isCertain 31 = .ok (.getfield 46, 3) := by decide +kernel
theorem dX10_isCertain_34 : decode cX10_isCertain 34 = .ok (.iconst 0, 1) := by decide +kernel
theorem dX10_isCertain_35 : decode cX10_isCertain 35 = .ok (.invokevirtual 211, 3) := by decide +kernel
theorem dX10_isCertain_38 : decode cX10_isCertain 38 = .ok (.if_icmp .ne 7, 3) := by decide +kernel
theorem dX10_isCertain_41 : decode cX10_isCertain 41 = .ok (.iconst 1, 1) := by decide +kernel
theorem dX10_isCertain_42 : decode cX10_isCertain 42 = .ok (.goto 4, 3) := by decide +kernel
theorem dX10_isCertain_45 : decode cX10_isCertain 45 = .ok (.iconst 0, 1) := by decide +kernel
theorem dX10_isCertain_46 : decode cX10_isCertain 46 = .ok (.ireturn, 1) := by decide +kernel
theorem dX10_canStandTogether_0 : decode cX10_canStandTogether 0 = .ok (.iconst 1, 1) := by decide +kernel
theorem dX10_canStandTogether_1 : decode cX10_canStandTogether 1 = .ok (.aload_n 0, 1) := by decide +kernel
theorem dX10_canStandTogether_2 : decode cX10_canStandTogether 2 = .ok (.getfield 12, 3) := by decide +kernel
theorem dX10_canStandTogether_5 : decode cX10_canStandTogether 5 = .ok (.iload_n 1, 1) := by decide +kernel
theorem dX10_canStandTogether_6 : decode cX10_canStandTogether 6 = .ok (.invokevirtual 138, 3) := by decide +kernel
theorem dX10_canStandTogether_9 : decode cX10_canStandTogether 9 = .ok (.ishl, 1) := by decide +kernel
theorem dX10_canStandTogether_10 : decode cX10_canStandTogether 10 = .ok (.iconst 1, 1) := by decide +kernel
theorem dX10_canStandTogether_11 : decode cX10_canStandTogether 11 = .ok (.aload_n 0, 1) := by decide +kernel
theorem dX10_canStandTogether_12 : decode cX10_canStandTogether 12 = .ok (.getfield 12, 3) := by decide +kernel
theorem dX10_canStandTogether_15 : decode cX10_canStandTogether 15 = .ok (.iload_n 2, 1) := by decide +kernel
theorem dX10_canStandTogether_16 : decode cX10_canStandTogether 16 = .ok (.invokevirtual 138, 3) := by decide +kernel
theorem dX10_canStandTogether_19 : decode cX10_canStandTogether 19 = .ok (.ishl, 1) := by decide +kernel
theorem dX10_canStandTogether_20 : decode cX10_canStandTogether 20 = .ok (.ior, 1) := by decide +kernel
theorem dX10_canStandTogether_21 : decode cX10_canStandTogether 21 = .ok (.istore_n 3, 1) := by decide +kernel
theorem dX10_canStandTogether_22 : decode cX10_canStandTogether 22 = .ok (.aload_n 0, 1) := by decide +kernel
theorem dX10_canStandTogether_23 : decode cX10_canStandTogether 23 = .ok (.getfield 46, 3) := by decide +kernel
theorem dX10_canStandTogether_26 : decode cX10_canStandTogether 26 = .ok (.aload_n 0, 1) := by decide +kernel
theorem dX10_canStandTogether_27 : decode cX10_canStandTogether 27 = .ok (.getfield 12, 3) := by decide +kernel
theorem dX10_canStandTogether_30 : decode cX10_canStandTogether 30 = .ok (.invokevirtual 208, 3) := by decide +kernel
theorem dX10_canStandTogether_33 : decode cX10_canStandTogether 33 = .ok (.aload_n 0, 1) := by decide +kernel
theorem dX10_canStandTogether_34 : decode cX10_canStandTogether 34 = .ok (.getfield 46, 3) := by decide +kernel
theorem dX10_canStandTogether_37 : decode cX10_canStandTogether 37 = .ok (.iload_n 3, 1) := by decide +kernel
theorem dX10_canStandTogether_38 : decode cX10_canStandTogether 38 = .ok (.invokevirtual 211, 3) := by decide +kernel
theorem dX10_canStandTogether_41 : decode cX10_canStandTogether 41 = .ok (.ifCond .le 7, 3) := by decide +kernel
theorem dX10_canStandTogether_44 : decode cX10_canStandTogether 44 = .ok (.iconst 1, 1) := by decide +kernel
theorem dX10_canStandTogether_45 : decode cX10_canStandTogether 45 = .ok (.goto 4, 3) := by decide +kernel
theorem dX10_canStandTogether_48 : decode cX10_canStandTogether 48 = .ok (.iconst 0, 1) := by decide +kernel
theorem dX10_canStandTogether_49 : decode cX10_canStandTogether 49 = .ok (.ireturn, 1) := by decide +kernel
theorem dX10_hasCycle_0 : decode cX10_hasCycle 0 = .ok (.aload_n 0, 1) := by decide +kernel
theorem dX10_hasCycle_1 : decode cX10_hasCycle 1 = .ok (.getfield 12, 3) := by decide +kernel
theorem dX10_hasCycle_4 : decode cX10_hasCycle 4 = .ok (.invokestatic 220, 3) := by decide +kernel
theorem dX10_hasCycle_7 : decode cX10_hasCycle 7 = .ok (.ireturn, 1) := by decide +kernel
theorem dX10_hasCycleBySearch_0 : decode cX10_hasCycleBySearch 0 = .ok (.aload_n 0, 1) := by decide +kernel
theorem dX10_hasCycleBySearch_1 : decode cX10_hasCycleBySearch 1 = .ok (.getfield 12, 3) := by decide +kernel
theorem dX10_hasCycleBySearch_4 : decode cX10_hasCycleBySearch 4 = .ok (.invokestatic 226, 3) := by decide +kernel
theorem dX10_hasCycleBySearch_7 : decode cX10_hasCycleBySearch 7 = .ok (.ireturn, 1) := by decide +kernel
theorem dX10_statusAfter_0 : decode cX10_statusAfter 0 = .ok (.aload_n 0, 1) := by decide +kernel
theorem dX10_statusAfter_1 : decode cX10_statusAfter 1 = .ok (.getfield 12, 3) := by decide +kernel
theorem dX10_statusAfter_4 : decode cX10_statusAfter 4 = .ok (.iload_n 1, 1) := by decide +kernel
theorem dX10_statusAfter_5 : decode cX10_statusAfter 5 = .ok (.invokevirtual 138, 3) := by decide +kernel
theorem dX10_statusAfter_8 : decode cX10_statusAfter 8 = .ok (.istore_n 3, 1) := by decide +kernel
theorem dX10_statusAfter_9 : decode cX10_statusAfter 9 = .ok (.iload_n 2, 1) := by decide +kernel
theorem dX10_statusAfter_10 : decode cX10_statusAfter 10 = .ok (.ifCond .lt 9, 3) := by decide +kernel
theorem dX10_statusAfter_13 : decode cX10_statusAfter 13 = .ok (.iload_n 2, 1) := by decide +kernel
theorem dX10_statusAfter_14 : decode cX10_statusAfter 14 = .ok (.bipush 90, 2) := by decide +kernel
theorem dX10_statusAfter_16 : decode cX10_statusAfter 16 = .ok (.if_icmp .le 13, 3) := by decide +kernel
theorem dX10_statusAfter_19 : decode cX10_statusAfter 19 = .ok (.new 237, 3) := by decide +kernel
theorem dX10_statusAfter_22 : decode cX10_statusAfter 22 = .ok (.dup, 1) := by decide +kernel
theorem dX10_statusAfter_23 : decode cX10_statusAfter 23 = .ok (.ldc 239, 2) := by decide +kernel
theorem dX10_statusAfter_25 : decode cX10_statusAfter 25 = .ok (.invokespecial 241, 3) := by decide +kernel
theorem dX10_statusAfter_28 : decode cX10_statusAfter 28 = .ok (.athrow, 1) := by decide +kernel
theorem dX10_statusAfter_29 : decode cX10_statusAfter 29 = .ok (.aload_n 0, 1) := by decide +kernel
theorem dX10_statusAfter_30 : decode cX10_statusAfter 30 = .ok (.getfield 19, 3) := by decide +kernel
theorem dX10_statusAfter_33 : decode cX10_statusAfter 33 = .ok (.aload_n 0, 1) := by decide +kernel
theorem dX10_statusAfter_34 : decode cX10_statusAfter 34 = .ok (.getfield 12, 3) := by decide +kernel
theorem dX10_statusAfter_37 : decode cX10_statusAfter 37 = .ok (.invokevirtual 229, 3) := by decide +kernel
theorem dX10_statusAfter_40 : decode cX10_statusAfter 40 = .ok (.aload_n 0, 1) := by decide +kernel
theorem dX10_statusAfter_41 : decode cX10_statusAfter 41 = .ok (.getfield 19, 3) := by decide +kernel
theorem dX10_statusAfter_44 : decode cX10_statusAfter 44 = .ok (.iload_n 2, 1) := by decide +kernel
theorem dX10_statusAfter_45 : decode cX10_statusAfter 45 = .ok (.invokevirtual 232, 3) := by decide +kernel
theorem dX10_statusAfter_48 : decode cX10_statusAfter 48 = .ok (.pop, 1) := by decide +kernel
theorem dX10_statusAfter_49 : decode cX10_statusAfter 49 = .ok (.aload_n 0, 1) := by decide +kernel
theorem dX10_statusAfter_50 : decode cX10_statusAfter 50 = .ok (.getfield 32, 3) := by decide +kernel
theorem dX10_statusAfter_53 : decode cX10_statusAfter 53 = .ok (.aload_n 0, 1) := by decide +kernel
theorem dX10_statusAfter_54 : decode cX10_statusAfter 54 = .ok (.getfield 19, 3) := by decide +kernel
theorem dX10_statusAfter_57 : decode cX10_statusAfter 57 = .ok (.invokevirtual 174, 3) := by decide +kernel
theorem dX10_statusAfter_60 : decode cX10_statusAfter 60 = .ok (.aload_n 0, 1) := by decide +kernel
theorem dX10_statusAfter_61 : decode cX10_statusAfter 61 = .ok (.getfield 32, 3) := by decide +kernel
theorem dX10_statusAfter_64 : decode cX10_statusAfter 64 = .ok (.iload_n 3, 1) := by decide +kernel
theorem dX10_statusAfter_65 : decode cX10_statusAfter 65 = .ok (.invokevirtual 178, 3) := by decide +kernel
theorem dX10_statusAfter_68 : decode cX10_statusAfter 68 = .ok (.ireturn, 1) := by decide +kernel
theorem dX10_argumentByStrength_0 : decode cX10_argumentByStrength 0 = .ok (.iconst 0, 1) := by decide +kernel
theorem dX10_argumentByStrength_1 : decode cX10_argumentByStrength 1 = .ok (.istore_n 2, 1) := by decide +kernel
theorem dX10_argumentByStrength_2 : decode cX10_argumentByStrength 2 = .ok (.iload_n 2, 1) := by decide +kernel
theorem dX10_argumentByStrength_3 : decode cX10_argumentByStrength 3 = .ok (.aload_n 0, 1) := by decide +kernel
theorem dX10_argumentByStrength_4 : decode cX10_argumentByStrength 4 = .ok (.getfield 12, 3) := by decide +kernel
theorem dX10_argumentByStrength_7 : decode cX10_argumentByStrength 7 = .ok (.getfield 121, 3) := by decide +kernel
theorem dX10_argumentByStrength_10 : decode cX10_argumentByStrength 10 = .ok (.if_icmp .ge 31, 3) := by decide +kernel
theorem dX10_argumentByStrength_13 : decode cX10_argumentByStrength 13 = .ok (.aload_n 0, 1) := by decide +kernel
theorem dX10_argumentByStrength_14 : decode cX10_argumentByStrength 14 = .ok (.getfield 12, 3) := by decide +kernel
theorem dX10_argumentByStrength_17 : decode cX10_argumentByStrength 17 = .ok (.iload_n 2, 1) := by decide +kernel
theorem dX10_argumentByStrength_18 : decode cX10_argumentByStrength 18 = .ok (.invokevirtual 242, 3) := by decide +kernel
theorem dX10_argumentByStrength_21 : decode cX10_argumentByStrength 21 = .ok (.iload_n 1, 1) := by decide +kernel
theorem dX10_argumentByStrength_22 : decode cX10_argumentByStrength 22 = .ok (.if_icmp .ne 13, 3) := by decide +kernel
theorem dX10_argumentByStrength_25 : decode cX10_argumentByStrength 25 = .ok (.aload_n 0, 1) := by decide +kernel
theorem dX10_argumentByStrength_26 : decode cX10_argumentByStrength 26 = .ok (.getfield 12, 3) := by decide +kernel
theorem dX10_argumentByStrength_29 : decode cX10_argumentByStrength 29 = .ok (.getfield 131, 3) := by decide +kernel
theorem dX10_argumentByStrength_32 : decode cX10_argumentByStrength 32 = .ok (.iload_n 2, 1) := by decide +kernel
theorem dX10_argumentByStrength_33 : decode cX10_argumentByStrength 33 = .ok (.iaload, 1) := by decide +kernel
theorem dX10_argumentByStrength_34 : decode cX10_argumentByStrength 34 = .ok (.ireturn, 1) := by decide +kernel
theorem dX10_argumentByStrength_35 : decode cX10_argumentByStrength 35 = .ok (.iinc 2 1, 3) := by decide +kernel
theorem dX10_argumentByStrength_38 : decode cX10_argumentByStrength 38 = .ok (.goto (-36), 3) := by decide +kernel
theorem dX10_argumentByStrength_41 : decode cX10_argumentByStrength 41 = .ok (.new 159, 3) := by decide +kernel
theorem dX10_argumentByStrength_44 : decode cX10_argumentByStrength 44 = .ok (.dup, 1) := by decide +kernel
theorem dX10_argumentByStrength_45 : decode cX10_argumentByStrength 45 = .ok (.ldc 245, 2) := by decide +kernel
theorem dX10_argumentByStrength_47 : decode cX10_argumentByStrength 47 = .ok (.invokespecial 163, 3) := by decide +kernel
theorem dX10_argumentByStrength_50 : decode cX10_argumentByStrength 50 = .ok (.athrow, 1) := by decide +kernel
theorem dX10_isDialogueHeld_0 : decode cX10_isDialogueHeld 0 = .ok (.aload_n 0, 1) := by decide +kernel
theorem dX10_isDialogueHeld_1 : decode cX10_isDialogueHeld 1 = .ok (.getfield 12, 3) := by decide +kernel
theorem dX10_isDialogueHeld_4 : decode cX10_isDialogueHeld 4 = .ok (.getfield 247, 3) := by decide +kernel
theorem dX10_isDialogueHeld_7 : decode cX10_isDialogueHeld 7 = .ok (.invokevirtual 251, 3) := by decide +kernel
theorem dX10_isDialogueHeld_10 : decode cX10_isDialogueHeld 10 = .ok (.ireturn, 1) := by decide +kernel
theorem dX10_moveCount_0 : decode cX10_moveCount 0 = .ok (.aload_n 0, 1) := by decide +kernel
theorem dX10_moveCount_1 : decode cX10_moveCount 1 = .ok (.getfield 12, 3) := by decide +kernel
theorem dX10_moveCount_4 : decode cX10_moveCount 4 = .ok (.getfield 247, 3) := by decide +kernel
theorem dX10_moveCount_7 : decode cX10_moveCount 7 = .ok (.getfield 257, 3) := by decide +kernel
theorem dX10_moveCount_10 : decode cX10_moveCount 10 = .ok (.ireturn, 1) := by decide +kernel
theorem dX10_moveAt_0 : decode cX10_moveAt 0 = .ok (.iload_n 1, 1) := by decide +kernel
theorem dX10_moveAt_1 : decode cX10_moveAt 1 = .ok (.ifCond .lt 17, 3) := by decide +kernel
theorem dX10_moveAt_4 : decode cX10_moveAt 4 = .ok (.iload_n 1, 1) := by decide +kernel
theorem dX10_moveAt_5 : decode cX10_moveAt 5 = .ok (.aload_n 0, 1) := by decide +kernel
theorem dX10_moveAt_6 : decode cX10_moveAt 6 = .ok (.getfield 12, 3) := by decide +kernel
theorem dX10_moveAt_9 : decode cX10_moveAt 9 = .ok (.getfield 247, 3) := by decide +kernel
theorem dX10_moveAt_12 : decode cX10_moveAt 12 = .ok (.getfield 257, 3) := by decide +kernel
theorem dX10_moveAt_15 : decode cX10_moveAt 15 = .ok (.if_icmp .lt 14, 3) := by decide +kernel
theorem dX10_moveAt_18 : decode cX10_moveAt 18 = .ok (.new 124, 3) := by decide +kernel
theorem dX10_moveAt_21 : decode cX10_moveAt 21 = .ok (.dup, 1) := by decide +kernel
theorem dX10_moveAt_22 : decode cX10_moveAt 22 = .ok (.ldc_w 258, 3) := by decide +kernel
theorem dX10_moveAt_25 : decode cX10_moveAt 25 = .ok (.invokespecial 128, 3) := by decide +kernel
theorem dX10_moveAt_28 : decode cX10_moveAt 28 = .ok (.athrow, 1) := by decide +kernel
theorem dX10_moveAt_29 : decode cX10_moveAt 29 = .ok (.aload_n 0, 1) := by decide +kernel
theorem dX10_moveAt_30 : decode cX10_moveAt 30 = .ok (.getfield 12, 3) := by decide +kernel
theorem dX10_moveAt_33 : decode cX10_moveAt 33 = .ok (.getfield 247, 3) := by decide +kernel
theorem dX10_moveAt_36 : decode cX10_moveAt 36 = .ok (.getfield 260, 3) := by decide +kernel
theorem dX10_moveAt_39 : decode cX10_moveAt 39 = .ok (.iload_n 1, 1) := by decide +kernel
theorem dX10_moveAt_40 : decode cX10_moveAt 40 = .ok (.iaload, 1) := by decide +kernel
theorem dX10_moveAt_41 : decode cX10_moveAt 41 = .ok (.ireturn, 1) := by decide +kernel
theorem dX10_canMove_0 : decode cX10_canMove 0 = .ok (.aload_n 0, 1) := by decide +kernel
theorem dX10_canMove_1 : decode cX10_canMove 1 = .ok (.getfield 12, 3) := by decide +kernel
theorem dX10_canMove_4 : decode cX10_canMove 4 = .ok (.iload_n 1, 1) := by decide +kernel
theorem dX10_canMove_5 : decode cX10_canMove 5 = .ok (.invokevirtual 263, 3) := by decide +kernel
theorem dX10_canMove_8 : decode cX10_canMove 8 = .ok (.istore_n 2, 1) := by decide +kernel
theorem dX10_canMove_9 : decode cX10_canMove 9 = .ok (.aload_n 0, 1) := by decide +kernel
theorem dX10_canMove_10 : decode cX10_canMove 10 = .ok (.getfield 12, 3) := by decide +kernel
theorem dX10_canMove_13 : decode cX10_canMove 13 = .ok (.iload_n 2, 1) := by decide +kernel
theorem dX10_canMove_14 : decode cX10_canMove 14 = .ok (.invokevirtual 266, 3) := by decide +kernel
theorem dX10_canMove_17 : decode cX10_canMove 17 = .ok (.ifCond .eq 20, 3) := by decide +kernel
theorem dX10_canMove_20 : decode cX10_canMove 20 = .ok (.aload_n 0, 1) := by decide +kernel
theorem dX10_canMove_21 : decode cX10_canMove 21 = .ok (.getfield 12, 3) := by decide +kernel
theorem dX10_canMove_24 : decode cX10_canMove 24 = .ok (.getfield 247, 3) := by decide +kernel
theorem dX10_canMove_27 : decode cX10_canMove 27 = .ok (.invokevirtual 269, 3) := by decide +kernel
theorem dX10_canMove_30 : decode cX10_canMove 30 = .ok (.ifCond .ne 7, 3) := by decide +kernel
theorem dX10_canMove_33 : decode cX10_canMove 33 = .ok (.iconst 1, 1) := by decide +kernel
theorem dX10_canMove_34 : decode cX10_canMove 34 = .ok (.goto 4, 3) := by decide +kernel
theorem dX10_canMove_37 : decode cX10_canMove 37 = .ok (.iconst 0, 1) := by decide +kernel
theorem dX10_canMove_38 : decode cX10_canMove 38 = .ok (.ireturn, 1) := by decide +kernel
theorem dX10_meanStrength_0 : decode cX10_meanStrength 0 = .ok (.aload_n 0, 1) := by decide +kernel
theorem dX10_meanStrength_1 : decode cX10_meanStrength 1 = .ok (.getfield 12, 3) := by decide +kernel
theorem dX10_meanStrength_4 : decode cX10_meanStrength 4 = .ok (.getfield 121, 3) := by decide +kernel
theorem dX10_meanStrength_7 : decode cX10_meanStrength 7 = .ok (.ifCond .ne 14, 3) := by decide +kernel
theorem dX10_meanStrength_10 : decode cX10_meanStrength 10 = .ok (.new 281, 3) := by decide +kernel
theorem dX10_meanStrength_13 : decode cX10_meanStrength 13 = .ok (.dup, 1) := by decide +kernel
theorem dX10_meanStrength_14 : decode cX10_meanStrength 14 = .ok (.ldc_w 283, 3) := by decide +kernel
theorem dX10_meanStrength_17 : decode cX10_meanStrength 17 = .ok (.invokespecial 285, 3) := by decide +kernel
theorem dX10_meanStrength_20 : decode cX10_meanStrength 20 = .ok (.athrow, 1) := by decide +kernel
theorem dX10_meanStrength_21 : decode cX10_meanStrength 21 = .ok (.iconst 0, 1) := by decide +kernel
theorem dX10_meanStrength_22 : decode cX10_meanStrength 22 = .ok (.istore_n 1, 1) := by decide +kernel
theorem dX10_meanStrength_23 : decode cX10_meanStrength 23 = .ok (.iconst 0, 1) := by decide +kernel
theorem dX10_meanStrength_24 : decode cX10_meanStrength 24 = .ok (.istore_n 2, 1) := by decide +kernel
theorem dX10_meanStrength_25 : decode cX10_meanStrength 25 = .ok (.iload_n 2, 1) := by decide +kernel
theorem dX10_meanStrength_26 : decode cX10_meanStrength 26 = .ok (.aload_n 0, 1) := by decide +kernel
theorem dX10_meanStrength_27 : decode cX10_meanStrength 27 = .ok (.getfield 12, 3) := by decide +kernel
theorem dX10_meanStrength_30 : decode cX10_meanStrength 30 = .ok (.getfield 121, 3) := by decide +kernel
theorem dX10_meanStrength_33 : decode cX10_meanStrength 33 = .ok (.if_icmp .ge 20, 3) := by decide +kernel
theorem dX10_meanStrength_36 : decode cX10_meanStrength 36 = .ok (.iload_n 1, 1) := by decide +kernel
theorem dX10_meanStrength_37 : decode cX10_meanStrength 37 = .ok (.aload_n 0, 1) := by decide +kernel
theorem dX10_meanStrength_38 : decode cX10_meanStrength 38 = .ok (.getfield 12, 3) := by decide +kernel
theorem dX10_meanStrength_41 : decode cX10_meanStrength 41 = .ok (.iload_n 2, 1) := by decide +kernel
theorem dX10_meanStrength_42 : decode cX10_meanStrength 42 = .ok (.invokevirtual 145, 3) := by decide +kernel
theorem dX10_meanStrength_45 : decode cX10_meanStrength 45 = .ok (.iadd, 1) := by decide +kernel
theorem dX10_meanStrength_46 : decode cX10_meanStrength 46 = .ok (.istore_n 1, 1) := by decide +kernel
theorem dX10_meanStrength_47 : decode cX10_meanStrength 47 = .ok (.iinc 2 1, 3) := by decide +kernel
theorem dX10_meanStrength_50 : decode cX10_meanStrength 50 = .ok (.goto (-25), 3) := by decide +kernel
theorem dX10_meanStrength_53 : decode cX10_meanStrength 53 = .ok (.iload_n 1, 1) := by decide +kernel
theorem dX10_meanStrength_54 : decode cX10_meanStrength 54 = .ok (.i2d, 1) := by decide +kernel
theorem dX10_meanStrength_55 : decode cX10_meanStrength 55 = .ok (.aload_n 0, 1) := by decide +kernel
theorem dX10_meanStrength_56 : decode cX10_meanStrength 56 = .ok (.getfield 12, 3) := by decide +kernel
theorem dX10_meanStrength_59 : decode cX10_meanStrength 59 = .ok (.getfield 121, 3) := by decide +kernel
theorem dX10_meanStrength_62 : decode cX10_meanStrength 62 = .ok (.i2d, 1) := by decide +kernel
theorem dX10_meanStrength_63 : decode cX10_meanStrength 63 = .ok (.ddiv, 1) := by decide +kernel
theorem dX10_meanStrength_64 : decode cX10_meanStrength 64 = .ok (.dreturn, 1) := by decide +kernel
theorem dX10_acceptedShare_0 : decode cX10_acceptedShare 0 = .ok (.aload_n 0, 1) := by decide +kernel
theorem dX10_acceptedShare_1 : decode cX10_acceptedShare 1 = .ok (.getfield 12, 3) := by decide +kernel
theorem dX10_acceptedShare_4 : decode cX10_acceptedShare 4 = .ok (.getfield 121, 3) := by decide +kernel
theorem dX10_acceptedShare_7 : decode cX10_acceptedShare 7 = .ok (.ifCond .ne 14, 3) := by decide +kernel
theorem dX10_acceptedShare_10 : decode cX10_acceptedShare 10 = .ok (.new 281, 3) := by decide +kernel
theorem dX10_acceptedShare_13 : decode cX10_acceptedShare 13 = .ok (.dup, 1) := by decide +kernel
theorem dX10_acceptedShare_14 : decode cX10_acceptedShare 14 = .ok (.ldc_w 283, 3) := by decide +kernel
theorem dX10_acceptedShare_17 : decode cX10_acceptedShare 17 = .ok (.invokespecial 285, 3) := by decide +kernel
theorem dX10_acceptedShare_20 : decode cX10_acceptedShare 20 = .ok (.athrow, 1) := by decide +kernel
theorem dX10_acceptedShare_21 : decode cX10_acceptedShare 21 = .ok (.aload_n 0, 1) := by decide +kernel
theorem dX10_acceptedShare_22 : decode cX10_acceptedShare 22 = .ok (.invokevirtual 286, 3) := by decide +kernel
theorem dX10_acceptedShare_25 : decode cX10_acceptedShare 25 = .ok (.i2f, 1) := by decide +kernel
theorem dX10_acceptedShare_26 : decode cX10_acceptedShare 26 = .ok (.aload_n 0, 1) := by decide +kernel
theorem dX10_acceptedShare_27 : decode cX10_acceptedShare 27 = .ok (.getfield 12, 3) := by decide +kernel
theorem dX10_acceptedShare_30 : decode cX10_acceptedShare 30 = .ok (.getfield 121, 3) := by decide +kernel
theorem dX10_acceptedShare_33 : decode cX10_acceptedShare 33 = .ok (.i2f, 1) := by decide +kernel
theorem dX10_acceptedShare_34 : decode cX10_acceptedShare 34 = .ok (.fdiv, 1) := by decide +kernel
theorem dX10_acceptedShare_35 : decode cX10_acceptedShare 35 = .ok (.freturn, 1) := by decide +kernel
theorem dX10_isConsistent_0 : decode cX10_isConsistent 0 = .ok (.aload_n 0, 1) := by decide +kernel
theorem dX10_isConsistent_1 : decode cX10_isConsistent 1 = .ok (.invokevirtual 289, 3) := by decide +kernel
theorem dX10_isConsistent_4 : decode cX10_isConsistent 4 = .ok (.ifCond .eq 29, 3) := by decide +kernel
theorem dX10_isConsistent_7 : decode cX10_isConsistent 7 = .ok (.aload_n 0, 1) := by decide +kernel
theorem dX10_isConsistent_8 : decode cX10_isConsistent 8 = .ok (.invokevirtual 292, 3) := by decide +kernel
theorem dX10_isConsistent_11 : decode cX10_isConsistent 11 = .ok (.aload_n 0, 1) := by decide +kernel
theorem dX10_isConsistent_12 : decode cX10_isConsistent 12 = .ok (.invokevirtual 295, 3) := by decide +kernel
theorem dX10_isConsistent_15 : decode cX10_isConsistent 15 = .ok (.if_icmp .ne 18, 3) := by decide +kernel
theorem dX10_isConsistent_18 : decode cX10_isConsistent 18 = .ok (.aload_n 0, 1) := by decide +kernel
theorem dX10_isConsistent_19 : decode cX10_isConsistent 19 = .ok (.invokevirtual 298, 3) := by decide +kernel
theorem dX10_isConsistent_22 : decode cX10_isConsistent 22 = .ok (.aload_n 0, 1) := by decide +kernel
theorem dX10_isConsistent_23 : decode cX10_isConsistent 23 = .ok (.invokevirtual 301, 3) := by decide +kernel
theorem dX10_isConsistent_26 : decode cX10_isConsistent 26 = .ok (.if_icmp .ne 7, 3) := by decide +kernel
theorem dX10_isConsistent_29 : decode cX10_isConsistent 29 = .ok (.iconst 1, 1) := by decide +kernel
theorem dX10_isConsistent_30 : decode cX10_isConsistent 30 = .ok (.goto 4, 3) := by decide +kernel
theorem dX10_isConsistent_33 : decode cX10_isConsistent 33 = .ok (.iconst 0, 1) := by decide +kernel
theorem dX10_isConsistent_34 : decode cX10_isConsistent 34 = .ok (.ireturn, 1) := by decide +kernel
theorem dX10_formatArgument_0 : decode cX10_formatArgument 0 = .ok (.aload_n 0, 1) := by decide +kernel
theorem dX10_formatArgument_1 : decode cX10_formatArgument 1 = .ok (.getfield 12, 3) := by decide +kernel
theorem dX10_formatArgument_4 : decode cX10_formatArgument 4 = .ok (.iload_n 1, 1) := by decide +kernel
theorem dX10_formatArgument_5 : decode cX10_formatArgument 5 = .ok (.invokevirtual 138, 3) := by decide +kernel
theorem dX10_formatArgument_8 : decode cX10_formatArgument 8 = .ok (.istore_n 2, 1) := by decide +kernel
theorem dX10_formatArgument_9 : decode cX10_formatArgument 9 = .ok (.aload_n 0, 1) := by decide +kernel
theorem dX10_formatArgument_10 : decode cX10_formatArgument 10 = .ok (.getfield 32, 3) := by decide +kernel
theorem dX10_formatArgument_13 : decode cX10_formatArgument 13 = .ok (.aload_n 0, 1) := by decide +kernel
theorem dX10_formatArgument_14 : decode cX10_formatArgument 14 = .ok (.getfield 12, 3) := by decide +kernel
theorem dX10_formatArgument_17 : decode cX10_formatArgument 17 = .ok (.invokevirtual 174, 3) := by decide +kernel
theorem dX10_formatArgument_20 : decode cX10_formatArgument 20 = .ok (.aload_n 0, 1) := by decide +kernel
theorem dX10_formatArgument_21 : decode cX10_formatArgument 21 = .ok (.getfield 64, 3) := by decide +kernel
theorem dX10_formatArgument_24 : decode cX10_formatArgument 24 = .ok (.iconst 0, 1) := by decide +kernel
theorem dX10_formatArgument_25 : decode cX10_formatArgument 25 = .ok (.invokevirtual 304, 3) := by decide +kernel
theorem dX10_formatArgument_28 : decode cX10_formatArgument 28 = .ok (.aload_n 0, 1) := by decide +kernel
theorem dX10_formatArgument_29 : decode cX10_formatArgument 29 = .ok (.getfield 64, 3) := by decide +kernel
theorem dX10_formatArgument_32 : decode cX10_formatArgument 32 = .ok (.iload_n 1, 1) := by decide +kernel
theorem dX10_formatArgument_33 : decode cX10_formatArgument 33 = .ok (.invokevirtual 308, 3) := by decide +kernel
theorem dX10_formatArgument_36 : decode cX10_formatArgument 36 = .ok (.bipush 40, 2) := by decide +kernel
theorem dX10_formatArgument_38 : decode cX10_formatArgument 38 = .ok (.invokevirtual 312, 3) := by decide +kernel
theorem dX10_formatArgument_41 : decode cX10_formatArgument 41 = .ok (.aload_n 0, 1) := by decide +kernel
theorem dX10_formatArgument_42 : decode cX10_formatArgument 42 = .ok (.getfield 12, 3) := by decide +kernel
theorem dX10_formatArgument_45 : decode cX10_formatArgument 45 = .ok (.iload_n 2, 1) := by decide +kernel
theorem dX10_formatArgument_46 : decode cX10_formatArgument 46 = .ok (.invokevirtual 145, 3) := by decide +kernel
theorem dX10_formatArgument_49 : decode cX10_formatArgument 49 = .ok (.invokevirtual 308, 3) := by decide +kernel
theorem dX10_formatArgument_52 : decode cX10_formatArgument 52 = .ok (.bipush 47, 2) := by decide +kernel
theorem dX10_formatArgument_54 : decode cX10_formatArgument 54 = .ok (.invokevirtual 312, 3) := by decide +kernel
theorem dX10_formatArgument_57 : decode cX10_formatArgument 57 = .ok (.aload_n 0, 1) := by decide +kernel
theorem dX10_formatArgument_58 : decode cX10_formatArgument 58 = .ok (.getfield 12, 3) := by decide +kernel
theorem dX10_formatArgument_61 : decode cX10_formatArgument 61 = .ok (.getfield 135, 3) := by decide +kernel
theorem dX10_formatArgument_64 : decode cX10_formatArgument 64 = .ok (.iload_n 2, 1) := by decide +kernel
theorem dX10_formatArgument_65 : decode cX10_formatArgument 65 = .ok (.iaload, 1) := by decide +kernel
theorem dX10_formatArgument_66 : decode cX10_formatArgument 66 = .ok (.invokevirtual 308, 3) := by decide +kernel
theorem dX10_formatArgument_69 : decode cX10_formatArgument 69 = .ok (.bipush 41, 2) := by decide +kernel
theorem dX10_formatArgument_71 : decode cX10_formatArgument 71 = .ok (.invokevirtual 312, 3) := by decide +kernel
theorem dX10_formatArgument_74 : decode cX10_formatArgument 74 = .ok (.pop, 1) := by decide +kernel
theorem dX10_formatArgument_75 : decode cX10_formatArgument 75 = .ok (.aload_n 0, 1) := by decide +kernel
theorem dX10_formatArgument_76 : decode cX10_formatArgument 76 = .ok (.getfield 64, 3) := by decide +kernel
theorem dX10_formatArgument_79 : decode cX10_formatArgument 79 = .ok (.aload_n 0, 1) := by decide +kernel
theorem dX10_formatArgument_80 : decode cX10_formatArgument 80 = .ok (.getfield 32, 3) := by decide +kernel
theorem dX10_formatArgument_83 : decode cX10_formatArgument 83 = .ok (.iload_n 2, 1) := by decide +kernel
theorem dX10_formatArgument_84 : decode cX10_formatArgument 84 = .ok (.invokevirtual 178, 3) := by decide +kernel
theorem dX10_formatArgument_87 : decode cX10_formatArgument 87 = .ok (.invokevirtual 312, 3) := by decide +kernel
theorem dX10_formatArgument_90 : decode cX10_formatArgument 90 = .ok (.pop, 1) := by decide +kernel
theorem dX10_formatArgument_91 : decode cX10_formatArgument 91 = .ok (.iconst 0, 1) := by decide +kernel
theorem dX10_formatArgument_92 : decode cX10_formatArgument 92 = .ok (.istore_n 3, 1) := by decide +kernel
theorem dX10_formatArgument_93 : decode cX10_formatArgument 93 = .ok (.iload_n 3, 1) := by decide +kernel
theorem dX10_formatArgument_94 : decode cX10_formatArgument 94 = .ok (.aload_n 0, 1) := by decide +kernel
theorem dX10_formatArgument_95 : decode cX10_formatArgument 95 = .ok (.getfield 12, 3) := by decide +kernel
theorem dX10_formatArgument_98 : decode cX10_formatArgument 98 = .ok (.getfield 121, 3) := by decide +kernel
theorem dX10_formatArgument_101 : decode cX10_formatArgument 101 = .ok (.if_icmp .ge 47, 3) := by decide +kernel
theorem dX10_formatArgument_104 : decode cX10_formatArgument 104 = .ok (.aload_n 0, 1) := by decide +kernel
theorem dX10_formatArgument_105 : decode cX10_formatArgument 105 = .ok (.getfield 12, 3) := by decide +kernel
theorem dX10_formatArgument_108 : decode cX10_formatArgument 108 = .ok (.getfield 164, 3) := by decide +kernel
theorem dX10_formatArgument_111 : decode cX10_formatArgument 111 = .ok (.iload_n 2, 1) := by decide +kernel
theorem dX10_formatArgument_112 : decode cX10_formatArgument 112 = .ok (.iaload, 1) := by decide +kernel
theorem dX10_formatArgument_113 : decode cX10_formatArgument 113 = .ok (.iload_n 3, 1) := by decide +kernel
theorem dX10_formatArgument_114 : decode cX10_formatArgument 114 = .ok (.invokestatic 155, 3) := by decide +kernel
theorem dX10_formatArgument_117 : decode cX10_formatArgument 117 = .ok (.ifCond .eq 25, 3) := by decide +kernel
theorem dX10_formatArgument_120 : decode cX10_formatArgument 120 = .ok (.aload_n 0, 1) := by decide +kernel
theorem dX10_formatArgument_121 : decode cX10_formatArgument 121 = .ok (.getfield 64, 3) := by decide +kernel
theorem dX10_formatArgument_124 : decode cX10_formatArgument 124 = .ok (.bipush 60, 2) := by decide +kernel
theorem dX10_formatArgument_126 : decode cX10_formatArgument 126 = .ok (.invokevirtual 312, 3) := by decide +kernel
theorem dX10_formatArgument_129 : decode cX10_formatArgument 129 = .ok (.aload_n 0, 1) := by decide +kernel
theorem dX10_formatArgument_130 : decode cX10_formatArgument 130 = .ok (.getfield 12, 3) := by decide +kernel
theorem dX10_formatArgument_133 : decode cX10_formatArgument 133 = .ok (.getfield 131, 3) := by decide +kernel
theorem dX10_formatArgument_136 : decode cX10_formatArgument 136 = .ok (.iload_n 3, 1) := by decide +kernel
theorem dX10_formatArgument_137 : decode cX10_formatArgument 137 = .ok (.iaload, 1) := by decide +kernel
theorem dX10_formatArgument_138 : decode cX10_formatArgument 138 = .ok (.invokevirtual 308, 3) := by decide +kernel
theorem dX10_formatArgument_141 : decode cX10_formatArgument 141 = .ok (.pop, 1) := by decide +kernel
theorem dX10_formatArgument_142 : decode cX10_formatArgument 142 = .ok (.iinc 3 1, 3) := by decide +kernel
theorem dX10_formatArgument_145 : decode cX10_formatArgument 145 = .ok (.goto (-52), 3) := by decide +kernel
theorem dX10_formatArgument_148 : decode cX10_formatArgument 148 = .ok (.aload_n 0, 1) := by decide +kernel
theorem dX10_formatArgument_149 : decode cX10_formatArgument 149 = .ok (.getfield 64, 3) := by decide +kernel
theorem dX10_formatArgument_152 : decode cX10_formatArgument 152 = .ok (.invokevirtual 315, 3) := by decide +kernel
theorem dX10_formatArgument_155 : decode cX10_formatArgument 155 = .ok (.ireturn, 1) := by decide +kernel
theorem dX10_formatDialogue_0 : decode cX10_formatDialogue 0 = .ok (.aload_n 0, 1) := by decide +kernel
theorem dX10_formatDialogue_1 : decode cX10_formatDialogue 1 = .ok (.getfield 12, 3) := by decide +kernel
theorem dX10_formatDialogue_4 : decode cX10_formatDialogue 4 = .ok (.getfield 247, 3) := by decide +kernel
theorem dX10_formatDialogue_7 : decode cX10_formatDialogue 7 = .ok (.astore_n 1, 1) := by decide +kernel
theorem dX10_formatDialogue_8 : decode cX10_formatDialogue 8 = .ok (.aload_n 1, 1) := by decide +kernel
theorem dX10_formatDialogue_9 : decode cX10_formatDialogue 9 = .ok (.invokevirtual 318, 3) := by decide +kernel
theorem dX10_formatDialogue_12 : decode cX10_formatDialogue 12 = .ok (.aload_n 0, 1) := by decide +kernel
theorem dX10_formatDialogue_13 : decode cX10_formatDialogue 13 = .ok (.getfield 64, 3) := by decide +kernel
theorem dX10_formatDialogue_16 : decode cX10_formatDialogue 16 = .ok (.iconst 0, 1) := by decide +kernel
theorem dX10_formatDialogue_17 : decode cX10_formatDialogue 17 = .ok (.invokevirtual 304, 3) := by decide +kernel
theorem dX10_formatDialogue_20 : decode cX10_formatDialogue 20 = .ok (.iconst 0, 1) := by decide +kernel
theorem dX10_formatDialogue_21 : decode cX10_formatDialogue 21 = .ok (.istore_n 2, 1) := by decide +kernel
theorem dX10_formatDialogue_22 : decode cX10_formatDialogue 22 = .ok (.iload_n 2, 1) := by decide +kernel
theorem dX10_formatDialogue_23 : decode cX10_formatDialogue 23 = .ok (.aload_n 1, 1) := by decide +kernel
theorem dX10_formatDialogue_24 : decode cX10_formatDialogue 24 = .ok (.getfield 257, 3) := by decide +kernel
theorem dX10_formatDialogue_27 : decode cX10_formatDialogue 27 = .ok (.if_icmp .ge 54, 3) := by decide +kernel
theorem dX10_formatDialogue_30 : decode cX10_formatDialogue 30 = .ok (.iload_n 2, 1) := by decide +kernel
theorem dX10_formatDialogue_31 : decode cX10_formatDialogue 31 = .ok (.ifCond .le 13, 3) := by decide +kernel
theorem dX10_formatDialogue_34 : decode cX10_formatDialogue 34 = .ok (.aload_n 0, 1) := by decide +kernel
theorem dX10_formatDialogue_35 : decode cX10_formatDialogue 35 = .ok (.getfield 64, 3) := by decide +kernel
theorem dX10_formatDialogue_38 : decode cX10_formatDialogue 38 = .ok (.bipush 32, 2) := by decide +kernel
theorem dX10_formatDialogue_40 : decode cX10_formatDialogue 40 = .ok (.invokevirtual 312, 3) := by decide +kernel
theorem dX10_formatDialogue_43 : decode cX10_formatDialogue 43 = .ok (.pop, 1) := by decide +kernel
theorem dX10_formatDialogue_44 : decode cX10_formatDialogue 44 = .ok (.aload_n 0, 1) := by decide +kernel
theorem dX10_formatDialogue_45 : decode cX10_formatDialogue 45 = .ok (.getfield 64, 3) := by decide +kernel
theorem dX10_formatDialogue_48 : decode cX10_formatDialogue 48 = .ok (.iload_n 2, 1) := by decide +kernel
theorem dX10_formatDialogue_49 : decode cX10_formatDialogue 49 = .ok (.invokestatic 321, 3) := by decide +kernel
theorem dX10_formatDialogue_52 : decode cX10_formatDialogue 52 = .ok (.ifCond .eq 8, 3) := by decide +kernel
theorem dX10_formatDialogue_55 : decode cX10_formatDialogue 55 = .ok (.bipush 112, 2) := by decide +kernel
theorem dX10_formatDialogue_57 : decode cX10_formatDialogue 57 = .ok (.goto 5, 3) := by decide +kernel
theorem dX10_formatDialogue_60 : decode cX10_formatDialogue 60 = .ok (.bipush 111, 2) := by decide +kernel
theorem dX10_formatDialogue_62 : decode cX10_formatDialogue 62 = .ok (.invokevirtual 312, 3) := by decide +kernel
theorem dX10_formatDialogue_65 : decode cX10_formatDialogue 65 = .ok (.aload_n 1, 1) := by decide +kernel
theorem dX10_formatDialogue_66 : decode cX10_formatDialogue 66 = .ok (.getfield 260, 3) := by decide +kernel
theorem dX10_formatDialogue_69 : decode cX10_formatDialogue 69 = .ok (.iload_n 2, 1) := by decide +kernel
theorem dX10_formatDialogue_70 : decode cX10_formatDialogue 70 = .ok (.iaload, 1) := by decide +kernel
theorem dX10_formatDialogue_71 : decode cX10_formatDialogue 71 = .ok (.invokevirtual 308, 3) := by decide +kernel
theorem dX10_formatDialogue_74 : decode cX10_formatDialogue 74 = .ok (.pop, 1) := by decide +kernel
theorem dX10_formatDialogue_75 : decode cX10_formatDialogue 75 = .ok (.iinc 2 1, 3) := by decide +kernel
theorem dX10_formatDialogue_78 : decode cX10_formatDialogue 78 = .ok (.goto (-56), 3) := by decide +kernel
theorem dX10_formatDialogue_81 : decode cX10_formatDialogue 81 = .ok (.aload_n 0, 1) := by decide +kernel
theorem dX10_formatDialogue_82 : decode cX10_formatDialogue 82 = .ok (.getfield 64, 3) := by decide +kernel
theorem dX10_formatDialogue_85 : decode cX10_formatDialogue 85 = .ok (.invokevirtual 315, 3) := by decide +kernel
theorem dX10_formatDialogue_88 : decode cX10_formatDialogue 88 = .ok (.ireturn, 1) := by decide +kernel
theorem dX10_lineChar_0 : decode cX10_lineChar 0 = .ok (.iload_n 1, 1) := by decide +kernel
theorem dX10_lineChar_1 : decode cX10_lineChar 1 = .ok (.ifCond .lt 14, 3) := by decide +kernel
theorem dX10_lineChar_4 : decode cX10_lineChar 4 = .ok (.iload_n 1, 1) := by decide +kernel
theorem dX10_lineChar_5 : decode cX10_lineChar 5 = .ok (.aload_n 0, 1) := by decide +kernel
theorem dX10_lineChar_6 : decode cX10_lineChar 6 = .ok (.getfield 64, 3) := by decide +kernel
theorem dX10_lineChar_9 : decode cX10_lineChar 9 = .ok (.invokevirtual 315, 3) := by decide +kernel
theorem dX10_lineChar_12 : decode cX10_lineChar 12 = .ok (.if_icmp .lt 14, 3) := by decide +kernel
theorem dX10_lineChar_15 : decode cX10_lineChar 15 = .ok (.new 124, 3) := by decide +kernel
theorem dX10_lineChar_18 : decode cX10_lineChar 18 = .ok (.dup, 1) := by decide +kernel
theorem dX10_lineChar_19 : decode cX10_lineChar 19 = .ok (.ldc_w 324, 3) := by decide +kernel
theorem dX10_lineChar_22 : decode cX10_lineChar 22 = .ok (.invokespecial 128, 3) := by decide +kernel
theorem dX10_lineChar_25 : decode cX10_lineChar 25 = .ok (.athrow, 1) := by decide +kernel
theorem dX10_lineChar_26 : decode cX10_lineChar 26 = .ok (.aload_n 0, 1) := by decide +kernel
theorem dX10_lineChar_27 : decode cX10_lineChar 27 = .ok (.getfield 64, 3) := by decide +kernel
theorem dX10_lineChar_30 : decode cX10_lineChar 30 = .ok (.iload_n 1, 1) := by decide +kernel
theorem dX10_lineChar_31 : decode cX10_lineChar 31 = .ok (.invokevirtual 326, 3) := by decide +kernel
theorem dX10_lineChar_34 : decode cX10_lineChar 34 = .ok (.ireturn, 1) := by decide +kernel
theorem dX10_change_0 : decode cX10_change 0 = .ok (.aload_n 0, 1) := by decide +kernel
theorem dX10_change_1 : decode cX10_change 1 = .ok (.getfield 25, 3) := by decide +kernel
theorem dX10_change_4 : decode cX10_change 4 = .ok (.aload_n 0, 1) := by decide +kernel
theorem dX10_change_5 : decode cX10_change 5 = .ok (.getfield 12, 3) := by decide +kernel
theorem dX10_change_8 : decode cX10_change 8 = .ok (.invokevirtual 345, 3) := by decide +kernel
theorem dX10_change_11 : decode cX10_change 11 = .ok (.aload_n 0, 1) := by decide +kernel
theorem dX10_change_12 : decode cX10_change 12 = .ok (.getfield 12, 3) := by decide +kernel
theorem dX10_change_15 : decode cX10_change 15 = .ok (.aload_n 1, 1) := by decide +kernel
theorem dX10_change_16 : decode cX10_change 16 = .ok (.iload_n 2, 1) := by decide +kernel
theorem dX10_change_17 : decode cX10_change 17 = .ok (.iload_n 3, 1) := by decide +kernel
theorem dX10_change_18 : decode cX10_change 18 = .ok (.invokevirtual 378, 3) := by decide +kernel
theorem dX10_change_21 : decode cX10_change 21 = .ok (.istore 4, 2) := by decide +kernel
theorem dX10_change_23 : decode cX10_change 23 = .ok (.aload_n 0, 1) := by decide +kernel
theorem dX10_change_24 : decode cX10_change 24 = .ok (.getfield 25, 3) := by decide +kernel
theorem dX10_change_27 : decode cX10_change 27 = .ok (.invokevirtual 357, 3) := by decide +kernel
theorem dX10_change_30 : decode cX10_change 30 = .ok (.iload 4, 2) := by decide +kernel
theorem dX10_change_32 : decode cX10_change 32 = .ok (.ireturn, 1) := by decide +kernel
theorem dX10_labelsAgreeWithGame_0 : decode cX10_labelsAgreeWithGame 0 = .ok (.aload_n 0, 1) := by decide +kernel
theorem dX10_labelsAgreeWithGame_1 : decode cX10_labelsAgreeWithGame 1 = .ok (.getfield 32, 3) := by decide +kernel
theorem dX10_labelsAgreeWithGame_4 : decode cX10_labelsAgreeWithGame 4 = .ok (.aload_n 0, 1) := by decide +kernel
theorem dX10_labelsAgreeWithGame_5 : decode cX10_labelsAgreeWithGame 5 = .ok (.getfield 12, 3) := by decide +kernel
theorem dX10_labelsAgreeWithGame_8 : decode cX10_labelsAgreeWithGame 8 = .ok (.invokevirtual 174, 3) := by decide +kernel
theorem dX10_labelsAgreeWithGame_11 : decode cX10_labelsAgreeWithGame 11 = .ok (.iconst 0, 1) := by decide +kernel
theorem dX10_labelsAgreeWithGame_12 : decode cX10_labelsAgreeWithGame 12 = .ok (.istore_n 1, 1) := by decide +kernel
theorem dX10_labelsAgreeWithGame_13 : decode cX10_labelsAgreeWithGame 13 = .ok (.iload_n 1, 1) := by decide +kernel
theorem dX10_labelsAgreeWithGame_14 : decode cX10_labelsAgreeWithGame 14 = .ok (.aload_n 0, 1) := by decide +kernel
theorem dX10_labelsAgreeWithGame_15 : decode cX10_labelsAgreeWithGame 15 = .ok (.getfield 12, 3) := by decide +kernel
theorem dX10_labelsAgreeWithGame_18 : decode cX10_labelsAgreeWithGame 18 = .ok (.getfield 121, 3) := by decide +kernel
theorem dX10_labelsAgreeWithGame_21 : decode cX10_labelsAgreeWithGame 21 = .ok (.if_icmp .ge 37, 3) := by decide +kernel
theorem dX10_labelsAgreeWithGame_24 : decode cX10_labelsAgreeWithGame 24 = .ok (.aload_n 0, 1) := by decide +kernel
theorem dX10_labelsAgreeWithGame_25 : decode cX10_labelsAgreeWithGame 25 = .ok (.getfield 32, 3) := by decide +kernel
theorem dX10_labelsAgreeWithGame_28 : decode cX10_labelsAgreeWithGame 28 = .ok (.getfield 195, 3) := by decide +kernel
theorem dX10_labelsAgreeWithGame_31 : decode cX10_labelsAgreeWithGame 31 = .ok (.iload_n 1, 1) := by decide +kernel
theorem dX10_labelsAgreeWithGame_32 : decode cX10_labelsAgreeWithGame 32 = .ok (.invokestatic 155, 3) := by decide +kernel
theorem dX10_labelsAgreeWithGame_35 : decode cX10_labelsAgreeWithGame 35 = .ok (.aload_n 0, 1) := by decide +kernel
theorem dX10_labelsAgreeWithGame_36 : decode cX10_labelsAgreeWithGame 36 = .ok (.getfield 39, 3) := by decide +kernel
theorem dX10_labelsAgreeWithGame_39 : decode cX10_labelsAgreeWithGame 39 = .ok (.aload_n 0, 1) := by decide +kernel
theorem dX10_labelsAgreeWithGame_40 : decode cX10_labelsAgreeWithGame 40 = .ok (.getfield 12, 3) := by decide +kernel
theorem dX10_labelsAgreeWithGame_43 : decode cX10_labelsAgreeWithGame 43 = .ok (.iload_n 1, 1) := by decide +kernel
theorem dX10_labelsAgreeWithGame_44 : decode cX10_labelsAgreeWithGame 44 = .ok (.invokevirtual 187, 3) := by decide +kernel
theorem dX10_labelsAgreeWithGame_47 : decode cX10_labelsAgreeWithGame 47 = .ok (.if_icmp .eq 5, 3) := by decide +kernel
theorem dX10_labelsAgreeWithGame_50 : decode cX10_labelsAgreeWithGame 50 = .ok (.iconst 0, 1) := by decide +kernel
theorem dX10_labelsAgreeWithGame_51 : decode cX10_labelsAgreeWithGame 51 = .ok (.ireturn, 1) := by decide +kernel
theorem dX10_labelsAgreeWithGame_52 : decode cX10_labelsAgreeWithGame 52 = .ok (.iinc 1 1, 3) := by decide +kernel
theorem dX10_labelsAgreeWithGame_55 : decode cX10_labelsAgreeWithGame 55 = .ok (.goto (-42), 3) := by decide +kernel
theorem dX10_labelsAgreeWithGame_58 : decode cX10_labelsAgreeWithGame 58 = .ok (.iconst 1, 1) := by decide +kernel
theorem dX10_labelsAgreeWithGame_59 : decode cX10_labelsAgreeWithGame 59 = .ok (.ireturn, 1) := by decide +kernel
theorem dX10_has_0 : decode cX10_has 0 = .ok (.iload_n 0, 1) := by decide +kernel
theorem dX10_has_1 : decode cX10_has 1 = .ok (.iload_n 1, 1) := by decide +kernel
theorem dX10_has_2 : decode cX10_has 2 = .ok (.ishr, 1) := by decide +kernel
theorem dX10_has_3 : decode cX10_has 3 = .ok (.iconst 1, 1) := by decide +kernel
theorem dX10_has_4 : decode cX10_has 4 = .ok (.iand, 1) := by decide +kernel
theorem dX10_has_5 : decode cX10_has 5 = .ok (.ifCond .eq 7, 3) := by decide +kernel
theorem dX10_has_8 : decode cX10_has 8 = .ok (.iconst 1, 1) := by decide +kernel
theorem dX10_has_9 : decode cX10_has 9 = .ok (.goto 4, 3) := by decide +kernel
theorem dX10_has_12 : decode cX10_has 12 = .ok (.iconst 0, 1) := by decide +kernel
theorem dX10_has_13 : decode cX10_has 13 = .ok (.ireturn, 1) := by decide +kernel
theorem dJ5_init_d00df_0 : decode cJ5_init_d00df 0 = .ok (.aload_n 0, 1) := by decide +kernel
theorem dJ5_init_d00df_1 : decode cJ5_init_d00df 1 = .ok (.invokespecial 3, 3) := by decide +kernel
theorem dJ5_init_d00df_4 : decode cJ5_init_d00df 4 = .ok (.getstatic 18, 3) := by decide +kernel
theorem dJ5_init_d00df_7 : decode cJ5_init_d00df 7 = .ok (.ifCond .eq 18, 3) := by decide +kernel
theorem dJ5_init_d00df_10 : decode cJ5_init_d00df 10 = .ok (.aload_n 0, 1) := by decide +kernel
theorem dJ5_init_d00df_11 : decode cJ5_init_d00df 11 = .ok (.iload_n 1, 1) := by decide +kernel
theorem dJ5_init_d00df_12 : decode cJ5_init_d00df 12 = .ok (.newarray .byte, 2) := by decide +kernel
theorem dJ5_init_d00df_14 : decode cJ5_init_d00df 14 = .ok (.putfield 15, 3) := by decide +kernel
theorem dJ5_init_d00df_17 : decode cJ5_init_d00df 17 = .ok (.aload_n 0, 1) := by decide +kernel
theorem dJ5_init_d00df_18 : decode cJ5_init_d00df 18 = .ok (.iconst 0, 1) := by decide +kernel
theorem dJ5_init_d00df_19 : decode cJ5_init_d00df 19 = .ok (.putfield 22, 3) := by decide +kernel
theorem dJ5_init_d00df_22 : decode cJ5_init_d00df 22 = .ok (.goto 16, 3) := by decide +kernel
theorem dJ5_init_d00df_25 : decode cJ5_init_d00df 25 = .ok (.aload_n 0, 1) := by decide +kernel
theorem dJ5_init_d00df_26 : decode cJ5_init_d00df 26 = .ok (.iload_n 1, 1) := by decide +kernel
theorem dJ5_init_d00df_27 : decode cJ5_init_d00df 27 = .ok (.invokestatic 26, 3) := by decide +kernel
theorem dJ5_init_d00df_30 : decode cJ5_init_d00df 30 = .ok (.putfield 15, 3) := by decide +kernel
theorem dJ5_init_d00df_33 : decode cJ5_init_d00df 33 = .ok (.aload_n 0, 1) := by decide +kernel
theorem dJ5_init_d00df_34 : decode cJ5_init_d00df 34 = .ok (.iconst 1, 1) := by decide +kernel
theorem dJ5_init_d00df_35 : decode cJ5_init_d00df 35 = .ok (.putfield 22, 3) := by decide +kernel
theorem dJ5_init_d00df_38 : decode cJ5_init_d00df 38 = .ok (.return_, 1) := by decide +kernel
theorem dJ5_length_8abf5_0 : decode cJ5_length_8abf5 0 = .ok (.aload_n 0, 1) := by decide +kernel
theorem dJ5_length_8abf5_1 : decode cJ5_length_8abf5 1 = .ok (.getfield 79, 3) := by decide +kernel
theorem dJ5_length_8abf5_4 : decode cJ5_length_8abf5 4 = .ok (.ireturn, 1) := by decide +kernel
theorem dJ5_ensureCapacityInternal_d00df_0 : decode cJ5_ensureCapacityInternal_d00df 0 = .ok (.aload_n 0, 1) := by decide +kernel
theorem dJ5_ensureCapacityInternal_d00df_1 : decode cJ5_ensureCapacityInternal_d00df 1 = .ok (.getfield 15, 3) := by decide +kernel
theorem dJ5_ensureCapacityInternal_d00df_4 : decode cJ5_ensureCapacityInternal_d00df 4 = .ok (.arraylength, 1) := by decide +kernel
theorem dJ5_ensureCapacityInternal_d00df_5 : decode cJ5_ensureCapacityInternal_d00df 5 = .ok (.aload_n 0, 1) := by decide +kernel
theorem dJ5_ensureCapacityInternal_d00df_6 : decode cJ5_ensureCapacityInternal_d00df 6 = .ok (.getfield 22, 3) := by decide +kernel
theorem dJ5_ensureCapacityInternal_d00df_9 : decode cJ5_ensureCapacityInternal_d00df 9 = .ok (.ishr, 1) := by decide +kernel
theorem dJ5_ensureCapacityInternal_d00df_10 : decode cJ5_ensureCapacityInternal_d00df 10 = .ok (.istore_n 2, 1) := by decide +kernel
theorem dJ5_ensureCapacityInternal_d00df_11 : decode cJ5_ensureCapacityInternal_d00df 11 = .ok (.iload_n 1, 1) := by decide +kernel
theorem dJ5_ensureCapacityInternal_d00df_12 : decode cJ5_ensureCapacityInternal_d00df 12 = .ok (.iload_n 2, 1) := by decide +kernel
theorem dJ5_ensureCapacityInternal_d00df_13 : decode cJ5_ensureCapacityInternal_d00df 13 = .ok (.isub, 1) := by decide +kernel
theorem dJ5_ensureCapacityInternal_d00df_14 : decode cJ5_ensureCapacityInternal_d00df 14 = .ok (.ifCond .le 24, 3) := by decide +kernel
theorem dJ5_ensureCapacityInternal_d00df_17 : decode cJ5_ensureCapacityInternal_d00df 17 = .ok (.aload_n 0, 1) := by decide +kernel
theorem dJ5_ensureCapacityInternal_d00df_18 : decode cJ5_ensureCapacityInternal_d00df 18 = .ok (.aload_n 0, 1) := by decide +kernel
theorem dJ5_ensureCapacityInternal_d00df_19 : decode cJ5_ensureCapacityInternal_d00df 19 = .ok (.getfield 15, 3) := by decide +kernel
theorem dJ5_ensureCapacityInternal_d00df_22 : decode cJ5_ensureCapacityInternal_d00df 22 = .ok (.aload_n 0, 1) := by decide +kernel
theorem dJ5_ensureCapacityInternal_d00df_23 : decode cJ5_ensureCapacityInternal_d00df 23 = .ok (.iload_n 1, 1) := by decide +kernel
theorem dJ5_ensureCapacityInternal_d00df_24 : decode cJ5_ensureCapacityInternal_d00df 24 = .ok (.invokevirtual 104, 3) := by decide +kernel
theorem dJ5_ensureCapacityInternal_d00df_27 : decode cJ5_ensureCapacityInternal_d00df 27 = .ok (.aload_n 0, 1) := by decide +kernel
theorem dJ5_ensureCapacityInternal_d00df_28 : decode cJ5_ensureCapacityInternal_d00df 28 = .ok (.getfield 22, 3) := by decide +kernel
theorem dJ5_ensureCapacityInternal_d00df_31 : decode cJ5_ensureCapacityInternal_d00df 31 = .ok (.ishl, 1) := by decide +kernel
theorem dJ5_ensureCapacityInternal_d00df_32 : decode cJ5_ensureCapacityInternal_d00df 32 = .ok (.invokestatic 108, 3) := by decide +kernel
theorem dJ5_ensureCapacityInternal_d00df_35 : decode cJ5_ensureCapacityInternal_d00df 35 = .ok (.putfield 15, 3) := by decide +kernel
theorem dJ5_ensureCapacityInternal_d00df_38 : decode cJ5_ensureCapacityInternal_d00df 38 = .ok (.return_, 1) := by decide +kernel
theorem dJ5_newCapacity_0f7a4_0 : decode cJ5_newCapacity_0f7a4 0 = .ok (.aload_n 0, 1) := by decide +kernel
theorem dJ5_newCapacity_0f7a4_1 : decode cJ5_newCapacity_0f7a4 1 = .ok (.getfield 15, 3) := by decide +kernel
theorem dJ5_newCapacity_0f7a4_4 : decode cJ5_newCapacity_0f7a4 4 = .ok (.arraylength, 1) := by decide +kernel
theorem dJ5_newCapacity_0f7a4_5 : decode cJ5_newCapacity_0f7a4 5 = .ok (.istore_n 2, 1) := by decide +kernel
theorem dJ5_newCapacity_0f7a4_6 : decode cJ5_newCapacity_0f7a4 6 = .ok (.iload_n 1, 1) := by decide +kernel
theorem dJ5_newCapacity_0f7a4_7 : decode cJ5_newCapacity_0f7a4 7 = .ok (.aload_n 0, 1) := by decide +kernel
theorem dJ5_newCapacity_0f7a4_8 : decode cJ5_newCapacity_0f7a4 8 = .ok (.getfield 22, 3) := by decide +kernel
theorem dJ5_newCapacity_0f7a4_11 : decode cJ5_newCapacity_0f7a4 11 = .ok (.ishl, 1) := by decide +kernel
theorem dJ5_newCapacity_0f7a4_12 : decode cJ5_newCapacity_0f7a4 12 = .ok (.istore_n 3, 1) := by decide +kernel
theorem dJ5_newCapacity_0f7a4_13 : decode cJ5_newCapacity_0f7a4 13 = .ok (.iload_n 3, 1) := by decide +kernel
theorem dJ5_newCapacity_0f7a4_14 : decode cJ5_newCapacity_0f7a4 14 = .ok (.iload_n 2, 1) := by decide +kernel
theorem dJ5_newCapacity_0f7a4_15 : decode cJ5_newCapacity_0f7a4 15 = .ok (.isub, 1) := by decide +kernel
theorem dJ5_newCapacity_0f7a4_16 : decode cJ5_newCapacity_0f7a4 16 = .ok (.istore 4, 2) := by decide +kernel
theorem dJ5_newCapacity_0f7a4_18 : decode cJ5_newCapacity_0f7a4 18 = .ok (.iload_n 2, 1) := by decide +kernel
theorem dJ5_newCapacity_0f7a4_19 : decode cJ5_newCapacity_0f7a4 19 = .ok (.iload 4, 2) := by decide +kernel
theorem dJ5_newCapacity_0f7a4_21 : decode cJ5_newCapacity_0f7a4 21 = .ok (.iload_n 2, 1) := by decide +kernel
theorem dJ5_newCapacity_0f7a4_22 : decode cJ5_newCapacity_0f7a4 22 = .ok (.iconst 2, 1) := by decide +kernel
theorem dJ5_newCapacity_0f7a4_23 : decode cJ5_newCapacity_0f7a4 23 = .ok (.aload_n 0, 1) := by decide +kernel
theorem dJ5_newCapacity_0f7a4_24 : decode cJ5_newCapacity_0f7a4 24 = .ok (.getfield 22, 3) := by decide +kernel
theorem dJ5_newCapacity_0f7a4_27 : decode cJ5_newCapacity_0f7a4 27 = .ok (.ishl, 1) := by decide +kernel
theorem dJ5_newCapacity_0f7a4_28 : decode cJ5_newCapacity_0f7a4 28 = .ok (.iadd, 1) := by decide +kernel
theorem dJ5_newCapacity_0f7a4_29 : decode cJ5_newCapacity_0f7a4 29 = .ok (.invokestatic 114, 3) := by decide +kernel
theorem dJ5_newCapacity_0f7a4_32 : decode cJ5_newCapacity_0f7a4 32 = .ok (.istore 5, 2) := by decide +kernel
theorem dJ5_newCapacity_0f7a4_34 : decode cJ5_newCapacity_0f7a4 34 = .ok (.iload 5, 2) := by decide +kernel
theorem dJ5_newCapacity_0f7a4_36 : decode cJ5_newCapacity_0f7a4 36 = .ok (.ldc 39, 2) := by decide +kernel
theorem dJ5_newCapacity_0f7a4_38 : decode cJ5_newCapacity_0f7a4 38 = .ok (.if_icmp .ne 13, 3) := by decide +kernel
theorem dJ5_newCapacity_0f7a4_41 : decode cJ5_newCapacity_0f7a4 41 = .ok (.new 120, 3) := by decide +kernel
theorem dJ5_newCapacity_0f7a4_44 : decode cJ5_newCapacity_0f7a4 44 = .ok (.dup, 1) := by decide +kernel
theorem dJ5_newCapacity_0f7a4_45 : decode cJ5_newCapacity_0f7a4 45 = .ok (.ldc 122, 2) := by decide +kernel
theorem dJ5_newCapacity_0f7a4_47 : decode cJ5_newCapacity_0f7a4 47 = .ok (.invokespecial 124, 3) := by decide +kernel
theorem dJ5_newCapacity_0f7a4_50 : decode cJ5_newCapacity_0f7a4 50 = .ok (.athrow, 1) := by decide +kernel
theorem dJ5_newCapacity_0f7a4_51 : decode cJ5_newCapacity_0f7a4 51 = .ok (.iload 5, 2) := by decide +kernel
theorem dJ5_newCapacity_0f7a4_53 : decode cJ5_newCapacity_0f7a4 53 = .ok (.aload_n 0, 1) := by decide +kernel
theorem dJ5_newCapacity_0f7a4_54 : decode cJ5_newCapacity_0f7a4 54 = .ok (.getfield 22, 3) := by decide +kernel
theorem dJ5_newCapacity_0f7a4_57 : decode cJ5_newCapacity_0f7a4 57 = .ok (.ishr, 1) := by decide +kernel
theorem dJ5_newCapacity_0f7a4_58 : decode cJ5_newCapacity_0f7a4 58 = .ok (.ireturn, 1) := by decide +kernel
theorem dJ5_setLength_d00df_0 : decode cJ5_setLength_d00df 0 = .ok (.iload_n 1, 1) := by decide +kernel
theorem dJ5_setLength_d00df_1 : decode cJ5_setLength_d00df 1 = .ok (.ifCond .ge 12, 3) := by decide +kernel
theorem dJ5_setLength_d00df_4 : decode cJ5_setLength_d00df 4 = .ok (.new 129, 3) := by decide +kernel
theorem dJ5_setLength_d00df_7 : decode cJ5_setLength_d00df 7 = .ok (.dup, 1) := by decide +kernel
theorem dJ5_setLength_d00df_8 : decode cJ5_setLength_d00df 8 = .ok (.iload_n 1, 1) := by decide +kernel
theorem dJ5_setLength_d00df_9 : decode cJ5_setLength_d00df 9 = .ok (.invokespecial 131, 3) := by decide +kernel
theorem dJ5_setLength_d00df_12 : decode cJ5_setLength_d00df 12 = .ok (.athrow, 1) := by decide +kernel
theorem dJ5_setLength_d00df_13 : decode cJ5_setLength_d00df 13 = .ok (.aload_n 0, 1) := by decide +kernel
theorem dJ5_setLength_d00df_14 : decode cJ5_setLength_d00df 14 = .ok (.iload_n 1, 1) := by decide +kernel
theorem dJ5_setLength_d00df_15 : decode cJ5_setLength_d00df 15 = .ok (.invokevirtual 100, 3) := by decide +kernel
theorem dJ5_setLength_d00df_18 : decode cJ5_setLength_d00df 18 = .ok (.aload_n 0, 1) := by decide +kernel
theorem dJ5_setLength_d00df_19 : decode cJ5_setLength_d00df 19 = .ok (.getfield 79, 3) := by decide +kernel
theorem dJ5_setLength_d00df_22 : decode cJ5_setLength_d00df 22 = .ok (.iload_n 1, 1) := by decide +kernel
theorem dJ5_setLength_d00df_23 : decode cJ5_setLength_d00df 23 = .ok (.if_icmp .ge 40, 3) := by decide +kernel
theorem dJ5_setLength_d00df_26 : decode cJ5_setLength_d00df 26 = .ok (.aload_n 0, 1) := by decide +kernel
theorem dJ5_setLength_d00df_27 : decode cJ5_setLength_d00df 27 = .ok (.invokevirtual 83, 3) := by decide +kernel
theorem dJ5_setLength_d00df_30 : decode cJ5_setLength_d00df 30 = .ok (.ifCond .eq 18, 3) := by decide +kernel
theorem dJ5_setLength_d00df_33 : decode cJ5_setLength_d00df 33 = .ok (.aload_n 0, 1) := by decide +kernel
theorem dJ5_setLength_d00df_34 : decode cJ5_setLength_d00df 34 = .ok (.getfield 15, 3) := by decide +kernel
theorem dJ5_setLength_d00df_37 : decode cJ5_setLength_d00df 37 = .ok (.aload_n 0, 1) := by decide +kernel
theorem dJ5_setLength_d00df_38 : decode cJ5_setLength_d00df 38 = .ok (.getfield 79, 3) := by decide +kernel
theorem dJ5_setLength_d00df_41 : decode cJ5_setLength_d00df 41 = .ok (.iload_n 1, 1) := by decide +kernel
theorem dJ5_setLength_d00df_42 : decode cJ5_setLength_d00df 42 = .ok (.invokestatic 133, 3) := by decide +kernel
theorem dJ5_setLength_d00df_45 : decode cJ5_setLength_d00df 45 = .ok (.goto 31, 3) := by decide +kernel
theorem dJ5_setLength_d00df_48 : decode cJ5_setLength_d00df 48 = .ok (.aload_n 0, 1) := by decide +kernel
theorem dJ5_setLength_d00df_49 : decode cJ5_setLength_d00df 49 = .ok (.getfield 15, 3) := by decide +kernel
theorem dJ5_setLength_d00df_52 : decode cJ5_setLength_d00df 52 = .ok (.aload_n 0, 1) := by decide +kernel
theorem dJ5_setLength_d00df_53 : decode cJ5_setLength_d00df 53 = .ok (.getfield 79, 3) := by decide +kernel
theorem dJ5_setLength_d00df_56 : decode cJ5_setLength_d00df 56 = .ok (.iload_n 1, 1) := by decide +kernel
theorem dJ5_setLength_d00df_57 : decode cJ5_setLength_d00df 57 = .ok (.invokestatic 137, 3) := by decide +kernel
theorem dJ5_setLength_d00df_60 : decode cJ5_setLength_d00df 60 = .ok (.goto 16, 3) := by decide +kernel
theorem dJ5_setLength_d00df_63 : decode cJ5_setLength_d00df 63 = .ok (.aload_n 0, 1) := by decide +kernel
theorem dJ5_setLength_d00df_64 : decode cJ5_setLength_d00df 64 = .ok (.getfield 79, 3) := by decide +kernel
theorem dJ5_setLength_d00df_67 : decode cJ5_setLength_d00df 67 = .ok (.iload_n 1, 1) := by decide +kernel
theorem dJ5_setLength_d00df_68 : decode cJ5_setLength_d00df 68 = .ok (.if_icmp .le 8, 3) := by decide +kernel
theorem dJ5_setLength_d00df_71 : decode cJ5_setLength_d00df 71 = .ok (.aload_n 0, 1) := by decide +kernel
theorem dJ5_setLength_d00df_72 : decode cJ5_setLength_d00df 72 = .ok (.iconst 1, 1) := by decide +kernel
theorem dJ5_setLength_d00df_73 : decode cJ5_setLength_d00df 73 = .ok (.putfield 73, 3) := by decide +kernel
theorem dJ5_setLength_d00df_76 : decode cJ5_setLength_d00df 76 = .ok (.aload_n 0, 1) := by decide +kernel
theorem dJ5_setLength_d00df_77 : decode cJ5_setLength_d00df 77 = .ok (.iload_n 1, 1) := by decide +kernel
theorem dJ5_setLength_d00df_78 : decode cJ5_setLength_d00df 78 = .ok (.putfield 79, 3) := by decide +kernel
theorem dJ5_setLength_d00df_81 : decode cJ5_setLength_d00df 81 = .ok (.return_, 1) := by decide +kernel
theorem dJ5_charAt_5068e_0 : decode cJ5_charAt_5068e 0 = .ok (.aload_n 0, 1) := by decide +kernel
theorem dJ5_charAt_5068e_1 : decode cJ5_charAt_5068e 1 = .ok (.getfield 22, 3) := by decide +kernel
theorem dJ5_charAt_5068e_4 : decode cJ5_charAt_5068e 4 = .ok (.istore_n 2, 1) := by decide +kernel
theorem dJ5_charAt_5068e_5 : decode cJ5_charAt_5068e 5 = .ok (.aload_n 0, 1) := by decide +kernel
theorem dJ5_charAt_5068e_6 : decode cJ5_charAt_5068e 6 = .ok (.getfield 15, 3) := by decide +kernel
theorem dJ5_charAt_5068e_9 : decode cJ5_charAt_5068e 9 = .ok (.astore_n 3, 1) := by decide +kernel
theorem dJ5_charAt_5068e_10 : decode cJ5_charAt_5068e 10 = .ok (.aload_n 0, 1) := by decide +kernel
theorem dJ5_charAt_5068e_11 : decode cJ5_charAt_5068e 11 = .ok (.getfield 79, 3) := by decide +kernel
theorem dJ5_charAt_5068e_14 : decode cJ5_charAt_5068e 14 = .ok (.aload_n 3, 1) := by decide +kernel
theorem dJ5_charAt_5068e_15 : decode cJ5_charAt_5068e 15 = .ok (.arraylength, 1) := by decide +kernel
theorem dJ5_charAt_5068e_16 : decode cJ5_charAt_5068e 16 = .ok (.iload_n 2, 1) := by decide +kernel
theorem dJ5_charAt_5068e_17 : decode cJ5_charAt_5068e 17 = .ok (.ishr, 1) := by decide +kernel
theorem dJ5_charAt_5068e_18 : decode cJ5_charAt_5068e 18 = .ok (.invokestatic 138, 3) := by decide +kernel
theorem dJ5_charAt_5068e_21 : decode cJ5_charAt_5068e 21 = .ok (.istore 4, 2) := by decide +kernel
theorem dJ5_charAt_5068e_23 : decode cJ5_charAt_5068e 23 = .ok (.iload_n 1, 1) := by decide +kernel
theorem dJ5_charAt_5068e_24 : decode cJ5_charAt_5068e 24 = .ok (.iload 4, 2) := by decide +kernel
theorem dJ5_charAt_5068e_26 : decode cJ5_charAt_5068e 26 = .ok (.invokestatic 144, 3) := by decide +kernel
theorem dJ5_charAt_5068e_29 : decode cJ5_charAt_5068e 29 = .ok (.iload_n 2, 1) := by decide +kernel
theorem dJ5_charAt_5068e_30 : decode cJ5_charAt_5068e 30 = .ok (.ifCond .ne 12, 3) := by decide +kernel
theorem dJ5_charAt_5068e_33 : decode cJ5_charAt_5068e 33 = .ok (.aload_n 3, 1) := by decide +kernel
theorem dJ5_charAt_5068e_34 : decode cJ5_charAt_5068e 34 = .ok (.iload_n 1, 1) := by decide +kernel
theorem dJ5_charAt_5068e_35 : decode cJ5_charAt_5068e 35 = .ok (.baload, 1) := by decide +kernel
theorem dJ5_charAt_5068e_36 : decode cJ5_charAt_5068e 36 = .ok (.sipush 255, 3) := by decide +kernel
theorem dJ5_charAt_5068e_39 : decode cJ5_charAt_5068e 39 = .ok (.iand, 1) := by decide +kernel
theorem dJ5_charAt_5068e_40 : decode cJ5_charAt_5068e 40 = .ok (.i2c, 1) := by decide +kernel
theorem dJ5_charAt_5068e_41 : decode cJ5_charAt_5068e 41 = .ok (.ireturn, 1) := by decide +kernel
theorem dJ5_charAt_5068e_42 : decode cJ5_charAt_5068e 42 = .ok (.aload_n 3, 1) := by decide +kernel
theorem dJ5_charAt_5068e_43 : decode cJ5_charAt_5068e 43 = .ok (.iload_n 1, 1) := by decide +kernel
theorem dJ5_charAt_5068e_44 : decode cJ5_charAt_5068e 44 = .ok (.invokestatic 148, 3) := by decide +kernel
theorem dJ5_charAt_5068e_47 : decode cJ5_charAt_5068e 47 = .ok (.ireturn, 1) := by decide +kernel
theorem dJ5_append_cf1ce_0 : decode cJ5_append_cf1ce 0 = .ok (.aload_n 1, 1) := by decide +kernel
theorem dJ5_append_cf1ce_1 : decode cJ5_append_cf1ce 1 = .ok (.ifnonnull 8, 3) := by decide +kernel
theorem dJ5_append_cf1ce_4 : decode cJ5_append_cf1ce 4 = .ok (.aload_n 0, 1) := by decide +kernel
theorem dJ5_append_cf1ce_5 : decode cJ5_append_cf1ce 5 = .ok (.invokevirtual 204, 3) := by decide +kernel
theorem dJ5_append_cf1ce_8 : decode cJ5_append_cf1ce 8 = .ok (.areturn, 1) := by decide +kernel
theorem dJ5_append_cf1ce_9 : decode cJ5_append_cf1ce 9 = .ok (.aload_n 1, 1) := by decide +kernel
theorem dJ5_append_cf1ce_10 : decode cJ5_append_cf1ce 10 = .ok (.invokevirtual 32, 3) := by decide +kernel
theorem dJ5_append_cf1ce_13 : decode cJ5_append_cf1ce 13 = .ok (.istore_n 2, 1) := by decide +kernel
theorem dJ5_append_cf1ce_14 : decode cJ5_append_cf1ce 14 = .ok (.aload_n 0, 1) := by decide +kernel
theorem dJ5_append_cf1ce_15 : decode cJ5_append_cf1ce 15 = .ok (.aload_n 0, 1) := by decide +kernel
theorem dJ5_append_cf1ce_16 : decode cJ5_append_cf1ce 16 = .ok (.getfield 79, 3) := by decide +kernel
theorem dJ5_append_cf1ce_19 : decode cJ5_append_cf1ce 19 = .ok (.iload_n 2, 1) := by decide +kernel
theorem dJ5_append_cf1ce_20 : decode cJ5_append_cf1ce 20 = .ok (.iadd, 1) := by decide +kernel
theorem dJ5_append_cf1ce_21 : decode cJ5_append_cf1ce 21 = .ok (.invokevirtual 100, 3) := by decide +kernel
theorem dJ5_append_cf1ce_24 : decode cJ5_append_cf1ce 24 = .ok (.aload_n 0, 1) := by decide +kernel
theorem dJ5_append_cf1ce_25 : decode cJ5_append_cf1ce 25 = .ok (.aload_n 0, 1) := by decide +kernel
theorem dJ5_append_cf1ce_26 : decode cJ5_append_cf1ce 26 = .ok (.getfield 79, 3) := by decide +kernel
theorem dJ5_append_cf1ce_29 : decode cJ5_append_cf1ce 29 = .ok (.aload_n 1, 1) := by decide +kernel
theorem dJ5_append_cf1ce_30 : decode cJ5_append_cf1ce 30 = .ok (.invokevirtual 208, 3) := by decide +kernel
theorem dJ5_append_cf1ce_33 : decode cJ5_append_cf1ce 33 = .ok (.aload_n 0, 1) := by decide +kernel
theorem dJ5_append_cf1ce_34 : decode cJ5_append_cf1ce 34 = .ok (.dup, 1) := by decide +kernel
theorem dJ5_append_cf1ce_35 : decode cJ5_append_cf1ce 35 = .ok (.getfield 79, 3) := by decide +kernel
theorem dJ5_append_cf1ce_38 : decode cJ5_append_cf1ce 38 = .ok (.iload_n 2, 1) := by decide +kernel
theorem dJ5_append_cf1ce_39 : decode cJ5_append_cf1ce 39 = .ok (.iadd, 1) := by decide +kernel
theorem dJ5_append_cf1ce_40 : decode cJ5_append_cf1ce 40 = .ok (.putfield 79, 3) := by decide +kernel
theorem dJ5_append_cf1ce_43 : decode cJ5_append_cf1ce 43 = .ok (.aload_n 0, 1) := by decide +kernel
theorem dJ5_append_cf1ce_44 : decode cJ5_append_cf1ce 44 = .ok (.areturn, 1) := by decide +kernel
theorem dJ5_append_3fe6f_0 : decode cJ5_append_3fe6f 0 = .ok (.aload_n 0, 1) := by decide +kernel
theorem dJ5_append_3fe6f_1 : decode cJ5_append_3fe6f 1 = .ok (.aload_n 0, 1) := by decide +kernel
theorem dJ5_append_3fe6f_2 : decode cJ5_append_3fe6f 2 = .ok (.getfield 79, 3) := by decide +kernel
theorem dJ5_append_3fe6f_5 : decode cJ5_append_3fe6f 5 = .ok (.iconst 1, 1) := by decide +kernel
theorem dJ5_append_3fe6f_6 : decode cJ5_append_3fe6f 6 = .ok (.iadd, 1) := by decide +kernel
theorem dJ5_append_3fe6f_7 : decode cJ5_append_3fe6f 7 = .ok (.invokevirtual 100, 3) := by decide +kernel
theorem dJ5_append_3fe6f_10 : decode cJ5_append_3fe6f 10 = .ok (.aload_n 0, 1) := by decide +kernel
theorem dJ5_append_3fe6f_11 : decode cJ5_append_3fe6f 11 = .ok (.invokevirtual 83, 3) := by decide +kernel
theorem dJ5_append_3fe6f_14 : decode cJ5_append_3fe6f 14 = .ok (.ifCond .eq 31, 3) := by decide +kernel
theorem dJ5_append_3fe6f_17 : decode cJ5_append_3fe6f 17 = .ok (.iload_n 1, 1) := by decide +kernel
theorem dJ5_append_3fe6f_18 : decode cJ5_append_3fe6f 18 = .ok (.invokestatic 191, 3) := by decide +kernel
theorem dJ5_append_3fe6f_21 : decode cJ5_append_3fe6f 21 = .ok (.ifCond .eq 24, 3) := by decide +kernel
theorem dJ5_append_3fe6f_24 : decode cJ5_append_3fe6f 24 = .ok (.aload_n 0, 1) := by decide +kernel
theorem dJ5_append_3fe6f_25 : decode cJ5_append_3fe6f 25 = .ok (.getfield 15, 3) := by decide +kernel
theorem dJ5_append_3fe6f_28 : decode cJ5_append_3fe6f 28 = .ok (.aload_n 0, 1) := by decide +kernel
theorem dJ5_append_3fe6f_29 : decode cJ5_append_3fe6f 29 = .ok (.dup, 1) := by decide +kernel
theorem dJ5_append_3fe6f_30 : decode cJ5_append_3fe6f 30 = .ok (.getfield 79, 3) := by decide +kernel
theorem dJ5_append_3fe6f_33 : decode cJ5_append_3fe6f 33 = .ok (.dup_x1, 1) := by decide +kernel
theorem dJ5_append_3fe6f_34 : decode cJ5_append_3fe6f 34 = .ok (.iconst 1, 1) := by decide +kernel
theorem dJ5_append_3fe6f_35 : decode cJ5_append_3fe6f 35 = .ok (.iadd, 1) := by decide +kernel
theorem dJ5_append_3fe6f_36 : decode cJ5_append_3fe6f 36 = .ok (.putfield 79, 3) := by decide +kernel
theorem dJ5_append_3fe6f_39 : decode cJ5_append_3fe6f 39 = .ok (.iload_n 1, 1) := by decide +kernel
theorem dJ5_append_3fe6f_40 : decode cJ5_append_3fe6f 40 = .ok (.i2b, 1) := by decide +kernel
theorem dJ5_append_3fe6f_41 : decode cJ5_append_3fe6f 41 = .ok (.bastore, 1) := by decide +kernel
theorem dJ5_append_3fe6f_42 : decode cJ5_append_3fe6f 42 = .ok (.goto 33, 3) := by decide +kernel
theorem dJ5_append_3fe6f_45 : decode cJ5_append_3fe6f 45 = .ok (.aload_n 0, 1) := by decide +kernel
theorem dJ5_append_3fe6f_46 : decode cJ5_append_3fe6f 46 = .ok (.invokevirtual 83, 3) := by decide +kernel
theorem dJ5_append_3fe6f_49 : decode cJ5_append_3fe6f 49 = .ok (.ifCond .eq 7, 3) := by decide +kernel
theorem dJ5_append_3fe6f_52 : decode cJ5_append_3fe6f 52 = .ok (.aload_n 0, 1) := by decide +kernel
theorem dJ5_append_3fe6f_53 : decode cJ5_append_3fe6f 53 = .ok (.invokevirtual 195, 3) := by decide +kernel
theorem dJ5_append_3fe6f_56 : decode cJ5_append_3fe6f 56 = .ok (.aload_n 0, 1) := by decide +kernel
theorem dJ5_append_3fe6f_57 : decode cJ5_append_3fe6f 57 = .ok (.getfield 15, 3) := by decide +kernel
theorem dJ5_append_3fe6f_60 : decode cJ5_append_3fe6f 60 = .ok (.aload_n 0, 1) := by decide +kernel
theorem dJ5_append_3fe6f_61 : decode cJ5_append_3fe6f 61 = .ok (.dup, 1) := by decide +kernel
theorem dJ5_append_3fe6f_62 : decode cJ5_append_3fe6f 62 = .ok (.getfield 79, 3) := by decide +kernel
theorem dJ5_append_3fe6f_65 : decode cJ5_append_3fe6f 65 = .ok (.dup_x1, 1) := by decide +kernel
theorem dJ5_append_3fe6f_66 : decode cJ5_append_3fe6f 66 = .ok (.iconst 1, 1) := by decide +kernel
theorem dJ5_append_3fe6f_67 : decode cJ5_append_3fe6f 67 = .ok (.iadd, 1) := by decide +kernel
theorem dJ5_append_3fe6f_68 : decode cJ5_append_3fe6f 68 = .ok (.putfield 79, 3) := by decide +kernel
theorem dJ5_append_3fe6f_71 : decode cJ5_append_3fe6f 71 = .ok (.iload_n 1, 1) := by decide +kernel
theorem dJ5_append_3fe6f_72 : decode cJ5_append_3fe6f 72 = .ok (.invokestatic 197, 3) := by decide +kernel
theorem dJ5_append_3fe6f_75 : decode cJ5_append_3fe6f 75 = .ok (.aload_n 0, 1) := by decide +kernel
theorem dJ5_append_3fe6f_76 : decode cJ5_append_3fe6f 76 = .ok (.areturn, 1) := by decide +kernel
theorem dJ5_append_c97b9_0 : decode cJ5_append_c97b9 0 = .ok (.aload_n 0, 1) := by decide +kernel
theorem dJ5_append_c97b9_1 : decode cJ5_append_c97b9 1 = .ok (.getfield 79, 3) := by decide +kernel
theorem dJ5_append_c97b9_4 : decode cJ5_append_c97b9 4 = .ok (.istore_n 2, 1) := by decide +kernel
theorem dJ5_append_c97b9_5 : decode cJ5_append_c97b9 5 = .ok (.iload_n 2, 1) := by decide +kernel
theorem dJ5_append_c97b9_6 : decode cJ5_append_c97b9 6 = .ok (.iload_n 1, 1) := by decide +kernel
theorem dJ5_append_c97b9_7 : decode cJ5_append_c97b9 7 = .ok (.invokestatic 245, 3) := by decide +kernel
theorem dJ5_append_c97b9_10 : decode cJ5_append_c97b9 10 = .ok (.iadd, 1) := by decide +kernel
theorem dJ5_append_c97b9_11 : decode cJ5_append_c97b9 11 = .ok (.istore_n 3, 1) := by decide +kernel
theorem dJ5_append_c97b9_12 : decode cJ5_append_c97b9 12 = .ok (.aload_n 0, 1) := by decide +kernel
theorem dJ5_append_c97b9_13 : decode cJ5_append_c97b9 13 = .ok (.iload_n 3, 1) := by decide +kernel
theorem dJ5_append_c97b9_14 : decode cJ5_append_c97b9 14 = .ok (.invokevirtual 100, 3) := by decide +kernel
theorem dJ5_append_c97b9_17 : decode cJ5_append_c97b9 17 = .ok (.aload_n 0, 1) := by decide +kernel
theorem dJ5_append_c97b9_18 : decode cJ5_append_c97b9 18 = .ok (.invokevirtual 83, 3) := by decide +kernel
theorem dJ5_append_c97b9_21 : decode cJ5_append_c97b9 21 = .ok (.ifCond .eq 16, 3) := by decide +kernel
theorem dJ5_append_c97b9_24 : decode cJ5_append_c97b9 24 = .ok (.iload_n 1, 1) := by decide +kernel
theorem dJ5_append_c97b9_25 : decode cJ5_append_c97b9 25 = .ok (.iload_n 3, 1) := by decide +kernel
theorem dJ5_append_c97b9_26 : decode cJ5_append_c97b9 26 = .ok (.aload_n 0, 1) := by decide +kernel
theorem dJ5_append_c97b9_27 : decode cJ5_append_c97b9 27 = .ok (.getfield 15, 3) := by decide +kernel
theorem dJ5_append_c97b9_30 : decode cJ5_append_c97b9 30 = .ok (.invokestatic 248, 3) := by decide +kernel
theorem dJ5_append_c97b9_33 : decode cJ5_append_c97b9 33 = .ok (.pop, 1) := by decide +kernel
theorem dJ5_append_c97b9_34 : decode cJ5_append_c97b9 34 = .ok (.goto 14, 3) := by decide +kernel
theorem dJ5_append_c97b9_37 : decode cJ5_append_c97b9 37 = .ok (.iload_n 1, 1) := by decide +kernel
theorem dJ5_append_c97b9_38 : decode cJ5_append_c97b9 38 = .ok (.iload_n 2, 1) := by decide +kernel
theorem dJ5_append_c97b9_39 : decode cJ5_append_c97b9 39 = .ok (.iload_n 3, 1) := by decide +kernel
theorem dJ5_append_c97b9_40 : decode cJ5_append_c97b9 40 = .ok (.aload_n 0, 1) := by decide +kernel
theorem dJ5_append_c97b9_41 : decode cJ5_append_c97b9 41 = .ok (.getfield 15, 3) := by decide +kernel
theorem dJ5_append_c97b9_44 : decode cJ5_append_c97b9 44 = .ok (.invokestatic 251, 3) := by decide +kernel
theorem dJ5_append_c97b9_47 : decode cJ5_append_c97b9 47 = .ok (.pop, 1) := by decide +kernel
theorem dJ5_append_c97b9_48 : decode cJ5_append_c97b9 48 = .ok (.aload_n 0, 1) := by decide +kernel
theorem dJ5_append_c97b9_49 : decode cJ5_append_c97b9 49 = .ok (.iload_n 3, 1) := by decide +kernel
theorem dJ5_append_c97b9_50 : decode cJ5_append_c97b9 50 = .ok (.putfield 79, 3) := by decide +kernel
theorem dJ5_append_c97b9_53 : decode cJ5_append_c97b9 53 = .ok (.aload_n 0, 1) := by decide +kernel
theorem dJ5_append_c97b9_54 : decode cJ5_append_c97b9 54 = .ok (.areturn, 1) := by decide +kernel
theorem dJ5_getValue_6d5f1_0 : decode cJ5_getValue_6d5f1 0 = .ok (.aload_n 0, 1) := by decide +kernel
theorem dJ5_getValue_6d5f1_1 : decode cJ5_getValue_6d5f1 1 = .ok (.getfield 15, 3) := by decide +kernel
theorem dJ5_getValue_6d5f1_4 : decode cJ5_getValue_6d5f1 4 = .ok (.areturn, 1) := by decide +kernel
theorem dJ5_isLatin1_aae02_0 : decode cJ5_isLatin1_aae02 0 = .ok (.getstatic 18, 3) := by decide +kernel
theorem dJ5_isLatin1_aae02_3 : decode cJ5_isLatin1_aae02 3 = .ok (.ifCond .eq 14, 3) := by decide +kernel
theorem dJ5_isLatin1_aae02_6 : decode cJ5_isLatin1_aae02 6 = .ok (.aload_n 0, 1) := by decide +kernel
theorem dJ5_isLatin1_aae02_7 : decode cJ5_isLatin1_aae02 7 = .ok (.getfield 22, 3) := by decide +kernel
theorem dJ5_isLatin1_aae02_10 : decode cJ5_isLatin1_aae02 10 = .ok (.ifCond .ne 7, 3) := by decide +kernel
theorem dJ5_isLatin1_aae02_13 : decode cJ5_isLatin1_aae02 13 = .ok (.iconst 1, 1) := by decide +kernel
theorem dJ5_isLatin1_aae02_14 : decode cJ5_isLatin1_aae02 14 = .ok (.goto 4, 3) := by decide +kernel
theorem dJ5_isLatin1_aae02_17 : decode cJ5_isLatin1_aae02 17 = .ok (.iconst 0, 1) := by decide +kernel
theorem dJ5_isLatin1_aae02_18 : decode cJ5_isLatin1_aae02 18 = .ok (.ireturn, 1) := by decide +kernel
theorem dJ5_inflateIfNeededFor_a7421_0 : decode cJ5_inflateIfNeededFor_a7421 0 = .ok (.getstatic 18, 3) := by decide +kernel
theorem dJ5_inflateIfNeededFor_a7421_3 : decode cJ5_inflateIfNeededFor_a7421 3 = .ok (.ifCond .eq 18, 3) := by decide +kernel
theorem dJ5_inflateIfNeededFor_a7421_6 : decode cJ5_inflateIfNeededFor_a7421 6 = .ok (.aload_n 0, 1) := by decide +kernel
theorem dJ5_inflateIfNeededFor_a7421_7 : decode cJ5_inflateIfNeededFor_a7421 7 = .ok (.getfield 22, 3) := by decide +kernel
theorem dJ5_inflateIfNeededFor_a7421_10 : decode cJ5_inflateIfNeededFor_a7421 10 = .ok (.aload_n 1, 1) := by decide +kernel
theorem dJ5_inflateIfNeededFor_a7421_11 : decode cJ5_inflateIfNeededFor_a7421 11 = .ok (.invokevirtual 40, 3) := by decide +kernel
theorem dJ5_inflateIfNeededFor_a7421_14 : decode cJ5_inflateIfNeededFor_a7421 14 = .ok (.if_icmp .eq 7, 3) := by decide +kernel
theorem dJ5_inflateIfNeededFor_a7421_17 : decode cJ5_inflateIfNeededFor_a7421 17 = .ok (.aload_n 0, 1) := by decide +kernel
theorem dJ5_inflateIfNeededFor_a7421_18 : decode cJ5_inflateIfNeededFor_a7421 18 = .ok (.invokevirtual 195, 3) := by decide +kernel
theorem dJ5_inflateIfNeededFor_a7421_21 : decode cJ5_inflateIfNeededFor_a7421 21 = .ok (.return_, 1) := by decide +kernel
theorem dJ5_putStringAt_47b60_0 : decode cJ5_putStringAt_47b60 0 = .ok (.aload_n 0, 1) := by decide +kernel
theorem dJ5_putStringAt_47b60_1 : decode cJ5_putStringAt_47b60 1 = .ok (.aload_n 2, 1) := by decide +kernel
theorem dJ5_putStringAt_47b60_2 : decode cJ5_putStringAt_47b60 2 = .ok (.invokevirtual 397, 3) := by decide +kernel
theorem dJ5_putStringAt_47b60_5 : decode cJ5_putStringAt_47b60 5 = .ok (.aload_n 2, 1) := by decide +kernel
theorem dJ5_putStringAt_47b60_6 : decode cJ5_putStringAt_47b60 6 = .ok (.aload_n 0, 1) := by decide +kernel
theorem dJ5_putStringAt_47b60_7 : decode cJ5_putStringAt_47b60 7 = .ok (.getfield 15, 3) := by decide +kernel
theorem dJ5_putStringAt_47b60_10 : decode cJ5_putStringAt_47b60 10 = .ok (.iload_n 1, 1) := by decide +kernel
theorem dJ5_putStringAt_47b60_11 : decode cJ5_putStringAt_47b60 11 = .ok (.aload_n 0, 1) := by decide +kernel
theorem dJ5_putStringAt_47b60_12 : decode cJ5_putStringAt_47b60 12 = .ok (.getfield 22, 3) := by decide +kernel
theorem dJ5_putStringAt_47b60_15 : decode cJ5_putStringAt_47b60 15 = .ok (.invokevirtual 399, 3) := by decide +kernel
theorem dJ5_putStringAt_47b60_18 : decode cJ5_putStringAt_47b60 18 = .ok (.return_, 1) := by decide +kernel
theorem dJx00060_init_a7421_0 : decode cJx00060_init_a7421 0 = .ok (.aload_n 0, 1) := by decide +kernel
theorem dJx00060_init_a7421_1 : decode cJx00060_init_a7421 1 = .ok (.aload_n 1, 1) := by decide +kernel
theorem dJx00060_init_a7421_2 : decode cJx00060_init_a7421 2 = .ok (.invokespecial 7, 3) := by decide +kernel
theorem dJx00060_init_a7421_5 : decode cJx00060_init_a7421 5 = .ok (.return_, 1) := by decide +kernel
theorem dJx00060_init_d00df_0 : decode cJx00060_init_d00df 0 = .ok (.aload_n 0, 1) := by decide +kernel
theorem dJx00060_init_d00df_1 : decode cJx00060_init_d00df 1 = .ok (.new 10, 3) := by decide +kernel
theorem dJx00060_init_d00df_4 : decode cJx00060_init_d00df 4 = .ok (.dup, 1) := by decide +kernel
theorem dJx00060_init_d00df_5 : decode cJx00060_init_d00df 5 = .ok (.invokespecial 12, 3) := by decide +kernel
theorem dJx00060_init_d00df_8 : decode cJx00060_init_d00df 8 = .ok (.ldc 13, 2) := by decide +kernel
theorem dJx00060_init_d00df_10 : decode cJx00060_init_d00df 10 = .ok (.invokevirtual 15, 3) := by decide +kernel
theorem dJx00060_init_d00df_13 : decode cJx00060_init_d00df 13 = .ok (.iload_n 1, 1) := by decide +kernel
theorem dJx00060_init_d00df_14 : decode cJx00060_init_d00df 14 = .ok (.invokevirtual 19, 3) := by decide +kernel
theorem dJx00060_init_d00df_17 : decode cJx00060_init_d00df 17 = .ok (.invokevirtual 22, 3) := by decide +kernel
theorem dJx00060_init_d00df_20 : decode cJx00060_init_d00df 20 = .ok (.invokespecial 7, 3) := by decide +kernel
theorem dJx00060_init_d00df_23 : decode cJx00060_init_d00df 23 = .ok (.return_, 1) := by decide +kernel
theorem dJx29ce0_ordinal_8abf5_0 : decode cJx29ce0_ordinal_8abf5 0 = .ok (.aload_n 0, 1) := by decide +kernel
theorem dJx29ce0_ordinal_8abf5_1 : decode cJx29ce0_ordinal_8abf5 1 = .ok (.getfield 7, 3) := by decide +kernel
theorem dJx29ce0_ordinal_8abf5_4 : decode cJx29ce0_ordinal_8abf5 4 = .ok (.ireturn, 1) := by decide +kernel
theorem dJ6_getChars_ba4f3_0 : decode cJ6_getChars_ba4f3 0 = .ok (.iload_n 1, 1) := by decide +kernel
theorem dJ6_getChars_ba4f3_1 : decode cJ6_getChars_ba4f3 1 = .ok (.istore 5, 2) := by decide +kernel
theorem dJ6_getChars_ba4f3_3 : decode cJ6_getChars_ba4f3 3 = .ok (.iload_n 0, 1) := by decide +kernel
theorem dJ6_getChars_ba4f3_4 : decode cJ6_getChars_ba4f3 4 = .ok (.ifCond .ge 7, 3) := by decide +kernel
theorem dJ6_getChars_ba4f3_7 : decode cJ6_getChars_ba4f3 7 = .ok (.iconst 1, 1) := by decide +kernel
theorem dJ6_getChars_ba4f3_8 : decode cJ6_getChars_ba4f3 8 = .ok (.goto 4, 3) := by decide +kernel
theorem dJ6_getChars_ba4f3_11 : decode cJ6_getChars_ba4f3 11 = .ok (.iconst 0, 1) := by decide +kernel
theorem dJ6_getChars_ba4f3_12 : decode cJ6_getChars_ba4f3 12 = .ok (.istore 6, 2) := by decide +kernel
theorem dJ6_getChars_ba4f3_14 : decode cJ6_getChars_ba4f3 14 = .ok (.iload 6, 2) := by decide +kernel
theorem dJ6_getChars_ba4f3_16 : decode cJ6_getChars_ba4f3 16 = .ok (.ifCond .ne 6, 3) := by decide +kernel
theorem dJ6_getChars_ba4f3_19 : decode cJ6_getChars_ba4f3 19 = .ok (.iload_n 0, 1) := by decide +kernel
theorem dJ6_getChars_ba4f3_20 : decode cJ6_getChars_ba4f3 20 = .ok (.ineg, 1) := by decide +kernel
theorem dJ6_getChars_ba4f3_21 : decode cJ6_getChars_ba4f3 21 = .ok (.istore_n 0, 1) := by decide +kernel
theorem dJ6_getChars_ba4f3_22 : decode cJ6_getChars_ba4f3 22 = .ok (.iload_n 0, 1) := by decide +kernel
theorem dJ6_getChars_ba4f3_23 : decode cJ6_getChars_ba4f3 23 = .ok (.bipush (-100), 2) := by decide +kernel
theorem dJ6_getChars_ba4f3_25 : decode cJ6_getChars_ba4f3 25 = .ok (.if_icmp .gt 47, 3) := by decide +kernel
theorem dJ6_getChars_ba4f3_28 : decode cJ6_getChars_ba4f3 28 = .ok (.iload_n 0, 1) := by decide +kernel
theorem dJ6_getChars_ba4f3_29 : decode cJ6_getChars_ba4f3 29 = .ok (.bipush 100, 2) := by decide +kernel
theorem dJ6_getChars_ba4f3_31 : decode cJ6_getChars_ba4f3 31 = .ok (.idiv, 1) := by decide +kernel
theorem dJ6_getChars_ba4f3_32 : decode cJ6_getChars_ba4f3 32 = .ok (.istore_n 3, 1) := by decide +kernel
theorem dJ6_getChars_ba4f3_33 : decode cJ6_getChars_ba4f3 33 = .ok (.iload_n 3, 1) := by decide +kernel
theorem dJ6_getChars_ba4f3_34 : decode cJ6_getChars_ba4f3 34 = .ok (.bipush 100, 2) := by decide +kernel
theorem dJ6_getChars_ba4f3_36 : decode cJ6_getChars_ba4f3 36 = .ok (.imul, 1) := by decide +kernel
theorem dJ6_getChars_ba4f3_37 : decode cJ6_getChars_ba4f3 37 = .ok (.iload_n 0, 1) := by decide +kernel
theorem dJ6_getChars_ba4f3_38 : decode cJ6_getChars_ba4f3 38 = .ok (.isub, 1) := by decide +kernel
theorem dJ6_getChars_ba4f3_39 : decode cJ6_getChars_ba4f3 39 = .ok (.istore 4, 2) := by decide +kernel
theorem dJ6_getChars_ba4f3_41 : decode cJ6_getChars_ba4f3 41 = .ok (.iload_n 3, 1) := by decide +kernel
theorem dJ6_getChars_ba4f3_42 : decode cJ6_getChars_ba4f3 42 = .ok (.istore_n 0, 1) := by decide +kernel
theorem dJ6_getChars_ba4f3_43 : decode cJ6_getChars_ba4f3 43 = .ok (.aload_n 2, 1) := by decide +kernel
theorem dJ6_getChars_ba4f3_44 : decode cJ6_getChars_ba4f3 44 = .ok (.iinc 5 (-1), 3) := by decide +kernel
theorem dJ6_getChars_ba4f3_47 : decode cJ6_getChars_ba4f3 47 = .ok (.iload 5, 2) := by decide +kernel
theorem dJ6_getChars_ba4f3_49 : decode cJ6_getChars_ba4f3 49 = .ok (.getstatic 83, 3) := by decide +kernel
theorem dJ6_getChars_ba4f3_52 : decode cJ6_getChars_ba4f3 52 = .ok (.iload 4, 2) := by decide +kernel
theorem dJ6_getChars_ba4f3_54 : decode cJ6_getChars_ba4f3 54 = .ok (.baload, 1) := by decide +kernel
theorem dJ6_getChars_ba4f3_55 : decode cJ6_getChars_ba4f3 55 = .ok (.bastore, 1) := by decide +kernel
theorem dJ6_getChars_ba4f3_56 : decode cJ6_getChars_ba4f3 56 = .ok (.aload_n 2, 1) := by decide +kernel
theorem dJ6_getChars_ba4f3_57 : decode cJ6_getChars_ba4f3 57 = .ok (.iinc 5 (-1), 3) := by decide +kernel
theorem dJ6_getChars_ba4f3_60 : decode cJ6_getChars_ba4f3 60 = .ok (.iload 5, 2) := by decide +kernel
theorem dJ6_getChars_ba4f3_62 : decode cJ6_getChars_ba4f3 62 = .ok (.getstatic 87, 3) := by decide +kernel
theorem dJ6_getChars_ba4f3_65 : decode cJ6_getChars_ba4f3 65 = .ok (.iload 4, 2) := by decide +kernel
theorem dJ6_getChars_ba4f3_67 : decode cJ6_getChars_ba4f3 67 = .ok (.baload, 1) := by decide +kernel
theorem dJ6_getChars_ba4f3_68 : decode cJ6_getChars_ba4f3 68 = .ok (.bastore, 1) := by decide +kernel
theorem dJ6_getChars_ba4f3_69 : decode cJ6_getChars_ba4f3 69 = .ok (.goto (-47), 3) := by decide +kernel
theorem dJ6_getChars_ba4f3_72 : decode cJ6_getChars_ba4f3 72 = .ok (.aload_n 2, 1) := by decide +kernel
theorem dJ6_getChars_ba4f3_73 : decode cJ6_getChars_ba4f3 73 = .ok (.iinc 5 (-1), 3) := by decide +kernel
theorem dJ6_getChars_ba4f3_76 : decode cJ6_getChars_ba4f3 76 = .ok (.iload 5, 2) := by decide +kernel
theorem dJ6_getChars_ba4f3_78 : decode cJ6_getChars_ba4f3 78 = .ok (.getstatic 83, 3) := by decide +kernel
theorem dJ6_getChars_ba4f3_81 : decode cJ6_getChars_ba4f3 81 = .ok (.iload_n 0, 1) := by decide +kernel
theorem dJ6_getChars_ba4f3_82 : decode cJ6_getChars_ba4f3 82 = .ok (.ineg, 1) := by decide +kernel
theorem dJ6_getChars_ba4f3_83 : decode cJ6_getChars_ba4f3 83 = .ok (.baload, 1) := by decide +kernel
theorem dJ6_getChars_ba4f3_84 : decode cJ6_getChars_ba4f3 84 = .ok (.bastore, 1) := by decide +kernel
theorem dJ6_getChars_ba4f3_85 : decode cJ6_getChars_ba4f3 85 = .ok (.iload_n 0, 1) := by decide +kernel
theorem dJ6_getChars_ba4f3_86 : decode cJ6_getChars_ba4f3 86 = .ok (.bipush (-9), 2) := by decide +kernel
theorem dJ6_getChars_ba4f3_88 : decode cJ6_getChars_ba4f3 88 = .ok (.if_icmp .ge 16, 3) := by decide +kernel
theorem dJ6_getChars_ba4f3_91 : decode cJ6_getChars_ba4f3 91 = .ok (.aload_n 2, 1) := by decide +kernel
theorem dJ6_getChars_ba4f3_92 : decode cJ6_getChars_ba4f3 92 = .ok (.iinc 5 (-1), 3) := by decide +kernel
theorem dJ6_getChars_ba4f3_95 : decode cJ6_getChars_ba4f3 95 = .ok (.iload 5, 2) := by decide +kernel
theorem dJ6_getChars_ba4f3_97 : decode cJ6_getChars_ba4f3 97 = .ok (.getstatic 87, 3) := by decide +kernel
theorem dJ6_getChars_ba4f3_100 : decode cJ6_getChars_ba4f3 100 = .ok (.iload_n 0, 1) := by decide +kernel
theorem dJ6_getChars_ba4f3_101 : decode cJ6_getChars_ba4f3 101 = .ok (.ineg, 1) := by decide +kernel
theorem dJ6_getChars_ba4f3_102 : decode cJ6_getChars_ba4f3 102 = .ok (.baload, 1) := by decide +kernel
theorem dJ6_getChars_ba4f3_103 : decode cJ6_getChars_ba4f3 103 = .ok (.bastore, 1) := by decide +kernel
theorem dJ6_getChars_ba4f3_104 : decode cJ6_getChars_ba4f3 104 = .ok (.iload 6, 2) := by decide +kernel
theorem dJ6_getChars_ba4f3_106 : decode cJ6_getChars_ba4f3 106 = .ok (.ifCond .eq 12, 3) := by decide +kernel
theorem dJ6_getChars_ba4f3_109 : decode cJ6_getChars_ba4f3 109 = .ok (.aload_n 2, 1) := by decide +kernel
theorem dJ6_getChars_ba4f3_110 : decode cJ6_getChars_ba4f3 110 = .ok (.iinc 5 (-1), 3) := by decide +kernel
theorem dJ6_getChars_ba4f3_113 : decode cJ6_getChars_ba4f3 113 = .ok (.iload 5, 2) := by decide +kernel
theorem dJ6_getChars_ba4f3_115 : decode cJ6_getChars_ba4f3 115 = .ok (.bipush 45, 2) := by decide +kernel
theorem dJ6_getChars_ba4f3_117 : decode cJ6_getChars_ba4f3 117 = .ok (.bastore, 1) := by decide +kernel
theorem dJ6_getChars_ba4f3_118 : decode cJ6_getChars_ba4f3 118 = .ok (.iload 5, 2) := by decide +kernel
theorem dJ6_getChars_ba4f3_120 : decode cJ6_getChars_ba4f3 120 = .ok (.ireturn, 1) := by decide +kernel
theorem dJ6_stringSize_0f7a4_0 : decode cJ6_stringSize_0f7a4 0 = .ok (.iconst 1, 1) := by decide +kernel
theorem dJ6_stringSize_0f7a4_1 : decode cJ6_stringSize_0f7a4 1 = .ok (.istore_n 1, 1) := by decide +kernel
theorem dJ6_stringSize_0f7a4_2 : decode cJ6_stringSize_0f7a4 2 = .ok (.iload_n 0, 1) := by decide +kernel
theorem dJ6_stringSize_0f7a4_3 : decode cJ6_stringSize_0f7a4 3 = .ok (.ifCond .lt 8, 3) := by decide +kernel
theorem dJ6_stringSize_0f7a4_6 : decode cJ6_stringSize_0f7a4 6 = .ok (.iconst 0, 1) := by decide +kernel
theorem dJ6_stringSize_0f7a4_7 : decode cJ6_stringSize_0f7a4 7 = .ok (.istore_n 1, 1) := by decide +kernel
theorem dJ6_stringSize_0f7a4_8 : decode cJ6_stringSize_0f7a4 8 = .ok (.iload_n 0, 1) := by decide +kernel
theorem dJ6_stringSize_0f7a4_9 : decode cJ6_stringSize_0f7a4 9 = .ok (.ineg, 1) := by decide +kernel
theorem dJ6_stringSize_0f7a4_10 : decode cJ6_stringSize_0f7a4 10 = .ok (.istore_n 0, 1) := by decide +kernel
theorem dJ6_stringSize_0f7a4_11 : decode cJ6_stringSize_0f7a4 11 = .ok (.bipush (-10), 2) := by decide +kernel
theorem dJ6_stringSize_0f7a4_13 : decode cJ6_stringSize_0f7a4 13 = .ok (.istore_n 2, 1) := by decide +kernel
theorem dJ6_stringSize_0f7a4_14 : decode cJ6_stringSize_0f7a4 14 = .ok (.iconst 1, 1) := by decide +kernel
theorem dJ6_stringSize_0f7a4_15 : decode cJ6_stringSize_0f7a4 15 = .ok (.istore_n 3, 1) := by decide +kernel
theorem dJ6_stringSize_0f7a4_16 : decode cJ6_stringSize_0f7a4 16 = .ok (.iload_n 3, 1) := by decide +kernel
theorem dJ6_stringSize_0f7a4_17 : decode cJ6_stringSize_0f7a4 17 = .ok (.bipush 10, 2) := by decide +kernel
theorem dJ6_stringSize_0f7a4_19 : decode cJ6_stringSize_0f7a4 19 = .ok (.if_icmp .ge 23, 3) := by decide +kernel
theorem dJ6_stringSize_0f7a4_22 : decode cJ6_stringSize_0f7a4 22 = .ok (.iload_n 0, 1) := by decide +kernel
theorem dJ6_stringSize_0f7a4_23 : decode cJ6_stringSize_0f7a4 23 = .ok (.iload_n 2, 1) := by decide +kernel
theorem dJ6_stringSize_0f7a4_24 : decode cJ6_stringSize_0f7a4 24 = .ok (.if_icmp .le 7, 3) := by decide +kernel
theorem dJ6_stringSize_0f7a4_27 : decode cJ6_stringSize_0f7a4 27 = .ok (.iload_n 3, 1) := by decide +kernel
theorem dJ6_stringSize_0f7a4_28 : decode cJ6_stringSize_0f7a4 28 = .ok (.iload_n 1, 1) := by decide +kernel
theorem dJ6_stringSize_0f7a4_29 : decode cJ6_stringSize_0f7a4 29 = .ok (.iadd, 1) := by decide +kernel
theorem dJ6_stringSize_0f7a4_30 : decode cJ6_stringSize_0f7a4 30 = .ok (.ireturn, 1) := by decide +kernel
theorem dJ6_stringSize_0f7a4_31 : decode cJ6_stringSize_0f7a4 31 = .ok (.bipush 10, 2) := by decide +kernel
theorem dJ6_stringSize_0f7a4_33 : decode cJ6_stringSize_0f7a4 33 = .ok (.iload_n 2, 1) := by decide +kernel
theorem dJ6_stringSize_0f7a4_34 : decode cJ6_stringSize_0f7a4 34 = .ok (.imul, 1) := by decide +kernel
theorem dJ6_stringSize_0f7a4_35 : decode cJ6_stringSize_0f7a4 35 = .ok (.istore_n 2, 1) := by decide +kernel
theorem dJ6_stringSize_0f7a4_36 : decode cJ6_stringSize_0f7a4 36 = .ok (.iinc 3 1, 3) := by decide +kernel
theorem dJ6_stringSize_0f7a4_39 : decode cJ6_stringSize_0f7a4 39 = .ok (.goto (-23), 3) := by decide +kernel
theorem dJ6_stringSize_0f7a4_42 : decode cJ6_stringSize_0f7a4 42 = .ok (.bipush 10, 2) := by decide +kernel
theorem dJ6_stringSize_0f7a4_44 : decode cJ6_stringSize_0f7a4 44 = .ok (.iload_n 1, 1) := by decide +kernel
theorem dJ6_stringSize_0f7a4_45 : decode cJ6_stringSize_0f7a4 45 = .ok (.iadd, 1) := by decide +kernel
theorem dJ6_stringSize_0f7a4_46 : decode cJ6_stringSize_0f7a4 46 = .ok (.ireturn, 1) := by decide +kernel
theorem dJ6_bitCount_0f7a4_0 : decode cJ6_bitCount_0f7a4 0 = .ok (.iload_n 0, 1) := by decide +kernel
theorem dJ6_bitCount_0f7a4_1 : decode cJ6_bitCount_0f7a4 1 = .ok (.iload_n 0, 1) := by decide +kernel
theorem dJ6_bitCount_0f7a4_2 : decode cJ6_bitCount_0f7a4 2 = .ok (.iconst 1, 1) := by decide +kernel
theorem dJ6_bitCount_0f7a4_3 : decode cJ6_bitCount_0f7a4 3 = .ok (.iushr, 1) := by decide +kernel
theorem dJ6_bitCount_0f7a4_4 : decode cJ6_bitCount_0f7a4 4 = .ok (.ldc_w 265, 3) := by decide +kernel
theorem dJ6_bitCount_0f7a4_7 : decode cJ6_bitCount_0f7a4 7 = .ok (.iand, 1) := by decide +kernel
theorem dJ6_bitCount_0f7a4_8 : decode cJ6_bitCount_0f7a4 8 = .ok (.isub, 1) := by decide +kernel
theorem dJ6_bitCount_0f7a4_9 : decode cJ6_bitCount_0f7a4 9 = .ok (.istore_n 0, 1) := by decide +kernel
theorem dJ6_bitCount_0f7a4_10 : decode cJ6_bitCount_0f7a4 10 = .ok (.iload_n 0, 1) := by decide +kernel
theorem dJ6_bitCount_0f7a4_11 : decode cJ6_bitCount_0f7a4 11 = .ok (.ldc_w 266, 3) := by decide +kernel
theorem dJ6_bitCount_0f7a4_14 : decode cJ6_bitCount_0f7a4 14 = .ok (.iand, 1) := by decide +kernel
theorem dJ6_bitCount_0f7a4_15 : decode cJ6_bitCount_0f7a4 15 = .ok (.iload_n 0, 1) := by decide +kernel
theorem dJ6_bitCount_0f7a4_16 : decode cJ6_bitCount_0f7a4 16 = .ok (.iconst 2, 1) := by decide +kernel
theorem dJ6_bitCount_0f7a4_17 : decode cJ6_bitCount_0f7a4 17 = .ok (.iushr, 1) := by decide +kernel
theorem dJ6_bitCount_0f7a4_18 : decode cJ6_bitCount_0f7a4 18 = .ok (.ldc_w 266, 3) := by decide +kernel
theorem dJ6_bitCount_0f7a4_21 : decode cJ6_bitCount_0f7a4 21 = .ok (.iand, 1) := by decide +kernel
theorem dJ6_bitCount_0f7a4_22 : decode cJ6_bitCount_0f7a4 22 = .ok (.iadd, 1) := by decide +kernel
theorem dJ6_bitCount_0f7a4_23 : decode cJ6_bitCount_0f7a4 23 = .ok (.istore_n 0, 1) := by decide +kernel
theorem dJ6_bitCount_0f7a4_24 : decode cJ6_bitCount_0f7a4 24 = .ok (.iload_n 0, 1) := by decide +kernel
theorem dJ6_bitCount_0f7a4_25 : decode cJ6_bitCount_0f7a4 25 = .ok (.iload_n 0, 1) := by decide +kernel
theorem dJ6_bitCount_0f7a4_26 : decode cJ6_bitCount_0f7a4 26 = .ok (.iconst 4, 1) := by decide +kernel
theorem dJ6_bitCount_0f7a4_27 : decode cJ6_bitCount_0f7a4 27 = .ok (.iushr, 1) := by decide +kernel
theorem dJ6_bitCount_0f7a4_28 : decode cJ6_bitCount_0f7a4 28 = .ok (.iadd, 1) := by decide +kernel
theorem dJ6_bitCount_0f7a4_29 : decode cJ6_bitCount_0f7a4 29 = .ok (.ldc_w 267, 3) := by decide +kernel
theorem dJ6_bitCount_0f7a4_32 : decode cJ6_bitCount_0f7a4 32 = .ok (.iand, 1) := by decide +kernel
theorem dJ6_bitCount_0f7a4_33 : decode cJ6_bitCount_0f7a4 33 = .ok (.istore_n 0, 1) := by decide +kernel
theorem dJ6_bitCount_0f7a4_34 : decode cJ6_bitCount_0f7a4 34 = .ok (.iload_n 0, 1) := by decide +kernel
theorem dJ6_bitCount_0f7a4_35 : decode cJ6_bitCount_0f7a4 35 = .ok (.iload_n 0, 1) := by decide +kernel
theorem dJ6_bitCount_0f7a4_36 : decode cJ6_bitCount_0f7a4 36 = .ok (.bipush 8, 2) := by decide +kernel
theorem dJ6_bitCount_0f7a4_38 : decode cJ6_bitCount_0f7a4 38 = .ok (.iushr, 1) := by decide +kernel
theorem dJ6_bitCount_0f7a4_39 : decode cJ6_bitCount_0f7a4 39 = .ok (.iadd, 1) := by decide +kernel
theorem dJ6_bitCount_0f7a4_40 : decode cJ6_bitCount_0f7a4 40 = .ok (.istore_n 0, 1) := by decide +kernel
theorem dJ6_bitCount_0f7a4_41 : decode cJ6_bitCount_0f7a4 41 = .ok (.iload_n 0, 1) := by decide +kernel
theorem dJ6_bitCount_0f7a4_42 : decode cJ6_bitCount_0f7a4 42 = .ok (.iload_n 0, 1) := by decide +kernel
theorem dJ6_bitCount_0f7a4_43 : decode cJ6_bitCount_0f7a4 43 = .ok (.bipush 16, 2) := by decide +kernel
theorem dJ6_bitCount_0f7a4_45 : decode cJ6_bitCount_0f7a4 45 = .ok (.iushr, 1) := by decide +kernel
theorem dJ6_bitCount_0f7a4_46 : decode cJ6_bitCount_0f7a4 46 = .ok (.iadd, 1) := by decide +kernel
theorem dJ6_bitCount_0f7a4_47 : decode cJ6_bitCount_0f7a4 47 = .ok (.istore_n 0, 1) := by decide +kernel
theorem dJ6_bitCount_0f7a4_48 : decode cJ6_bitCount_0f7a4 48 = .ok (.iload_n 0, 1) := by decide +kernel
theorem dJ6_bitCount_0f7a4_49 : decode cJ6_bitCount_0f7a4 49 = .ok (.bipush 63, 2) := by decide +kernel
theorem dJ6_bitCount_0f7a4_51 : decode cJ6_bitCount_0f7a4 51 = .ok (.iand, 1) := by decide +kernel
theorem dJ6_bitCount_0f7a4_52 : decode cJ6_bitCount_0f7a4 52 = .ok (.ireturn, 1) := by decide +kernel
theorem dJ0_init_81219_0 : decode cJ0_init_81219 0 = .ok (.aload_n 0, 1) := by decide +kernel
theorem dJ0_init_81219_1 : decode cJ0_init_81219 1 = .ok (.aload_n 1, 1) := by decide +kernel
theorem dJ0_init_81219_2 : decode cJ0_init_81219 2 = .ok (.aconst_null, 1) := by decide +kernel
theorem dJ0_init_81219_3 : decode cJ0_init_81219 3 = .ok (.invokespecial 489, 3) := by decide +kernel
theorem dJ0_init_81219_6 : decode cJ0_init_81219 6 = .ok (.return_, 1) := by decide +kernel
theorem dJ0_length_8abf5_0 : decode cJ0_length_8abf5 0 = .ok (.aload_n 0, 1) := by decide +kernel
theorem dJ0_length_8abf5_1 : decode cJ0_length_8abf5 1 = .ok (.getfield 9, 3) := by decide +kernel
theorem dJ0_length_8abf5_4 : decode cJ0_length_8abf5 4 = .ok (.arraylength, 1) := by decide +kernel
theorem dJ0_length_8abf5_5 : decode cJ0_length_8abf5 5 = .ok (.aload_n 0, 1) := by decide +kernel
theorem dJ0_length_8abf5_6 : decode cJ0_length_8abf5 6 = .ok (.invokevirtual 335, 3) := by decide +kernel
theorem dJ0_length_8abf5_9 : decode cJ0_length_8abf5 9 = .ok (.ishr, 1) := by decide +kernel
theorem dJ0_length_8abf5_10 : decode cJ0_length_8abf5 10 = .ok (.ireturn, 1) := by decide +kernel
theorem dJ0_charAt_5068e_0 : decode cJ0_charAt_5068e 0 = .ok (.aload_n 0, 1) := by decide +kernel
theorem dJ0_charAt_5068e_1 : decode cJ0_charAt_5068e 1 = .ok (.invokevirtual 492, 3) := by decide +kernel
theorem dJ0_charAt_5068e_4 : decode cJ0_charAt_5068e 4 = .ok (.ifCond .eq 12, 3) := by decide +kernel
theorem dJ0_charAt_5068e_7 : decode cJ0_charAt_5068e 7 = .ok (.aload_n 0, 1) := by decide +kernel
theorem dJ0_charAt_5068e_8 : decode cJ0_charAt_5068e 8 = .ok (.getfield 9, 3) := by decide +kernel
theorem dJ0_charAt_5068e_11 : decode cJ0_charAt_5068e 11 = .ok (.iload_n 1, 1) := by decide +kernel
theorem dJ0_charAt_5068e_12 : decode cJ0_charAt_5068e 12 = .ok (.invokestatic 495, 3) := by decide +kernel
theorem dJ0_charAt_5068e_15 : decode cJ0_charAt_5068e 15 = .ok (.ireturn, 1) := by decide +kernel
theorem dJ0_charAt_5068e_16 : decode cJ0_charAt_5068e 16 = .ok (.aload_n 0, 1) := by decide +kernel
theorem dJ0_charAt_5068e_17 : decode cJ0_charAt_5068e 17 = .ok (.getfield 9, 3) := by decide +kernel
theorem dJ0_charAt_5068e_20 : decode cJ0_charAt_5068e 20 = .ok (.iload_n 1, 1) := by decide +kernel
theorem dJ0_charAt_5068e_21 : decode cJ0_charAt_5068e 21 = .ok (.invokestatic 498, 3) := by decide +kernel
theorem dJ0_charAt_5068e_24 : decode cJ0_charAt_5068e 24 = .ok (.ireturn, 1) := by decide +kernel
theorem dJ0_getBytes_840e7_0 : decode cJ0_getBytes_840e7 0 = .ok (.aload_n 0, 1) := by decide +kernel
theorem dJ0_getBytes_840e7_1 : decode cJ0_getBytes_840e7 1 = .ok (.invokevirtual 335, 3) := by decide +kernel
theorem dJ0_getBytes_840e7_4 : decode cJ0_getBytes_840e7 4 = .ok (.iload_n 3, 1) := by decide +kernel
theorem dJ0_getBytes_840e7_5 : decode cJ0_getBytes_840e7 5 = .ok (.if_icmp .ne 23, 3) := by decide +kernel
theorem dJ0_getBytes_840e7_8 : decode cJ0_getBytes_840e7 8 = .ok (.aload_n 0, 1) := by decide +kernel
theorem dJ0_getBytes_840e7_9 : decode cJ0_getBytes_840e7 9 = .ok (.getfield 9, 3) := by decide +kernel
theorem dJ0_getBytes_840e7_12 : decode cJ0_getBytes_840e7 12 = .ok (.iconst 0, 1) := by decide +kernel
theorem dJ0_getBytes_840e7_13 : decode cJ0_getBytes_840e7 13 = .ok (.aload_n 1, 1) := by decide +kernel
theorem dJ0_getBytes_840e7_14 : decode cJ0_getBytes_840e7 14 = .ok (.iload_n 2, 1) := by decide +kernel
theorem dJ0_getBytes_840e7_15 : decode cJ0_getBytes_840e7 15 = .ok (.iload_n 3, 1) := by decide +kernel
theorem dJ0_getBytes_840e7_16 : decode cJ0_getBytes_840e7 16 = .ok (.ishl, 1) := by decide +kernel
theorem dJ0_getBytes_840e7_17 : decode cJ0_getBytes_840e7 17 = .ok (.aload_n 0, 1) := by decide +kernel
theorem dJ0_getBytes_840e7_18 : decode cJ0_getBytes_840e7 18 = .ok (.getfield 9, 3) := by decide +kernel
theorem dJ0_getBytes_840e7_21 : decode cJ0_getBytes_840e7 21 = .ok (.arraylength, 1) := by decide +kernel
theorem dJ0_getBytes_840e7_22 : decode cJ0_getBytes_840e7 22 = .ok (.invokestatic 212, 3) := by decide +kernel
theorem dJ0_getBytes_840e7_25 : decode cJ0_getBytes_840e7 25 = .ok (.goto 18, 3) := by decide +kernel
theorem dJ0_getBytes_840e7_28 : decode cJ0_getBytes_840e7 28 = .ok (.aload_n 0, 1) := by decide +kernel
theorem dJ0_getBytes_840e7_29 : decode cJ0_getBytes_840e7 29 = .ok (.getfield 9, 3) := by decide +kernel
theorem dJ0_getBytes_840e7_32 : decode cJ0_getBytes_840e7 32 = .ok (.iconst 0, 1) := by decide +kernel
theorem dJ0_getBytes_840e7_33 : decode cJ0_getBytes_840e7 33 = .ok (.aload_n 1, 1) := by decide +kernel
theorem dJ0_getBytes_840e7_34 : decode cJ0_getBytes_840e7 34 = .ok (.iload_n 2, 1) := by decide +kernel
theorem dJ0_getBytes_840e7_35 : decode cJ0_getBytes_840e7 35 = .ok (.aload_n 0, 1) := by decide +kernel
theorem dJ0_getBytes_840e7_36 : decode cJ0_getBytes_840e7 36 = .ok (.getfield 9, 3) := by decide +kernel
theorem dJ0_getBytes_840e7_39 : decode cJ0_getBytes_840e7 39 = .ok (.arraylength, 1) := by decide +kernel
theorem dJ0_getBytes_840e7_40 : decode cJ0_getBytes_840e7 40 = .ok (.invokestatic 106, 3) := by decide +kernel
theorem dJ0_getBytes_840e7_43 : decode cJ0_getBytes_840e7 43 = .ok (.return_, 1) := by decide +kernel
theorem dJ0_init_db425_0 : decode cJ0_init_db425 0 = .ok (.aload_n 0, 1) := by decide +kernel
theorem dJ0_init_db425_1 : decode cJ0_init_db425 1 = .ok (.invokespecial 1, 3) := by decide +kernel
theorem dJ0_init_db425_4 : decode cJ0_init_db425 4 = .ok (.aload_n 1, 1) := by decide +kernel
theorem dJ0_init_db425_5 : decode cJ0_init_db425 5 = .ok (.invokevirtual 552, 3) := by decide +kernel
theorem dJ0_init_db425_8 : decode cJ0_init_db425 8 = .ok (.astore_n 3, 1) := by decide +kernel
theorem dJ0_init_db425_9 : decode cJ0_init_db425 9 = .ok (.aload_n 1, 1) := by decide +kernel
theorem dJ0_init_db425_10 : decode cJ0_init_db425 10 = .ok (.invokevirtual 549, 3) := by decide +kernel
theorem dJ0_init_db425_13 : decode cJ0_init_db425 13 = .ok (.istore 4, 2) := by decide +kernel
theorem dJ0_init_db425_15 : decode cJ0_init_db425 15 = .ok (.aload_n 1, 1) := by decide +kernel
theorem dJ0_init_db425_16 : decode cJ0_init_db425 16 = .ok (.invokevirtual 1047, 3) := by decide +kernel
theorem dJ0_init_db425_19 : decode cJ0_init_db425 19 = .ok (.ifCond .eq 22, 3) := by decide +kernel
theorem dJ0_init_db425_22 : decode cJ0_init_db425 22 = .ok (.aload_n 0, 1) := by decide +kernel
theorem dJ0_init_db425_23 : decode cJ0_init_db425 23 = .ok (.iconst 0, 1) := by decide +kernel
theorem dJ0_init_db425_24 : decode cJ0_init_db425 24 = .ok (.putfield 15, 3) := by decide +kernel
theorem dJ0_init_db425_27 : decode cJ0_init_db425 27 = .ok (.aload_n 0, 1) := by decide +kernel
theorem dJ0_init_db425_28 : decode cJ0_init_db425 28 = .ok (.aload_n 3, 1) := by decide +kernel
theorem dJ0_init_db425_29 : decode cJ0_init_db425 29 = .ok (.iconst 0, 1) := by decide +kernel
theorem dJ0_init_db425_30 : decode cJ0_init_db425 30 = .ok (.iload 4, 2) := by decide +kernel
theorem dJ0_init_db425_32 : decode cJ0_init_db425 32 = .ok (.invokestatic 54, 3) := by decide +kernel
theorem dJ0_init_db425_35 : decode cJ0_init_db425 35 = .ok (.putfield 9, 3) := by decide +kernel
theorem dJ0_init_db425_38 : decode cJ0_init_db425 38 = .ok (.goto 59, 3) := by decide +kernel
theorem dJ0_init_db425_41 : decode cJ0_init_db425 41 = .ok (.getstatic 38, 3) := by decide +kernel
theorem dJ0_init_db425_44 : decode cJ0_init_db425 44 = .ok (.ifCond .eq 35, 3) := by decide +kernel
theorem dJ0_init_db425_47 : decode cJ0_init_db425 47 = .ok (.aload_n 1, 1) := by decide +kernel
theorem dJ0_init_db425_48 : decode cJ0_init_db425 48 = .ok (.getfield 1048, 3) := by decide +kernel
theorem dJ0_init_db425_51 : decode cJ0_init_db425 51 = .ok (.ifCond .eq 28, 3) := by decide +kernel
theorem dJ0_init_db425_54 : decode cJ0_init_db425 54 = .ok (.aload_n 0, 1) := by decide +kernel
theorem dJ0_init_db425_55 : decode cJ0_init_db425 55 = .ok (.aload_n 3, 1) := by decide +kernel
theorem dJ0_init_db425_56 : decode cJ0_init_db425 56 = .ok (.iconst 0, 1) := by decide +kernel
theorem dJ0_init_db425_57 : decode cJ0_init_db425 57 = .ok (.iload 4, 2) := by decide +kernel
theorem dJ0_init_db425_59 : decode cJ0_init_db425 59 = .ok (.invokestatic 1051, 3) := by decide +kernel
theorem dJ0_init_db425_62 : decode cJ0_init_db425 62 = .ok (.putfield 9, 3) := by decide +kernel
theorem dJ0_init_db425_65 : decode cJ0_init_db425 65 = .ok (.aload_n 0, 1) := by decide +kernel
theorem dJ0_init_db425_66 : decode cJ0_init_db425 66 = .ok (.aload_n 0, 1) := by decide +kernel
theorem dJ0_init_db425_67 : decode cJ0_init_db425 67 = .ok (.getfield 9, 3) := by decide +kernel
theorem dJ0_init_db425_70 : decode cJ0_init_db425 70 = .ok (.iload 4, 2) := by decide +kernel
theorem dJ0_init_db425_72 : decode cJ0_init_db425 72 = .ok (.invokestatic 47, 3) := by decide +kernel
theorem dJ0_init_db425_75 : decode cJ0_init_db425 75 = .ok (.putfield 15, 3) := by decide +kernel
theorem dJ0_init_db425_78 : decode cJ0_init_db425 78 = .ok (.return_, 1) := by decide +kernel
theorem dJ0_init_db425_79 : decode cJ0_init_db425 79 = .ok (.aload_n 0, 1) := by decide +kernel
theorem dJ0_init_db425_80 : decode cJ0_init_db425 80 = .ok (.iconst 1, 1) := by decide +kernel
theorem dJ0_init_db425_81 : decode cJ0_init_db425 81 = .ok (.putfield 15, 3) := by decide +kernel
theorem dJ0_init_db425_84 : decode cJ0_init_db425 84 = .ok (.aload_n 0, 1) := by decide +kernel
theorem dJ0_init_db425_85 : decode cJ0_init_db425 85 = .ok (.aload_n 3, 1) := by decide +kernel
theorem dJ0_init_db425_86 : decode cJ0_init_db425 86 = .ok (.iconst 0, 1) := by decide +kernel
theorem dJ0_init_db425_87 : decode cJ0_init_db425 87 = .ok (.iload 4, 2) := by decide +kernel
theorem dJ0_init_db425_89 : decode cJ0_init_db425 89 = .ok (.iconst 1, 1) := by decide +kernel
theorem dJ0_init_db425_90 : decode cJ0_init_db425 90 = .ok (.ishl, 1) := by decide +kernel
theorem dJ0_init_db425_91 : decode cJ0_init_db425 91 = .ok (.invokestatic 54, 3) := by decide +kernel
theorem dJ0_init_db425_94 : decode cJ0_init_db425 94 = .ok (.putfield 9, 3) := by decide +kernel
theorem dJ0_init_db425_97 : decode cJ0_init_db425 97 = .ok (.return_, 1) := by decide +kernel
theorem dJ0_coder_7d493_0 : decode cJ0_coder_7d493 0 = .ok (.getstatic 38, 3) := by decide +kernel
theorem dJ0_coder_7d493_3 : decode cJ0_coder_7d493 3 = .ok (.ifCond .eq 10, 3) := by decide +kernel
theorem dJ0_coder_7d493_6 : decode cJ0_coder_7d493 6 = .ok (.aload_n 0, 1) := by decide +kernel
theorem dJ0_coder_7d493_7 : decode cJ0_coder_7d493 7 = .ok (.getfield 15, 3) := by decide +kernel
theorem dJ0_coder_7d493_10 : decode cJ0_coder_7d493 10 = .ok (.goto 4, 3) := by decide +kernel
theorem dJ0_coder_7d493_13 : decode cJ0_coder_7d493 13 = .ok (.iconst 1, 1) := by decide +kernel
theorem dJ0_coder_7d493_14 : decode cJ0_coder_7d493 14 = .ok (.ireturn, 1) := by decide +kernel
theorem dJ0_isLatin1_aae02_0 : decode cJ0_isLatin1_aae02 0 = .ok (.getstatic 38, 3) := by decide +kernel
theorem dJ0_isLatin1_aae02_3 : decode cJ0_isLatin1_aae02 3 = .ok (.ifCond .eq 14, 3) := by decide +kernel
theorem dJ0_isLatin1_aae02_6 : decode cJ0_isLatin1_aae02 6 = .ok (.aload_n 0, 1) := by decide +kernel
theorem dJ0_isLatin1_aae02_7 : decode cJ0_isLatin1_aae02 7 = .ok (.getfield 15, 3) := by decide +kernel
theorem dJ0_isLatin1_aae02_10 : decode cJ0_isLatin1_aae02 10 = .ok (.ifCond .ne 7, 3) := by decide +kernel
theorem dJ0_isLatin1_aae02_13 : decode cJ0_isLatin1_aae02 13 = .ok (.iconst 1, 1) := by decide +kernel
theorem dJ0_isLatin1_aae02_14 : decode cJ0_isLatin1_aae02 14 = .ok (.goto 4, 3) := by decide +kernel
theorem dJ0_isLatin1_aae02_17 : decode cJ0_isLatin1_aae02 17 = .ok (.iconst 0, 1) := by decide +kernel
theorem dJ0_isLatin1_aae02_18 : decode cJ0_isLatin1_aae02 18 = .ok (.ireturn, 1) := by decide +kernel
theorem dJ0_checkIndex_df160_0 : decode cJ0_checkIndex_df160 0 = .ok (.iload_n 0, 1) := by decide +kernel
theorem dJ0_checkIndex_df160_1 : decode cJ0_checkIndex_df160 1 = .ok (.iload_n 1, 1) := by decide +kernel
theorem dJ0_checkIndex_df160_2 : decode cJ0_checkIndex_df160 2 = .ok (.getstatic 1053, 3) := by decide +kernel
theorem dJ0_checkIndex_df160_5 : decode cJ0_checkIndex_df160 5 = .ok (.invokestatic 1059, 3) := by decide +kernel
theorem dJ0_checkIndex_df160_8 : decode cJ0_checkIndex_df160 8 = .ok (.pop, 1) := by decide +kernel
theorem dJ0_checkIndex_df160_9 : decode cJ0_checkIndex_df160 9 = .ok (.return_, 1) := by decide +kernel
theorem dJ4_init_da8c8_0 : decode cJ4_init_da8c8 0 = .ok (.aload_n 0, 1) := by decide +kernel
theorem dJ4_init_da8c8_1 : decode cJ4_init_da8c8 1 = .ok (.bipush 16, 2) := by decide +kernel
theorem dJ4_init_da8c8_3 : decode cJ4_init_da8c8 3 = .ok (.invokespecial 1, 3) := by decide +kernel
theorem dJ4_init_da8c8_6 : decode cJ4_init_da8c8 6 = .ok (.return_, 1) := by decide +kernel
theorem dJ4_append_15ec4_0 : decode cJ4_append_15ec4 0 = .ok (.aload_n 0, 1) := by decide +kernel
theorem dJ4_append_15ec4_1 : decode cJ4_append_15ec4 1 = .ok (.aload_n 1, 1) := by decide +kernel
theorem dJ4_append_15ec4_2 : decode cJ4_append_15ec4 2 = .ok (.invokespecial 29, 3) := by decide +kernel
theorem dJ4_append_15ec4_5 : decode cJ4_append_15ec4 5 = .ok (.pop, 1) := by decide +kernel
theorem dJ4_append_15ec4_6 : decode cJ4_append_15ec4 6 = .ok (.aload_n 0, 1) := by decide +kernel
theorem dJ4_append_15ec4_7 : decode cJ4_append_15ec4 7 = .ok (.areturn, 1) := by decide +kernel
theorem dJ4_append_cf468_0 : decode cJ4_append_cf468 0 = .ok (.aload_n 0, 1) := by decide +kernel
theorem dJ4_append_cf468_1 : decode cJ4_append_cf468 1 = .ok (.iload_n 1, 1) := by decide +kernel
theorem dJ4_append_cf468_2 : decode cJ4_append_cf468 2 = .ok (.invokespecial 50, 3) := by decide +kernel
theorem dJ4_append_cf468_5 : decode cJ4_append_cf468 5 = .ok (.pop, 1) := by decide +kernel
theorem dJ4_append_cf468_6 : decode cJ4_append_cf468 6 = .ok (.aload_n 0, 1) := by decide +kernel
theorem dJ4_append_cf468_7 : decode cJ4_append_cf468 7 = .ok (.areturn, 1) := by decide +kernel
theorem dJ4_append_bf812_0 : decode cJ4_append_bf812 0 = .ok (.aload_n 0, 1) := by decide +kernel
theorem dJ4_append_bf812_1 : decode cJ4_append_bf812 1 = .ok (.iload_n 1, 1) := by decide +kernel
theorem dJ4_append_bf812_2 : decode cJ4_append_bf812 2 = .ok (.invokespecial 53, 3) := by decide +kernel
theorem dJ4_append_bf812_5 : decode cJ4_append_bf812 5 = .ok (.pop, 1) := by decide +kernel
theorem dJ4_append_bf812_6 : decode cJ4_append_bf812 6 = .ok (.aload_n 0, 1) := by decide +kernel
theorem dJ4_append_bf812_7 : decode cJ4_append_bf812 7 = .ok (.areturn, 1) := by decide +kernel
theorem dJ4_toString_0e30d_0 : decode cJ4_toString_0e30d 0 = .ok (.new 18, 3) := by decide +kernel
theorem dJ4_toString_0e30d_3 : decode cJ4_toString_0e30d 3 = .ok (.dup, 1) := by decide +kernel
theorem dJ4_toString_0e30d_4 : decode cJ4_toString_0e30d 4 = .ok (.aload_n 0, 1) := by decide +kernel
theorem dJ4_toString_0e30d_5 : decode cJ4_toString_0e30d 5 = .ok (.invokespecial 137, 3) := by decide +kernel
theorem dJ4_toString_0e30d_8 : decode cJ4_toString_0e30d 8 = .ok (.areturn, 1) := by decide +kernel
theorem dJ4_charAt_5068e_0 : decode cJ4_charAt_5068e 0 = .ok (.aload_n 0, 1) := by decide +kernel
theorem dJ4_charAt_5068e_1 : decode cJ4_charAt_5068e 1 = .ok (.iload_n 1, 1) := by decide +kernel
theorem dJ4_charAt_5068e_2 : decode cJ4_charAt_5068e 2 = .ok (.invokespecial 329, 3) := by decide +kernel
theorem dJ4_charAt_5068e_5 : decode cJ4_charAt_5068e 5 = .ok (.ireturn, 1) := by decide +kernel
theorem dJ4_setLength_d00df_0 : decode cJ4_setLength_d00df 0 = .ok (.aload_n 0, 1) := by decide +kernel
theorem dJ4_setLength_d00df_1 : decode cJ4_setLength_d00df 1 = .ok (.iload_n 1, 1) := by decide +kernel
theorem dJ4_setLength_d00df_2 : decode cJ4_setLength_d00df 2 = .ok (.invokespecial 333, 3) := by decide +kernel
theorem dJ4_setLength_d00df_5 : decode cJ4_setLength_d00df 5 = .ok (.return_, 1) := by decide +kernel
theorem dJ4_length_8abf5_0 : decode cJ4_length_8abf5 0 = .ok (.aload_n 0, 1) := by decide +kernel
theorem dJ4_length_8abf5_1 : decode cJ4_length_8abf5 1 = .ok (.invokespecial 343, 3) := by decide +kernel
theorem dJ4_length_8abf5_4 : decode cJ4_length_8abf5 4 = .ok (.ireturn, 1) := by decide +kernel
theorem dJx7c733_init_d00df_0 : decode cJx7c733_init_d00df 0 = .ok (.aload_n 0, 1) := by decide +kernel
theorem dJx7c733_init_d00df_1 : decode cJx7c733_init_d00df 1 = .ok (.new 10, 3) := by decide +kernel
theorem dJx7c733_init_d00df_4 : decode cJx7c733_init_d00df 4 = .ok (.dup, 1) := by decide +kernel
theorem dJx7c733_init_d00df_5 : decode cJx7c733_init_d00df 5 = .ok (.invokespecial 12, 3) := by decide +kernel
theorem dJx7c733_init_d00df_8 : decode cJx7c733_init_d00df 8 = .ok (.ldc 13, 2) := by decide +kernel
theorem dJx7c733_init_d00df_10 : decode cJx7c733_init_d00df 10 = .ok (.invokevirtual 15, 3) := by decide +kernel
theorem dJx7c733_init_d00df_13 : decode cJx7c733_init_d00df 13 = .ok (.iload_n 1, 1) := by decide +kernel
theorem dJx7c733_init_d00df_14 : decode cJx7c733_init_d00df 14 = .ok (.invokevirtual 19, 3) := by decide +kernel
theorem dJx7c733_init_d00df_17 : decode cJx7c733_init_d00df 17 = .ok (.invokevirtual 22, 3) := by decide +kernel
theorem dJx7c733_init_d00df_20 : decode cJx7c733_init_d00df 20 = .ok (.invokespecial 7, 3) := by decide +kernel
theorem dJx7c733_init_d00df_23 : decode cJx7c733_init_d00df 23 = .ok (.return_, 1) := by decide +kernel
theorem dJ1_charAt_3b067_0 : decode cJ1_charAt_3b067 0 = .ok (.iload_n 1, 1) := by decide +kernel
theorem dJ1_charAt_3b067_1 : decode cJ1_charAt_3b067 1 = .ok (.aload_n 0, 1) := by decide +kernel
theorem dJ1_charAt_3b067_2 : decode cJ1_charAt_3b067 2 = .ok (.arraylength, 1) := by decide +kernel
theorem dJ1_charAt_3b067_3 : decode cJ1_charAt_3b067 3 = .ok (.invokestatic 9, 3) := by decide +kernel
theorem dJ1_charAt_3b067_6 : decode cJ1_charAt_3b067 6 = .ok (.aload_n 0, 1) := by decide +kernel
theorem dJ1_charAt_3b067_7 : decode cJ1_charAt_3b067 7 = .ok (.iload_n 1, 1) := by decide +kernel
theorem dJ1_charAt_3b067_8 : decode cJ1_charAt_3b067 8 = .ok (.baload, 1) := by decide +kernel
theorem dJ1_charAt_3b067_9 : decode cJ1_charAt_3b067 9 = .ok (.sipush 255, 3) := by decide +kernel
theorem dJ1_charAt_3b067_12 : decode cJ1_charAt_3b067 12 = .ok (.iand, 1) := by decide +kernel
theorem dJ1_charAt_3b067_13 : decode cJ1_charAt_3b067 13 = .ok (.i2c, 1) := by decide +kernel
theorem dJ1_charAt_3b067_14 : decode cJ1_charAt_3b067 14 = .ok (.ireturn, 1) := by decide +kernel
theorem dJ1_canEncode_fc78d_0 : decode cJ1_canEncode_fc78d 0 = .ok (.iload_n 0, 1) := by decide +kernel
theorem dJ1_canEncode_fc78d_1 : decode cJ1_canEncode_fc78d 1 = .ok (.sipush 255, 3) := by decide +kernel
theorem dJ1_canEncode_fc78d_4 : decode cJ1_canEncode_fc78d 4 = .ok (.if_icmp .gt 7, 3) := by decide +kernel
theorem dJ1_canEncode_fc78d_7 : decode cJ1_canEncode_fc78d 7 = .ok (.iconst 1, 1) := by decide +kernel
theorem dJ1_canEncode_fc78d_8 : decode cJ1_canEncode_fc78d 8 = .ok (.goto 4, 3) := by decide +kernel
theorem dJ1_canEncode_fc78d_11 : decode cJ1_canEncode_fc78d 11 = .ok (.iconst 0, 1) := by decide +kernel
theorem dJ1_canEncode_fc78d_12 : decode cJ1_canEncode_fc78d 12 = .ok (.ireturn, 1) := by decide +kernel
theorem dJ7_fill_53178_0 : decode cJ7_fill_53178 0 = .ok (.iconst 0, 1) := by decide +kernel
theorem dJ7_fill_53178_1 : decode cJ7_fill_53178 1 = .ok (.istore_n 2, 1) := by decide +kernel
theorem dJ7_fill_53178_2 : decode cJ7_fill_53178 2 = .ok (.aload_n 0, 1) := by decide +kernel
theorem dJ7_fill_53178_3 : decode cJ7_fill_53178 3 = .ok (.arraylength, 1) := by decide +kernel
theorem dJ7_fill_53178_4 : decode cJ7_fill_53178 4 = .ok (.istore_n 3, 1) := by decide +kernel
theorem dJ7_fill_53178_5 : decode cJ7_fill_53178 5 = .ok (.iload_n 2, 1) := by decide +kernel
theorem dJ7_fill_53178_6 : decode cJ7_fill_53178 6 = .ok (.iload_n 3, 1) := by decide +kernel
theorem dJ7_fill_53178_7 : decode cJ7_fill_53178 7 = .ok (.if_icmp .ge 13, 3) := by decide +kernel
theorem dJ7_fill_53178_10 : decode cJ7_fill_53178 10 = .ok (.aload_n 0, 1) := by decide +kernel
theorem dJ7_fill_53178_11 : decode cJ7_fill_53178 11 = .ok (.iload_n 2, 1) := by decide +kernel
theorem dJ7_fill_53178_12 : decode cJ7_fill_53178 12 = .ok (.iload_n 1, 1) := by decide +kernel
theorem dJ7_fill_53178_13 : decode cJ7_fill_53178 13 = .ok (.iastore, 1) := by decide +kernel
theorem dJ7_fill_53178_14 : decode cJ7_fill_53178 14 = .ok (.iinc 2 1, 3) := by decide +kernel
theorem dJ7_fill_53178_17 : decode cJ7_fill_53178 17 = .ok (.goto (-12), 3) := by decide +kernel
theorem dJ7_fill_53178_20 : decode cJ7_fill_53178 20 = .ok (.return_, 1) := by decide +kernel
theorem dJ7_copyOf_9075b_0 : decode cJ7_copyOf_9075b 0 = .ok (.iload_n 1, 1) := by decide +kernel
theorem dJ7_copyOf_9075b_1 : decode cJ7_copyOf_9075b 1 = .ok (.aload_n 0, 1) := by decide +kernel
theorem dJ7_copyOf_9075b_2 : decode cJ7_copyOf_9075b 2 = .ok (.arraylength, 1) := by decide +kernel
theorem dJ7_copyOf_9075b_3 : decode cJ7_copyOf_9075b 3 = .ok (.if_icmp .ne 11, 3) := by decide +kernel
theorem dJ7_copyOf_9075b_6 : decode cJ7_copyOf_9075b 6 = .ok (.aload_n 0, 1) := by decide +kernel
theorem dJ7_copyOf_9075b_7 : decode cJ7_copyOf_9075b 7 = .ok (.invokevirtual 310, 3) := by decide +kernel
theorem dJ7_copyOf_9075b_10 : decode cJ7_copyOf_9075b 10 = .ok (.checkcast 311, 3) := by decide +kernel
theorem dJ7_copyOf_9075b_13 : decode cJ7_copyOf_9075b 13 = .ok (.areturn, 1) := by decide +kernel
theorem dJ7_copyOf_9075b_14 : decode cJ7_copyOf_9075b 14 = .ok (.iload_n 1, 1) := by decide +kernel
theorem dJ7_copyOf_9075b_15 : decode cJ7_copyOf_9075b 15 = .ok (.newarray .byte, 2) := by decide +kernel
theorem dJ7_copyOf_9075b_17 : decode cJ7_copyOf_9075b 17 = .ok (.astore_n 2, 1) := by decide +kernel
theorem dJ7_copyOf_9075b_18 : decode cJ7_copyOf_9075b 18 = .ok (.aload_n 0, 1) := by decide +kernel
theorem dJ7_copyOf_9075b_19 : decode cJ7_copyOf_9075b 19 = .ok (.iconst 0, 1) := by decide +kernel
theorem dJ7_copyOf_9075b_20 : decode cJ7_copyOf_9075b 20 = .ok (.aload_n 2, 1) := by decide +kernel
theorem dJ7_copyOf_9075b_21 : decode cJ7_copyOf_9075b 21 = .ok (.iconst 0, 1) := by decide +kernel
theorem dJ7_copyOf_9075b_22 : decode cJ7_copyOf_9075b 22 = .ok (.aload_n 0, 1) := by decide +kernel
theorem dJ7_copyOf_9075b_23 : decode cJ7_copyOf_9075b 23 = .ok (.arraylength, 1) := by decide +kernel
theorem dJ7_copyOf_9075b_24 : decode cJ7_copyOf_9075b 24 = .ok (.iload_n 1, 1) := by decide +kernel
theorem dJ7_copyOf_9075b_25 : decode cJ7_copyOf_9075b 25 = .ok (.invokestatic 304, 3) := by decide +kernel
theorem dJ7_copyOf_9075b_28 : decode cJ7_copyOf_9075b 28 = .ok (.invokestatic 150, 3) := by decide +kernel
theorem dJ7_copyOf_9075b_31 : decode cJ7_copyOf_9075b 31 = .ok (.aload_n 2, 1) := by decide +kernel
theorem dJ7_copyOf_9075b_32 : decode cJ7_copyOf_9075b 32 = .ok (.areturn, 1) := by decide +kernel
theorem dJ7_checkLength_df160_0 : decode cJ7_checkLength_df160 0 = .ok (.iload_n 1, 1) := by decide +kernel
theorem dJ7_checkLength_df160_1 : decode cJ7_checkLength_df160 1 = .ok (.iload_n 0, 1) := by decide +kernel
theorem dJ7_checkLength_df160_2 : decode cJ7_checkLength_df160 2 = .ok (.if_icmp .ge 35, 3) := by decide +kernel
theorem dJ7_checkLength_df160_5 : decode cJ7_checkLength_df160 5 = .ok (.new 43, 3) := by decide +kernel
theorem dJ7_checkLength_df160_8 : decode cJ7_checkLength_df160 8 = .ok (.dup, 1) := by decide +kernel
theorem dJ7_checkLength_df160_9 : decode cJ7_checkLength_df160 9 = .ok (.new 45, 3) := by decide +kernel
theorem dJ7_checkLength_df160_12 : decode cJ7_checkLength_df160 12 = .ok (.dup, 1) := by decide +kernel
theorem dJ7_checkLength_df160_13 : decode cJ7_checkLength_df160 13 = .ok (.invokespecial 47, 3) := by decide +kernel
theorem dJ7_checkLength_df160_16 : decode cJ7_checkLength_df160 16 = .ok (.iload_n 0, 1) := by decide +kernel
theorem dJ7_checkLength_df160_17 : decode cJ7_checkLength_df160 17 = .ok (.invokevirtual 54, 3) := by decide +kernel
theorem dJ7_checkLength_df160_20 : decode cJ7_checkLength_df160 20 = .ok (.ldc_w 337, 3) := by decide +kernel
theorem dJ7_checkLength_df160_23 : decode cJ7_checkLength_df160 23 = .ok (.invokevirtual 50, 3) := by decide +kernel
theorem dJ7_checkLength_df160_26 : decode cJ7_checkLength_df160 26 = .ok (.iload_n 1, 1) := by decide +kernel
theorem dJ7_checkLength_df160_27 : decode cJ7_checkLength_df160 27 = .ok (.invokevirtual 54, 3) := by decide +kernel
theorem dJ7_checkLength_df160_30 : decode cJ7_checkLength_df160 30 = .ok (.invokevirtual 61, 3) := by decide +kernel
theorem dJ7_checkLength_df160_33 : decode cJ7_checkLength_df160 33 = .ok (.invokespecial 65, 3) := by decide +kernel
theorem dJ7_checkLength_df160_36 : decode cJ7_checkLength_df160 36 = .ok (.athrow, 1) := by decide +kernel
theorem dJ7_checkLength_df160_37 : decode cJ7_checkLength_df160 37 = .ok (.return_, 1) := by decide +kernel
theorem dJ7_copyOfRange_39247_0 : decode cJ7_copyOfRange_39247 0 = .ok (.iload_n 1, 1) := by decide +kernel
theorem dJ7_copyOfRange_39247_1 : decode cJ7_copyOfRange_39247 1 = .ok (.ifCond .ne 9, 3) := by decide +kernel
theorem dJ7_copyOfRange_39247_4 : decode cJ7_copyOfRange_39247 4 = .ok (.iload_n 2, 1) := by decide +kernel
theorem dJ7_copyOfRange_39247_5 : decode cJ7_copyOfRange_39247 5 = .ok (.aload_n 0, 1) := by decide +kernel
theorem dJ7_copyOfRange_39247_6 : decode cJ7_copyOfRange_39247 6 = .ok (.arraylength, 1) := by decide +kernel
theorem dJ7_copyOfRange_39247_7 : decode cJ7_copyOfRange_39247 7 = .ok (.if_icmp .eq 10, 3) := by decide +kernel
theorem dJ7_copyOfRange_39247_10 : decode cJ7_copyOfRange_39247 10 = .ok (.aload_n 0, 1) := by decide +kernel
theorem dJ7_copyOfRange_39247_11 : decode cJ7_copyOfRange_39247 11 = .ok (.iload_n 1, 1) := by decide +kernel
theorem dJ7_copyOfRange_39247_12 : decode cJ7_copyOfRange_39247 12 = .ok (.iload_n 2, 1) := by decide +kernel
theorem dJ7_copyOfRange_39247_13 : decode cJ7_copyOfRange_39247 13 = .ok (.invokestatic 339, 3) := by decide +kernel
theorem dJ7_copyOfRange_39247_16 : decode cJ7_copyOfRange_39247 16 = .ok (.areturn, 1) := by decide +kernel
theorem dJ7_copyOfRange_39247_17 : decode cJ7_copyOfRange_39247 17 = .ok (.aload_n 0, 1) := by decide +kernel
theorem dJ7_copyOfRange_39247_18 : decode cJ7_copyOfRange_39247 18 = .ok (.invokevirtual 310, 3) := by decide +kernel
theorem dJ7_copyOfRange_39247_21 : decode cJ7_copyOfRange_39247 21 = .ok (.checkcast 311, 3) := by decide +kernel
theorem dJ7_copyOfRange_39247_24 : decode cJ7_copyOfRange_39247 24 = .ok (.areturn, 1) := by decide +kernel
theorem dJ7_copyOfRangeByte_39247_0 : decode cJ7_copyOfRangeByte_39247 0 = .ok (.iload_n 1, 1) := by decide +kernel
theorem dJ7_copyOfRangeByte_39247_1 : decode cJ7_copyOfRangeByte_39247 1 = .ok (.iload_n 2, 1) := by decide +kernel
theorem dJ7_copyOfRangeByte_39247_2 : decode cJ7_copyOfRangeByte_39247 2 = .ok (.invokestatic 343, 3) := by decide +kernel
theorem dJ7_copyOfRangeByte_39247_5 : decode cJ7_copyOfRangeByte_39247 5 = .ok (.iload_n 2, 1) := by decide +kernel
theorem dJ7_copyOfRangeByte_39247_6 : decode cJ7_copyOfRangeByte_39247 6 = .ok (.iload_n 1, 1) := by decide +kernel
theorem dJ7_copyOfRangeByte_39247_7 : decode cJ7_copyOfRangeByte_39247 7 = .ok (.isub, 1) := by decide +kernel
theorem dJ7_copyOfRangeByte_39247_8 : decode cJ7_copyOfRangeByte_39247 8 = .ok (.istore_n 3, 1) := by decide +kernel
theorem dJ7_copyOfRangeByte_39247_9 : decode cJ7_copyOfRangeByte_39247 9 = .ok (.iload_n 3, 1) := by decide +kernel
theorem dJ7_copyOfRangeByte_39247_10 : decode cJ7_copyOfRangeByte_39247 10 = .ok (.newarray .byte, 2) := by decide +kernel
theorem dJ7_copyOfRangeByte_39247_12 : decode cJ7_copyOfRangeByte_39247 12 = .ok (.astore 4, 2) := by decide +kernel
theorem dJ7_copyOfRangeByte_39247_14 : decode cJ7_copyOfRangeByte_39247 14 = .ok (.aload_n 0, 1) := by decide +kernel
theorem dJ7_copyOfRangeByte_39247_15 : decode cJ7_copyOfRangeByte_39247 15 = .ok (.iload_n 1, 1) := by decide +kernel
theorem dJ7_copyOfRangeByte_39247_16 : decode cJ7_copyOfRangeByte_39247 16 = .ok (.aload 4, 2) := by decide +kernel
theorem dJ7_copyOfRangeByte_39247_18 : decode cJ7_copyOfRangeByte_39247 18 = .ok (.iconst 0, 1) := by decide +kernel
theorem dJ7_copyOfRangeByte_39247_19 : decode cJ7_copyOfRangeByte_39247 19 = .ok (.aload_n 0, 1) := by decide +kernel
theorem dJ7_copyOfRangeByte_39247_20 : decode cJ7_copyOfRangeByte_39247 20 = .ok (.arraylength, 1) := by decide +kernel
theorem dJ7_copyOfRangeByte_39247_21 : decode cJ7_copyOfRangeByte_39247 21 = .ok (.iload_n 1, 1) := by decide +kernel
theorem dJ7_copyOfRangeByte_39247_22 : decode cJ7_copyOfRangeByte_39247 22 = .ok (.isub, 1) := by decide +kernel
theorem dJ7_copyOfRangeByte_39247_23 : decode cJ7_copyOfRangeByte_39247 23 = .ok (.iload_n 3, 1) := by decide +kernel
theorem dJ7_copyOfRangeByte_39247_24 : decode cJ7_copyOfRangeByte_39247 24 = .ok (.invokestatic 304, 3) := by decide +kernel
theorem dJ7_copyOfRangeByte_39247_27 : decode cJ7_copyOfRangeByte_39247 27 = .ok (.invokestatic 150, 3) := by decide +kernel
theorem dJ7_copyOfRangeByte_39247_30 : decode cJ7_copyOfRangeByte_39247 30 = .ok (.aload 4, 2) := by decide +kernel
theorem dJ7_copyOfRangeByte_39247_32 : decode cJ7_copyOfRangeByte_39247 32 = .ok (.areturn, 1) := by decide +kernel
theorem dJ8_newLength_cabcc_0 : decode cJ8_newLength_cabcc 0 = .ok (.iload_n 0, 1) := by decide +kernel
theorem dJ8_newLength_cabcc_1 : decode cJ8_newLength_cabcc 1 = .ok (.iload_n 1, 1) := by decide +kernel
theorem dJ8_newLength_cabcc_2 : decode cJ8_newLength_cabcc 2 = .ok (.iload_n 2, 1) := by decide +kernel
theorem dJ8_newLength_cabcc_3 : decode cJ8_newLength_cabcc 3 = .ok (.invokestatic 194, 3) := by decide +kernel
theorem dJ8_newLength_cabcc_6 : decode cJ8_newLength_cabcc 6 = .ok (.iadd, 1) := by decide +kernel
theorem dJ8_newLength_cabcc_7 : decode cJ8_newLength_cabcc 7 = .ok (.istore_n 3, 1) := by decide +kernel
theorem dJ8_newLength_cabcc_8 : decode cJ8_newLength_cabcc 8 = .ok (.iconst 0, 1) := by decide +kernel
theorem dJ8_newLength_cabcc_9 : decode cJ8_newLength_cabcc 9 = .ok (.iload_n 3, 1) := by decide +kernel
theorem dJ8_newLength_cabcc_10 : decode cJ8_newLength_cabcc 10 = .ok (.if_icmp .ge 11, 3) := by decide +kernel
theorem dJ8_newLength_cabcc_13 : decode cJ8_newLength_cabcc 13 = .ok (.iload_n 3, 1) := by decide +kernel
theorem dJ8_newLength_cabcc_14 : decode cJ8_newLength_cabcc 14 = .ok (.ldc 200, 2) := by decide +kernel
theorem dJ8_newLength_cabcc_16 : decode cJ8_newLength_cabcc 16 = .ok (.if_icmp .gt 5, 3) := by decide +kernel
theorem dJ8_newLength_cabcc_19 : decode cJ8_newLength_cabcc 19 = .ok (.iload_n 3, 1) := by decide +kernel
theorem dJ8_newLength_cabcc_20 : decode cJ8_newLength_cabcc 20 = .ok (.ireturn, 1) := by decide +kernel
theorem dJ8_newLength_cabcc_21 : decode cJ8_newLength_cabcc 21 = .ok (.iload_n 0, 1) := by decide +kernel
theorem dJ8_newLength_cabcc_22 : decode cJ8_newLength_cabcc 22 = .ok (.iload_n 1, 1) := by decide +kernel
theorem dJ8_newLength_cabcc_23 : decode cJ8_newLength_cabcc 23 = .ok (.invokestatic 201, 3) := by decide +kernel
theorem dJ8_newLength_cabcc_26 : decode cJ8_newLength_cabcc 26 = .ok (.ireturn, 1) := by decide +kernel
theorem dJ3_checkIndex_8e157_0 : decode cJ3_checkIndex_8e157 0 = .ok (.iload_n 0, 1) := by decide +kernel
theorem dJ3_checkIndex_8e157_1 : decode cJ3_checkIndex_8e157 1 = .ok (.ifCond .lt 8, 3) := by decide +kernel
theorem dJ3_checkIndex_8e157_4 : decode cJ3_checkIndex_8e157 4 = .ok (.iload_n 0, 1) := by decide +kernel
theorem dJ3_checkIndex_8e157_5 : decode cJ3_checkIndex_8e157 5 = .ok (.iload_n 1, 1) := by decide +kernel
theorem dJ3_checkIndex_8e157_6 : decode cJ3_checkIndex_8e157 6 = .ok (.if_icmp .lt 10, 3) := by decide +kernel
theorem dJ3_checkIndex_8e157_9 : decode cJ3_checkIndex_8e157 9 = .ok (.aload_n 2, 1) := by decide +kernel
theorem dJ3_checkIndex_8e157_10 : decode cJ3_checkIndex_8e157 10 = .ok (.iload_n 0, 1) := by decide +kernel
theorem dJ3_checkIndex_8e157_11 : decode cJ3_checkIndex_8e157 11 = .ok (.iload_n 1, 1) := by decide +kernel
theorem dJ3_checkIndex_8e157_12 : decode cJ3_checkIndex_8e157 12 = .ok (.invokestatic 95, 3) := by decide +kernel
theorem dJ3_checkIndex_8e157_15 : decode cJ3_checkIndex_8e157 15 = .ok (.athrow, 1) := by decide +kernel
theorem dJ3_checkIndex_8e157_16 : decode cJ3_checkIndex_8e157 16 = .ok (.iload_n 0, 1) := by decide +kernel
theorem dJ3_checkIndex_8e157_17 : decode cJ3_checkIndex_8e157 17 = .ok (.ireturn, 1) := by decide +kernel
theorem dJ3_checkFromToIndex_8c36e_0 : decode cJ3_checkFromToIndex_8c36e 0 = .ok (.iload_n 0, 1) := by decide +kernel
theorem dJ3_checkFromToIndex_8c36e_1 : decode cJ3_checkFromToIndex_8c36e 1 = .ok (.ifCond .lt 13, 3) := by decide +kernel
theorem dJ3_checkFromToIndex_8c36e_4 : decode cJ3_checkFromToIndex_8c36e 4 = .ok (.iload_n 0, 1) := by decide +kernel
theorem dJ3_checkFromToIndex_8c36e_5 : decode cJ3_checkFromToIndex_8c36e 5 = .ok (.iload_n 1, 1) := by decide +kernel
theorem dJ3_checkFromToIndex_8c36e_6 : decode cJ3_checkFromToIndex_8c36e 6 = .ok (.if_icmp .gt 8, 3) := by decide +kernel
theorem dJ3_checkFromToIndex_8c36e_9 : decode cJ3_checkFromToIndex_8c36e 9 = .ok (.iload_n 1, 1) := by decide +kernel
theorem dJ3_checkFromToIndex_8c36e_10 : decode cJ3_checkFromToIndex_8c36e 10 = .ok (.iload_n 2, 1) := by decide +kernel
theorem dJ3_checkFromToIndex_8c36e_11 : decode cJ3_checkFromToIndex_8c36e 11 = .ok (.if_icmp .le 11, 3) := by decide +kernel
theorem dJ3_checkFromToIndex_8c36e_14 : decode cJ3_checkFromToIndex_8c36e 14 = .ok (.aload_n 3, 1) := by decide +kernel
theorem dJ3_checkFromToIndex_8c36e_15 : decode cJ3_checkFromToIndex_8c36e 15 = .ok (.iload_n 0, 1) := by decide +kernel
theorem dJ3_checkFromToIndex_8c36e_16 : decode cJ3_checkFromToIndex_8c36e 16 = .ok (.iload_n 1, 1) := by decide +kernel
theorem dJ3_checkFromToIndex_8c36e_17 : decode cJ3_checkFromToIndex_8c36e 17 = .ok (.iload_n 2, 1) := by decide +kernel
theorem dJ3_checkFromToIndex_8c36e_18 : decode cJ3_checkFromToIndex_8c36e 18 = .ok (.invokestatic 99, 3) := by decide +kernel
theorem dJ3_checkFromToIndex_8c36e_21 : decode cJ3_checkFromToIndex_8c36e 21 = .ok (.athrow, 1) := by decide +kernel
theorem dJ3_checkFromToIndex_8c36e_22 : decode cJ3_checkFromToIndex_8c36e 22 = .ok (.iload_n 0, 1) := by decide +kernel
theorem dJ3_checkFromToIndex_8c36e_23 : decode cJ3_checkFromToIndex_8c36e 23 = .ok (.ireturn, 1) := by decide +kernel
theorem dJ3_checkFromIndexSize_8c36e_0 : decode cJ3_checkFromIndexSize_8c36e 0 = .ok (.iload_n 2, 1) := by decide +kernel
theorem dJ3_checkFromIndexSize_8c36e_1 : decode cJ3_checkFromIndexSize_8c36e 1 = .ok (.iload_n 0, 1) := by decide +kernel
theorem dJ3_checkFromIndexSize_8c36e_2 : decode cJ3_checkFromIndexSize_8c36e 2 = .ok (.ior, 1) := by decide +kernel
theorem dJ3_checkFromIndexSize_8c36e_3 : decode cJ3_checkFromIndexSize_8c36e 3 = .ok (.iload_n 1, 1) := by decide +kernel
theorem dJ3_checkFromIndexSize_8c36e_4 : decode cJ3_checkFromIndexSize_8c36e 4 = .ok (.ior, 1) := by decide +kernel
theorem dJ3_checkFromIndexSize_8c36e_5 : decode cJ3_checkFromIndexSize_8c36e 5 = .ok (.ifCond .lt 10, 3) := by decide +kernel
theorem dJ3_checkFromIndexSize_8c36e_8 : decode cJ3_checkFromIndexSize_8c36e 8 = .ok (.iload_n 1, 1) := by decide +kernel
theorem dJ3_checkFromIndexSize_8c36e_9 : decode cJ3_checkFromIndexSize_8c36e 9 = .ok (.iload_n 2, 1) := by decide +kernel
theorem dJ3_checkFromIndexSize_8c36e_10 : decode cJ3_checkFromIndexSize_8c36e 10 = .ok (.iload_n 0, 1) := by decide +kernel
theorem dJ3_checkFromIndexSize_8c36e_11 : decode cJ3_checkFromIndexSize_8c36e 11 = .ok (.isub, 1) := by decide +kernel
theorem dJ3_checkFromIndexSize_8c36e_12 : decode cJ3_checkFromIndexSize_8c36e 12 = .ok (.if_icmp .le 11, 3) := by decide +kernel
theorem dJ3_checkFromIndexSize_8c36e_15 : decode cJ3_checkFromIndexSize_8c36e 15 = .ok (.aload_n 3, 1) := by decide +kernel
theorem dJ3_checkFromIndexSize_8c36e_16 : decode cJ3_checkFromIndexSize_8c36e 16 = .ok (.iload_n 0, 1) := by decide +kernel
theorem dJ3_checkFromIndexSize_8c36e_17 : decode cJ3_checkFromIndexSize_8c36e 17 = .ok (.iload_n 1, 1) := by decide +kernel
theorem dJ3_checkFromIndexSize_8c36e_18 : decode cJ3_checkFromIndexSize_8c36e 18 = .ok (.iload_n 2, 1) := by decide +kernel
theorem dJ3_checkFromIndexSize_8c36e_19 : decode cJ3_checkFromIndexSize_8c36e 19 = .ok (.invokestatic 103, 3) := by decide +kernel
theorem dJ3_checkFromIndexSize_8c36e_22 : decode cJ3_checkFromIndexSize_8c36e 22 = .ok (.athrow, 1) := by decide +kernel
theorem dJ3_checkFromIndexSize_8c36e_23 : decode cJ3_checkFromIndexSize_8c36e 23 = .ok (.iload_n 0, 1) := by decide +kernel
theorem dJ3_checkFromIndexSize_8c36e_24 : decode cJ3_checkFromIndexSize_8c36e 24 = .ok (.ireturn, 1) := by decide +kernel
theorem dL_cell_0 : decode cL_cell 0 = .ok (.iload_n 1, 1) := by decide +kernel
theorem dL_cell_1 : decode cL_cell 1 = .ok (.aload_n 0, 1) := by decide +kernel
theorem dL_cell_2 : decode cL_cell 2 = .ok (.arraylength, 1) := by decide +kernel
theorem dL_cell_3 : decode cL_cell 3 = .ok (.if_icmp .ge 9, 3) := by decide +kernel
theorem dL_cell_6 : decode cL_cell 6 = .ok (.aload_n 0, 1) := by decide +kernel
theorem dL_cell_7 : decode cL_cell 7 = .ok (.iload_n 1, 1) := by decide +kernel
theorem dL_cell_8 : decode cL_cell 8 = .ok (.iaload, 1) := by decide +kernel
theorem dL_cell_9 : decode cL_cell 9 = .ok (.goto 11, 3) := by decide +kernel
theorem dL_cell_12 : decode cL_cell 12 = .ok (.sipush 7919, 3) := by decide +kernel
theorem dL_cell_15 : decode cL_cell 15 = .ok (.iload_n 1, 1) := by decide +kernel
theorem dL_cell_16 : decode cL_cell 16 = .ok (.imul, 1) := by decide +kernel
theorem dL_cell_17 : decode cL_cell 17 = .ok (.bipush 12, 2) := by decide +kernel
theorem dL_cell_19 : decode cL_cell 19 = .ok (.iadd, 1) := by decide +kernel
theorem dL_cell_20 : decode cL_cell 20 = .ok (.ireturn, 1) := by decide +kernel
theorem dL_some_0 : decode cL_some 0 = .ok (.aload_n 0, 1) := by decide +kernel
theorem dL_some_1 : decode cL_some 1 = .ok (.iload_n 1, 1) := by decide +kernel
theorem dL_some_2 : decode cL_some 2 = .ok (.invokestatic 7, 3) := by decide +kernel
theorem dL_some_5 : decode cL_some 5 = .ok (.iconst 3, 1) := by decide +kernel
theorem dL_some_6 : decode cL_some 6 = .ok (.iushr, 1) := by decide +kernel
theorem dL_some_7 : decode cL_some 7 = .ok (.iload_n 2, 1) := by decide +kernel
theorem dL_some_8 : decode cL_some 8 = .ok (.irem, 1) := by decide +kernel
theorem dL_some_9 : decode cL_some 9 = .ok (.ireturn, 1) := by decide +kernel
theorem dL_addArgument_0 : decode cL_addArgument 0 = .ok (.aload_n 0, 1) := by decide +kernel
theorem dL_addArgument_1 : decode cL_addArgument 1 = .ok (.iload_n 1, 1) := by decide +kernel
theorem dL_addArgument_2 : decode cL_addArgument 2 = .ok (.invokevirtual 13, 3) := by decide +kernel
theorem dL_addArgument_5 : decode cL_addArgument 5 = .ok (.ireturn, 1) := by decide +kernel
theorem dL_addArgument_6 : decode cL_addArgument 6 = .ok (.astore_n 2, 1) := by decide +kernel
theorem dL_addArgument_7 : decode cL_addArgument 7 = .ok (.sipush (-20000), 3) := by decide +kernel
theorem dL_addArgument_10 : decode cL_addArgument 10 = .ok (.ireturn, 1) := by decide +kernel
theorem dL_addArgument_11 : decode cL_addArgument 11 = .ok (.astore_n 2, 1) := by decide +kernel
theorem dL_addArgument_12 : decode cL_addArgument 12 = .ok (.sipush (-10000), 3) := by decide +kernel
theorem dL_addArgument_15 : decode cL_addArgument 15 = .ok (.ireturn, 1) := by decide +kernel
theorem dL_removeArgument_0 : decode cL_removeArgument 0 = .ok (.aload_n 0, 1) := by decide +kernel
theorem dL_removeArgument_1 : decode cL_removeArgument 1 = .ok (.iload_n 1, 1) := by decide +kernel
theorem dL_removeArgument_2 : decode cL_removeArgument 2 = .ok (.invokevirtual 23, 3) := by decide +kernel
theorem dL_removeArgument_5 : decode cL_removeArgument 5 = .ok (.ireturn, 1) := by decide +kernel
theorem dL_removeArgument_6 : decode cL_removeArgument 6 = .ok (.astore_n 2, 1) := by decide +kernel
theorem dL_removeArgument_7 : decode cL_removeArgument 7 = .ok (.sipush (-30000), 3) := by decide +kernel
theorem dL_removeArgument_10 : decode cL_removeArgument 10 = .ok (.ireturn, 1) := by decide +kernel
theorem dL_addAttack_0 : decode cL_addAttack 0 = .ok (.aload_n 0, 1) := by decide +kernel
theorem dL_addAttack_1 : decode cL_addAttack 1 = .ok (.iload_n 1, 1) := by decide +kernel
theorem dL_addAttack_2 : decode cL_addAttack 2 = .ok (.iload_n 2, 1) := by decide +kernel
theorem dL_addAttack_3 : decode cL_addAttack 3 = .ok (.invokevirtual 28, 3) := by decide +kernel
theorem dL_addAttack_6 : decode cL_addAttack 6 = .ok (.ireturn, 1) := by decide +kernel
theorem dL_addAttack_7 : decode cL_addAttack 7 = .ok (.astore_n 3, 1) := by decide +kernel
theorem dL_addAttack_8 : decode cL_addAttack 8 = .ok (.sipush (-30000), 3) := by decide +kernel
theorem dL_addAttack_11 : decode cL_addAttack 11 = .ok (.ireturn, 1) := by decide +kernel
theorem dL_addAttack_12 : decode cL_addAttack 12 = .ok (.astore_n 3, 1) := by decide +kernel
theorem dL_addAttack_13 : decode cL_addAttack 13 = .ok (.sipush (-20000), 3) := by decide +kernel
theorem dL_addAttack_16 : decode cL_addAttack 16 = .ok (.ireturn, 1) := by decide +kernel
theorem dL_addAttack_17 : decode cL_addAttack 17 = .ok (.astore_n 3, 1) := by decide +kernel
theorem dL_addAttack_18 : decode cL_addAttack 18 = .ok (.sipush (-10000), 3) := by decide +kernel
theorem dL_addAttack_21 : decode cL_addAttack 21 = .ok (.ireturn, 1) := by decide +kernel
theorem dL_removeAttack_0 : decode cL_removeAttack 0 = .ok (.aload_n 0, 1) := by decide +kernel
theorem dL_removeAttack_1 : decode cL_removeAttack 1 = .ok (.iload_n 1, 1) := by decide +kernel
theorem dL_removeAttack_2 : decode cL_removeAttack 2 = .ok (.iload_n 2, 1) := by decide +kernel
theorem dL_removeAttack_3 : decode cL_removeAttack 3 = .ok (.invokevirtual 32, 3) := by decide +kernel
theorem dL_removeAttack_6 : decode cL_removeAttack 6 = .ok (.ireturn, 1) := by decide +kernel
theorem dL_removeAttack_7 : decode cL_removeAttack 7 = .ok (.astore_n 3, 1) := by decide +kernel
theorem dL_removeAttack_8 : decode cL_removeAttack 8 = .ok (.sipush (-30000), 3) := by decide +kernel
theorem dL_removeAttack_11 : decode cL_removeAttack 11 = .ok (.ireturn, 1) := by decide +kernel
theorem dL_setWeight_0 : decode cL_setWeight 0 = .ok (.aload_n 0, 1) := by decide +kernel
theorem dL_setWeight_1 : decode cL_setWeight 1 = .ok (.iload_n 1, 1) := by decide +kernel
theorem dL_setWeight_2 : decode cL_setWeight 2 = .ok (.iload_n 2, 1) := by decide +kernel
theorem dL_setWeight_3 : decode cL_setWeight 3 = .ok (.invokevirtual 35, 3) := by decide +kernel
theorem dL_setWeight_6 : decode cL_setWeight 6 = .ok (.ireturn, 1) := by decide +kernel
theorem dL_setWeight_7 : decode cL_setWeight 7 = .ok (.astore_n 3, 1) := by decide +kernel
theorem dL_setWeight_8 : decode cL_setWeight 8 = .ok (.sipush (-30000), 3) := by decide +kernel
theorem dL_setWeight_11 : decode cL_setWeight 11 = .ok (.ireturn, 1) := by decide +kernel
theorem dL_setWeight_12 : decode cL_setWeight 12 = .ok (.astore_n 3, 1) := by decide +kernel
theorem dL_setWeight_13 : decode cL_setWeight 13 = .ok (.sipush (-20000), 3) := by decide +kernel
theorem dL_setWeight_16 : decode cL_setWeight 16 = .ok (.ireturn, 1) := by decide +kernel
theorem dL_renew_0 : decode cL_renew 0 = .ok (.aload_n 0, 1) := by decide +kernel
theorem dL_renew_1 : decode cL_renew 1 = .ok (.iload_n 1, 1) := by decide +kernel
theorem dL_renew_2 : decode cL_renew 2 = .ok (.invokevirtual 38, 3) := by decide +kernel
theorem dL_renew_5 : decode cL_renew 5 = .ok (.ireturn, 1) := by decide +kernel
theorem dL_renew_6 : decode cL_renew 6 = .ok (.astore_n 2, 1) := by decide +kernel
theorem dL_renew_7 : decode cL_renew 7 = .ok (.sipush (-30000), 3) := by decide +kernel
theorem dL_renew_10 : decode cL_renew 10 = .ok (.ireturn, 1) := by decide +kernel
theorem dL_startDialogue_0 : decode cL_startDialogue 0 = .ok (.aload_n 0, 1) := by decide +kernel
theorem dL_startDialogue_1 : decode cL_startDialogue 1 = .ok (.iload_n 1, 1) := by decide +kernel
theorem dL_startDialogue_2 : decode cL_startDialogue 2 = .ok (.invokevirtual 41, 3) := by decide +kernel
theorem dL_startDialogue_5 : decode cL_startDialogue 5 = .ok (.ireturn, 1) := by decide +kernel
theorem dL_startDialogue_6 : decode cL_startDialogue 6 = .ok (.astore_n 2, 1) := by decide +kernel
theorem dL_startDialogue_7 : decode cL_startDialogue 7 = .ok (.sipush (-30000), 3) := by decide +kernel
theorem dL_startDialogue_10 : decode cL_startDialogue 10 = .ok (.ireturn, 1) := by decide +kernel
theorem dL_startDialogue_11 : decode cL_startDialogue 11 = .ok (.astore_n 2, 1) := by decide +kernel
theorem dL_startDialogue_12 : decode cL_startDialogue 12 = .ok (.sipush (-10000), 3) := by decide +kernel
theorem dL_startDialogue_15 : decode cL_startDialogue 15 = .ok (.ireturn, 1) := by decide +kernel
theorem dL_move_0 : decode cL_move 0 = .ok (.aload_n 0, 1) := by decide +kernel
theorem dL_move_1 : decode cL_move 1 = .ok (.iload_n 1, 1) := by decide +kernel
theorem dL_move_2 : decode cL_move 2 = .ok (.invokevirtual 44, 3) := by decide +kernel
theorem dL_move_5 : decode cL_move 5 = .ok (.ireturn, 1) := by decide +kernel
theorem dL_move_6 : decode cL_move 6 = .ok (.astore_n 2, 1) := by decide +kernel
theorem dL_move_7 : decode cL_move 7 = .ok (.sipush (-30000), 3) := by decide +kernel
theorem dL_move_10 : decode cL_move 10 = .ok (.ireturn, 1) := by decide +kernel
theorem dL_move_11 : decode cL_move 11 = .ok (.astore_n 2, 1) := by decide +kernel
theorem dL_move_12 : decode cL_move 12 = .ok (.sipush (-20000), 3) := by decide +kernel
theorem dL_move_15 : decode cL_move 15 = .ok (.ireturn, 1) := by decide +kernel
theorem dL_move_16 : decode cL_move 16 = .ok (.astore_n 2, 1) := by decide +kernel
theorem dL_move_17 : decode cL_move 17 = .ok (.sipush (-10000), 3) := by decide +kernel
theorem dL_move_20 : decode cL_move 20 = .ok (.ireturn, 1) := by decide +kernel
theorem dL_takeBack_0 : decode cL_takeBack 0 = .ok (.aload_n 0, 1) := by decide +kernel
theorem dL_takeBack_1 : decode cL_takeBack 1 = .ok (.invokevirtual 47, 3) := by decide +kernel
theorem dL_takeBack_4 : decode cL_takeBack 4 = .ok (.ireturn, 1) := by decide +kernel
theorem dL_takeBack_5 : decode cL_takeBack 5 = .ok (.astore_n 1, 1) := by decide +kernel
theorem dL_takeBack_6 : decode cL_takeBack 6 = .ok (.sipush (-30000), 3) := by decide +kernel
theorem dL_takeBack_9 : decode cL_takeBack 9 = .ok (.ireturn, 1) := by decide +kernel
theorem dL_takeBack_10 : decode cL_takeBack 10 = .ok (.astore_n 1, 1) := by decide +kernel
theorem dL_takeBack_11 : decode cL_takeBack 11 = .ok (.sipush (-10000), 3) := by decide +kernel
theorem dL_takeBack_14 : decode cL_takeBack 14 = .ok (.ireturn, 1) := by decide +kernel
theorem dL_endDialogue_0 : decode cL_endDialogue 0 = .ok (.aload_n 0, 1) := by decide +kernel
theorem dL_endDialogue_1 : decode cL_endDialogue 1 = .ok (.invokevirtual 51, 3) := by decide +kernel
theorem dL_endDialogue_4 : decode cL_endDialogue 4 = .ok (.ireturn, 1) := by decide +kernel
theorem dL_endDialogue_5 : decode cL_endDialogue 5 = .ok (.astore_n 1, 1) := by decide +kernel
theorem dL_endDialogue_6 : decode cL_endDialogue 6 = .ok (.sipush (-30000), 3) := by decide +kernel
theorem dL_endDialogue_9 : decode cL_endDialogue 9 = .ok (.ireturn, 1) := by decide +kernel
theorem dL_pass_0 : decode cL_pass 0 = .ok (.aload_n 0, 1) := by decide +kernel
theorem dL_pass_1 : decode cL_pass 1 = .ok (.iload_n 1, 1) := by decide +kernel
theorem dL_pass_2 : decode cL_pass 2 = .ok (.invokevirtual 55, 3) := by decide +kernel
theorem dL_pass_5 : decode cL_pass 5 = .ok (.ireturn, 1) := by decide +kernel
theorem dL_pass_6 : decode cL_pass 6 = .ok (.astore_n 2, 1) := by decide +kernel
theorem dL_pass_7 : decode cL_pass 7 = .ok (.sipush (-20000), 3) := by decide +kernel
theorem dL_pass_10 : decode cL_pass 10 = .ok (.ireturn, 1) := by decide +kernel
theorem dL_attackerAt_0 : decode cL_attackerAt 0 = .ok (.aload_n 0, 1) := by decide +kernel
theorem dL_attackerAt_1 : decode cL_attackerAt 1 = .ok (.iload_n 1, 1) := by decide +kernel
theorem dL_attackerAt_2 : decode cL_attackerAt 2 = .ok (.iload_n 2, 1) := by decide +kernel
theorem dL_attackerAt_3 : decode cL_attackerAt 3 = .ok (.invokevirtual 58, 3) := by decide +kernel
theorem dL_attackerAt_6 : decode cL_attackerAt 6 = .ok (.ireturn, 1) := by decide +kernel
theorem dL_attackerAt_7 : decode cL_attackerAt 7 = .ok (.astore_n 3, 1) := by decide +kernel
theorem dL_attackerAt_8 : decode cL_attackerAt 8 = .ok (.sipush (-30000), 3) := by decide +kernel
theorem dL_attackerAt_11 : decode cL_attackerAt 11 = .ok (.ireturn, 1) := by decide +kernel
theorem dL_attackerAt_12 : decode cL_attackerAt 12 = .ok (.astore_n 3, 1) := by decide +kernel
theorem dL_attackerAt_13 : decode cL_attackerAt 13 = .ok (.sipush (-25000), 3) := by decide +kernel
theorem dL_attackerAt_16 : decode cL_attackerAt 16 = .ok (.ireturn, 1) := by decide +kernel
theorem dL_roundOf_0 : decode cL_roundOf 0 = .ok (.aload_n 0, 1) := by decide +kernel
theorem dL_roundOf_1 : decode cL_roundOf 1 = .ok (.iload_n 1, 1) := by decide +kernel
theorem dL_roundOf_2 : decode cL_roundOf 2 = .ok (.invokevirtual 63, 3) := by decide +kernel
theorem dL_roundOf_5 : decode cL_roundOf 5 = .ok (.ireturn, 1) := by decide +kernel
theorem dL_roundOf_6 : decode cL_roundOf 6 = .ok (.astore_n 2, 1) := by decide +kernel
theorem dL_roundOf_7 : decode cL_roundOf 7 = .ok (.sipush (-30000), 3) := by decide +kernel
theorem dL_roundOf_10 : decode cL_roundOf 10 = .ok (.ireturn, 1) := by decide +kernel
theorem dL_statusAfter_0 : decode cL_statusAfter 0 = .ok (.aload_n 0, 1) := by decide +kernel
theorem dL_statusAfter_1 : decode cL_statusAfter 1 = .ok (.iload_n 1, 1) := by decide +kernel
theorem dL_statusAfter_2 : decode cL_statusAfter 2 = .ok (.iload_n 2, 1) := by decide +kernel
theorem dL_statusAfter_3 : decode cL_statusAfter 3 = .ok (.invokevirtual 66, 3) := by decide +kernel
theorem dL_statusAfter_6 : decode cL_statusAfter 6 = .ok (.ireturn, 1) := by decide +kernel
theorem dL_statusAfter_7 : decode cL_statusAfter 7 = .ok (.astore_n 3, 1) := by decide +kernel
theorem dL_statusAfter_8 : decode cL_statusAfter 8 = .ok (.sipush (-30000), 3) := by decide +kernel
theorem dL_statusAfter_11 : decode cL_statusAfter 11 = .ok (.ireturn, 1) := by decide +kernel
theorem dL_statusAfter_12 : decode cL_statusAfter 12 = .ok (.astore_n 3, 1) := by decide +kernel
theorem dL_statusAfter_13 : decode cL_statusAfter 13 = .ok (.sipush (-20000), 3) := by decide +kernel
theorem dL_statusAfter_16 : decode cL_statusAfter 16 = .ok (.ireturn, 1) := by decide +kernel
theorem dL_argumentByStrength_0 : decode cL_argumentByStrength 0 = .ok (.aload_n 0, 1) := by decide +kernel
theorem dL_argumentByStrength_1 : decode cL_argumentByStrength 1 = .ok (.iload_n 1, 1) := by decide +kernel
theorem dL_argumentByStrength_2 : decode cL_argumentByStrength 2 = .ok (.invokevirtual 70, 3) := by decide +kernel
theorem dL_argumentByStrength_5 : decode cL_argumentByStrength 5 = .ok (.ireturn, 1) := by decide +kernel
theorem dL_argumentByStrength_6 : decode cL_argumentByStrength 6 = .ok (.astore_n 2, 1) := by decide +kernel
theorem dL_argumentByStrength_7 : decode cL_argumentByStrength 7 = .ok (.sipush (-30000), 3) := by decide +kernel
theorem dL_argumentByStrength_10 : decode cL_argumentByStrength 10 = .ok (.ireturn, 1) := by decide +kernel
theorem dL_moveAt_0 : decode cL_moveAt 0 = .ok (.aload_n 0, 1) := by decide +kernel
theorem dL_moveAt_1 : decode cL_moveAt 1 = .ok (.iload_n 1, 1) := by decide +kernel
theorem dL_moveAt_2 : decode cL_moveAt 2 = .ok (.invokevirtual 73, 3) := by decide +kernel
theorem dL_moveAt_5 : decode cL_moveAt 5 = .ok (.ireturn, 1) := by decide +kernel
theorem dL_moveAt_6 : decode cL_moveAt 6 = .ok (.astore_n 2, 1) := by decide +kernel
theorem dL_moveAt_7 : decode cL_moveAt 7 = .ok (.sipush (-25000), 3) := by decide +kernel
theorem dL_moveAt_10 : decode cL_moveAt 10 = .ok (.ireturn, 1) := by decide +kernel
theorem dL_formatDialogue_0 : decode cL_formatDialogue 0 = .ok (.aload_n 0, 1) := by decide +kernel
theorem dL_formatDialogue_1 : decode cL_formatDialogue 1 = .ok (.invokevirtual 76, 3) := by decide +kernel
theorem dL_formatDialogue_4 : decode cL_formatDialogue 4 = .ok (.ireturn, 1) := by decide +kernel
theorem dL_formatDialogue_5 : decode cL_formatDialogue 5 = .ok (.astore_n 1, 1) := by decide +kernel
theorem dL_formatDialogue_6 : decode cL_formatDialogue 6 = .ok (.sipush (-30000), 3) := by decide +kernel
theorem dL_formatDialogue_9 : decode cL_formatDialogue 9 = .ok (.ireturn, 1) := by decide +kernel
theorem dL_isSuccessful_0 : decode cL_isSuccessful 0 = .ok (.aload_n 0, 1) := by decide +kernel
theorem dL_isSuccessful_1 : decode cL_isSuccessful 1 = .ok (.iload_n 1, 1) := by decide +kernel
theorem dL_isSuccessful_2 : decode cL_isSuccessful 2 = .ok (.iload_n 2, 1) := by decide +kernel
theorem dL_isSuccessful_3 : decode cL_isSuccessful 3 = .ok (.invokevirtual 79, 3) := by decide +kernel
theorem dL_isSuccessful_6 : decode cL_isSuccessful 6 = .ok (.ifCond .eq 7, 3) := by decide +kernel
theorem dL_isSuccessful_9 : decode cL_isSuccessful 9 = .ok (.iconst 1, 1) := by decide +kernel
theorem dL_isSuccessful_10 : decode cL_isSuccessful 10 = .ok (.goto 4, 3) := by decide +kernel
theorem dL_isSuccessful_13 : decode cL_isSuccessful 13 = .ok (.iconst 0, 1) := by decide +kernel
theorem dL_isSuccessful_14 : decode cL_isSuccessful 14 = .ok (.ireturn, 1) := by decide +kernel
theorem dL_isSuccessful_15 : decode cL_isSuccessful 15 = .ok (.astore_n 3, 1) := by decide +kernel
theorem dL_isSuccessful_16 : decode cL_isSuccessful 16 = .ok (.sipush (-30000), 3) := by decide +kernel
theorem dL_isSuccessful_19 : decode cL_isSuccessful 19 = .ok (.ireturn, 1) := by decide +kernel
theorem dL_canMove_0 : decode cL_canMove 0 = .ok (.aload_n 0, 1) := by decide +kernel
theorem dL_canMove_1 : decode cL_canMove 1 = .ok (.iload_n 1, 1) := by decide +kernel
theorem dL_canMove_2 : decode cL_canMove 2 = .ok (.invokevirtual 83, 3) := by decide +kernel
theorem dL_canMove_5 : decode cL_canMove 5 = .ok (.ifCond .eq 7, 3) := by decide +kernel
theorem dL_canMove_8 : decode cL_canMove 8 = .ok (.iconst 1, 1) := by decide +kernel
theorem dL_canMove_9 : decode cL_canMove 9 = .ok (.goto 4, 3) := by decide +kernel
theorem dL_canMove_12 : decode cL_canMove 12 = .ok (.iconst 0, 1) := by decide +kernel
theorem dL_canMove_13 : decode cL_canMove 13 = .ok (.ireturn, 1) := by decide +kernel
theorem dL_canMove_14 : decode cL_canMove 14 = .ok (.astore_n 2, 1) := by decide +kernel
theorem dL_canMove_15 : decode cL_canMove 15 = .ok (.sipush (-30000), 3) := by decide +kernel
theorem dL_canMove_18 : decode cL_canMove 18 = .ok (.ireturn, 1) := by decide +kernel
theorem dL_build_0 : decode cL_build 0 = .ok (.iconst 0, 1) := by decide +kernel
theorem dL_build_1 : decode cL_build 1 = .ok (.istore_n 3, 1) := by decide +kernel
theorem dL_build_2 : decode cL_build 2 = .ok (.iload_n 3, 1) := by decide +kernel
theorem dL_build_3 : decode cL_build 3 = .ok (.iconst 5, 1) := by decide +kernel
theorem dL_build_4 : decode cL_build 4 = .ok (.if_icmp .ge 23, 3) := by decide +kernel
theorem dL_build_7 : decode cL_build 7 = .ok (.aload_n 0, 1) := by decide +kernel
theorem dL_build_8 : decode cL_build 8 = .ok (.iconst 1, 1) := by decide +kernel
theorem dL_build_9 : decode cL_build 9 = .ok (.aload_n 1, 1) := by decide +kernel
theorem dL_build_10 : decode cL_build 10 = .ok (.iload_n 3, 1) := by decide +kernel
theorem dL_build_11 : decode cL_build 11 = .ok (.bipush 9, 2) := by decide +kernel
theorem dL_build_13 : decode cL_build 13 = .ok (.invokestatic 87, 3) := by decide +kernel
theorem dL_build_16 : decode cL_build 16 = .ok (.iadd, 1) := by decide +kernel
theorem dL_build_17 : decode cL_build 17 = .ok (.invokestatic 91, 3) := by decide +kernel
theorem dL_build_20 : decode cL_build 20 = .ok (.istore_n 2, 1) := by decide +kernel
theorem dL_build_21 : decode cL_build 21 = .ok (.iinc 3 1, 3) := by decide +kernel
theorem dL_build_24 : decode cL_build 24 = .ok (.goto (-22), 3) := by decide +kernel
theorem dL_build_27 : decode cL_build 27 = .ok (.iconst 0, 1) := by decide +kernel
theorem dL_build_28 : decode cL_build 28 = .ok (.istore_n 3, 1) := by decide +kernel
theorem dL_build_29 : decode cL_build 29 = .ok (.iload_n 3, 1) := by decide +kernel
theorem dL_build_30 : decode cL_build 30 = .ok (.bipush 8, 2) := by decide +kernel
theorem dL_build_32 : decode cL_build 32 = .ok (.if_icmp .ge 32, 3) := by decide +kernel
theorem dL_build_35 : decode cL_build 35 = .ok (.aload_n 0, 1) := by decide +kernel
theorem dL_build_36 : decode cL_build 36 = .ok (.aload_n 1, 1) := by decide +kernel
theorem dL_build_37 : decode cL_build 37 = .ok (.bipush 8, 2) := by decide +kernel
theorem dL_build_39 : decode cL_build 39 = .ok (.iload_n 3, 1) := by decide +kernel
theorem dL_build_40 : decode cL_build 40 = .ok (.iadd, 1) := by decide +kernel
theorem dL_build_41 : decode cL_build 41 = .ok (.iconst 5, 1) := by decide +kernel
theorem dL_build_42 : decode cL_build 42 = .ok (.invokestatic 87, 3) := by decide +kernel
theorem dL_build_45 : decode cL_build 45 = .ok (.aload_n 1, 1) := by decide +kernel
theorem dL_build_46 : decode cL_build 46 = .ok (.bipush 16, 2) := by decide +kernel
theorem dL_build_48 : decode cL_build 48 = .ok (.iload_n 3, 1) := by decide +kernel
theorem dL_build_49 : decode cL_build 49 = .ok (.iadd, 1) := by decide +kernel
theorem dL_build_50 : decode cL_build 50 = .ok (.iconst 5, 1) := by decide +kernel
theorem dL_build_51 : decode cL_build 51 = .ok (.invokestatic 87, 3) := by decide +kernel
theorem dL_build_54 : decode cL_build 54 = .ok (.invokestatic 94, 3) := by decide +kernel
theorem dL_build_57 : decode cL_build 57 = .ok (.istore_n 2, 1) := by decide +kernel
theorem dL_build_58 : decode cL_build 58 = .ok (.iinc 3 1, 3) := by decide +kernel
theorem dL_build_61 : decode cL_build 61 = .ok (.goto (-32), 3) := by decide +kernel
theorem dL_build_64 : decode cL_build 64 = .ok (.iconst 0, 1) := by decide +kernel
theorem dL_build_65 : decode cL_build 65 = .ok (.istore_n 3, 1) := by decide +kernel
theorem dL_build_66 : decode cL_build 66 = .ok (.iload_n 3, 1) := by decide +kernel
theorem dL_build_67 : decode cL_build 67 = .ok (.bipush 20, 2) := by decide +kernel
theorem dL_build_69 : decode cL_build 69 = .ok (.if_icmp .ge 20, 3) := by decide +kernel
theorem dL_build_72 : decode cL_build 72 = .ok (.aload_n 0, 1) := by decide +kernel
theorem dL_build_73 : decode cL_build 73 = .ok (.aload_n 1, 1) := by decide +kernel
theorem dL_build_74 : decode cL_build 74 = .ok (.bipush 24, 2) := by decide +kernel
theorem dL_build_76 : decode cL_build 76 = .ok (.iconst 3, 1) := by decide +kernel
theorem dL_build_77 : decode cL_build 77 = .ok (.iload_n 3, 1) := by decide +kernel
theorem dL_build_78 : decode cL_build 78 = .ok (.imul, 1) := by decide +kernel
theorem dL_build_79 : decode cL_build 79 = .ok (.iadd, 1) := by decide +kernel
theorem dL_build_80 : decode cL_build 80 = .ok (.invokestatic 97, 3) := by decide +kernel
theorem dL_build_83 : decode cL_build 83 = .ok (.iinc 3 1, 3) := by decide +kernel
theorem dL_build_86 : decode cL_build 86 = .ok (.goto (-20), 3) := by decide +kernel
theorem dL_build_89 : decode cL_build 89 = .ok (.return_, 1) := by decide +kernel
theorem dL_acts_0 : decode cL_acts 0 = .ok (.aload_n 0, 1) := by decide +kernel
theorem dL_acts_1 : decode cL_acts 1 = .ok (.invokevirtual 101, 3) := by decide +kernel
theorem dL_acts_4 : decode cL_acts 4 = .ok (.istore_n 3, 1) := by decide +kernel
theorem dL_acts_5 : decode cL_acts 5 = .ok (.aload_n 0, 1) := by decide +kernel
theorem dL_acts_6 : decode cL_acts 6 = .ok (.aload_n 1, 1) := by decide +kernel
theorem dL_acts_7 : decode cL_acts 7 = .ok (.iload_n 2, 1) := by decide +kernel
theorem dL_acts_8 : decode cL_acts 8 = .ok (.iconst 1, 1) := by decide +kernel
theorem dL_acts_9 : decode cL_acts 9 = .ok (.iadd, 1) := by decide +kernel
theorem dL_acts_10 : decode cL_acts 10 = .ok (.iload_n 3, 1) := by decide +kernel
theorem dL_acts_11 : decode cL_acts 11 = .ok (.invokestatic 87, 3) := by decide +kernel
theorem dL_acts_14 : decode cL_acts 14 = .ok (.invokevirtual 104, 3) := by decide +kernel
theorem dL_acts_17 : decode cL_acts 17 = .ok (.istore 4, 2) := by decide +kernel
theorem dL_acts_19 : decode cL_acts 19 = .ok (.aload_n 0, 1) := by decide +kernel
theorem dL_acts_20 : decode cL_acts 20 = .ok (.aload_n 1, 1) := by decide +kernel
theorem dL_acts_21 : decode cL_acts 21 = .ok (.iload_n 2, 1) := by decide +kernel
theorem dL_acts_22 : decode cL_acts 22 = .ok (.iconst 2, 1) := by decide +kernel
theorem dL_acts_23 : decode cL_acts 23 = .ok (.iadd, 1) := by decide +kernel
theorem dL_acts_24 : decode cL_acts 24 = .ok (.iload_n 3, 1) := by decide +kernel
theorem dL_acts_25 : decode cL_acts 25 = .ok (.invokestatic 87, 3) := by decide +kernel
theorem dL_acts_28 : decode cL_acts 28 = .ok (.invokevirtual 104, 3) := by decide +kernel
theorem dL_acts_31 : decode cL_acts 31 = .ok (.istore 5, 2) := by decide +kernel
theorem dL_acts_33 : decode cL_acts 33 = .ok (.aload_n 1, 1) := by decide +kernel
theorem dL_acts_34 : decode cL_acts 34 = .ok (.iload_n 2, 1) := by decide +kernel
theorem dL_acts_35 : decode cL_acts 35 = .ok (.iconst 2, 1) := by decide +kernel
theorem dL_acts_36 : decode cL_acts 36 = .ok (.iadd, 1) := by decide +kernel
theorem dL_acts_37 : decode cL_acts 37 = .ok (.bipush 60, 2) := by decide +kernel
theorem dL_acts_39 : decode cL_acts 39 = .ok (.invokestatic 87, 3) := by decide +kernel
theorem dL_acts_42 : decode cL_acts 42 = .ok (.istore 6, 2) := by decide +kernel
theorem dL_acts_44 : decode cL_acts 44 = .ok (.aload_n 1, 1) := by decide +kernel
theorem dL_acts_45 : decode cL_acts 45 = .ok (.iload_n 2, 1) := by decide +kernel
theorem dL_acts_46 : decode cL_acts 46 = .ok (.bipush 16, 2) := by decide +kernel
theorem dL_acts_48 : decode cL_acts 48 = .ok (.invokestatic 87, 3) := by decide +kernel
theorem dL_acts_51 : decode cL_acts 51 = .ok (.tableswitch 275 0 14 #[73, 99, 126, 126, 126, 139, 152, 170, 181, 181, 192, 192, 192, 246, 255], 73) := by decide +kernel
theorem dL_acts_124 : decode cL_acts 124 = .ok (.iload_n 3, 1) := by decide +kernel
theorem dL_acts_125 : decode cL_acts 125 = .ok (.bipush 7, 2) := by decide +kernel
theorem dL_acts_127 : decode cL_acts 127 = .ok (.if_icmp .ge 17, 3) := by decide +kernel
theorem dL_acts_130 : decode cL_acts 130 = .ok (.aload_n 0, 1) := by decide +kernel
theorem dL_acts_131 : decode cL_acts 131 = .ok (.iconst 1, 1) := by decide +kernel
theorem dL_acts_132 : decode cL_acts 132 = .ok (.iload 6, 2) := by decide +kernel
theorem dL_acts_134 : decode cL_acts 134 = .ok (.bipush 9, 2) := by decide +kernel
theorem dL_acts_136 : decode cL_acts 136 = .ok (.irem, 1) := by decide +kernel
theorem dL_acts_137 : decode cL_acts 137 = .ok (.iadd, 1) := by decide +kernel
theorem dL_acts_138 : decode cL_acts 138 = .ok (.invokestatic 91, 3) := by decide +kernel
theorem dL_acts_141 : decode cL_acts 141 = .ok (.goto 4, 3) := by decide +kernel
theorem dL_acts_144 : decode cL_acts 144 = .ok (.iconst 0, 1) := by decide +kernel
theorem dL_acts_145 : decode cL_acts 145 = .ok (.istore 7, 2) := by decide +kernel
theorem dL_acts_147 : decode cL_acts 147 = .ok (.goto 192, 3) := by decide +kernel
theorem dL_acts_150 : decode cL_acts 150 = .ok (.iload_n 3, 1) := by decide +kernel
theorem dL_acts_151 : decode cL_acts 151 = .ok (.iconst 4, 1) := by decide +kernel
theorem dL_acts_152 : decode cL_acts 152 = .ok (.if_icmp .le 19, 3) := by decide +kernel
theorem dL_acts_155 : decode cL_acts 155 = .ok (.iload 6, 2) := by decide +kernel
theorem dL_acts_157 : decode cL_acts 157 = .ok (.iconst 2, 1) := by decide +kernel
theorem dL_acts_158 : decode cL_acts 158 = .ok (.irem, 1) := by decide +kernel
theorem dL_acts_159 : decode cL_acts 159 = .ok (.ifCond .ne 12, 3) := by decide +kernel
theorem dL_acts_162 : decode cL_acts 162 = .ok (.aload_n 0, 1) := by decide +kernel
theorem dL_acts_163 : decode cL_acts 163 = .ok (.iload 4, 2) := by decide +kernel
theorem dL_acts_165 : decode cL_acts 165 = .ok (.invokestatic 107, 3) := by decide +kernel
theorem dL_acts_168 : decode cL_acts 168 = .ok (.goto 4, 3) := by decide +kernel
theorem dL_acts_171 : decode cL_acts 171 = .ok (.iconst 0, 1) := by decide +kernel
theorem dL_acts_172 : decode cL_acts 172 = .ok (.istore 7, 2) := by decide +kernel
theorem dL_acts_174 : decode cL_acts 174 = .ok (.goto 165, 3) := by decide +kernel
theorem dL_acts_177 : decode cL_acts 177 = .ok (.aload_n 0, 1) := by decide +kernel
theorem dL_acts_178 : decode cL_acts 178 = .ok (.iload 4, 2) := by decide +kernel
theorem dL_acts_180 : decode cL_acts 180 = .ok (.iload 5, 2) := by decide +kernel
theorem dL_acts_182 : decode cL_acts 182 = .ok (.invokestatic 94, 3) := by decide +kernel
theorem dL_acts_185 : decode cL_acts 185 = .ok (.istore 7, 2) := by decide +kernel
theorem dL_acts_187 : decode cL_acts 187 = .ok (.goto 152, 3) := by decide +kernel
theorem dL_acts_190 : decode cL_acts 190 = .ok (.aload_n 0, 1) := by decide +kernel
theorem dL_acts_191 : decode cL_acts 191 = .ok (.iload 4, 2) := by decide +kernel
theorem dL_acts_193 : decode cL_acts 193 = .ok (.iload 5, 2) := by decide +kernel
theorem dL_acts_195 : decode cL_acts 195 = .ok (.invokestatic 109, 3) := by decide +kernel
theorem dL_acts_198 : decode cL_acts 198 = .ok (.istore 7, 2) := by decide +kernel
theorem dL_acts_200 : decode cL_acts 200 = .ok (.goto 139, 3) := by decide +kernel
theorem dL_acts_203 : decode cL_acts 203 = .ok (.aload_n 0, 1) := by decide +kernel
theorem dL_acts_204 : decode cL_acts 204 = .ok (.iload 4, 2) := by decide +kernel
theorem dL_acts_206 : decode cL_acts 206 = .ok (.iconst 1, 1) := by decide +kernel
theorem dL_acts_207 : decode cL_acts 207 = .ok (.iload 6, 2) := by decide +kernel
theorem dL_acts_209 : decode cL_acts 209 = .ok (.bipush 9, 2) := by decide +kernel
theorem dL_acts_211 : decode cL_acts 211 = .ok (.irem, 1) := by decide +kernel
theorem dL_acts_212 : decode cL_acts 212 = .ok (.iadd, 1) := by decide +kernel
theorem dL_acts_213 : decode cL_acts 213 = .ok (.invokestatic 111, 3) := by decide +kernel
theorem dL_acts_216 : decode cL_acts 216 = .ok (.istore 7, 2) := by decide +kernel
theorem dL_acts_218 : decode cL_acts 218 = .ok (.goto 121, 3) := by decide +kernel
theorem dL_acts_221 : decode cL_acts 221 = .ok (.aload_n 0, 1) := by decide +kernel
theorem dL_acts_222 : decode cL_acts 222 = .ok (.iload 4, 2) := by decide +kernel
theorem dL_acts_224 : decode cL_acts 224 = .ok (.invokestatic 113, 3) := by decide +kernel
theorem dL_acts_227 : decode cL_acts 227 = .ok (.istore 7, 2) := by decide +kernel
theorem dL_acts_229 : decode cL_acts 229 = .ok (.goto 110, 3) := by decide +kernel
theorem dL_acts_232 : decode cL_acts 232 = .ok (.aload_n 0, 1) := by decide +kernel
theorem dL_acts_233 : decode cL_acts 233 = .ok (.iload 4, 2) := by decide +kernel
theorem dL_acts_235 : decode cL_acts 235 = .ok (.invokestatic 115, 3) := by decide +kernel
theorem dL_acts_238 : decode cL_acts 238 = .ok (.istore 7, 2) := by decide +kernel
theorem dL_acts_240 : decode cL_acts 240 = .ok (.goto 99, 3) := by decide +kernel
theorem dL_acts_243 : decode cL_acts 243 = .ok (.iconst 0, 1) := by decide +kernel
theorem dL_acts_244 : decode cL_acts 244 = .ok (.istore 8, 2) := by decide +kernel
theorem dL_acts_246 : decode cL_acts 246 = .ok (.iload 8, 2) := by decide +kernel
theorem dL_acts_248 : decode cL_acts 248 = .ok (.iload_n 3, 1) := by decide +kernel
theorem dL_acts_249 : decode cL_acts 249 = .ok (.if_icmp .ge 45, 3) := by decide +kernel
theorem dL_acts_252 : decode cL_acts 252 = .ok (.aload_n 0, 1) := by decide +kernel
theorem dL_acts_253 : decode cL_acts 253 = .ok (.aload_n 0, 1) := by decide +kernel
theorem dL_acts_254 : decode cL_acts 254 = .ok (.iload 6, 2) := by decide +kernel
theorem dL_acts_256 : decode cL_acts 256 = .ok (.iload 8, 2) := by decide +kernel
theorem dL_acts_258 : decode cL_acts 258 = .ok (.iadd, 1) := by decide +kernel
theorem dL_acts_259 : decode cL_acts 259 = .ok (.iload_n 3, 1) := by decide +kernel
theorem dL_acts_260 : decode cL_acts 260 = .ok (.irem, 1) := by decide +kernel
theorem dL_acts_261 : decode cL_acts 261 = .ok (.invokevirtual 104, 3) := by decide +kernel
theorem dL_acts_264 : decode cL_acts 264 = .ok (.invokestatic 117, 3) := by decide +kernel
theorem dL_acts_267 : decode cL_acts 267 = .ok (.iconst 1, 1) := by decide +kernel
theorem dL_acts_268 : decode cL_acts 268 = .ok (.if_icmp .ne 20, 3) := by decide +kernel
theorem dL_acts_271 : decode cL_acts 271 = .ok (.aload_n 0, 1) := by decide +kernel
theorem dL_acts_272 : decode cL_acts 272 = .ok (.aload_n 0, 1) := by decide +kernel
theorem dL_acts_273 : decode cL_acts 273 = .ok (.iload 6, 2) := by decide +kernel
theorem dL_acts_275 : decode cL_acts 275 = .ok (.iload 8, 2) := by decide +kernel
theorem dL_acts_277 : decode cL_acts 277 = .ok (.iadd, 1) := by decide +kernel
theorem dL_acts_278 : decode cL_acts 278 = .ok (.iload_n 3, 1) := by decide +kernel
theorem dL_acts_279 : decode cL_acts 279 = .ok (.irem, 1) := by decide +kernel
theorem dL_acts_280 : decode cL_acts 280 = .ok (.invokevirtual 104, 3) := by decide +kernel
theorem dL_acts_283 : decode cL_acts 283 = .ok (.invokestatic 119, 3) := by decide +kernel
theorem dL_acts_286 : decode cL_acts 286 = .ok (.istore 7, 2) := by decide +kernel
theorem dL_acts_288 : decode cL_acts 288 = .ok (.iinc 8 1, 3) := by decide +kernel
theorem dL_acts_291 : decode cL_acts 291 = .ok (.goto (-45), 3) := by decide +kernel
theorem dL_acts_294 : decode cL_acts 294 = .ok (.goto 45, 3) := by decide +kernel
theorem dL_acts_297 : decode cL_acts 297 = .ok (.aload_n 0, 1) := by decide +kernel
theorem dL_acts_298 : decode cL_acts 298 = .ok (.invokestatic 121, 3) := by decide +kernel
theorem dL_acts_301 : decode cL_acts 301 = .ok (.istore 7, 2) := by decide +kernel
theorem dL_acts_303 : decode cL_acts 303 = .ok (.goto 36, 3) := by decide +kernel
theorem dL_acts_306 : decode cL_acts 306 = .ok (.iload 6, 2) := by decide +kernel
theorem dL_acts_308 : decode cL_acts 308 = .ok (.iconst 3, 1) := by decide +kernel
theorem dL_acts_309 : decode cL_acts 309 = .ok (.irem, 1) := by decide +kernel
theorem dL_acts_310 : decode cL_acts 310 = .ok (.ifCond .ne 10, 3) := by decide +kernel
theorem dL_acts_313 : decode cL_acts 313 = .ok (.aload_n 0, 1) := by decide +kernel
theorem dL_acts_314 : decode cL_acts 314 = .ok (.invokestatic 124, 3) := by decide +kernel
theorem dL_acts_317 : decode cL_acts 317 = .ok (.goto 4, 3) := by decide +kernel
theorem dL_acts_320 : decode cL_acts 320 = .ok (.iconst 0, 1) := by decide +kernel
theorem dL_acts_321 : decode cL_acts 321 = .ok (.istore 7, 2) := by decide +kernel
theorem dL_acts_323 : decode cL_acts 323 = .ok (.goto 16, 3) := by decide +kernel
theorem dL_acts_326 : decode cL_acts 326 = .ok (.aload_n 0, 1) := by decide +kernel
theorem dL_acts_327 : decode cL_acts 327 = .ok (.iconst 1, 1) := by decide +kernel
theorem dL_acts_328 : decode cL_acts 328 = .ok (.iload 6, 2) := by decide +kernel
theorem dL_acts_330 : decode cL_acts 330 = .ok (.bipush 20, 2) := by decide +kernel
theorem dL_acts_332 : decode cL_acts 332 = .ok (.irem, 1) := by decide +kernel
theorem dL_acts_333 : decode cL_acts 333 = .ok (.iadd, 1) := by decide +kernel
theorem dL_acts_334 : decode cL_acts 334 = .ok (.invokestatic 126, 3) := by decide +kernel
theorem dL_acts_337 : decode cL_acts 337 = .ok (.istore 7, 2) := by decide +kernel
theorem dL_acts_339 : decode cL_acts 339 = .ok (.return_, 1) := by decide +kernel
theorem dL_isLine_0 : decode cL_isLine 0 = .ok (.iload_n 1, 1) := by decide +kernel
theorem dL_isLine_1 : decode cL_isLine 1 = .ok (.aload_n 2, 1) := by decide +kernel
theorem dL_isLine_2 : decode cL_isLine 2 = .ok (.invokevirtual 128, 3) := by decide +kernel
theorem dL_isLine_5 : decode cL_isLine 5 = .ok (.if_icmp .eq 5, 3) := by decide +kernel
theorem dL_isLine_8 : decode cL_isLine 8 = .ok (.iconst 0, 1) := by decide +kernel
theorem dL_isLine_9 : decode cL_isLine 9 = .ok (.ireturn, 1) := by decide +kernel
theorem dL_isLine_10 : decode cL_isLine 10 = .ok (.iconst 0, 1) := by decide +kernel
theorem dL_isLine_11 : decode cL_isLine 11 = .ok (.istore_n 3, 1) := by decide +kernel
theorem dL_isLine_12 : decode cL_isLine 12 = .ok (.iload_n 3, 1) := by decide +kernel
theorem dL_isLine_13 : decode cL_isLine 13 = .ok (.iload_n 1, 1) := by decide +kernel
theorem dL_isLine_14 : decode cL_isLine 14 = .ok (.if_icmp .ge 24, 3) := by decide +kernel
theorem dL_isLine_17 : decode cL_isLine 17 = .ok (.aload_n 0, 1) := by decide +kernel
theorem dL_isLine_18 : decode cL_isLine 18 = .ok (.iload_n 3, 1) := by decide +kernel
theorem dL_isLine_19 : decode cL_isLine 19 = .ok (.invokevirtual 133, 3) := by decide +kernel
theorem dL_isLine_22 : decode cL_isLine 22 = .ok (.aload_n 2, 1) := by decide +kernel
theorem dL_isLine_23 : decode cL_isLine 23 = .ok (.iload_n 3, 1) := by decide +kernel
theorem dL_isLine_24 : decode cL_isLine 24 = .ok (.invokevirtual 137, 3) := by decide +kernel
theorem dL_isLine_27 : decode cL_isLine 27 = .ok (.if_icmp .eq 5, 3) := by decide +kernel
theorem dL_isLine_30 : decode cL_isLine 30 = .ok (.iconst 0, 1) := by decide +kernel
theorem dL_isLine_31 : decode cL_isLine 31 = .ok (.ireturn, 1) := by decide +kernel
theorem dL_isLine_32 : decode cL_isLine 32 = .ok (.iinc 3 1, 3) := by decide +kernel
theorem dL_isLine_35 : decode cL_isLine 35 = .ok (.goto (-23), 3) := by decide +kernel
theorem dL_isLine_38 : decode cL_isLine 38 = .ok (.iconst 1, 1) := by decide +kernel
theorem dL_isLine_39 : decode cL_isLine 39 = .ok (.ireturn, 1) := by decide +kernel
theorem dL_law_0 : decode cL_law 0 = .ok (.new 14, 3) := by decide +kernel
theorem dL_law_3 : decode cL_law 3 = .ok (.dup, 1) := by decide +kernel
theorem dL_law_4 : decode cL_law 4 = .ok (.invokespecial 140, 3) := by decide +kernel
theorem dL_law_7 : decode cL_law 7 = .ok (.astore_n 1, 1) := by decide +kernel
theorem dL_law_8 : decode cL_law 8 = .ok (.aload_n 1, 1) := by decide +kernel
theorem dL_law_9 : decode cL_law 9 = .ok (.aload_n 0, 1) := by decide +kernel
theorem dL_law_10 : decode cL_law 10 = .ok (.invokestatic 141, 3) := by decide +kernel
theorem dL_law_13 : decode cL_law 13 = .ok (.iconst 0, 1) := by decide +kernel
theorem dL_law_14 : decode cL_law 14 = .ok (.istore_n 2, 1) := by decide +kernel
theorem dL_law_15 : decode cL_law 15 = .ok (.iload_n 2, 1) := by decide +kernel
theorem dL_law_16 : decode cL_law 16 = .ok (.iconst 3, 1) := by decide +kernel
theorem dL_law_17 : decode cL_law 17 = .ok (.if_icmp .ge 1576, 3) := by decide +kernel
theorem dL_law_20 : decode cL_law 20 = .ok (.aload_n 1, 1) := by decide +kernel
theorem dL_law_21 : decode cL_law 21 = .ok (.invokevirtual 101, 3) := by decide +kernel
theorem dL_law_24 : decode cL_law 24 = .ok (.istore_n 3, 1) := by decide +kernel
theorem dL_law_25 : decode cL_law 25 = .ok (.iconst 0, 1) := by decide +kernel
theorem dL_law_26 : decode cL_law 26 = .ok (.istore 4, 2) := by decide +kernel
theorem dL_law_28 : decode cL_law 28 = .ok (.iconst 0, 1) := by decide +kernel
theorem dL_law_29 : decode cL_law 29 = .ok (.istore 5, 2) := by decide +kernel
theorem dL_law_31 : decode cL_law 31 = .ok (.iconst 0, 1) := by decide +kernel
theorem dL_law_32 : decode cL_law 32 = .ok (.istore 6, 2) := by decide +kernel
theorem dL_law_34 : decode cL_law 34 = .ok (.iconst 0, 1) := by decide +kernel
theorem dL_law_35 : decode cL_law 35 = .ok (.istore 7, 2) := by decide +kernel
theorem dL_law_37 : decode cL_law 37 = .ok (.iconst 0, 1) := by decide +kernel
theorem dL_law_38 : decode cL_law 38 = .ok (.istore 8, 2) := by decide +kernel
theorem dL_law_40 : decode cL_law 40 = .ok (.aload_n 1, 1) := by decide +kernel
theorem dL_law_41 : decode cL_law 41 = .ok (.invokevirtual 145, 3) := by decide +kernel
theorem dL_law_44 : decode cL_law 44 = .ok (.istore 9, 2) := by decide +kernel
theorem dL_law_46 : decode cL_law 46 = .ok (.iload_n 3, 1) := by decide +kernel
theorem dL_law_47 : decode cL_law 47 = .ok (.newarray .int, 2) := by decide +kernel
theorem dL_law_49 : decode cL_law 49 = .ok (.astore 10, 2) := by decide +kernel
theorem dL_law_51 : decode cL_law 51 = .ok (.iload_n 3, 1) := by decide +kernel
theorem dL_law_52 : decode cL_law 52 = .ok (.newarray .int, 2) := by decide +kernel
theorem dL_law_54 : decode cL_law 54 = .ok (.astore 11, 2) := by decide +kernel
theorem dL_law_56 : decode cL_law 56 = .ok (.iconst 0, 1) := by decide +kernel
theorem dL_law_57 : decode cL_law 57 = .ok (.istore 12, 2) := by decide +kernel
theorem dL_law_59 : decode cL_law 59 = .ok (.iload 12, 2) := by decide +kernel
theorem dL_law_61 : decode cL_law 61 = .ok (.iload_n 3, 1) := by decide +kernel
theorem dL_law_62 : decode cL_law 62 = .ok (.if_icmp .ge 20, 3) := by decide +kernel
theorem dL_law_65 : decode cL_law 65 = .ok (.aload 10, 2) := by decide +kernel
theorem dL_law_67 : decode cL_law 67 = .ok (.iload 12, 2) := by decide +kernel
theorem dL_law_69 : decode cL_law 69 = .ok (.aload_n 1, 1) := by decide +kernel
theorem dL_law_70 : decode cL_law 70 = .ok (.iload 12, 2) := by decide +kernel
theorem dL_law_72 : decode cL_law 72 = .ok (.invokevirtual 104, 3) := by decide +kernel
theorem dL_law_75 : decode cL_law 75 = .ok (.iastore, 1) := by decide +kernel
theorem dL_law_76 : decode cL_law 76 = .ok (.iinc 12 1, 3) := by decide +kernel
theorem dL_law_79 : decode cL_law 79 = .ok (.goto (-20), 3) := by decide +kernel
theorem dL_law_82 : decode cL_law 82 = .ok (.iconst 0, 1) := by decide +kernel
theorem dL_law_83 : decode cL_law 83 = .ok (.istore 12, 2) := by decide +kernel
theorem dL_law_85 : decode cL_law 85 = .ok (.iload 12, 2) := by decide +kernel
theorem dL_law_87 : decode cL_law 87 = .ok (.iload_n 3, 1) := by decide +kernel
theorem dL_law_88 : decode cL_law 88 = .ok (.if_icmp .ge 383, 3) := by decide +kernel
theorem dL_law_91 : decode cL_law 91 = .ok (.aload 10, 2) := by decide +kernel
theorem dL_law_93 : decode cL_law 93 = .ok (.iload 12, 2) := by decide +kernel
theorem dL_law_95 : decode cL_law 95 = .ok (.iaload, 1) := by decide +kernel
theorem dL_law_96 : decode cL_law 96 = .ok (.istore 13, 2) := by decide +kernel
theorem dL_law_98 : decode cL_law 98 = .ok (.iconst 0, 1) := by decide +kernel
theorem dL_law_99 : decode cL_law 99 = .ok (.istore 14, 2) := by decide +kernel
theorem dL_law_101 : decode cL_law 101 = .ok (.iload 12, 2) := by decide +kernel
theorem dL_law_103 : decode cL_law 103 = .ok (.ifCond .le 15, 3) := by decide +kernel
theorem dL_law_106 : decode cL_law 106 = .ok (.iload 13, 2) := by decide +kernel
theorem dL_law_108 : decode cL_law 108 = .ok (.aload 10, 2) := by decide +kernel
theorem dL_law_110 : decode cL_law 110 = .ok (.iload 12, 2) := by decide +kernel
theorem dL_law_112 : decode cL_law 112 = .ok (.iconst 1, 1) := by decide +kernel
theorem dL_law_113 : decode cL_law 113 = .ok (.isub, 1) := by decide +kernel
theorem dL_law_114 : decode cL_law 114 = .ok (.iaload, 1) := by decide +kernel
theorem dL_law_115 : decode cL_law 115 = .ok (.if_icmp .le 43, 3) := by decide +kernel
theorem dL_law_118 : decode cL_law 118 = .ok (.aload_n 1, 1) := by decide +kernel
theorem dL_law_119 : decode cL_law 119 = .ok (.iload 13, 2) := by decide +kernel
theorem dL_law_121 : decode cL_law 121 = .ok (.invokevirtual 148, 3) := by decide +kernel
theorem dL_law_124 : decode cL_law 124 = .ok (.iconst 1, 1) := by decide +kernel
theorem dL_law_125 : decode cL_law 125 = .ok (.aload_n 1, 1) := by decide +kernel
theorem dL_law_126 : decode cL_law 126 = .ok (.iload 13, 2) := by decide +kernel
theorem dL_law_128 : decode cL_law 128 = .ok (.invokevirtual 151, 3) := by decide +kernel
theorem dL_law_131 : decode cL_law 131 = .ok (.aload_n 1, 1) := by decide +kernel
theorem dL_law_132 : decode cL_law 132 = .ok (.iload 13, 2) := by decide +kernel
theorem dL_law_134 : decode cL_law 134 = .ok (.invokevirtual 154, 3) := by decide +kernel
theorem dL_law_137 : decode cL_law 137 = .ok (.bipush 10, 2) := by decide +kernel
theorem dL_law_139 : decode cL_law 139 = .ok (.idiv, 1) := by decide +kernel
theorem dL_law_140 : decode cL_law 140 = .ok (.isub, 1) := by decide +kernel
theorem dL_law_141 : decode cL_law 141 = .ok (.invokestatic 157, 3) := by decide +kernel
theorem dL_law_144 : decode cL_law 144 = .ok (.if_icmp .ne 14, 3) := by decide +kernel
theorem dL_law_147 : decode cL_law 147 = .ok (.aload_n 1, 1) := by decide +kernel
theorem dL_law_148 : decode cL_law 148 = .ok (.iload 13, 2) := by decide +kernel
theorem dL_law_150 : decode cL_law 150 = .ok (.invokevirtual 154, 3) := by decide +kernel
theorem dL_law_153 : decode cL_law 153 = .ok (.bipush 90, 2) := by decide +kernel
theorem dL_law_155 : decode cL_law 155 = .ok (.if_icmp .le 5, 3) := by decide +kernel
theorem dL_law_158 : decode cL_law 158 = .ok (.iconst 0, 1) := by decide +kernel
theorem dL_law_159 : decode cL_law 159 = .ok (.ireturn, 1) := by decide +kernel
theorem dL_law_160 : decode cL_law 160 = .ok (.ldc 162, 2) := by decide +kernel
theorem dL_law_162 : decode cL_law 162 = .ok (.astore 15, 2) := by decide +kernel
theorem dL_law_164 : decode cL_law 164 = .ok (.iconst 0, 1) := by decide +kernel
theorem dL_law_165 : decode cL_law 165 = .ok (.istore 16, 2) := by decide +kernel
theorem dL_law_167 : decode cL_law 167 = .ok (.iload 16, 2) := by decide +kernel
theorem dL_law_169 : decode cL_law 169 = .ok (.iload_n 3, 1) := by decide +kernel
theorem dL_law_170 : decode cL_law 170 = .ok (.if_icmp .ge 175, 3) := by decide +kernel
theorem dL_law_173 : decode cL_law 173 = .ok (.aload_n 1, 1) := by decide +kernel
theorem dL_law_174 : decode cL_law 174 = .ok (.aload 10, 2) := by decide +kernel
theorem dL_law_176 : decode cL_law 176 = .ok (.iload 16, 2) := by decide +kernel
theorem dL_law_178 : decode cL_law 178 = .ok (.iaload, 1) := by decide +kernel
theorem dL_law_179 : decode cL_law 179 = .ok (.iload 13, 2) := by decide +kernel
theorem dL_law_181 : decode cL_law 181 = .ok (.invokevirtual 164, 3) := by decide +kernel
theorem dL_law_184 : decode cL_law 184 = .ok (.istore 17, 2) := by decide +kernel
theorem dL_law_186 : decode cL_law 186 = .ok (.iload 17, 2) := by decide +kernel
theorem dL_law_188 : decode cL_law 188 = .ok (.ifCond .eq 25, 3) := by decide +kernel
theorem dL_law_191 : decode cL_law 191 = .ok (.aload_n 1, 1) := by decide +kernel
theorem dL_law_192 : decode cL_law 192 = .ok (.aload 10, 2) := by decide +kernel
theorem dL_law_194 : decode cL_law 194 = .ok (.iload 16, 2) := by decide +kernel
theorem dL_law_196 : decode cL_law 196 = .ok (.iaload, 1) := by decide +kernel
theorem dL_law_197 : decode cL_law 197 = .ok (.invokevirtual 148, 3) := by decide +kernel
theorem dL_law_200 : decode cL_law 200 = .ok (.aload_n 1, 1) := by decide +kernel
theorem dL_law_201 : decode cL_law 201 = .ok (.iload 13, 2) := by decide +kernel
theorem dL_law_203 : decode cL_law 203 = .ok (.invokevirtual 148, 3) := by decide +kernel
theorem dL_law_206 : decode cL_law 206 = .ok (.if_icmp .lt 7, 3) := by decide +kernel
theorem dL_law_209 : decode cL_law 209 = .ok (.iconst 1, 1) := by decide +kernel
theorem dL_law_210 : decode cL_law 210 = .ok (.goto 4, 3) := by decide +kernel
theorem dL_law_213 : decode cL_law 213 = .ok (.iconst 0, 1) := by decide +kernel
theorem dL_law_214 : decode cL_law 214 = .ok (.istore 18, 2) := by decide +kernel
theorem dL_law_216 : decode cL_law 216 = .ok (.aload_n 1, 1) := by decide +kernel
theorem dL_law_217 : decode cL_law 217 = .ok (.aload 10, 2) := by decide +kernel
theorem dL_law_219 : decode cL_law 219 = .ok (.iload 16, 2) := by decide +kernel
theorem dL_law_221 : decode cL_law 221 = .ok (.iaload, 1) := by decide +kernel
theorem dL_law_222 : decode cL_law 222 = .ok (.iload 13, 2) := by decide +kernel
theorem dL_law_224 : decode cL_law 224 = .ok (.invokestatic 167, 3) := by decide +kernel
theorem dL_law_227 : decode cL_law 227 = .ok (.iload 17, 2) := by decide +kernel
theorem dL_law_229 : decode cL_law 229 = .ok (.ifCond .eq 16, 3) := by decide +kernel
theorem dL_law_232 : decode cL_law 232 = .ok (.iload 18, 2) := by decide +kernel
theorem dL_law_234 : decode cL_law 234 = .ok (.ifCond .eq 7, 3) := by decide +kernel
theorem dL_law_237 : decode cL_law 237 = .ok (.iconst 1, 1) := by decide +kernel
theorem dL_law_238 : decode cL_law 238 = .ok (.goto 10, 3) := by decide +kernel
theorem dL_law_241 : decode cL_law 241 = .ok (.iconst 0, 1) := by decide +kernel
theorem dL_law_242 : decode cL_law 242 = .ok (.goto 6, 3) := by decide +kernel
theorem dL_law_245 : decode cL_law 245 = .ok (.sipush (-30000), 3) := by decide +kernel
theorem dL_law_248 : decode cL_law 248 = .ok (.if_icmp .eq 5, 3) := by decide +kernel
theorem dL_law_251 : decode cL_law 251 = .ok (.iconst 0, 1) := by decide +kernel
theorem dL_law_252 : decode cL_law 252 = .ok (.ireturn, 1) := by decide +kernel
theorem dL_law_253 : decode cL_law 253 = .ok (.iload 4, 2) := by decide +kernel
theorem dL_law_255 : decode cL_law 255 = .ok (.iload 17, 2) := by decide +kernel
theorem dL_law_257 : decode cL_law 257 = .ok (.ifCond .eq 7, 3) := by decide +kernel
theorem dL_law_260 : decode cL_law 260 = .ok (.iconst 1, 1) := by decide +kernel
theorem dL_law_261 : decode cL_law 261 = .ok (.goto 4, 3) := by decide +kernel
theorem dL_law_264 : decode cL_law 264 = .ok (.iconst 0, 1) := by decide +kernel
theorem dL_law_265 : decode cL_law 265 = .ok (.iadd, 1) := by decide +kernel
theorem dL_law_266 : decode cL_law 266 = .ok (.istore 4, 2) := by decide +kernel
theorem dL_law_268 : decode cL_law 268 = .ok (.iload 18, 2) := by decide +kernel
theorem dL_law_270 : decode cL_law 270 = .ok (.ifCond .ne 6, 3) := by decide +kernel
theorem dL_law_273 : decode cL_law 273 = .ok (.goto 66, 3) := by decide +kernel
theorem dL_law_276 : decode cL_law 276 = .ok (.aload_n 1, 1) := by decide +kernel
theorem dL_law_277 : decode cL_law 277 = .ok (.iload 13, 2) := by decide +kernel
theorem dL_law_279 : decode cL_law 279 = .ok (.iload 14, 2) := by decide +kernel
theorem dL_law_281 : decode cL_law 281 = .ok (.invokestatic 169, 3) := by decide +kernel
theorem dL_law_284 : decode cL_law 284 = .ok (.aload 10, 2) := by decide +kernel
theorem dL_law_286 : decode cL_law 286 = .ok (.iload 16, 2) := by decide +kernel
theorem dL_law_288 : decode cL_law 288 = .ok (.iaload, 1) := by decide +kernel
theorem dL_law_289 : decode cL_law 289 = .ok (.if_icmp .eq 5, 3) := by decide +kernel
theorem dL_law_292 : decode cL_law 292 = .ok (.iconst 0, 1) := by decide +kernel
theorem dL_law_293 : decode cL_law 293 = .ok (.ireturn, 1) := by decide +kernel
theorem dL_law_294 : decode cL_law 294 = .ok (.aload 11, 2) := by decide +kernel
theorem dL_law_296 : decode cL_law 296 = .ok (.iload 12, 2) := by decide +kernel
theorem dL_law_298 : decode cL_law 298 = .ok (.dup2, 1) := by decide +kernel
theorem dL_law_299 : decode cL_law 299 = .ok (.iaload, 1) := by decide +kernel
theorem dL_law_300 : decode cL_law 300 = .ok (.iconst 1, 1) := by decide +kernel
theorem dL_law_301 : decode cL_law 301 = .ok (.iload 16, 2) := by decide +kernel
theorem dL_law_303 : decode cL_law 303 = .ok (.ishl, 1) := by decide +kernel
theorem dL_law_304 : decode cL_law 304 = .ok (.ior, 1) := by decide +kernel
theorem dL_law_305 : decode cL_law 305 = .ok (.iastore, 1) := by decide +kernel
theorem dL_law_306 : decode cL_law 306 = .ok (.new 171, 3) := by decide +kernel
theorem dL_law_309 : decode cL_law 309 = .ok (.dup, 1) := by decide +kernel
theorem dL_law_310 : decode cL_law 310 = .ok (.invokespecial 173, 3) := by decide +kernel
theorem dL_law_313 : decode cL_law 313 = .ok (.aload 15, 2) := by decide +kernel
theorem dL_law_315 : decode cL_law 315 = .ok (.invokevirtual 174, 3) := by decide +kernel
theorem dL_law_318 : decode cL_law 318 = .ok (.ldc 178, 2) := by decide +kernel
theorem dL_law_320 : decode cL_law 320 = .ok (.invokevirtual 174, 3) := by decide +kernel
theorem dL_law_323 : decode cL_law 323 = .ok (.aload 10, 2) := by decide +kernel
theorem dL_law_325 : decode cL_law 325 = .ok (.iload 16, 2) := by decide +kernel
theorem dL_law_327 : decode cL_law 327 = .ok (.iaload, 1) := by decide +kernel
theorem dL_law_328 : decode cL_law 328 = .ok (.invokevirtual 180, 3) := by decide +kernel
theorem dL_law_331 : decode cL_law 331 = .ok (.invokevirtual 183, 3) := by decide +kernel
theorem dL_law_334 : decode cL_law 334 = .ok (.astore 15, 2) := by decide +kernel
theorem dL_law_336 : decode cL_law 336 = .ok (.iinc 14 1, 3) := by decide +kernel
theorem dL_law_339 : decode cL_law 339 = .ok (.iinc 16 1, 3) := by decide +kernel
theorem dL_law_342 : decode cL_law 342 = .ok (.goto (-175), 3) := by decide +kernel
theorem dL_law_345 : decode cL_law 345 = .ok (.iload 5, 2) := by decide +kernel
theorem dL_law_347 : decode cL_law 347 = .ok (.iload 14, 2) := by decide +kernel
theorem dL_law_349 : decode cL_law 349 = .ok (.iadd, 1) := by decide +kernel
theorem dL_law_350 : decode cL_law 350 = .ok (.istore 5, 2) := by decide +kernel
theorem dL_law_352 : decode cL_law 352 = .ok (.iload 8, 2) := by decide +kernel
theorem dL_law_354 : decode cL_law 354 = .ok (.aload_n 1, 1) := by decide +kernel
theorem dL_law_355 : decode cL_law 355 = .ok (.iload 13, 2) := by decide +kernel
theorem dL_law_357 : decode cL_law 357 = .ok (.invokevirtual 148, 3) := by decide +kernel
theorem dL_law_360 : decode cL_law 360 = .ok (.iadd, 1) := by decide +kernel
theorem dL_law_361 : decode cL_law 361 = .ok (.istore 8, 2) := by decide +kernel
theorem dL_law_363 : decode cL_law 363 = .ok (.aload_n 1, 1) := by decide +kernel
theorem dL_law_364 : decode cL_law 364 = .ok (.iload 13, 2) := by decide +kernel
theorem dL_law_366 : decode cL_law 366 = .ok (.invokevirtual 187, 3) := by decide +kernel
theorem dL_law_369 : decode cL_law 369 = .ok (.iload 14, 2) := by decide +kernel
theorem dL_law_371 : decode cL_law 371 = .ok (.if_icmp .ne 92, 3) := by decide +kernel
theorem dL_law_374 : decode cL_law 374 = .ok (.aload_n 1, 1) := by decide +kernel
theorem dL_law_375 : decode cL_law 375 = .ok (.iload 13, 2) := by decide +kernel
theorem dL_law_377 : decode cL_law 377 = .ok (.iload 14, 2) := by decide +kernel
theorem dL_law_379 : decode cL_law 379 = .ok (.invokestatic 169, 3) := by decide +kernel
theorem dL_law_382 : decode cL_law 382 = .ok (.sipush (-25000), 3) := by decide +kernel
theorem dL_law_385 : decode cL_law 385 = .ok (.if_icmp .ne 78, 3) := by decide +kernel
theorem dL_law_388 : decode cL_law 388 = .ok (.aload_n 1, 1) := by decide +kernel
theorem dL_law_389 : decode cL_law 389 = .ok (.aload_n 1, 1) := by decide +kernel
theorem dL_law_390 : decode cL_law 390 = .ok (.iload 13, 2) := by decide +kernel
theorem dL_law_392 : decode cL_law 392 = .ok (.invokevirtual 190, 3) := by decide +kernel
theorem dL_law_395 : decode cL_law 395 = .ok (.new 171, 3) := by decide +kernel
theorem dL_law_398 : decode cL_law 398 = .ok (.dup, 1) := by decide +kernel
theorem dL_law_399 : decode cL_law 399 = .ok (.invokespecial 173, 3) := by decide +kernel
theorem dL_law_402 : decode cL_law 402 = .ok (.iload 13, 2) := by decide +kernel
theorem dL_law_404 : decode cL_law 404 = .ok (.invokevirtual 180, 3) := by decide +kernel
theorem dL_law_407 : decode cL_law 407 = .ok (.ldc 193, 2) := by decide +kernel
theorem dL_law_409 : decode cL_law 409 = .ok (.invokevirtual 174, 3) := by decide +kernel
theorem dL_law_412 : decode cL_law 412 = .ok (.aload_n 1, 1) := by decide +kernel
theorem dL_law_413 : decode cL_law 413 = .ok (.iload 13, 2) := by decide +kernel
theorem dL_law_415 : decode cL_law 415 = .ok (.invokevirtual 148, 3) := by decide +kernel
theorem dL_law_418 : decode cL_law 418 = .ok (.invokevirtual 180, 3) := by decide +kernel
theorem dL_law_421 : decode cL_law 421 = .ok (.ldc 195, 2) := by decide +kernel
theorem dL_law_423 : decode cL_law 423 = .ok (.invokevirtual 174, 3) := by decide +kernel
theorem dL_law_426 : decode cL_law 426 = .ok (.aload_n 1, 1) := by decide +kernel
theorem dL_law_427 : decode cL_law 427 = .ok (.iload 13, 2) := by decide +kernel
theorem dL_law_429 : decode cL_law 429 = .ok (.invokevirtual 151, 3) := by decide +kernel
theorem dL_law_432 : decode cL_law 432 = .ok (.invokevirtual 180, 3) := by decide +kernel
theorem dL_law_435 : decode cL_law 435 = .ok (.ldc 197, 2) := by decide +kernel
theorem dL_law_437 : decode cL_law 437 = .ok (.invokevirtual 174, 3) := by decide +kernel
theorem dL_law_440 : decode cL_law 440 = .ok (.aload_n 1, 1) := by decide +kernel
theorem dL_law_441 : decode cL_law 441 = .ok (.iload 13, 2) := by decide +kernel
theorem dL_law_443 : decode cL_law 443 = .ok (.invokevirtual 199, 3) := by decide +kernel
theorem dL_law_446 : decode cL_law 446 = .ok (.invokevirtual 202, 3) := by decide +kernel
theorem dL_law_449 : decode cL_law 449 = .ok (.aload 15, 2) := by decide +kernel
theorem dL_law_451 : decode cL_law 451 = .ok (.invokevirtual 174, 3) := by decide +kernel
theorem dL_law_454 : decode cL_law 454 = .ok (.invokevirtual 183, 3) := by decide +kernel
theorem dL_law_457 : decode cL_law 457 = .ok (.invokestatic 205, 3) := by decide +kernel
theorem dL_law_460 : decode cL_law 460 = .ok (.ifCond .ne 5, 3) := by decide +kernel
theorem dL_law_463 : decode cL_law 463 = .ok (.iconst 0, 1) := by decide +kernel
theorem dL_law_464 : decode cL_law 464 = .ok (.ireturn, 1) := by decide +kernel
theorem dL_law_465 : decode cL_law 465 = .ok (.iinc 12 1, 3) := by decide +kernel
theorem dL_law_468 : decode cL_law 468 = .ok (.goto (-383), 3) := by decide +kernel
theorem dL_law_471 : decode cL_law 471 = .ok (.iconst 0, 1) := by decide +kernel
theorem dL_law_472 : decode cL_law 472 = .ok (.istore 12, 2) := by decide +kernel
theorem dL_law_474 : decode cL_law 474 = .ok (.iconst 0, 1) := by decide +kernel
theorem dL_law_475 : decode cL_law 475 = .ok (.istore 13, 2) := by decide +kernel
theorem dL_law_477 : decode cL_law 477 = .ok (.iconst 0, 1) := by decide +kernel
theorem dL_law_478 : decode cL_law 478 = .ok (.istore 14, 2) := by decide +kernel
theorem dL_law_480 : decode cL_law 480 = .ok (.iload 14, 2) := by decide +kernel
theorem dL_law_482 : decode cL_law 482 = .ok (.iload_n 3, 1) := by decide +kernel
theorem dL_law_483 : decode cL_law 483 = .ok (.if_icmp .ge 94, 3) := by decide +kernel
theorem dL_law_486 : decode cL_law 486 = .ok (.aload_n 1, 1) := by decide +kernel
theorem dL_law_487 : decode cL_law 487 = .ok (.aload 10, 2) := by decide +kernel
theorem dL_law_489 : decode cL_law 489 = .ok (.iload 14, 2) := by decide +kernel
theorem dL_law_491 : decode cL_law 491 = .ok (.iaload, 1) := by decide +kernel
theorem dL_law_492 : decode cL_law 492 = .ok (.invokevirtual 199, 3) := by decide +kernel
theorem dL_law_495 : decode cL_law 495 = .ok (.istore 15, 2) := by decide +kernel
theorem dL_law_497 : decode cL_law 497 = .ok (.iload 12, 2) := by decide +kernel
theorem dL_law_499 : decode cL_law 499 = .ok (.iload 15, 2) := by decide +kernel
theorem dL_law_501 : decode cL_law 501 = .ok (.bipush 97, 2) := by decide +kernel
theorem dL_law_503 : decode cL_law 503 = .ok (.if_icmp .ne 10, 3) := by decide +kernel
theorem dL_law_506 : decode cL_law 506 = .ok (.iconst 1, 1) := by decide +kernel
theorem dL_law_507 : decode cL_law 507 = .ok (.iload 14, 2) := by decide +kernel
theorem dL_law_509 : decode cL_law 509 = .ok (.ishl, 1) := by decide +kernel
theorem dL_law_510 : decode cL_law 510 = .ok (.goto 4, 3) := by decide +kernel
theorem dL_law_513 : decode cL_law 513 = .ok (.iconst 0, 1) := by decide +kernel
theorem dL_law_514 : decode cL_law 514 = .ok (.ior, 1) := by decide +kernel
theorem dL_law_515 : decode cL_law 515 = .ok (.istore 12, 2) := by decide +kernel
theorem dL_law_517 : decode cL_law 517 = .ok (.iload 13, 2) := by decide +kernel
theorem dL_law_519 : decode cL_law 519 = .ok (.iload 15, 2) := by decide +kernel
theorem dL_law_521 : decode cL_law 521 = .ok (.bipush 114, 2) := by decide +kernel
theorem dL_law_523 : decode cL_law 523 = .ok (.if_icmp .ne 10, 3) := by decide +kernel
theorem dL_law_526 : decode cL_law 526 = .ok (.iconst 1, 1) := by decide +kernel
theorem dL_law_527 : decode cL_law 527 = .ok (.iload 14, 2) := by decide +kernel
theorem dL_law_529 : decode cL_law 529 = .ok (.ishl, 1) := by decide +kernel
theorem dL_law_530 : decode cL_law 530 = .ok (.goto 4, 3) := by decide +kernel
theorem dL_law_533 : decode cL_law 533 = .ok (.iconst 0, 1) := by decide +kernel
theorem dL_law_534 : decode cL_law 534 = .ok (.ior, 1) := by decide +kernel
theorem dL_law_535 : decode cL_law 535 = .ok (.istore 13, 2) := by decide +kernel
theorem dL_law_537 : decode cL_law 537 = .ok (.iload 6, 2) := by decide +kernel
theorem dL_law_539 : decode cL_law 539 = .ok (.iload 15, 2) := by decide +kernel
theorem dL_law_541 : decode cL_law 541 = .ok (.bipush 97, 2) := by decide +kernel
theorem dL_law_543 : decode cL_law 543 = .ok (.if_icmp .ne 7, 3) := by decide +kernel
theorem dL_law_546 : decode cL_law 546 = .ok (.iconst 1, 1) := by decide +kernel
theorem dL_law_547 : decode cL_law 547 = .ok (.goto 4, 3) := by decide +kernel
theorem dL_law_550 : decode cL_law 550 = .ok (.iconst 0, 1) := by decide +kernel
theorem dL_law_551 : decode cL_law 551 = .ok (.iadd, 1) := by decide +kernel
theorem dL_law_552 : decode cL_law 552 = .ok (.istore 6, 2) := by decide +kernel
theorem dL_law_554 : decode cL_law 554 = .ok (.iload 7, 2) := by decide +kernel
theorem dL_law_556 : decode cL_law 556 = .ok (.iload 15, 2) := by decide +kernel
theorem dL_law_558 : decode cL_law 558 = .ok (.bipush 117, 2) := by decide +kernel
theorem dL_law_560 : decode cL_law 560 = .ok (.if_icmp .ne 7, 3) := by decide +kernel
theorem dL_law_563 : decode cL_law 563 = .ok (.iconst 1, 1) := by decide +kernel
theorem dL_law_564 : decode cL_law 564 = .ok (.goto 4, 3) := by decide +kernel
theorem dL_law_567 : decode cL_law 567 = .ok (.iconst 0, 1) := by decide +kernel
theorem dL_law_568 : decode cL_law 568 = .ok (.iadd, 1) := by decide +kernel
theorem dL_law_569 : decode cL_law 569 = .ok (.istore 7, 2) := by decide +kernel
theorem dL_law_571 : decode cL_law 571 = .ok (.iinc 14 1, 3) := by decide +kernel
theorem dL_law_574 : decode cL_law 574 = .ok (.goto (-94), 3) := by decide +kernel
theorem dL_law_577 : decode cL_law 577 = .ok (.iconst 0, 1) := by decide +kernel
theorem dL_law_578 : decode cL_law 578 = .ok (.istore 14, 2) := by decide +kernel
theorem dL_law_580 : decode cL_law 580 = .ok (.iconst 0, 1) := by decide +kernel
theorem dL_law_581 : decode cL_law 581 = .ok (.istore 15, 2) := by decide +kernel
theorem dL_law_583 : decode cL_law 583 = .ok (.iconst 0, 1) := by decide +kernel
theorem dL_law_584 : decode cL_law 584 = .ok (.istore 16, 2) := by decide +kernel
theorem dL_law_586 : decode cL_law 586 = .ok (.iconst 0, 1) := by decide +kernel
theorem dL_law_587 : decode cL_law 587 = .ok (.istore 17, 2) := by decide +kernel
theorem dL_law_589 : decode cL_law 589 = .ok (.iconst 1, 1) := by decide +kernel
theorem dL_law_590 : decode cL_law 590 = .ok (.iload_n 3, 1) := by decide +kernel
theorem dL_law_591 : decode cL_law 591 = .ok (.ishl, 1) := by decide +kernel
theorem dL_law_592 : decode cL_law 592 = .ok (.iconst 1, 1) := by decide +kernel
theorem dL_law_593 : decode cL_law 593 = .ok (.isub, 1) := by decide +kernel
theorem dL_law_594 : decode cL_law 594 = .ok (.istore 18, 2) := by decide +kernel
theorem dL_law_596 : decode cL_law 596 = .ok (.iconst 1, 1) := by decide +kernel
theorem dL_law_597 : decode cL_law 597 = .ok (.iload_n 3, 1) := by decide +kernel
theorem dL_law_598 : decode cL_law 598 = .ok (.ishl, 1) := by decide +kernel
theorem dL_law_599 : decode cL_law 599 = .ok (.newarray .boolean, 2) := by decide +kernel
theorem dL_law_601 : decode cL_law 601 = .ok (.astore 19, 2) := by decide +kernel
theorem dL_law_603 : decode cL_law 603 = .ok (.iconst 0, 1) := by decide +kernel
theorem dL_law_604 : decode cL_law 604 = .ok (.istore 20, 2) := by decide +kernel
theorem dL_law_606 : decode cL_law 606 = .ok (.iload 20, 2) := by decide +kernel
theorem dL_law_608 : decode cL_law 608 = .ok (.iconst 1, 1) := by decide +kernel
theorem dL_law_609 : decode cL_law 609 = .ok (.iload_n 3, 1) := by decide +kernel
theorem dL_law_610 : decode cL_law 610 = .ok (.ishl, 1) := by decide +kernel
theorem dL_law_611 : decode cL_law 611 = .ok (.if_icmp .ge 163, 3) := by decide +kernel
theorem dL_law_614 : decode cL_law 614 = .ok (.iconst 0, 1) := by decide +kernel
theorem dL_law_615 : decode cL_law 615 = .ok (.istore 21, 2) := by decide +kernel
theorem dL_law_617 : decode cL_law 617 = .ok (.iconst 0, 1) := by decide +kernel
theorem dL_law_618 : decode cL_law 618 = .ok (.istore 22, 2) := by decide +kernel
theorem dL_law_620 : decode cL_law 620 = .ok (.iconst 0, 1) := by decide +kernel
theorem dL_law_621 : decode cL_law 621 = .ok (.istore 23, 2) := by decide +kernel
theorem dL_law_623 : decode cL_law 623 = .ok (.iload 23, 2) := by decide +kernel
theorem dL_law_625 : decode cL_law 625 = .ok (.iload_n 3, 1) := by decide +kernel
theorem dL_law_626 : decode cL_law 626 = .ok (.if_icmp .ge 58, 3) := by decide +kernel
theorem dL_law_629 : decode cL_law 629 = .ok (.iload 21, 2) := by decide +kernel
theorem dL_law_631 : decode cL_law 631 = .ok (.aload 11, 2) := by decide +kernel
theorem dL_law_633 : decode cL_law 633 = .ok (.iload 23, 2) := by decide +kernel
theorem dL_law_635 : decode cL_law 635 = .ok (.iaload, 1) := by decide +kernel
theorem dL_law_636 : decode cL_law 636 = .ok (.iload 20, 2) := by decide +kernel
theorem dL_law_638 : decode cL_law 638 = .ok (.iand, 1) := by decide +kernel
theorem dL_law_639 : decode cL_law 639 = .ok (.ifCond .eq 10, 3) := by decide +kernel
theorem dL_law_642 : decode cL_law 642 = .ok (.iconst 1, 1) := by decide +kernel
theorem dL_law_643 : decode cL_law 643 = .ok (.iload 23, 2) := by decide +kernel
theorem dL_law_645 : decode cL_law 645 = .ok (.ishl, 1) := by decide +kernel
theorem dL_law_646 : decode cL_law 646 = .ok (.goto 4, 3) := by decide +kernel
theorem dL_law_649 : decode cL_law 649 = .ok (.iconst 0, 1) := by decide +kernel
theorem dL_law_650 : decode cL_law 650 = .ok (.ior, 1) := by decide +kernel
theorem dL_law_651 : decode cL_law 651 = .ok (.istore 21, 2) := by decide +kernel
theorem dL_law_653 : decode cL_law 653 = .ok (.iload 22, 2) := by decide +kernel
theorem dL_law_655 : decode cL_law 655 = .ok (.iload 20, 2) := by decide +kernel
theorem dL_law_657 : decode cL_law 657 = .ok (.iload 23, 2) := by decide +kernel
theorem dL_law_659 : decode cL_law 659 = .ok (.ishr, 1) := by decide +kernel
theorem dL_law_660 : decode cL_law 660 = .ok (.iconst 1, 1) := by decide +kernel
theorem dL_law_661 : decode cL_law 661 = .ok (.iand, 1) := by decide +kernel
theorem dL_law_662 : decode cL_law 662 = .ok (.iconst 1, 1) := by decide +kernel
theorem dL_law_663 : decode cL_law 663 = .ok (.if_icmp .ne 11, 3) := by decide +kernel
theorem dL_law_666 : decode cL_law 666 = .ok (.aload 11, 2) := by decide +kernel
theorem dL_law_668 : decode cL_law 668 = .ok (.iload 23, 2) := by decide +kernel
theorem dL_law_670 : decode cL_law 670 = .ok (.iaload, 1) := by decide +kernel
theorem dL_law_671 : decode cL_law 671 = .ok (.goto 4, 3) := by decide +kernel
theorem dL_law_674 : decode cL_law 674 = .ok (.iconst 0, 1) := by decide +kernel
theorem dL_law_675 : decode cL_law 675 = .ok (.ior, 1) := by decide +kernel
theorem dL_law_676 : decode cL_law 676 = .ok (.istore 22, 2) := by decide +kernel
theorem dL_law_678 : decode cL_law 678 = .ok (.iinc 23 1, 3) := by decide +kernel
theorem dL_law_681 : decode cL_law 681 = .ok (.goto (-58), 3) := by decide +kernel
theorem dL_law_684 : decode cL_law 684 = .ok (.aload 19, 2) := by decide +kernel
theorem dL_law_686 : decode cL_law 686 = .ok (.iload 20, 2) := by decide +kernel
theorem dL_law_688 : decode cL_law 688 = .ok (.iload 22, 2) := by decide +kernel
theorem dL_law_690 : decode cL_law 690 = .ok (.iload 20, 2) := by decide +kernel
theorem dL_law_692 : decode cL_law 692 = .ok (.iand, 1) := by decide +kernel
theorem dL_law_693 : decode cL_law 693 = .ok (.ifCond .ne 17, 3) := by decide +kernel
theorem dL_law_696 : decode cL_law 696 = .ok (.iload 22, 2) := by decide +kernel
theorem dL_law_698 : decode cL_law 698 = .ok (.iload 21, 2) := by decide +kernel
theorem dL_law_700 : decode cL_law 700 = .ok (.iconst (-1), 1) := by decide +kernel
theorem dL_law_701 : decode cL_law 701 = .ok (.ixor, 1) := by decide +kernel
theorem dL_law_702 : decode cL_law 702 = .ok (.iand, 1) := by decide +kernel
theorem dL_law_703 : decode cL_law 703 = .ok (.ifCond .ne 7, 3) := by decide +kernel
theorem dL_law_706 : decode cL_law 706 = .ok (.iconst 1, 1) := by decide +kernel
theorem dL_law_707 : decode cL_law 707 = .ok (.goto 4, 3) := by decide +kernel
theorem dL_law_710 : decode cL_law 710 = .ok (.iconst 0, 1) := by decide +kernel
theorem dL_law_711 : decode cL_law 711 = .ok (.bastore, 1) := by decide +kernel
theorem dL_law_712 : decode cL_law 712 = .ok (.iload 14, 2) := by decide +kernel
theorem dL_law_714 : decode cL_law 714 = .ok (.iload 22, 2) := by decide +kernel
theorem dL_law_716 : decode cL_law 716 = .ok (.iload 20, 2) := by decide +kernel
theorem dL_law_718 : decode cL_law 718 = .ok (.iand, 1) := by decide +kernel
theorem dL_law_719 : decode cL_law 719 = .ok (.ifCond .ne 20, 3) := by decide +kernel
theorem dL_law_722 : decode cL_law 722 = .ok (.iload 21, 2) := by decide +kernel
theorem dL_law_724 : decode cL_law 724 = .ok (.iload 20, 2) := by decide +kernel
theorem dL_law_726 : decode cL_law 726 = .ok (.ior, 1) := by decide +kernel
theorem dL_law_727 : decode cL_law 727 = .ok (.iconst 1, 1) := by decide +kernel
theorem dL_law_728 : decode cL_law 728 = .ok (.iload_n 3, 1) := by decide +kernel
theorem dL_law_729 : decode cL_law 729 = .ok (.ishl, 1) := by decide +kernel
theorem dL_law_730 : decode cL_law 730 = .ok (.iconst 1, 1) := by decide +kernel
theorem dL_law_731 : decode cL_law 731 = .ok (.isub, 1) := by decide +kernel
theorem dL_law_732 : decode cL_law 732 = .ok (.if_icmp .ne 7, 3) := by decide +kernel
theorem dL_law_735 : decode cL_law 735 = .ok (.iconst 1, 1) := by decide +kernel
theorem dL_law_736 : decode cL_law 736 = .ok (.goto 4, 3) := by decide +kernel
theorem dL_law_739 : decode cL_law 739 = .ok (.iconst 0, 1) := by decide +kernel
theorem dL_law_740 : decode cL_law 740 = .ok (.iadd, 1) := by decide +kernel
theorem dL_law_741 : decode cL_law 741 = .ok (.istore 14, 2) := by decide +kernel
theorem dL_law_743 : decode cL_law 743 = .ok (.aload 19, 2) := by decide +kernel
theorem dL_law_745 : decode cL_law 745 = .ok (.iload 20, 2) := by decide +kernel
theorem dL_law_747 : decode cL_law 747 = .ok (.baload, 1) := by decide +kernel
theorem dL_law_748 : decode cL_law 748 = .ok (.ifCond .eq 16, 3) := by decide +kernel
theorem dL_law_751 : decode cL_law 751 = .ok (.iload 16, 2) := by decide +kernel
theorem dL_law_753 : decode cL_law 753 = .ok (.iload 20, 2) := by decide +kernel
theorem dL_law_755 : decode cL_law 755 = .ok (.invokestatic 209, 3) := by decide +kernel
theorem dL_law_758 : decode cL_law 758 = .ok (.invokestatic 157, 3) := by decide +kernel
theorem dL_law_761 : decode cL_law 761 = .ok (.goto 5, 3) := by decide +kernel
theorem dL_law_764 : decode cL_law 764 = .ok (.iload 16, 2) := by decide +kernel
theorem dL_law_766 : decode cL_law 766 = .ok (.istore 16, 2) := by decide +kernel
theorem dL_law_768 : decode cL_law 768 = .ok (.iinc 20 1, 3) := by decide +kernel
theorem dL_law_771 : decode cL_law 771 = .ok (.goto (-165), 3) := by decide +kernel
theorem dL_law_774 : decode cL_law 774 = .ok (.aload_n 0, 1) := by decide +kernel
theorem dL_law_775 : decode cL_law 775 = .ok (.bipush 100, 2) := by decide +kernel
theorem dL_law_777 : decode cL_law 777 = .ok (.iload_n 2, 1) := by decide +kernel
theorem dL_law_778 : decode cL_law 778 = .ok (.iadd, 1) := by decide +kernel
theorem dL_law_779 : decode cL_law 779 = .ok (.iload_n 3, 1) := by decide +kernel
theorem dL_law_780 : decode cL_law 780 = .ok (.invokestatic 87, 3) := by decide +kernel
theorem dL_law_783 : decode cL_law 783 = .ok (.istore 20, 2) := by decide +kernel
theorem dL_law_785 : decode cL_law 785 = .ok (.aload_n 0, 1) := by decide +kernel
theorem dL_law_786 : decode cL_law 786 = .ok (.bipush 104, 2) := by decide +kernel
theorem dL_law_788 : decode cL_law 788 = .ok (.iload_n 2, 1) := by decide +kernel
theorem dL_law_789 : decode cL_law 789 = .ok (.iadd, 1) := by decide +kernel
theorem dL_law_790 : decode cL_law 790 = .ok (.iload_n 3, 1) := by decide +kernel
theorem dL_law_791 : decode cL_law 791 = .ok (.invokestatic 87, 3) := by decide +kernel
theorem dL_law_794 : decode cL_law 794 = .ok (.istore 21, 2) := by decide +kernel
theorem dL_law_796 : decode cL_law 796 = .ok (.iconst 0, 1) := by decide +kernel
theorem dL_law_797 : decode cL_law 797 = .ok (.istore 22, 2) := by decide +kernel
theorem dL_law_799 : decode cL_law 799 = .ok (.iconst 0, 1) := by decide +kernel
theorem dL_law_800 : decode cL_law 800 = .ok (.istore 23, 2) := by decide +kernel
theorem dL_law_802 : decode cL_law 802 = .ok (.iload 23, 2) := by decide +kernel
theorem dL_law_804 : decode cL_law 804 = .ok (.iconst 1, 1) := by decide +kernel
theorem dL_law_805 : decode cL_law 805 = .ok (.iload_n 3, 1) := by decide +kernel
theorem dL_law_806 : decode cL_law 806 = .ok (.ishl, 1) := by decide +kernel
theorem dL_law_807 : decode cL_law 807 = .ok (.if_icmp .ge 123, 3) := by decide +kernel
theorem dL_law_810 : decode cL_law 810 = .ok (.aload 19, 2) := by decide +kernel
theorem dL_law_812 : decode cL_law 812 = .ok (.iload 23, 2) := by decide +kernel
theorem dL_law_814 : decode cL_law 814 = .ok (.baload, 1) := by decide +kernel
theorem dL_law_815 : decode cL_law 815 = .ok (.istore 24, 2) := by decide +kernel
theorem dL_law_817 : decode cL_law 817 = .ok (.iload 23, 2) := by decide +kernel
theorem dL_law_819 : decode cL_law 819 = .ok (.iconst 1, 1) := by decide +kernel
theorem dL_law_820 : decode cL_law 820 = .ok (.iadd, 1) := by decide +kernel
theorem dL_law_821 : decode cL_law 821 = .ok (.istore 25, 2) := by decide +kernel
theorem dL_law_823 : decode cL_law 823 = .ok (.iload 25, 2) := by decide +kernel
theorem dL_law_825 : decode cL_law 825 = .ok (.iconst 1, 1) := by decide +kernel
theorem dL_law_826 : decode cL_law 826 = .ok (.iload_n 3, 1) := by decide +kernel
theorem dL_law_827 : decode cL_law 827 = .ok (.ishl, 1) := by decide +kernel
theorem dL_law_828 : decode cL_law 828 = .ok (.if_icmp .ge 39, 3) := by decide +kernel
theorem dL_law_831 : decode cL_law 831 = .ok (.iload 24, 2) := by decide +kernel
theorem dL_law_833 : decode cL_law 833 = .ok (.ifCond .eq 34, 3) := by decide +kernel
theorem dL_law_836 : decode cL_law 836 = .ok (.iload 25, 2) := by decide +kernel
theorem dL_law_838 : decode cL_law 838 = .ok (.iload 23, 2) := by decide +kernel
theorem dL_law_840 : decode cL_law 840 = .ok (.iand, 1) := by decide +kernel
theorem dL_law_841 : decode cL_law 841 = .ok (.iload 23, 2) := by decide +kernel
theorem dL_law_843 : decode cL_law 843 = .ok (.if_icmp .ne 11, 3) := by decide +kernel
theorem dL_law_846 : decode cL_law 846 = .ok (.aload 19, 2) := by decide +kernel
theorem dL_law_848 : decode cL_law 848 = .ok (.iload 25, 2) := by decide +kernel
theorem dL_law_850 : decode cL_law 850 = .ok (.baload, 1) := by decide +kernel
theorem dL_law_851 : decode cL_law 851 = .ok (.ifCond .ne 7, 3) := by decide +kernel
theorem dL_law_854 : decode cL_law 854 = .ok (.iconst 1, 1) := by decide +kernel
theorem dL_law_855 : decode cL_law 855 = .ok (.goto 4, 3) := by decide +kernel
theorem dL_law_858 : decode cL_law 858 = .ok (.iconst 0, 1) := by decide +kernel
theorem dL_law_859 : decode cL_law 859 = .ok (.istore 24, 2) := by decide +kernel
theorem dL_law_861 : decode cL_law 861 = .ok (.iinc 25 1, 3) := by decide +kernel
theorem dL_law_864 : decode cL_law 864 = .ok (.goto (-41), 3) := by decide +kernel
theorem dL_law_867 : decode cL_law 867 = .ok (.iload 24, 2) := by decide +kernel
theorem dL_law_869 : decode cL_law 869 = .ok (.ifCond .ne 6, 3) := by decide +kernel
theorem dL_law_872 : decode cL_law 872 = .ok (.goto 52, 3) := by decide +kernel
theorem dL_law_875 : decode cL_law 875 = .ok (.iinc 15 1, 3) := by decide +kernel
theorem dL_law_878 : decode cL_law 878 = .ok (.iload 17, 2) := by decide +kernel
theorem dL_law_880 : decode cL_law 880 = .ok (.iload 23, 2) := by decide +kernel
theorem dL_law_882 : decode cL_law 882 = .ok (.ior, 1) := by decide +kernel
theorem dL_law_883 : decode cL_law 883 = .ok (.istore 17, 2) := by decide +kernel
theorem dL_law_885 : decode cL_law 885 = .ok (.iload 18, 2) := by decide +kernel
theorem dL_law_887 : decode cL_law 887 = .ok (.iload 23, 2) := by decide +kernel
theorem dL_law_889 : decode cL_law 889 = .ok (.iand, 1) := by decide +kernel
theorem dL_law_890 : decode cL_law 890 = .ok (.istore 18, 2) := by decide +kernel
theorem dL_law_892 : decode cL_law 892 = .ok (.iload 22, 2) := by decide +kernel
theorem dL_law_894 : decode cL_law 894 = .ok (.iload 23, 2) := by decide +kernel
theorem dL_law_896 : decode cL_law 896 = .ok (.iload 20, 2) := by decide +kernel
theorem dL_law_898 : decode cL_law 898 = .ok (.ishr, 1) := by decide +kernel
theorem dL_law_899 : decode cL_law 899 = .ok (.iconst 1, 1) := by decide +kernel
theorem dL_law_900 : decode cL_law 900 = .ok (.iand, 1) := by decide +kernel
theorem dL_law_901 : decode cL_law 901 = .ok (.iconst 1, 1) := by decide +kernel
theorem dL_law_902 : decode cL_law 902 = .ok (.if_icmp .ne 18, 3) := by decide +kernel
theorem dL_law_905 : decode cL_law 905 = .ok (.iload 23, 2) := by decide +kernel
theorem dL_law_907 : decode cL_law 907 = .ok (.iload 21, 2) := by decide +kernel
theorem dL_law_909 : decode cL_law 909 = .ok (.ishr, 1) := by decide +kernel
theorem dL_law_910 : decode cL_law 910 = .ok (.iconst 1, 1) := by decide +kernel
theorem dL_law_911 : decode cL_law 911 = .ok (.iand, 1) := by decide +kernel
theorem dL_law_912 : decode cL_law 912 = .ok (.iconst 1, 1) := by decide +kernel
theorem dL_law_913 : decode cL_law 913 = .ok (.if_icmp .ne 7, 3) := by decide +kernel
theorem dL_law_916 : decode cL_law 916 = .ok (.iconst 1, 1) := by decide +kernel
theorem dL_law_917 : decode cL_law 917 = .ok (.goto 4, 3) := by decide +kernel
theorem dL_law_920 : decode cL_law 920 = .ok (.iconst 0, 1) := by decide +kernel
theorem dL_law_921 : decode cL_law 921 = .ok (.ior, 1) := by decide +kernel
theorem dL_law_922 : decode cL_law 922 = .ok (.istore 22, 2) := by decide +kernel
theorem dL_law_924 : decode cL_law 924 = .ok (.iinc 23 1, 3) := by decide +kernel
theorem dL_law_927 : decode cL_law 927 = .ok (.goto (-125), 3) := by decide +kernel
theorem dL_law_930 : decode cL_law 930 = .ok (.iconst 0, 1) := by decide +kernel
theorem dL_law_931 : decode cL_law 931 = .ok (.istore 23, 2) := by decide +kernel
theorem dL_law_933 : decode cL_law 933 = .ok (.iload 23, 2) := by decide +kernel
theorem dL_law_935 : decode cL_law 935 = .ok (.iload_n 3, 1) := by decide +kernel
theorem dL_law_936 : decode cL_law 936 = .ok (.if_icmp .ge 332, 3) := by decide +kernel
theorem dL_law_939 : decode cL_law 939 = .ok (.aload 10, 2) := by decide +kernel
theorem dL_law_941 : decode cL_law 941 = .ok (.iload 23, 2) := by decide +kernel
theorem dL_law_943 : decode cL_law 943 = .ok (.iaload, 1) := by decide +kernel
theorem dL_law_944 : decode cL_law 944 = .ok (.istore 24, 2) := by decide +kernel
theorem dL_law_946 : decode cL_law 946 = .ok (.aload_n 1, 1) := by decide +kernel
theorem dL_law_947 : decode cL_law 947 = .ok (.iload 24, 2) := by decide +kernel
theorem dL_law_949 : decode cL_law 949 = .ok (.invokestatic 214, 3) := by decide +kernel
theorem dL_law_952 : decode cL_law 952 = .ok (.istore 25, 2) := by decide +kernel
theorem dL_law_954 : decode cL_law 954 = .ok (.aload_n 1, 1) := by decide +kernel
theorem dL_law_955 : decode cL_law 955 = .ok (.iload 24, 2) := by decide +kernel
theorem dL_law_957 : decode cL_law 957 = .ok (.invokevirtual 199, 3) := by decide +kernel
theorem dL_law_960 : decode cL_law 960 = .ok (.istore 26, 2) := by decide +kernel
theorem dL_law_962 : decode cL_law 962 = .ok (.aload 11, 2) := by decide +kernel
theorem dL_law_964 : decode cL_law 964 = .ok (.iload 23, 2) := by decide +kernel
theorem dL_law_966 : decode cL_law 966 = .ok (.iaload, 1) := by decide +kernel
theorem dL_law_967 : decode cL_law 967 = .ok (.iload 13, 2) := by decide +kernel
theorem dL_law_969 : decode cL_law 969 = .ok (.iconst (-1), 1) := by decide +kernel
theorem dL_law_970 : decode cL_law 970 = .ok (.ixor, 1) := by decide +kernel
theorem dL_law_971 : decode cL_law 971 = .ok (.iand, 1) := by decide +kernel
theorem dL_law_972 : decode cL_law 972 = .ok (.ifCond .ne 8, 3) := by decide +kernel
theorem dL_law_975 : decode cL_law 975 = .ok (.bipush 97, 2) := by decide +kernel
theorem dL_law_977 : decode cL_law 977 = .ok (.goto 21, 3) := by decide +kernel
theorem dL_law_980 : decode cL_law 980 = .ok (.aload 11, 2) := by decide +kernel
theorem dL_law_982 : decode cL_law 982 = .ok (.iload 23, 2) := by decide +kernel
theorem dL_law_984 : decode cL_law 984 = .ok (.iaload, 1) := by decide +kernel
theorem dL_law_985 : decode cL_law 985 = .ok (.iload 12, 2) := by decide +kernel
theorem dL_law_987 : decode cL_law 987 = .ok (.iand, 1) := by decide +kernel
theorem dL_law_988 : decode cL_law 988 = .ok (.ifCond .eq 8, 3) := by decide +kernel
theorem dL_law_991 : decode cL_law 991 = .ok (.bipush 114, 2) := by decide +kernel
theorem dL_law_993 : decode cL_law 993 = .ok (.goto 5, 3) := by decide +kernel
theorem dL_law_996 : decode cL_law 996 = .ok (.bipush 117, 2) := by decide +kernel
theorem dL_law_998 : decode cL_law 998 = .ok (.istore 27, 2) := by decide +kernel
theorem dL_law_1000 : decode cL_law 1000 = .ok (.iload 26, 2) := by decide +kernel
theorem dL_law_1002 : decode cL_law 1002 = .ok (.iload 27, 2) := by decide +kernel
theorem dL_law_1004 : decode cL_law 1004 = .ok (.if_icmp .ne 171, 3) := by decide +kernel
theorem dL_law_1007 : decode cL_law 1007 = .ok (.aload_n 1, 1) := by decide +kernel
theorem dL_law_1008 : decode cL_law 1008 = .ok (.iload 24, 2) := by decide +kernel
theorem dL_law_1010 : decode cL_law 1010 = .ok (.invokevirtual 216, 3) := by decide +kernel
theorem dL_law_1013 : decode cL_law 1013 = .ok (.iload 26, 2) := by decide +kernel
theorem dL_law_1015 : decode cL_law 1015 = .ok (.bipush 97, 2) := by decide +kernel
theorem dL_law_1017 : decode cL_law 1017 = .ok (.if_icmp .ne 7, 3) := by decide +kernel
theorem dL_law_1020 : decode cL_law 1020 = .ok (.iconst 1, 1) := by decide +kernel
theorem dL_law_1021 : decode cL_law 1021 = .ok (.goto 4, 3) := by decide +kernel
theorem dL_law_1024 : decode cL_law 1024 = .ok (.iconst 0, 1) := by decide +kernel
theorem dL_law_1025 : decode cL_law 1025 = .ok (.if_icmp .ne 150, 3) := by decide +kernel
theorem dL_law_1028 : decode cL_law 1028 = .ok (.aload_n 1, 1) := by decide +kernel
theorem dL_law_1029 : decode cL_law 1029 = .ok (.iload 24, 2) := by decide +kernel
theorem dL_law_1031 : decode cL_law 1031 = .ok (.invokevirtual 219, 3) := by decide +kernel
theorem dL_law_1034 : decode cL_law 1034 = .ok (.iload 26, 2) := by decide +kernel
theorem dL_law_1036 : decode cL_law 1036 = .ok (.bipush 97, 2) := by decide +kernel
theorem dL_law_1038 : decode cL_law 1038 = .ok (.if_icmp .ne 7, 3) := by decide +kernel
theorem dL_law_1041 : decode cL_law 1041 = .ok (.iconst 1, 1) := by decide +kernel
theorem dL_law_1042 : decode cL_law 1042 = .ok (.goto 4, 3) := by decide +kernel
theorem dL_law_1045 : decode cL_law 1045 = .ok (.iconst 0, 1) := by decide +kernel
theorem dL_law_1046 : decode cL_law 1046 = .ok (.if_icmp .eq 129, 3) := by decide +kernel
theorem dL_law_1049 : decode cL_law 1049 = .ok (.iload 25, 2) := by decide +kernel
theorem dL_law_1051 : decode cL_law 1051 = .ok (.sipush (-30000), 3) := by decide +kernel
theorem dL_law_1054 : decode cL_law 1054 = .ok (.if_icmp .ne 7, 3) := by decide +kernel
theorem dL_law_1057 : decode cL_law 1057 = .ok (.iconst 1, 1) := by decide +kernel
theorem dL_law_1058 : decode cL_law 1058 = .ok (.goto 4, 3) := by decide +kernel
theorem dL_law_1061 : decode cL_law 1061 = .ok (.iconst 0, 1) := by decide +kernel
theorem dL_law_1062 : decode cL_law 1062 = .ok (.iload 26, 2) := by decide +kernel
theorem dL_law_1064 : decode cL_law 1064 = .ok (.bipush 117, 2) := by decide +kernel
theorem dL_law_1066 : decode cL_law 1066 = .ok (.if_icmp .ne 7, 3) := by decide +kernel
theorem dL_law_1069 : decode cL_law 1069 = .ok (.iconst 1, 1) := by decide +kernel
theorem dL_law_1070 : decode cL_law 1070 = .ok (.goto 4, 3) := by decide +kernel
theorem dL_law_1073 : decode cL_law 1073 = .ok (.iconst 0, 1) := by decide +kernel
theorem dL_law_1074 : decode cL_law 1074 = .ok (.if_icmp .ne 101, 3) := by decide +kernel
theorem dL_law_1077 : decode cL_law 1077 = .ok (.iload 25, 2) := by decide +kernel
theorem dL_law_1079 : decode cL_law 1079 = .ok (.sipush (-30000), 3) := by decide +kernel
theorem dL_law_1082 : decode cL_law 1082 = .ok (.if_icmp .eq 15, 3) := by decide +kernel
theorem dL_law_1085 : decode cL_law 1085 = .ok (.iload 25, 2) := by decide +kernel
theorem dL_law_1087 : decode cL_law 1087 = .ok (.iconst 1, 1) := by decide +kernel
theorem dL_law_1088 : decode cL_law 1088 = .ok (.if_icmp .lt 87, 3) := by decide +kernel
theorem dL_law_1091 : decode cL_law 1091 = .ok (.iload 25, 2) := by decide +kernel
theorem dL_law_1093 : decode cL_law 1093 = .ok (.iload_n 3, 1) := by decide +kernel
theorem dL_law_1094 : decode cL_law 1094 = .ok (.if_icmp .gt 81, 3) := by decide +kernel
theorem dL_law_1097 : decode cL_law 1097 = .ok (.aload_n 1, 1) := by decide +kernel
theorem dL_law_1098 : decode cL_law 1098 = .ok (.iload 24, 2) := by decide +kernel
theorem dL_law_1100 : decode cL_law 1100 = .ok (.invokevirtual 222, 3) := by decide +kernel
theorem dL_law_1103 : decode cL_law 1103 = .ok (.iload 17, 2) := by decide +kernel
theorem dL_law_1105 : decode cL_law 1105 = .ok (.iload 23, 2) := by decide +kernel
theorem dL_law_1107 : decode cL_law 1107 = .ok (.ishr, 1) := by decide +kernel
theorem dL_law_1108 : decode cL_law 1108 = .ok (.iconst 1, 1) := by decide +kernel
theorem dL_law_1109 : decode cL_law 1109 = .ok (.iand, 1) := by decide +kernel
theorem dL_law_1110 : decode cL_law 1110 = .ok (.iconst 1, 1) := by decide +kernel
theorem dL_law_1111 : decode cL_law 1111 = .ok (.if_icmp .ne 7, 3) := by decide +kernel
theorem dL_law_1114 : decode cL_law 1114 = .ok (.iconst 1, 1) := by decide +kernel
theorem dL_law_1115 : decode cL_law 1115 = .ok (.goto 4, 3) := by decide +kernel
theorem dL_law_1118 : decode cL_law 1118 = .ok (.iconst 0, 1) := by decide +kernel
theorem dL_law_1119 : decode cL_law 1119 = .ok (.if_icmp .ne 56, 3) := by decide +kernel
theorem dL_law_1122 : decode cL_law 1122 = .ok (.aload_n 1, 1) := by decide +kernel
theorem dL_law_1123 : decode cL_law 1123 = .ok (.iload 24, 2) := by decide +kernel
theorem dL_law_1125 : decode cL_law 1125 = .ok (.invokevirtual 225, 3) := by decide +kernel
theorem dL_law_1128 : decode cL_law 1128 = .ok (.iload 18, 2) := by decide +kernel
theorem dL_law_1130 : decode cL_law 1130 = .ok (.iload 23, 2) := by decide +kernel
theorem dL_law_1132 : decode cL_law 1132 = .ok (.ishr, 1) := by decide +kernel
theorem dL_law_1133 : decode cL_law 1133 = .ok (.iconst 1, 1) := by decide +kernel
theorem dL_law_1134 : decode cL_law 1134 = .ok (.iand, 1) := by decide +kernel
theorem dL_law_1135 : decode cL_law 1135 = .ok (.iconst 1, 1) := by decide +kernel
theorem dL_law_1136 : decode cL_law 1136 = .ok (.if_icmp .ne 7, 3) := by decide +kernel
theorem dL_law_1139 : decode cL_law 1139 = .ok (.iconst 1, 1) := by decide +kernel
theorem dL_law_1140 : decode cL_law 1140 = .ok (.goto 4, 3) := by decide +kernel
theorem dL_law_1143 : decode cL_law 1143 = .ok (.iconst 0, 1) := by decide +kernel
theorem dL_law_1144 : decode cL_law 1144 = .ok (.if_icmp .ne 31, 3) := by decide +kernel
theorem dL_law_1147 : decode cL_law 1147 = .ok (.iload 26, 2) := by decide +kernel
theorem dL_law_1149 : decode cL_law 1149 = .ok (.bipush 97, 2) := by decide +kernel
theorem dL_law_1151 : decode cL_law 1151 = .ok (.if_icmp .ne 12, 3) := by decide +kernel
theorem dL_law_1154 : decode cL_law 1154 = .ok (.aload_n 1, 1) := by decide +kernel
theorem dL_law_1155 : decode cL_law 1155 = .ok (.iload 24, 2) := by decide +kernel
theorem dL_law_1157 : decode cL_law 1157 = .ok (.invokevirtual 225, 3) := by decide +kernel
theorem dL_law_1160 : decode cL_law 1160 = .ok (.ifCond .eq 15, 3) := by decide +kernel
theorem dL_law_1163 : decode cL_law 1163 = .ok (.aload_n 1, 1) := by decide +kernel
theorem dL_law_1164 : decode cL_law 1164 = .ok (.iload 24, 2) := by decide +kernel
theorem dL_law_1166 : decode cL_law 1166 = .ok (.iconst 0, 1) := by decide +kernel
theorem dL_law_1167 : decode cL_law 1167 = .ok (.invokestatic 228, 3) := by decide +kernel
theorem dL_law_1170 : decode cL_law 1170 = .ok (.iload 26, 2) := by decide +kernel
theorem dL_law_1172 : decode cL_law 1172 = .ok (.if_icmp .eq 5, 3) := by decide +kernel
theorem dL_law_1175 : decode cL_law 1175 = .ok (.iconst 0, 1) := by decide +kernel
theorem dL_law_1176 : decode cL_law 1176 = .ok (.ireturn, 1) := by decide +kernel
theorem dL_law_1177 : decode cL_law 1177 = .ok (.iload 23, 2) := by decide +kernel
theorem dL_law_1179 : decode cL_law 1179 = .ok (.ifCond .ne 6, 3) := by decide +kernel
theorem dL_law_1182 : decode cL_law 1182 = .ok (.goto 80, 3) := by decide +kernel
theorem dL_law_1185 : decode cL_law 1185 = .ok (.aload_n 1, 1) := by decide +kernel
theorem dL_law_1186 : decode cL_law 1186 = .ok (.iload 23, 2) := by decide +kernel
theorem dL_law_1188 : decode cL_law 1188 = .ok (.iconst 1, 1) := by decide +kernel
theorem dL_law_1189 : decode cL_law 1189 = .ok (.isub, 1) := by decide +kernel
theorem dL_law_1190 : decode cL_law 1190 = .ok (.invokevirtual 70, 3) := by decide +kernel
theorem dL_law_1193 : decode cL_law 1193 = .ok (.istore 28, 2) := by decide +kernel
theorem dL_law_1195 : decode cL_law 1195 = .ok (.aload_n 1, 1) := by decide +kernel
theorem dL_law_1196 : decode cL_law 1196 = .ok (.iload 23, 2) := by decide +kernel
theorem dL_law_1198 : decode cL_law 1198 = .ok (.invokevirtual 70, 3) := by decide +kernel
theorem dL_law_1201 : decode cL_law 1201 = .ok (.istore 29, 2) := by decide +kernel
theorem dL_law_1203 : decode cL_law 1203 = .ok (.aload_n 1, 1) := by decide +kernel
theorem dL_law_1204 : decode cL_law 1204 = .ok (.iload 28, 2) := by decide +kernel
theorem dL_law_1206 : decode cL_law 1206 = .ok (.invokevirtual 148, 3) := by decide +kernel
theorem dL_law_1209 : decode cL_law 1209 = .ok (.aload_n 1, 1) := by decide +kernel
theorem dL_law_1210 : decode cL_law 1210 = .ok (.iload 29, 2) := by decide +kernel
theorem dL_law_1212 : decode cL_law 1212 = .ok (.invokevirtual 148, 3) := by decide +kernel
theorem dL_law_1215 : decode cL_law 1215 = .ok (.isub, 1) := by decide +kernel
theorem dL_law_1216 : decode cL_law 1216 = .ok (.istore 30, 2) := by decide +kernel
theorem dL_law_1218 : decode cL_law 1218 = .ok (.aload_n 1, 1) := by decide +kernel
theorem dL_law_1219 : decode cL_law 1219 = .ok (.iload 29, 2) := by decide +kernel
theorem dL_law_1221 : decode cL_law 1221 = .ok (.invokevirtual 187, 3) := by decide +kernel
theorem dL_law_1224 : decode cL_law 1224 = .ok (.aload_n 1, 1) := by decide +kernel
theorem dL_law_1225 : decode cL_law 1225 = .ok (.iload 28, 2) := by decide +kernel
theorem dL_law_1227 : decode cL_law 1227 = .ok (.invokevirtual 187, 3) := by decide +kernel
theorem dL_law_1230 : decode cL_law 1230 = .ok (.isub, 1) := by decide +kernel
theorem dL_law_1231 : decode cL_law 1231 = .ok (.istore 31, 2) := by decide +kernel
theorem dL_law_1233 : decode cL_law 1233 = .ok (.iload 30, 2) := by decide +kernel
theorem dL_law_1235 : decode cL_law 1235 = .ok (.ifCond .lt 25, 3) := by decide +kernel
theorem dL_law_1238 : decode cL_law 1238 = .ok (.iload 30, 2) := by decide +kernel
theorem dL_law_1240 : decode cL_law 1240 = .ok (.ifCond .ne 22, 3) := by decide +kernel
theorem dL_law_1243 : decode cL_law 1243 = .ok (.iload 31, 2) := by decide +kernel
theorem dL_law_1245 : decode cL_law 1245 = .ok (.ifCond .lt 15, 3) := by decide +kernel
theorem dL_law_1248 : decode cL_law 1248 = .ok (.iload 31, 2) := by decide +kernel
theorem dL_law_1250 : decode cL_law 1250 = .ok (.ifCond .ne 12, 3) := by decide +kernel
theorem dL_law_1253 : decode cL_law 1253 = .ok (.iload 28, 2) := by decide +kernel
theorem dL_law_1255 : decode cL_law 1255 = .ok (.iload 29, 2) := by decide +kernel
theorem dL_law_1257 : decode cL_law 1257 = .ok (.if_icmp .le 5, 3) := by decide +kernel
theorem dL_law_1260 : decode cL_law 1260 = .ok (.iconst 0, 1) := by decide +kernel
theorem dL_law_1261 : decode cL_law 1261 = .ok (.ireturn, 1) := by decide +kernel
theorem dL_law_1262 : decode cL_law 1262 = .ok (.iinc 23 1, 3) := by decide +kernel
theorem dL_law_1265 : decode cL_law 1265 = .ok (.goto (-332), 3) := by decide +kernel
theorem dL_law_1268 : decode cL_law 1268 = .ok (.ldc 162, 2) := by decide +kernel
theorem dL_law_1270 : decode cL_law 1270 = .ok (.astore 23, 2) := by decide +kernel
theorem dL_law_1272 : decode cL_law 1272 = .ok (.iconst 0, 1) := by decide +kernel
theorem dL_law_1273 : decode cL_law 1273 = .ok (.istore 24, 2) := by decide +kernel
theorem dL_law_1275 : decode cL_law 1275 = .ok (.iload 24, 2) := by decide +kernel
theorem dL_law_1277 : decode cL_law 1277 = .ok (.iload 9, 2) := by decide +kernel
theorem dL_law_1279 : decode cL_law 1279 = .ok (.if_icmp .ge 67, 3) := by decide +kernel
theorem dL_law_1282 : decode cL_law 1282 = .ok (.new 171, 3) := by decide +kernel
theorem dL_law_1285 : decode cL_law 1285 = .ok (.dup, 1) := by decide +kernel
theorem dL_law_1286 : decode cL_law 1286 = .ok (.invokespecial 173, 3) := by decide +kernel
theorem dL_law_1289 : decode cL_law 1289 = .ok (.aload 23, 2) := by decide +kernel
theorem dL_law_1291 : decode cL_law 1291 = .ok (.invokevirtual 174, 3) := by decide +kernel
theorem dL_law_1294 : decode cL_law 1294 = .ok (.iload 24, 2) := by decide +kernel
theorem dL_law_1296 : decode cL_law 1296 = .ok (.ifCond .le 8, 3) := by decide +kernel
theorem dL_law_1299 : decode cL_law 1299 = .ok (.ldc 230, 2) := by decide +kernel
theorem dL_law_1301 : decode cL_law 1301 = .ok (.goto 5, 3) := by decide +kernel
theorem dL_law_1304 : decode cL_law 1304 = .ok (.ldc 162, 2) := by decide +kernel
theorem dL_law_1306 : decode cL_law 1306 = .ok (.invokevirtual 174, 3) := by decide +kernel
theorem dL_law_1309 : decode cL_law 1309 = .ok (.iload 24, 2) := by decide +kernel
theorem dL_law_1311 : decode cL_law 1311 = .ok (.iconst 2, 1) := by decide +kernel
theorem dL_law_1312 : decode cL_law 1312 = .ok (.irem, 1) := by decide +kernel
theorem dL_law_1313 : decode cL_law 1313 = .ok (.ifCond .ne 8, 3) := by decide +kernel
theorem dL_law_1316 : decode cL_law 1316 = .ok (.ldc 232, 2) := by decide +kernel
theorem dL_law_1318 : decode cL_law 1318 = .ok (.goto 5, 3) := by decide +kernel
theorem dL_law_1321 : decode cL_law 1321 = .ok (.ldc 234, 2) := by decide +kernel
theorem dL_law_1323 : decode cL_law 1323 = .ok (.invokevirtual 174, 3) := by decide +kernel
theorem dL_law_1326 : decode cL_law 1326 = .ok (.aload_n 1, 1) := by decide +kernel
theorem dL_law_1327 : decode cL_law 1327 = .ok (.iload 24, 2) := by decide +kernel
theorem dL_law_1329 : decode cL_law 1329 = .ok (.invokevirtual 73, 3) := by decide +kernel
theorem dL_law_1332 : decode cL_law 1332 = .ok (.invokevirtual 180, 3) := by decide +kernel
theorem dL_law_1335 : decode cL_law 1335 = .ok (.invokevirtual 183, 3) := by decide +kernel
theorem dL_law_1338 : decode cL_law 1338 = .ok (.astore 23, 2) := by decide +kernel
theorem dL_law_1340 : decode cL_law 1340 = .ok (.iinc 24 1, 3) := by decide +kernel
theorem dL_law_1343 : decode cL_law 1343 = .ok (.goto (-68), 3) := by decide +kernel
theorem dL_law_1346 : decode cL_law 1346 = .ok (.iload 9, 2) := by decide +kernel
theorem dL_law_1348 : decode cL_law 1348 = .ok (.ifCond .le 19, 3) := by decide +kernel
theorem dL_law_1351 : decode cL_law 1351 = .ok (.aload_n 1, 1) := by decide +kernel
theorem dL_law_1352 : decode cL_law 1352 = .ok (.aload_n 1, 1) := by decide +kernel
theorem dL_law_1353 : decode cL_law 1353 = .ok (.invokevirtual 76, 3) := by decide +kernel
theorem dL_law_1356 : decode cL_law 1356 = .ok (.aload 23, 2) := by decide +kernel
theorem dL_law_1358 : decode cL_law 1358 = .ok (.invokestatic 205, 3) := by decide +kernel
theorem dL_law_1361 : decode cL_law 1361 = .ok (.ifCond .ne 18, 3) := by decide +kernel
theorem dL_law_1364 : decode cL_law 1364 = .ok (.goto 13, 3) := by decide +kernel
theorem dL_law_1367 : decode cL_law 1367 = .ok (.aload_n 1, 1) := by decide +kernel
theorem dL_law_1368 : decode cL_law 1368 = .ok (.invokestatic 236, 3) := by decide +kernel
theorem dL_law_1371 : decode cL_law 1371 = .ok (.sipush (-30000), 3) := by decide +kernel
theorem dL_law_1374 : decode cL_law 1374 = .ok (.if_icmp .eq 5, 3) := by decide +kernel
theorem dL_law_1377 : decode cL_law 1377 = .ok (.iconst 0, 1) := by decide +kernel
theorem dL_law_1378 : decode cL_law 1378 = .ok (.ireturn, 1) := by decide +kernel
theorem dL_law_1379 : decode cL_law 1379 = .ok (.aload_n 1, 1) := by decide +kernel
theorem dL_law_1380 : decode cL_law 1380 = .ok (.invokevirtual 238, 3) := by decide +kernel
theorem dL_law_1383 : decode cL_law 1383 = .ok (.iload 4, 2) := by decide +kernel
theorem dL_law_1385 : decode cL_law 1385 = .ok (.if_icmp .ne 189, 3) := by decide +kernel
theorem dL_law_1388 : decode cL_law 1388 = .ok (.aload_n 1, 1) := by decide +kernel
theorem dL_law_1389 : decode cL_law 1389 = .ok (.invokevirtual 241, 3) := by decide +kernel
theorem dL_law_1392 : decode cL_law 1392 = .ok (.iload 5, 2) := by decide +kernel
theorem dL_law_1394 : decode cL_law 1394 = .ok (.if_icmp .ne 180, 3) := by decide +kernel
theorem dL_law_1397 : decode cL_law 1397 = .ok (.aload_n 1, 1) := by decide +kernel
theorem dL_law_1398 : decode cL_law 1398 = .ok (.invokevirtual 244, 3) := by decide +kernel
theorem dL_law_1401 : decode cL_law 1401 = .ok (.iload 6, 2) := by decide +kernel
theorem dL_law_1403 : decode cL_law 1403 = .ok (.if_icmp .ne 171, 3) := by decide +kernel
theorem dL_law_1406 : decode cL_law 1406 = .ok (.aload_n 1, 1) := by decide +kernel
theorem dL_law_1407 : decode cL_law 1407 = .ok (.invokevirtual 247, 3) := by decide +kernel
theorem dL_law_1410 : decode cL_law 1410 = .ok (.iload 7, 2) := by decide +kernel
theorem dL_law_1412 : decode cL_law 1412 = .ok (.if_icmp .ne 162, 3) := by decide +kernel
theorem dL_law_1415 : decode cL_law 1415 = .ok (.aload_n 1, 1) := by decide +kernel
theorem dL_law_1416 : decode cL_law 1416 = .ok (.invokevirtual 250, 3) := by decide +kernel
theorem dL_law_1419 : decode cL_law 1419 = .ok (.iload 14, 2) := by decide +kernel
theorem dL_law_1421 : decode cL_law 1421 = .ok (.if_icmp .ne 153, 3) := by decide +kernel
theorem dL_law_1424 : decode cL_law 1424 = .ok (.aload_n 1, 1) := by decide +kernel
theorem dL_law_1425 : decode cL_law 1425 = .ok (.invokevirtual 253, 3) := by decide +kernel
theorem dL_law_1428 : decode cL_law 1428 = .ok (.iload 14, 2) := by decide +kernel
theorem dL_law_1430 : decode cL_law 1430 = .ok (.if_icmp .ne 144, 3) := by decide +kernel
theorem dL_law_1433 : decode cL_law 1433 = .ok (.aload_n 1, 1) := by decide +kernel
theorem dL_law_1434 : decode cL_law 1434 = .ok (.invokevirtual 256, 3) := by decide +kernel
theorem dL_law_1437 : decode cL_law 1437 = .ok (.iload 15, 2) := by decide +kernel
theorem dL_law_1439 : decode cL_law 1439 = .ok (.if_icmp .ne 135, 3) := by decide +kernel
theorem dL_law_1442 : decode cL_law 1442 = .ok (.aload_n 1, 1) := by decide +kernel
theorem dL_law_1443 : decode cL_law 1443 = .ok (.invokevirtual 259, 3) := by decide +kernel
theorem dL_law_1446 : decode cL_law 1446 = .ok (.iload 16, 2) := by decide +kernel
theorem dL_law_1448 : decode cL_law 1448 = .ok (.if_icmp .ne 126, 3) := by decide +kernel
theorem dL_law_1451 : decode cL_law 1451 = .ok (.aload_n 1, 1) := by decide +kernel
theorem dL_law_1452 : decode cL_law 1452 = .ok (.aload 10, 2) := by decide +kernel
theorem dL_law_1454 : decode cL_law 1454 = .ok (.iload 20, 2) := by decide +kernel
theorem dL_law_1456 : decode cL_law 1456 = .ok (.iaload, 1) := by decide +kernel
theorem dL_law_1457 : decode cL_law 1457 = .ok (.aload 10, 2) := by decide +kernel
theorem dL_law_1459 : decode cL_law 1459 = .ok (.iload 21, 2) := by decide +kernel
theorem dL_law_1461 : decode cL_law 1461 = .ok (.iaload, 1) := by decide +kernel
theorem dL_law_1462 : decode cL_law 1462 = .ok (.invokevirtual 262, 3) := by decide +kernel
theorem dL_law_1465 : decode cL_law 1465 = .ok (.iload 22, 2) := by decide +kernel
theorem dL_law_1467 : decode cL_law 1467 = .ok (.if_icmp .ne 107, 3) := by decide +kernel
theorem dL_law_1470 : decode cL_law 1470 = .ok (.aload_n 1, 1) := by decide +kernel
theorem dL_law_1471 : decode cL_law 1471 = .ok (.invokevirtual 265, 3) := by decide +kernel
theorem dL_law_1474 : decode cL_law 1474 = .ok (.aload_n 1, 1) := by decide +kernel
theorem dL_law_1475 : decode cL_law 1475 = .ok (.invokevirtual 269, 3) := by decide +kernel
theorem dL_law_1478 : decode cL_law 1478 = .ok (.if_icmp .ne 96, 3) := by decide +kernel
theorem dL_law_1481 : decode cL_law 1481 = .ok (.aload_n 1, 1) := by decide +kernel
theorem dL_law_1482 : decode cL_law 1482 = .ok (.invokevirtual 265, 3) := by decide +kernel
theorem dL_law_1485 : decode cL_law 1485 = .ok (.ifCond .ne 14, 3) := by decide +kernel
theorem dL_law_1488 : decode cL_law 1488 = .ok (.iload 7, 2) := by decide +kernel
theorem dL_law_1490 : decode cL_law 1490 = .ok (.ifCond .gt 84, 3) := by decide +kernel
theorem dL_law_1493 : decode cL_law 1493 = .ok (.iload 15, 2) := by decide +kernel
theorem dL_law_1495 : decode cL_law 1495 = .ok (.iconst 1, 1) := by decide +kernel
theorem dL_law_1496 : decode cL_law 1496 = .ok (.if_icmp .ne 78, 3) := by decide +kernel
theorem dL_law_1499 : decode cL_law 1499 = .ok (.aload_n 1, 1) := by decide +kernel
theorem dL_law_1500 : decode cL_law 1500 = .ok (.invokevirtual 272, 3) := by decide +kernel
theorem dL_law_1503 : decode cL_law 1503 = .ok (.iload 9, 2) := by decide +kernel
theorem dL_law_1505 : decode cL_law 1505 = .ok (.ifCond .le 7, 3) := by decide +kernel
theorem dL_law_1508 : decode cL_law 1508 = .ok (.iconst 1, 1) := by decide +kernel
theorem dL_law_1509 : decode cL_law 1509 = .ok (.goto 4, 3) := by decide +kernel
theorem dL_law_1512 : decode cL_law 1512 = .ok (.iconst 0, 1) := by decide +kernel
theorem dL_law_1513 : decode cL_law 1513 = .ok (.if_icmp .ne 61, 3) := by decide +kernel
theorem dL_law_1516 : decode cL_law 1516 = .ok (.aload_n 1, 1) := by decide +kernel
theorem dL_law_1517 : decode cL_law 1517 = .ok (.iload 9, 2) := by decide +kernel
theorem dL_law_1519 : decode cL_law 1519 = .ok (.invokestatic 275, 3) := by decide +kernel
theorem dL_law_1522 : decode cL_law 1522 = .ok (.sipush (-25000), 3) := by decide +kernel
theorem dL_law_1525 : decode cL_law 1525 = .ok (.if_icmp .ne 49, 3) := by decide +kernel
theorem dL_law_1528 : decode cL_law 1528 = .ok (.aload_n 1, 1) := by decide +kernel
theorem dL_law_1529 : decode cL_law 1529 = .ok (.invokevirtual 277, 3) := by decide +kernel
theorem dL_law_1532 : decode cL_law 1532 = .ok (.iload 8, 2) := by decide +kernel
theorem dL_law_1534 : decode cL_law 1534 = .ok (.i2d, 1) := by decide +kernel
theorem dL_law_1535 : decode cL_law 1535 = .ok (.iload_n 3, 1) := by decide +kernel
theorem dL_law_1536 : decode cL_law 1536 = .ok (.i2d, 1) := by decide +kernel
theorem dL_law_1537 : decode cL_law 1537 = .ok (.ddiv, 1) := by decide +kernel
theorem dL_law_1538 : decode cL_law 1538 = .ok (.dcmp .l, 1) := by decide +kernel
theorem dL_law_1539 : decode cL_law 1539 = .ok (.ifCond .ne 35, 3) := by decide +kernel
theorem dL_law_1542 : decode cL_law 1542 = .ok (.aload_n 1, 1) := by decide +kernel
theorem dL_law_1543 : decode cL_law 1543 = .ok (.invokevirtual 281, 3) := by decide +kernel
theorem dL_law_1546 : decode cL_law 1546 = .ok (.iload 6, 2) := by decide +kernel
theorem dL_law_1548 : decode cL_law 1548 = .ok (.i2f, 1) := by decide +kernel
theorem dL_law_1549 : decode cL_law 1549 = .ok (.iload_n 3, 1) := by decide +kernel
theorem dL_law_1550 : decode cL_law 1550 = .ok (.i2f, 1) := by decide +kernel
theorem dL_law_1551 : decode cL_law 1551 = .ok (.fdiv, 1) := by decide +kernel
theorem dL_law_1552 : decode cL_law 1552 = .ok (.fcmp .l, 1) := by decide +kernel
theorem dL_law_1553 : decode cL_law 1553 = .ok (.ifCond .ne 21, 3) := by decide +kernel
theorem dL_law_1556 : decode cL_law 1556 = .ok (.aload_n 1, 1) := by decide +kernel
theorem dL_law_1557 : decode cL_law 1557 = .ok (.iload_n 3, 1) := by decide +kernel
theorem dL_law_1558 : decode cL_law 1558 = .ok (.invokestatic 285, 3) := by decide +kernel
theorem dL_law_1561 : decode cL_law 1561 = .ok (.sipush (-30000), 3) := by decide +kernel
theorem dL_law_1564 : decode cL_law 1564 = .ok (.if_icmp .ne 10, 3) := by decide +kernel
theorem dL_law_1567 : decode cL_law 1567 = .ok (.aload_n 1, 1) := by decide +kernel
theorem dL_law_1568 : decode cL_law 1568 = .ok (.invokevirtual 287, 3) := by decide +kernel
theorem dL_law_1571 : decode cL_law 1571 = .ok (.ifCond .ne 5, 3) := by decide +kernel
theorem dL_law_1574 : decode cL_law 1574 = .ok (.iconst 0, 1) := by decide +kernel
theorem dL_law_1575 : decode cL_law 1575 = .ok (.ireturn, 1) := by decide +kernel
theorem dL_law_1576 : decode cL_law 1576 = .ok (.aload_n 1, 1) := by decide +kernel
theorem dL_law_1577 : decode cL_law 1577 = .ok (.aload_n 0, 1) := by decide +kernel
theorem dL_law_1578 : decode cL_law 1578 = .ok (.bipush 110, 2) := by decide +kernel
theorem dL_law_1580 : decode cL_law 1580 = .ok (.iconst 3, 1) := by decide +kernel
theorem dL_law_1581 : decode cL_law 1581 = .ok (.iload_n 2, 1) := by decide +kernel
theorem dL_law_1582 : decode cL_law 1582 = .ok (.imul, 1) := by decide +kernel
theorem dL_law_1583 : decode cL_law 1583 = .ok (.iadd, 1) := by decide +kernel
theorem dL_law_1584 : decode cL_law 1584 = .ok (.invokestatic 97, 3) := by decide +kernel
theorem dL_law_1587 : decode cL_law 1587 = .ok (.iinc 2 1, 3) := by decide +kernel
theorem dL_law_1590 : decode cL_law 1590 = .ok (.goto (-1575), 3) := by decide +kernel
theorem dL_law_1593 : decode cL_law 1593 = .ok (.iconst 1, 1) := by decide +kernel
theorem dL_law_1594 : decode cL_law 1594 = .ok (.ireturn, 1) := by decide +kernel
