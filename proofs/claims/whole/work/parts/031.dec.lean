theorem dX1_remain_0 : decode cX1_remain 0 = .ok (.aload_n 0, 1) := by decide +kernel
theorem dX1_remain_1 : decode cX1_remain 1 = .ok (.invokevirtual 9, 3) := by decide +kernel
theorem dX1_remain_4 : decode cX1_remain 4 = .ok (.istore_n 1, 1) := by decide +kernel
theorem dX1_remain_5 : decode cX1_remain 5 = .ok (.iconst 0, 1) := by decide +kernel
theorem dX1_remain_6 : decode cX1_remain 6 = .ok (.istore_n 2, 1) := by decide +kernel
theorem dX1_remain_7 : decode cX1_remain 7 = .ok (.iload_n 2, 1) := by decide +kernel
theorem dX1_remain_8 : decode cX1_remain 8 = .ok (.aload_n 0, 1) := by decide +kernel
theorem dX1_remain_9 : decode cX1_remain 9 = .ok (.getfield 15, 3) := by decide +kernel
theorem dX1_remain_12 : decode cX1_remain 12 = .ok (.if_icmp .ge 44, 3) := by decide +kernel
theorem dX1_remain_15 : decode cX1_remain 15 = .ok (.iconst 0, 1) := by decide +kernel
theorem dX1_remain_16 : decode cX1_remain 16 = .ok (.istore_n 3, 1) := by decide +kernel
theorem dX1_remain_17 : decode cX1_remain 17 = .ok (.iload_n 3, 1) := by decide +kernel
theorem dX1_remain_18 : decode cX1_remain 18 = .ok (.aload_n 0, 1) := by decide +kernel
theorem dX1_remain_19 : decode cX1_remain 19 = .ok (.getfield 15, 3) := by decide +kernel
theorem dX1_remain_22 : decode cX1_remain 22 = .ok (.if_icmp .ge 28, 3) := by decide +kernel
theorem dX1_remain_25 : decode cX1_remain 25 = .ok (.aload_n 0, 1) := by decide +kernel
theorem dX1_remain_26 : decode cX1_remain 26 = .ok (.getfield 19, 3) := by decide +kernel
theorem dX1_remain_29 : decode cX1_remain 29 = .ok (.iload_n 3, 1) := by decide +kernel
theorem dX1_remain_30 : decode cX1_remain 30 = .ok (.iaload, 1) := by decide +kernel
theorem dX1_remain_31 : decode cX1_remain 31 = .ok (.iload_n 1, 1) := by decide +kernel
theorem dX1_remain_32 : decode cX1_remain 32 = .ok (.iand, 1) := by decide +kernel
theorem dX1_remain_33 : decode cX1_remain 33 = .ok (.ifCond .ne 11, 3) := by decide +kernel
theorem dX1_remain_36 : decode cX1_remain 36 = .ok (.iload_n 1, 1) := by decide +kernel
theorem dX1_remain_37 : decode cX1_remain 37 = .ok (.iconst 1, 1) := by decide +kernel
theorem dX1_remain_38 : decode cX1_remain 38 = .ok (.iload_n 3, 1) := by decide +kernel
theorem dX1_remain_39 : decode cX1_remain 39 = .ok (.ishl, 1) := by decide +kernel
theorem dX1_remain_40 : decode cX1_remain 40 = .ok (.iconst (-1), 1) := by decide +kernel
theorem dX1_remain_41 : decode cX1_remain 41 = .ok (.ixor, 1) := by decide +kernel
theorem dX1_remain_42 : decode cX1_remain 42 = .ok (.iand, 1) := by decide +kernel
theorem dX1_remain_43 : decode cX1_remain 43 = .ok (.istore_n 1, 1) := by decide +kernel
theorem dX1_remain_44 : decode cX1_remain 44 = .ok (.iinc 3 1, 3) := by decide +kernel
theorem dX1_remain_47 : decode cX1_remain 47 = .ok (.goto (-30), 3) := by decide +kernel
theorem dX1_remain_50 : decode cX1_remain 50 = .ok (.iinc 2 1, 3) := by decide +kernel
theorem dX1_remain_53 : decode cX1_remain 53 = .ok (.goto (-46), 3) := by decide +kernel
theorem dX1_remain_56 : decode cX1_remain 56 = .ok (.iload_n 1, 1) := by decide +kernel
theorem dX1_remain_57 : decode cX1_remain 57 = .ok (.ifCond .eq 7, 3) := by decide +kernel
theorem dX1_remain_60 : decode cX1_remain 60 = .ok (.iconst 1, 1) := by decide +kernel
theorem dX1_remain_61 : decode cX1_remain 61 = .ok (.goto 4, 3) := by decide +kernel
theorem dX1_remain_64 : decode cX1_remain 64 = .ok (.iconst 0, 1) := by decide +kernel
theorem dX1_remain_65 : decode cX1_remain 65 = .ok (.ireturn, 1) := by decide +kernel
theorem dX1_areFound_0 : decode cX1_areFound 0 = .ok (.iconst 0, 1) := by decide +kernel
theorem dX1_areFound_1 : decode cX1_areFound 1 = .ok (.istore_n 1, 1) := by decide +kernel
theorem dX1_areFound_2 : decode cX1_areFound 2 = .ok (.iload_n 1, 1) := by decide +kernel
theorem dX1_areFound_3 : decode cX1_areFound 3 = .ok (.aload_n 0, 1) := by decide +kernel
theorem dX1_areFound_4 : decode cX1_areFound 4 = .ok (.getfield 15, 3) := by decide +kernel
theorem dX1_areFound_7 : decode cX1_areFound 7 = .ok (.if_icmp .ge 24, 3) := by decide +kernel
theorem dX1_areFound_10 : decode cX1_areFound 10 = .ok (.aload_n 0, 1) := by decide +kernel
theorem dX1_areFound_11 : decode cX1_areFound 11 = .ok (.getfield 19, 3) := by decide +kernel
theorem dX1_areFound_14 : decode cX1_areFound 14 = .ok (.iload_n 1, 1) := by decide +kernel
theorem dX1_areFound_15 : decode cX1_areFound 15 = .ok (.iconst 0, 1) := by decide +kernel
theorem dX1_areFound_16 : decode cX1_areFound 16 = .ok (.iconst 0, 1) := by decide +kernel
theorem dX1_areFound_17 : decode cX1_areFound 17 = .ok (.invokestatic 23, 3) := by decide +kernel
theorem dX1_areFound_20 : decode cX1_areFound 20 = .ok (.ifCond .eq 5, 3) := by decide +kernel
theorem dX1_areFound_23 : decode cX1_areFound 23 = .ok (.iconst 1, 1) := by decide +kernel
theorem dX1_areFound_24 : decode cX1_areFound 24 = .ok (.ireturn, 1) := by decide +kernel
theorem dX1_areFound_25 : decode cX1_areFound 25 = .ok (.iinc 1 1, 3) := by decide +kernel
theorem dX1_areFound_28 : decode cX1_areFound 28 = .ok (.goto (-26), 3) := by decide +kernel
theorem dX1_areFound_31 : decode cX1_areFound 31 = .ok (.iconst 0, 1) := by decide +kernel
theorem dX1_areFound_32 : decode cX1_areFound 32 = .ok (.ireturn, 1) := by decide +kernel
theorem dX1_meetsPath_0 : decode cX1_meetsPath 0 = .ok (.iload_n 2, 1) := by decide +kernel
theorem dX1_meetsPath_1 : decode cX1_meetsPath 1 = .ok (.iload_n 1, 1) := by decide +kernel
theorem dX1_meetsPath_2 : decode cX1_meetsPath 2 = .ok (.invokestatic 29, 3) := by decide +kernel
theorem dX1_meetsPath_5 : decode cX1_meetsPath 5 = .ok (.ifCond .eq 5, 3) := by decide +kernel
theorem dX1_meetsPath_8 : decode cX1_meetsPath 8 = .ok (.iconst 1, 1) := by decide +kernel
theorem dX1_meetsPath_9 : decode cX1_meetsPath 9 = .ok (.ireturn, 1) := by decide +kernel
theorem dX1_meetsPath_10 : decode cX1_meetsPath 10 = .ok (.iload_n 3, 1) := by decide +kernel
theorem dX1_meetsPath_11 : decode cX1_meetsPath 11 = .ok (.bipush 8, 2) := by decide +kernel
theorem dX1_meetsPath_13 : decode cX1_meetsPath 13 = .ok (.if_icmp .lt 5, 3) := by decide +kernel
theorem dX1_meetsPath_16 : decode cX1_meetsPath 16 = .ok (.iconst 0, 1) := by decide +kernel
theorem dX1_meetsPath_17 : decode cX1_meetsPath 17 = .ok (.ireturn, 1) := by decide +kernel
theorem dX1_meetsPath_18 : decode cX1_meetsPath 18 = .ok (.iconst 0, 1) := by decide +kernel
theorem dX1_meetsPath_19 : decode cX1_meetsPath 19 = .ok (.istore 4, 2) := by decide +kernel
theorem dX1_meetsPath_21 : decode cX1_meetsPath 21 = .ok (.iload 4, 2) := by decide +kernel
theorem dX1_meetsPath_23 : decode cX1_meetsPath 23 = .ok (.bipush 8, 2) := by decide +kernel
theorem dX1_meetsPath_25 : decode cX1_meetsPath 25 = .ok (.if_icmp .ge 39, 3) := by decide +kernel
theorem dX1_meetsPath_28 : decode cX1_meetsPath 28 = .ok (.aload_n 0, 1) := by decide +kernel
theorem dX1_meetsPath_29 : decode cX1_meetsPath 29 = .ok (.iload_n 1, 1) := by decide +kernel
theorem dX1_meetsPath_30 : decode cX1_meetsPath 30 = .ok (.iaload, 1) := by decide +kernel
theorem dX1_meetsPath_31 : decode cX1_meetsPath 31 = .ok (.iload 4, 2) := by decide +kernel
theorem dX1_meetsPath_33 : decode cX1_meetsPath 33 = .ok (.invokestatic 29, 3) := by decide +kernel
theorem dX1_meetsPath_36 : decode cX1_meetsPath 36 = .ok (.ifCond .eq 22, 3) := by decide +kernel
theorem dX1_meetsPath_39 : decode cX1_meetsPath 39 = .ok (.aload_n 0, 1) := by decide +kernel
theorem dX1_meetsPath_40 : decode cX1_meetsPath 40 = .ok (.iload 4, 2) := by decide +kernel
theorem dX1_meetsPath_42 : decode cX1_meetsPath 42 = .ok (.iload_n 2, 1) := by decide +kernel
theorem dX1_meetsPath_43 : decode cX1_meetsPath 43 = .ok (.iconst 1, 1) := by decide +kernel
theorem dX1_meetsPath_44 : decode cX1_meetsPath 44 = .ok (.iload_n 1, 1) := by decide +kernel
theorem dX1_meetsPath_45 : decode cX1_meetsPath 45 = .ok (.ishl, 1) := by decide +kernel
theorem dX1_meetsPath_46 : decode cX1_meetsPath 46 = .ok (.ior, 1) := by decide +kernel
theorem dX1_meetsPath_47 : decode cX1_meetsPath 47 = .ok (.iload_n 3, 1) := by decide +kernel
theorem dX1_meetsPath_48 : decode cX1_meetsPath 48 = .ok (.iconst 1, 1) := by decide +kernel
theorem dX1_meetsPath_49 : decode cX1_meetsPath 49 = .ok (.iadd, 1) := by decide +kernel
theorem dX1_meetsPath_50 : decode cX1_meetsPath 50 = .ok (.invokestatic 23, 3) := by decide +kernel
theorem dX1_meetsPath_53 : decode cX1_meetsPath 53 = .ok (.ifCond .eq 5, 3) := by decide +kernel
theorem dX1_meetsPath_56 : decode cX1_meetsPath 56 = .ok (.iconst 1, 1) := by decide +kernel
theorem dX1_meetsPath_57 : decode cX1_meetsPath 57 = .ok (.ireturn, 1) := by decide +kernel
theorem dX1_meetsPath_58 : decode cX1_meetsPath 58 = .ok (.iinc 4 1, 3) := by decide +kernel
theorem dX1_meetsPath_61 : decode cX1_meetsPath 61 = .ok (.goto (-40), 3) := by decide +kernel
theorem dX1_meetsPath_64 : decode cX1_meetsPath 64 = .ok (.iconst 0, 1) := by decide +kernel
theorem dX1_meetsPath_65 : decode cX1_meetsPath 65 = .ok (.ireturn, 1) := by decide +kernel
theorem dX2_init_0 : decode cX2_init 0 = .ok (.aload_n 0, 1) := by decide +kernel
theorem dX2_init_1 : decode cX2_init 1 = .ok (.invokespecial 3, 3) := by decide +kernel
theorem dX2_init_4 : decode cX2_init 4 = .ok (.aload_n 0, 1) := by decide +kernel
theorem dX2_init_5 : decode cX2_init 5 = .ok (.bipush 12, 2) := by decide +kernel
theorem dX2_init_7 : decode cX2_init 7 = .ok (.newarray .int, 2) := by decide +kernel
theorem dX2_init_9 : decode cX2_init 9 = .ok (.putfield 9, 3) := by decide +kernel
theorem dX2_init_12 : decode cX2_init 12 = .ok (.aload_n 0, 1) := by decide +kernel
theorem dX2_init_13 : decode cX2_init 13 = .ok (.iconst 0, 1) := by decide +kernel
theorem dX2_init_14 : decode cX2_init 14 = .ok (.putfield 15, 3) := by decide +kernel
theorem dX2_init_17 : decode cX2_init 17 = .ok (.aload_n 0, 1) := by decide +kernel
theorem dX2_init_18 : decode cX2_init 18 = .ok (.iconst 0, 1) := by decide +kernel
theorem dX2_init_19 : decode cX2_init 19 = .ok (.putfield 19, 3) := by decide +kernel
theorem dX2_init_22 : decode cX2_init 22 = .ok (.aload_n 0, 1) := by decide +kernel
theorem dX2_init_23 : decode cX2_init 23 = .ok (.iconst 0, 1) := by decide +kernel
theorem dX2_init_24 : decode cX2_init 24 = .ok (.putfield 22, 3) := by decide +kernel
theorem dX2_init_27 : decode cX2_init 27 = .ok (.aload_n 0, 1) := by decide +kernel
theorem dX2_init_28 : decode cX2_init 28 = .ok (.iconst 0, 1) := by decide +kernel
theorem dX2_init_29 : decode cX2_init 29 = .ok (.putfield 25, 3) := by decide +kernel
theorem dX2_init_32 : decode cX2_init 32 = .ok (.return_, 1) := by decide +kernel
theorem dX2_copyFrom_0 : decode cX2_copyFrom 0 = .ok (.aload_n 1, 1) := by decide +kernel
theorem dX2_copyFrom_1 : decode cX2_copyFrom 1 = .ok (.getfield 9, 3) := by decide +kernel
theorem dX2_copyFrom_4 : decode cX2_copyFrom 4 = .ok (.iconst 0, 1) := by decide +kernel
theorem dX2_copyFrom_5 : decode cX2_copyFrom 5 = .ok (.aload_n 0, 1) := by decide +kernel
theorem dX2_copyFrom_6 : decode cX2_copyFrom 6 = .ok (.getfield 9, 3) := by decide +kernel
theorem dX2_copyFrom_9 : decode cX2_copyFrom 9 = .ok (.iconst 0, 1) := by decide +kernel
theorem dX2_copyFrom_10 : decode cX2_copyFrom 10 = .ok (.bipush 12, 2) := by decide +kernel
theorem dX2_copyFrom_12 : decode cX2_copyFrom 12 = .ok (.invokestatic 28, 3) := by decide +kernel
theorem dX2_copyFrom_15 : decode cX2_copyFrom 15 = .ok (.aload_n 0, 1) := by decide +kernel
theorem dX2_copyFrom_16 : decode cX2_copyFrom 16 = .ok (.aload_n 1, 1) := by decide +kernel
theorem dX2_copyFrom_17 : decode cX2_copyFrom 17 = .ok (.getfield 15, 3) := by decide +kernel
theorem dX2_copyFrom_20 : decode cX2_copyFrom 20 = .ok (.putfield 15, 3) := by decide +kernel
theorem dX2_copyFrom_23 : decode cX2_copyFrom 23 = .ok (.aload_n 0, 1) := by decide +kernel
theorem dX2_copyFrom_24 : decode cX2_copyFrom 24 = .ok (.aload_n 1, 1) := by decide +kernel
theorem dX2_copyFrom_25 : decode cX2_copyFrom 25 = .ok (.getfield 19, 3) := by decide +kernel
theorem dX2_copyFrom_28 : decode cX2_copyFrom 28 = .ok (.putfield 19, 3) := by decide +kernel
theorem dX2_copyFrom_31 : decode cX2_copyFrom 31 = .ok (.aload_n 0, 1) := by decide +kernel
theorem dX2_copyFrom_32 : decode cX2_copyFrom 32 = .ok (.aload_n 1, 1) := by decide +kernel
theorem dX2_copyFrom_33 : decode cX2_copyFrom 33 = .ok (.getfield 22, 3) := by decide +kernel
theorem dX2_copyFrom_36 : decode cX2_copyFrom 36 = .ok (.putfield 22, 3) := by decide +kernel
theorem dX2_copyFrom_39 : decode cX2_copyFrom 39 = .ok (.aload_n 0, 1) := by decide +kernel
theorem dX2_copyFrom_40 : decode cX2_copyFrom 40 = .ok (.aload_n 1, 1) := by decide +kernel
theorem dX2_copyFrom_41 : decode cX2_copyFrom 41 = .ok (.getfield 25, 3) := by decide +kernel
theorem dX2_copyFrom_44 : decode cX2_copyFrom 44 = .ok (.putfield 25, 3) := by decide +kernel
theorem dX2_copyFrom_47 : decode cX2_copyFrom 47 = .ok (.return_, 1) := by decide +kernel
theorem dX2_isProponents_0 : decode cX2_isProponents 0 = .ok (.iload_n 0, 1) := by decide +kernel
theorem dX2_isProponents_1 : decode cX2_isProponents 1 = .ok (.iconst 2, 1) := by decide +kernel
theorem dX2_isProponents_2 : decode cX2_isProponents 2 = .ok (.irem, 1) := by decide +kernel
theorem dX2_isProponents_3 : decode cX2_isProponents 3 = .ok (.ifCond .ne 7, 3) := by decide +kernel
theorem dX2_isProponents_6 : decode cX2_isProponents 6 = .ok (.iconst 1, 1) := by decide +kernel
theorem dX2_isProponents_7 : decode cX2_isProponents 7 = .ok (.goto 4, 3) := by decide +kernel
theorem dX2_isProponents_10 : decode cX2_isProponents 10 = .ok (.iconst 0, 1) := by decide +kernel
theorem dX2_isProponents_11 : decode cX2_isProponents 11 = .ok (.ireturn, 1) := by decide +kernel
theorem dX2_isHeld_0 : decode cX2_isHeld 0 = .ok (.aload_n 0, 1) := by decide +kernel
theorem dX2_isHeld_1 : decode cX2_isHeld 1 = .ok (.getfield 15, 3) := by decide +kernel
theorem dX2_isHeld_4 : decode cX2_isHeld 4 = .ok (.ifCond .le 7, 3) := by decide +kernel
theorem dX2_isHeld_7 : decode cX2_isHeld 7 = .ok (.iconst 1, 1) := by decide +kernel
theorem dX2_isHeld_8 : decode cX2_isHeld 8 = .ok (.goto 4, 3) := by decide +kernel
theorem dX2_isHeld_11 : decode cX2_isHeld 11 = .ok (.iconst 0, 1) := by decide +kernel
theorem dX2_isHeld_12 : decode cX2_isHeld 12 = .ok (.ireturn, 1) := by decide +kernel
theorem dX2_isFull_0 : decode cX2_isFull 0 = .ok (.aload_n 0, 1) := by decide +kernel
theorem dX2_isFull_1 : decode cX2_isFull 1 = .ok (.getfield 15, 3) := by decide +kernel
theorem dX2_isFull_4 : decode cX2_isFull 4 = .ok (.bipush 12, 2) := by decide +kernel
theorem dX2_isFull_6 : decode cX2_isFull 6 = .ok (.if_icmp .lt 7, 3) := by decide +kernel
theorem dX2_isFull_9 : decode cX2_isFull 9 = .ok (.iconst 1, 1) := by decide +kernel
theorem dX2_isFull_10 : decode cX2_isFull 10 = .ok (.goto 4, 3) := by decide +kernel
theorem dX2_isFull_13 : decode cX2_isFull 13 = .ok (.iconst 0, 1) := by decide +kernel
theorem dX2_isFull_14 : decode cX2_isFull 14 = .ok (.ireturn, 1) := by decide +kernel
theorem dX2_mustBeHeld_0 : decode cX2_mustBeHeld 0 = .ok (.aload_n 0, 1) := by decide +kernel
theorem dX2_mustBeHeld_1 : decode cX2_mustBeHeld 1 = .ok (.getfield 15, 3) := by decide +kernel
theorem dX2_mustBeHeld_4 : decode cX2_mustBeHeld 4 = .ok (.ifCond .ne 13, 3) := by decide +kernel
theorem dX2_mustBeHeld_7 : decode cX2_mustBeHeld 7 = .ok (.new 34, 3) := by decide +kernel
theorem dX2_mustBeHeld_10 : decode cX2_mustBeHeld 10 = .ok (.dup, 1) := by decide +kernel
theorem dX2_mustBeHeld_11 : decode cX2_mustBeHeld 11 = .ok (.ldc 36, 2) := by decide +kernel
theorem dX2_mustBeHeld_13 : decode cX2_mustBeHeld 13 = .ok (.invokespecial 38, 3) := by decide +kernel
theorem dX2_mustBeHeld_16 : decode cX2_mustBeHeld 16 = .ok (.athrow, 1) := by decide +kernel
theorem dX2_mustBeHeld_17 : decode cX2_mustBeHeld 17 = .ok (.return_, 1) := by decide +kernel
theorem dX2_last_0 : decode cX2_last 0 = .ok (.aload_n 0, 1) := by decide +kernel
theorem dX2_last_1 : decode cX2_last 1 = .ok (.getfield 15, 3) := by decide +kernel
theorem dX2_last_4 : decode cX2_last 4 = .ok (.ifCond .le 17, 3) := by decide +kernel
theorem dX2_last_7 : decode cX2_last 7 = .ok (.aload_n 0, 1) := by decide +kernel
theorem dX2_last_8 : decode cX2_last 8 = .ok (.getfield 9, 3) := by decide +kernel
theorem dX2_last_11 : decode cX2_last 11 = .ok (.aload_n 0, 1) := by decide +kernel
theorem dX2_last_12 : decode cX2_last 12 = .ok (.getfield 15, 3) := by decide +kernel
theorem dX2_last_15 : decode cX2_last 15 = .ok (.iconst 1, 1) := by decide +kernel
theorem dX2_last_16 : decode cX2_last 16 = .ok (.isub, 1) := by decide +kernel
theorem dX2_last_17 : decode cX2_last 17 = .ok (.iaload, 1) := by decide +kernel
theorem dX2_last_18 : decode cX2_last 18 = .ok (.goto 4, 3) := by decide +kernel
theorem dX2_last_21 : decode cX2_last 21 = .ok (.iconst (-1), 1) := by decide +kernel
theorem dX2_last_22 : decode cX2_last 22 = .ok (.ireturn, 1) := by decide +kernel
theorem dX2_isMovedByProponent_0 : decode cX2_isMovedByProponent 0 = .ok (.iconst 0, 1) := by decide +kernel
theorem dX2_isMovedByProponent_1 : decode cX2_isMovedByProponent 1 = .ok (.istore_n 2, 1) := by decide +kernel
theorem dX2_isMovedByProponent_2 : decode cX2_isMovedByProponent 2 = .ok (.iload_n 2, 1) := by decide +kernel
theorem dX2_isMovedByProponent_3 : decode cX2_isMovedByProponent 3 = .ok (.aload_n 0, 1) := by decide +kernel
theorem dX2_isMovedByProponent_4 : decode cX2_isMovedByProponent 4 = .ok (.getfield 15, 3) := by decide +kernel
theorem dX2_isMovedByProponent_7 : decode cX2_isMovedByProponent 7 = .ok (.if_icmp .ge 28, 3) := by decide +kernel
theorem dX2_isMovedByProponent_10 : decode cX2_isMovedByProponent 10 = .ok (.iload_n 2, 1) := by decide +kernel
theorem dX2_isMovedByProponent_11 : decode cX2_isMovedByProponent 11 = .ok (.invokestatic 41, 3) := by decide +kernel
theorem dX2_isMovedByProponent_14 : decode cX2_isMovedByProponent 14 = .ok (.ifCond .eq 15, 3) := by decide +kernel
theorem dX2_isMovedByProponent_17 : decode cX2_isMovedByProponent 17 = .ok (.aload_n 0, 1) := by decide +kernel
theorem dX2_isMovedByProponent_18 : decode cX2_isMovedByProponent 18 = .ok (.getfield 9, 3) := by decide +kernel
theorem dX2_isMovedByProponent_21 : decode cX2_isMovedByProponent 21 = .ok (.iload_n 2, 1) := by decide +kernel
theorem dX2_isMovedByProponent_22 : decode cX2_isMovedByProponent 22 = .ok (.iaload, 1) := by decide +kernel
theorem dX2_isMovedByProponent_23 : decode cX2_isMovedByProponent 23 = .ok (.iload_n 1, 1) := by decide +kernel
theorem dX2_isMovedByProponent_24 : decode cX2_isMovedByProponent 24 = .ok (.if_icmp .ne 5, 3) := by decide +kernel
theorem dX2_isMovedByProponent_27 : decode cX2_isMovedByProponent 27 = .ok (.iconst 1, 1) := by decide +kernel
theorem dX2_isMovedByProponent_28 : decode cX2_isMovedByProponent 28 = .ok (.ireturn, 1) := by decide +kernel
theorem dX2_isMovedByProponent_29 : decode cX2_isMovedByProponent 29 = .ok (.iinc 2 1, 3) := by decide +kernel
theorem dX2_isMovedByProponent_32 : decode cX2_isMovedByProponent 32 = .ok (.goto (-30), 3) := by decide +kernel
theorem dX2_isMovedByProponent_35 : decode cX2_isMovedByProponent 35 = .ok (.iconst 0, 1) := by decide +kernel
theorem dX2_isMovedByProponent_36 : decode cX2_isMovedByProponent 36 = .ok (.ireturn, 1) := by decide +kernel
theorem dX2_add_0 : decode cX2_add 0 = .ok (.aload_n 0, 1) := by decide +kernel
theorem dX2_add_1 : decode cX2_add 1 = .ok (.invokevirtual 45, 3) := by decide +kernel
theorem dX2_add_4 : decode cX2_add 4 = .ok (.ifCond .ne 23, 3) := by decide +kernel
theorem dX2_add_7 : decode cX2_add 7 = .ok (.aload_n 0, 1) := by decide +kernel
theorem dX2_add_8 : decode cX2_add 8 = .ok (.getfield 9, 3) := by decide +kernel
theorem dX2_add_11 : decode cX2_add 11 = .ok (.aload_n 0, 1) := by decide +kernel
theorem dX2_add_12 : decode cX2_add 12 = .ok (.getfield 15, 3) := by decide +kernel
theorem dX2_add_15 : decode cX2_add 15 = .ok (.iload_n 1, 1) := by decide +kernel
theorem dX2_add_16 : decode cX2_add 16 = .ok (.iastore, 1) := by decide +kernel
theorem dX2_add_17 : decode cX2_add 17 = .ok (.aload_n 0, 1) := by decide +kernel
theorem dX2_add_18 : decode cX2_add 18 = .ok (.dup, 1) := by decide +kernel
theorem dX2_add_19 : decode cX2_add 19 = .ok (.getfield 15, 3) := by decide +kernel
theorem dX2_add_22 : decode cX2_add 22 = .ok (.iconst 1, 1) := by decide +kernel
theorem dX2_add_23 : decode cX2_add 23 = .ok (.iadd, 1) := by decide +kernel
theorem dX2_add_24 : decode cX2_add 24 = .ok (.putfield 15, 3) := by decide +kernel
theorem dX2_add_27 : decode cX2_add 27 = .ok (.return_, 1) := by decide +kernel
theorem dX2_dropLast_0 : decode cX2_dropLast 0 = .ok (.aload_n 0, 1) := by decide +kernel
theorem dX2_dropLast_1 : decode cX2_dropLast 1 = .ok (.invokevirtual 49, 3) := by decide +kernel
theorem dX2_dropLast_4 : decode cX2_dropLast 4 = .ok (.aload_n 0, 1) := by decide +kernel
theorem dX2_dropLast_5 : decode cX2_dropLast 5 = .ok (.getfield 15, 3) := by decide +kernel
theorem dX2_dropLast_8 : decode cX2_dropLast 8 = .ok (.iconst 1, 1) := by decide +kernel
theorem dX2_dropLast_9 : decode cX2_dropLast 9 = .ok (.if_icmp .ne 13, 3) := by decide +kernel
theorem dX2_dropLast_12 : decode cX2_dropLast 12 = .ok (.new 52, 3) := by decide +kernel
theorem dX2_dropLast_15 : decode cX2_dropLast 15 = .ok (.dup, 1) := by decide +kernel
theorem dX2_dropLast_16 : decode cX2_dropLast 16 = .ok (.ldc 54, 2) := by decide +kernel
theorem dX2_dropLast_18 : decode cX2_dropLast 18 = .ok (.invokespecial 56, 3) := by decide +kernel
theorem dX2_dropLast_21 : decode cX2_dropLast 21 = .ok (.athrow, 1) := by decide +kernel
theorem dX2_dropLast_22 : decode cX2_dropLast 22 = .ok (.aload_n 0, 1) := by decide +kernel
theorem dX2_dropLast_23 : decode cX2_dropLast 23 = .ok (.dup, 1) := by decide +kernel
theorem dX2_dropLast_24 : decode cX2_dropLast 24 = .ok (.getfield 15, 3) := by decide +kernel
theorem dX2_dropLast_27 : decode cX2_dropLast 27 = .ok (.iconst 1, 1) := by decide +kernel
theorem dX2_dropLast_28 : decode cX2_dropLast 28 = .ok (.isub, 1) := by decide +kernel
theorem dX2_dropLast_29 : decode cX2_dropLast 29 = .ok (.putfield 15, 3) := by decide +kernel
theorem dX2_dropLast_32 : decode cX2_dropLast 32 = .ok (.aload_n 0, 1) := by decide +kernel
theorem dX2_dropLast_33 : decode cX2_dropLast 33 = .ok (.getfield 15, 3) := by decide +kernel
theorem dX2_dropLast_36 : decode cX2_dropLast 36 = .ok (.ireturn, 1) := by decide +kernel
theorem dX2_end_0 : decode cX2_end 0 = .ok (.aload_n 0, 1) := by decide +kernel
theorem dX2_end_1 : decode cX2_end 1 = .ok (.invokevirtual 49, 3) := by decide +kernel
theorem dX2_end_4 : decode cX2_end 4 = .ok (.aload_n 0, 1) := by decide +kernel
theorem dX2_end_5 : decode cX2_end 5 = .ok (.getfield 15, 3) := by decide +kernel
theorem dX2_end_8 : decode cX2_end 8 = .ok (.iconst 1, 1) := by decide +kernel
theorem dX2_end_9 : decode cX2_end 9 = .ok (.isub, 1) := by decide +kernel
theorem dX2_end_10 : decode cX2_end 10 = .ok (.invokestatic 41, 3) := by decide +kernel
theorem dX2_end_13 : decode cX2_end 13 = .ok (.istore_n 1, 1) := by decide +kernel
theorem dX2_end_14 : decode cX2_end 14 = .ok (.aload_n 0, 1) := by decide +kernel
theorem dX2_end_15 : decode cX2_end 15 = .ok (.iconst 0, 1) := by decide +kernel
theorem dX2_end_16 : decode cX2_end 16 = .ok (.putfield 15, 3) := by decide +kernel
theorem dX2_end_19 : decode cX2_end 19 = .ok (.aload_n 0, 1) := by decide +kernel
theorem dX2_end_20 : decode cX2_end 20 = .ok (.dup, 1) := by decide +kernel
theorem dX2_end_21 : decode cX2_end 21 = .ok (.getfield 19, 3) := by decide +kernel
theorem dX2_end_24 : decode cX2_end 24 = .ok (.iconst 1, 1) := by decide +kernel
theorem dX2_end_25 : decode cX2_end 25 = .ok (.iadd, 1) := by decide +kernel
theorem dX2_end_26 : decode cX2_end 26 = .ok (.putfield 19, 3) := by decide +kernel
theorem dX2_end_29 : decode cX2_end 29 = .ok (.iload_n 1, 1) := by decide +kernel
theorem dX2_end_30 : decode cX2_end 30 = .ok (.ifCond .eq 16, 3) := by decide +kernel
theorem dX2_end_33 : decode cX2_end 33 = .ok (.aload_n 0, 1) := by decide +kernel
theorem dX2_end_34 : decode cX2_end 34 = .ok (.dup, 1) := by decide +kernel
theorem dX2_end_35 : decode cX2_end 35 = .ok (.getfield 22, 3) := by decide +kernel
theorem dX2_end_38 : decode cX2_end 38 = .ok (.iconst 1, 1) := by decide +kernel
theorem dX2_end_39 : decode cX2_end 39 = .ok (.iadd, 1) := by decide +kernel
theorem dX2_end_40 : decode cX2_end 40 = .ok (.putfield 22, 3) := by decide +kernel
theorem dX2_end_43 : decode cX2_end 43 = .ok (.bipush 112, 2) := by decide +kernel
theorem dX2_end_45 : decode cX2_end 45 = .ok (.ireturn, 1) := by decide +kernel
theorem dX2_end_46 : decode cX2_end 46 = .ok (.bipush 111, 2) := by decide +kernel
theorem dX2_end_48 : decode cX2_end 48 = .ok (.ireturn, 1) := by decide +kernel
theorem dX2_breakOffIfMoved_0 : decode cX2_breakOffIfMoved 0 = .ok (.iconst 0, 1) := by decide +kernel
theorem dX2_breakOffIfMoved_1 : decode cX2_breakOffIfMoved 1 = .ok (.istore_n 2, 1) := by decide +kernel
theorem dX2_breakOffIfMoved_2 : decode cX2_breakOffIfMoved 2 = .ok (.iload_n 2, 1) := by decide +kernel
theorem dX2_breakOffIfMoved_3 : decode cX2_breakOffIfMoved 3 = .ok (.aload_n 0, 1) := by decide +kernel
theorem dX2_breakOffIfMoved_4 : decode cX2_breakOffIfMoved 4 = .ok (.getfield 15, 3) := by decide +kernel
theorem dX2_breakOffIfMoved_7 : decode cX2_breakOffIfMoved 7 = .ok (.if_icmp .ge 35, 3) := by decide +kernel
theorem dX2_breakOffIfMoved_10 : decode cX2_breakOffIfMoved 10 = .ok (.aload_n 0, 1) := by decide +kernel
theorem dX2_breakOffIfMoved_11 : decode cX2_breakOffIfMoved 11 = .ok (.getfield 9, 3) := by decide +kernel
theorem dX2_breakOffIfMoved_14 : decode cX2_breakOffIfMoved 14 = .ok (.iload_n 2, 1) := by decide +kernel
theorem dX2_breakOffIfMoved_15 : decode cX2_breakOffIfMoved 15 = .ok (.iaload, 1) := by decide +kernel
theorem dX2_breakOffIfMoved_16 : decode cX2_breakOffIfMoved 16 = .ok (.iload_n 1, 1) := by decide +kernel
theorem dX2_breakOffIfMoved_17 : decode cX2_breakOffIfMoved 17 = .ok (.if_icmp .ne 19, 3) := by decide +kernel
theorem dX2_breakOffIfMoved_20 : decode cX2_breakOffIfMoved 20 = .ok (.aload_n 0, 1) := by decide +kernel
theorem dX2_breakOffIfMoved_21 : decode cX2_breakOffIfMoved 21 = .ok (.iconst 0, 1) := by decide +kernel
theorem dX2_breakOffIfMoved_22 : decode cX2_breakOffIfMoved 22 = .ok (.putfield 15, 3) := by decide +kernel
theorem dX2_breakOffIfMoved_25 : decode cX2_breakOffIfMoved 25 = .ok (.aload_n 0, 1) := by decide +kernel
theorem dX2_breakOffIfMoved_26 : decode cX2_breakOffIfMoved 26 = .ok (.dup, 1) := by decide +kernel
theorem dX2_breakOffIfMoved_27 : decode cX2_breakOffIfMoved 27 = .ok (.getfield 25, 3) := by decide +kernel
theorem dX2_breakOffIfMoved_30 : decode cX2_breakOffIfMoved 30 = .ok (.iconst 1, 1) := by decide +kernel
theorem dX2_breakOffIfMoved_31 : decode cX2_breakOffIfMoved 31 = .ok (.iadd, 1) := by decide +kernel
theorem dX2_breakOffIfMoved_32 : decode cX2_breakOffIfMoved 32 = .ok (.putfield 25, 3) := by decide +kernel
theorem dX2_breakOffIfMoved_35 : decode cX2_breakOffIfMoved 35 = .ok (.return_, 1) := by decide +kernel
theorem dX2_breakOffIfMoved_36 : decode cX2_breakOffIfMoved 36 = .ok (.iinc 2 1, 3) := by decide +kernel
theorem dX2_breakOffIfMoved_39 : decode cX2_breakOffIfMoved 39 = .ok (.goto (-37), 3) := by decide +kernel
theorem dX2_breakOffIfMoved_42 : decode cX2_breakOffIfMoved 42 = .ok (.return_, 1) := by decide +kernel
theorem dX3_init_0 : decode cX3_init 0 = .ok (.aload_n 0, 1) := by decide +kernel
theorem dX3_init_1 : decode cX3_init 1 = .ok (.invokespecial 3, 3) := by decide +kernel
theorem dX3_init_4 : decode cX3_init 4 = .ok (.aload_n 0, 1) := by decide +kernel
theorem dX3_init_5 : decode cX3_init 5 = .ok (.sipush 256, 3) := by decide +kernel
theorem dX3_init_8 : decode cX3_init 8 = .ok (.newarray .boolean, 2) := by decide +kernel
theorem dX3_init_10 : decode cX3_init 10 = .ok (.putfield 9, 3) := by decide +kernel
theorem dX3_init_13 : decode cX3_init 13 = .ok (.aload_n 0, 1) := by decide +kernel
theorem dX3_init_14 : decode cX3_init 14 = .ok (.sipush 256, 3) := by decide +kernel
theorem dX3_init_17 : decode cX3_init 17 = .ok (.newarray .boolean, 2) := by decide +kernel
theorem dX3_init_19 : decode cX3_init 19 = .ok (.putfield 15, 3) := by decide +kernel
theorem dX3_init_22 : decode cX3_init 22 = .ok (.aload_n 0, 1) := by decide +kernel
theorem dX3_init_23 : decode cX3_init 23 = .ok (.iconst 1, 1) := by decide +kernel
theorem dX3_init_24 : decode cX3_init 24 = .ok (.putfield 18, 3) := by decide +kernel
theorem dX3_init_27 : decode cX3_init 27 = .ok (.return_, 1) := by decide +kernel
theorem dX3_countStable_0 : decode cX3_countStable 0 = .ok (.iconst 0, 1) := by decide +kernel
theorem dX3_countStable_1 : decode cX3_countStable 1 = .ok (.istore_n 2, 1) := by decide +kernel
theorem dX3_countStable_2 : decode cX3_countStable 2 = .ok (.aload_n 1, 1) := by decide +kernel
theorem dX3_countStable_3 : decode cX3_countStable 3 = .ok (.invokevirtual 22, 3) := by decide +kernel
theorem dX3_countStable_6 : decode cX3_countStable 6 = .ok (.istore_n 3, 1) := by decide +kernel
theorem dX3_countStable_7 : decode cX3_countStable 7 = .ok (.iconst 0, 1) := by decide +kernel
theorem dX3_countStable_8 : decode cX3_countStable 8 = .ok (.istore 4, 2) := by decide +kernel
theorem dX3_countStable_10 : decode cX3_countStable 10 = .ok (.iload 4, 2) := by decide +kernel
theorem dX3_countStable_12 : decode cX3_countStable 12 = .ok (.iload_n 3, 1) := by decide +kernel
theorem dX3_countStable_13 : decode cX3_countStable 13 = .ok (.if_icmp .gt 36, 3) := by decide +kernel
theorem dX3_countStable_16 : decode cX3_countStable 16 = .ok (.aload_n 1, 1) := by decide +kernel
theorem dX3_countStable_17 : decode cX3_countStable 17 = .ok (.iload 4, 2) := by decide +kernel
theorem dX3_countStable_19 : decode cX3_countStable 19 = .ok (.invokestatic 28, 3) := by decide +kernel
theorem dX3_countStable_22 : decode cX3_countStable 22 = .ok (.ifCond .eq 21, 3) := by decide +kernel
theorem dX3_countStable_25 : decode cX3_countStable 25 = .ok (.aload_n 1, 1) := by decide +kernel
theorem dX3_countStable_26 : decode cX3_countStable 26 = .ok (.iload_n 3, 1) := by decide +kernel
theorem dX3_countStable_27 : decode cX3_countStable 27 = .ok (.iload 4, 2) := by decide +kernel
theorem dX3_countStable_29 : decode cX3_countStable 29 = .ok (.iconst (-1), 1) := by decide +kernel
theorem dX3_countStable_30 : decode cX3_countStable 30 = .ok (.ixor, 1) := by decide +kernel
theorem dX3_countStable_31 : decode cX3_countStable 31 = .ok (.iand, 1) := by decide +kernel
theorem dX3_countStable_32 : decode cX3_countStable 32 = .ok (.iload 4, 2) := by decide +kernel
theorem dX3_countStable_34 : decode cX3_countStable 34 = .ok (.invokestatic 32, 3) := by decide +kernel
theorem dX3_countStable_37 : decode cX3_countStable 37 = .ok (.ifCond .eq 6, 3) := by decide +kernel
theorem dX3_countStable_40 : decode cX3_countStable 40 = .ok (.iinc 2 1, 3) := by decide +kernel
theorem dX3_countStable_43 : decode cX3_countStable 43 = .ok (.iinc 4 1, 3) := by decide +kernel
theorem dX3_countStable_46 : decode cX3_countStable 46 = .ok (.goto (-36), 3) := by decide +kernel
theorem dX3_countStable_49 : decode cX3_countStable 49 = .ok (.iload_n 2, 1) := by decide +kernel
theorem dX3_countStable_50 : decode cX3_countStable 50 = .ok (.ireturn, 1) := by decide +kernel
theorem dX3_countStableByLabels_0 : decode cX3_countStableByLabels 0 = .ok (.aload_n 1, 1) := by decide +kernel
theorem dX3_countStableByLabels_1 : decode cX3_countStableByLabels 1 = .ok (.iconst 0, 1) := by decide +kernel
theorem dX3_countStableByLabels_2 : decode cX3_countStableByLabels 2 = .ok (.iconst 0, 1) := by decide +kernel
theorem dX3_countStableByLabels_3 : decode cX3_countStableByLabels 3 = .ok (.iconst 0, 1) := by decide +kernel
theorem dX3_countStableByLabels_4 : decode cX3_countStableByLabels 4 = .ok (.invokestatic 36, 3) := by decide +kernel
theorem dX3_countStableByLabels_7 : decode cX3_countStableByLabels 7 = .ok (.ireturn, 1) := by decide +kernel
theorem dX3_sizeOfGreatestAdmissible_0 : decode cX3_sizeOfGreatestAdmissible 0 = .ok (.iconst 0, 1) := by decide +kernel
theorem dX3_sizeOfGreatestAdmissible_1 : decode cX3_sizeOfGreatestAdmissible 1 = .ok (.istore_n 2, 1) := by decide +kernel
theorem dX3_sizeOfGreatestAdmissible_2 : decode cX3_sizeOfGreatestAdmissible 2 = .ok (.aload_n 1, 1) := by decide +kernel
theorem dX3_sizeOfGreatestAdmissible_3 : decode cX3_sizeOfGreatestAdmissible 3 = .ok (.invokevirtual 22, 3) := by decide +kernel
theorem dX3_sizeOfGreatestAdmissible_6 : decode cX3_sizeOfGreatestAdmissible 6 = .ok (.istore_n 3, 1) := by decide +kernel
theorem dX3_sizeOfGreatestAdmissible_7 : decode cX3_sizeOfGreatestAdmissible 7 = .ok (.iconst 0, 1) := by decide +kernel
theorem dX3_sizeOfGreatestAdmissible_8 : decode cX3_sizeOfGreatestAdmissible 8 = .ok (.istore 4, 2) := by decide +kernel
theorem dX3_sizeOfGreatestAdmissible_10 : decode cX3_sizeOfGreatestAdmissible 10 = .ok (.iload 4, 2) := by decide +kernel
theorem dX3_sizeOfGreatestAdmissible_12 : decode cX3_sizeOfGreatestAdmissible 12 = .ok (.iload_n 3, 1) := by decide +kernel
theorem dX3_sizeOfGreatestAdmissible_13 : decode cX3_sizeOfGreatestAdmissible 13 = .ok (.if_icmp .gt 28, 3) := by decide +kernel
theorem dX3_sizeOfGreatestAdmissible_16 : decode cX3_sizeOfGreatestAdmissible 16 = .ok (.aload_n 1, 1) := by decide +kernel
theorem dX3_sizeOfGreatestAdmissible_17 : decode cX3_sizeOfGreatestAdmissible 17 = .ok (.iload 4, 2) := by decide +kernel
theorem dX3_sizeOfGreatestAdmissible_19 : decode cX3_sizeOfGreatestAdmissible 19 = .ok (.invokestatic 40, 3) := by decide +kernel
theorem dX3_sizeOfGreatestAdmissible_22 : decode cX3_sizeOfGreatestAdmissible 22 = .ok (.ifCond .eq 13, 3) := by decide +kernel
theorem dX3_sizeOfGreatestAdmissible_25 : decode cX3_sizeOfGreatestAdmissible 25 = .ok (.iload_n 2, 1) := by decide +kernel
theorem dX3_sizeOfGreatestAdmissible_26 : decode cX3_sizeOfGreatestAdmissible 26 = .ok (.iload 4, 2) := by decide +kernel
theorem dX3_sizeOfGreatestAdmissible_28 : decode cX3_sizeOfGreatestAdmissible 28 = .ok (.invokestatic 43, 3) := by decide +kernel
theorem dX3_sizeOfGreatestAdmissible_31 : decode cX3_sizeOfGreatestAdmissible 31 = .ok (.invokestatic 49, 3) := by decide +kernel
theorem dX3_sizeOfGreatestAdmissible_34 : decode cX3_sizeOfGreatestAdmissible 34 = .ok (.istore_n 2, 1) := by decide +kernel
theorem dX3_sizeOfGreatestAdmissible_35 : decode cX3_sizeOfGreatestAdmissible 35 = .ok (.iinc 4 1, 3) := by decide +kernel
theorem dX3_sizeOfGreatestAdmissible_38 : decode cX3_sizeOfGreatestAdmissible 38 = .ok (.goto (-28), 3) := by decide +kernel
theorem dX3_sizeOfGreatestAdmissible_41 : decode cX3_sizeOfGreatestAdmissible 41 = .ok (.iload_n 2, 1) := by decide +kernel
theorem dX3_sizeOfGreatestAdmissible_42 : decode cX3_sizeOfGreatestAdmissible 42 = .ok (.ireturn, 1) := by decide +kernel
theorem dX3_find_0 : decode cX3_find 0 = .ok (.aload_n 1, 1) := by decide +kernel
theorem dX3_find_1 : decode cX3_find 1 = .ok (.invokevirtual 22, 3) := by decide +kernel
theorem dX3_find_4 : decode cX3_find 4 = .ok (.istore_n 2, 1) := by decide +kernel
theorem dX3_find_5 : decode cX3_find 5 = .ok (.aload_n 0, 1) := by decide +kernel
theorem dX3_find_6 : decode cX3_find 6 = .ok (.iload_n 2, 1) := by decide +kernel
theorem dX3_find_7 : decode cX3_find 7 = .ok (.iconst 1, 1) := by decide +kernel
theorem dX3_find_8 : decode cX3_find 8 = .ok (.iadd, 1) := by decide +kernel
theorem dX3_find_9 : decode cX3_find 9 = .ok (.putfield 18, 3) := by decide +kernel
theorem dX3_find_12 : decode cX3_find 12 = .ok (.iload_n 2, 1) := by decide +kernel
theorem dX3_find_13 : decode cX3_find 13 = .ok (.istore_n 3, 1) := by decide +kernel
theorem dX3_find_14 : decode cX3_find 14 = .ok (.iload_n 3, 1) := by decide +kernel
theorem dX3_find_15 : decode cX3_find 15 = .ok (.ifCond .lt 66, 3) := by decide +kernel
theorem dX3_find_18 : decode cX3_find 18 = .ok (.aload_n 1, 1) := by decide +kernel
theorem dX3_find_19 : decode cX3_find 19 = .ok (.iload_n 3, 1) := by decide +kernel
theorem dX3_find_20 : decode cX3_find 20 = .ok (.invokestatic 40, 3) := by decide +kernel
theorem dX3_find_23 : decode cX3_find 23 = .ok (.istore 4, 2) := by decide +kernel
theorem dX3_find_25 : decode cX3_find 25 = .ok (.aload_n 0, 1) := by decide +kernel
theorem dX3_find_26 : decode cX3_find 26 = .ok (.iload_n 3, 1) := by decide +kernel
theorem dX3_find_27 : decode cX3_find 27 = .ok (.iload_n 2, 1) := by decide +kernel
theorem dX3_find_28 : decode cX3_find 28 = .ok (.invokevirtual 55, 3) := by decide +kernel
theorem dX3_find_31 : decode cX3_find 31 = .ok (.istore 5, 2) := by decide +kernel
theorem dX3_find_33 : decode cX3_find 33 = .ok (.aload_n 0, 1) := by decide +kernel
theorem dX3_find_34 : decode cX3_find 34 = .ok (.getfield 9, 3) := by decide +kernel
theorem dX3_find_37 : decode cX3_find 37 = .ok (.iload_n 3, 1) := by decide +kernel
theorem dX3_find_38 : decode cX3_find 38 = .ok (.iload 4, 2) := by decide +kernel
theorem dX3_find_40 : decode cX3_find 40 = .ok (.ifCond .eq 12, 3) := by decide +kernel
theorem dX3_find_43 : decode cX3_find 43 = .ok (.iload 5, 2) := by decide +kernel
theorem dX3_find_45 : decode cX3_find 45 = .ok (.ifCond .ne 7, 3) := by decide +kernel
theorem dX3_find_48 : decode cX3_find 48 = .ok (.iconst 1, 1) := by decide +kernel
theorem dX3_find_49 : decode cX3_find 49 = .ok (.goto 4, 3) := by decide +kernel
theorem dX3_find_52 : decode cX3_find 52 = .ok (.iconst 0, 1) := by decide +kernel
theorem dX3_find_53 : decode cX3_find 53 = .ok (.bastore, 1) := by decide +kernel
theorem dX3_find_54 : decode cX3_find 54 = .ok (.aload_n 0, 1) := by decide +kernel
theorem dX3_find_55 : decode cX3_find 55 = .ok (.getfield 15, 3) := by decide +kernel
theorem dX3_find_58 : decode cX3_find 58 = .ok (.iload_n 3, 1) := by decide +kernel
theorem dX3_find_59 : decode cX3_find 59 = .ok (.iload 4, 2) := by decide +kernel
theorem dX3_find_61 : decode cX3_find 61 = .ok (.ifCond .ne 8, 3) := by decide +kernel
theorem dX3_find_64 : decode cX3_find 64 = .ok (.iload 5, 2) := by decide +kernel
theorem dX3_find_66 : decode cX3_find 66 = .ok (.ifCond .eq 7, 3) := by decide +kernel
theorem dX3_find_69 : decode cX3_find 69 = .ok (.iconst 1, 1) := by decide +kernel
theorem dX3_find_70 : decode cX3_find 70 = .ok (.goto 4, 3) := by decide +kernel
theorem dX3_find_73 : decode cX3_find 73 = .ok (.iconst 0, 1) := by decide +kernel
theorem dX3_find_74 : decode cX3_find 74 = .ok (.bastore, 1) := by decide +kernel
theorem dX3_find_75 : decode cX3_find 75 = .ok (.iinc 3 (-1), 3) := by decide +kernel
theorem dX3_find_78 : decode cX3_find 78 = .ok (.goto (-64), 3) := by decide +kernel
theorem dX3_find_81 : decode cX3_find 81 = .ok (.return_, 1) := by decide +kernel
theorem dX3_countPreferredWith_0 : decode cX3_countPreferredWith 0 = .ok (.iconst 0, 1) := by decide +kernel
theorem dX3_countPreferredWith_1 : decode cX3_countPreferredWith 1 = .ok (.istore_n 2, 1) := by decide +kernel
theorem dX3_countPreferredWith_2 : decode cX3_countPreferredWith 2 = .ok (.iconst 0, 1) := by decide +kernel
theorem dX3_countPreferredWith_3 : decode cX3_countPreferredWith 3 = .ok (.istore_n 3, 1) := by decide +kernel
theorem dX3_countPreferredWith_4 : decode cX3_countPreferredWith 4 = .ok (.iload_n 3, 1) := by decide +kernel
theorem dX3_countPreferredWith_5 : decode cX3_countPreferredWith 5 = .ok (.aload_n 0, 1) := by decide +kernel
theorem dX3_countPreferredWith_6 : decode cX3_countPreferredWith 6 = .ok (.getfield 18, 3) := by decide +kernel
theorem dX3_countPreferredWith_9 : decode cX3_countPreferredWith 9 = .ok (.if_icmp .ge 28, 3) := by decide +kernel
theorem dX3_countPreferredWith_12 : decode cX3_countPreferredWith 12 = .ok (.aload_n 0, 1) := by decide +kernel
theorem dX3_countPreferredWith_13 : decode cX3_countPreferredWith 13 = .ok (.getfield 9, 3) := by decide +kernel
theorem dX3_countPreferredWith_16 : decode cX3_countPreferredWith 16 = .ok (.iload_n 3, 1) := by decide +kernel
theorem dX3_countPreferredWith_17 : decode cX3_countPreferredWith 17 = .ok (.baload, 1) := by decide +kernel
theorem dX3_countPreferredWith_18 : decode cX3_countPreferredWith 18 = .ok (.ifCond .eq 13, 3) := by decide +kernel
theorem dX3_countPreferredWith_21 : decode cX3_countPreferredWith 21 = .ok (.iload_n 3, 1) := by decide +kernel
theorem dX3_countPreferredWith_22 : decode cX3_countPreferredWith 22 = .ok (.iload_n 1, 1) := by decide +kernel
theorem dX3_countPreferredWith_23 : decode cX3_countPreferredWith 23 = .ok (.iand, 1) := by decide +kernel
theorem dX3_countPreferredWith_24 : decode cX3_countPreferredWith 24 = .ok (.iload_n 1, 1) := by decide +kernel
theorem dX3_countPreferredWith_25 : decode cX3_countPreferredWith 25 = .ok (.if_icmp .ne 6, 3) := by decide +kernel
theorem dX3_countPreferredWith_28 : decode cX3_countPreferredWith 28 = .ok (.iinc 2 1, 3) := by decide +kernel
theorem dX3_countPreferredWith_31 : decode cX3_countPreferredWith 31 = .ok (.iinc 3 1, 3) := by decide +kernel
theorem dX3_countPreferredWith_34 : decode cX3_countPreferredWith 34 = .ok (.goto (-30), 3) := by decide +kernel
theorem dX3_countPreferredWith_37 : decode cX3_countPreferredWith 37 = .ok (.iload_n 2, 1) := by decide +kernel
theorem dX3_countPreferredWith_38 : decode cX3_countPreferredWith 38 = .ok (.ireturn, 1) := by decide +kernel
theorem dX3_isCoveredByGreater_0 : decode cX3_isCoveredByGreater 0 = .ok (.iconst 0, 1) := by decide +kernel
theorem dX3_isCoveredByGreater_1 : decode cX3_isCoveredByGreater 1 = .ok (.istore_n 3, 1) := by decide +kernel
theorem dX3_isCoveredByGreater_2 : decode cX3_isCoveredByGreater 2 = .ok (.iload_n 3, 1) := by decide +kernel
theorem dX3_isCoveredByGreater_3 : decode cX3_isCoveredByGreater 3 = .ok (.bipush 8, 2) := by decide +kernel
theorem dX3_isCoveredByGreater_5 : decode cX3_isCoveredByGreater 5 = .ok (.if_icmp .ge 36, 3) := by decide +kernel
theorem dX3_isCoveredByGreater_8 : decode cX3_isCoveredByGreater 8 = .ok (.iload_n 2, 1) := by decide +kernel
theorem dX3_isCoveredByGreater_9 : decode cX3_isCoveredByGreater 9 = .ok (.iload_n 1, 1) := by decide +kernel
theorem dX3_isCoveredByGreater_10 : decode cX3_isCoveredByGreater 10 = .ok (.iconst (-1), 1) := by decide +kernel
theorem dX3_isCoveredByGreater_11 : decode cX3_isCoveredByGreater 11 = .ok (.ixor, 1) := by decide +kernel
theorem dX3_isCoveredByGreater_12 : decode cX3_isCoveredByGreater 12 = .ok (.iand, 1) := by decide +kernel
theorem dX3_isCoveredByGreater_13 : decode cX3_isCoveredByGreater 13 = .ok (.iload_n 3, 1) := by decide +kernel
theorem dX3_isCoveredByGreater_14 : decode cX3_isCoveredByGreater 14 = .ok (.invokestatic 59, 3) := by decide +kernel
theorem dX3_isCoveredByGreater_17 : decode cX3_isCoveredByGreater 17 = .ok (.ifCond .eq 18, 3) := by decide +kernel
theorem dX3_isCoveredByGreater_20 : decode cX3_isCoveredByGreater 20 = .ok (.aload_n 0, 1) := by decide +kernel
theorem dX3_isCoveredByGreater_21 : decode cX3_isCoveredByGreater 21 = .ok (.getfield 15, 3) := by decide +kernel
theorem dX3_isCoveredByGreater_24 : decode cX3_isCoveredByGreater 24 = .ok (.iload_n 1, 1) := by decide +kernel
theorem dX3_isCoveredByGreater_25 : decode cX3_isCoveredByGreater 25 = .ok (.iconst 1, 1) := by decide +kernel
theorem dX3_isCoveredByGreater_26 : decode cX3_isCoveredByGreater 26 = .ok (.iload_n 3, 1) := by decide +kernel
theorem dX3_isCoveredByGreater_27 : decode cX3_isCoveredByGreater 27 = .ok (.ishl, 1) := by decide +kernel
theorem dX3_isCoveredByGreater_28 : decode cX3_isCoveredByGreater 28 = .ok (.ior, 1) := by decide +kernel
theorem dX3_isCoveredByGreater_29 : decode cX3_isCoveredByGreater 29 = .ok (.baload, 1) := by decide +kernel
theorem dX3_isCoveredByGreater_30 : decode cX3_isCoveredByGreater 30 = .ok (.ifCond .eq 5, 3) := by decide +kernel
theorem dX3_isCoveredByGreater_33 : decode cX3_isCoveredByGreater 33 = .ok (.iconst 1, 1) := by decide +kernel
theorem dX3_isCoveredByGreater_34 : decode cX3_isCoveredByGreater 34 = .ok (.ireturn, 1) := by decide +kernel
theorem dX3_isCoveredByGreater_35 : decode cX3_isCoveredByGreater 35 = .ok (.iinc 3 1, 3) := by decide +kernel
theorem dX3_isCoveredByGreater_38 : decode cX3_isCoveredByGreater 38 = .ok (.goto (-36), 3) := by decide +kernel
theorem dX3_isCoveredByGreater_41 : decode cX3_isCoveredByGreater 41 = .ok (.iconst 0, 1) := by decide +kernel
theorem dX3_isCoveredByGreater_42 : decode cX3_isCoveredByGreater 42 = .ok (.ireturn, 1) := by decide +kernel
theorem dX3_attackersOf_0 : decode cX3_attackersOf 0 = .ok (.iconst 0, 1) := by decide +kernel
theorem dX3_attackersOf_1 : decode cX3_attackersOf 1 = .ok (.istore_n 2, 1) := by decide +kernel
theorem dX3_attackersOf_2 : decode cX3_attackersOf 2 = .ok (.iconst 0, 1) := by decide +kernel
theorem dX3_attackersOf_3 : decode cX3_attackersOf 3 = .ok (.istore_n 3, 1) := by decide +kernel
theorem dX3_attackersOf_4 : decode cX3_attackersOf 4 = .ok (.iload_n 3, 1) := by decide +kernel
theorem dX3_attackersOf_5 : decode cX3_attackersOf 5 = .ok (.aload_n 0, 1) := by decide +kernel
theorem dX3_attackersOf_6 : decode cX3_attackersOf 6 = .ok (.getfield 62, 3) := by decide +kernel
theorem dX3_attackersOf_9 : decode cX3_attackersOf 9 = .ok (.if_icmp .ge 26, 3) := by decide +kernel
theorem dX3_attackersOf_12 : decode cX3_attackersOf 12 = .ok (.iload_n 1, 1) := by decide +kernel
theorem dX3_attackersOf_13 : decode cX3_attackersOf 13 = .ok (.iload_n 3, 1) := by decide +kernel
theorem dX3_attackersOf_14 : decode cX3_attackersOf 14 = .ok (.invokestatic 59, 3) := by decide +kernel
theorem dX3_attackersOf_17 : decode cX3_attackersOf 17 = .ok (.ifCond .eq 12, 3) := by decide +kernel
theorem dX3_attackersOf_20 : decode cX3_attackersOf 20 = .ok (.iload_n 2, 1) := by decide +kernel
theorem dX3_attackersOf_21 : decode cX3_attackersOf 21 = .ok (.aload_n 0, 1) := by decide +kernel
theorem dX3_attackersOf_22 : decode cX3_attackersOf 22 = .ok (.getfield 65, 3) := by decide +kernel
theorem dX3_attackersOf_25 : decode cX3_attackersOf 25 = .ok (.iload_n 3, 1) := by decide +kernel
theorem dX3_attackersOf_26 : decode cX3_attackersOf 26 = .ok (.iaload, 1) := by decide +kernel
theorem dX3_attackersOf_27 : decode cX3_attackersOf 27 = .ok (.ior, 1) := by decide +kernel
theorem dX3_attackersOf_28 : decode cX3_attackersOf 28 = .ok (.istore_n 2, 1) := by decide +kernel
theorem dX3_attackersOf_29 : decode cX3_attackersOf 29 = .ok (.iinc 3 1, 3) := by decide +kernel
theorem dX3_attackersOf_32 : decode cX3_attackersOf 32 = .ok (.goto (-28), 3) := by decide +kernel
theorem dX3_attackersOf_35 : decode cX3_attackersOf 35 = .ok (.iload_n 2, 1) := by decide +kernel
theorem dX3_attackersOf_36 : decode cX3_attackersOf 36 = .ok (.ireturn, 1) := by decide +kernel
theorem dX3_isFree_0 : decode cX3_isFree 0 = .ok (.aload_n 0, 1) := by decide +kernel
theorem dX3_isFree_1 : decode cX3_isFree 1 = .ok (.iload_n 1, 1) := by decide +kernel
theorem dX3_isFree_2 : decode cX3_isFree 2 = .ok (.invokestatic 69, 3) := by decide +kernel
theorem dX3_isFree_5 : decode cX3_isFree 5 = .ok (.iload_n 1, 1) := by decide +kernel
theorem dX3_isFree_6 : decode cX3_isFree 6 = .ok (.iand, 1) := by decide +kernel
theorem dX3_isFree_7 : decode cX3_isFree 7 = .ok (.ifCond .ne 7, 3) := by decide +kernel
theorem dX3_isFree_10 : decode cX3_isFree 10 = .ok (.iconst 1, 1) := by decide +kernel
theorem dX3_isFree_11 : decode cX3_isFree 11 = .ok (.goto 4, 3) := by decide +kernel
theorem dX3_isFree_14 : decode cX3_isFree 14 = .ok (.iconst 0, 1) := by decide +kernel
theorem dX3_isFree_15 : decode cX3_isFree 15 = .ok (.ireturn, 1) := by decide +kernel
theorem dX3_isAttackedBy_0 : decode cX3_isAttackedBy 0 = .ok (.iconst 0, 1) := by decide +kernel
theorem dX3_isAttackedBy_1 : decode cX3_isAttackedBy 1 = .ok (.istore_n 3, 1) := by decide +kernel
theorem dX3_isAttackedBy_2 : decode cX3_isAttackedBy 2 = .ok (.iload_n 3, 1) := by decide +kernel
theorem dX3_isAttackedBy_3 : decode cX3_isAttackedBy 3 = .ok (.aload_n 0, 1) := by decide +kernel
theorem dX3_isAttackedBy_4 : decode cX3_isAttackedBy 4 = .ok (.getfield 62, 3) := by decide +kernel
theorem dX3_isAttackedBy_7 : decode cX3_isAttackedBy 7 = .ok (.if_icmp .ge 30, 3) := by decide +kernel
theorem dX3_isAttackedBy_10 : decode cX3_isAttackedBy 10 = .ok (.iload_n 1, 1) := by decide +kernel
theorem dX3_isAttackedBy_11 : decode cX3_isAttackedBy 11 = .ok (.iload_n 3, 1) := by decide +kernel
theorem dX3_isAttackedBy_12 : decode cX3_isAttackedBy 12 = .ok (.invokestatic 59, 3) := by decide +kernel
theorem dX3_isAttackedBy_15 : decode cX3_isAttackedBy 15 = .ok (.ifCond .eq 16, 3) := by decide +kernel
theorem dX3_isAttackedBy_18 : decode cX3_isAttackedBy 18 = .ok (.aload_n 0, 1) := by decide +kernel
theorem dX3_isAttackedBy_19 : decode cX3_isAttackedBy 19 = .ok (.getfield 65, 3) := by decide +kernel
theorem dX3_isAttackedBy_22 : decode cX3_isAttackedBy 22 = .ok (.iload_n 3, 1) := by decide +kernel
theorem dX3_isAttackedBy_23 : decode cX3_isAttackedBy 23 = .ok (.iaload, 1) := by decide +kernel
theorem dX3_isAttackedBy_24 : decode cX3_isAttackedBy 24 = .ok (.iload_n 2, 1) := by decide +kernel
theorem dX3_isAttackedBy_25 : decode cX3_isAttackedBy 25 = .ok (.iand, 1) := by decide +kernel
theorem dX3_isAttackedBy_26 : decode cX3_isAttackedBy 26 = .ok (.ifCond .ne 5, 3) := by decide +kernel
theorem dX3_isAttackedBy_29 : decode cX3_isAttackedBy 29 = .ok (.iconst 0, 1) := by decide +kernel
theorem dX3_isAttackedBy_30 : decode cX3_isAttackedBy 30 = .ok (.ireturn, 1) := by decide +kernel
theorem dX3_isAttackedBy_31 : decode cX3_isAttackedBy 31 = .ok (.iinc 3 1, 3) := by decide +kernel
theorem dX3_isAttackedBy_34 : decode cX3_isAttackedBy 34 = .ok (.goto (-32), 3) := by decide +kernel
theorem dX3_isAttackedBy_37 : decode cX3_isAttackedBy 37 = .ok (.iconst 1, 1) := by decide +kernel
theorem dX3_isAttackedBy_38 : decode cX3_isAttackedBy 38 = .ok (.ireturn, 1) := by decide +kernel
theorem dX3_isAdmissible_0 : decode cX3_isAdmissible 0 = .ok (.aload_n 0, 1) := by decide +kernel
theorem dX3_isAdmissible_1 : decode cX3_isAdmissible 1 = .ok (.iload_n 1, 1) := by decide +kernel
theorem dX3_isAdmissible_2 : decode cX3_isAdmissible 2 = .ok (.invokestatic 69, 3) := by decide +kernel
theorem dX3_isAdmissible_5 : decode cX3_isAdmissible 5 = .ok (.istore_n 2, 1) := by decide +kernel
theorem dX3_isAdmissible_6 : decode cX3_isAdmissible 6 = .ok (.iload_n 2, 1) := by decide +kernel
theorem dX3_isAdmissible_7 : decode cX3_isAdmissible 7 = .ok (.iload_n 1, 1) := by decide +kernel
theorem dX3_isAdmissible_8 : decode cX3_isAdmissible 8 = .ok (.iand, 1) := by decide +kernel
theorem dX3_isAdmissible_9 : decode cX3_isAdmissible 9 = .ok (.ifCond .ne 16, 3) := by decide +kernel
theorem dX3_isAdmissible_12 : decode cX3_isAdmissible 12 = .ok (.aload_n 0, 1) := by decide +kernel
theorem dX3_isAdmissible_13 : decode cX3_isAdmissible 13 = .ok (.iload_n 2, 1) := by decide +kernel
theorem dX3_isAdmissible_14 : decode cX3_isAdmissible 14 = .ok (.iload_n 1, 1) := by decide +kernel
theorem dX3_isAdmissible_15 : decode cX3_isAdmissible 15 = .ok (.invokestatic 32, 3) := by decide +kernel
theorem dX3_isAdmissible_18 : decode cX3_isAdmissible 18 = .ok (.ifCond .eq 7, 3) := by decide +kernel
theorem dX3_isAdmissible_21 : decode cX3_isAdmissible 21 = .ok (.iconst 1, 1) := by decide +kernel
theorem dX3_isAdmissible_22 : decode cX3_isAdmissible 22 = .ok (.goto 4, 3) := by decide +kernel
theorem dX3_isAdmissible_25 : decode cX3_isAdmissible 25 = .ok (.iconst 0, 1) := by decide +kernel
theorem dX3_isAdmissible_26 : decode cX3_isAdmissible 26 = .ok (.ireturn, 1) := by decide +kernel
theorem dX3_countFrom_0 : decode cX3_countFrom 0 = .ok (.aload_n 0, 1) := by decide +kernel
theorem dX3_countFrom_1 : decode cX3_countFrom 1 = .ok (.iload_n 2, 1) := by decide +kernel
theorem dX3_countFrom_2 : decode cX3_countFrom 2 = .ok (.invokestatic 28, 3) := by decide +kernel
theorem dX3_countFrom_5 : decode cX3_countFrom 5 = .ok (.ifCond .eq 19, 3) := by decide +kernel
theorem dX3_countFrom_8 : decode cX3_countFrom 8 = .ok (.aload_n 0, 1) := by decide +kernel
theorem dX3_countFrom_9 : decode cX3_countFrom 9 = .ok (.iload_n 3, 1) := by decide +kernel
theorem dX3_countFrom_10 : decode cX3_countFrom 10 = .ok (.aload_n 0, 1) := by decide +kernel
theorem dX3_countFrom_11 : decode cX3_countFrom 11 = .ok (.invokevirtual 22, 3) := by decide +kernel
theorem dX3_countFrom_14 : decode cX3_countFrom 14 = .ok (.iload_n 3, 1) := by decide +kernel
theorem dX3_countFrom_15 : decode cX3_countFrom 15 = .ok (.iconst (-1), 1) := by decide +kernel
theorem dX3_countFrom_16 : decode cX3_countFrom 16 = .ok (.ixor, 1) := by decide +kernel
theorem dX3_countFrom_17 : decode cX3_countFrom 17 = .ok (.iand, 1) := by decide +kernel
theorem dX3_countFrom_18 : decode cX3_countFrom 18 = .ok (.invokestatic 32, 3) := by decide +kernel
theorem dX3_countFrom_21 : decode cX3_countFrom 21 = .ok (.ifCond .ne 7, 3) := by decide +kernel
theorem dX3_countFrom_24 : decode cX3_countFrom 24 = .ok (.iconst 1, 1) := by decide +kernel
theorem dX3_countFrom_25 : decode cX3_countFrom 25 = .ok (.goto 4, 3) := by decide +kernel
theorem dX3_countFrom_28 : decode cX3_countFrom 28 = .ok (.iconst 0, 1) := by decide +kernel
theorem dX3_countFrom_29 : decode cX3_countFrom 29 = .ok (.istore 4, 2) := by decide +kernel
theorem dX3_countFrom_31 : decode cX3_countFrom 31 = .ok (.iload 4, 2) := by decide +kernel
theorem dX3_countFrom_33 : decode cX3_countFrom 33 = .ok (.ifCond .ne 11, 3) := by decide +kernel
theorem dX3_countFrom_36 : decode cX3_countFrom 36 = .ok (.iload_n 1, 1) := by decide +kernel
theorem dX3_countFrom_37 : decode cX3_countFrom 37 = .ok (.aload_n 0, 1) := by decide +kernel
theorem dX3_countFrom_38 : decode cX3_countFrom 38 = .ok (.getfield 62, 3) := by decide +kernel
theorem dX3_countFrom_41 : decode cX3_countFrom 41 = .ok (.if_icmp .le 5, 3) := by decide +kernel
theorem dX3_countFrom_44 : decode cX3_countFrom 44 = .ok (.iconst 0, 1) := by decide +kernel
theorem dX3_countFrom_45 : decode cX3_countFrom 45 = .ok (.ireturn, 1) := by decide +kernel
theorem dX3_countFrom_46 : decode cX3_countFrom 46 = .ok (.iload_n 1, 1) := by decide +kernel
theorem dX3_countFrom_47 : decode cX3_countFrom 47 = .ok (.aload_n 0, 1) := by decide +kernel
theorem dX3_countFrom_48 : decode cX3_countFrom 48 = .ok (.getfield 62, 3) := by decide +kernel
theorem dX3_countFrom_51 : decode cX3_countFrom 51 = .ok (.if_icmp .ne 5, 3) := by decide +kernel
theorem dX3_countFrom_54 : decode cX3_countFrom 54 = .ok (.iconst 1, 1) := by decide +kernel
theorem dX3_countFrom_55 : decode cX3_countFrom 55 = .ok (.ireturn, 1) := by decide +kernel
theorem dX3_countFrom_56 : decode cX3_countFrom 56 = .ok (.aload_n 0, 1) := by decide +kernel
theorem dX3_countFrom_57 : decode cX3_countFrom 57 = .ok (.iload_n 1, 1) := by decide +kernel
theorem dX3_countFrom_58 : decode cX3_countFrom 58 = .ok (.iconst 1, 1) := by decide +kernel
theorem dX3_countFrom_59 : decode cX3_countFrom 59 = .ok (.iadd, 1) := by decide +kernel
theorem dX3_countFrom_60 : decode cX3_countFrom 60 = .ok (.iload_n 2, 1) := by decide +kernel
theorem dX3_countFrom_61 : decode cX3_countFrom 61 = .ok (.iconst 1, 1) := by decide +kernel
theorem dX3_countFrom_62 : decode cX3_countFrom 62 = .ok (.iload_n 1, 1) := by decide +kernel
theorem dX3_countFrom_63 : decode cX3_countFrom 63 = .ok (.ishl, 1) := by decide +kernel
theorem dX3_countFrom_64 : decode cX3_countFrom 64 = .ok (.ior, 1) := by decide +kernel
theorem dX3_countFrom_65 : decode cX3_countFrom 65 = .ok (.iload_n 3, 1) := by decide +kernel
theorem dX3_countFrom_66 : decode cX3_countFrom 66 = .ok (.invokestatic 36, 3) := by decide +kernel
theorem dX3_countFrom_69 : decode cX3_countFrom 69 = .ok (.aload_n 0, 1) := by decide +kernel
theorem dX3_countFrom_70 : decode cX3_countFrom 70 = .ok (.iload_n 1, 1) := by decide +kernel
theorem dX3_countFrom_71 : decode cX3_countFrom 71 = .ok (.iconst 1, 1) := by decide +kernel
theorem dX3_countFrom_72 : decode cX3_countFrom 72 = .ok (.iadd, 1) := by decide +kernel
theorem dX3_countFrom_73 : decode cX3_countFrom 73 = .ok (.iload_n 2, 1) := by decide +kernel
theorem dX3_countFrom_74 : decode cX3_countFrom 74 = .ok (.iload_n 3, 1) := by decide +kernel
theorem dX3_countFrom_75 : decode cX3_countFrom 75 = .ok (.iconst 1, 1) := by decide +kernel
theorem dX3_countFrom_76 : decode cX3_countFrom 76 = .ok (.iload_n 1, 1) := by decide +kernel
theorem dX3_countFrom_77 : decode cX3_countFrom 77 = .ok (.ishl, 1) := by decide +kernel
theorem dX3_countFrom_78 : decode cX3_countFrom 78 = .ok (.ior, 1) := by decide +kernel
theorem dX3_countFrom_79 : decode cX3_countFrom 79 = .ok (.invokestatic 36, 3) := by decide +kernel
theorem dX3_countFrom_82 : decode cX3_countFrom 82 = .ok (.iadd, 1) := by decide +kernel
theorem dX3_countFrom_83 : decode cX3_countFrom 83 = .ok (.ireturn, 1) := by decide +kernel
theorem dX4_init_0 : decode cX4_init 0 = .ok (.aload_n 0, 1) := by decide +kernel
theorem dX4_init_1 : decode cX4_init 1 = .ok (.invokespecial 3, 3) := by decide +kernel
theorem dX4_init_4 : decode cX4_init 4 = .ok (.aload_n 0, 1) := by decide +kernel
theorem dX4_init_5 : decode cX4_init 5 = .ok (.sipush 256, 3) := by decide +kernel
theorem dX4_init_8 : decode cX4_init 8 = .ok (.newarray .int, 2) := by decide +kernel
theorem dX4_init_10 : decode cX4_init 10 = .ok (.putfield 9, 3) := by decide +kernel
theorem dX4_init_13 : decode cX4_init 13 = .ok (.aload_n 0, 1) := by decide +kernel
theorem dX4_init_14 : decode cX4_init 14 = .ok (.sipush 256, 3) := by decide +kernel
theorem dX4_init_17 : decode cX4_init 17 = .ok (.newarray .int, 2) := by decide +kernel
theorem dX4_init_19 : decode cX4_init 19 = .ok (.putfield 15, 3) := by decide +kernel
theorem dX4_init_22 : decode cX4_init 22 = .ok (.return_, 1) := by decide +kernel
theorem dX4_isWonByProponent_0 : decode cX4_isWonByProponent 0 = .ok (.aload_n 0, 1) := by decide +kernel
theorem dX4_isWonByProponent_1 : decode cX4_isWonByProponent 1 = .ok (.getfield 9, 3) := by decide +kernel
theorem dX4_isWonByProponent_4 : decode cX4_isWonByProponent 4 = .ok (.iconst 0, 1) := by decide +kernel
theorem dX4_isWonByProponent_5 : decode cX4_isWonByProponent 5 = .ok (.invokestatic 18, 3) := by decide +kernel
theorem dX4_isWonByProponent_8 : decode cX4_isWonByProponent 8 = .ok (.aload_n 0, 1) := by decide +kernel
theorem dX4_isWonByProponent_9 : decode cX4_isWonByProponent 9 = .ok (.getfield 15, 3) := by decide +kernel
theorem dX4_isWonByProponent_12 : decode cX4_isWonByProponent 12 = .ok (.iconst 0, 1) := by decide +kernel
theorem dX4_isWonByProponent_13 : decode cX4_isWonByProponent 13 = .ok (.invokestatic 18, 3) := by decide +kernel
theorem dX4_isWonByProponent_16 : decode cX4_isWonByProponent 16 = .ok (.aload_n 0, 1) := by decide +kernel
theorem dX4_isWonByProponent_17 : decode cX4_isWonByProponent 17 = .ok (.aload_n 1, 1) := by decide +kernel
theorem dX4_isWonByProponent_18 : decode cX4_isWonByProponent 18 = .ok (.getfield 24, 3) := by decide +kernel
theorem dX4_isWonByProponent_21 : decode cX4_isWonByProponent 21 = .ok (.iload_n 2, 1) := by decide +kernel
theorem dX4_isWonByProponent_22 : decode cX4_isWonByProponent 22 = .ok (.iconst 1, 1) := by decide +kernel
theorem dX4_isWonByProponent_23 : decode cX4_isWonByProponent 23 = .ok (.iload_n 2, 1) := by decide +kernel
theorem dX4_isWonByProponent_24 : decode cX4_isWonByProponent 24 = .ok (.ishl, 1) := by decide +kernel
theorem dX4_isWonByProponent_25 : decode cX4_isWonByProponent 25 = .ok (.iconst 1, 1) := by decide +kernel
theorem dX4_isWonByProponent_26 : decode cX4_isWonByProponent 26 = .ok (.invokevirtual 29, 3) := by decide +kernel
theorem dX4_isWonByProponent_29 : decode cX4_isWonByProponent 29 = .ok (.ireturn, 1) := by decide +kernel
theorem dX4_holds_0 : decode cX4_holds 0 = .ok (.iload 4, 2) := by decide +kernel
theorem dX4_holds_2 : decode cX4_holds 2 = .ok (.bipush 8, 2) := by decide +kernel
theorem dX4_holds_4 : decode cX4_holds 4 = .ok (.if_icmp .gt 16, 3) := by decide +kernel
theorem dX4_holds_7 : decode cX4_holds 7 = .ok (.aload_n 0, 1) := by decide +kernel
theorem dX4_holds_8 : decode cX4_holds 8 = .ok (.getfield 15, 3) := by decide +kernel
theorem dX4_holds_11 : decode cX4_holds 11 = .ok (.iload_n 3, 1) := by decide +kernel
theorem dX4_holds_12 : decode cX4_holds 12 = .ok (.iaload, 1) := by decide +kernel
theorem dX4_holds_13 : decode cX4_holds 13 = .ok (.iload_n 2, 1) := by decide +kernel
theorem dX4_holds_14 : decode cX4_holds 14 = .ok (.invokestatic 33, 3) := by decide +kernel
theorem dX4_holds_17 : decode cX4_holds 17 = .ok (.ifCond .eq 5, 3) := by decide +kernel
theorem dX4_holds_20 : decode cX4_holds 20 = .ok (.iconst 0, 1) := by decide +kernel
theorem dX4_holds_21 : decode cX4_holds 21 = .ok (.ireturn, 1) := by decide +kernel
theorem dX4_holds_22 : decode cX4_holds 22 = .ok (.aload_n 0, 1) := by decide +kernel
theorem dX4_holds_23 : decode cX4_holds 23 = .ok (.getfield 9, 3) := by decide +kernel
theorem dX4_holds_26 : decode cX4_holds 26 = .ok (.iload_n 3, 1) := by decide +kernel
theorem dX4_holds_27 : decode cX4_holds 27 = .ok (.iaload, 1) := by decide +kernel
theorem dX4_holds_28 : decode cX4_holds 28 = .ok (.iload_n 2, 1) := by decide +kernel
theorem dX4_holds_29 : decode cX4_holds 29 = .ok (.invokestatic 33, 3) := by decide +kernel
theorem dX4_holds_32 : decode cX4_holds 32 = .ok (.ifCond .eq 5, 3) := by decide +kernel
theorem dX4_holds_35 : decode cX4_holds 35 = .ok (.iconst 1, 1) := by decide +kernel
theorem dX4_holds_36 : decode cX4_holds 36 = .ok (.ireturn, 1) := by decide +kernel
theorem dX4_holds_37 : decode cX4_holds 37 = .ok (.iconst 0, 1) := by decide +kernel
theorem dX4_holds_38 : decode cX4_holds 38 = .ok (.istore 5, 2) := by decide +kernel
theorem dX4_holds_40 : decode cX4_holds 40 = .ok (.iload 5, 2) := by decide +kernel
theorem dX4_holds_42 : decode cX4_holds 42 = .ok (.bipush 8, 2) := by decide +kernel
theorem dX4_holds_44 : decode cX4_holds 44 = .ok (.if_icmp .ge 47, 3) := by decide +kernel
theorem dX4_holds_47 : decode cX4_holds 47 = .ok (.aload_n 1, 1) := by decide +kernel
theorem dX4_holds_48 : decode cX4_holds 48 = .ok (.iload_n 2, 1) := by decide +kernel
theorem dX4_holds_49 : decode cX4_holds 49 = .ok (.iaload, 1) := by decide +kernel
theorem dX4_holds_50 : decode cX4_holds 50 = .ok (.iload 5, 2) := by decide +kernel
theorem dX4_holds_52 : decode cX4_holds 52 = .ok (.invokestatic 33, 3) := by decide +kernel
theorem dX4_holds_55 : decode cX4_holds 55 = .ok (.ifCond .eq 30, 3) := by decide +kernel
theorem dX4_holds_58 : decode cX4_holds 58 = .ok (.aload_n 0, 1) := by decide +kernel
theorem dX4_holds_59 : decode cX4_holds 59 = .ok (.aload_n 1, 1) := by decide +kernel
theorem dX4_holds_60 : decode cX4_holds 60 = .ok (.iload 5, 2) := by decide +kernel
theorem dX4_holds_62 : decode cX4_holds 62 = .ok (.iload_n 3, 1) := by decide +kernel
theorem dX4_holds_63 : decode cX4_holds 63 = .ok (.iload 4, 2) := by decide +kernel
theorem dX4_holds_65 : decode cX4_holds 65 = .ok (.invokevirtual 37, 3) := by decide +kernel
theorem dX4_holds_68 : decode cX4_holds 68 = .ok (.ifCond .ne 17, 3) := by decide +kernel
theorem dX4_holds_71 : decode cX4_holds 71 = .ok (.aload_n 0, 1) := by decide +kernel
theorem dX4_holds_72 : decode cX4_holds 72 = .ok (.getfield 15, 3) := by decide +kernel
theorem dX4_holds_75 : decode cX4_holds 75 = .ok (.iload_n 3, 1) := by decide +kernel
theorem dX4_holds_76 : decode cX4_holds 76 = .ok (.dup2, 1) := by decide +kernel
theorem dX4_holds_77 : decode cX4_holds 77 = .ok (.iaload, 1) := by decide +kernel
theorem dX4_holds_78 : decode cX4_holds 78 = .ok (.iconst 1, 1) := by decide +kernel
theorem dX4_holds_79 : decode cX4_holds 79 = .ok (.iload_n 2, 1) := by decide +kernel
theorem dX4_holds_80 : decode cX4_holds 80 = .ok (.ishl, 1) := by decide +kernel
theorem dX4_holds_81 : decode cX4_holds 81 = .ok (.ior, 1) := by decide +kernel
theorem dX4_holds_82 : decode cX4_holds 82 = .ok (.iastore, 1) := by decide +kernel
theorem dX4_holds_83 : decode cX4_holds 83 = .ok (.iconst 0, 1) := by decide +kernel
theorem dX4_holds_84 : decode cX4_holds 84 = .ok (.ireturn, 1) := by decide +kernel
theorem dX4_holds_85 : decode cX4_holds 85 = .ok (.iinc 5 1, 3) := by decide +kernel
theorem dX4_holds_88 : decode cX4_holds 88 = .ok (.goto (-48), 3) := by decide +kernel
theorem dX4_holds_91 : decode cX4_holds 91 = .ok (.aload_n 0, 1) := by decide +kernel
theorem dX4_holds_92 : decode cX4_holds 92 = .ok (.getfield 9, 3) := by decide +kernel
theorem dX4_holds_95 : decode cX4_holds 95 = .ok (.iload_n 3, 1) := by decide +kernel
theorem dX4_holds_96 : decode cX4_holds 96 = .ok (.dup2, 1) := by decide +kernel
theorem dX4_holds_97 : decode cX4_holds 97 = .ok (.iaload, 1) := by decide +kernel
theorem dX4_holds_98 : decode cX4_holds 98 = .ok (.iconst 1, 1) := by decide +kernel
theorem dX4_holds_99 : decode cX4_holds 99 = .ok (.iload_n 2, 1) := by decide +kernel
theorem dX4_holds_100 : decode cX4_holds 100 = .ok (.ishl, 1) := by decide +kernel
theorem dX4_holds_101 : decode cX4_holds 101 = .ok (.ior, 1) := by decide +kernel
theorem dX4_holds_102 : decode cX4_holds 102 = .ok (.iastore, 1) := by decide +kernel
theorem dX4_holds_103 : decode cX4_holds 103 = .ok (.iconst 1, 1) := by decide +kernel
theorem dX4_holds_104 : decode cX4_holds 104 = .ok (.ireturn, 1) := by decide +kernel
theorem dX4_isAnswered_0 : decode cX4_isAnswered 0 = .ok (.aload_n 1, 1) := by decide +kernel
theorem dX4_isAnswered_1 : decode cX4_isAnswered 1 = .ok (.iload_n 2, 1) := by decide +kernel
theorem dX4_isAnswered_2 : decode cX4_isAnswered 2 = .ok (.iaload, 1) := by decide +kernel
theorem dX4_isAnswered_3 : decode cX4_isAnswered 3 = .ok (.iload_n 3, 1) := by decide +kernel
theorem dX4_isAnswered_4 : decode cX4_isAnswered 4 = .ok (.iconst (-1), 1) := by decide +kernel
theorem dX4_isAnswered_5 : decode cX4_isAnswered 5 = .ok (.ixor, 1) := by decide +kernel
theorem dX4_isAnswered_6 : decode cX4_isAnswered 6 = .ok (.iand, 1) := by decide +kernel
theorem dX4_isAnswered_7 : decode cX4_isAnswered 7 = .ok (.istore 5, 2) := by decide +kernel
theorem dX4_isAnswered_9 : decode cX4_isAnswered 9 = .ok (.iconst 0, 1) := by decide +kernel
theorem dX4_isAnswered_10 : decode cX4_isAnswered 10 = .ok (.istore 6, 2) := by decide +kernel
theorem dX4_isAnswered_12 : decode cX4_isAnswered 12 = .ok (.iload 6, 2) := by decide +kernel
theorem dX4_isAnswered_14 : decode cX4_isAnswered 14 = .ok (.bipush 8, 2) := by decide +kernel
theorem dX4_isAnswered_16 : decode cX4_isAnswered 16 = .ok (.if_icmp .ge 41, 3) := by decide +kernel
theorem dX4_isAnswered_19 : decode cX4_isAnswered 19 = .ok (.iload 5, 2) := by decide +kernel
theorem dX4_isAnswered_21 : decode cX4_isAnswered 21 = .ok (.iload 6, 2) := by decide +kernel
theorem dX4_isAnswered_23 : decode cX4_isAnswered 23 = .ok (.invokestatic 33, 3) := by decide +kernel
theorem dX4_isAnswered_26 : decode cX4_isAnswered 26 = .ok (.ifCond .eq 25, 3) := by decide +kernel
theorem dX4_isAnswered_29 : decode cX4_isAnswered 29 = .ok (.aload_n 0, 1) := by decide +kernel
theorem dX4_isAnswered_30 : decode cX4_isAnswered 30 = .ok (.aload_n 1, 1) := by decide +kernel
theorem dX4_isAnswered_31 : decode cX4_isAnswered 31 = .ok (.iload 6, 2) := by decide +kernel
theorem dX4_isAnswered_33 : decode cX4_isAnswered 33 = .ok (.iload_n 3, 1) := by decide +kernel
theorem dX4_isAnswered_34 : decode cX4_isAnswered 34 = .ok (.iconst 1, 1) := by decide +kernel
theorem dX4_isAnswered_35 : decode cX4_isAnswered 35 = .ok (.iload 6, 2) := by decide +kernel
theorem dX4_isAnswered_37 : decode cX4_isAnswered 37 = .ok (.ishl, 1) := by decide +kernel
theorem dX4_isAnswered_38 : decode cX4_isAnswered 38 = .ok (.ior, 1) := by decide +kernel
theorem dX4_isAnswered_39 : decode cX4_isAnswered 39 = .ok (.iload 4, 2) := by decide +kernel
theorem dX4_isAnswered_41 : decode cX4_isAnswered 41 = .ok (.iconst 1, 1) := by decide +kernel
theorem dX4_isAnswered_42 : decode cX4_isAnswered 42 = .ok (.iadd, 1) := by decide +kernel
theorem dX4_isAnswered_43 : decode cX4_isAnswered 43 = .ok (.invokevirtual 29, 3) := by decide +kernel
theorem dX4_isAnswered_46 : decode cX4_isAnswered 46 = .ok (.ifCond .eq 5, 3) := by decide +kernel
theorem dX4_isAnswered_49 : decode cX4_isAnswered 49 = .ok (.iconst 1, 1) := by decide +kernel
theorem dX4_isAnswered_50 : decode cX4_isAnswered 50 = .ok (.ireturn, 1) := by decide +kernel
theorem dX4_isAnswered_51 : decode cX4_isAnswered 51 = .ok (.iinc 6 1, 3) := by decide +kernel
theorem dX4_isAnswered_54 : decode cX4_isAnswered 54 = .ok (.goto (-42), 3) := by decide +kernel
theorem dX4_isAnswered_57 : decode cX4_isAnswered 57 = .ok (.iconst 0, 1) := by decide +kernel
theorem dX4_isAnswered_58 : decode cX4_isAnswered 58 = .ok (.ireturn, 1) := by decide +kernel
theorem dX5_init_0 : decode cX5_init 0 = .ok (.aload_n 0, 1) := by decide +kernel
theorem dX5_init_1 : decode cX5_init 1 = .ok (.invokespecial 3, 3) := by decide +kernel
theorem dX5_init_4 : decode cX5_init 4 = .ok (.aload_n 0, 1) := by decide +kernel
theorem dX5_init_5 : decode cX5_init 5 = .ok (.bipush 9, 2) := by decide +kernel
theorem dX5_init_7 : decode cX5_init 7 = .ok (.anewarray 9, 3) := by decide +kernel
theorem dX5_init_10 : decode cX5_init 10 = .ok (.putfield 11, 3) := by decide +kernel
theorem dX5_init_13 : decode cX5_init 13 = .ok (.aload_n 0, 1) := by decide +kernel
theorem dX5_init_14 : decode cX5_init 14 = .ok (.iconst 0, 1) := by decide +kernel
theorem dX5_init_15 : decode cX5_init 15 = .ok (.putfield 17, 3) := by decide +kernel
theorem dX5_init_18 : decode cX5_init 18 = .ok (.aload_n 0, 1) := by decide +kernel
theorem dX5_init_19 : decode cX5_init 19 = .ok (.iconst 0, 1) := by decide +kernel
theorem dX5_init_20 : decode cX5_init 20 = .ok (.putfield 21, 3) := by decide +kernel
theorem dX5_init_23 : decode cX5_init 23 = .ok (.iconst 0, 1) := by decide +kernel
theorem dX5_init_24 : decode cX5_init 24 = .ok (.istore_n 1, 1) := by decide +kernel
theorem dX5_init_25 : decode cX5_init 25 = .ok (.iload_n 1, 1) := by decide +kernel
theorem dX5_init_26 : decode cX5_init 26 = .ok (.bipush 8, 2) := by decide +kernel
theorem dX5_init_28 : decode cX5_init 28 = .ok (.if_icmp .gt 22, 3) := by decide +kernel
theorem dX5_init_31 : decode cX5_init 31 = .ok (.aload_n 0, 1) := by decide +kernel
theorem dX5_init_32 : decode cX5_init 32 = .ok (.getfield 11, 3) := by decide +kernel
theorem dX5_init_35 : decode cX5_init 35 = .ok (.iload_n 1, 1) := by decide +kernel
theorem dX5_init_36 : decode cX5_init 36 = .ok (.new 9, 3) := by decide +kernel
theorem dX5_init_39 : decode cX5_init 39 = .ok (.dup, 1) := by decide +kernel
theorem dX5_init_40 : decode cX5_init 40 = .ok (.invokespecial 24, 3) := by decide +kernel
theorem dX5_init_43 : decode cX5_init 43 = .ok (.aastore, 1) := by decide +kernel
theorem dX5_init_44 : decode cX5_init 44 = .ok (.iinc 1 1, 3) := by decide +kernel
theorem dX5_init_47 : decode cX5_init 47 = .ok (.goto (-22), 3) := by decide +kernel
theorem dX5_init_50 : decode cX5_init 50 = .ok (.return_, 1) := by decide +kernel
theorem dX5_draft_0 : decode cX5_draft 0 = .ok (.aload_n 0, 1) := by decide +kernel
theorem dX5_draft_1 : decode cX5_draft 1 = .ok (.getfield 11, 3) := by decide +kernel
theorem dX5_draft_4 : decode cX5_draft 4 = .ok (.aload_n 0, 1) := by decide +kernel
theorem dX5_draft_5 : decode cX5_draft 5 = .ok (.getfield 17, 3) := by decide +kernel
theorem dX5_draft_8 : decode cX5_draft 8 = .ok (.aaload, 1) := by decide +kernel
theorem dX5_draft_9 : decode cX5_draft 9 = .ok (.areturn, 1) := by decide +kernel
theorem dX5_begin_0 : decode cX5_begin 0 = .ok (.aload_n 0, 1) := by decide +kernel
theorem dX5_begin_1 : decode cX5_begin 1 = .ok (.invokevirtual 25, 3) := by decide +kernel
theorem dX5_begin_4 : decode cX5_begin 4 = .ok (.aload_n 1, 1) := by decide +kernel
theorem dX5_begin_5 : decode cX5_begin 5 = .ok (.invokevirtual 29, 3) := by decide +kernel
theorem dX5_begin_8 : decode cX5_begin 8 = .ok (.return_, 1) := by decide +kernel
theorem dX5_keep_0 : decode cX5_keep 0 = .ok (.aload_n 0, 1) := by decide +kernel
theorem dX5_keep_1 : decode cX5_keep 1 = .ok (.aload_n 0, 1) := by decide +kernel
theorem dX5_keep_2 : decode cX5_keep 2 = .ok (.getfield 17, 3) := by decide +kernel
theorem dX5_keep_5 : decode cX5_keep 5 = .ok (.bipush 8, 2) := by decide +kernel
theorem dX5_keep_7 : decode cX5_keep 7 = .ok (.if_icmp .ne 7, 3) := by decide +kernel
theorem dX5_keep_10 : decode cX5_keep 10 = .ok (.iconst 0, 1) := by decide +kernel
theorem dX5_keep_11 : decode cX5_keep 11 = .ok (.goto 9, 3) := by decide +kernel
theorem dX5_keep_14 : decode cX5_keep 14 = .ok (.aload_n 0, 1) := by decide +kernel
theorem dX5_keep_15 : decode cX5_keep 15 = .ok (.getfield 17, 3) := by decide +kernel
theorem dX5_keep_18 : decode cX5_keep 18 = .ok (.iconst 1, 1) := by decide +kernel
theorem dX5_keep_19 : decode cX5_keep 19 = .ok (.iadd, 1) := by decide +kernel
theorem dX5_keep_20 : decode cX5_keep 20 = .ok (.putfield 17, 3) := by decide +kernel
theorem dX5_keep_23 : decode cX5_keep 23 = .ok (.aload_n 0, 1) := by decide +kernel
theorem dX5_keep_24 : decode cX5_keep 24 = .ok (.bipush 8, 2) := by decide +kernel
theorem dX5_keep_26 : decode cX5_keep 26 = .ok (.aload_n 0, 1) := by decide +kernel
theorem dX5_keep_27 : decode cX5_keep 27 = .ok (.getfield 21, 3) := by decide +kernel
theorem dX5_keep_30 : decode cX5_keep 30 = .ok (.iconst 1, 1) := by decide +kernel
theorem dX5_keep_31 : decode cX5_keep 31 = .ok (.iadd, 1) := by decide +kernel
theorem dX5_keep_32 : decode cX5_keep 32 = .ok (.invokestatic 33, 3) := by decide +kernel
theorem dX5_keep_35 : decode cX5_keep 35 = .ok (.putfield 21, 3) := by decide +kernel
theorem dX5_keep_38 : decode cX5_keep 38 = .ok (.return_, 1) := by decide +kernel
theorem dX5_takeLatest_0 : decode cX5_takeLatest 0 = .ok (.aload_n 0, 1) := by decide +kernel
theorem dX5_takeLatest_1 : decode cX5_takeLatest 1 = .ok (.aload_n 0, 1) := by decide +kernel
theorem dX5_takeLatest_2 : decode cX5_takeLatest 2 = .ok (.getfield 17, 3) := by decide +kernel
theorem dX5_takeLatest_5 : decode cX5_takeLatest 5 = .ok (.ifCond .ne 8, 3) := by decide +kernel
theorem dX5_takeLatest_8 : decode cX5_takeLatest 8 = .ok (.bipush 8, 2) := by decide +kernel
theorem dX5_takeLatest_10 : decode cX5_takeLatest 10 = .ok (.goto 9, 3) := by decide +kernel
theorem dX5_takeLatest_13 : decode cX5_takeLatest 13 = .ok (.aload_n 0, 1) := by decide +kernel
theorem dX5_takeLatest_14 : decode cX5_takeLatest 14 = .ok (.getfield 17, 3) := by decide +kernel
theorem dX5_takeLatest_17 : decode cX5_takeLatest 17 = .ok (.iconst 1, 1) := by decide +kernel
theorem dX5_takeLatest_18 : decode cX5_takeLatest 18 = .ok (.isub, 1) := by decide +kernel
theorem dX5_takeLatest_19 : decode cX5_takeLatest 19 = .ok (.putfield 17, 3) := by decide +kernel
theorem dX5_takeLatest_22 : decode cX5_takeLatest 22 = .ok (.aload_n 0, 1) := by decide +kernel
theorem dX5_takeLatest_23 : decode cX5_takeLatest 23 = .ok (.dup, 1) := by decide +kernel
theorem dX5_takeLatest_24 : decode cX5_takeLatest 24 = .ok (.getfield 21, 3) := by decide +kernel
theorem dX5_takeLatest_27 : decode cX5_takeLatest 27 = .ok (.iconst 1, 1) := by decide +kernel
theorem dX5_takeLatest_28 : decode cX5_takeLatest 28 = .ok (.isub, 1) := by decide +kernel
theorem dX5_takeLatest_29 : decode cX5_takeLatest 29 = .ok (.putfield 21, 3) := by decide +kernel
theorem dX5_takeLatest_32 : decode cX5_takeLatest 32 = .ok (.aload_n 0, 1) := by decide +kernel
theorem dX5_takeLatest_33 : decode cX5_takeLatest 33 = .ok (.invokevirtual 25, 3) := by decide +kernel
theorem dX5_takeLatest_36 : decode cX5_takeLatest 36 = .ok (.areturn, 1) := by decide +kernel
theorem dX5_forget_0 : decode cX5_forget 0 = .ok (.aload_n 0, 1) := by decide +kernel
theorem dX5_forget_1 : decode cX5_forget 1 = .ok (.iconst 0, 1) := by decide +kernel
theorem dX5_forget_2 : decode cX5_forget 2 = .ok (.putfield 21, 3) := by decide +kernel
theorem dX5_forget_5 : decode cX5_forget 5 = .ok (.return_, 1) := by decide +kernel
theorem dX6_init_0 : decode cX6_init 0 = .ok (.aload_n 0, 1) := by decide +kernel
theorem dX6_init_1 : decode cX6_init 1 = .ok (.invokespecial 3, 3) := by decide +kernel
theorem dX6_init_4 : decode cX6_init 4 = .ok (.aload_n 0, 1) := by decide +kernel
theorem dX6_init_5 : decode cX6_init 5 = .ok (.bipush 8, 2) := by decide +kernel
theorem dX6_init_7 : decode cX6_init 7 = .ok (.newarray .int, 2) := by decide +kernel
theorem dX6_init_9 : decode cX6_init 9 = .ok (.putfield 9, 3) := by decide +kernel
theorem dX6_init_12 : decode cX6_init 12 = .ok (.aload_n 0, 1) := by decide +kernel
theorem dX6_init_13 : decode cX6_init 13 = .ok (.iconst 0, 1) := by decide +kernel
theorem dX6_init_14 : decode cX6_init 14 = .ok (.putfield 15, 3) := by decide +kernel
theorem dX6_init_17 : decode cX6_init 17 = .ok (.aload_n 0, 1) := by decide +kernel
theorem dX6_init_18 : decode cX6_init 18 = .ok (.iconst 0, 1) := by decide +kernel
theorem dX6_init_19 : decode cX6_init 19 = .ok (.putfield 19, 3) := by decide +kernel
theorem dX6_init_22 : decode cX6_init 22 = .ok (.return_, 1) := by decide +kernel
theorem dX6_give_0 : decode cX6_give 0 = .ok (.aload_n 0, 1) := by decide +kernel
theorem dX6_give_1 : decode cX6_give 1 = .ok (.iconst 0, 1) := by decide +kernel
theorem dX6_give_2 : decode cX6_give 2 = .ok (.putfield 15, 3) := by decide +kernel
theorem dX6_give_5 : decode cX6_give 5 = .ok (.aload_n 0, 1) := by decide +kernel
theorem dX6_give_6 : decode cX6_give 6 = .ok (.iconst 0, 1) := by decide +kernel
theorem dX6_give_7 : decode cX6_give 7 = .ok (.putfield 19, 3) := by decide +kernel
theorem dX6_give_10 : decode cX6_give 10 = .ok (.iconst 1, 1) := by decide +kernel
theorem dX6_give_11 : decode cX6_give 11 = .ok (.istore_n 2, 1) := by decide +kernel
theorem dX6_give_12 : decode cX6_give 12 = .ok (.iconst 1, 1) := by decide +kernel
theorem dX6_give_13 : decode cX6_give 13 = .ok (.istore_n 3, 1) := by decide +kernel
theorem dX6_give_14 : decode cX6_give 14 = .ok (.iload_n 2, 1) := by decide +kernel
theorem dX6_give_15 : decode cX6_give 15 = .ok (.ifCond .eq 88, 3) := by decide +kernel
theorem dX6_give_18 : decode cX6_give 18 = .ok (.iload_n 3, 1) := by decide +kernel
theorem dX6_give_19 : decode cX6_give 19 = .ok (.bipush 8, 2) := by decide +kernel
theorem dX6_give_21 : decode cX6_give 21 = .ok (.if_icmp .gt 82, 3) := by decide +kernel
theorem dX6_give_24 : decode cX6_give 24 = .ok (.aload_n 0, 1) := by decide +kernel
theorem dX6_give_25 : decode cX6_give 25 = .ok (.getfield 15, 3) := by decide +kernel
theorem dX6_give_28 : decode cX6_give 28 = .ok (.aload_n 0, 1) := by decide +kernel
theorem dX6_give_29 : decode cX6_give 29 = .ok (.getfield 19, 3) := by decide +kernel
theorem dX6_give_32 : decode cX6_give 32 = .ok (.ior, 1) := by decide +kernel
theorem dX6_give_33 : decode cX6_give 33 = .ok (.istore 4, 2) := by decide +kernel
theorem dX6_give_35 : decode cX6_give 35 = .ok (.aload_n 0, 1) := by decide +kernel
theorem dX6_give_36 : decode cX6_give 36 = .ok (.dup, 1) := by decide +kernel
theorem dX6_give_37 : decode cX6_give 37 = .ok (.getfield 15, 3) := by decide +kernel
theorem dX6_give_40 : decode cX6_give 40 = .ok (.aload_n 0, 1) := by decide +kernel
theorem dX6_give_41 : decode cX6_give 41 = .ok (.aload_n 1, 1) := by decide +kernel
theorem dX6_give_42 : decode cX6_give 42 = .ok (.invokevirtual 22, 3) := by decide +kernel
theorem dX6_give_45 : decode cX6_give 45 = .ok (.ior, 1) := by decide +kernel
theorem dX6_give_46 : decode cX6_give 46 = .ok (.putfield 15, 3) := by decide +kernel
theorem dX6_give_49 : decode cX6_give 49 = .ok (.aload_n 0, 1) := by decide +kernel
theorem dX6_give_50 : decode cX6_give 50 = .ok (.dup, 1) := by decide +kernel
theorem dX6_give_51 : decode cX6_give 51 = .ok (.getfield 19, 3) := by decide +kernel
theorem dX6_give_54 : decode cX6_give 54 = .ok (.aload_n 0, 1) := by decide +kernel
theorem dX6_give_55 : decode cX6_give 55 = .ok (.aload_n 1, 1) := by decide +kernel
theorem dX6_give_56 : decode cX6_give 56 = .ok (.invokevirtual 26, 3) := by decide +kernel
theorem dX6_give_59 : decode cX6_give 59 = .ok (.ior, 1) := by decide +kernel
theorem dX6_give_60 : decode cX6_give 60 = .ok (.putfield 19, 3) := by decide +kernel
theorem dX6_give_63 : decode cX6_give 63 = .ok (.aload_n 0, 1) := by decide +kernel
theorem dX6_give_64 : decode cX6_give 64 = .ok (.getfield 15, 3) := by decide +kernel
theorem dX6_give_67 : decode cX6_give 67 = .ok (.aload_n 0, 1) := by decide +kernel
theorem dX6_give_68 : decode cX6_give 68 = .ok (.getfield 19, 3) := by decide +kernel
theorem dX6_give_71 : decode cX6_give 71 = .ok (.ior, 1) := by decide +kernel
theorem dX6_give_72 : decode cX6_give 72 = .ok (.iload 4, 2) := by decide +kernel
theorem dX6_give_74 : decode cX6_give 74 = .ok (.iconst (-1), 1) := by decide +kernel
theorem dX6_give_75 : decode cX6_give 75 = .ok (.ixor, 1) := by decide +kernel
theorem dX6_give_76 : decode cX6_give 76 = .ok (.iand, 1) := by decide +kernel
theorem dX6_give_77 : decode cX6_give 77 = .ok (.istore 5, 2) := by decide +kernel
theorem dX6_give_79 : decode cX6_give 79 = .ok (.aload_n 0, 1) := by decide +kernel
theorem dX6_give_80 : decode cX6_give 80 = .ok (.iload 5, 2) := by decide +kernel
theorem dX6_give_82 : decode cX6_give 82 = .ok (.iload_n 3, 1) := by decide +kernel
theorem dX6_give_83 : decode cX6_give 83 = .ok (.invokevirtual 29, 3) := by decide +kernel
theorem dX6_give_86 : decode cX6_give 86 = .ok (.iload 5, 2) := by decide +kernel
theorem dX6_give_88 : decode cX6_give 88 = .ok (.ifCond .eq 7, 3) := by decide +kernel
theorem dX6_give_91 : decode cX6_give 91 = .ok (.iconst 1, 1) := by decide +kernel
theorem dX6_give_92 : decode cX6_give 92 = .ok (.goto 4, 3) := by decide +kernel
theorem dX6_give_95 : decode cX6_give 95 = .ok (.iconst 0, 1) := by decide +kernel
theorem dX6_give_96 : decode cX6_give 96 = .ok (.istore_n 2, 1) := by decide +kernel
theorem dX6_give_97 : decode cX6_give 97 = .ok (.iinc 3 1, 3) := by decide +kernel
theorem dX6_give_100 : decode cX6_give 100 = .ok (.goto (-86), 3) := by decide +kernel
theorem dX6_give_103 : decode cX6_give 103 = .ok (.return_, 1) := by decide +kernel
theorem dX6_letter_0 : decode cX6_letter 0 = .ok (.aload_n 0, 1) := by decide +kernel
theorem dX6_letter_1 : decode cX6_letter 1 = .ok (.getfield 15, 3) := by decide +kernel
theorem dX6_letter_4 : decode cX6_letter 4 = .ok (.iload_n 1, 1) := by decide +kernel
theorem dX6_letter_5 : decode cX6_letter 5 = .ok (.invokestatic 33, 3) := by decide +kernel
theorem dX6_letter_8 : decode cX6_letter 8 = .ok (.ifCond .eq 6, 3) := by decide +kernel
theorem dX6_letter_11 : decode cX6_letter 11 = .ok (.bipush 97, 2) := by decide +kernel
theorem dX6_letter_13 : decode cX6_letter 13 = .ok (.ireturn, 1) := by decide +kernel
theorem dX6_letter_14 : decode cX6_letter 14 = .ok (.aload_n 0, 1) := by decide +kernel
theorem dX6_letter_15 : decode cX6_letter 15 = .ok (.getfield 19, 3) := by decide +kernel
theorem dX6_letter_18 : decode cX6_letter 18 = .ok (.iload_n 1, 1) := by decide +kernel
theorem dX6_letter_19 : decode cX6_letter 19 = .ok (.invokestatic 33, 3) := by decide +kernel
theorem dX6_letter_22 : decode cX6_letter 22 = .ok (.ifCond .eq 8, 3) := by decide +kernel
theorem dX6_letter_25 : decode cX6_letter 25 = .ok (.bipush 114, 2) := by decide +kernel
theorem dX6_letter_27 : decode cX6_letter 27 = .ok (.goto 5, 3) := by decide +kernel
theorem dX6_letter_30 : decode cX6_letter 30 = .ok (.bipush 117, 2) := by decide +kernel
theorem dX6_letter_32 : decode cX6_letter 32 = .ok (.ireturn, 1) := by decide +kernel
theorem dX6_findAcceptable_0 : decode cX6_findAcceptable 0 = .ok (.iconst 0, 1) := by decide +kernel
theorem dX6_findAcceptable_1 : decode cX6_findAcceptable 1 = .ok (.istore_n 2, 1) := by decide +kernel
theorem dX6_findAcceptable_2 : decode cX6_findAcceptable 2 = .ok (.iconst 0, 1) := by decide +kernel
theorem dX6_findAcceptable_3 : decode cX6_findAcceptable 3 = .ok (.istore_n 3, 1) := by decide +kernel
theorem dX6_findAcceptable_4 : decode cX6_findAcceptable 4 = .ok (.iload_n 3, 1) := by decide +kernel
theorem dX6_findAcceptable_5 : decode cX6_findAcceptable 5 = .ok (.aload_n 1, 1) := by decide +kernel
theorem dX6_findAcceptable_6 : decode cX6_findAcceptable 6 = .ok (.getfield 37, 3) := by decide +kernel
theorem dX6_findAcceptable_9 : decode cX6_findAcceptable 9 = .ok (.if_icmp .ge 41, 3) := by decide +kernel
theorem dX6_findAcceptable_12 : decode cX6_findAcceptable 12 = .ok (.aload_n 0, 1) := by decide +kernel
theorem dX6_findAcceptable_13 : decode cX6_findAcceptable 13 = .ok (.iload_n 3, 1) := by decide +kernel
theorem dX6_findAcceptable_14 : decode cX6_findAcceptable 14 = .ok (.invokevirtual 42, 3) := by decide +kernel
theorem dX6_findAcceptable_17 : decode cX6_findAcceptable 17 = .ok (.bipush 117, 2) := by decide +kernel
theorem dX6_findAcceptable_19 : decode cX6_findAcceptable 19 = .ok (.if_icmp .ne 25, 3) := by decide +kernel
theorem dX6_findAcceptable_22 : decode cX6_findAcceptable 22 = .ok (.aload_n 1, 1) := by decide +kernel
theorem dX6_findAcceptable_23 : decode cX6_findAcceptable 23 = .ok (.getfield 46, 3) := by decide +kernel
theorem dX6_findAcceptable_26 : decode cX6_findAcceptable 26 = .ok (.iload_n 3, 1) := by decide +kernel
theorem dX6_findAcceptable_27 : decode cX6_findAcceptable 27 = .ok (.iaload, 1) := by decide +kernel
theorem dX6_findAcceptable_28 : decode cX6_findAcceptable 28 = .ok (.aload_n 0, 1) := by decide +kernel
theorem dX6_findAcceptable_29 : decode cX6_findAcceptable 29 = .ok (.getfield 19, 3) := by decide +kernel
theorem dX6_findAcceptable_32 : decode cX6_findAcceptable 32 = .ok (.iconst (-1), 1) := by decide +kernel
theorem dX6_findAcceptable_33 : decode cX6_findAcceptable 33 = .ok (.ixor, 1) := by decide +kernel
theorem dX6_findAcceptable_34 : decode cX6_findAcceptable 34 = .ok (.iand, 1) := by decide +kernel
theorem dX6_findAcceptable_35 : decode cX6_findAcceptable 35 = .ok (.ifCond .ne 9, 3) := by decide +kernel
theorem dX6_findAcceptable_38 : decode cX6_findAcceptable 38 = .ok (.iload_n 2, 1) := by decide +kernel
theorem dX6_findAcceptable_39 : decode cX6_findAcceptable 39 = .ok (.iconst 1, 1) := by decide +kernel
theorem dX6_findAcceptable_40 : decode cX6_findAcceptable 40 = .ok (.iload_n 3, 1) := by decide +kernel
theorem dX6_findAcceptable_41 : decode cX6_findAcceptable 41 = .ok (.ishl, 1) := by decide +kernel
theorem dX6_findAcceptable_42 : decode cX6_findAcceptable 42 = .ok (.ior, 1) := by decide +kernel
theorem dX6_findAcceptable_43 : decode cX6_findAcceptable 43 = .ok (.istore_n 2, 1) := by decide +kernel
theorem dX6_findAcceptable_44 : decode cX6_findAcceptable 44 = .ok (.iinc 3 1, 3) := by decide +kernel
theorem dX6_findAcceptable_47 : decode cX6_findAcceptable 47 = .ok (.goto (-43), 3) := by decide +kernel
theorem dX6_findAcceptable_50 : decode cX6_findAcceptable 50 = .ok (.iload_n 2, 1) := by decide +kernel
theorem dX6_findAcceptable_51 : decode cX6_findAcceptable 51 = .ok (.ireturn, 1) := by decide +kernel
theorem dX6_findRejectable_0 : decode cX6_findRejectable 0 = .ok (.iconst 0, 1) := by decide +kernel
theorem dX6_findRejectable_1 : decode cX6_findRejectable 1 = .ok (.istore_n 2, 1) := by decide +kernel
theorem dX6_findRejectable_2 : decode cX6_findRejectable 2 = .ok (.iconst 0, 1) := by decide +kernel
theorem dX6_findRejectable_3 : decode cX6_findRejectable 3 = .ok (.istore_n 3, 1) := by decide +kernel
theorem dX6_findRejectable_4 : decode cX6_findRejectable 4 = .ok (.iload_n 3, 1) := by decide +kernel
theorem dX6_findRejectable_5 : decode cX6_findRejectable 5 = .ok (.aload_n 1, 1) := by decide +kernel
theorem dX6_findRejectable_6 : decode cX6_findRejectable 6 = .ok (.getfield 37, 3) := by decide +kernel
theorem dX6_findRejectable_9 : decode cX6_findRejectable 9 = .ok (.if_icmp .ge 39, 3) := by decide +kernel
theorem dX6_findRejectable_12 : decode cX6_findRejectable 12 = .ok (.aload_n 0, 1) := by decide +kernel
theorem dX6_findRejectable_13 : decode cX6_findRejectable 13 = .ok (.iload_n 3, 1) := by decide +kernel
theorem dX6_findRejectable_14 : decode cX6_findRejectable 14 = .ok (.invokevirtual 42, 3) := by decide +kernel
theorem dX6_findRejectable_17 : decode cX6_findRejectable 17 = .ok (.bipush 117, 2) := by decide +kernel
theorem dX6_findRejectable_19 : decode cX6_findRejectable 19 = .ok (.if_icmp .ne 23, 3) := by decide +kernel
theorem dX6_findRejectable_22 : decode cX6_findRejectable 22 = .ok (.aload_n 1, 1) := by decide +kernel
theorem dX6_findRejectable_23 : decode cX6_findRejectable 23 = .ok (.getfield 46, 3) := by decide +kernel
theorem dX6_findRejectable_26 : decode cX6_findRejectable 26 = .ok (.iload_n 3, 1) := by decide +kernel
theorem dX6_findRejectable_27 : decode cX6_findRejectable 27 = .ok (.iaload, 1) := by decide +kernel
theorem dX6_findRejectable_28 : decode cX6_findRejectable 28 = .ok (.aload_n 0, 1) := by decide +kernel
theorem dX6_findRejectable_29 : decode cX6_findRejectable 29 = .ok (.getfield 15, 3) := by decide +kernel
theorem dX6_findRejectable_32 : decode cX6_findRejectable 32 = .ok (.iand, 1) := by decide +kernel
theorem dX6_findRejectable_33 : decode cX6_findRejectable 33 = .ok (.ifCond .eq 9, 3) := by decide +kernel
theorem dX6_findRejectable_36 : decode cX6_findRejectable 36 = .ok (.iload_n 2, 1) := by decide +kernel
theorem dX6_findRejectable_37 : decode cX6_findRejectable 37 = .ok (.iconst 1, 1) := by decide +kernel
theorem dX6_findRejectable_38 : decode cX6_findRejectable 38 = .ok (.iload_n 3, 1) := by decide +kernel
theorem dX6_findRejectable_39 : decode cX6_findRejectable 39 = .ok (.ishl, 1) := by decide +kernel
theorem dX6_findRejectable_40 : decode cX6_findRejectable 40 = .ok (.ior, 1) := by decide +kernel
theorem dX6_findRejectable_41 : decode cX6_findRejectable 41 = .ok (.istore_n 2, 1) := by decide +kernel
theorem dX6_findRejectable_42 : decode cX6_findRejectable 42 = .ok (.iinc 3 1, 3) := by decide +kernel
theorem dX6_findRejectable_45 : decode cX6_findRejectable 45 = .ok (.goto (-41), 3) := by decide +kernel
theorem dX6_findRejectable_48 : decode cX6_findRejectable 48 = .ok (.iload_n 2, 1) := by decide +kernel
theorem dX6_findRejectable_49 : decode cX6_findRejectable 49 = .ok (.ireturn, 1) := by decide +kernel
theorem dX6_noteRound_0 : decode cX6_noteRound 0 = .ok (.iconst 0, 1) := by decide +kernel
theorem dX6_noteRound_1 : decode cX6_noteRound 1 = .ok (.istore_n 3, 1) := by decide +kernel
theorem dX6_noteRound_2 : decode cX6_noteRound 2 = .ok (.iload_n 3, 1) := by decide +kernel
theorem dX6_noteRound_3 : decode cX6_noteRound 3 = .ok (.bipush 8, 2) := by decide +kernel
theorem dX6_noteRound_5 : decode cX6_noteRound 5 = .ok (.if_icmp .ge 24, 3) := by decide +kernel
theorem dX6_noteRound_8 : decode cX6_noteRound 8 = .ok (.iload_n 1, 1) := by decide +kernel
theorem dX6_noteRound_9 : decode cX6_noteRound 9 = .ok (.iload_n 3, 1) := by decide +kernel
theorem dX6_noteRound_10 : decode cX6_noteRound 10 = .ok (.invokestatic 33, 3) := by decide +kernel
theorem dX6_noteRound_13 : decode cX6_noteRound 13 = .ok (.ifCond .eq 10, 3) := by decide +kernel
theorem dX6_noteRound_16 : decode cX6_noteRound 16 = .ok (.aload_n 0, 1) := by decide +kernel
theorem dX6_noteRound_17 : decode cX6_noteRound 17 = .ok (.getfield 9, 3) := by decide +kernel
theorem dX6_noteRound_20 : decode cX6_noteRound 20 = .ok (.iload_n 3, 1) := by decide +kernel
theorem dX6_noteRound_21 : decode cX6_noteRound 21 = .ok (.iload_n 2, 1) := by decide +kernel
theorem dX6_noteRound_22 : decode cX6_noteRound 22 = .ok (.iastore, 1) := by decide +kernel
theorem dX6_noteRound_23 : decode cX6_noteRound 23 = .ok (.iinc 3 1, 3) := by decide +kernel
theorem dX6_noteRound_26 : decode cX6_noteRound 26 = .ok (.goto (-24), 3) := by decide +kernel
theorem dX6_noteRound_29 : decode cX6_noteRound 29 = .ok (.return_, 1) := by decide +kernel
theorem dX7_init_0 : decode cX7_init 0 = .ok (.aload_n 0, 1) := by decide +kernel
theorem dX7_init_1 : decode cX7_init 1 = .ok (.invokespecial 3, 3) := by decide +kernel
theorem dX7_init_4 : decode cX7_init 4 = .ok (.aload_n 0, 1) := by decide +kernel
theorem dX7_init_5 : decode cX7_init 5 = .ok (.bipush 16, 2) := by decide +kernel
theorem dX7_init_7 : decode cX7_init 7 = .ok (.newarray .int, 2) := by decide +kernel
theorem dX7_init_9 : decode cX7_init 9 = .ok (.putfield 11, 3) := by decide +kernel
theorem dX7_init_12 : decode cX7_init 12 = .ok (.aload_n 0, 1) := by decide +kernel
theorem dX7_init_13 : decode cX7_init 13 = .ok (.bipush 16, 2) := by decide +kernel
theorem dX7_init_15 : decode cX7_init 15 = .ok (.newarray .int, 2) := by decide +kernel
theorem dX7_init_17 : decode cX7_init 17 = .ok (.putfield 15, 3) := by decide +kernel
theorem dX7_init_20 : decode cX7_init 20 = .ok (.aload_n 0, 1) := by decide +kernel
theorem dX7_init_21 : decode cX7_init 21 = .ok (.bipush 16, 2) := by decide +kernel
theorem dX7_init_23 : decode cX7_init 23 = .ok (.newarray .int, 2) := by decide +kernel
theorem dX7_init_25 : decode cX7_init 25 = .ok (.putfield 18, 3) := by decide +kernel
theorem dX7_init_28 : decode cX7_init 28 = .ok (.aload_n 0, 1) := by decide +kernel
theorem dX7_init_29 : decode cX7_init 29 = .ok (.iconst 0, 1) := by decide +kernel
theorem dX7_init_30 : decode cX7_init 30 = .ok (.putfield 21, 3) := by decide +kernel
theorem dX7_init_33 : decode cX7_init 33 = .ok (.aload_n 0, 1) := by decide +kernel
theorem dX7_init_34 : decode cX7_init 34 = .ok (.iconst 0, 1) := by decide +kernel
theorem dX7_init_35 : decode cX7_init 35 = .ok (.putfield 25, 3) := by decide +kernel
theorem dX7_init_38 : decode cX7_init 38 = .ok (.aload_n 0, 1) := by decide +kernel
theorem dX7_init_39 : decode cX7_init 39 = .ok (.iconst 0, 1) := by decide +kernel
theorem dX7_init_40 : decode cX7_init 40 = .ok (.putfield 28, 3) := by decide +kernel
theorem dX7_init_43 : decode cX7_init 43 = .ok (.return_, 1) := by decide +kernel
theorem dX7_read_0 : decode cX7_read 0 = .ok (.aload_n 0, 1) := by decide +kernel
theorem dX7_read_1 : decode cX7_read 1 = .ok (.iconst 0, 1) := by decide +kernel
theorem dX7_read_2 : decode cX7_read 2 = .ok (.putfield 25, 3) := by decide +kernel
theorem dX7_read_5 : decode cX7_read 5 = .ok (.aload_n 0, 1) := by decide +kernel
theorem dX7_read_6 : decode cX7_read 6 = .ok (.iconst 0, 1) := by decide +kernel
theorem dX7_read_7 : decode cX7_read 7 = .ok (.putfield 21, 3) := by decide +kernel
theorem dX7_read_10 : decode cX7_read 10 = .ok (.aload_n 0, 1) := by decide +kernel
theorem dX7_read_11 : decode cX7_read 11 = .ok (.getfield 21, 3) := by decide +kernel
theorem dX7_read_14 : decode cX7_read 14 = .ok (.bipush 16, 2) := by decide +kernel
theorem dX7_read_16 : decode cX7_read 16 = .ok (.if_icmp .ge 61, 3) := by decide +kernel
theorem dX7_read_19 : decode cX7_read 19 = .ok (.aload_n 0, 1) := by decide +kernel
theorem dX7_read_20 : decode cX7_read 20 = .ok (.aload_n 1, 1) := by decide +kernel
theorem dX7_read_21 : decode cX7_read 21 = .ok (.invokevirtual 31, 3) := by decide +kernel
theorem dX7_read_24 : decode cX7_read 24 = .ok (.ifCond .ne 5, 3) := by decide +kernel
theorem dX7_read_27 : decode cX7_read 27 = .ok (.iconst 0, 1) := by decide +kernel
theorem dX7_read_28 : decode cX7_read 28 = .ok (.ireturn, 1) := by decide +kernel
theorem dX7_read_29 : decode cX7_read 29 = .ok (.aload_n 0, 1) := by decide +kernel
theorem dX7_read_30 : decode cX7_read 30 = .ok (.getfield 25, 3) := by decide +kernel
theorem dX7_read_33 : decode cX7_read 33 = .ok (.aload_n 1, 1) := by decide +kernel
theorem dX7_read_34 : decode cX7_read 34 = .ok (.invokevirtual 35, 3) := by decide +kernel
theorem dX7_read_37 : decode cX7_read 37 = .ok (.if_icmp .ne 15, 3) := by decide +kernel
theorem dX7_read_40 : decode cX7_read 40 = .ok (.aload_n 0, 1) := by decide +kernel
theorem dX7_read_41 : decode cX7_read 41 = .ok (.dup, 1) := by decide +kernel
theorem dX7_read_42 : decode cX7_read 42 = .ok (.getfield 21, 3) := by decide +kernel
theorem dX7_read_45 : decode cX7_read 45 = .ok (.iconst 1, 1) := by decide +kernel
theorem dX7_read_46 : decode cX7_read 46 = .ok (.iadd, 1) := by decide +kernel
theorem dX7_read_47 : decode cX7_read 47 = .ok (.putfield 21, 3) := by decide +kernel
theorem dX7_read_50 : decode cX7_read 50 = .ok (.iconst 1, 1) := by decide +kernel
theorem dX7_read_51 : decode cX7_read 51 = .ok (.ireturn, 1) := by decide +kernel
theorem dX7_read_52 : decode cX7_read 52 = .ok (.aload_n 0, 1) := by decide +kernel
theorem dX7_read_53 : decode cX7_read 53 = .ok (.aload_n 1, 1) := by decide +kernel
theorem dX7_read_54 : decode cX7_read 54 = .ok (.bipush 59, 2) := by decide +kernel
theorem dX7_read_56 : decode cX7_read 56 = .ok (.invokevirtual 41, 3) := by decide +kernel
theorem dX7_read_59 : decode cX7_read 59 = .ok (.ifCond .ne 5, 3) := by decide +kernel
theorem dX7_read_62 : decode cX7_read 62 = .ok (.iconst 0, 1) := by decide +kernel
theorem dX7_read_63 : decode cX7_read 63 = .ok (.ireturn, 1) := by decide +kernel
theorem dX7_read_64 : decode cX7_read 64 = .ok (.aload_n 0, 1) := by decide +kernel
theorem dX7_read_65 : decode cX7_read 65 = .ok (.dup, 1) := by decide +kernel
theorem dX7_read_66 : decode cX7_read 66 = .ok (.getfield 21, 3) := by decide +kernel
theorem dX7_read_69 : decode cX7_read 69 = .ok (.iconst 1, 1) := by decide +kernel
theorem dX7_read_70 : decode cX7_read 70 = .ok (.iadd, 1) := by decide +kernel
theorem dX7_read_71 : decode cX7_read 71 = .ok (.putfield 21, 3) := by decide +kernel
theorem dX7_read_74 : decode cX7_read 74 = .ok (.goto (-64), 3) := by decide +kernel
theorem dX7_read_77 : decode cX7_read 77 = .ok (.iconst 0, 1) := by decide +kernel
theorem dX7_read_78 : decode cX7_read 78 = .ok (.ireturn, 1) := by decide +kernel
theorem dX7_readCommand_0 : decode cX7_readCommand 0 = .ok (.aload_n 0, 1) := by decide +kernel
theorem dX7_readCommand_1 : decode cX7_readCommand 1 = .ok (.getfield 25, 3) := by decide +kernel
theorem dX7_readCommand_4 : decode cX7_readCommand 4 = .ok (.istore_n 2, 1) := by decide +kernel
theorem dX7_readCommand_5 : decode cX7_readCommand 5 = .ok (.iload_n 2, 1) := by decide +kernel
theorem dX7_readCommand_6 : decode cX7_readCommand 6 = .ok (.istore_n 3, 1) := by decide +kernel
theorem dX7_readCommand_7 : decode cX7_readCommand 7 = .ok (.iconst 0, 1) := by decide +kernel
theorem dX7_readCommand_8 : decode cX7_readCommand 8 = .ok (.istore 4, 2) := by decide +kernel
theorem dX7_readCommand_10 : decode cX7_readCommand 10 = .ok (.iload 4, 2) := by decide +kernel
theorem dX7_readCommand_12 : decode cX7_readCommand 12 = .ok (.getstatic 45, 3) := by decide +kernel
theorem dX7_readCommand_15 : decode cX7_readCommand 15 = .ok (.arraylength, 1) := by decide +kernel
theorem dX7_readCommand_16 : decode cX7_readCommand 16 = .ok (.if_icmp .ge 53, 3) := by decide +kernel
theorem dX7_readCommand_19 : decode cX7_readCommand 19 = .ok (.aload_n 0, 1) := by decide +kernel
theorem dX7_readCommand_20 : decode cX7_readCommand 20 = .ok (.iload_n 2, 1) := by decide +kernel
theorem dX7_readCommand_21 : decode cX7_readCommand 21 = .ok (.putfield 25, 3) := by decide +kernel
theorem dX7_readCommand_24 : decode cX7_readCommand 24 = .ok (.aload_n 0, 1) := by decide +kernel
theorem dX7_readCommand_25 : decode cX7_readCommand 25 = .ok (.aload_n 1, 1) := by decide +kernel
theorem dX7_readCommand_26 : decode cX7_readCommand 26 = .ok (.getstatic 45, 3) := by decide +kernel
theorem dX7_readCommand_29 : decode cX7_readCommand 29 = .ok (.iload 4, 2) := by decide +kernel
theorem dX7_readCommand_31 : decode cX7_readCommand 31 = .ok (.aaload, 1) := by decide +kernel
theorem dX7_readCommand_32 : decode cX7_readCommand 32 = .ok (.getfield 49, 3) := by decide +kernel
theorem dX7_readCommand_35 : decode cX7_readCommand 35 = .ok (.invokevirtual 55, 3) := by decide +kernel
theorem dX7_readCommand_38 : decode cX7_readCommand 38 = .ok (.ifCond .eq 16, 3) := by decide +kernel
theorem dX7_readCommand_41 : decode cX7_readCommand 41 = .ok (.aload_n 0, 1) := by decide +kernel
theorem dX7_readCommand_42 : decode cX7_readCommand 42 = .ok (.getfield 11, 3) := by decide +kernel
theorem dX7_readCommand_45 : decode cX7_readCommand 45 = .ok (.aload_n 0, 1) := by decide +kernel
theorem dX7_readCommand_46 : decode cX7_readCommand 46 = .ok (.getfield 21, 3) := by decide +kernel
theorem dX7_readCommand_49 : decode cX7_readCommand 49 = .ok (.iload 4, 2) := by decide +kernel
theorem dX7_readCommand_51 : decode cX7_readCommand 51 = .ok (.iastore, 1) := by decide +kernel
theorem dX7_readCommand_52 : decode cX7_readCommand 52 = .ok (.iconst 1, 1) := by decide +kernel
theorem dX7_readCommand_53 : decode cX7_readCommand 53 = .ok (.ireturn, 1) := by decide +kernel
theorem dX7_readCommand_54 : decode cX7_readCommand 54 = .ok (.iload_n 3, 1) := by decide +kernel
theorem dX7_readCommand_55 : decode cX7_readCommand 55 = .ok (.aload_n 0, 1) := by decide +kernel
theorem dX7_readCommand_56 : decode cX7_readCommand 56 = .ok (.getfield 25, 3) := by decide +kernel
theorem dX7_readCommand_59 : decode cX7_readCommand 59 = .ok (.invokestatic 59, 3) := by decide +kernel
theorem dX7_readCommand_62 : decode cX7_readCommand 62 = .ok (.istore_n 3, 1) := by decide +kernel
theorem dX7_readCommand_63 : decode cX7_readCommand 63 = .ok (.iinc 4 1, 3) := by decide +kernel
theorem dX7_readCommand_66 : decode cX7_readCommand 66 = .ok (.goto (-56), 3) := by decide +kernel
theorem dX7_readCommand_69 : decode cX7_readCommand 69 = .ok (.aload_n 0, 1) := by decide +kernel
theorem dX7_readCommand_70 : decode cX7_readCommand 70 = .ok (.iload_n 3, 1) := by decide +kernel
theorem dX7_readCommand_71 : decode cX7_readCommand 71 = .ok (.putfield 25, 3) := by decide +kernel
theorem dX7_readCommand_74 : decode cX7_readCommand 74 = .ok (.iconst 0, 1) := by decide +kernel
theorem dX7_readCommand_75 : decode cX7_readCommand 75 = .ok (.ireturn, 1) := by decide +kernel
theorem dX7_readPattern_0 : decode cX7_readPattern 0 = .ok (.aload_n 0, 1) := by decide +kernel
theorem dX7_readPattern_1 : decode cX7_readPattern 1 = .ok (.iconst 0, 1) := by decide +kernel
theorem dX7_readPattern_2 : decode cX7_readPattern 2 = .ok (.putfield 28, 3) := by decide +kernel
theorem dX7_readPattern_5 : decode cX7_readPattern 5 = .ok (.iconst 0, 1) := by decide +kernel
theorem dX7_readPattern_6 : decode cX7_readPattern 6 = .ok (.istore_n 3, 1) := by decide +kernel
theorem dX7_readPattern_7 : decode cX7_readPattern 7 = .ok (.iload_n 3, 1) := by decide +kernel
theorem dX7_readPattern_8 : decode cX7_readPattern 8 = .ok (.aload_n 2, 1) := by decide +kernel
theorem dX7_readPattern_9 : decode cX7_readPattern 9 = .ok (.invokevirtual 65, 3) := by decide +kernel
theorem dX7_readPattern_12 : decode cX7_readPattern 12 = .ok (.if_icmp .ge 24, 3) := by decide +kernel
theorem dX7_readPattern_15 : decode cX7_readPattern 15 = .ok (.aload_n 0, 1) := by decide +kernel
theorem dX7_readPattern_16 : decode cX7_readPattern 16 = .ok (.aload_n 1, 1) := by decide +kernel
theorem dX7_readPattern_17 : decode cX7_readPattern 17 = .ok (.aload_n 2, 1) := by decide +kernel
theorem dX7_readPattern_18 : decode cX7_readPattern 18 = .ok (.iload_n 3, 1) := by decide +kernel
theorem dX7_readPattern_19 : decode cX7_readPattern 19 = .ok (.invokevirtual 68, 3) := by decide +kernel
theorem dX7_readPattern_22 : decode cX7_readPattern 22 = .ok (.invokevirtual 72, 3) := by decide +kernel
theorem dX7_readPattern_25 : decode cX7_readPattern 25 = .ok (.ifCond .ne 5, 3) := by decide +kernel
theorem dX7_readPattern_28 : decode cX7_readPattern 28 = .ok (.iconst 0, 1) := by decide +kernel
theorem dX7_readPattern_29 : decode cX7_readPattern 29 = .ok (.ireturn, 1) := by decide +kernel
theorem dX7_readPattern_30 : decode cX7_readPattern 30 = .ok (.iinc 3 1, 3) := by decide +kernel
theorem dX7_readPattern_33 : decode cX7_readPattern 33 = .ok (.goto (-26), 3) := by decide +kernel
theorem dX7_readPattern_36 : decode cX7_readPattern 36 = .ok (.iconst 1, 1) := by decide +kernel
theorem dX7_readPattern_37 : decode cX7_readPattern 37 = .ok (.ireturn, 1) := by decide +kernel
theorem dX7_readPart_0 : decode cX7_readPart 0 = .ok (.iload_n 2, 1) := by decide +kernel
theorem dX7_readPart_1 : decode cX7_readPart 1 = .ok (.bipush 35, 2) := by decide +kernel
theorem dX7_readPart_3 : decode cX7_readPart 3 = .ok (.if_icmp .ne 10, 3) := by decide +kernel
theorem dX7_readPart_6 : decode cX7_readPart 6 = .ok (.aload_n 0, 1) := by decide +kernel
theorem dX7_readPart_7 : decode cX7_readPart 7 = .ok (.aload_n 1, 1) := by decide +kernel
theorem dX7_readPart_8 : decode cX7_readPart 8 = .ok (.iconst 2, 1) := by decide +kernel
theorem dX7_readPart_9 : decode cX7_readPart 9 = .ok (.invokevirtual 75, 3) := by decide +kernel
theorem dX7_readPart_12 : decode cX7_readPart 12 = .ok (.ireturn, 1) := by decide +kernel
theorem dX7_readPart_13 : decode cX7_readPart 13 = .ok (.iload_n 2, 1) := by decide +kernel
theorem dX7_readPart_14 : decode cX7_readPart 14 = .ok (.bipush 63, 2) := by decide +kernel
theorem dX7_readPart_16 : decode cX7_readPart 16 = .ok (.if_icmp .ne 10, 3) := by decide +kernel
theorem dX7_readPart_19 : decode cX7_readPart 19 = .ok (.aload_n 0, 1) := by decide +kernel
theorem dX7_readPart_20 : decode cX7_readPart 20 = .ok (.aload_n 1, 1) := by decide +kernel
theorem dX7_readPart_21 : decode cX7_readPart 21 = .ok (.iconst 1, 1) := by decide +kernel
theorem dX7_readPart_22 : decode cX7_readPart 22 = .ok (.invokevirtual 75, 3) := by decide +kernel
theorem dX7_readPart_25 : decode cX7_readPart 25 = .ok (.ireturn, 1) := by decide +kernel
theorem dX7_readPart_26 : decode cX7_readPart 26 = .ok (.aload_n 0, 1) := by decide +kernel
theorem dX7_readPart_27 : decode cX7_readPart 27 = .ok (.aload_n 1, 1) := by decide +kernel
theorem dX7_readPart_28 : decode cX7_readPart 28 = .ok (.iload_n 2, 1) := by decide +kernel
theorem dX7_readPart_29 : decode cX7_readPart 29 = .ok (.invokevirtual 41, 3) := by decide +kernel
theorem dX7_readPart_32 : decode cX7_readPart 32 = .ok (.ireturn, 1) := by decide +kernel
theorem dX7_readCharacter_0 : decode cX7_readCharacter 0 = .ok (.aload_n 0, 1) := by decide +kernel
theorem dX7_readCharacter_1 : decode cX7_readCharacter 1 = .ok (.getfield 25, 3) := by decide +kernel
theorem dX7_readCharacter_4 : decode cX7_readCharacter 4 = .ok (.aload_n 1, 1) := by decide +kernel
theorem dX7_readCharacter_5 : decode cX7_readCharacter 5 = .ok (.invokevirtual 35, 3) := by decide +kernel
theorem dX7_readCharacter_8 : decode cX7_readCharacter 8 = .ok (.if_icmp .ge 15, 3) := by decide +kernel
theorem dX7_readCharacter_11 : decode cX7_readCharacter 11 = .ok (.aload_n 1, 1) := by decide +kernel
theorem dX7_readCharacter_12 : decode cX7_readCharacter 12 = .ok (.aload_n 0, 1) := by decide +kernel
theorem dX7_readCharacter_13 : decode cX7_readCharacter 13 = .ok (.getfield 25, 3) := by decide +kernel
theorem dX7_readCharacter_16 : decode cX7_readCharacter 16 = .ok (.invokevirtual 79, 3) := by decide +kernel
theorem dX7_readCharacter_19 : decode cX7_readCharacter 19 = .ok (.iload_n 2, 1) := by decide +kernel
theorem dX7_readCharacter_20 : decode cX7_readCharacter 20 = .ok (.if_icmp .eq 5, 3) := by decide +kernel
theorem dX7_readCharacter_23 : decode cX7_readCharacter 23 = .ok (.iconst 0, 1) := by decide +kernel
theorem dX7_readCharacter_24 : decode cX7_readCharacter 24 = .ok (.ireturn, 1) := by decide +kernel
theorem dX7_readCharacter_25 : decode cX7_readCharacter 25 = .ok (.aload_n 0, 1) := by decide +kernel
theorem dX7_readCharacter_26 : decode cX7_readCharacter 26 = .ok (.dup, 1) := by decide +kernel
theorem dX7_readCharacter_27 : decode cX7_readCharacter 27 = .ok (.getfield 25, 3) := by decide +kernel
theorem dX7_readCharacter_30 : decode cX7_readCharacter 30 = .ok (.iconst 1, 1) := by decide +kernel
theorem dX7_readCharacter_31 : decode cX7_readCharacter 31 = .ok (.iadd, 1) := by decide +kernel
theorem dX7_readCharacter_32 : decode cX7_readCharacter 32 = .ok (.putfield 25, 3) := by decide +kernel
theorem dX7_readCharacter_35 : decode cX7_readCharacter 35 = .ok (.iconst 1, 1) := by decide +kernel
theorem dX7_readCharacter_36 : decode cX7_readCharacter 36 = .ok (.ireturn, 1) := by decide +kernel
theorem dX7_readNumber_0 : decode cX7_readNumber 0 = .ok (.iconst 0, 1) := by decide +kernel
theorem dX7_readNumber_1 : decode cX7_readNumber 1 = .ok (.istore_n 3, 1) := by decide +kernel
theorem dX7_readNumber_2 : decode cX7_readNumber 2 = .ok (.iconst 0, 1) := by decide +kernel
theorem dX7_readNumber_3 : decode cX7_readNumber 3 = .ok (.istore 4, 2) := by decide +kernel
theorem dX7_readNumber_5 : decode cX7_readNumber 5 = .ok (.iload 4, 2) := by decide +kernel
theorem dX7_readNumber_7 : decode cX7_readNumber 7 = .ok (.iload_n 2, 1) := by decide +kernel
theorem dX7_readNumber_8 : decode cX7_readNumber 8 = .ok (.if_icmp .ge 61, 3) := by decide +kernel
theorem dX7_readNumber_11 : decode cX7_readNumber 11 = .ok (.aload_n 0, 1) := by decide +kernel
theorem dX7_readNumber_12 : decode cX7_readNumber 12 = .ok (.getfield 25, 3) := by decide +kernel
theorem dX7_readNumber_15 : decode cX7_readNumber 15 = .ok (.aload_n 1, 1) := by decide +kernel
theorem dX7_readNumber_16 : decode cX7_readNumber 16 = .ok (.invokevirtual 35, 3) := by decide +kernel
theorem dX7_readNumber_19 : decode cX7_readNumber 19 = .ok (.if_icmp .ge 50, 3) := by decide +kernel
theorem dX7_readNumber_22 : decode cX7_readNumber 22 = .ok (.aload_n 1, 1) := by decide +kernel
theorem dX7_readNumber_23 : decode cX7_readNumber 23 = .ok (.aload_n 0, 1) := by decide +kernel
theorem dX7_readNumber_24 : decode cX7_readNumber 24 = .ok (.getfield 25, 3) := by decide +kernel
theorem dX7_readNumber_27 : decode cX7_readNumber 27 = .ok (.invokevirtual 79, 3) := by decide +kernel
theorem dX7_readNumber_30 : decode cX7_readNumber 30 = .ok (.invokestatic 80, 3) := by decide +kernel
theorem dX7_readNumber_33 : decode cX7_readNumber 33 = .ok (.ifCond .eq 36, 3) := by decide +kernel
theorem dX7_readNumber_36 : decode cX7_readNumber 36 = .ok (.iload_n 3, 1) := by decide +kernel
theorem dX7_readNumber_37 : decode cX7_readNumber 37 = .ok (.bipush 10, 2) := by decide +kernel
theorem dX7_readNumber_39 : decode cX7_readNumber 39 = .ok (.imul, 1) := by decide +kernel
theorem dX7_readNumber_40 : decode cX7_readNumber 40 = .ok (.aload_n 1, 1) := by decide +kernel
theorem dX7_readNumber_41 : decode cX7_readNumber 41 = .ok (.aload_n 0, 1) := by decide +kernel
theorem dX7_readNumber_42 : decode cX7_readNumber 42 = .ok (.getfield 25, 3) := by decide +kernel
theorem dX7_readNumber_45 : decode cX7_readNumber 45 = .ok (.invokevirtual 79, 3) := by decide +kernel
theorem dX7_readNumber_48 : decode cX7_readNumber 48 = .ok (.bipush 48, 2) := by decide +kernel
theorem dX7_readNumber_50 : decode cX7_readNumber 50 = .ok (.isub, 1) := by decide +kernel
theorem dX7_readNumber_51 : decode cX7_readNumber 51 = .ok (.iadd, 1) := by decide +kernel
theorem dX7_readNumber_52 : decode cX7_readNumber 52 = .ok (.istore_n 3, 1) := by decide +kernel
theorem dX7_readNumber_53 : decode cX7_readNumber 53 = .ok (.aload_n 0, 1) := by decide +kernel
theorem dX7_readNumber_54 : decode cX7_readNumber 54 = .ok (.dup, 1) := by decide +kernel
theorem dX7_readNumber_55 : decode cX7_readNumber 55 = .ok (.getfield 25, 3) := by decide +kernel
theorem dX7_readNumber_58 : decode cX7_readNumber 58 = .ok (.iconst 1, 1) := by decide +kernel
theorem dX7_readNumber_59 : decode cX7_readNumber 59 = .ok (.iadd, 1) := by decide +kernel
theorem dX7_readNumber_60 : decode cX7_readNumber 60 = .ok (.putfield 25, 3) := by decide +kernel
theorem dX7_readNumber_63 : decode cX7_readNumber 63 = .ok (.iinc 4 1, 3) := by decide +kernel
theorem dX7_readNumber_66 : decode cX7_readNumber 66 = .ok (.goto (-61), 3) := by decide +kernel
theorem dX7_readNumber_69 : decode cX7_readNumber 69 = .ok (.iload 4, 2) := by decide +kernel
theorem dX7_readNumber_71 : decode cX7_readNumber 71 = .ok (.ifCond .ne 5, 3) := by decide +kernel
theorem dX7_readNumber_74 : decode cX7_readNumber 74 = .ok (.iconst 0, 1) := by decide +kernel
theorem dX7_readNumber_75 : decode cX7_readNumber 75 = .ok (.ireturn, 1) := by decide +kernel
theorem dX7_readNumber_76 : decode cX7_readNumber 76 = .ok (.aload_n 0, 1) := by decide +kernel
theorem dX7_readNumber_77 : decode cX7_readNumber 77 = .ok (.iload_n 3, 1) := by decide +kernel
theorem dX7_readNumber_78 : decode cX7_readNumber 78 = .ok (.invokevirtual 84, 3) := by decide +kernel
theorem dX7_readNumber_81 : decode cX7_readNumber 81 = .ok (.iconst 1, 1) := by decide +kernel
theorem dX7_readNumber_82 : decode cX7_readNumber 82 = .ok (.ireturn, 1) := by decide +kernel
theorem dX7_noteOperand_0 : decode cX7_noteOperand 0 = .ok (.aload_n 0, 1) := by decide +kernel
theorem dX7_noteOperand_1 : decode cX7_noteOperand 1 = .ok (.getfield 28, 3) := by decide +kernel
theorem dX7_noteOperand_4 : decode cX7_noteOperand 4 = .ok (.ifCond .ne 10, 3) := by decide +kernel
theorem dX7_noteOperand_7 : decode cX7_noteOperand 7 = .ok (.aload_n 0, 1) := by decide +kernel
theorem dX7_noteOperand_8 : decode cX7_noteOperand 8 = .ok (.getfield 15, 3) := by decide +kernel
theorem dX7_noteOperand_11 : decode cX7_noteOperand 11 = .ok (.goto 7, 3) := by decide +kernel
theorem dX7_noteOperand_14 : decode cX7_noteOperand 14 = .ok (.aload_n 0, 1) := by decide +kernel
theorem dX7_noteOperand_15 : decode cX7_noteOperand 15 = .ok (.getfield 18, 3) := by decide +kernel
theorem dX7_noteOperand_18 : decode cX7_noteOperand 18 = .ok (.astore_n 2, 1) := by decide +kernel
theorem dX7_noteOperand_19 : decode cX7_noteOperand 19 = .ok (.aload_n 2, 1) := by decide +kernel
theorem dX7_noteOperand_20 : decode cX7_noteOperand 20 = .ok (.aload_n 0, 1) := by decide +kernel
theorem dX7_noteOperand_21 : decode cX7_noteOperand 21 = .ok (.getfield 21, 3) := by decide +kernel
theorem dX7_noteOperand_24 : decode cX7_noteOperand 24 = .ok (.iload_n 1, 1) := by decide +kernel
theorem dX7_noteOperand_25 : decode cX7_noteOperand 25 = .ok (.iastore, 1) := by decide +kernel
theorem dX7_noteOperand_26 : decode cX7_noteOperand 26 = .ok (.aload_n 0, 1) := by decide +kernel
theorem dX7_noteOperand_27 : decode cX7_noteOperand 27 = .ok (.dup, 1) := by decide +kernel
theorem dX7_noteOperand_28 : decode cX7_noteOperand 28 = .ok (.getfield 28, 3) := by decide +kernel
theorem dX7_noteOperand_31 : decode cX7_noteOperand 31 = .ok (.iconst 1, 1) := by decide +kernel
theorem dX7_noteOperand_32 : decode cX7_noteOperand 32 = .ok (.iadd, 1) := by decide +kernel
theorem dX7_noteOperand_33 : decode cX7_noteOperand 33 = .ok (.putfield 28, 3) := by decide +kernel
theorem dX7_noteOperand_36 : decode cX7_noteOperand 36 = .ok (.return_, 1) := by decide +kernel
theorem dX7_isDigit_0 : decode cX7_isDigit 0 = .ok (.iload_n 0, 1) := by decide +kernel
theorem dX7_isDigit_1 : decode cX7_isDigit 1 = .ok (.bipush 48, 2) := by decide +kernel
theorem dX7_isDigit_3 : decode cX7_isDigit 3 = .ok (.if_icmp .lt 13, 3) := by decide +kernel
theorem dX7_isDigit_6 : decode cX7_isDigit 6 = .ok (.iload_n 0, 1) := by decide +kernel
theorem dX7_isDigit_7 : decode cX7_isDigit 7 = .ok (.bipush 57, 2) := by decide +kernel
theorem dX7_isDigit_9 : decode cX7_isDigit 9 = .ok (.if_icmp .gt 7, 3) := by decide +kernel
theorem dX7_isDigit_12 : decode cX7_isDigit 12 = .ok (.iconst 1, 1) := by decide +kernel
theorem dX7_isDigit_13 : decode cX7_isDigit 13 = .ok (.goto 4, 3) := by decide +kernel
theorem dX7_isDigit_16 : decode cX7_isDigit 16 = .ok (.iconst 0, 1) := by decide +kernel
theorem dX7_isDigit_17 : decode cX7_isDigit 17 = .ok (.ireturn, 1) := by decide +kernel
theorem dX8_init_0 : decode cX8_init 0 = .ok (.aload_n 0, 1) := by decide +kernel
theorem dX8_init_1 : decode cX8_init 1 = .ok (.invokespecial 3, 3) := by decide +kernel
theorem dX8_init_4 : decode cX8_init 4 = .ok (.aload_n 0, 1) := by decide +kernel
theorem dX8_init_5 : decode cX8_init 5 = .ok (.bipush 8, 2) := by decide +kernel
theorem dX8_init_7 : decode cX8_init 7 = .ok (.newarray .int, 2) := by decide +kernel
theorem dX8_init_9 : decode cX8_init 9 = .ok (.putfield 9, 3) := by decide +kernel
theorem dX8_init_12 : decode cX8_init 12 = .ok (.aload_n 0, 1) := by decide +kernel
theorem dX8_init_13 : decode cX8_init 13 = .ok (.bipush 8, 2) := by decide +kernel
theorem dX8_init_15 : decode cX8_init 15 = .ok (.newarray .int, 2) := by decide +kernel
theorem dX8_init_17 : decode cX8_init 17 = .ok (.putfield 15, 3) := by decide +kernel
theorem dX8_init_20 : decode cX8_init 20 = .ok (.aload_n 0, 1) := by decide +kernel
theorem dX8_init_21 : decode cX8_init 21 = .ok (.bipush 8, 2) := by decide +kernel
theorem dX8_init_23 : decode cX8_init 23 = .ok (.newarray .int, 2) := by decide +kernel
theorem dX8_init_25 : decode cX8_init 25 = .ok (.putfield 18, 3) := by decide +kernel
theorem dX8_init_28 : decode cX8_init 28 = .ok (.aload_n 0, 1) := by decide +kernel
theorem dX8_init_29 : decode cX8_init 29 = .ok (.bipush 8, 2) := by decide +kernel
theorem dX8_init_31 : decode cX8_init 31 = .ok (.newarray .int, 2) := by decide +kernel
theorem dX8_init_33 : decode cX8_init 33 = .ok (.putfield 21, 3) := by decide +kernel
theorem dX8_init_36 : decode cX8_init 36 = .ok (.aload_n 0, 1) := by decide +kernel
theorem dX8_init_37 : decode cX8_init 37 = .ok (.bipush 8, 2) := by decide +kernel
theorem dX8_init_39 : decode cX8_init 39 = .ok (.newarray .int, 2) := by decide +kernel
theorem dX8_init_41 : decode cX8_init 41 = .ok (.putfield 24, 3) := by decide +kernel
theorem dX8_init_44 : decode cX8_init 44 = .ok (.aload_n 0, 1) := by decide +kernel
theorem dX8_init_45 : decode cX8_init 45 = .ok (.new 27, 3) := by decide +kernel
theorem dX8_init_48 : decode cX8_init 48 = .ok (.dup, 1) := by decide +kernel
theorem dX8_init_49 : decode cX8_init 49 = .ok (.invokespecial 29, 3) := by decide +kernel
theorem dX8_init_52 : decode cX8_init 52 = .ok (.putfield 30, 3) := by decide +kernel
theorem dX8_init_55 : decode cX8_init 55 = .ok (.aload_n 0, 1) := by decide +kernel
theorem dX8_init_56 : decode cX8_init 56 = .ok (.iconst 0, 1) := by decide +kernel
theorem dX8_init_57 : decode cX8_init 57 = .ok (.putfield 34, 3) := by decide +kernel
theorem dX8_init_60 : decode cX8_init 60 = .ok (.aload_n 0, 1) := by decide +kernel
theorem dX8_init_61 : decode cX8_init 61 = .ok (.iconst 0, 1) := by decide +kernel
theorem dX8_init_62 : decode cX8_init 62 = .ok (.putfield 38, 3) := by decide +kernel
theorem dX8_init_65 : decode cX8_init 65 = .ok (.aload_n 0, 1) := by decide +kernel
theorem dX8_init_66 : decode cX8_init 66 = .ok (.iconst 0, 1) := by decide +kernel
theorem dX8_init_67 : decode cX8_init 67 = .ok (.putfield 41, 3) := by decide +kernel
theorem dX8_init_70 : decode cX8_init 70 = .ok (.return_, 1) := by decide +kernel
theorem dX8_copyFrom_0 : decode cX8_copyFrom 0 = .ok (.aload_n 1, 1) := by decide +kernel
theorem dX8_copyFrom_1 : decode cX8_copyFrom 1 = .ok (.getfield 9, 3) := by decide +kernel
theorem dX8_copyFrom_4 : decode cX8_copyFrom 4 = .ok (.iconst 0, 1) := by decide +kernel
theorem dX8_copyFrom_5 : decode cX8_copyFrom 5 = .ok (.aload_n 0, 1) := by decide +kernel
theorem dX8_copyFrom_6 : decode cX8_copyFrom 6 = .ok (.getfield 9, 3) := by decide +kernel
theorem dX8_copyFrom_9 : decode cX8_copyFrom 9 = .ok (.iconst 0, 1) := by decide +kernel
theorem dX8_copyFrom_10 : decode cX8_copyFrom 10 = .ok (.bipush 8, 2) := by decide +kernel
theorem dX8_copyFrom_12 : decode cX8_copyFrom 12 = .ok (.invokestatic 44, 3) := by decide +kernel
theorem dX8_copyFrom_15 : decode cX8_copyFrom 15 = .ok (.aload_n 1, 1) := by decide +kernel
theorem dX8_copyFrom_16 : decode cX8_copyFrom 16 = .ok (.getfield 15, 3) := by decide +kernel
theorem dX8_copyFrom_19 : decode cX8_copyFrom 19 = .ok (.iconst 0, 1) := by decide +kernel
theorem dX8_copyFrom_20 : decode cX8_copyFrom 20 = .ok (.aload_n 0, 1) := by decide +kernel
theorem dX8_copyFrom_21 : decode cX8_copyFrom 21 = .ok (.getfield 15, 3) := by decide +kernel
theorem dX8_copyFrom_24 : decode cX8_copyFrom 24 = .ok (.iconst 0, 1) := by decide +kernel
theorem dX8_copyFrom_25 : decode cX8_copyFrom 25 = .ok (.bipush 8, 2) := by decide +kernel
theorem dX8_copyFrom_27 : decode cX8_copyFrom 27 = .ok (.invokestatic 44, 3) := by decide +kernel
theorem dX8_copyFrom_30 : decode cX8_copyFrom 30 = .ok (.aload_n 1, 1) := by decide +kernel
theorem dX8_copyFrom_31 : decode cX8_copyFrom 31 = .ok (.getfield 18, 3) := by decide +kernel
theorem dX8_copyFrom_34 : decode cX8_copyFrom 34 = .ok (.iconst 0, 1) := by decide +kernel
theorem dX8_copyFrom_35 : decode cX8_copyFrom 35 = .ok (.aload_n 0, 1) := by decide +kernel
theorem dX8_copyFrom_36 : decode cX8_copyFrom 36 = .ok (.getfield 18, 3) := by decide +kernel
theorem dX8_copyFrom_39 : decode cX8_copyFrom 39 = .ok (.iconst 0, 1) := by decide +kernel
theorem dX8_copyFrom_40 : decode cX8_copyFrom 40 = .ok (.bipush 8, 2) := by decide +kernel
theorem dX8_copyFrom_42 : decode cX8_copyFrom 42 = .ok (.invokestatic 44, 3) := by decide +kernel
theorem dX8_copyFrom_45 : decode cX8_copyFrom 45 = .ok (.aload_n 1, 1) := by decide +kernel
theorem dX8_copyFrom_46 : decode cX8_copyFrom 46 = .ok (.getfield 21, 3) := by decide +kernel
theorem dX8_copyFrom_49 : decode cX8_copyFrom 49 = .ok (.iconst 0, 1) := by decide +kernel
theorem dX8_copyFrom_50 : decode cX8_copyFrom 50 = .ok (.aload_n 0, 1) := by decide +kernel
theorem dX8_copyFrom_51 : decode cX8_copyFrom 51 = .ok (.getfield 21, 3) := by decide +kernel
theorem dX8_copyFrom_54 : decode cX8_copyFrom 54 = .ok (.iconst 0, 1) := by decide +kernel
theorem dX8_copyFrom_55 : decode cX8_copyFrom 55 = .ok (.bipush 8, 2) := by decide +kernel
theorem dX8_copyFrom_57 : decode cX8_copyFrom 57 = .ok (.invokestatic 44, 3) := by decide +kernel
theorem dX8_copyFrom_60 : decode cX8_copyFrom 60 = .ok (.aload_n 1, 1) := by decide +kernel
theorem dX8_copyFrom_61 : decode cX8_copyFrom 61 = .ok (.getfield 24, 3) := by decide +kernel
theorem dX8_copyFrom_64 : decode cX8_copyFrom 64 = .ok (.iconst 0, 1) := by decide +kernel
theorem dX8_copyFrom_65 : decode cX8_copyFrom 65 = .ok (.aload_n 0, 1) := by decide +kernel
theorem dX8_copyFrom_66 : decode cX8_copyFrom 66 = .ok (.getfield 24, 3) := by decide +kernel
theorem dX8_copyFrom_69 : decode cX8_copyFrom 69 = .ok (.iconst 0, 1) := by decide +kernel
theorem dX8_copyFrom_70 : decode cX8_copyFrom 70 = .ok (.bipush 8, 2) := by decide +kernel
theorem dX8_copyFrom_72 : decode cX8_copyFrom 72 = .ok (.invokestatic 44, 3) := by decide +kernel
theorem dX8_copyFrom_75 : decode cX8_copyFrom 75 = .ok (.aload_n 0, 1) := by decide +kernel
theorem dX8_copyFrom_76 : decode cX8_copyFrom 76 = .ok (.getfield 30, 3) := by decide +kernel
theorem dX8_copyFrom_79 : decode cX8_copyFrom 79 = .ok (.aload_n 1, 1) := by decide +kernel
theorem dX8_copyFrom_80 : decode cX8_copyFrom 80 = .ok (.getfield 30, 3) := by decide +kernel
theorem dX8_copyFrom_83 : decode cX8_copyFrom 83 = .ok (.invokevirtual 50, 3) := by decide +kernel
theorem dX8_copyFrom_86 : decode cX8_copyFrom 86 = .ok (.aload_n 0, 1) := by decide +kernel
theorem dX8_copyFrom_87 : decode cX8_copyFrom 87 = .ok (.aload_n 1, 1) := by decide +kernel
theorem dX8_copyFrom_88 : decode cX8_copyFrom 88 = .ok (.getfield 34, 3) := by decide +kernel
theorem dX8_copyFrom_91 : decode cX8_copyFrom 91 = .ok (.putfield 34, 3) := by decide +kernel
theorem dX8_copyFrom_94 : decode cX8_copyFrom 94 = .ok (.aload_n 0, 1) := by decide +kernel
theorem dX8_copyFrom_95 : decode cX8_copyFrom 95 = .ok (.aload_n 1, 1) := by decide +kernel
theorem dX8_copyFrom_96 : decode cX8_copyFrom 96 = .ok (.getfield 38, 3) := by decide +kernel
theorem dX8_copyFrom_99 : decode cX8_copyFrom 99 = .ok (.putfield 38, 3) := by decide +kernel
theorem dX8_copyFrom_102 : decode cX8_copyFrom 102 = .ok (.aload_n 0, 1) := by decide +kernel
theorem dX8_copyFrom_103 : decode cX8_copyFrom 103 = .ok (.aload_n 1, 1) := by decide +kernel
theorem dX8_copyFrom_104 : decode cX8_copyFrom 104 = .ok (.getfield 41, 3) := by decide +kernel
theorem dX8_copyFrom_107 : decode cX8_copyFrom 107 = .ok (.putfield 41, 3) := by decide +kernel
theorem dX8_copyFrom_110 : decode cX8_copyFrom 110 = .ok (.return_, 1) := by decide +kernel
theorem dX8_apply_0 : decode cX8_apply 0 = .ok (.getstatic 54, 3) := by decide +kernel
theorem dX8_apply_3 : decode cX8_apply 3 = .ok (.aload_n 1, 1) := by decide +kernel
theorem dX8_apply_4 : decode cX8_apply 4 = .ok (.invokevirtual 59, 3) := by decide +kernel
theorem dX8_apply_7 : decode cX8_apply 7 = .ok (.iaload, 1) := by decide +kernel
theorem dX8_apply_8 : decode cX8_apply 8 = .ok (.tableswitch 123 1 10 #[56, 62, 68, 75, 82, 89, 95, 101, 107, 115], 56) := by decide +kernel
theorem dX8_apply_64 : decode cX8_apply 64 = .ok (.aload_n 0, 1) := by decide +kernel
theorem dX8_apply_65 : decode cX8_apply 65 = .ok (.iload_n 2, 1) := by decide +kernel
theorem dX8_apply_66 : decode cX8_apply 66 = .ok (.invokevirtual 65, 3) := by decide +kernel
theorem dX8_apply_69 : decode cX8_apply 69 = .ok (.ireturn, 1) := by decide +kernel
theorem dX8_apply_70 : decode cX8_apply 70 = .ok (.aload_n 0, 1) := by decide +kernel
theorem dX8_apply_71 : decode cX8_apply 71 = .ok (.iload_n 2, 1) := by decide +kernel
theorem dX8_apply_72 : decode cX8_apply 72 = .ok (.invokevirtual 69, 3) := by decide +kernel
theorem dX8_apply_75 : decode cX8_apply 75 = .ok (.ireturn, 1) := by decide +kernel
theorem dX8_apply_76 : decode cX8_apply 76 = .ok (.aload_n 0, 1) := by decide +kernel
theorem dX8_apply_77 : decode cX8_apply 77 = .ok (.iload_n 2, 1) := by decide +kernel
theorem dX8_apply_78 : decode cX8_apply 78 = .ok (.iload_n 3, 1) := by decide +kernel
theorem dX8_apply_79 : decode cX8_apply 79 = .ok (.invokevirtual 72, 3) := by decide +kernel
theorem dX8_apply_82 : decode cX8_apply 82 = .ok (.ireturn, 1) := by decide +kernel
theorem dX8_apply_83 : decode cX8_apply 83 = .ok (.aload_n 0, 1) := by decide +kernel
theorem dX8_apply_84 : decode cX8_apply 84 = .ok (.iload_n 2, 1) := by decide +kernel
theorem dX8_apply_85 : decode cX8_apply 85 = .ok (.iload_n 3, 1) := by decide +kernel
theorem dX8_apply_86 : decode cX8_apply 86 = .ok (.invokevirtual 76, 3) := by decide +kernel
theorem dX8_apply_89 : decode cX8_apply 89 = .ok (.ireturn, 1) := by decide +kernel
theorem dX8_apply_90 : decode cX8_apply 90 = .ok (.aload_n 0, 1) := by decide +kernel
theorem dX8_apply_91 : decode cX8_apply 91 = .ok (.iload_n 2, 1) := by decide +kernel
theorem dX8_apply_92 : decode cX8_apply 92 = .ok (.iload_n 3, 1) := by decide +kernel
theorem dX8_apply_93 : decode cX8_apply 93 = .ok (.invokevirtual 79, 3) := by decide +kernel
theorem dX8_apply_96 : decode cX8_apply 96 = .ok (.ireturn, 1) := by decide +kernel
theorem dX8_apply_97 : decode cX8_apply 97 = .ok (.aload_n 0, 1) := by decide +kernel
theorem dX8_apply_98 : decode cX8_apply 98 = .ok (.iload_n 2, 1) := by decide +kernel
theorem dX8_apply_99 : decode cX8_apply 99 = .ok (.invokevirtual 82, 3) := by decide +kernel
theorem dX8_apply_102 : decode cX8_apply 102 = .ok (.ireturn, 1) := by decide +kernel
theorem dX8_apply_103 : decode cX8_apply 103 = .ok (.aload_n 0, 1) := by decide +kernel
theorem dX8_apply_104 : decode cX8_apply 104 = .ok (.iload_n 2, 1) := by decide +kernel
theorem dX8_apply_105 : decode cX8_apply 105 = .ok (.invokevirtual 85, 3) := by decide +kernel
theorem dX8_apply_108 : decode cX8_apply 108 = .ok (.ireturn, 1) := by decide +kernel
theorem dX8_apply_109 : decode cX8_apply 109 = .ok (.aload_n 0, 1) := by decide +kernel
theorem dX8_apply_110 : decode cX8_apply 110 = .ok (.iload_n 2, 1) := by decide +kernel
theorem dX8_apply_111 : decode cX8_apply 111 = .ok (.invokevirtual 88, 3) := by decide +kernel
theorem dX8_apply_114 : decode cX8_apply 114 = .ok (.ireturn, 1) := by decide +kernel
theorem dX8_apply_115 : decode cX8_apply 115 = .ok (.aload_n 0, 1) := by decide +kernel
theorem dX8_apply_116 : decode cX8_apply 116 = .ok (.getfield 30, 3) := by decide +kernel
theorem dX8_apply_119 : decode cX8_apply 119 = .ok (.invokevirtual 91, 3) := by decide +kernel
theorem dX8_apply_122 : decode cX8_apply 122 = .ok (.ireturn, 1) := by decide +kernel
theorem dX8_apply_123 : decode cX8_apply 123 = .ok (.aload_n 0, 1) := by decide +kernel
theorem dX8_apply_124 : decode cX8_apply 124 = .ok (.getfield 30, 3) := by decide +kernel
theorem dX8_apply_127 : decode cX8_apply 127 = .ok (.invokevirtual 94, 3) := by decide +kernel
theorem dX8_apply_130 : decode cX8_apply 130 = .ok (.ireturn, 1) := by decide +kernel
theorem dX8_apply_131 : decode cX8_apply 131 = .ok (.aload_n 0, 1) := by decide +kernel
theorem dX8_apply_132 : decode cX8_apply 132 = .ok (.iload_n 2, 1) := by decide +kernel
theorem dX8_apply_133 : decode cX8_apply 133 = .ok (.invokevirtual 98, 3) := by decide +kernel
theorem dX8_apply_136 : decode cX8_apply 136 = .ok (.ireturn, 1) := by decide +kernel
theorem dX8_slotOfKnown_0 : decode cX8_slotOfKnown 0 = .ok (.iconst 0, 1) := by decide +kernel
theorem dX8_slotOfKnown_1 : decode cX8_slotOfKnown 1 = .ok (.istore_n 2, 1) := by decide +kernel
theorem dX8_slotOfKnown_2 : decode cX8_slotOfKnown 2 = .ok (.iload_n 2, 1) := by decide +kernel
theorem dX8_slotOfKnown_3 : decode cX8_slotOfKnown 3 = .ok (.aload_n 0, 1) := by decide +kernel
theorem dX8_slotOfKnown_4 : decode cX8_slotOfKnown 4 = .ok (.getfield 34, 3) := by decide +kernel
theorem dX8_slotOfKnown_7 : decode cX8_slotOfKnown 7 = .ok (.if_icmp .ge 21, 3) := by decide +kernel
theorem dX8_slotOfKnown_10 : decode cX8_slotOfKnown 10 = .ok (.aload_n 0, 1) := by decide +kernel
theorem dX8_slotOfKnown_11 : decode cX8_slotOfKnown 11 = .ok (.getfield 9, 3) := by decide +kernel
theorem dX8_slotOfKnown_14 : decode cX8_slotOfKnown 14 = .ok (.iload_n 2, 1) := by decide +kernel
theorem dX8_slotOfKnown_15 : decode cX8_slotOfKnown 15 = .ok (.iaload, 1) := by decide +kernel
theorem dX8_slotOfKnown_16 : decode cX8_slotOfKnown 16 = .ok (.iload_n 1, 1) := by decide +kernel
theorem dX8_slotOfKnown_17 : decode cX8_slotOfKnown 17 = .ok (.if_icmp .ne 5, 3) := by decide +kernel
theorem dX8_slotOfKnown_20 : decode cX8_slotOfKnown 20 = .ok (.iload_n 2, 1) := by decide +kernel
theorem dX8_slotOfKnown_21 : decode cX8_slotOfKnown 21 = .ok (.ireturn, 1) := by decide +kernel
theorem dX8_slotOfKnown_22 : decode cX8_slotOfKnown 22 = .ok (.iinc 2 1, 3) := by decide +kernel
theorem dX8_slotOfKnown_25 : decode cX8_slotOfKnown 25 = .ok (.goto (-23), 3) := by decide +kernel
theorem dX8_slotOfKnown_28 : decode cX8_slotOfKnown 28 = .ok (.new 101, 3) := by decide +kernel
theorem dX8_slotOfKnown_31 : decode cX8_slotOfKnown 31 = .ok (.dup, 1) := by decide +kernel
theorem dX8_slotOfKnown_32 : decode cX8_slotOfKnown 32 = .ok (.ldc 103, 2) := by decide +kernel
theorem dX8_slotOfKnown_34 : decode cX8_slotOfKnown 34 = .ok (.invokespecial 105, 3) := by decide +kernel
theorem dX8_slotOfKnown_37 : decode cX8_slotOfKnown 37 = .ok (.athrow, 1) := by decide +kernel
theorem dX8_slotOfReply_0 : decode cX8_slotOfReply 0 = .ok (.aload_n 0, 1) := by decide +kernel
theorem dX8_slotOfReply_1 : decode cX8_slotOfReply 1 = .ok (.getfield 30, 3) := by decide +kernel
theorem dX8_slotOfReply_4 : decode cX8_slotOfReply 4 = .ok (.invokevirtual 108, 3) := by decide +kernel
theorem dX8_slotOfReply_7 : decode cX8_slotOfReply 7 = .ok (.aload_n 0, 1) := by decide +kernel
theorem dX8_slotOfReply_8 : decode cX8_slotOfReply 8 = .ok (.iload_n 1, 1) := by decide +kernel
theorem dX8_slotOfReply_9 : decode cX8_slotOfReply 9 = .ok (.invokevirtual 111, 3) := by decide +kernel
theorem dX8_slotOfReply_12 : decode cX8_slotOfReply 12 = .ok (.ireturn, 1) := by decide +kernel
theorem dX8_all_0 : decode cX8_all 0 = .ok (.iconst 1, 1) := by decide +kernel
theorem dX8_all_1 : decode cX8_all 1 = .ok (.aload_n 0, 1) := by decide +kernel
theorem dX8_all_2 : decode cX8_all 2 = .ok (.getfield 34, 3) := by decide +kernel
theorem dX8_all_5 : decode cX8_all 5 = .ok (.ishl, 1) := by decide +kernel
theorem dX8_all_6 : decode cX8_all 6 = .ok (.iconst 1, 1) := by decide +kernel
theorem dX8_all_7 : decode cX8_all 7 = .ok (.isub, 1) := by decide +kernel
theorem dX8_all_8 : decode cX8_all 8 = .ok (.ireturn, 1) := by decide +kernel
theorem dX8_strength_0 : decode cX8_strength 0 = .ok (.aload_n 0, 1) := by decide +kernel
theorem dX8_strength_1 : decode cX8_strength 1 = .ok (.getfield 15, 3) := by decide +kernel
theorem dX8_strength_4 : decode cX8_strength 4 = .ok (.iload_n 1, 1) := by decide +kernel
theorem dX8_strength_5 : decode cX8_strength 5 = .ok (.iaload, 1) := by decide +kernel
theorem dX8_strength_6 : decode cX8_strength 6 = .ok (.aload_n 0, 1) := by decide +kernel
theorem dX8_strength_7 : decode cX8_strength 7 = .ok (.getfield 18, 3) := by decide +kernel
theorem dX8_strength_10 : decode cX8_strength 10 = .ok (.iload_n 1, 1) := by decide +kernel
theorem dX8_strength_11 : decode cX8_strength 11 = .ok (.iaload, 1) := by decide +kernel
theorem dX8_strength_12 : decode cX8_strength 12 = .ok (.bipush 10, 2) := by decide +kernel
theorem dX8_strength_14 : decode cX8_strength 14 = .ok (.idiv, 1) := by decide +kernel
theorem dX8_strength_15 : decode cX8_strength 15 = .ok (.isub, 1) := by decide +kernel
theorem dX8_strength_16 : decode cX8_strength 16 = .ok (.istore_n 2, 1) := by decide +kernel
theorem dX8_strength_17 : decode cX8_strength 17 = .ok (.iload_n 2, 1) := by decide +kernel
theorem dX8_strength_18 : decode cX8_strength 18 = .ok (.iconst 1, 1) := by decide +kernel
theorem dX8_strength_19 : decode cX8_strength 19 = .ok (.if_icmp .ge 7, 3) := by decide +kernel
theorem dX8_strength_22 : decode cX8_strength 22 = .ok (.iconst 1, 1) := by decide +kernel
theorem dX8_strength_23 : decode cX8_strength 23 = .ok (.goto 4, 3) := by decide +kernel
theorem dX8_strength_26 : decode cX8_strength 26 = .ok (.iload_n 2, 1) := by decide +kernel
theorem dX8_strength_27 : decode cX8_strength 27 = .ok (.ireturn, 1) := by decide +kernel
theorem dX8_countAttacks_0 : decode cX8_countAttacks 0 = .ok (.iconst 0, 1) := by decide +kernel
theorem dX8_countAttacks_1 : decode cX8_countAttacks 1 = .ok (.istore_n 1, 1) := by decide +kernel
theorem dX8_countAttacks_2 : decode cX8_countAttacks 2 = .ok (.iconst 0, 1) := by decide +kernel
theorem dX8_countAttacks_3 : decode cX8_countAttacks 3 = .ok (.istore_n 2, 1) := by decide +kernel
theorem dX8_countAttacks_4 : decode cX8_countAttacks 4 = .ok (.iload_n 2, 1) := by decide +kernel
theorem dX8_countAttacks_5 : decode cX8_countAttacks 5 = .ok (.aload_n 0, 1) := by decide +kernel
theorem dX8_countAttacks_6 : decode cX8_countAttacks 6 = .ok (.getfield 34, 3) := by decide +kernel
theorem dX8_countAttacks_9 : decode cX8_countAttacks 9 = .ok (.if_icmp .ge 21, 3) := by decide +kernel
theorem dX8_countAttacks_12 : decode cX8_countAttacks 12 = .ok (.iload_n 1, 1) := by decide +kernel
theorem dX8_countAttacks_13 : decode cX8_countAttacks 13 = .ok (.aload_n 0, 1) := by decide +kernel
theorem dX8_countAttacks_14 : decode cX8_countAttacks 14 = .ok (.getfield 21, 3) := by decide +kernel
theorem dX8_countAttacks_17 : decode cX8_countAttacks 17 = .ok (.iload_n 2, 1) := by decide +kernel
theorem dX8_countAttacks_18 : decode cX8_countAttacks 18 = .ok (.iaload, 1) := by decide +kernel
theorem dX8_countAttacks_19 : decode cX8_countAttacks 19 = .ok (.invokestatic 114, 3) := by decide +kernel
theorem dX8_countAttacks_22 : decode cX8_countAttacks 22 = .ok (.iadd, 1) := by decide +kernel
theorem dX8_countAttacks_23 : decode cX8_countAttacks 23 = .ok (.istore_n 1, 1) := by decide +kernel
theorem dX8_countAttacks_24 : decode cX8_countAttacks 24 = .ok (.iinc 2 1, 3) := by decide +kernel
theorem dX8_countAttacks_27 : decode cX8_countAttacks 27 = .ok (.goto (-23), 3) := by decide +kernel
theorem dX8_countAttacks_30 : decode cX8_countAttacks 30 = .ok (.iload_n 1, 1) := by decide +kernel
theorem dX8_countAttacks_31 : decode cX8_countAttacks 31 = .ok (.ireturn, 1) := by decide +kernel
theorem dX8_rank_0 : decode cX8_rank 0 = .ok (.iconst 0, 1) := by decide +kernel
theorem dX8_rank_1 : decode cX8_rank 1 = .ok (.istore_n 2, 1) := by decide +kernel
theorem dX8_rank_2 : decode cX8_rank 2 = .ok (.iconst 0, 1) := by decide +kernel
theorem dX8_rank_3 : decode cX8_rank 3 = .ok (.istore_n 3, 1) := by decide +kernel
theorem dX8_rank_4 : decode cX8_rank 4 = .ok (.iload_n 3, 1) := by decide +kernel
theorem dX8_rank_5 : decode cX8_rank 5 = .ok (.aload_n 0, 1) := by decide +kernel
theorem dX8_rank_6 : decode cX8_rank 6 = .ok (.getfield 34, 3) := by decide +kernel
theorem dX8_rank_9 : decode cX8_rank 9 = .ok (.if_icmp .ge 26, 3) := by decide +kernel
theorem dX8_rank_12 : decode cX8_rank 12 = .ok (.iload_n 3, 1) := by decide +kernel
theorem dX8_rank_13 : decode cX8_rank 13 = .ok (.iload_n 1, 1) := by decide +kernel
theorem dX8_rank_14 : decode cX8_rank 14 = .ok (.if_icmp .eq 15, 3) := by decide +kernel
theorem dX8_rank_17 : decode cX8_rank 17 = .ok (.aload_n 0, 1) := by decide +kernel
theorem dX8_rank_18 : decode cX8_rank 18 = .ok (.iload_n 3, 1) := by decide +kernel
theorem dX8_rank_19 : decode cX8_rank 19 = .ok (.iload_n 1, 1) := by decide +kernel
theorem dX8_rank_20 : decode cX8_rank 20 = .ok (.invokevirtual 119, 3) := by decide +kernel
theorem dX8_rank_23 : decode cX8_rank 23 = .ok (.ifCond .eq 6, 3) := by decide +kernel
theorem dX8_rank_26 : decode cX8_rank 26 = .ok (.iinc 2 1, 3) := by decide +kernel
theorem dX8_rank_29 : decode cX8_rank 29 = .ok (.iinc 3 1, 3) := by decide +kernel
theorem dX8_rank_32 : decode cX8_rank 32 = .ok (.goto (-28), 3) := by decide +kernel
theorem dX8_rank_35 : decode cX8_rank 35 = .ok (.iload_n 2, 1) := by decide +kernel
theorem dX8_rank_36 : decode cX8_rank 36 = .ok (.ireturn, 1) := by decide +kernel
theorem dX8_isAllowed_0 : decode cX8_isAllowed 0 = .ok (.aload_n 0, 1) := by decide +kernel
theorem dX8_isAllowed_1 : decode cX8_isAllowed 1 = .ok (.getfield 24, 3) := by decide +kernel
theorem dX8_isAllowed_4 : decode cX8_isAllowed 4 = .ok (.aload_n 0, 1) := by decide +kernel
theorem dX8_isAllowed_5 : decode cX8_isAllowed 5 = .ok (.aload_n 0, 1) := by decide +kernel
theorem dX8_isAllowed_6 : decode cX8_isAllowed 6 = .ok (.getfield 30, 3) := by decide +kernel
theorem dX8_isAllowed_9 : decode cX8_isAllowed 9 = .ok (.invokevirtual 123, 3) := by decide +kernel
theorem dX8_isAllowed_12 : decode cX8_isAllowed 12 = .ok (.invokevirtual 111, 3) := by decide +kernel
theorem dX8_isAllowed_15 : decode cX8_isAllowed 15 = .ok (.iaload, 1) := by decide +kernel
theorem dX8_isAllowed_16 : decode cX8_isAllowed 16 = .ok (.istore_n 2, 1) := by decide +kernel
theorem dX8_isAllowed_17 : decode cX8_isAllowed 17 = .ok (.iload_n 2, 1) := by decide +kernel
theorem dX8_isAllowed_18 : decode cX8_isAllowed 18 = .ok (.iload_n 1, 1) := by decide +kernel
theorem dX8_isAllowed_19 : decode cX8_isAllowed 19 = .ok (.invokestatic 126, 3) := by decide +kernel
theorem dX8_isAllowed_22 : decode cX8_isAllowed 22 = .ok (.ifCond .eq 36, 3) := by decide +kernel
theorem dX8_isAllowed_25 : decode cX8_isAllowed 25 = .ok (.aload_n 0, 1) := by decide +kernel
theorem dX8_isAllowed_26 : decode cX8_isAllowed 26 = .ok (.getfield 30, 3) := by decide +kernel
theorem dX8_isAllowed_29 : decode cX8_isAllowed 29 = .ok (.getfield 129, 3) := by decide +kernel
theorem dX8_isAllowed_32 : decode cX8_isAllowed 32 = .ok (.invokestatic 130, 3) := by decide +kernel
theorem dX8_isAllowed_35 : decode cX8_isAllowed 35 = .ok (.ifCond .eq 19, 3) := by decide +kernel
theorem dX8_isAllowed_38 : decode cX8_isAllowed 38 = .ok (.aload_n 0, 1) := by decide +kernel
theorem dX8_isAllowed_39 : decode cX8_isAllowed 39 = .ok (.getfield 30, 3) := by decide +kernel
theorem dX8_isAllowed_42 : decode cX8_isAllowed 42 = .ok (.aload_n 0, 1) := by decide +kernel
theorem dX8_isAllowed_43 : decode cX8_isAllowed 43 = .ok (.getfield 9, 3) := by decide +kernel
theorem dX8_isAllowed_46 : decode cX8_isAllowed 46 = .ok (.iload_n 1, 1) := by decide +kernel
theorem dX8_isAllowed_47 : decode cX8_isAllowed 47 = .ok (.iaload, 1) := by decide +kernel
theorem dX8_isAllowed_48 : decode cX8_isAllowed 48 = .ok (.invokevirtual 134, 3) := by decide +kernel
theorem dX8_isAllowed_51 : decode cX8_isAllowed 51 = .ok (.ifCond .ne 7, 3) := by decide +kernel
theorem dX8_isAllowed_54 : decode cX8_isAllowed 54 = .ok (.iconst 1, 1) := by decide +kernel
theorem dX8_isAllowed_55 : decode cX8_isAllowed 55 = .ok (.goto 4, 3) := by decide +kernel
theorem dX8_isAllowed_58 : decode cX8_isAllowed 58 = .ok (.iconst 0, 1) := by decide +kernel
theorem dX8_isAllowed_59 : decode cX8_isAllowed 59 = .ok (.ireturn, 1) := by decide +kernel
theorem dX8_age_0 : decode cX8_age 0 = .ok (.aload_n 0, 1) := by decide +kernel
theorem dX8_age_1 : decode cX8_age 1 = .ok (.dup, 1) := by decide +kernel
theorem dX8_age_2 : decode cX8_age 2 = .ok (.getfield 41, 3) := by decide +kernel
theorem dX8_age_5 : decode cX8_age 5 = .ok (.iload_n 1, 1) := by decide +kernel
theorem dX8_age_6 : decode cX8_age 6 = .ok (.iadd, 1) := by decide +kernel
theorem dX8_age_7 : decode cX8_age 7 = .ok (.putfield 41, 3) := by decide +kernel
theorem dX8_age_10 : decode cX8_age 10 = .ok (.iconst 0, 1) := by decide +kernel
theorem dX8_age_11 : decode cX8_age 11 = .ok (.istore_n 2, 1) := by decide +kernel
theorem dX8_age_12 : decode cX8_age 12 = .ok (.iload_n 2, 1) := by decide +kernel
theorem dX8_age_13 : decode cX8_age 13 = .ok (.aload_n 0, 1) := by decide +kernel
theorem dX8_age_14 : decode cX8_age 14 = .ok (.getfield 34, 3) := by decide +kernel
theorem dX8_age_17 : decode cX8_age 17 = .ok (.if_icmp .ge 28, 3) := by decide +kernel
theorem dX8_age_20 : decode cX8_age 20 = .ok (.aload_n 0, 1) := by decide +kernel
theorem dX8_age_21 : decode cX8_age 21 = .ok (.getfield 18, 3) := by decide +kernel
theorem dX8_age_24 : decode cX8_age 24 = .ok (.iload_n 2, 1) := by decide +kernel
theorem dX8_age_25 : decode cX8_age 25 = .ok (.bipush 90, 2) := by decide +kernel
theorem dX8_age_27 : decode cX8_age 27 = .ok (.aload_n 0, 1) := by decide +kernel
theorem dX8_age_28 : decode cX8_age 28 = .ok (.getfield 18, 3) := by decide +kernel
theorem dX8_age_31 : decode cX8_age 31 = .ok (.iload_n 2, 1) := by decide +kernel
theorem dX8_age_32 : decode cX8_age 32 = .ok (.iaload, 1) := by decide +kernel
theorem dX8_age_33 : decode cX8_age 33 = .ok (.iload_n 1, 1) := by decide +kernel
theorem dX8_age_34 : decode cX8_age 34 = .ok (.iadd, 1) := by decide +kernel
theorem dX8_age_35 : decode cX8_age 35 = .ok (.invokestatic 137, 3) := by decide +kernel
theorem dX8_age_38 : decode cX8_age 38 = .ok (.iastore, 1) := by decide +kernel
theorem dX8_age_39 : decode cX8_age 39 = .ok (.iinc 2 1, 3) := by decide +kernel
theorem dX8_age_42 : decode cX8_age 42 = .ok (.goto (-30), 3) := by decide +kernel
theorem dX8_age_45 : decode cX8_age 45 = .ok (.aload_n 0, 1) := by decide +kernel
theorem dX8_age_46 : decode cX8_age 46 = .ok (.invokevirtual 142, 3) := by decide +kernel
theorem dX8_age_49 : decode cX8_age 49 = .ok (.ireturn, 1) := by decide +kernel
theorem dX8_add_0 : decode cX8_add 0 = .ok (.iload_n 1, 1) := by decide +kernel
theorem dX8_add_1 : decode cX8_add 1 = .ok (.invokestatic 145, 3) := by decide +kernel
theorem dX8_add_4 : decode cX8_add 4 = .ok (.aload_n 0, 1) := by decide +kernel
theorem dX8_add_5 : decode cX8_add 5 = .ok (.getfield 34, 3) := by decide +kernel
theorem dX8_add_8 : decode cX8_add 8 = .ok (.bipush 8, 2) := by decide +kernel
theorem dX8_add_10 : decode cX8_add 10 = .ok (.if_icmp .lt 13, 3) := by decide +kernel
theorem dX8_add_13 : decode cX8_add 13 = .ok (.new 149, 3) := by decide +kernel
theorem dX8_add_16 : decode cX8_add 16 = .ok (.dup, 1) := by decide +kernel
theorem dX8_add_17 : decode cX8_add 17 = .ok (.ldc 151, 2) := by decide +kernel
theorem dX8_add_19 : decode cX8_add 19 = .ok (.invokespecial 153, 3) := by decide +kernel
theorem dX8_add_22 : decode cX8_add 22 = .ok (.athrow, 1) := by decide +kernel
theorem dX8_add_23 : decode cX8_add 23 = .ok (.aload_n 0, 1) := by decide +kernel
theorem dX8_add_24 : decode cX8_add 24 = .ok (.getfield 38, 3) := by decide +kernel
theorem dX8_add_27 : decode cX8_add 27 = .ok (.istore_n 2, 1) := by decide +kernel
theorem dX8_add_28 : decode cX8_add 28 = .ok (.aload_n 0, 1) := by decide +kernel
theorem dX8_add_29 : decode cX8_add 29 = .ok (.getfield 9, 3) := by decide +kernel
theorem dX8_add_32 : decode cX8_add 32 = .ok (.aload_n 0, 1) := by decide +kernel
theorem dX8_add_33 : decode cX8_add 33 = .ok (.getfield 34, 3) := by decide +kernel
theorem dX8_add_36 : decode cX8_add 36 = .ok (.iload_n 2, 1) := by decide +kernel
theorem dX8_add_37 : decode cX8_add 37 = .ok (.iastore, 1) := by decide +kernel
theorem dX8_add_38 : decode cX8_add 38 = .ok (.aload_n 0, 1) := by decide +kernel
theorem dX8_add_39 : decode cX8_add 39 = .ok (.getfield 15, 3) := by decide +kernel
theorem dX8_add_42 : decode cX8_add 42 = .ok (.aload_n 0, 1) := by decide +kernel
theorem dX8_add_43 : decode cX8_add 43 = .ok (.getfield 34, 3) := by decide +kernel
theorem dX8_add_46 : decode cX8_add 46 = .ok (.iload_n 1, 1) := by decide +kernel
theorem dX8_add_47 : decode cX8_add 47 = .ok (.iastore, 1) := by decide +kernel
theorem dX8_add_48 : decode cX8_add 48 = .ok (.aload_n 0, 1) := by decide +kernel
theorem dX8_add_49 : decode cX8_add 49 = .ok (.getfield 18, 3) := by decide +kernel
theorem dX8_add_52 : decode cX8_add 52 = .ok (.aload_n 0, 1) := by decide +kernel
theorem dX8_add_53 : decode cX8_add 53 = .ok (.getfield 34, 3) := by decide +kernel
theorem dX8_add_56 : decode cX8_add 56 = .ok (.iconst 0, 1) := by decide +kernel
theorem dX8_add_57 : decode cX8_add 57 = .ok (.iastore, 1) := by decide +kernel
theorem dX8_add_58 : decode cX8_add 58 = .ok (.aload_n 0, 1) := by decide +kernel
theorem dX8_add_59 : decode cX8_add 59 = .ok (.getfield 21, 3) := by decide +kernel
theorem dX8_add_62 : decode cX8_add 62 = .ok (.aload_n 0, 1) := by decide +kernel
theorem dX8_add_63 : decode cX8_add 63 = .ok (.getfield 34, 3) := by decide +kernel
theorem dX8_add_66 : decode cX8_add 66 = .ok (.iconst 0, 1) := by decide +kernel
theorem dX8_add_67 : decode cX8_add 67 = .ok (.iastore, 1) := by decide +kernel
theorem dX8_add_68 : decode cX8_add 68 = .ok (.aload_n 0, 1) := by decide +kernel
theorem dX8_add_69 : decode cX8_add 69 = .ok (.dup, 1) := by decide +kernel
theorem dX8_add_70 : decode cX8_add 70 = .ok (.getfield 34, 3) := by decide +kernel
theorem dX8_add_73 : decode cX8_add 73 = .ok (.iconst 1, 1) := by decide +kernel
theorem dX8_add_74 : decode cX8_add 74 = .ok (.iadd, 1) := by decide +kernel
theorem dX8_add_75 : decode cX8_add 75 = .ok (.putfield 34, 3) := by decide +kernel
theorem dX8_add_78 : decode cX8_add 78 = .ok (.aload_n 0, 1) := by decide +kernel
theorem dX8_add_79 : decode cX8_add 79 = .ok (.dup, 1) := by decide +kernel
theorem dX8_add_80 : decode cX8_add 80 = .ok (.getfield 38, 3) := by decide +kernel
theorem dX8_add_83 : decode cX8_add 83 = .ok (.iconst 1, 1) := by decide +kernel
theorem dX8_add_84 : decode cX8_add 84 = .ok (.iadd, 1) := by decide +kernel
theorem dX8_add_85 : decode cX8_add 85 = .ok (.putfield 38, 3) := by decide +kernel
theorem dX8_add_88 : decode cX8_add 88 = .ok (.aload_n 0, 1) := by decide +kernel
theorem dX8_add_89 : decode cX8_add 89 = .ok (.invokevirtual 142, 3) := by decide +kernel
theorem dX8_add_92 : decode cX8_add 92 = .ok (.pop, 1) := by decide +kernel
theorem dX8_add_93 : decode cX8_add 93 = .ok (.iload_n 2, 1) := by decide +kernel
theorem dX8_add_94 : decode cX8_add 94 = .ok (.ireturn, 1) := by decide +kernel
theorem dX8_remove_0 : decode cX8_remove 0 = .ok (.aload_n 0, 1) := by decide +kernel
theorem dX8_remove_1 : decode cX8_remove 1 = .ok (.iload_n 1, 1) := by decide +kernel
theorem dX8_remove_2 : decode cX8_remove 2 = .ok (.invokevirtual 111, 3) := by decide +kernel
theorem dX8_remove_5 : decode cX8_remove 5 = .ok (.istore_n 2, 1) := by decide +kernel
theorem dX8_remove_6 : decode cX8_remove 6 = .ok (.aload_n 0, 1) := by decide +kernel
theorem dX8_remove_7 : decode cX8_remove 7 = .ok (.invokevirtual 154, 3) := by decide +kernel
theorem dX8_remove_10 : decode cX8_remove 10 = .ok (.istore_n 3, 1) := by decide +kernel
theorem dX8_remove_11 : decode cX8_remove 11 = .ok (.aload_n 0, 1) := by decide +kernel
theorem dX8_remove_12 : decode cX8_remove 12 = .ok (.dup, 1) := by decide +kernel
theorem dX8_remove_13 : decode cX8_remove 13 = .ok (.getfield 34, 3) := by decide +kernel
theorem dX8_remove_16 : decode cX8_remove 16 = .ok (.iconst 1, 1) := by decide +kernel
theorem dX8_remove_17 : decode cX8_remove 17 = .ok (.isub, 1) := by decide +kernel
theorem dX8_remove_18 : decode cX8_remove 18 = .ok (.putfield 34, 3) := by decide +kernel
theorem dX8_remove_21 : decode cX8_remove 21 = .ok (.iload_n 2, 1) := by decide +kernel
theorem dX8_remove_22 : decode cX8_remove 22 = .ok (.istore 4, 2) := by decide +kernel
theorem dX8_remove_24 : decode cX8_remove 24 = .ok (.iload 4, 2) := by decide +kernel
theorem dX8_remove_26 : decode cX8_remove 26 = .ok (.aload_n 0, 1) := by decide +kernel
theorem dX8_remove_27 : decode cX8_remove 27 = .ok (.getfield 34, 3) := by decide +kernel
theorem dX8_remove_30 : decode cX8_remove 30 = .ok (.if_icmp .ge 73, 3) := by decide +kernel
theorem dX8_remove_33 : decode cX8_remove 33 = .ok (.aload_n 0, 1) := by decide +kernel
theorem dX8_remove_34 : decode cX8_remove 34 = .ok (.getfield 9, 3) := by decide +kernel
theorem dX8_remove_37 : decode cX8_remove 37 = .ok (.iload 4, 2) := by decide +kernel
theorem dX8_remove_39 : decode cX8_remove 39 = .ok (.aload_n 0, 1) := by decide +kernel
theorem dX8_remove_40 : decode cX8_remove 40 = .ok (.getfield 9, 3) := by decide +kernel
theorem dX8_remove_43 : decode cX8_remove 43 = .ok (.iload 4, 2) := by decide +kernel
theorem dX8_remove_45 : decode cX8_remove 45 = .ok (.iconst 1, 1) := by decide +kernel
theorem dX8_remove_46 : decode cX8_remove 46 = .ok (.iadd, 1) := by decide +kernel
theorem dX8_remove_47 : decode cX8_remove 47 = .ok (.iaload, 1) := by decide +kernel
theorem dX8_remove_48 : decode cX8_remove 48 = .ok (.iastore, 1) := by decide +kernel
theorem dX8_remove_49 : decode cX8_remove 49 = .ok (.aload_n 0, 1) := by decide +kernel
theorem dX8_remove_50 : decode cX8_remove 50 = .ok (.getfield 15, 3) := by decide +kernel
theorem dX8_remove_53 : decode cX8_remove 53 = .ok (.iload 4, 2) := by decide +kernel
theorem dX8_remove_55 : decode cX8_remove 55 = .ok (.aload_n 0, 1) := by decide +kernel
theorem dX8_remove_56 : decode cX8_remove 56 = .ok (.getfield 15, 3) := by decide +kernel
theorem dX8_remove_59 : decode cX8_remove 59 = .ok (.iload 4, 2) := by decide +kernel
theorem dX8_remove_61 : decode cX8_remove 61 = .ok (.iconst 1, 1) := by decide +kernel
theorem dX8_remove_62 : decode cX8_remove 62 = .ok (.iadd, 1) := by decide +kernel
theorem dX8_remove_63 : decode cX8_remove 63 = .ok (.iaload, 1) := by decide +kernel
theorem dX8_remove_64 : decode cX8_remove 64 = .ok (.iastore, 1) := by decide +kernel
theorem dX8_remove_65 : decode cX8_remove 65 = .ok (.aload_n 0, 1) := by decide +kernel
theorem dX8_remove_66 : decode cX8_remove 66 = .ok (.getfield 18, 3) := by decide +kernel
theorem dX8_remove_69 : decode cX8_remove 69 = .ok (.iload 4, 2) := by decide +kernel
theorem dX8_remove_71 : decode cX8_remove 71 = .ok (.aload_n 0, 1) := by decide +kernel
theorem dX8_remove_72 : decode cX8_remove 72 = .ok (.getfield 18, 3) := by decide +kernel
theorem dX8_remove_75 : decode cX8_remove 75 = .ok (.iload 4, 2) := by decide +kernel
theorem dX8_remove_77 : decode cX8_remove 77 = .ok (.iconst 1, 1) := by decide +kernel
theorem dX8_remove_78 : decode cX8_remove 78 = .ok (.iadd, 1) := by decide +kernel
theorem dX8_remove_79 : decode cX8_remove 79 = .ok (.iaload, 1) := by decide +kernel
theorem dX8_remove_80 : decode cX8_remove 80 = .ok (.iastore, 1) := by decide +kernel
theorem dX8_remove_81 : decode cX8_remove 81 = .ok (.aload_n 0, 1) := by decide +kernel
theorem dX8_remove_82 : decode cX8_remove 82 = .ok (.getfield 21, 3) := by decide +kernel
theorem dX8_remove_85 : decode cX8_remove 85 = .ok (.iload 4, 2) := by decide +kernel
theorem dX8_remove_87 : decode cX8_remove 87 = .ok (.aload_n 0, 1) := by decide +kernel
theorem dX8_remove_88 : decode cX8_remove 88 = .ok (.getfield 21, 3) := by decide +kernel
theorem dX8_remove_91 : decode cX8_remove 91 = .ok (.iload 4, 2) := by decide +kernel
theorem dX8_remove_93 : decode cX8_remove 93 = .ok (.iconst 1, 1) := by decide +kernel
theorem dX8_remove_94 : decode cX8_remove 94 = .ok (.iadd, 1) := by decide +kernel
theorem dX8_remove_95 : decode cX8_remove 95 = .ok (.iaload, 1) := by decide +kernel
theorem dX8_remove_96 : decode cX8_remove 96 = .ok (.iastore, 1) := by decide +kernel
theorem dX8_remove_97 : decode cX8_remove 97 = .ok (.iinc 4 1, 3) := by decide +kernel
theorem dX8_remove_100 : decode cX8_remove 100 = .ok (.goto (-76), 3) := by decide +kernel
theorem dX8_remove_103 : decode cX8_remove 103 = .ok (.iconst 0, 1) := by decide +kernel
theorem dX8_remove_104 : decode cX8_remove 104 = .ok (.istore 4, 2) := by decide +kernel
theorem dX8_remove_106 : decode cX8_remove 106 = .ok (.iload 4, 2) := by decide +kernel
theorem dX8_remove_108 : decode cX8_remove 108 = .ok (.aload_n 0, 1) := by decide +kernel
theorem dX8_remove_109 : decode cX8_remove 109 = .ok (.getfield 34, 3) := by decide +kernel
theorem dX8_remove_112 : decode cX8_remove 112 = .ok (.if_icmp .ge 27, 3) := by decide +kernel
theorem dX8_remove_115 : decode cX8_remove 115 = .ok (.aload_n 0, 1) := by decide +kernel
theorem dX8_remove_116 : decode cX8_remove 116 = .ok (.getfield 21, 3) := by decide +kernel
theorem dX8_remove_119 : decode cX8_remove 119 = .ok (.iload 4, 2) := by decide +kernel
theorem dX8_remove_121 : decode cX8_remove 121 = .ok (.aload_n 0, 1) := by decide +kernel
theorem dX8_remove_122 : decode cX8_remove 122 = .ok (.getfield 21, 3) := by decide +kernel
theorem dX8_remove_125 : decode cX8_remove 125 = .ok (.iload 4, 2) := by decide +kernel
theorem dX8_remove_127 : decode cX8_remove 127 = .ok (.iaload, 1) := by decide +kernel
theorem dX8_remove_128 : decode cX8_remove 128 = .ok (.iload_n 2, 1) := by decide +kernel
theorem dX8_remove_129 : decode cX8_remove 129 = .ok (.invokestatic 157, 3) := by decide +kernel
theorem dX8_remove_132 : decode cX8_remove 132 = .ok (.iastore, 1) := by decide +kernel
theorem dX8_remove_133 : decode cX8_remove 133 = .ok (.iinc 4 1, 3) := by decide +kernel
theorem dX8_remove_136 : decode cX8_remove 136 = .ok (.goto (-30), 3) := by decide +kernel
theorem dX8_remove_139 : decode cX8_remove 139 = .ok (.aload_n 0, 1) := by decide +kernel
theorem dX8_remove_140 : decode cX8_remove 140 = .ok (.invokevirtual 142, 3) := by decide +kernel
theorem dX8_remove_143 : decode cX8_remove 143 = .ok (.pop, 1) := by decide +kernel
theorem dX8_remove_144 : decode cX8_remove 144 = .ok (.aload_n 0, 1) := by decide +kernel
theorem dX8_remove_145 : decode cX8_remove 145 = .ok (.getfield 30, 3) := by decide +kernel
theorem dX8_remove_148 : decode cX8_remove 148 = .ok (.iload_n 1, 1) := by decide +kernel
theorem dX8_remove_149 : decode cX8_remove 149 = .ok (.invokevirtual 160, 3) := by decide +kernel
theorem dX8_remove_152 : decode cX8_remove 152 = .ok (.iload_n 3, 1) := by decide +kernel
theorem dX8_remove_153 : decode cX8_remove 153 = .ok (.aload_n 0, 1) := by decide +kernel
theorem dX8_remove_154 : decode cX8_remove 154 = .ok (.invokevirtual 154, 3) := by decide +kernel
theorem dX8_remove_157 : decode cX8_remove 157 = .ok (.isub, 1) := by decide +kernel
theorem dX8_remove_158 : decode cX8_remove 158 = .ok (.ireturn, 1) := by decide +kernel
theorem dX8_attack_0 : decode cX8_attack 0 = .ok (.aload_n 0, 1) := by decide +kernel
theorem dX8_attack_1 : decode cX8_attack 1 = .ok (.iload_n 1, 1) := by decide +kernel
theorem dX8_attack_2 : decode cX8_attack 2 = .ok (.invokevirtual 111, 3) := by decide +kernel
theorem dX8_attack_5 : decode cX8_attack 5 = .ok (.istore_n 3, 1) := by decide +kernel
theorem dX8_attack_6 : decode cX8_attack 6 = .ok (.aload_n 0, 1) := by decide +kernel
theorem dX8_attack_7 : decode cX8_attack 7 = .ok (.iload_n 2, 1) := by decide +kernel
theorem dX8_attack_8 : decode cX8_attack 8 = .ok (.invokevirtual 111, 3) := by decide +kernel
theorem dX8_attack_11 : decode cX8_attack 11 = .ok (.istore 4, 2) := by decide +kernel
theorem dX8_attack_13 : decode cX8_attack 13 = .ok (.iload_n 3, 1) := by decide +kernel
theorem dX8_attack_14 : decode cX8_attack 14 = .ok (.iload 4, 2) := by decide +kernel
theorem dX8_attack_16 : decode cX8_attack 16 = .ok (.if_icmp .ne 13, 3) := by decide +kernel
theorem dX8_attack_19 : decode cX8_attack 19 = .ok (.new 163, 3) := by decide +kernel
theorem dX8_attack_22 : decode cX8_attack 22 = .ok (.dup, 1) := by decide +kernel
theorem dX8_attack_23 : decode cX8_attack 23 = .ok (.ldc 165, 2) := by decide +kernel
theorem dX8_attack_25 : decode cX8_attack 25 = .ok (.invokespecial 167, 3) := by decide +kernel
theorem dX8_attack_28 : decode cX8_attack 28 = .ok (.athrow, 1) := by decide +kernel
theorem dX8_attack_29 : decode cX8_attack 29 = .ok (.aload_n 0, 1) := by decide +kernel
theorem dX8_attack_30 : decode cX8_attack 30 = .ok (.getfield 21, 3) := by decide +kernel
theorem dX8_attack_33 : decode cX8_attack 33 = .ok (.iload_n 3, 1) := by decide +kernel
theorem dX8_attack_34 : decode cX8_attack 34 = .ok (.iaload, 1) := by decide +kernel
theorem dX8_attack_35 : decode cX8_attack 35 = .ok (.iload 4, 2) := by decide +kernel
theorem dX8_attack_37 : decode cX8_attack 37 = .ok (.invokestatic 126, 3) := by decide +kernel
theorem dX8_attack_40 : decode cX8_attack 40 = .ok (.ifCond .eq 13, 3) := by decide +kernel
theorem dX8_attack_43 : decode cX8_attack 43 = .ok (.new 149, 3) := by decide +kernel
theorem dX8_attack_46 : decode cX8_attack 46 = .ok (.dup, 1) := by decide +kernel
theorem dX8_attack_47 : decode cX8_attack 47 = .ok (.ldc 168, 2) := by decide +kernel
theorem dX8_attack_49 : decode cX8_attack 49 = .ok (.invokespecial 153, 3) := by decide +kernel
theorem dX8_attack_52 : decode cX8_attack 52 = .ok (.athrow, 1) := by decide +kernel
theorem dX8_attack_53 : decode cX8_attack 53 = .ok (.aload_n 0, 1) := by decide +kernel
theorem dX8_attack_54 : decode cX8_attack 54 = .ok (.invokevirtual 154, 3) := by decide +kernel
theorem dX8_attack_57 : decode cX8_attack 57 = .ok (.bipush 20, 2) := by decide +kernel
theorem dX8_attack_59 : decode cX8_attack 59 = .ok (.if_icmp .lt 13, 3) := by decide +kernel
theorem dX8_attack_62 : decode cX8_attack 62 = .ok (.new 149, 3) := by decide +kernel
theorem dX8_attack_65 : decode cX8_attack 65 = .ok (.dup, 1) := by decide +kernel
theorem dX8_attack_66 : decode cX8_attack 66 = .ok (.ldc 170, 2) := by decide +kernel
theorem dX8_attack_68 : decode cX8_attack 68 = .ok (.invokespecial 153, 3) := by decide +kernel
theorem dX8_attack_71 : decode cX8_attack 71 = .ok (.athrow, 1) := by decide +kernel
theorem dX8_attack_72 : decode cX8_attack 72 = .ok (.aload_n 0, 1) := by decide +kernel
theorem dX8_attack_73 : decode cX8_attack 73 = .ok (.getfield 21, 3) := by decide +kernel
theorem dX8_attack_76 : decode cX8_attack 76 = .ok (.iload_n 3, 1) := by decide +kernel
theorem dX8_attack_77 : decode cX8_attack 77 = .ok (.dup2, 1) := by decide +kernel
theorem dX8_attack_78 : decode cX8_attack 78 = .ok (.iaload, 1) := by decide +kernel
theorem dX8_attack_79 : decode cX8_attack 79 = .ok (.iconst 1, 1) := by decide +kernel
theorem dX8_attack_80 : decode cX8_attack 80 = .ok (.iload 4, 2) := by decide +kernel
theorem dX8_attack_82 : decode cX8_attack 82 = .ok (.ishl, 1) := by decide +kernel
theorem dX8_attack_83 : decode cX8_attack 83 = .ok (.ior, 1) := by decide +kernel
theorem dX8_attack_84 : decode cX8_attack 84 = .ok (.iastore, 1) := by decide +kernel
theorem dX8_attack_85 : decode cX8_attack 85 = .ok (.aload_n 0, 1) := by decide +kernel
theorem dX8_attack_86 : decode cX8_attack 86 = .ok (.invokevirtual 142, 3) := by decide +kernel
theorem dX8_attack_89 : decode cX8_attack 89 = .ok (.pop, 1) := by decide +kernel
theorem dX8_attack_90 : decode cX8_attack 90 = .ok (.aload_n 0, 1) := by decide +kernel
theorem dX8_attack_91 : decode cX8_attack 91 = .ok (.invokevirtual 154, 3) := by decide +kernel
theorem dX8_attack_94 : decode cX8_attack 94 = .ok (.ireturn, 1) := by decide +kernel
theorem dX8_yieldAttack_0 : decode cX8_yieldAttack 0 = .ok (.aload_n 0, 1) := by decide +kernel
theorem dX8_yieldAttack_1 : decode cX8_yieldAttack 1 = .ok (.iload_n 1, 1) := by decide +kernel
theorem dX8_yieldAttack_2 : decode cX8_yieldAttack 2 = .ok (.invokevirtual 111, 3) := by decide +kernel
theorem dX8_yieldAttack_5 : decode cX8_yieldAttack 5 = .ok (.istore_n 3, 1) := by decide +kernel
theorem dX8_yieldAttack_6 : decode cX8_yieldAttack 6 = .ok (.aload_n 0, 1) := by decide +kernel
theorem dX8_yieldAttack_7 : decode cX8_yieldAttack 7 = .ok (.iload_n 2, 1) := by decide +kernel
theorem dX8_yieldAttack_8 : decode cX8_yieldAttack 8 = .ok (.invokevirtual 111, 3) := by decide +kernel
theorem dX8_yieldAttack_11 : decode cX8_yieldAttack 11 = .ok (.istore 4, 2) := by decide +kernel
theorem dX8_yieldAttack_13 : decode cX8_yieldAttack 13 = .ok (.aload_n 0, 1) := by decide +kernel
theorem dX8_yieldAttack_14 : decode cX8_yieldAttack 14 = .ok (.getfield 21, 3) := by decide +kernel
theorem dX8_yieldAttack_17 : decode cX8_yieldAttack 17 = .ok (.iload_n 3, 1) := by decide +kernel
theorem dX8_yieldAttack_18 : decode cX8_yieldAttack 18 = .ok (.iaload, 1) := by decide +kernel
theorem dX8_yieldAttack_19 : decode cX8_yieldAttack 19 = .ok (.iload 4, 2) := by decide +kernel
theorem dX8_yieldAttack_21 : decode cX8_yieldAttack 21 = .ok (.invokestatic 126, 3) := by decide +kernel
theorem dX8_yieldAttack_24 : decode cX8_yieldAttack 24 = .ok (.ifCond .ne 13, 3) := by decide +kernel
theorem dX8_yieldAttack_27 : decode cX8_yieldAttack 27 = .ok (.new 101, 3) := by decide +kernel
theorem dX8_yieldAttack_30 : decode cX8_yieldAttack 30 = .ok (.dup, 1) := by decide +kernel
theorem dX8_yieldAttack_31 : decode cX8_yieldAttack 31 = .ok (.ldc 172, 2) := by decide +kernel
theorem dX8_yieldAttack_33 : decode cX8_yieldAttack 33 = .ok (.invokespecial 105, 3) := by decide +kernel
theorem dX8_yieldAttack_36 : decode cX8_yieldAttack 36 = .ok (.athrow, 1) := by decide +kernel
theorem dX8_yieldAttack_37 : decode cX8_yieldAttack 37 = .ok (.aload_n 0, 1) := by decide +kernel
theorem dX8_yieldAttack_38 : decode cX8_yieldAttack 38 = .ok (.getfield 21, 3) := by decide +kernel
theorem dX8_yieldAttack_41 : decode cX8_yieldAttack 41 = .ok (.iload_n 3, 1) := by decide +kernel
theorem dX8_yieldAttack_42 : decode cX8_yieldAttack 42 = .ok (.dup2, 1) := by decide +kernel
theorem dX8_yieldAttack_43 : decode cX8_yieldAttack 43 = .ok (.iaload, 1) := by decide +kernel
theorem dX8_yieldAttack_44 : decode cX8_yieldAttack 44 = .ok (.iconst 1, 1) := by decide +kernel
theorem dX8_yieldAttack_45 : decode cX8_yieldAttack 45 = .ok (.iload 4, 2) := by decide +kernel
theorem dX8_yieldAttack_47 : decode cX8_yieldAttack 47 = .ok (.ishl, 1) := by decide +kernel
theorem dX8_yieldAttack_48 : decode cX8_yieldAttack 48 = .ok (.iconst (-1), 1) := by decide +kernel
theorem dX8_yieldAttack_49 : decode cX8_yieldAttack 49 = .ok (.ixor, 1) := by decide +kernel
theorem dX8_yieldAttack_50 : decode cX8_yieldAttack 50 = .ok (.iand, 1) := by decide +kernel
theorem dX8_yieldAttack_51 : decode cX8_yieldAttack 51 = .ok (.iastore, 1) := by decide +kernel
theorem dX8_yieldAttack_52 : decode cX8_yieldAttack 52 = .ok (.aload_n 0, 1) := by decide +kernel
theorem dX8_yieldAttack_53 : decode cX8_yieldAttack 53 = .ok (.invokevirtual 142, 3) := by decide +kernel
theorem dX8_yieldAttack_56 : decode cX8_yieldAttack 56 = .ok (.pop, 1) := by decide +kernel
theorem dX8_yieldAttack_57 : decode cX8_yieldAttack 57 = .ok (.aload_n 0, 1) := by decide +kernel
theorem dX8_yieldAttack_58 : decode cX8_yieldAttack 58 = .ok (.invokevirtual 154, 3) := by decide +kernel
theorem dX8_yieldAttack_61 : decode cX8_yieldAttack 61 = .ok (.ireturn, 1) := by decide +kernel
theorem dX8_weigh_0 : decode cX8_weigh 0 = .ok (.aload_n 0, 1) := by decide +kernel
theorem dX8_weigh_1 : decode cX8_weigh 1 = .ok (.iload_n 1, 1) := by decide +kernel
theorem dX8_weigh_2 : decode cX8_weigh 2 = .ok (.invokevirtual 111, 3) := by decide +kernel
theorem dX8_weigh_5 : decode cX8_weigh 5 = .ok (.istore_n 3, 1) := by decide +kernel
theorem dX8_weigh_6 : decode cX8_weigh 6 = .ok (.iload_n 2, 1) := by decide +kernel
theorem dX8_weigh_7 : decode cX8_weigh 7 = .ok (.invokestatic 145, 3) := by decide +kernel
theorem dX8_weigh_10 : decode cX8_weigh 10 = .ok (.aload_n 0, 1) := by decide +kernel
theorem dX8_weigh_11 : decode cX8_weigh 11 = .ok (.getfield 15, 3) := by decide +kernel
theorem dX8_weigh_14 : decode cX8_weigh 14 = .ok (.iload_n 3, 1) := by decide +kernel
theorem dX8_weigh_15 : decode cX8_weigh 15 = .ok (.iaload, 1) := by decide +kernel
theorem dX8_weigh_16 : decode cX8_weigh 16 = .ok (.istore 4, 2) := by decide +kernel
theorem dX8_weigh_18 : decode cX8_weigh 18 = .ok (.aload_n 0, 1) := by decide +kernel
theorem dX8_weigh_19 : decode cX8_weigh 19 = .ok (.getfield 15, 3) := by decide +kernel
theorem dX8_weigh_22 : decode cX8_weigh 22 = .ok (.iload_n 3, 1) := by decide +kernel
theorem dX8_weigh_23 : decode cX8_weigh 23 = .ok (.iload_n 2, 1) := by decide +kernel
theorem dX8_weigh_24 : decode cX8_weigh 24 = .ok (.iastore, 1) := by decide +kernel
theorem dX8_weigh_25 : decode cX8_weigh 25 = .ok (.aload_n 0, 1) := by decide +kernel
theorem dX8_weigh_26 : decode cX8_weigh 26 = .ok (.invokevirtual 142, 3) := by decide +kernel
theorem dX8_weigh_29 : decode cX8_weigh 29 = .ok (.pop, 1) := by decide +kernel
theorem dX8_weigh_30 : decode cX8_weigh 30 = .ok (.iload 4, 2) := by decide +kernel
theorem dX8_weigh_32 : decode cX8_weigh 32 = .ok (.ireturn, 1) := by decide +kernel
theorem dX8_makeNew_0 : decode cX8_makeNew 0 = .ok (.aload_n 0, 1) := by decide +kernel
theorem dX8_makeNew_1 : decode cX8_makeNew 1 = .ok (.iload_n 1, 1) := by decide +kernel
theorem dX8_makeNew_2 : decode cX8_makeNew 2 = .ok (.invokevirtual 111, 3) := by decide +kernel
theorem dX8_makeNew_5 : decode cX8_makeNew 5 = .ok (.istore_n 2, 1) := by decide +kernel
theorem dX8_makeNew_6 : decode cX8_makeNew 6 = .ok (.aload_n 0, 1) := by decide +kernel
theorem dX8_makeNew_7 : decode cX8_makeNew 7 = .ok (.getfield 18, 3) := by decide +kernel
theorem dX8_makeNew_10 : decode cX8_makeNew 10 = .ok (.iload_n 2, 1) := by decide +kernel
theorem dX8_makeNew_11 : decode cX8_makeNew 11 = .ok (.iaload, 1) := by decide +kernel
theorem dX8_makeNew_12 : decode cX8_makeNew 12 = .ok (.istore_n 3, 1) := by decide +kernel
theorem dX8_makeNew_13 : decode cX8_makeNew 13 = .ok (.aload_n 0, 1) := by decide +kernel
theorem dX8_makeNew_14 : decode cX8_makeNew 14 = .ok (.getfield 18, 3) := by decide +kernel
theorem dX8_makeNew_17 : decode cX8_makeNew 17 = .ok (.iload_n 2, 1) := by decide +kernel
theorem dX8_makeNew_18 : decode cX8_makeNew 18 = .ok (.iconst 0, 1) := by decide +kernel
theorem dX8_makeNew_19 : decode cX8_makeNew 19 = .ok (.iastore, 1) := by decide +kernel
theorem dX8_makeNew_20 : decode cX8_makeNew 20 = .ok (.aload_n 0, 1) := by decide +kernel
theorem dX8_makeNew_21 : decode cX8_makeNew 21 = .ok (.invokevirtual 142, 3) := by decide +kernel
theorem dX8_makeNew_24 : decode cX8_makeNew 24 = .ok (.pop, 1) := by decide +kernel
theorem dX8_makeNew_25 : decode cX8_makeNew 25 = .ok (.iload_n 3, 1) := by decide +kernel
theorem dX8_makeNew_26 : decode cX8_makeNew 26 = .ok (.ireturn, 1) := by decide +kernel
theorem dX8_claim_0 : decode cX8_claim 0 = .ok (.aload_n 0, 1) := by decide +kernel
theorem dX8_claim_1 : decode cX8_claim 1 = .ok (.iload_n 1, 1) := by decide +kernel
theorem dX8_claim_2 : decode cX8_claim 2 = .ok (.invokevirtual 111, 3) := by decide +kernel
theorem dX8_claim_5 : decode cX8_claim 5 = .ok (.istore_n 2, 1) := by decide +kernel
theorem dX8_claim_6 : decode cX8_claim 6 = .ok (.aload_n 0, 1) := by decide +kernel
theorem dX8_claim_7 : decode cX8_claim 7 = .ok (.getfield 30, 3) := by decide +kernel
theorem dX8_claim_10 : decode cX8_claim 10 = .ok (.invokevirtual 174, 3) := by decide +kernel
theorem dX8_claim_13 : decode cX8_claim 13 = .ok (.ifCond .eq 13, 3) := by decide +kernel
theorem dX8_claim_16 : decode cX8_claim 16 = .ok (.new 149, 3) := by decide +kernel
theorem dX8_claim_19 : decode cX8_claim 19 = .ok (.dup, 1) := by decide +kernel
theorem dX8_claim_20 : decode cX8_claim 20 = .ok (.ldc 178, 2) := by decide +kernel
theorem dX8_claim_22 : decode cX8_claim 22 = .ok (.invokespecial 153, 3) := by decide +kernel
theorem dX8_claim_25 : decode cX8_claim 25 = .ok (.athrow, 1) := by decide +kernel
theorem dX8_claim_26 : decode cX8_claim 26 = .ok (.aload_n 0, 1) := by decide +kernel
theorem dX8_claim_27 : decode cX8_claim 27 = .ok (.getfield 30, 3) := by decide +kernel
theorem dX8_claim_30 : decode cX8_claim 30 = .ok (.iload_n 1, 1) := by decide +kernel
theorem dX8_claim_31 : decode cX8_claim 31 = .ok (.invokevirtual 180, 3) := by decide +kernel
theorem dX8_claim_34 : decode cX8_claim 34 = .ok (.aload_n 0, 1) := by decide +kernel
theorem dX8_claim_35 : decode cX8_claim 35 = .ok (.getfield 24, 3) := by decide +kernel
theorem dX8_claim_38 : decode cX8_claim 38 = .ok (.iload_n 2, 1) := by decide +kernel
theorem dX8_claim_39 : decode cX8_claim 39 = .ok (.iaload, 1) := by decide +kernel
theorem dX8_claim_40 : decode cX8_claim 40 = .ok (.invokestatic 114, 3) := by decide +kernel
theorem dX8_claim_43 : decode cX8_claim 43 = .ok (.ireturn, 1) := by decide +kernel
theorem dX8_reply_0 : decode cX8_reply 0 = .ok (.aload_n 0, 1) := by decide +kernel
theorem dX8_reply_1 : decode cX8_reply 1 = .ok (.iload_n 1, 1) := by decide +kernel
theorem dX8_reply_2 : decode cX8_reply 2 = .ok (.invokevirtual 182, 3) := by decide +kernel
theorem dX8_reply_5 : decode cX8_reply 5 = .ok (.istore_n 2, 1) := by decide +kernel
theorem dX8_reply_6 : decode cX8_reply 6 = .ok (.aload_n 0, 1) := by decide +kernel
theorem dX8_reply_7 : decode cX8_reply 7 = .ok (.iload_n 2, 1) := by decide +kernel
theorem dX8_reply_8 : decode cX8_reply 8 = .ok (.invokevirtual 185, 3) := by decide +kernel
theorem dX8_reply_11 : decode cX8_reply 11 = .ok (.ifCond .ne 13, 3) := by decide +kernel
theorem dX8_reply_14 : decode cX8_reply 14 = .ok (.new 163, 3) := by decide +kernel
theorem dX8_reply_17 : decode cX8_reply 17 = .ok (.dup, 1) := by decide +kernel
theorem dX8_reply_18 : decode cX8_reply 18 = .ok (.ldc 188, 2) := by decide +kernel
theorem dX8_reply_20 : decode cX8_reply 20 = .ok (.invokespecial 167, 3) := by decide +kernel
theorem dX8_reply_23 : decode cX8_reply 23 = .ok (.athrow, 1) := by decide +kernel
theorem dX8_reply_24 : decode cX8_reply 24 = .ok (.aload_n 0, 1) := by decide +kernel
theorem dX8_reply_25 : decode cX8_reply 25 = .ok (.getfield 30, 3) := by decide +kernel
theorem dX8_reply_28 : decode cX8_reply 28 = .ok (.invokevirtual 190, 3) := by decide +kernel
theorem dX8_reply_31 : decode cX8_reply 31 = .ok (.ifCond .eq 13, 3) := by decide +kernel
theorem dX8_reply_34 : decode cX8_reply 34 = .ok (.new 149, 3) := by decide +kernel
theorem dX8_reply_37 : decode cX8_reply 37 = .ok (.dup, 1) := by decide +kernel
theorem dX8_reply_38 : decode cX8_reply 38 = .ok (.ldc 193, 2) := by decide +kernel
theorem dX8_reply_40 : decode cX8_reply 40 = .ok (.invokespecial 153, 3) := by decide +kernel
theorem dX8_reply_43 : decode cX8_reply 43 = .ok (.athrow, 1) := by decide +kernel
theorem dX8_reply_44 : decode cX8_reply 44 = .ok (.aload_n 0, 1) := by decide +kernel
theorem dX8_reply_45 : decode cX8_reply 45 = .ok (.getfield 30, 3) := by decide +kernel
theorem dX8_reply_48 : decode cX8_reply 48 = .ok (.iload_n 1, 1) := by decide +kernel
theorem dX8_reply_49 : decode cX8_reply 49 = .ok (.invokevirtual 180, 3) := by decide +kernel
theorem dX8_reply_52 : decode cX8_reply 52 = .ok (.aload_n 0, 1) := by decide +kernel
theorem dX8_reply_53 : decode cX8_reply 53 = .ok (.getfield 30, 3) := by decide +kernel
theorem dX8_reply_56 : decode cX8_reply 56 = .ok (.getfield 129, 3) := by decide +kernel
theorem dX8_reply_59 : decode cX8_reply 59 = .ok (.ireturn, 1) := by decide +kernel
theorem dX8_letPass_0 : decode cX8_letPass 0 = .ok (.iload_n 1, 1) := by decide +kernel
theorem dX8_letPass_1 : decode cX8_letPass 1 = .ok (.iconst 1, 1) := by decide +kernel
theorem dX8_letPass_2 : decode cX8_letPass 2 = .ok (.if_icmp .lt 9, 3) := by decide +kernel
theorem dX8_letPass_5 : decode cX8_letPass 5 = .ok (.iload_n 1, 1) := by decide +kernel
theorem dX8_letPass_6 : decode cX8_letPass 6 = .ok (.bipush 90, 2) := by decide +kernel
theorem dX8_letPass_8 : decode cX8_letPass 8 = .ok (.if_icmp .le 13, 3) := by decide +kernel
theorem dX8_letPass_11 : decode cX8_letPass 11 = .ok (.new 163, 3) := by decide +kernel
theorem dX8_letPass_14 : decode cX8_letPass 14 = .ok (.dup, 1) := by decide +kernel
theorem dX8_letPass_15 : decode cX8_letPass 15 = .ok (.ldc 195, 2) := by decide +kernel
theorem dX8_letPass_17 : decode cX8_letPass 17 = .ok (.invokespecial 167, 3) := by decide +kernel
theorem dX8_letPass_20 : decode cX8_letPass 20 = .ok (.athrow, 1) := by decide +kernel
theorem dX8_letPass_21 : decode cX8_letPass 21 = .ok (.aload_n 0, 1) := by decide +kernel
theorem dX8_letPass_22 : decode cX8_letPass 22 = .ok (.iload_n 1, 1) := by decide +kernel
theorem dX8_letPass_23 : decode cX8_letPass 23 = .ok (.invokevirtual 197, 3) := by decide +kernel
theorem dX8_letPass_26 : decode cX8_letPass 26 = .ok (.ireturn, 1) := by decide +kernel
theorem dX8_mustBeWeight_0 : decode cX8_mustBeWeight 0 = .ok (.iload_n 0, 1) := by decide +kernel
theorem dX8_mustBeWeight_1 : decode cX8_mustBeWeight 1 = .ok (.iconst 1, 1) := by decide +kernel
theorem dX8_mustBeWeight_2 : decode cX8_mustBeWeight 2 = .ok (.if_icmp .lt 9, 3) := by decide +kernel
theorem dX8_mustBeWeight_5 : decode cX8_mustBeWeight 5 = .ok (.iload_n 0, 1) := by decide +kernel
theorem dX8_mustBeWeight_6 : decode cX8_mustBeWeight 6 = .ok (.bipush 9, 2) := by decide +kernel
theorem dX8_mustBeWeight_8 : decode cX8_mustBeWeight 8 = .ok (.if_icmp .le 13, 3) := by decide +kernel
theorem dX8_mustBeWeight_11 : decode cX8_mustBeWeight 11 = .ok (.new 163, 3) := by decide +kernel
theorem dX8_mustBeWeight_14 : decode cX8_mustBeWeight 14 = .ok (.dup, 1) := by decide +kernel
theorem dX8_mustBeWeight_15 : decode cX8_mustBeWeight 15 = .ok (.ldc 200, 2) := by decide +kernel
theorem dX8_mustBeWeight_17 : decode cX8_mustBeWeight 17 = .ok (.invokespecial 167, 3) := by decide +kernel
theorem dX8_mustBeWeight_20 : decode cX8_mustBeWeight 20 = .ok (.athrow, 1) := by decide +kernel
theorem dX8_mustBeWeight_21 : decode cX8_mustBeWeight 21 = .ok (.return_, 1) := by decide +kernel
theorem dX8_withoutSlot_0 : decode cX8_withoutSlot 0 = .ok (.iconst 1, 1) := by decide +kernel
theorem dX8_withoutSlot_1 : decode cX8_withoutSlot 1 = .ok (.iload_n 1, 1) := by decide +kernel
theorem dX8_withoutSlot_2 : decode cX8_withoutSlot 2 = .ok (.ishl, 1) := by decide +kernel
theorem dX8_withoutSlot_3 : decode cX8_withoutSlot 3 = .ok (.iconst 1, 1) := by decide +kernel
theorem dX8_withoutSlot_4 : decode cX8_withoutSlot 4 = .ok (.isub, 1) := by decide +kernel
theorem dX8_withoutSlot_5 : decode cX8_withoutSlot 5 = .ok (.istore_n 2, 1) := by decide +kernel
theorem dX8_withoutSlot_6 : decode cX8_withoutSlot 6 = .ok (.iload_n 0, 1) := by decide +kernel
theorem dX8_withoutSlot_7 : decode cX8_withoutSlot 7 = .ok (.iload_n 2, 1) := by decide +kernel
theorem dX8_withoutSlot_8 : decode cX8_withoutSlot 8 = .ok (.iand, 1) := by decide +kernel
theorem dX8_withoutSlot_9 : decode cX8_withoutSlot 9 = .ok (.iload_n 0, 1) := by decide +kernel
theorem dX8_withoutSlot_10 : decode cX8_withoutSlot 10 = .ok (.iconst 1, 1) := by decide +kernel
theorem dX8_withoutSlot_11 : decode cX8_withoutSlot 11 = .ok (.ishr, 1) := by decide +kernel
theorem dX8_withoutSlot_12 : decode cX8_withoutSlot 12 = .ok (.iload_n 2, 1) := by decide +kernel
theorem dX8_withoutSlot_13 : decode cX8_withoutSlot 13 = .ok (.iconst (-1), 1) := by decide +kernel
theorem dX8_withoutSlot_14 : decode cX8_withoutSlot 14 = .ok (.ixor, 1) := by decide +kernel
theorem dX8_withoutSlot_15 : decode cX8_withoutSlot 15 = .ok (.iand, 1) := by decide +kernel
theorem dX8_withoutSlot_16 : decode cX8_withoutSlot 16 = .ok (.ior, 1) := by decide +kernel
theorem dX8_withoutSlot_17 : decode cX8_withoutSlot 17 = .ok (.ireturn, 1) := by decide +kernel
theorem dX8_isBefore_0 : decode cX8_isBefore 0 = .ok (.aload_n 0, 1) := by decide +kernel
theorem dX8_isBefore_1 : decode cX8_isBefore 1 = .ok (.iload_n 1, 1) := by decide +kernel
theorem dX8_isBefore_2 : decode cX8_isBefore 2 = .ok (.invokevirtual 202, 3) := by decide +kernel
theorem dX8_isBefore_5 : decode cX8_isBefore 5 = .ok (.aload_n 0, 1) := by decide +kernel
theorem dX8_isBefore_6 : decode cX8_isBefore 6 = .ok (.iload_n 2, 1) := by decide +kernel
theorem dX8_isBefore_7 : decode cX8_isBefore 7 = .ok (.invokevirtual 202, 3) := by decide +kernel
theorem dX8_isBefore_10 : decode cX8_isBefore 10 = .ok (.if_icmp .eq 22, 3) := by decide +kernel
theorem dX8_isBefore_13 : decode cX8_isBefore 13 = .ok (.aload_n 0, 1) := by decide +kernel
theorem dX8_isBefore_14 : decode cX8_isBefore 14 = .ok (.iload_n 1, 1) := by decide +kernel
theorem dX8_isBefore_15 : decode cX8_isBefore 15 = .ok (.invokevirtual 202, 3) := by decide +kernel
theorem dX8_isBefore_18 : decode cX8_isBefore 18 = .ok (.aload_n 0, 1) := by decide +kernel
theorem dX8_isBefore_19 : decode cX8_isBefore 19 = .ok (.iload_n 2, 1) := by decide +kernel
theorem dX8_isBefore_20 : decode cX8_isBefore 20 = .ok (.invokevirtual 202, 3) := by decide +kernel
theorem dX8_isBefore_23 : decode cX8_isBefore 23 = .ok (.if_icmp .le 7, 3) := by decide +kernel
theorem dX8_isBefore_26 : decode cX8_isBefore 26 = .ok (.iconst 1, 1) := by decide +kernel
theorem dX8_isBefore_27 : decode cX8_isBefore 27 = .ok (.goto 4, 3) := by decide +kernel
theorem dX8_isBefore_30 : decode cX8_isBefore 30 = .ok (.iconst 0, 1) := by decide +kernel
theorem dX8_isBefore_31 : decode cX8_isBefore 31 = .ok (.ireturn, 1) := by decide +kernel
theorem dX8_isBefore_32 : decode cX8_isBefore 32 = .ok (.aload_n 0, 1) := by decide +kernel
theorem dX8_isBefore_33 : decode cX8_isBefore 33 = .ok (.getfield 24, 3) := by decide +kernel
theorem dX8_isBefore_36 : decode cX8_isBefore 36 = .ok (.iload_n 1, 1) := by decide +kernel
theorem dX8_isBefore_37 : decode cX8_isBefore 37 = .ok (.iaload, 1) := by decide +kernel
theorem dX8_isBefore_38 : decode cX8_isBefore 38 = .ok (.invokestatic 114, 3) := by decide +kernel
theorem dX8_isBefore_41 : decode cX8_isBefore 41 = .ok (.istore_n 3, 1) := by decide +kernel
theorem dX8_isBefore_42 : decode cX8_isBefore 42 = .ok (.aload_n 0, 1) := by decide +kernel
theorem dX8_isBefore_43 : decode cX8_isBefore 43 = .ok (.getfield 24, 3) := by decide +kernel
theorem dX8_isBefore_46 : decode cX8_isBefore 46 = .ok (.iload_n 2, 1) := by decide +kernel
theorem dX8_isBefore_47 : decode cX8_isBefore 47 = .ok (.iaload, 1) := by decide +kernel
theorem dX8_isBefore_48 : decode cX8_isBefore 48 = .ok (.invokestatic 114, 3) := by decide +kernel
theorem dX8_isBefore_51 : decode cX8_isBefore 51 = .ok (.istore 4, 2) := by decide +kernel
theorem dX8_isBefore_53 : decode cX8_isBefore 53 = .ok (.iload_n 3, 1) := by decide +kernel
theorem dX8_isBefore_54 : decode cX8_isBefore 54 = .ok (.iload 4, 2) := by decide +kernel
theorem dX8_isBefore_56 : decode cX8_isBefore 56 = .ok (.if_icmp .eq 15, 3) := by decide +kernel
theorem dX8_isBefore_59 : decode cX8_isBefore 59 = .ok (.iload_n 3, 1) := by decide +kernel
theorem dX8_isBefore_60 : decode cX8_isBefore 60 = .ok (.iload 4, 2) := by decide +kernel
theorem dX8_isBefore_62 : decode cX8_isBefore 62 = .ok (.if_icmp .ge 7, 3) := by decide +kernel
theorem dX8_isBefore_65 : decode cX8_isBefore 65 = .ok (.iconst 1, 1) := by decide +kernel
theorem dX8_isBefore_66 : decode cX8_isBefore 66 = .ok (.goto 4, 3) := by decide +kernel
theorem dX8_isBefore_69 : decode cX8_isBefore 69 = .ok (.iconst 0, 1) := by decide +kernel
theorem dX8_isBefore_70 : decode cX8_isBefore 70 = .ok (.ireturn, 1) := by decide +kernel
theorem dX8_isBefore_71 : decode cX8_isBefore 71 = .ok (.iload_n 1, 1) := by decide +kernel
theorem dX8_isBefore_72 : decode cX8_isBefore 72 = .ok (.iload_n 2, 1) := by decide +kernel
theorem dX8_isBefore_73 : decode cX8_isBefore 73 = .ok (.if_icmp .ge 7, 3) := by decide +kernel
theorem dX8_isBefore_76 : decode cX8_isBefore 76 = .ok (.iconst 1, 1) := by decide +kernel
theorem dX8_isBefore_77 : decode cX8_isBefore 77 = .ok (.goto 4, 3) := by decide +kernel
theorem dX8_isBefore_80 : decode cX8_isBefore 80 = .ok (.iconst 0, 1) := by decide +kernel
theorem dX8_isBefore_81 : decode cX8_isBefore 81 = .ok (.ireturn, 1) := by decide +kernel
theorem dX8_findAttackers_0 : decode cX8_findAttackers 0 = .ok (.iconst 0, 1) := by decide +kernel
theorem dX8_findAttackers_1 : decode cX8_findAttackers 1 = .ok (.istore_n 1, 1) := by decide +kernel
theorem dX8_findAttackers_2 : decode cX8_findAttackers 2 = .ok (.iconst 0, 1) := by decide +kernel
theorem dX8_findAttackers_3 : decode cX8_findAttackers 3 = .ok (.istore_n 2, 1) := by decide +kernel
theorem dX8_findAttackers_4 : decode cX8_findAttackers 4 = .ok (.iload_n 2, 1) := by decide +kernel
theorem dX8_findAttackers_5 : decode cX8_findAttackers 5 = .ok (.aload_n 0, 1) := by decide +kernel
theorem dX8_findAttackers_6 : decode cX8_findAttackers 6 = .ok (.getfield 34, 3) := by decide +kernel
theorem dX8_findAttackers_9 : decode cX8_findAttackers 9 = .ok (.if_icmp .ge 85, 3) := by decide +kernel
theorem dX8_findAttackers_12 : decode cX8_findAttackers 12 = .ok (.iconst 0, 1) := by decide +kernel
theorem dX8_findAttackers_13 : decode cX8_findAttackers 13 = .ok (.istore_n 3, 1) := by decide +kernel
theorem dX8_findAttackers_14 : decode cX8_findAttackers 14 = .ok (.iconst 0, 1) := by decide +kernel
theorem dX8_findAttackers_15 : decode cX8_findAttackers 15 = .ok (.istore 4, 2) := by decide +kernel
theorem dX8_findAttackers_17 : decode cX8_findAttackers 17 = .ok (.iload 4, 2) := by decide +kernel
theorem dX8_findAttackers_19 : decode cX8_findAttackers 19 = .ok (.aload_n 0, 1) := by decide +kernel
theorem dX8_findAttackers_20 : decode cX8_findAttackers 20 = .ok (.getfield 34, 3) := by decide +kernel
theorem dX8_findAttackers_23 : decode cX8_findAttackers 23 = .ok (.if_icmp .ge 44, 3) := by decide +kernel
theorem dX8_findAttackers_26 : decode cX8_findAttackers 26 = .ok (.aload_n 0, 1) := by decide +kernel
theorem dX8_findAttackers_27 : decode cX8_findAttackers 27 = .ok (.getfield 21, 3) := by decide +kernel
theorem dX8_findAttackers_30 : decode cX8_findAttackers 30 = .ok (.iload 4, 2) := by decide +kernel
theorem dX8_findAttackers_32 : decode cX8_findAttackers 32 = .ok (.iaload, 1) := by decide +kernel
theorem dX8_findAttackers_33 : decode cX8_findAttackers 33 = .ok (.iload_n 2, 1) := by decide +kernel
theorem dX8_findAttackers_34 : decode cX8_findAttackers 34 = .ok (.invokestatic 126, 3) := by decide +kernel
theorem dX8_findAttackers_37 : decode cX8_findAttackers 37 = .ok (.ifCond .eq 24, 3) := by decide +kernel
theorem dX8_findAttackers_40 : decode cX8_findAttackers 40 = .ok (.aload_n 0, 1) := by decide +kernel
theorem dX8_findAttackers_41 : decode cX8_findAttackers 41 = .ok (.iload 4, 2) := by decide +kernel
theorem dX8_findAttackers_43 : decode cX8_findAttackers 43 = .ok (.invokevirtual 202, 3) := by decide +kernel
theorem dX8_findAttackers_46 : decode cX8_findAttackers 46 = .ok (.aload_n 0, 1) := by decide +kernel
theorem dX8_findAttackers_47 : decode cX8_findAttackers 47 = .ok (.iload_n 2, 1) := by decide +kernel
theorem dX8_findAttackers_48 : decode cX8_findAttackers 48 = .ok (.invokevirtual 202, 3) := by decide +kernel
theorem dX8_findAttackers_51 : decode cX8_findAttackers 51 = .ok (.if_icmp .lt 10, 3) := by decide +kernel
theorem dX8_findAttackers_54 : decode cX8_findAttackers 54 = .ok (.iload_n 3, 1) := by decide +kernel
theorem dX8_findAttackers_55 : decode cX8_findAttackers 55 = .ok (.iconst 1, 1) := by decide +kernel
theorem dX8_findAttackers_56 : decode cX8_findAttackers 56 = .ok (.iload 4, 2) := by decide +kernel
theorem dX8_findAttackers_58 : decode cX8_findAttackers 58 = .ok (.ishl, 1) := by decide +kernel
theorem dX8_findAttackers_59 : decode cX8_findAttackers 59 = .ok (.ior, 1) := by decide +kernel
theorem dX8_findAttackers_60 : decode cX8_findAttackers 60 = .ok (.istore_n 3, 1) := by decide +kernel
theorem dX8_findAttackers_61 : decode cX8_findAttackers 61 = .ok (.iinc 4 1, 3) := by decide +kernel
theorem dX8_findAttackers_64 : decode cX8_findAttackers 64 = .ok (.goto (-47), 3) := by decide +kernel
theorem dX8_findAttackers_67 : decode cX8_findAttackers 67 = .ok (.iload_n 1, 1) := by decide +kernel
theorem dX8_findAttackers_68 : decode cX8_findAttackers 68 = .ok (.iload_n 3, 1) := by decide +kernel
theorem dX8_findAttackers_69 : decode cX8_findAttackers 69 = .ok (.aload_n 0, 1) := by decide +kernel
theorem dX8_findAttackers_70 : decode cX8_findAttackers 70 = .ok (.getfield 24, 3) := by decide +kernel
theorem dX8_findAttackers_73 : decode cX8_findAttackers 73 = .ok (.iload_n 2, 1) := by decide +kernel
theorem dX8_findAttackers_74 : decode cX8_findAttackers 74 = .ok (.iaload, 1) := by decide +kernel
theorem dX8_findAttackers_75 : decode cX8_findAttackers 75 = .ok (.ixor, 1) := by decide +kernel
theorem dX8_findAttackers_76 : decode cX8_findAttackers 76 = .ok (.invokestatic 114, 3) := by decide +kernel
theorem dX8_findAttackers_79 : decode cX8_findAttackers 79 = .ok (.iadd, 1) := by decide +kernel
theorem dX8_findAttackers_80 : decode cX8_findAttackers 80 = .ok (.istore_n 1, 1) := by decide +kernel
theorem dX8_findAttackers_81 : decode cX8_findAttackers 81 = .ok (.aload_n 0, 1) := by decide +kernel
theorem dX8_findAttackers_82 : decode cX8_findAttackers 82 = .ok (.getfield 24, 3) := by decide +kernel
theorem dX8_findAttackers_85 : decode cX8_findAttackers 85 = .ok (.iload_n 2, 1) := by decide +kernel
theorem dX8_findAttackers_86 : decode cX8_findAttackers 86 = .ok (.iload_n 3, 1) := by decide +kernel
theorem dX8_findAttackers_87 : decode cX8_findAttackers 87 = .ok (.iastore, 1) := by decide +kernel
theorem dX8_findAttackers_88 : decode cX8_findAttackers 88 = .ok (.iinc 2 1, 3) := by decide +kernel
theorem dX8_findAttackers_91 : decode cX8_findAttackers 91 = .ok (.goto (-87), 3) := by decide +kernel
theorem dX8_findAttackers_94 : decode cX8_findAttackers 94 = .ok (.iload_n 1, 1) := by decide +kernel
theorem dX8_findAttackers_95 : decode cX8_findAttackers 95 = .ok (.ireturn, 1) := by decide +kernel
theorem dX10_init_0 : decode cX10_init 0 = .ok (.aload_n 0, 1) := by decide +kernel
theorem dX10_init_1 : decode cX10_init 1 = .ok (.invokespecial 3, 3) := by decide +kernel
theorem dX10_init_4 : decode cX10_init 4 = .ok (.aload_n 0, 1) := by decide +kernel
theorem dX10_init_5 : decode cX10_init 5 = .ok (.new 9, 3) := by decide +kernel
theorem dX10_init_8 : decode cX10_init 8 = .ok (.dup, 1) := by decide +kernel
theorem dX10_init_9 : decode cX10_init 9 = .ok (.invokespecial 11, 3) := by decide +kernel
theorem dX10_init_12 : decode cX10_init 12 = .ok (.putfield 12, 3) := by decide +kernel
theorem dX10_init_15 : decode cX10_init 15 = .ok (.aload_n 0, 1) := by decide +kernel
theorem dX10_init_16 : decode cX10_init 16 = .ok (.new 9, 3) := by decide +kernel
theorem dX10_init_19 : decode cX10_init 19 = .ok (.dup, 1) := by decide +kernel
theorem dX10_init_20 : decode cX10_init 20 = .ok (.invokespecial 11, 3) := by decide +kernel
theorem dX10_init_23 : decode cX10_init 23 = .ok (.putfield 16, 3) := by decide +kernel
theorem dX10_init_26 : decode cX10_init 26 = .ok (.aload_n 0, 1) := by decide +kernel
theorem dX10_init_27 : decode cX10_init 27 = .ok (.new 9, 3) := by decide +kernel
theorem dX10_init_30 : decode cX10_init 30 = .ok (.dup, 1) := by decide +kernel
theorem dX10_init_31 : decode cX10_init 31 = .ok (.invokespecial 11, 3) := by decide +kernel
theorem dX10_init_34 : decode cX10_init 34 = .ok (.putfield 19, 3) := by decide +kernel
theorem dX10_init_37 : decode cX10_init 37 = .ok (.aload_n 0, 1) := by decide +kernel
theorem dX10_init_38 : decode cX10_init 38 = .ok (.new 22, 3) := by decide +kernel
theorem dX10_init_41 : decode cX10_init 41 = .ok (.dup, 1) := by decide +kernel
theorem dX10_init_42 : decode cX10_init 42 = .ok (.invokespecial 24, 3) := by decide +kernel
theorem dX10_init_45 : decode cX10_init 45 = .ok (.putfield 25, 3) := by decide +kernel
theorem dX10_init_48 : decode cX10_init 48 = .ok (.aload_n 0, 1) := by decide +kernel
theorem dX10_init_49 : decode cX10_init 49 = .ok (.new 29, 3) := by decide +kernel
theorem dX10_init_52 : decode cX10_init 52 = .ok (.dup, 1) := by decide +kernel
theorem dX10_init_53 : decode cX10_init 53 = .ok (.invokespecial 31, 3) := by decide +kernel
theorem dX10_init_56 : decode cX10_init 56 = .ok (.putfield 32, 3) := by decide +kernel
theorem dX10_init_59 : decode cX10_init 59 = .ok (.aload_n 0, 1) := by decide +kernel
theorem dX10_init_60 : decode cX10_init 60 = .ok (.new 36, 3) := by decide +kernel
theorem dX10_init_63 : decode cX10_init 63 = .ok (.dup, 1) := by decide +kernel
theorem dX10_init_64 : decode cX10_init 64 = .ok (.invokespecial 38, 3) := by decide +kernel
theorem dX10_init_67 : decode cX10_init 67 = .ok (.putfield 39, 3) := by decide +kernel
theorem dX10_init_70 : decode cX10_init 70 = .ok (.aload_n 0, 1) := by decide +kernel
theorem dX10_init_71 : decode cX10_init 71 = .ok (.new 43, 3) := by decide +kernel
theorem dX10_init_74 : decode cX10_init 74 = .ok (.dup, 1) := by decide +kernel
theorem dX10_init_75 : decode cX10_init 75 = .ok (.invokespecial 45, 3) := by decide +kernel
theorem dX10_init_78 : decode cX10_init 78 = .ok (.putfield 46, 3) := by decide +kernel
theorem dX10_init_81 : decode cX10_init 81 = .ok (.aload_n 0, 1) := by decide +kernel
theorem dX10_init_82 : decode cX10_init 82 = .ok (.new 50, 3) := by decide +kernel
theorem dX10_init_85 : decode cX10_init 85 = .ok (.dup, 1) := by decide +kernel
theorem dX10_init_86 : decode cX10_init 86 = .ok (.invokespecial 52, 3) := by decide +kernel
theorem dX10_init_89 : decode cX10_init 89 = .ok (.putfield 53, 3) := by decide +kernel
theorem dX10_init_92 : decode cX10_init 92 = .ok (.aload_n 0, 1) := by decide +kernel
theorem dX10_init_93 : decode cX10_init 93 = .ok (.new 57, 3) := by decide +kernel
theorem dX10_init_96 : decode cX10_init 96 = .ok (.dup, 1) := by decide +kernel
theorem dX10_init_97 : decode cX10_init 97 = .ok (.invokespecial 59, 3) := by decide +kernel
theorem dX10_init_100 : decode cX10_init 100 = .ok (.putfield 60, 3) := by decide +kernel
theorem dX10_init_103 : decode cX10_init 103 = .ok (.aload_n 0, 1) := by decide +kernel
theorem dX10_init_104 : decode cX10_init 104 = .ok (.new 57, 3) := by decide +kernel
theorem dX10_init_107 : decode cX10_init 107 = .ok (.dup, 1) := by decide +kernel
theorem dX10_init_108 : decode cX10_init 108 = .ok (.invokespecial 59, 3) := by decide +kernel
theorem dX10_init_111 : decode cX10_init 111 = .ok (.putfield 64, 3) := by decide +kernel
theorem dX10_init_114 : decode cX10_init 114 = .ok (.aload_n 0, 1) := by decide +kernel
theorem dX10_init_115 : decode cX10_init 115 = .ok (.iconst 0, 1) := by decide +kernel
theorem dX10_init_116 : decode cX10_init 116 = .ok (.putfield 67, 3) := by decide +kernel
theorem dX10_init_119 : decode cX10_init 119 = .ok (.aload_n 0, 1) := by decide +kernel
theorem dX10_init_120 : decode cX10_init 120 = .ok (.iconst (-1), 1) := by decide +kernel
theorem dX10_init_121 : decode cX10_init 121 = .ok (.putfield 71, 3) := by decide +kernel
theorem dX10_init_124 : decode cX10_init 124 = .ok (.aload_n 0, 1) := by decide +kernel
theorem dX10_init_125 : decode cX10_init 125 = .ok (.iconst (-1), 1) := by decide +kernel
theorem dX10_init_126 : decode cX10_init 126 = .ok (.putfield 75, 3) := by decide +kernel
theorem dX10_init_129 : decode cX10_init 129 = .ok (.return_, 1) := by decide +kernel
theorem dX10_addArgument_0 : decode cX10_addArgument 0 = .ok (.aload_n 0, 1) := by decide +kernel
theorem dX10_addArgument_1 : decode cX10_addArgument 1 = .ok (.getstatic 78, 3) := by decide +kernel
theorem dX10_addArgument_4 : decode cX10_addArgument 4 = .ok (.iload_n 1, 1) := by decide +kernel
theorem dX10_addArgument_5 : decode cX10_addArgument 5 = .ok (.iconst 0, 1) := by decide +kernel
theorem dX10_addArgument_6 : decode cX10_addArgument 6 = .ok (.invokevirtual 84, 3) := by decide +kernel
theorem dX10_addArgument_9 : decode cX10_addArgument 9 = .ok (.ireturn, 1) := by decide +kernel
theorem dX10_removeArgument_0 : decode cX10_removeArgument 0 = .ok (.aload_n 0, 1) := by decide +kernel
theorem dX10_removeArgument_1 : decode cX10_removeArgument 1 = .ok (.getstatic 88, 3) := by decide +kernel
theorem dX10_removeArgument_4 : decode cX10_removeArgument 4 = .ok (.iload_n 1, 1) := by decide +kernel
theorem dX10_removeArgument_5 : decode cX10_removeArgument 5 = .ok (.iconst 0, 1) := by decide +kernel
theorem dX10_removeArgument_6 : decode cX10_removeArgument 6 = .ok (.invokevirtual 84, 3) := by decide +kernel
theorem dX10_removeArgument_9 : decode cX10_removeArgument 9 = .ok (.ireturn, 1) := by decide +kernel
theorem dX10_addAttack_0 : decode cX10_addAttack 0 = .ok (.aload_n 0, 1) := by decide +kernel
theorem dX10_addAttack_1 : decode cX10_addAttack 1 = .ok (.getstatic 91, 3) := by decide +kernel
theorem dX10_addAttack_4 : decode cX10_addAttack 4 = .ok (.iload_n 1, 1) := by decide +kernel
theorem dX10_addAttack_5 : decode cX10_addAttack 5 = .ok (.iload_n 2, 1) := by decide +kernel
theorem dX10_addAttack_6 : decode cX10_addAttack 6 = .ok (.invokevirtual 84, 3) := by decide +kernel
theorem dX10_addAttack_9 : decode cX10_addAttack 9 = .ok (.ireturn, 1) := by decide +kernel
theorem dX10_removeAttack_0 : decode cX10_removeAttack 0 = .ok (.aload_n 0, 1) := by decide +kernel
theorem dX10_removeAttack_1 : decode cX10_removeAttack 1 = .ok (.getstatic 94, 3) := by decide +kernel
theorem dX10_removeAttack_4 : decode cX10_removeAttack 4 = .ok (.iload_n 1, 1) := by decide +kernel
theorem dX10_removeAttack_5 : decode cX10_removeAttack 5 = .ok (.iload_n 2, 1) := by decide +kernel
theorem dX10_removeAttack_6 : decode cX10_removeAttack 6 = .ok (.invokevirtual 84, 3) := by decide +kernel
theorem dX10_removeAttack_9 : decode cX10_removeAttack 9 = .ok (.ireturn, 1) := by decide +kernel
theorem dX10_setWeight_0 : decode cX10_setWeight 0 = .ok (.aload_n 0, 1) := by decide +kernel
theorem dX10_setWeight_1 : decode cX10_setWeight 1 = .ok (.getstatic 97, 3) := by decide +kernel
theorem dX10_setWeight_4 : decode cX10_setWeight 4 = .ok (.iload_n 1, 1) := by decide +kernel
theorem dX10_setWeight_5 : decode cX10_setWeight 5 = .ok (.iload_n 2, 1) := by decide +kernel
theorem dX10_setWeight_6 : decode cX10_setWeight 6 = .ok (.invokevirtual 84, 3) := by decide +kernel
theorem dX10_setWeight_9 : decode cX10_setWeight 9 = .ok (.ireturn, 1) := by decide +kernel
theorem dX10_renew_0 : decode cX10_renew 0 = .ok (.aload_n 0, 1) := by decide +kernel
theorem dX10_renew_1 : decode cX10_renew 1 = .ok (.getstatic 100, 3) := by decide +kernel
theorem dX10_renew_4 : decode cX10_renew 4 = .ok (.iload_n 1, 1) := by decide +kernel
theorem dX10_renew_5 : decode cX10_renew 5 = .ok (.iconst 0, 1) := by decide +kernel
theorem dX10_renew_6 : decode cX10_renew 6 = .ok (.invokevirtual 84, 3) := by decide +kernel
theorem dX10_renew_9 : decode cX10_renew 9 = .ok (.ireturn, 1) := by decide +kernel
theorem dX10_startDialogue_0 : decode cX10_startDialogue 0 = .ok (.aload_n 0, 1) := by decide +kernel
theorem dX10_startDialogue_1 : decode cX10_startDialogue 1 = .ok (.getstatic 103, 3) := by decide +kernel
theorem dX10_startDialogue_4 : decode cX10_startDialogue 4 = .ok (.iload_n 1, 1) := by decide +kernel
theorem dX10_startDialogue_5 : decode cX10_startDialogue 5 = .ok (.iconst 0, 1) := by decide +kernel
theorem dX10_startDialogue_6 : decode cX10_startDialogue 6 = .ok (.invokevirtual 84, 3) := by decide +kernel
theorem dX10_startDialogue_9 : decode cX10_startDialogue 9 = .ok (.ireturn, 1) := by decide +kernel
theorem dX10_move_0 : decode cX10_move 0 = .ok (.aload_n 0, 1) := by decide +kernel
theorem dX10_move_1 : decode cX10_move 1 = .ok (.getstatic 106, 3) := by decide +kernel
theorem dX10_move_4 : decode cX10_move 4 = .ok (.iload_n 1, 1) := by decide +kernel
theorem dX10_move_5 : decode cX10_move 5 = .ok (.iconst 0, 1) := by decide +kernel
theorem dX10_move_6 : decode cX10_move 6 = .ok (.invokevirtual 84, 3) := by decide +kernel
theorem dX10_move_9 : decode cX10_move 9 = .ok (.ireturn, 1) := by decide +kernel
theorem dX10_takeBack_0 : decode cX10_takeBack 0 = .ok (.aload_n 0, 1) := by decide +kernel
theorem dX10_takeBack_1 : decode cX10_takeBack 1 = .ok (.getstatic 109, 3) := by decide +kernel
theorem dX10_takeBack_4 : decode cX10_takeBack 4 = .ok (.iconst 0, 1) := by decide +kernel
theorem dX10_takeBack_5 : decode cX10_takeBack 5 = .ok (.iconst 0, 1) := by decide +kernel
theorem dX10_takeBack_6 : decode cX10_takeBack 6 = .ok (.invokevirtual 84, 3) := by decide +kernel
theorem dX10_takeBack_9 : decode cX10_takeBack 9 = .ok (.ireturn, 1) := by decide +kernel
theorem dX10_endDialogue_0 : decode cX10_endDialogue 0 = .ok (.aload_n 0, 1) := by decide +kernel
theorem dX10_endDialogue_1 : decode cX10_endDialogue 1 = .ok (.getstatic 112, 3) := by decide +kernel
theorem dX10_endDialogue_4 : decode cX10_endDialogue 4 = .ok (.iconst 0, 1) := by decide +kernel
theorem dX10_endDialogue_5 : decode cX10_endDialogue 5 = .ok (.iconst 0, 1) := by decide +kernel
theorem dX10_endDialogue_6 : decode cX10_endDialogue 6 = .ok (.invokevirtual 84, 3) := by decide +kernel
theorem dX10_endDialogue_9 : decode cX10_endDialogue 9 = .ok (.i2c, 1) := by decide +kernel
theorem dX10_endDialogue_10 : decode cX10_endDialogue 10 = .ok (.ireturn, 1) := by decide +kernel
theorem dX10_pass_0 : decode cX10_pass 0 = .ok (.aload_n 0, 1) := by decide +kernel
theorem dX10_pass_1 : decode cX10_pass 1 = .ok (.getstatic 115, 3) := by decide +kernel
theorem dX10_pass_4 : decode cX10_pass 4 = .ok (.iload_n 1, 1) := by decide +kernel
theorem dX10_pass_5 : decode cX10_pass 5 = .ok (.iconst 0, 1) := by decide +kernel
theorem dX10_pass_6 : decode cX10_pass 6 = .ok (.invokevirtual 84, 3) := by decide +kernel
theorem dX10_pass_9 : decode cX10_pass 9 = .ok (.ireturn, 1) := by decide +kernel
theorem dX10_day_0 : decode cX10_day 0 = .ok (.aload_n 0, 1) := by decide +kernel
theorem dX10_day_1 : decode cX10_day 1 = .ok (.getfield 12, 3) := by decide +kernel
theorem dX10_day_4 : decode cX10_day 4 = .ok (.getfield 118, 3) := by decide +kernel
theorem dX10_day_7 : decode cX10_day 7 = .ok (.ireturn, 1) := by decide +kernel
theorem dX10_argumentCount_0 : decode cX10_argumentCount 0 = .ok (.aload_n 0, 1) := by decide +kernel
theorem dX10_argumentCount_1 : decode cX10_argumentCount 1 = .ok (.getfield 12, 3) := by decide +kernel
theorem dX10_argumentCount_4 : decode cX10_argumentCount 4 = .ok (.getfield 121, 3) := by decide +kernel
theorem dX10_argumentCount_7 : decode cX10_argumentCount 7 = .ok (.ireturn, 1) := by decide +kernel
theorem dX10_idAt_0 : decode cX10_idAt 0 = .ok (.iload_n 1, 1) := by decide +kernel
theorem dX10_idAt_1 : decode cX10_idAt 1 = .ok (.ifCond .lt 14, 3) := by decide +kernel
theorem dX10_idAt_4 : decode cX10_idAt 4 = .ok (.iload_n 1, 1) := by decide +kernel
theorem dX10_idAt_5 : decode cX10_idAt 5 = .ok (.aload_n 0, 1) := by decide +kernel
theorem dX10_idAt_6 : decode cX10_idAt 6 = .ok (.getfield 12, 3) := by decide +kernel
theorem dX10_idAt_9 : decode cX10_idAt 9 = .ok (.getfield 121, 3) := by decide +kernel
theorem dX10_idAt_12 : decode cX10_idAt 12 = .ok (.if_icmp .lt 13, 3) := by decide +kernel
theorem dX10_idAt_15 : decode cX10_idAt 15 = .ok (.new 124, 3) := by decide +kernel
theorem dX10_idAt_18 : decode cX10_idAt 18 = .ok (.dup, 1) := by decide +kernel
theorem dX10_idAt_19 : decode cX10_idAt 19 = .ok (.ldc 126, 2) := by decide +kernel
theorem dX10_idAt_21 : decode cX10_idAt 21 = .ok (.invokespecial 128, 3) := by decide +kernel
theorem dX10_idAt_24 : decode cX10_idAt 24 = .ok (.athrow, 1) := by decide +kernel
theorem dX10_idAt_25 : decode cX10_idAt 25 = .ok (.aload_n 0, 1) := by decide +kernel
theorem dX10_idAt_26 : decode cX10_idAt 26 = .ok (.getfield 12, 3) := by decide +kernel
theorem dX10_idAt_29 : decode cX10_idAt 29 = .ok (.getfield 131, 3) := by decide +kernel
theorem dX10_idAt_32 : decode cX10_idAt 32 = .ok (.iload_n 1, 1) := by decide +kernel
theorem dX10_idAt_33 : decode cX10_idAt 33 = .ok (.iaload, 1) := by decide +kernel
theorem dX10_idAt_34 : decode cX10_idAt 34 = .ok (.ireturn, 1) := by decide +kernel
theorem dX10_weightOf_0 : decode cX10_weightOf 0 = .ok (.aload_n 0, 1) := by decide +kernel
theorem dX10_weightOf_1 : decode cX10_weightOf 1 = .ok (.getfield 12, 3) := by decide +kernel
theorem dX10_weightOf_4 : decode cX10_weightOf 4 = .ok (.getfield 135, 3) := by decide +kernel
theorem dX10_weightOf_7 : decode cX10_weightOf 7 = .ok (.aload_n 0, 1) := by decide +kernel
theorem dX10_weightOf_8 : decode cX10_weightOf 8 = .ok (.getfield 12, 3) := by decide +kernel
theorem dX10_weightOf_11 : decode cX10_weightOf 11 = .ok (.iload_n 1, 1) := by decide +kernel
theorem dX10_weightOf_12 : decode cX10_weightOf 12 = .ok (.invokevirtual 138, 3) := by decide +kernel
theorem dX10_weightOf_15 : decode cX10_weightOf 15 = .ok (.iaload, 1) := by decide +kernel
theorem dX10_weightOf_16 : decode cX10_weightOf 16 = .ok (.ireturn, 1) := by decide +kernel
theorem dX10_ageOf_0 : decode cX10_ageOf 0 = .ok (.aload_n 0, 1) := by decide +kernel
theorem dX10_ageOf_1 : decode cX10_ageOf 1 = .ok (.getfield 12, 3) := by decide +kernel
theorem dX10_ageOf_4 : decode cX10_ageOf 4 = .ok (.getfield 142, 3) := by decide +kernel
theorem dX10_ageOf_7 : decode cX10_ageOf 7 = .ok (.aload_n 0, 1) := by decide +kernel
theorem dX10_ageOf_8 : decode cX10_ageOf 8 = .ok (.getfield 12, 3) := by decide +kernel
theorem dX10_ageOf_11 : decode cX10_ageOf 11 = .ok (.iload_n 1, 1) := by decide +kernel
theorem dX10_ageOf_12 : decode cX10_ageOf 12 = .ok (.invokevirtual 138, 3) := by decide +kernel
theorem dX10_ageOf_15 : decode cX10_ageOf 15 = .ok (.iaload, 1) := by decide +kernel
theorem dX10_ageOf_16 : decode cX10_ageOf 16 = .ok (.ireturn, 1) := by decide +kernel
theorem dX10_strengthOf_0 : decode cX10_strengthOf 0 = .ok (.aload_n 0, 1) := by decide +kernel
theorem dX10_strengthOf_1 : decode cX10_strengthOf 1 = .ok (.getfield 12, 3) := by decide +kernel
theorem dX10_strengthOf_4 : decode cX10_strengthOf 4 = .ok (.aload_n 0, 1) := by decide +kernel
theorem dX10_strengthOf_5 : decode cX10_strengthOf 5 = .ok (.getfield 12, 3) := by decide +kernel
theorem dX10_strengthOf_8 : decode cX10_strengthOf 8 = .ok (.iload_n 1, 1) := by decide +kernel
theorem dX10_strengthOf_9 : decode cX10_strengthOf 9 = .ok (.invokevirtual 138, 3) := by decide +kernel
theorem dX10_strengthOf_12 : decode cX10_strengthOf 12 = .ok (.invokevirtual 145, 3) := by decide +kernel
theorem dX10_strengthOf_15 : decode cX10_strengthOf 15 = .ok (.ireturn, 1) := by decide +kernel
theorem dX10_attackCount_0 : decode cX10_attackCount 0 = .ok (.aload_n 0, 1) := by decide +kernel
theorem dX10_attackCount_1 : decode cX10_attackCount 1 = .ok (.getfield 12, 3) := by decide +kernel
theorem dX10_attackCount_4 : decode cX10_attackCount 4 = .ok (.invokevirtual 148, 3) := by decide +kernel
theorem dX10_attackCount_7 : decode cX10_attackCount 7 = .ok (.ireturn, 1) := by decide +kernel
theorem dX10_hasAttack_0 : decode cX10_hasAttack 0 = .ok (.aload_n 0, 1) := by decide +kernel
theorem dX10_hasAttack_1 : decode cX10_hasAttack 1 = .ok (.getfield 12, 3) := by decide +kernel
theorem dX10_hasAttack_4 : decode cX10_hasAttack 4 = .ok (.iload_n 1, 1) := by decide +kernel
theorem dX10_hasAttack_5 : decode cX10_hasAttack 5 = .ok (.invokevirtual 138, 3) := by decide +kernel
theorem dX10_hasAttack_8 : decode cX10_hasAttack 8 = .ok (.istore_n 3, 1) := by decide +kernel
theorem dX10_hasAttack_9 : decode cX10_hasAttack 9 = .ok (.aload_n 0, 1) := by decide +kernel
theorem dX10_hasAttack_10 : decode cX10_hasAttack 10 = .ok (.getfield 12, 3) := by decide +kernel
theorem dX10_hasAttack_13 : decode cX10_hasAttack 13 = .ok (.iload_n 2, 1) := by decide +kernel
theorem dX10_hasAttack_14 : decode cX10_hasAttack 14 = .ok (.invokevirtual 138, 3) := by decide +kernel
theorem dX10_hasAttack_17 : decode cX10_hasAttack 17 = .ok (.istore 4, 2) := by decide +kernel
theorem dX10_hasAttack_19 : decode cX10_hasAttack 19 = .ok (.aload_n 0, 1) := by decide +kernel
theorem dX10_hasAttack_20 : decode cX10_hasAttack 20 = .ok (.getfield 12, 3) := by decide +kernel
theorem dX10_hasAttack_23 : decode cX10_hasAttack 23 = .ok (.getfield 152, 3) := by decide +kernel
theorem dX10_hasAttack_26 : decode cX10_hasAttack 26 = .ok (.iload_n 3, 1) := by decide +kernel
theorem dX10_hasAttack_27 : decode cX10_hasAttack 27 = .ok (.iaload, 1) := by decide +kernel
theorem dX10_hasAttack_28 : decode cX10_hasAttack 28 = .ok (.iload 4, 2) := by decide +kernel
theorem dX10_hasAttack_30 : decode cX10_hasAttack 30 = .ok (.invokestatic 155, 3) := by decide +kernel
theorem dX10_hasAttack_33 : decode cX10_hasAttack 33 = .ok (.ireturn, 1) := by decide +kernel
theorem dX10_isSuccessful_0 : decode cX10_isSuccessful 0 = .ok (.aload_n 0, 1) := by decide +kernel
theorem dX10_isSuccessful_1 : decode cX10_isSuccessful 1 = .ok (.getfield 12, 3) := by decide +kernel
theorem dX10_isSuccessful_4 : decode cX10_isSuccessful 4 = .ok (.iload_n 1, 1) := by decide +kernel
theorem dX10_isSuccessful_5 : decode cX10_isSuccessful 5 = .ok (.invokevirtual 138, 3) := by decide +kernel
theorem dX10_isSuccessful_8 : decode cX10_isSuccessful 8 = .ok (.istore_n 3, 1) := by decide +kernel
theorem dX10_isSuccessful_9 : decode cX10_isSuccessful 9 = .ok (.aload_n 0, 1) := by decide +kernel
theorem dX10_isSuccessful_10 : decode cX10_isSuccessful 10 = .ok (.getfield 12, 3) := by decide +kernel
theorem dX10_isSuccessful_13 : decode cX10_isSuccessful 13 = .ok (.iload_n 2, 1) := by decide +kernel
theorem dX10_isSuccessful_14 : decode cX10_isSuccessful 14 = .ok (.invokevirtual 138, 3) := by decide +kernel
theorem dX10_isSuccessful_17 : decode cX10_isSuccessful 17 = .ok (.istore 4, 2) := by decide +kernel
theorem dX10_isSuccessful_19 : decode cX10_isSuccessful 19 = .ok (.aload_n 0, 1) := by decide +kernel
theorem dX10_isSuccessful_20 : decode cX10_isSuccessful 20 = .ok (.getfield 12, 3) := by decide +kernel
theorem dX10_isSuccessful_23 : decode cX10_isSuccessful 23 = .ok (.getfield 152, 3) := by decide +kernel
theorem dX10_isSuccessful_26 : decode cX10_isSuccessful 26 = .ok (.iload_n 3, 1) := by decide +kernel
theorem dX10_isSuccessful_27 : decode cX10_isSuccessful 27 = .ok (.iaload, 1) := by decide +kernel
theorem dX10_isSuccessful_28 : decode cX10_isSuccessful 28 = .ok (.iload 4, 2) := by decide +kernel
theorem dX10_isSuccessful_30 : decode cX10_isSuccessful 30 = .ok (.invokestatic 155, 3) := by decide +kernel
theorem dX10_isSuccessful_33 : decode cX10_isSuccessful 33 = .ok (.ifCond .ne 13, 3) := by decide +kernel
theorem dX10_isSuccessful_36 : decode cX10_isSuccessful 36 = .ok (.new 159, 3) := by decide +kernel
theorem dX10_isSuccessful_39 : decode cX10_isSuccessful 39 = .ok (.dup, 1) := by decide +kernel
theorem dX10_isSuccessful_40 : decode cX10_isSuccessful 40 = .ok (.ldc 161, 2) := by decide +kernel
theorem dX10_isSuccessful_42 : decode cX10_isSuccessful 42 = .ok (.invokespecial 163, 3) := by decide +kernel
theorem dX10_isSuccessful_45 : decode cX10_isSuccessful 45 = .ok (.athrow, 1) := by decide +kernel
theorem dX10_isSuccessful_46 : decode cX10_isSuccessful 46 = .ok (.aload_n 0, 1) := by decide +kernel
theorem dX10_isSuccessful_47 : decode cX10_isSuccessful 47 = .ok (.getfield 12, 3) := by decide +kernel
theorem dX10_isSuccessful_50 : decode cX10_isSuccessful 50 = .ok (.getfield 164, 3) := by decide +kernel
theorem dX10_isSuccessful_53 : decode cX10_isSuccessful 53 = .ok (.iload 4, 2) := by decide +kernel
theorem dX10_isSuccessful_55 : decode cX10_isSuccessful 55 = .ok (.iaload, 1) := by decide +kernel
theorem dX10_isSuccessful_56 : decode cX10_isSuccessful 56 = .ok (.iload_n 3, 1) := by decide +kernel
theorem dX10_isSuccessful_57 : decode cX10_isSuccessful 57 = .ok (.invokestatic 155, 3) := by decide +kernel
theorem dX10_isSuccessful_60 : decode cX10_isSuccessful 60 = .ok (.ireturn, 1) := by decide +kernel
theorem dX10_successfulCount_0 : decode cX10_successfulCount 0 = .ok (.iconst 0, 1) := by decide +kernel
theorem dX10_successfulCount_1 : decode cX10_successfulCount 1 = .ok (.istore_n 1, 1) := by decide +kernel
theorem dX10_successfulCount_2 : decode cX10_successfulCount 2 = .ok (.iconst 0, 1) := by decide +kernel
theorem dX10_successfulCount_3 : decode cX10_successfulCount 3 = .ok (.istore_n 2, 1) := by decide +kernel
theorem dX10_successfulCount_4 : decode cX10_successfulCount 4 = .ok (.iload_n 2, 1) := by decide +kernel
theorem dX10_successfulCount_5 : decode cX10_successfulCount 5 = .ok (.aload_n 0, 1) := by decide +kernel
theorem dX10_successfulCount_6 : decode cX10_successfulCount 6 = .ok (.getfield 12, 3) := by decide +kernel
theorem dX10_successfulCount_9 : decode cX10_successfulCount 9 = .ok (.getfield 121, 3) := by decide +kernel
theorem dX10_successfulCount_12 : decode cX10_successfulCount 12 = .ok (.if_icmp .ge 24, 3) := by decide +kernel
theorem dX10_successfulCount_15 : decode cX10_successfulCount 15 = .ok (.iload_n 1, 1) := by decide +kernel
theorem dX10_successfulCount_16 : decode cX10_successfulCount 16 = .ok (.aload_n 0, 1) := by decide +kernel
theorem dX10_successfulCount_17 : decode cX10_successfulCount 17 = .ok (.getfield 12, 3) := by decide +kernel
theorem dX10_successfulCount_20 : decode cX10_successfulCount 20 = .ok (.getfield 164, 3) := by decide +kernel
theorem dX10_successfulCount_23 : decode cX10_successfulCount 23 = .ok (.iload_n 2, 1) := by decide +kernel
theorem dX10_successfulCount_24 : decode cX10_successfulCount 24 = .ok (.iaload, 1) := by decide +kernel
theorem dX10_successfulCount_25 : decode cX10_successfulCount 25 = .ok (.invokestatic 167, 3) := by decide +kernel
theorem dX10_successfulCount_28 : decode cX10_successfulCount 28 = .ok (.iadd, 1) := by decide +kernel
theorem dX10_successfulCount_29 : decode cX10_successfulCount 29 = .ok (.istore_n 1, 1) := by decide +kernel
theorem dX10_successfulCount_30 : decode cX10_successfulCount 30 = .ok (.iinc 2 1, 3) := by decide +kernel
theorem dX10_successfulCount_33 : decode cX10_successfulCount 33 = .ok (.goto (-29), 3) := by decide +kernel
theorem dX10_successfulCount_36 : decode cX10_successfulCount 36 = .ok (.iload_n 1, 1) := by decide +kernel
theorem dX10_successfulCount_37 : decode cX10_successfulCount 37 = .ok (.ireturn, 1) := by decide +kernel
theorem dX10_attackerCount_0 : decode cX10_attackerCount 0 = .ok (.aload_n 0, 1) := by decide +kernel
theorem dX10_attackerCount_1 : decode cX10_attackerCount 1 = .ok (.getfield 12, 3) := by decide +kernel
theorem dX10_attackerCount_4 : decode cX10_attackerCount 4 = .ok (.getfield 164, 3) := by decide +kernel
theorem dX10_attackerCount_7 : decode cX10_attackerCount 7 = .ok (.aload_n 0, 1) := by decide +kernel
theorem dX10_attackerCount_8 : decode cX10_attackerCount 8 = .ok (.getfield 12, 3) := by decide +kernel
theorem dX10_attackerCount_11 : decode cX10_attackerCount 11 = .ok (.iload_n 1, 1) := by decide +kernel
theorem dX10_attackerCount_12 : decode cX10_attackerCount 12 = .ok (.invokevirtual 138, 3) := by decide +kernel
theorem dX10_attackerCount_15 : decode cX10_attackerCount 15 = .ok (.iaload, 1) := by decide +kernel
theorem dX10_attackerCount_16 : decode cX10_attackerCount 16 = .ok (.invokestatic 167, 3) := by decide +kernel
theorem dX10_attackerCount_19 : decode cX10_attackerCount 19 = .ok (.ireturn, 1) := by decide +kernel
theorem dX10_attackerAt_0 : decode cX10_attackerAt 0 = .ok (.aload_n 0, 1) := by decide +kernel
theorem dX10_attackerAt_1 : decode cX10_attackerAt 1 = .ok (.getfield 12, 3) := by decide +kernel
theorem dX10_attackerAt_4 : decode cX10_attackerAt 4 = .ok (.getfield 164, 3) := by decide +kernel
theorem dX10_attackerAt_7 : decode cX10_attackerAt 7 = .ok (.aload_n 0, 1) := by decide +kernel
theorem dX10_attackerAt_8 : decode cX10_attackerAt 8 = .ok (.getfield 12, 3) := by decide +kernel
theorem dX10_attackerAt_11 : decode cX10_attackerAt 11 = .ok (.iload_n 1, 1) := by decide +kernel
theorem dX10_attackerAt_12 : decode cX10_attackerAt 12 = .ok (.invokevirtual 138, 3) := by decide +kernel
theorem dX10_attackerAt_15 : decode cX10_attackerAt 15 = .ok (.iaload, 1) := by decide +kernel
theorem dX10_attackerAt_16 : decode cX10_attackerAt 16 = .ok (.istore_n 3, 1) := by decide +kernel
theorem dX10_attackerAt_17 : decode cX10_attackerAt 17 = .ok (.iconst 0, 1) := by decide +kernel
theorem dX10_attackerAt_18 : decode cX10_attackerAt 18 = .ok (.istore 4, 2) := by decide +kernel
theorem dX10_attackerAt_20 : decode cX10_attackerAt 20 = .ok (.iconst 0, 1) := by decide +kernel
theorem dX10_attackerAt_21 : decode cX10_attackerAt 21 = .ok (.istore 5, 2) := by decide +kernel
theorem dX10_attackerAt_23 : decode cX10_attackerAt 23 = .ok (.iload 5, 2) := by decide +kernel
theorem dX10_attackerAt_25 : decode cX10_attackerAt 25 = .ok (.aload_n 0, 1) := by decide +kernel
theorem dX10_attackerAt_26 : decode cX10_attackerAt 26 = .ok (.getfield 12, 3) := by decide +kernel
theorem dX10_attackerAt_29 : decode cX10_attackerAt 29 = .ok (.getfield 121, 3) := by decide +kernel
theorem dX10_attackerAt_32 : decode cX10_attackerAt 32 = .ok (.if_icmp .ge 38, 3) := by decide +kernel
theorem dX10_attackerAt_35 : decode cX10_attackerAt 35 = .ok (.iload_n 3, 1) := by decide +kernel
theorem dX10_attackerAt_36 : decode cX10_attackerAt 36 = .ok (.iload 5, 2) := by decide +kernel
theorem dX10_attackerAt_38 : decode cX10_attackerAt 38 = .ok (.invokestatic 155, 3) := by decide +kernel
theorem dX10_attackerAt_41 : decode cX10_attackerAt 41 = .ok (.ifCond .eq 23, 3) := by decide +kernel
theorem dX10_attackerAt_44 : decode cX10_attackerAt 44 = .ok (.iload 4, 2) := by decide +kernel
theorem dX10_attackerAt_46 : decode cX10_attackerAt 46 = .ok (.iload_n 2, 1) := by decide +kernel
theorem dX10_attackerAt_47 : decode cX10_attackerAt 47 = .ok (.if_icmp .ne 14, 3) := by decide +kernel
theorem dX10_attackerAt_50 : decode cX10_attackerAt 50 = .ok (.aload_n 0, 1) := by decide +kernel
theorem dX10_attackerAt_51 : decode cX10_attackerAt 51 = .ok (.getfield 12, 3) := by decide +kernel
theorem dX10_attackerAt_54 : decode cX10_attackerAt 54 = .ok (.getfield 131, 3) := by decide +kernel
theorem dX10_attackerAt_57 : decode cX10_attackerAt 57 = .ok (.iload 5, 2) := by decide +kernel
theorem dX10_attackerAt_59 : decode cX10_attackerAt 59 = .ok (.iaload, 1) := by decide +kernel
theorem dX10_attackerAt_60 : decode cX10_attackerAt 60 = .ok (.ireturn, 1) := by decide +kernel
theorem dX10_attackerAt_61 : decode cX10_attackerAt 61 = .ok (.iinc 4 1, 3) := by decide +kernel
theorem dX10_attackerAt_64 : decode cX10_attackerAt 64 = .ok (.iinc 5 1, 3) := by decide +kernel
theorem dX10_attackerAt_67 : decode cX10_attackerAt 67 = .ok (.goto (-44), 3) := by decide +kernel
theorem dX10_attackerAt_70 : decode cX10_attackerAt 70 = .ok (.new 124, 3) := by decide +kernel
theorem dX10_attackerAt_73 : decode cX10_attackerAt 73 = .ok (.dup, 1) := by decide +kernel
theorem dX10_attackerAt_74 : decode cX10_attackerAt 74 = .ok (.ldc 172, 2) := by decide +kernel
theorem dX10_attackerAt_76 : decode cX10_attackerAt 76 = .ok (.invokespecial 128, 3) := by decide +kernel
theorem dX10_attackerAt_79 : decode cX10_attackerAt 79 = .ok (.athrow, 1) := by decide +kernel
theorem dX10_status_0 : decode cX10_status 0 = .ok (.aload_n 0, 1) := by decide +kernel
theorem dX10_status_1 : decode cX10_status 1 = .ok (.getfield 12, 3) := by decide +kernel
theorem dX10_status_4 : decode cX10_status 4 = .ok (.iload_n 1, 1) := by decide +kernel
theorem dX10_status_5 : decode cX10_status 5 = .ok (.invokevirtual 138, 3) := by decide +kernel
theorem dX10_status_8 : decode cX10_status 8 = .ok (.istore_n 2, 1) := by decide +kernel
theorem dX10_status_9 : decode cX10_status 9 = .ok (.aload_n 0, 1) := by decide +kernel
theorem dX10_status_10 : decode cX10_status 10 = .ok (.getfield 32, 3) := by decide +kernel
theorem dX10_status_13 : decode cX10_status 13 = .ok (.aload_n 0, 1) := by decide +kernel
theorem dX10_status_14 : decode cX10_status 14 = .ok (.getfield 12, 3) := by decide +kernel
theorem dX10_status_17 : decode cX10_status 17 = .ok (.invokevirtual 174, 3) := by decide +kernel
theorem dX10_status_20 : decode cX10_status 20 = .ok (.aload_n 0, 1) := by decide +kernel
theorem dX10_status_21 : decode cX10_status 21 = .ok (.getfield 32, 3) := by decide +kernel
theorem dX10_status_24 : decode cX10_status 24 = .ok (.iload_n 2, 1) := by decide +kernel
theorem dX10_status_25 : decode cX10_status 25 = .ok (.invokevirtual 178, 3) := by decide +kernel
theorem dX10_status_28 : decode cX10_status 28 = .ok (.ireturn, 1) := by decide +kernel
theorem dX10_roundOf_0 : decode cX10_roundOf 0 = .ok (.aload_n 0, 1) := by decide +kernel
theorem dX10_roundOf_1 : decode cX10_roundOf 1 = .ok (.getfield 12, 3) := by decide +kernel
theorem dX10_roundOf_4 : decode cX10_roundOf 4 = .ok (.iload_n 1, 1) := by decide +kernel
theorem dX10_roundOf_5 : decode cX10_roundOf 5 = .ok (.invokevirtual 138, 3) := by decide +kernel
theorem dX10_roundOf_8 : decode cX10_roundOf 8 = .ok (.istore_n 2, 1) := by decide +kernel
theorem dX10_roundOf_9 : decode cX10_roundOf 9 = .ok (.aload_n 0, 1) := by decide +kernel
theorem dX10_roundOf_10 : decode cX10_roundOf 10 = .ok (.getfield 32, 3) := by decide +kernel
theorem dX10_roundOf_13 : decode cX10_roundOf 13 = .ok (.aload_n 0, 1) := by decide +kernel
theorem dX10_roundOf_14 : decode cX10_roundOf 14 = .ok (.getfield 12, 3) := by decide +kernel
theorem dX10_roundOf_17 : decode cX10_roundOf 17 = .ok (.invokevirtual 174, 3) := by decide +kernel
theorem dX10_roundOf_20 : decode cX10_roundOf 20 = .ok (.aload_n 0, 1) := by decide +kernel
theorem dX10_roundOf_21 : decode cX10_roundOf 21 = .ok (.getfield 32, 3) := by decide +kernel
theorem dX10_roundOf_24 : decode cX10_roundOf 24 = .ok (.iload_n 2, 1) := by decide +kernel
theorem dX10_roundOf_25 : decode cX10_roundOf 25 = .ok (.invokevirtual 178, 3) := by decide +kernel
theorem dX10_roundOf_28 : decode cX10_roundOf 28 = .ok (.bipush 117, 2) := by decide +kernel
theorem dX10_roundOf_30 : decode cX10_roundOf 30 = .ok (.if_icmp .ne 13, 3) := by decide +kernel
theorem dX10_roundOf_33 : decode cX10_roundOf 33 = .ok (.new 159, 3) := by decide +kernel
theorem dX10_roundOf_36 : decode cX10_roundOf 36 = .ok (.dup, 1) := by decide +kernel
theorem dX10_roundOf_37 : decode cX10_roundOf 37 = .ok (.ldc 182, 2) := by decide +kernel
theorem dX10_roundOf_39 : decode cX10_roundOf 39 = .ok (.invokespecial 163, 3) := by decide +kernel
theorem dX10_roundOf_42 : decode cX10_roundOf 42 = .ok (.athrow, 1) := by decide +kernel
theorem dX10_roundOf_43 : decode cX10_roundOf 43 = .ok (.aload_n 0, 1) := by decide +kernel
theorem dX10_roundOf_44 : decode cX10_roundOf 44 = .ok (.getfield 32, 3) := by decide +kernel
theorem dX10_roundOf_47 : decode cX10_roundOf 47 = .ok (.getfield 184, 3) := by decide +kernel
theorem dX10_roundOf_50 : decode cX10_roundOf 50 = .ok (.iload_n 2, 1) := by decide +kernel
theorem dX10_roundOf_51 : decode cX10_roundOf 51 = .ok (.iaload, 1) := by decide +kernel
theorem dX10_roundOf_52 : decode cX10_roundOf 52 = .ok (.ireturn, 1) := by decide +kernel
theorem dX10_isAcceptedByGame_0 : decode cX10_isAcceptedByGame 0 = .ok (.aload_n 0, 1) := by decide +kernel
theorem dX10_isAcceptedByGame_1 : decode cX10_isAcceptedByGame 1 = .ok (.getfield 39, 3) := by decide +kernel
theorem dX10_isAcceptedByGame_4 : decode cX10_isAcceptedByGame 4 = .ok (.aload_n 0, 1) := by decide +kernel
theorem dX10_isAcceptedByGame_5 : decode cX10_isAcceptedByGame 5 = .ok (.getfield 12, 3) := by decide +kernel
theorem dX10_isAcceptedByGame_8 : decode cX10_isAcceptedByGame 8 = .ok (.aload_n 0, 1) := by decide +kernel
theorem dX10_isAcceptedByGame_9 : decode cX10_isAcceptedByGame 9 = .ok (.getfield 12, 3) := by decide +kernel
theorem dX10_isAcceptedByGame_12 : decode cX10_isAcceptedByGame 12 = .ok (.iload_n 1, 1) := by decide +kernel
theorem dX10_isAcceptedByGame_13 : decode cX10_isAcceptedByGame 13 = .ok (.invokevirtual 138, 3) := by decide +kernel
theorem dX10_isAcceptedByGame_16 : decode cX10_isAcceptedByGame 16 = .ok (.invokevirtual 187, 3) := by decide +kernel
theorem dX10_isAcceptedByGame_19 : decode cX10_isAcceptedByGame 19 = .ok (.ireturn, 1) := by decide +kernel
theorem dX10_canOpponentWin_0 : decode cX10_canOpponentWin 0 = .ok (.aload_n 0, 1) := by decide +kernel
theorem dX10_canOpponentWin_1 : decode cX10_canOpponentWin 1 = .ok (.iload_n 1, 1) := by decide +kernel
theorem dX10_canOpponentWin_2 : decode cX10_canOpponentWin 2 = .ok (.invokevirtual 191, 3) := by decide +kernel
theorem dX10_canOpponentWin_5 : decode cX10_canOpponentWin 5 = .ok (.ifCond .ne 7, 3) := by decide +kernel
theorem dX10_canOpponentWin_8 : decode cX10_canOpponentWin 8 = .ok (.iconst 1, 1) := by decide +kernel
theorem dX10_canOpponentWin_9 : decode cX10_canOpponentWin 9 = .ok (.goto 4, 3) := by decide +kernel
theorem dX10_canOpponentWin_12 : decode cX10_canOpponentWin 12 = .ok (.iconst 0, 1) := by decide +kernel
theorem dX10_canOpponentWin_13 : decode cX10_canOpponentWin 13 = .ok (.ireturn, 1) := by decide +kernel
theorem dX10_acceptedCount_0 : decode cX10_acceptedCount 0 = .ok (.aload_n 0, 1) := by decide +kernel
theorem dX10_acceptedCount_1 : decode cX10_acceptedCount 1 = .ok (.getfield 32, 3) := by decide +kernel
theorem dX10_acceptedCount_4 : decode cX10_acceptedCount 4 = .ok (.aload_n 0, 1) := by decide +kernel
theorem dX10_acceptedCount_5 : decode cX10_acceptedCount 5 = .ok (.getfield 12, 3) := by decide +kernel
theorem dX10_acceptedCount_8 : decode cX10_acceptedCount 8 = .ok (.invokevirtual 174, 3) := by decide +kernel
theorem dX10_acceptedCount_11 : decode cX10_acceptedCount 11 = .ok (.aload_n 0, 1) := by decide +kernel
theorem dX10_acceptedCount_12 : decode cX10_acceptedCount 12 = .ok (.getfield 32, 3) := by decide +kernel
theorem dX10_acceptedCount_15 : decode cX10_acceptedCount 15 = .ok (.getfield 195, 3) := by decide +kernel
theorem dX10_acceptedCount_18 : decode cX10_acceptedCount 18 = .ok (.invokestatic 167, 3) := by decide +kernel
theorem dX10_acceptedCount_21 : decode cX10_acceptedCount 21 = .ok (.ireturn, 1) := by decide +kernel
theorem dX10_undecidedCount_0 : decode cX10_undecidedCount 0 = .ok (.aload_n 0, 1) := by decide +kernel
theorem dX10_undecidedCount_1 : decode cX10_undecidedCount 1 = .ok (.getfield 32, 3) := by decide +kernel
theorem dX10_undecidedCount_4 : decode cX10_undecidedCount 4 = .ok (.aload_n 0, 1) := by decide +kernel
theorem dX10_undecidedCount_5 : decode cX10_undecidedCount 5 = .ok (.getfield 12, 3) := by decide +kernel
theorem dX10_undecidedCount_8 : decode cX10_undecidedCount 8 = .ok (.invokevirtual 174, 3) := by decide +kernel
theorem dX10_undecidedCount_11 : decode cX10_undecidedCount 11 = .ok (.aload_n 0, 1) := by decide +kernel
theorem dX10_undecidedCount_12 : decode cX10_undecidedCount 12 = .ok (.getfield 12, 3) := by decide +kernel
theorem dX10_undecidedCount_15 : decode cX10_undecidedCount 15 = .ok (.getfield 121, 3) := by decide +kernel
theorem dX10_undecidedCount_18 : decode cX10_undecidedCount 18 = .ok (.aload_n 0, 1) := by decide +kernel
theorem dX10_undecidedCount_19 : decode cX10_undecidedCount 19 = .ok (.getfield 32, 3) := by decide +kernel
theorem dX10_undecidedCount_22 : decode cX10_undecidedCount 22 = .ok (.getfield 195, 3) := by decide +kernel
theorem dX10_undecidedCount_25 : decode cX10_undecidedCount 25 = .ok (.aload_n 0, 1) := by decide +kernel
theorem dX10_undecidedCount_26 : decode cX10_undecidedCount 26 = .ok (.getfield 32, 3) := by decide +kernel
theorem dX10_undecidedCount_29 : decode cX10_undecidedCount 29 = .ok (.getfield 198, 3) := by decide +kernel
theorem dX10_undecidedCount_32 : decode cX10_undecidedCount 32 = .ok (.ior, 1) := by decide +kernel
theorem dX10_undecidedCount_33 : decode cX10_undecidedCount 33 = .ok (.invokestatic 167, 3) := by decide +kernel
theorem dX10_undecidedCount_36 : decode cX10_undecidedCount 36 = .ok (.isub, 1) := by decide +kernel
theorem dX10_undecidedCount_37 : decode cX10_undecidedCount 37 = .ok (.ireturn, 1) := by decide +kernel
theorem dX10_stableCount_0 : decode cX10_stableCount 0 = .ok (.aload_n 0, 1) := by decide +kernel
theorem dX10_stableCount_1 : decode cX10_stableCount 1 = .ok (.getfield 46, 3) := by decide +kernel
theorem dX10_stableCount_4 : decode cX10_stableCount 4 = .ok (.aload_n 0, 1) := by decide +kernel
theorem dX10_stableCount_5 : decode cX10_stableCount 5 = .ok (.getfield 12, 3) := by decide +kernel
theorem dX10_stableCount_8 : decode cX10_stableCount 8 = .ok (.invokevirtual 201, 3) := by decide +kernel
theorem dX10_stableCount_11 : decode cX10_stableCount 11 = .ok (.ireturn, 1) := by decide +kernel
theorem dX10_stableCountByLabels_0 : decode cX10_stableCountByLabels 0 = .ok (.aload_n 0, 1) := by decide +kernel
theorem dX10_stableCountByLabels_1 : decode cX10_stableCountByLabels 1 = .ok (.getfield 46, 3) := by decide +kernel
theorem dX10_stableCountByLabels_4 : decode cX10_stableCountByLabels 4 = .ok (.aload_n 0, 1) := by decide +kernel
theorem dX10_stableCountByLabels_5 : decode cX10_stableCountByLabels 5 = .ok (.getfield 12, 3) := by decide +kernel
theorem dX10_stableCountByLabels_8 : decode cX10_stableCountByLabels 8 = .ok (.invokevirtual 205, 3) := by decide +kernel
theorem dX10_stableCountByLabels_11 : decode cX10_stableCountByLabels 11 = .ok (.ireturn, 1) := by decide +kernel
theorem dX10_preferredCount_0 : decode cX10_preferredCount 0 = .ok (.aload_n 0, 1) := by decide +kernel
theorem dX10_preferredCount_1 : decode cX10_preferredCount 1 = .ok (.getfield 46, 3) := by decide +kernel
theorem dX10_preferredCount_4 : decode cX10_preferredCount 4 = .ok (.aload_n 0, 1) := by decide +kernel
theorem dX10_preferredCount_5 : decode cX10_preferredCount 5 = .ok (.getfield 12, 3) := by decide +kernel
theorem dX10_preferredCount_8 : decode cX10_preferredCount 8 = .ok (.invokevirtual 208, 3) := by decide +kernel
theorem dX10_preferredCount_11 : decode cX10_preferredCount 11 = .ok (.aload_n 0, 1) := by decide +kernel
theorem dX10_preferredCount_12 : decode cX10_preferredCount 12 = .ok (.getfield 46, 3) := by decide +kernel
theorem dX10_preferredCount_15 : decode cX10_preferredCount 15 = .ok (.iconst 0, 1) := by decide +kernel
theorem dX10_preferredCount_16 : decode cX10_preferredCount 16 = .ok (.invokevirtual 211, 3) := by decide +kernel
theorem dX10_preferredCount_19 : decode cX10_preferredCount 19 = .ok (.ireturn, 1) := by decide +kernel
theorem dX10_greatestAdmissible_0 : decode cX10_greatestAdmissible 0 = .ok (.aload_n 0, 1) := by decide +kernel
theorem dX10_greatestAdmissible_1 : decode cX10_greatestAdmissible 1 = .ok (.getfield 46, 3) := by decide +kernel
theorem dX10_greatestAdmissible_4 : decode cX10_greatestAdmissible 4 = .ok (.aload_n 0, 1) := by decide +kernel
theorem dX10_greatestAdmissible_5 : decode cX10_greatestAdmissible 5 = .ok (.getfield 12, 3) := by decide +kernel
theorem dX10_greatestAdmissible_8 : decode cX10_greatestAdmissible 8 = .ok (.invokevirtual 214, 3) := by decide +kernel
theorem dX10_greatestAdmissible_11 : decode cX10_greatestAdmissible 11 = .ok (.ireturn, 1) := by decide +kernel
theorem dX10_isCredible_0 : decode cX10_isCredible 0 = .ok (.aload_n 0, 1) := by decide +kernel
theorem dX10_isCredible_1 : decode cX10_isCredible 1 = .ok (.iload_n 1, 1) := by decide +kernel
theorem dX10_isCredible_2 : decode cX10_isCredible 2 = .ok (.iload_n 1, 1) := by decide +kernel
theorem dX10_isCredible_3 : decode cX10_isCredible 3 = .ok (.invokevirtual 217, 3) := by decide +kernel
theorem dX10_isCredible_6 : decode cX10_isCredible 6 = .ok (.ireturn, 1) := by decide +kernel
theorem dX10_isCertain_0 : decode cX10_isCertain 0 = .ok (.iconst 1, 1) := by decide +kernel
theorem dX10_isCertain_1 : decode cX10_isCertain 1 = .ok (.aload_n 0, 1) := by decide +kernel
theorem dX10_isCertain_2 : decode cX10_isCertain 2 = .ok (.getfield 12, 3) := by decide +kernel
theorem dX10_isCertain_5 : decode cX10_isCertain 5 = .ok (.iload_n 1, 1) := by decide +kernel
theorem dX10_isCertain_6 : decode cX10_isCertain 6 = .ok (.invokevirtual 138, 3) := by decide +kernel
theorem dX10_isCertain_9 : decode cX10_isCertain 9 = .ok (.ishl, 1) := by decide +kernel
theorem dX10_isCertain_10 : decode cX10_isCertain 10 = .ok (.istore_n 2, 1) := by decide +kernel
theorem dX10_isCertain_11 : decode cX10_isCertain 11 = .ok (.aload_n 0, 1) := by decide +kernel
theorem dX10_isCertain_12 : decode cX10_isCertain 12 = .ok (.getfield 46, 3) := by decide +kernel
theorem dX10_isCertain_15 : decode cX10_isCertain 15 = .ok (.aload_n 0, 1) := by decide +kernel
theorem dX10_isCertain_16 : decode cX10_isCertain 16 = .ok (.getfield 12, 3) := by decide +kernel
theorem dX10_isCertain_19 : decode cX10_isCertain 19 = .ok (.invokevirtual 208, 3) := by decide +kernel
theorem dX10_isCertain_22 : decode cX10_isCertain 22 = .ok (.aload_n 0, 1) := by decide +kernel
theorem dX10_isCertain_23 : decode cX10_isCertain 23 = .ok (.getfield 46, 3) := by decide +kernel
theorem dX10_isCertain_26 : decode cX10_isCertain 26 = .ok (.iload_n 2, 1) := by decide +kernel
theorem dX10_isCertain_27 : decode cX10_isCertain 27 = .ok (.invokevirtual 211, 3) := by decide +kernel
theorem dX10_isCertain_30 : decode cX10_isCertain 30 = .ok (.aload_n 0, 1) := by decide +kernel
theorem dX10_isCertain_31 : decode cX10_isCertain 31 = .ok (.getfield 46, 3) := by decide +kernel
theorem dX10_isCertain_34 : decode cX10_isCertain 34 = .ok (.iconst 0, 1) := by decide +kernel
theorem dX10_isCertain_35 : decode cX10_isCertain 35 = .ok (.invokevirtual 211, 3) := by decide +kernel
theorem dX10_isCertain_38 : decode cX10_isCertain 38 = .ok (.if_icmp .ne 7, 3) := by decide +kernel
theorem dX10_isCertain_41 : decode cX10_isCertain 41 = .ok (.iconst 1, 1) := by decide +kernel
theorem dX10_isCertain_42 : decode cX10_isCertain 42 = .ok (.goto 4, 3) := by decide +kernel
theorem dX10_isCertain_45 : decode cX10_isCertain 45 = .ok (.iconst 0, 1) := by decide +kernel
theorem dX10_isCertain_46 : decode cX10_isCertain 46 = .ok (.ireturn, 1) := by decide +kernel
theorem dX10_canStandTogether_0 : decode cX10_canStandTogether 0 = .ok (.iconst 1, 1) := by decide +kernel
theorem dX10_canStandTogether_1 : decode cX10_canStandTogether 1 = .ok (.aload_n 0, 1) := by decide +kernel
theorem dX10_canStandTogether_2 : decode cX10_canStandTogether 2 = .ok (.getfield 12, 3) := by decide +kernel
theorem dX10_canStandTogether_5 : decode cX10_canStandTogether 5 = .ok (.iload_n 1, 1) := by decide +kernel
theorem dX10_canStandTogether_6 : decode cX10_canStandTogether 6 = .ok (.invokevirtual 138, 3) := by decide +kernel
theorem dX10_canStandTogether_9 : decode cX10_canStandTogether 9 = .ok (.ishl, 1) := by decide +kernel
theorem dX10_canStandTogether_10 : decode cX10_canStandTogether 10 = .ok (.iconst 1, 1) := by decide +kernel
theorem dX10_canStandTogether_11 : decode cX10_canStandTogether 11 = .ok (.aload_n 0, 1) := by decide +kernel
theorem dX10_canStandTogether_12 : decode cX10_canStandTogether 12 = .ok (.getfield 12, 3) := by decide +kernel
theorem dX10_canStandTogether_15 : decode cX10_canStandTogether 15 = .ok (.iload_n 2, 1) := by decide +kernel
theorem dX10_canStandTogether_16 : decode cX10_canStandTogether 16 = .ok (.invokevirtual 138, 3) := by decide +kernel
theorem dX10_canStandTogether_19 : decode cX10_canStandTogether 19 = .ok (.ishl, 1) := by decide +kernel
theorem dX10_canStandTogether_20 : decode cX10_canStandTogether 20 = .ok (.ior, 1) := by decide +kernel
theorem dX10_canStandTogether_21 : decode cX10_canStandTogether 21 = .ok (.istore_n 3, 1) := by decide +kernel
theorem dX10_canStandTogether_22 : decode cX10_canStandTogether 22 = .ok (.aload_n 0, 1) := by decide +kernel
theorem dX10_canStandTogether_23 : decode cX10_canStandTogether 23 = .ok (.getfield 46, 3) := by decide +kernel
theorem dX10_canStandTogether_26 : decode cX10_canStandTogether 26 = .ok (.aload_n 0, 1) := by decide +kernel
theorem dX10_canStandTogether_27 : decode cX10_canStandTogether 27 = .ok (.getfield 12, 3) := by decide +kernel
theorem dX10_canStandTogether_30 : decode cX10_canStandTogether 30 = .ok (.invokevirtual 208, 3) := by decide +kernel
theorem dX10_canStandTogether_33 : decode cX10_canStandTogether 33 = .ok (.aload_n 0, 1) := by decide +kernel
theorem dX10_canStandTogether_34 : decode cX10_canStandTogether 34 = .ok (.getfield 46, 3) := by decide +kernel
theorem dX10_canStandTogether_37 : decode cX10_canStandTogether 37 = .ok (.iload_n 3, 1) := by decide +kernel
theorem dX10_canStandTogether_38 : decode cX10_canStandTogether 38 = .ok (.invokevirtual 211, 3) := by decide +kernel
theorem dX10_canStandTogether_41 : decode cX10_canStandTogether 41 = .ok (.ifCond .le 7, 3) := by decide +kernel
theorem dX10_canStandTogether_44 : decode cX10_canStandTogether 44 = .ok (.iconst 1, 1) := by decide +kernel
theorem dX10_canStandTogether_45 : decode cX10_canStandTogether 45 = .ok (.goto 4, 3) := by decide +kernel
theorem dX10_canStandTogether_48 : decode cX10_canStandTogether 48 = .ok (.iconst 0, 1) := by decide +kernel
theorem dX10_canStandTogether_49 : decode cX10_canStandTogether 49 = .ok (.ireturn, 1) := by decide +kernel
theorem dX10_hasCycle_0 : decode cX10_hasCycle 0 = .ok (.aload_n 0, 1) := by decide +kernel
theorem dX10_hasCycle_1 : decode cX10_hasCycle 1 = .ok (.getfield 12, 3) := by decide +kernel
theorem dX10_hasCycle_4 : decode cX10_hasCycle 4 = .ok (.invokestatic 220, 3) := by decide +kernel
theorem dX10_hasCycle_7 : decode cX10_hasCycle 7 = .ok (.ireturn, 1) := by decide +kernel
theorem dX10_hasCycleBySearch_0 : decode cX10_hasCycleBySearch 0 = .ok (.aload_n 0, 1) := by decide +kernel
theorem dX10_hasCycleBySearch_1 : decode cX10_hasCycleBySearch 1 = .ok (.getfield 12, 3) := by decide +kernel
theorem dX10_hasCycleBySearch_4 : decode cX10_hasCycleBySearch 4 = .ok (.invokestatic 226, 3) := by decide +kernel
theorem dX10_hasCycleBySearch_7 : decode cX10_hasCycleBySearch 7 = .ok (.ireturn, 1) := by decide +kernel
theorem dX10_daysUntilChange_0 : decode cX10_daysUntilChange 0 = .ok (.aload_n 0, 1) := by decide +kernel
theorem dX10_daysUntilChange_1 : decode cX10_daysUntilChange 1 = .ok (.getfield 32, 3) := by decide +kernel
theorem dX10_daysUntilChange_4 : decode cX10_daysUntilChange 4 = .ok (.aload_n 0, 1) := by decide +kernel
theorem dX10_daysUntilChange_5 : decode cX10_daysUntilChange 5 = .ok (.getfield 12, 3) := by decide +kernel
theorem dX10_daysUntilChange_8 : decode cX10_daysUntilChange 8 = .ok (.invokevirtual 174, 3) := by decide +kernel
theorem dX10_daysUntilChange_11 : decode cX10_daysUntilChange 11 = .ok (.aload_n 0, 1) := by decide +kernel
theorem dX10_daysUntilChange_12 : decode cX10_daysUntilChange 12 = .ok (.getfield 32, 3) := by decide +kernel
theorem dX10_daysUntilChange_15 : decode cX10_daysUntilChange 15 = .ok (.getfield 195, 3) := by decide +kernel
theorem dX10_daysUntilChange_18 : decode cX10_daysUntilChange 18 = .ok (.istore_n 1, 1) := by decide +kernel
theorem dX10_daysUntilChange_19 : decode cX10_daysUntilChange 19 = .ok (.aload_n 0, 1) := by decide +kernel
theorem dX10_daysUntilChange_20 : decode cX10_daysUntilChange 20 = .ok (.getfield 32, 3) := by decide +kernel
theorem dX10_daysUntilChange_23 : decode cX10_daysUntilChange 23 = .ok (.getfield 198, 3) := by decide +kernel
theorem dX10_daysUntilChange_26 : decode cX10_daysUntilChange 26 = .ok (.istore_n 2, 1) := by decide +kernel
theorem dX10_daysUntilChange_27 : decode cX10_daysUntilChange 27 = .ok (.aload_n 0, 1) := by decide +kernel
theorem dX10_daysUntilChange_28 : decode cX10_daysUntilChange 28 = .ok (.getfield 19, 3) := by decide +kernel
theorem dX10_daysUntilChange_31 : decode cX10_daysUntilChange 31 = .ok (.aload_n 0, 1) := by decide +kernel
theorem dX10_daysUntilChange_32 : decode cX10_daysUntilChange 32 = .ok (.getfield 12, 3) := by decide +kernel
theorem dX10_daysUntilChange_35 : decode cX10_daysUntilChange 35 = .ok (.invokevirtual 229, 3) := by decide +kernel
theorem dX10_daysUntilChange_38 : decode cX10_daysUntilChange 38 = .ok (.iconst 1, 1) := by decide +kernel
theorem dX10_daysUntilChange_39 : decode cX10_daysUntilChange 39 = .ok (.istore_n 3, 1) := by decide +kernel
theorem dX10_daysUntilChange_40 : decode cX10_daysUntilChange 40 = .ok (.iload_n 3, 1) := by decide +kernel
theorem dX10_daysUntilChange_41 : decode cX10_daysUntilChange 41 = .ok (.bipush 90, 2) := by decide +kernel
theorem dX10_daysUntilChange_43 : decode cX10_daysUntilChange 43 = .ok (.if_icmp .gt 53, 3) := by decide +kernel
theorem dX10_daysUntilChange_46 : decode cX10_daysUntilChange 46 = .ok (.aload_n 0, 1) := by decide +kernel
theorem dX10_daysUntilChange_47 : decode cX10_daysUntilChange 47 = .ok (.getfield 19, 3) := by decide +kernel
theorem dX10_daysUntilChange_50 : decode cX10_daysUntilChange 50 = .ok (.iconst 1, 1) := by decide +kernel
theorem dX10_daysUntilChange_51 : decode cX10_daysUntilChange 51 = .ok (.invokevirtual 232, 3) := by decide +kernel
theorem dX10_daysUntilChange_54 : decode cX10_daysUntilChange 54 = .ok (.pop, 1) := by decide +kernel
theorem dX10_daysUntilChange_55 : decode cX10_daysUntilChange 55 = .ok (.aload_n 0, 1) := by decide +kernel
theorem dX10_daysUntilChange_56 : decode cX10_daysUntilChange 56 = .ok (.getfield 32, 3) := by decide +kernel
theorem dX10_daysUntilChange_59 : decode cX10_daysUntilChange 59 = .ok (.aload_n 0, 1) := by decide +kernel
theorem dX10_daysUntilChange_60 : decode cX10_daysUntilChange 60 = .ok (.getfield 19, 3) := by decide +kernel
theorem dX10_daysUntilChange_63 : decode cX10_daysUntilChange 63 = .ok (.invokevirtual 174, 3) := by decide +kernel
theorem dX10_daysUntilChange_66 : decode cX10_daysUntilChange 66 = .ok (.aload_n 0, 1) := by decide +kernel
theorem dX10_daysUntilChange_67 : decode cX10_daysUntilChange 67 = .ok (.getfield 32, 3) := by decide +kernel
theorem dX10_daysUntilChange_70 : decode cX10_daysUntilChange 70 = .ok (.getfield 195, 3) := by decide +kernel
theorem dX10_daysUntilChange_73 : decode cX10_daysUntilChange 73 = .ok (.iload_n 1, 1) := by decide +kernel
theorem dX10_daysUntilChange_74 : decode cX10_daysUntilChange 74 = .ok (.if_icmp .ne 14, 3) := by decide +kernel
theorem dX10_daysUntilChange_77 : decode cX10_daysUntilChange 77 = .ok (.aload_n 0, 1) := by decide +kernel
theorem dX10_daysUntilChange_78 : decode cX10_daysUntilChange 78 = .ok (.getfield 32, 3) := by decide +kernel
theorem dX10_daysUntilChange_81 : decode cX10_daysUntilChange 81 = .ok (.getfield 198, 3) := by decide +kernel
theorem dX10_daysUntilChange_84 : decode cX10_daysUntilChange 84 = .ok (.iload_n 2, 1) := by decide +kernel
theorem dX10_daysUntilChange_85 : decode cX10_daysUntilChange 85 = .ok (.if_icmp .eq 5, 3) := by decide +kernel
theorem dX10_daysUntilChange_88 : decode cX10_daysUntilChange 88 = .ok (.iload_n 3, 1) := by decide +kernel
theorem dX10_daysUntilChange_89 : decode cX10_daysUntilChange 89 = .ok (.ireturn, 1) := by decide +kernel
theorem dX10_daysUntilChange_90 : decode cX10_daysUntilChange 90 = .ok (.iinc 3 1, 3) := by decide +kernel
theorem dX10_daysUntilChange_93 : decode cX10_daysUntilChange 93 = .ok (.goto (-53), 3) := by decide +kernel
theorem dX10_daysUntilChange_96 : decode cX10_daysUntilChange 96 = .ok (.new 159, 3) := by decide +kernel
theorem dX10_daysUntilChange_99 : decode cX10_daysUntilChange 99 = .ok (.dup, 1) := by decide +kernel
theorem dX10_daysUntilChange_100 : decode cX10_daysUntilChange 100 = .ok (.ldc 235, 2) := by decide +kernel
theorem dX10_daysUntilChange_102 : decode cX10_daysUntilChange 102 = .ok (.invokespecial 163, 3) := by decide +kernel
theorem dX10_daysUntilChange_105 : decode cX10_daysUntilChange 105 = .ok (.athrow, 1) := by decide +kernel
theorem dX10_statusAfter_0 : decode cX10_statusAfter 0 = .ok (.aload_n 0, 1) := by decide +kernel
theorem dX10_statusAfter_1 : decode cX10_statusAfter 1 = .ok (.getfield 12, 3) := by decide +kernel
theorem dX10_statusAfter_4 : decode cX10_statusAfter 4 = .ok (.iload_n 1, 1) := by decide +kernel
theorem dX10_statusAfter_5 : decode cX10_statusAfter 5 = .ok (.invokevirtual 138, 3) := by decide +kernel
theorem dX10_statusAfter_8 : decode cX10_statusAfter 8 = .ok (.istore_n 3, 1) := by decide +kernel
theorem dX10_statusAfter_9 : decode cX10_statusAfter 9 = .ok (.iload_n 2, 1) := by decide +kernel
theorem dX10_statusAfter_10 : decode cX10_statusAfter 10 = .ok (.ifCond .lt 9, 3) := by decide +kernel
theorem dX10_statusAfter_13 : decode cX10_statusAfter 13 = .ok (.iload_n 2, 1) := by decide +kernel
theorem dX10_statusAfter_14 : decode cX10_statusAfter 14 = .ok (.bipush 90, 2) := by decide +kernel
theorem dX10_statusAfter_16 : decode cX10_statusAfter 16 = .ok (.if_icmp .le 13, 3) := by decide +kernel
theorem dX10_statusAfter_19 : decode cX10_statusAfter 19 = .ok (.new 237, 3) := by decide +kernel
theorem dX10_statusAfter_22 : decode cX10_statusAfter 22 = .ok (.dup, 1) := by decide +kernel
theorem dX10_statusAfter_23 : decode cX10_statusAfter 23 = .ok (.ldc 239, 2) := by decide +kernel
theorem dX10_statusAfter_25 : decode cX10_statusAfter 25 = .ok (.invokespecial 241, 3) := by decide +kernel
theorem dX10_statusAfter_28 : decode cX10_statusAfter 28 = .ok (.athrow, 1) := by decide +kernel
theorem dX10_statusAfter_29 : decode cX10_statusAfter 29 = .ok (.aload_n 0, 1) := by decide +kernel
theorem dX10_statusAfter_30 : decode cX10_statusAfter 30 = .ok (.getfield 19, 3) := by decide +kernel
theorem dX10_statusAfter_33 : decode cX10_statusAfter 33 = .ok (.aload_n 0, 1) := by decide +kernel
theorem dX10_statusAfter_34 : decode cX10_statusAfter 34 = .ok (.getfield 12, 3) := by decide +kernel
theorem dX10_statusAfter_37 : decode cX10_statusAfter 37 = .ok (.invokevirtual 229, 3) := by decide +kernel
theorem dX10_statusAfter_40 : decode cX10_statusAfter 40 = .ok (.aload_n 0, 1) := by decide +kernel
theorem dX10_statusAfter_41 : decode cX10_statusAfter 41 = .ok (.getfield 19, 3) := by decide +kernel
theorem dX10_statusAfter_44 : decode cX10_statusAfter 44 = .ok (.iload_n 2, 1) := by decide +kernel
theorem dX10_statusAfter_45 : decode cX10_statusAfter 45 = .ok (.invokevirtual 232, 3) := by decide +kernel
theorem dX10_statusAfter_48 : decode cX10_statusAfter 48 = .ok (.pop, 1) := by decide +kernel
theorem dX10_statusAfter_49 : decode cX10_statusAfter 49 = .ok (.aload_n 0, 1) := by decide +kernel
theorem dX10_statusAfter_50 : decode cX10_statusAfter 50 = .ok (.getfield 32, 3) := by decide +kernel
theorem dX10_statusAfter_53 : decode cX10_statusAfter 53 = .ok (.aload_n 0, 1) := by decide +kernel
theorem dX10_statusAfter_54 : decode cX10_statusAfter 54 = .ok (.getfield 19, 3) := by decide +kernel
theorem dX10_statusAfter_57 : decode cX10_statusAfter 57 = .ok (.invokevirtual 174, 3) := by decide +kernel
theorem dX10_statusAfter_60 : decode cX10_statusAfter 60 = .ok (.aload_n 0, 1) := by decide +kernel
theorem dX10_statusAfter_61 : decode cX10_statusAfter 61 = .ok (.getfield 32, 3) := by decide +kernel
theorem dX10_statusAfter_64 : decode cX10_statusAfter 64 = .ok (.iload_n 3, 1) := by decide +kernel
theorem dX10_statusAfter_65 : decode cX10_statusAfter 65 = .ok (.invokevirtual 178, 3) := by decide +kernel
theorem dX10_statusAfter_68 : decode cX10_statusAfter 68 = .ok (.ireturn, 1) := by decide +kernel
theorem dX10_argumentByStrength_0 : decode cX10_argumentByStrength 0 = .ok (.iconst 0, 1) := by decide +kernel
theorem dX10_argumentByStrength_1 : decode cX10_argumentByStrength 1 = .ok (.istore_n 2, 1) := by decide +kernel
theorem dX10_argumentByStrength_2 : decode cX10_argumentByStrength 2 = .ok (.iload_n 2, 1) := by decide +kernel
theorem dX10_argumentByStrength_3 : decode cX10_argumentByStrength 3 = .ok (.aload_n 0, 1) := by decide +kernel
theorem dX10_argumentByStrength_4 : decode cX10_argumentByStrength 4 = .ok (.getfield 12, 3) := by decide +kernel
theorem dX10_argumentByStrength_7 : decode cX10_argumentByStrength 7 = .ok (.getfield 121, 3) := by decide +kernel
theorem dX10_argumentByStrength_10 : decode cX10_argumentByStrength 10 = .ok (.if_icmp .ge 31, 3) := by decide +kernel
theorem dX10_argumentByStrength_13 : decode cX10_argumentByStrength 13 = .ok (.aload_n 0, 1) := by decide +kernel
theorem dX10_argumentByStrength_14 : decode cX10_argumentByStrength 14 = .ok (.getfield 12, 3) := by decide +kernel
theorem dX10_argumentByStrength_17 : decode cX10_argumentByStrength 17 = .ok (.iload_n 2, 1) := by decide +kernel
theorem dX10_argumentByStrength_18 : decode cX10_argumentByStrength 18 = .ok (.invokevirtual 242, 3) := by decide +kernel
theorem dX10_argumentByStrength_21 : decode cX10_argumentByStrength 21 = .ok (.iload_n 1, 1) := by decide +kernel
theorem dX10_argumentByStrength_22 : decode cX10_argumentByStrength 22 = .ok (.if_icmp .ne 13, 3) := by decide +kernel
theorem dX10_argumentByStrength_25 : decode cX10_argumentByStrength 25 = .ok (.aload_n 0, 1) := by decide +kernel
theorem dX10_argumentByStrength_26 : decode cX10_argumentByStrength 26 = .ok (.getfield 12, 3) := by decide +kernel
theorem dX10_argumentByStrength_29 : decode cX10_argumentByStrength 29 = .ok (.getfield 131, 3) := by decide +kernel
theorem dX10_argumentByStrength_32 : decode cX10_argumentByStrength 32 = .ok (.iload_n 2, 1) := by decide +kernel
theorem dX10_argumentByStrength_33 : decode cX10_argumentByStrength 33 = .ok (.iaload, 1) := by decide +kernel
theorem dX10_argumentByStrength_34 : decode cX10_argumentByStrength 34 = .ok (.ireturn, 1) := by decide +kernel
theorem dX10_argumentByStrength_35 : decode cX10_argumentByStrength 35 = .ok (.iinc 2 1, 3) := by decide +kernel
theorem dX10_argumentByStrength_38 : decode cX10_argumentByStrength 38 = .ok (.goto (-36), 3) := by decide +kernel
theorem dX10_argumentByStrength_41 : decode cX10_argumentByStrength 41 = .ok (.new 159, 3) := by decide +kernel
theorem dX10_argumentByStrength_44 : decode cX10_argumentByStrength 44 = .ok (.dup, 1) := by decide +kernel
theorem dX10_argumentByStrength_45 : decode cX10_argumentByStrength 45 = .ok (.ldc 245, 2) := by decide +kernel
theorem dX10_argumentByStrength_47 : decode cX10_argumentByStrength 47 = .ok (.invokespecial 163, 3) := by decide +kernel
theorem dX10_argumentByStrength_50 : decode cX10_argumentByStrength 50 = .ok (.athrow, 1) := by decide +kernel
theorem dX10_isDialogueHeld_0 : decode cX10_isDialogueHeld 0 = .ok (.aload_n 0, 1) := by decide +kernel
theorem dX10_isDialogueHeld_1 : decode cX10_isDialogueHeld 1 = .ok (.getfield 12, 3) := by decide +kernel
theorem dX10_isDialogueHeld_4 : decode cX10_isDialogueHeld 4 = .ok (.getfield 247, 3) := by decide +kernel
theorem dX10_isDialogueHeld_7 : decode cX10_isDialogueHeld 7 = .ok (.invokevirtual 251, 3) := by decide +kernel
theorem dX10_isDialogueHeld_10 : decode cX10_isDialogueHeld 10 = .ok (.ireturn, 1) := by decide +kernel
theorem dX10_moveCount_0 : decode cX10_moveCount 0 = .ok (.aload_n 0, 1) := by decide +kernel
theorem dX10_moveCount_1 : decode cX10_moveCount 1 = .ok (.getfield 12, 3) := by decide +kernel
theorem dX10_moveCount_4 : decode cX10_moveCount 4 = .ok (.getfield 247, 3) := by decide +kernel
theorem dX10_moveCount_7 : decode cX10_moveCount 7 = .ok (.getfield 257, 3) := by decide +kernel
theorem dX10_moveCount_10 : decode cX10_moveCount 10 = .ok (.ireturn, 1) := by decide +kernel
theorem dX10_moveAt_0 : decode cX10_moveAt 0 = .ok (.iload_n 1, 1) := by decide +kernel
theorem dX10_moveAt_1 : decode cX10_moveAt 1 = .ok (.ifCond .lt 17, 3) := by decide +kernel
theorem dX10_moveAt_4 : decode cX10_moveAt 4 = .ok (.iload_n 1, 1) := by decide +kernel
theorem dX10_moveAt_5 : decode cX10_moveAt 5 = .ok (.aload_n 0, 1) := by decide +kernel
theorem dX10_moveAt_6 : decode cX10_moveAt 6 = .ok (.getfield 12, 3) := by decide +kernel
theorem dX10_moveAt_9 : decode cX10_moveAt 9 = .ok (.getfield 247, 3) := by decide +kernel
theorem dX10_moveAt_12 : decode cX10_moveAt 12 = .ok (.getfield 257, 3) := by decide +kernel
theorem dX10_moveAt_15 : decode cX10_moveAt 15 = .ok (.if_icmp .lt 14, 3) := by decide +kernel
theorem dX10_moveAt_18 : decode cX10_moveAt 18 = .ok (.new 124, 3) := by decide +kernel
theorem dX10_moveAt_21 : decode cX10_moveAt 21 = .ok (.dup, 1) := by decide +kernel
theorem dX10_moveAt_22 : decode cX10_moveAt 22 = .ok (.ldc_w 258, 3) := by decide +kernel
theorem dX10_moveAt_25 : decode cX10_moveAt 25 = .ok (.invokespecial 128, 3) := by decide +kernel
theorem dX10_moveAt_28 : decode cX10_moveAt 28 = .ok (.athrow, 1) := by decide +kernel
theorem dX10_moveAt_29 : decode cX10_moveAt 29 = .ok (.aload_n 0, 1) := by decide +kernel
theorem dX10_moveAt_30 : decode cX10_moveAt 30 = .ok (.getfield 12, 3) := by decide +kernel
theorem dX10_moveAt_33 : decode cX10_moveAt 33 = .ok (.getfield 247, 3) := by decide +kernel
theorem dX10_moveAt_36 : decode cX10_moveAt 36 = .ok (.getfield 260, 3) := by decide +kernel
theorem dX10_moveAt_39 : decode cX10_moveAt 39 = .ok (.iload_n 1, 1) := by decide +kernel
theorem dX10_moveAt_40 : decode cX10_moveAt 40 = .ok (.iaload, 1) := by decide +kernel
theorem dX10_moveAt_41 : decode cX10_moveAt 41 = .ok (.ireturn, 1) := by decide +kernel
theorem dX10_canMove_0 : decode cX10_canMove 0 = .ok (.aload_n 0, 1) := by decide +kernel
theorem dX10_canMove_1 : decode cX10_canMove 1 = .ok (.getfield 12, 3) := by decide +kernel
theorem dX10_canMove_4 : decode cX10_canMove 4 = .ok (.iload_n 1, 1) := by decide +kernel
theorem dX10_canMove_5 : decode cX10_canMove 5 = .ok (.invokevirtual 263, 3) := by decide +kernel
theorem dX10_canMove_8 : decode cX10_canMove 8 = .ok (.istore_n 2, 1) := by decide +kernel
theorem dX10_canMove_9 : decode cX10_canMove 9 = .ok (.aload_n 0, 1) := by decide +kernel
theorem dX10_canMove_10 : decode cX10_canMove 10 = .ok (.getfield 12, 3) := by decide +kernel
theorem dX10_canMove_13 : decode cX10_canMove 13 = .ok (.iload_n 2, 1) := by decide +kernel
theorem dX10_canMove_14 : decode cX10_canMove 14 = .ok (.invokevirtual 266, 3) := by decide +kernel
theorem dX10_canMove_17 : decode cX10_canMove 17 = .ok (.ifCond .eq 20, 3) := by decide +kernel
theorem dX10_canMove_20 : decode cX10_canMove 20 = .ok (.aload_n 0, 1) := by decide +kernel
theorem dX10_canMove_21 : decode cX10_canMove 21 = .ok (.getfield 12, 3) := by decide +kernel
theorem dX10_canMove_24 : decode cX10_canMove 24 = .ok (.getfield 247, 3) := by decide +kernel
theorem dX10_canMove_27 : decode cX10_canMove 27 = .ok (.invokevirtual 269, 3) := by decide +kernel
theorem dX10_canMove_30 : decode cX10_canMove 30 = .ok (.ifCond .ne 7, 3) := by decide +kernel
theorem dX10_canMove_33 : decode cX10_canMove 33 = .ok (.iconst 1, 1) := by decide +kernel
theorem dX10_canMove_34 : decode cX10_canMove 34 = .ok (.goto 4, 3) := by decide +kernel
theorem dX10_canMove_37 : decode cX10_canMove 37 = .ok (.iconst 0, 1) := by decide +kernel
theorem dX10_canMove_38 : decode cX10_canMove 38 = .ok (.ireturn, 1) := by decide +kernel
theorem dX10_dialogueTotal_0 : decode cX10_dialogueTotal 0 = .ok (.aload_n 0, 1) := by decide +kernel
theorem dX10_dialogueTotal_1 : decode cX10_dialogueTotal 1 = .ok (.getfield 12, 3) := by decide +kernel
theorem dX10_dialogueTotal_4 : decode cX10_dialogueTotal 4 = .ok (.getfield 247, 3) := by decide +kernel
theorem dX10_dialogueTotal_7 : decode cX10_dialogueTotal 7 = .ok (.getfield 272, 3) := by decide +kernel
theorem dX10_dialogueTotal_10 : decode cX10_dialogueTotal 10 = .ok (.ireturn, 1) := by decide +kernel
theorem dX10_proponentWins_0 : decode cX10_proponentWins 0 = .ok (.aload_n 0, 1) := by decide +kernel
theorem dX10_proponentWins_1 : decode cX10_proponentWins 1 = .ok (.getfield 12, 3) := by decide +kernel
theorem dX10_proponentWins_4 : decode cX10_proponentWins 4 = .ok (.getfield 247, 3) := by decide +kernel
theorem dX10_proponentWins_7 : decode cX10_proponentWins 7 = .ok (.getfield 275, 3) := by decide +kernel
theorem dX10_proponentWins_10 : decode cX10_proponentWins 10 = .ok (.ireturn, 1) := by decide +kernel
theorem dX10_brokenOffTotal_0 : decode cX10_brokenOffTotal 0 = .ok (.aload_n 0, 1) := by decide +kernel
theorem dX10_brokenOffTotal_1 : decode cX10_brokenOffTotal 1 = .ok (.getfield 12, 3) := by decide +kernel
theorem dX10_brokenOffTotal_4 : decode cX10_brokenOffTotal 4 = .ok (.getfield 247, 3) := by decide +kernel
theorem dX10_brokenOffTotal_7 : decode cX10_brokenOffTotal 7 = .ok (.getfield 278, 3) := by decide +kernel
theorem dX10_brokenOffTotal_10 : decode cX10_brokenOffTotal 10 = .ok (.ireturn, 1) := by decide +kernel
theorem dX10_meanStrength_0 : decode cX10_meanStrength 0 = .ok (.aload_n 0, 1) := by decide +kernel
theorem dX10_meanStrength_1 : decode cX10_meanStrength 1 = .ok (.getfield 12, 3) := by decide +kernel
theorem dX10_meanStrength_4 : decode cX10_meanStrength 4 = .ok (.getfield 121, 3) := by decide +kernel
theorem dX10_meanStrength_7 : decode cX10_meanStrength 7 = .ok (.ifCond .ne 14, 3) := by decide +kernel
theorem dX10_meanStrength_10 : decode cX10_meanStrength 10 = .ok (.new 281, 3) := by decide +kernel
theorem dX10_meanStrength_13 : decode cX10_meanStrength 13 = .ok (.dup, 1) := by decide +kernel
theorem dX10_meanStrength_14 : decode cX10_meanStrength 14 = .ok (.ldc_w 283, 3) := by decide +kernel
theorem dX10_meanStrength_17 : decode cX10_meanStrength 17 = .ok (.invokespecial 285, 3) := by decide +kernel
theorem dX10_meanStrength_20 : decode cX10_meanStrength 20 = .ok (.athrow, 1) := by decide +kernel
theorem dX10_meanStrength_21 : decode cX10_meanStrength 21 = .ok (.iconst 0, 1) := by decide +kernel
theorem dX10_meanStrength_22 : decode cX10_meanStrength 22 = .ok (.istore_n 1, 1) := by decide +kernel
theorem dX10_meanStrength_23 : decode cX10_meanStrength 23 = .ok (.iconst 0, 1) := by decide +kernel
theorem dX10_meanStrength_24 : decode cX10_meanStrength 24 = .ok (.istore_n 2, 1) := by decide +kernel
theorem dX10_meanStrength_25 : decode cX10_meanStrength 25 = .ok (.iload_n 2, 1) := by decide +kernel
theorem dX10_meanStrength_26 : decode cX10_meanStrength 26 = .ok (.aload_n 0, 1) := by decide +kernel
theorem dX10_meanStrength_27 : decode cX10_meanStrength 27 = .ok (.getfield 12, 3) := by decide +kernel
theorem dX10_meanStrength_30 : decode cX10_meanStrength 30 = .ok (.getfield 121, 3) := by decide +kernel
theorem dX10_meanStrength_33 : decode cX10_meanStrength 33 = .ok (.if_icmp .ge 20, 3) := by decide +kernel
theorem dX10_meanStrength_36 : decode cX10_meanStrength 36 = .ok (.iload_n 1, 1) := by decide +kernel
theorem dX10_meanStrength_37 : decode cX10_meanStrength 37 = .ok (.aload_n 0, 1) := by decide +kernel
theorem dX10_meanStrength_38 : decode cX10_meanStrength 38 = .ok (.getfield 12, 3) := by decide +kernel
theorem dX10_meanStrength_41 : decode cX10_meanStrength 41 = .ok (.iload_n 2, 1) := by decide +kernel
theorem dX10_meanStrength_42 : decode cX10_meanStrength 42 = .ok (.invokevirtual 145, 3) := by decide +kernel
theorem dX10_meanStrength_45 : decode cX10_meanStrength 45 = .ok (.iadd, 1) := by decide +kernel
theorem dX10_meanStrength_46 : decode cX10_meanStrength 46 = .ok (.istore_n 1, 1) := by decide +kernel
theorem dX10_meanStrength_47 : decode cX10_meanStrength 47 = .ok (.iinc 2 1, 3) := by decide +kernel
theorem dX10_meanStrength_50 : decode cX10_meanStrength 50 = .ok (.goto (-25), 3) := by decide +kernel
theorem dX10_meanStrength_53 : decode cX10_meanStrength 53 = .ok (.iload_n 1, 1) := by decide +kernel
theorem dX10_meanStrength_54 : decode cX10_meanStrength 54 = .ok (.i2d, 1) := by decide +kernel
theorem dX10_meanStrength_55 : decode cX10_meanStrength 55 = .ok (.aload_n 0, 1) := by decide +kernel
theorem dX10_meanStrength_56 : decode cX10_meanStrength 56 = .ok (.getfield 12, 3) := by decide +kernel
theorem dX10_meanStrength_59 : decode cX10_meanStrength 59 = .ok (.getfield 121, 3) := by decide +kernel
theorem dX10_meanStrength_62 : decode cX10_meanStrength 62 = .ok (.i2d, 1) := by decide +kernel
theorem dX10_meanStrength_63 : decode cX10_meanStrength 63 = .ok (.ddiv, 1) := by decide +kernel
theorem dX10_meanStrength_64 : decode cX10_meanStrength 64 = .ok (.dreturn, 1) := by decide +kernel
theorem dX10_acceptedShare_0 : decode cX10_acceptedShare 0 = .ok (.aload_n 0, 1) := by decide +kernel
theorem dX10_acceptedShare_1 : decode cX10_acceptedShare 1 = .ok (.getfield 12, 3) := by decide +kernel
theorem dX10_acceptedShare_4 : decode cX10_acceptedShare 4 = .ok (.getfield 121, 3) := by decide +kernel
theorem dX10_acceptedShare_7 : decode cX10_acceptedShare 7 = .ok (.ifCond .ne 14, 3) := by decide +kernel
theorem dX10_acceptedShare_10 : decode cX10_acceptedShare 10 = .ok (.new 281, 3) := by decide +kernel
theorem dX10_acceptedShare_13 : decode cX10_acceptedShare 13 = .ok (.dup, 1) := by decide +kernel
theorem dX10_acceptedShare_14 : decode cX10_acceptedShare 14 = .ok (.ldc_w 283, 3) := by decide +kernel
theorem dX10_acceptedShare_17 : decode cX10_acceptedShare 17 = .ok (.invokespecial 285, 3) := by decide +kernel
theorem dX10_acceptedShare_20 : decode cX10_acceptedShare 20 = .ok (.athrow, 1) := by decide +kernel
theorem dX10_acceptedShare_21 : decode cX10_acceptedShare 21 = .ok (.aload_n 0, 1) := by decide +kernel
theorem dX10_acceptedShare_22 : decode cX10_acceptedShare 22 = .ok (.invokevirtual 286, 3) := by decide +kernel
theorem dX10_acceptedShare_25 : decode cX10_acceptedShare 25 = .ok (.i2f, 1) := by decide +kernel
theorem dX10_acceptedShare_26 : decode cX10_acceptedShare 26 = .ok (.aload_n 0, 1) := by decide +kernel
theorem dX10_acceptedShare_27 : decode cX10_acceptedShare 27 = .ok (.getfield 12, 3) := by decide +kernel
theorem dX10_acceptedShare_30 : decode cX10_acceptedShare 30 = .ok (.getfield 121, 3) := by decide +kernel
theorem dX10_acceptedShare_33 : decode cX10_acceptedShare 33 = .ok (.i2f, 1) := by decide +kernel
theorem dX10_acceptedShare_34 : decode cX10_acceptedShare 34 = .ok (.fdiv, 1) := by decide +kernel
theorem dX10_acceptedShare_35 : decode cX10_acceptedShare 35 = .ok (.freturn, 1) := by decide +kernel
theorem dX10_isConsistent_0 : decode cX10_isConsistent 0 = .ok (.aload_n 0, 1) := by decide +kernel
theorem dX10_isConsistent_1 : decode cX10_isConsistent 1 = .ok (.invokevirtual 289, 3) := by decide +kernel
theorem dX10_isConsistent_4 : decode cX10_isConsistent 4 = .ok (.ifCond .eq 29, 3) := by decide +kernel
theorem dX10_isConsistent_7 : decode cX10_isConsistent 7 = .ok (.aload_n 0, 1) := by decide +kernel
theorem dX10_isConsistent_8 : decode cX10_isConsistent 8 = .ok (.invokevirtual 292, 3) := by decide +kernel
theorem dX10_isConsistent_11 : decode cX10_isConsistent 11 = .ok (.aload_n 0, 1) := by decide +kernel
theorem dX10_isConsistent_12 : decode cX10_isConsistent 12 = .ok (.invokevirtual 295, 3) := by decide +kernel
theorem dX10_isConsistent_15 : decode cX10_isConsistent 15 = .ok (.if_icmp .ne 18, 3) := by decide +kernel
theorem dX10_isConsistent_18 : decode cX10_isConsistent 18 = .ok (.aload_n 0, 1) := by decide +kernel
theorem dX10_isConsistent_19 : decode cX10_isConsistent 19 = .ok (.invokevirtual 298, 3) := by decide +kernel
theorem dX10_isConsistent_22 : decode cX10_isConsistent 22 = .ok (.aload_n 0, 1) := by decide +kernel
theorem dX10_isConsistent_23 : decode cX10_isConsistent 23 = .ok (.invokevirtual 301, 3) := by decide +kernel
theorem dX10_isConsistent_26 : decode cX10_isConsistent 26 = .ok (.if_icmp .ne 7, 3) := by decide +kernel
theorem dX10_isConsistent_29 : decode cX10_isConsistent 29 = .ok (.iconst 1, 1) := by decide +kernel
theorem dX10_isConsistent_30 : decode cX10_isConsistent 30 = .ok (.goto 4, 3) := by decide +kernel
theorem dX10_isConsistent_33 : decode cX10_isConsistent 33 = .ok (.iconst 0, 1) := by decide +kernel
theorem dX10_isConsistent_34 : decode cX10_isConsistent 34 = .ok (.ireturn, 1) := by decide +kernel
theorem dX10_formatArgument_0 : decode cX10_formatArgument 0 = .ok (.aload_n 0, 1) := by decide +kernel
theorem dX10_formatArgument_1 : decode cX10_formatArgument 1 = .ok (.getfield 12, 3) := by decide +kernel
theorem dX10_formatArgument_4 : decode cX10_formatArgument 4 = .ok (.iload_n 1, 1) := by decide +kernel
theorem dX10_formatArgument_5 : decode cX10_formatArgument 5 = .ok (.invokevirtual 138, 3) := by decide +kernel
theorem dX10_formatArgument_8 : decode cX10_formatArgument 8 = .ok (.istore_n 2, 1) := by decide +kernel
theorem dX10_formatArgument_9 : decode cX10_formatArgument 9 = .ok (.aload_n 0, 1) := by decide +kernel
theorem dX10_formatArgument_10 : decode cX10_formatArgument 10 = .ok (.getfield 32, 3) := by decide +kernel
theorem dX10_formatArgument_13 : decode cX10_formatArgument 13 = .ok (.aload_n 0, 1) := by decide +kernel
theorem dX10_formatArgument_14 : decode cX10_formatArgument 14 = .ok (.getfield 12, 3) := by decide +kernel
theorem dX10_formatArgument_17 : decode cX10_formatArgument 17 = .ok (.invokevirtual 174, 3) := by decide +kernel
theorem dX10_formatArgument_20 : decode cX10_formatArgument 20 = .ok (.aload_n 0, 1) := by decide +kernel
theorem dX10_formatArgument_21 : decode cX10_formatArgument 21 = .ok (.getfield 64, 3) := by decide +kernel
theorem dX10_formatArgument_24 : decode cX10_formatArgument 24 = .ok (.iconst 0, 1) := by decide +kernel
theorem dX10_formatArgument_25 : decode cX10_formatArgument 25 = .ok (.invokevirtual 304, 3) := by decide +kernel
theorem dX10_formatArgument_28 : decode cX10_formatArgument 28 = .ok (.aload_n 0, 1) := by decide +kernel
theorem dX10_formatArgument_29 : decode cX10_formatArgument 29 = .ok (.getfield 64, 3) := by decide +kernel
theorem dX10_formatArgument_32 : decode cX10_formatArgument 32 = .ok (.iload_n 1, 1) := by decide +kernel
theorem dX10_formatArgument_33 : decode cX10_formatArgument 33 = .ok (.invokevirtual 308, 3) := by decide +kernel
theorem dX10_formatArgument_36 : decode cX10_formatArgument 36 = .ok (.bipush 40, 2) := by decide +kernel
theorem dX10_formatArgument_38 : decode cX10_formatArgument 38 = .ok (.invokevirtual 312, 3) := by decide +kernel
theorem dX10_formatArgument_41 : decode cX10_formatArgument 41 = .ok (.aload_n 0, 1) := by decide +kernel
theorem dX10_formatArgument_42 : decode cX10_formatArgument 42 = .ok (.getfield 12, 3) := by decide +kernel
theorem dX10_formatArgument_45 : decode cX10_formatArgument 45 = .ok (.iload_n 2, 1) := by decide +kernel
theorem dX10_formatArgument_46 : decode cX10_formatArgument 46 = .ok (.invokevirtual 145, 3) := by decide +kernel
theorem dX10_formatArgument_49 : decode cX10_formatArgument 49 = .ok (.invokevirtual 308, 3) := by decide +kernel
theorem dX10_formatArgument_52 : decode cX10_formatArgument 52 = .ok (.bipush 47, 2) := by decide +kernel
theorem dX10_formatArgument_54 : decode cX10_formatArgument 54 = .ok (.invokevirtual 312, 3) := by decide +kernel
theorem dX10_formatArgument_57 : decode cX10_formatArgument 57 = .ok (.aload_n 0, 1) := by decide +kernel
theorem dX10_formatArgument_58 : decode cX10_formatArgument 58 = .ok (.getfield 12, 3) := by decide +kernel
theorem dX10_formatArgument_61 : decode cX10_formatArgument 61 = .ok (.getfield 135, 3) := by decide +kernel
theorem dX10_formatArgument_64 : decode cX10_formatArgument 64 = .ok (.iload_n 2, 1) := by decide +kernel
theorem dX10_formatArgument_65 : decode cX10_formatArgument 65 = .ok (.iaload, 1) := by decide +kernel
theorem dX10_formatArgument_66 : decode cX10_formatArgument 66 = .ok (.invokevirtual 308, 3) := by decide +kernel
theorem dX10_formatArgument_69 : decode cX10_formatArgument 69 = .ok (.bipush 41, 2) := by decide +kernel
theorem dX10_formatArgument_71 : decode cX10_formatArgument 71 = .ok (.invokevirtual 312, 3) := by decide +kernel
theorem dX10_formatArgument_74 : decode cX10_formatArgument 74 = .ok (.pop, 1) := by decide +kernel
theorem dX10_formatArgument_75 : decode cX10_formatArgument 75 = .ok (.aload_n 0, 1) := by decide +kernel
theorem dX10_formatArgument_76 : decode cX10_formatArgument 76 = .ok (.getfield 64, 3) := by decide +kernel
theorem dX10_formatArgument_79 : decode cX10_formatArgument 79 = .ok (.aload_n 0, 1) := by decide +kernel
theorem dX10_formatArgument_80 : decode cX10_formatArgument 80 = .ok (.getfield 32, 3) := by decide +kernel
theorem dX10_formatArgument_83 : decode cX10_formatArgument 83 = .ok (.iload_n 2, 1) := by decide +kernel
theorem dX10_formatArgument_84 : decode cX10_formatArgument 84 = .ok (.invokevirtual 178, 3) := by decide +kernel
theorem dX10_formatArgument_87 : decode cX10_formatArgument 87 = .ok (.invokevirtual 312, 3) := by decide +kernel
theorem dX10_formatArgument_90 : decode cX10_formatArgument 90 = .ok (.pop, 1) := by decide +kernel
theorem dX10_formatArgument_91 : decode cX10_formatArgument 91 = .ok (.iconst 0, 1) := by decide +kernel
theorem dX10_formatArgument_92 : decode cX10_formatArgument 92 = .ok (.istore_n 3, 1) := by decide +kernel
theorem dX10_formatArgument_93 : decode cX10_formatArgument 93 = .ok (.iload_n 3, 1) := by decide +kernel
theorem dX10_formatArgument_94 : decode cX10_formatArgument 94 = .ok (.aload_n 0, 1) := by decide +kernel
theorem dX10_formatArgument_95 : decode cX10_formatArgument 95 = .ok (.getfield 12, 3) := by decide +kernel
theorem dX10_formatArgument_98 : decode cX10_formatArgument 98 = .ok (.getfield 121, 3) := by decide +kernel
theorem dX10_formatArgument_101 : decode cX10_formatArgument 101 = .ok (.if_icmp .ge 47, 3) := by decide +kernel
theorem dX10_formatArgument_104 : decode cX10_formatArgument 104 = .ok (.aload_n 0, 1) := by decide +kernel
theorem dX10_formatArgument_105 : decode cX10_formatArgument 105 = .ok (.getfield 12, 3) := by decide +kernel
theorem dX10_formatArgument_108 : decode cX10_formatArgument 108 = .ok (.getfield 164, 3) := by decide +kernel
theorem dX10_formatArgument_111 : decode cX10_formatArgument 111 = .ok (.iload_n 2, 1) := by decide +kernel
theorem dX10_formatArgument_112 : decode cX10_formatArgument 112 = .ok (.iaload, 1) := by decide +kernel
theorem dX10_formatArgument_113 : decode cX10_formatArgument 113 = .ok (.iload_n 3, 1) := by decide +kernel
theorem dX10_formatArgument_114 : decode cX10_formatArgument 114 = .ok (.invokestatic 155, 3) := by decide +kernel
theorem dX10_formatArgument_117 : decode cX10_formatArgument 117 = .ok (.ifCond .eq 25, 3) := by decide +kernel
theorem dX10_formatArgument_120 : decode cX10_formatArgument 120 = .ok (.aload_n 0, 1) := by decide +kernel
theorem dX10_formatArgument_121 : decode cX10_formatArgument 121 = .ok (.getfield 64, 3) := by decide +kernel
theorem dX10_formatArgument_124 : decode cX10_formatArgument 124 = .ok (.bipush 60, 2) := by decide +kernel
theorem dX10_formatArgument_126 : decode cX10_formatArgument 126 = .ok (.invokevirtual 312, 3) := by decide +kernel
theorem dX10_formatArgument_129 : decode cX10_formatArgument 129 = .ok (.aload_n 0, 1) := by decide +kernel
theorem dX10_formatArgument_130 : decode cX10_formatArgument 130 = .ok (.getfield 12, 3) := by decide +kernel
theorem dX10_formatArgument_133 : decode cX10_formatArgument 133 = .ok (.getfield 131, 3) := by decide +kernel
theorem dX10_formatArgument_136 : decode cX10_formatArgument 136 = .ok (.iload_n 3, 1) := by decide +kernel
theorem dX10_formatArgument_137 : decode cX10_formatArgument 137 = .ok (.iaload, 1) := by decide +kernel
theorem dX10_formatArgument_138 : decode cX10_formatArgument 138 = .ok (.invokevirtual 308, 3) := by decide +kernel
theorem dX10_formatArgument_141 : decode cX10_formatArgument 141 = .ok (.pop, 1) := by decide +kernel
theorem dX10_formatArgument_142 : decode cX10_formatArgument 142 = .ok (.iinc 3 1, 3) := by decide +kernel
theorem dX10_formatArgument_145 : decode cX10_formatArgument 145 = .ok (.goto (-52), 3) := by decide +kernel
theorem dX10_formatArgument_148 : decode cX10_formatArgument 148 = .ok (.aload_n 0, 1) := by decide +kernel
theorem dX10_formatArgument_149 : decode cX10_formatArgument 149 = .ok (.getfield 64, 3) := by decide +kernel
theorem dX10_formatArgument_152 : decode cX10_formatArgument 152 = .ok (.invokevirtual 315, 3) := by decide +kernel
theorem dX10_formatArgument_155 : decode cX10_formatArgument 155 = .ok (.ireturn, 1) := by decide +kernel
theorem dX10_formatDialogue_0 : decode cX10_formatDialogue 0 = .ok (.aload_n 0, 1) := by decide +kernel
theorem dX10_formatDialogue_1 : decode cX10_formatDialogue 1 = .ok (.getfield 12, 3) := by decide +kernel
theorem dX10_formatDialogue_4 : decode cX10_formatDialogue 4 = .ok (.getfield 247, 3) := by decide +kernel
theorem dX10_formatDialogue_7 : decode cX10_formatDialogue 7 = .ok (.astore_n 1, 1) := by decide +kernel
theorem dX10_formatDialogue_8 : decode cX10_formatDialogue 8 = .ok (.aload_n 1, 1) := by decide +kernel
theorem dX10_formatDialogue_9 : decode cX10_formatDialogue 9 = .ok (.invokevirtual 318, 3) := by decide +kernel
theorem dX10_formatDialogue_12 : decode cX10_formatDialogue 12 = .ok (.aload_n 0, 1) := by decide +kernel
theorem dX10_formatDialogue_13 : decode cX10_formatDialogue 13 = .ok (.getfield 64, 3) := by decide +kernel
theorem dX10_formatDialogue_16 : decode cX10_formatDialogue 16 = .ok (.iconst 0, 1) := by decide +kernel
theorem dX10_formatDialogue_17 : decode cX10_formatDialogue 17 = .ok (.invokevirtual 304, 3) := by decide +kernel
theorem dX10_formatDialogue_20 : decode cX10_formatDialogue 20 = .ok (.iconst 0, 1) := by decide +kernel
theorem dX10_formatDialogue_21 : decode cX10_formatDialogue 21 = .ok (.istore_n 2, 1) := by decide +kernel
theorem dX10_formatDialogue_22 : decode cX10_formatDialogue 22 = .ok (.iload_n 2, 1) := by decide +kernel
theorem dX10_formatDialogue_23 : decode cX10_formatDialogue 23 = .ok (.aload_n 1, 1) := by decide +kernel
theorem dX10_formatDialogue_24 : decode cX10_formatDialogue 24 = .ok (.getfield 257, 3) := by decide +kernel
theorem dX10_formatDialogue_27 : decode cX10_formatDialogue 27 = .ok (.if_icmp .ge 54, 3) := by decide +kernel
theorem dX10_formatDialogue_30 : decode cX10_formatDialogue 30 = .ok (.iload_n 2, 1) := by decide +kernel
theorem dX10_formatDialogue_31 : decode cX10_formatDialogue 31 = .ok (.ifCond .le 13, 3) := by decide +kernel
theorem dX10_formatDialogue_34 : decode cX10_formatDialogue 34 = .ok (.aload_n 0, 1) := by decide +kernel
theorem dX10_formatDialogue_35 : decode cX10_formatDialogue 35 = .ok (.getfield 64, 3) := by decide +kernel
theorem dX10_formatDialogue_38 : decode cX10_formatDialogue 38 = .ok (.bipush 32, 2) := by decide +kernel
theorem dX10_formatDialogue_40 : decode cX10_formatDialogue 40 = .ok (.invokevirtual 312, 3) := by decide +kernel
theorem dX10_formatDialogue_43 : decode cX10_formatDialogue 43 = .ok (.pop, 1) := by decide +kernel
theorem dX10_formatDialogue_44 : decode cX10_formatDialogue 44 = .ok (.aload_n 0, 1) := by decide +kernel
theorem dX10_formatDialogue_45 : decode cX10_formatDialogue 45 = .ok (.getfield 64, 3) := by decide +kernel
theorem dX10_formatDialogue_48 : decode cX10_formatDialogue 48 = .ok (.iload_n 2, 1) := by decide +kernel
theorem dX10_formatDialogue_49 : decode cX10_formatDialogue 49 = .ok (.invokestatic 321, 3) := by decide +kernel
theorem dX10_formatDialogue_52 : decode cX10_formatDialogue 52 = .ok (.ifCond .eq 8, 3) := by decide +kernel
theorem dX10_formatDialogue_55 : decode cX10_formatDialogue 55 = .ok (.bipush 112, 2) := by decide +kernel
theorem dX10_formatDialogue_57 : decode cX10_formatDialogue 57 = .ok (.goto 5, 3) := by decide +kernel
theorem dX10_formatDialogue_60 : decode cX10_formatDialogue 60 = .ok (.bipush 111, 2) := by decide +kernel
theorem dX10_formatDialogue_62 : decode cX10_formatDialogue 62 = .ok (.invokevirtual 312, 3) := by decide +kernel
theorem dX10_formatDialogue_65 : decode cX10_formatDialogue 65 = .ok (.aload_n 1, 1) := by decide +kernel
theorem dX10_formatDialogue_66 : decode cX10_formatDialogue 66 = .ok (.getfield 260, 3) := by decide +kernel
theorem dX10_formatDialogue_69 : decode cX10_formatDialogue 69 = .ok (.iload_n 2, 1) := by decide +kernel
theorem dX10_formatDialogue_70 : decode cX10_formatDialogue 70 = .ok (.iaload, 1) := by decide +kernel
theorem dX10_formatDialogue_71 : decode cX10_formatDialogue 71 = .ok (.invokevirtual 308, 3) := by decide +kernel
theorem dX10_formatDialogue_74 : decode cX10_formatDialogue 74 = .ok (.pop, 1) := by decide +kernel
theorem dX10_formatDialogue_75 : decode cX10_formatDialogue 75 = .ok (.iinc 2 1, 3) := by decide +kernel
theorem dX10_formatDialogue_78 : decode cX10_formatDialogue 78 = .ok (.goto (-56), 3) := by decide +kernel
theorem dX10_formatDialogue_81 : decode cX10_formatDialogue 81 = .ok (.aload_n 0, 1) := by decide +kernel
theorem dX10_formatDialogue_82 : decode cX10_formatDialogue 82 = .ok (.getfield 64, 3) := by decide +kernel
theorem dX10_formatDialogue_85 : decode cX10_formatDialogue 85 = .ok (.invokevirtual 315, 3) := by decide +kernel
theorem dX10_formatDialogue_88 : decode cX10_formatDialogue 88 = .ok (.ireturn, 1) := by decide +kernel
theorem dX10_lineChar_0 : decode cX10_lineChar 0 = .ok (.iload_n 1, 1) := by decide +kernel
theorem dX10_lineChar_1 : decode cX10_lineChar 1 = .ok (.ifCond .lt 14, 3) := by decide +kernel
theorem dX10_lineChar_4 : decode cX10_lineChar 4 = .ok (.iload_n 1, 1) := by decide +kernel
theorem dX10_lineChar_5 : decode cX10_lineChar 5 = .ok (.aload_n 0, 1) := by decide +kernel
theorem dX10_lineChar_6 : decode cX10_lineChar 6 = .ok (.getfield 64, 3) := by decide +kernel
theorem dX10_lineChar_9 : decode cX10_lineChar 9 = .ok (.invokevirtual 315, 3) := by decide +kernel
theorem dX10_lineChar_12 : decode cX10_lineChar 12 = .ok (.if_icmp .lt 14, 3) := by decide +kernel
theorem dX10_lineChar_15 : decode cX10_lineChar 15 = .ok (.new 124, 3) := by decide +kernel
theorem dX10_lineChar_18 : decode cX10_lineChar 18 = .ok (.dup, 1) := by decide +kernel
theorem dX10_lineChar_19 : decode cX10_lineChar 19 = .ok (.ldc_w 324, 3) := by decide +kernel
theorem dX10_lineChar_22 : decode cX10_lineChar 22 = .ok (.invokespecial 128, 3) := by decide +kernel
theorem dX10_lineChar_25 : decode cX10_lineChar 25 = .ok (.athrow, 1) := by decide +kernel
theorem dX10_lineChar_26 : decode cX10_lineChar 26 = .ok (.aload_n 0, 1) := by decide +kernel
theorem dX10_lineChar_27 : decode cX10_lineChar 27 = .ok (.getfield 64, 3) := by decide +kernel
theorem dX10_lineChar_30 : decode cX10_lineChar 30 = .ok (.iload_n 1, 1) := by decide +kernel
theorem dX10_lineChar_31 : decode cX10_lineChar 31 = .ok (.invokevirtual 326, 3) := by decide +kernel
theorem dX10_lineChar_34 : decode cX10_lineChar 34 = .ok (.ireturn, 1) := by decide +kernel
theorem dX10_append_0 : decode cX10_append 0 = .ok (.iload_n 1, 1) := by decide +kernel
theorem dX10_append_1 : decode cX10_append 1 = .ok (.bipush 32, 2) := by decide +kernel
theorem dX10_append_3 : decode cX10_append 3 = .ok (.if_icmp .lt 9, 3) := by decide +kernel
theorem dX10_append_6 : decode cX10_append 6 = .ok (.iload_n 1, 1) := by decide +kernel
theorem dX10_append_7 : decode cX10_append 7 = .ok (.bipush 126, 2) := by decide +kernel
theorem dX10_append_9 : decode cX10_append 9 = .ok (.if_icmp .le 14, 3) := by decide +kernel
theorem dX10_append_12 : decode cX10_append 12 = .ok (.new 237, 3) := by decide +kernel
theorem dX10_append_15 : decode cX10_append 15 = .ok (.dup, 1) := by decide +kernel
theorem dX10_append_16 : decode cX10_append 16 = .ok (.ldc_w 329, 3) := by decide +kernel
theorem dX10_append_19 : decode cX10_append 19 = .ok (.invokespecial 241, 3) := by decide +kernel
theorem dX10_append_22 : decode cX10_append 22 = .ok (.athrow, 1) := by decide +kernel
theorem dX10_append_23 : decode cX10_append 23 = .ok (.aload_n 0, 1) := by decide +kernel
theorem dX10_append_24 : decode cX10_append 24 = .ok (.getfield 60, 3) := by decide +kernel
theorem dX10_append_27 : decode cX10_append 27 = .ok (.invokevirtual 315, 3) := by decide +kernel
theorem dX10_append_30 : decode cX10_append 30 = .ok (.bipush 60, 2) := by decide +kernel
theorem dX10_append_32 : decode cX10_append 32 = .ok (.if_icmp .lt 14, 3) := by decide +kernel
theorem dX10_append_35 : decode cX10_append 35 = .ok (.new 331, 3) := by decide +kernel
theorem dX10_append_38 : decode cX10_append 38 = .ok (.dup, 1) := by decide +kernel
theorem dX10_append_39 : decode cX10_append 39 = .ok (.ldc_w 333, 3) := by decide +kernel
theorem dX10_append_42 : decode cX10_append 42 = .ok (.invokespecial 335, 3) := by decide +kernel
theorem dX10_append_45 : decode cX10_append 45 = .ok (.athrow, 1) := by decide +kernel
theorem dX10_append_46 : decode cX10_append 46 = .ok (.aload_n 0, 1) := by decide +kernel
theorem dX10_append_47 : decode cX10_append 47 = .ok (.getfield 60, 3) := by decide +kernel
theorem dX10_append_50 : decode cX10_append 50 = .ok (.iload_n 1, 1) := by decide +kernel
theorem dX10_append_51 : decode cX10_append 51 = .ok (.invokevirtual 312, 3) := by decide +kernel
theorem dX10_append_54 : decode cX10_append 54 = .ok (.pop, 1) := by decide +kernel
theorem dX10_append_55 : decode cX10_append 55 = .ok (.aload_n 0, 1) := by decide +kernel
theorem dX10_append_56 : decode cX10_append 56 = .ok (.getfield 60, 3) := by decide +kernel
theorem dX10_append_59 : decode cX10_append 59 = .ok (.invokevirtual 315, 3) := by decide +kernel
theorem dX10_append_62 : decode cX10_append 62 = .ok (.ireturn, 1) := by decide +kernel
theorem dX10_run_0 : decode cX10_run 0 = .ok (.aload_n 0, 1) := by decide +kernel
theorem dX10_run_1 : decode cX10_run 1 = .ok (.getfield 53, 3) := by decide +kernel
theorem dX10_run_4 : decode cX10_run 4 = .ok (.aload_n 0, 1) := by decide +kernel
theorem dX10_run_5 : decode cX10_run 5 = .ok (.getfield 60, 3) := by decide +kernel
theorem dX10_run_8 : decode cX10_run 8 = .ok (.invokevirtual 336, 3) := by decide +kernel
theorem dX10_run_11 : decode cX10_run 11 = .ok (.istore_n 1, 1) := by decide +kernel
theorem dX10_run_12 : decode cX10_run 12 = .ok (.aload_n 0, 1) := by decide +kernel
theorem dX10_run_13 : decode cX10_run 13 = .ok (.getfield 60, 3) := by decide +kernel
theorem dX10_run_16 : decode cX10_run 16 = .ok (.iconst 0, 1) := by decide +kernel
theorem dX10_run_17 : decode cX10_run 17 = .ok (.invokevirtual 304, 3) := by decide +kernel
theorem dX10_run_20 : decode cX10_run 20 = .ok (.iload_n 1, 1) := by decide +kernel
theorem dX10_run_21 : decode cX10_run 21 = .ok (.ifCond .ne 25, 3) := by decide +kernel
theorem dX10_run_24 : decode cX10_run 24 = .ok (.aload_n 0, 1) := by decide +kernel
theorem dX10_run_25 : decode cX10_run 25 = .ok (.aload_n 0, 1) := by decide +kernel
theorem dX10_run_26 : decode cX10_run 26 = .ok (.getfield 53, 3) := by decide +kernel
theorem dX10_run_29 : decode cX10_run 29 = .ok (.getfield 340, 3) := by decide +kernel
theorem dX10_run_32 : decode cX10_run 32 = .ok (.putfield 71, 3) := by decide +kernel
theorem dX10_run_35 : decode cX10_run 35 = .ok (.new 237, 3) := by decide +kernel
theorem dX10_run_38 : decode cX10_run 38 = .ok (.dup, 1) := by decide +kernel
theorem dX10_run_39 : decode cX10_run 39 = .ok (.ldc_w 343, 3) := by decide +kernel
theorem dX10_run_42 : decode cX10_run 42 = .ok (.invokespecial 241, 3) := by decide +kernel
theorem dX10_run_45 : decode cX10_run 45 = .ok (.athrow, 1) := by decide +kernel
theorem dX10_run_46 : decode cX10_run 46 = .ok (.aload_n 0, 1) := by decide +kernel
theorem dX10_run_47 : decode cX10_run 47 = .ok (.getfield 25, 3) := by decide +kernel
theorem dX10_run_50 : decode cX10_run 50 = .ok (.aload_n 0, 1) := by decide +kernel
theorem dX10_run_51 : decode cX10_run 51 = .ok (.getfield 12, 3) := by decide +kernel
theorem dX10_run_54 : decode cX10_run 54 = .ok (.invokevirtual 345, 3) := by decide +kernel
theorem dX10_run_57 : decode cX10_run 57 = .ok (.aload_n 0, 1) := by decide +kernel
theorem dX10_run_58 : decode cX10_run 58 = .ok (.invokevirtual 348, 3) := by decide +kernel
theorem dX10_run_61 : decode cX10_run 61 = .ok (.istore_n 2, 1) := by decide +kernel
theorem dX10_run_62 : decode cX10_run 62 = .ok (.iload_n 2, 1) := by decide +kernel
theorem dX10_run_63 : decode cX10_run 63 = .ok (.iconst (-1), 1) := by decide +kernel
theorem dX10_run_64 : decode cX10_run 64 = .ok (.if_icmp .eq 33, 3) := by decide +kernel
theorem dX10_run_67 : decode cX10_run 67 = .ok (.aload_n 0, 1) := by decide +kernel
theorem dX10_run_68 : decode cX10_run 68 = .ok (.getfield 12, 3) := by decide +kernel
theorem dX10_run_71 : decode cX10_run 71 = .ok (.aload_n 0, 1) := by decide +kernel
theorem dX10_run_72 : decode cX10_run 72 = .ok (.getfield 25, 3) := by decide +kernel
theorem dX10_run_75 : decode cX10_run 75 = .ok (.invokevirtual 351, 3) := by decide +kernel
theorem dX10_run_78 : decode cX10_run 78 = .ok (.invokevirtual 229, 3) := by decide +kernel
theorem dX10_run_81 : decode cX10_run 81 = .ok (.aload_n 0, 1) := by decide +kernel
theorem dX10_run_82 : decode cX10_run 82 = .ok (.iload_n 2, 1) := by decide +kernel
theorem dX10_run_83 : decode cX10_run 83 = .ok (.putfield 75, 3) := by decide +kernel
theorem dX10_run_86 : decode cX10_run 86 = .ok (.new 331, 3) := by decide +kernel
theorem dX10_run_89 : decode cX10_run 89 = .ok (.dup, 1) := by decide +kernel
theorem dX10_run_90 : decode cX10_run 90 = .ok (.ldc_w 355, 3) := by decide +kernel
theorem dX10_run_93 : decode cX10_run 93 = .ok (.invokespecial 335, 3) := by decide +kernel
theorem dX10_run_96 : decode cX10_run 96 = .ok (.athrow, 1) := by decide +kernel
theorem dX10_run_97 : decode cX10_run 97 = .ok (.aload_n 0, 1) := by decide +kernel
theorem dX10_run_98 : decode cX10_run 98 = .ok (.getfield 25, 3) := by decide +kernel
theorem dX10_run_101 : decode cX10_run 101 = .ok (.invokevirtual 357, 3) := by decide +kernel
theorem dX10_run_104 : decode cX10_run 104 = .ok (.aload_n 0, 1) := by decide +kernel
theorem dX10_run_105 : decode cX10_run 105 = .ok (.getfield 53, 3) := by decide +kernel
theorem dX10_run_108 : decode cX10_run 108 = .ok (.getfield 360, 3) := by decide +kernel
theorem dX10_run_111 : decode cX10_run 111 = .ok (.ireturn, 1) := by decide +kernel
theorem dX10_errorPosition_0 : decode cX10_errorPosition 0 = .ok (.aload_n 0, 1) := by decide +kernel
theorem dX10_errorPosition_1 : decode cX10_errorPosition 1 = .ok (.getfield 71, 3) := by decide +kernel
theorem dX10_errorPosition_4 : decode cX10_errorPosition 4 = .ok (.iconst (-1), 1) := by decide +kernel
theorem dX10_errorPosition_5 : decode cX10_errorPosition 5 = .ok (.if_icmp .ne 14, 3) := by decide +kernel
theorem dX10_errorPosition_8 : decode cX10_errorPosition 8 = .ok (.new 159, 3) := by decide +kernel
theorem dX10_errorPosition_11 : decode cX10_errorPosition 11 = .ok (.dup, 1) := by decide +kernel
theorem dX10_errorPosition_12 : decode cX10_errorPosition 12 = .ok (.ldc_w 361, 3) := by decide +kernel
theorem dX10_errorPosition_15 : decode cX10_errorPosition 15 = .ok (.invokespecial 163, 3) := by decide +kernel
theorem dX10_errorPosition_18 : decode cX10_errorPosition 18 = .ok (.athrow, 1) := by decide +kernel
theorem dX10_errorPosition_19 : decode cX10_errorPosition 19 = .ok (.aload_n 0, 1) := by decide +kernel
theorem dX10_errorPosition_20 : decode cX10_errorPosition 20 = .ok (.getfield 71, 3) := by decide +kernel
theorem dX10_errorPosition_23 : decode cX10_errorPosition 23 = .ok (.ireturn, 1) := by decide +kernel
theorem dX10_failedCommand_0 : decode cX10_failedCommand 0 = .ok (.aload_n 0, 1) := by decide +kernel
theorem dX10_failedCommand_1 : decode cX10_failedCommand 1 = .ok (.getfield 75, 3) := by decide +kernel
theorem dX10_failedCommand_4 : decode cX10_failedCommand 4 = .ok (.iconst (-1), 1) := by decide +kernel
theorem dX10_failedCommand_5 : decode cX10_failedCommand 5 = .ok (.if_icmp .ne 14, 3) := by decide +kernel
theorem dX10_failedCommand_8 : decode cX10_failedCommand 8 = .ok (.new 159, 3) := by decide +kernel
theorem dX10_failedCommand_11 : decode cX10_failedCommand 11 = .ok (.dup, 1) := by decide +kernel
theorem dX10_failedCommand_12 : decode cX10_failedCommand 12 = .ok (.ldc_w 363, 3) := by decide +kernel
theorem dX10_failedCommand_15 : decode cX10_failedCommand 15 = .ok (.invokespecial 163, 3) := by decide +kernel
theorem dX10_failedCommand_18 : decode cX10_failedCommand 18 = .ok (.athrow, 1) := by decide +kernel
theorem dX10_failedCommand_19 : decode cX10_failedCommand 19 = .ok (.aload_n 0, 1) := by decide +kernel
theorem dX10_failedCommand_20 : decode cX10_failedCommand 20 = .ok (.getfield 75, 3) := by decide +kernel
theorem dX10_failedCommand_23 : decode cX10_failedCommand 23 = .ok (.ireturn, 1) := by decide +kernel
theorem dX10_undoableCount_0 : decode cX10_undoableCount 0 = .ok (.aload_n 0, 1) := by decide +kernel
theorem dX10_undoableCount_1 : decode cX10_undoableCount 1 = .ok (.getfield 25, 3) := by decide +kernel
theorem dX10_undoableCount_4 : decode cX10_undoableCount 4 = .ok (.getfield 365, 3) := by decide +kernel
theorem dX10_undoableCount_7 : decode cX10_undoableCount 7 = .ok (.ireturn, 1) := by decide +kernel
theorem dX10_undo_0 : decode cX10_undo 0 = .ok (.aload_n 0, 1) := by decide +kernel
theorem dX10_undo_1 : decode cX10_undo 1 = .ok (.getfield 25, 3) := by decide +kernel
theorem dX10_undo_4 : decode cX10_undo 4 = .ok (.getfield 365, 3) := by decide +kernel
theorem dX10_undo_7 : decode cX10_undo 7 = .ok (.ifCond .ne 14, 3) := by decide +kernel
theorem dX10_undo_10 : decode cX10_undo 10 = .ok (.new 331, 3) := by decide +kernel
theorem dX10_undo_13 : decode cX10_undo 13 = .ok (.dup, 1) := by decide +kernel
theorem dX10_undo_14 : decode cX10_undo 14 = .ok (.ldc_w 368, 3) := by decide +kernel
theorem dX10_undo_17 : decode cX10_undo 17 = .ok (.invokespecial 335, 3) := by decide +kernel
theorem dX10_undo_20 : decode cX10_undo 20 = .ok (.athrow, 1) := by decide +kernel
theorem dX10_undo_21 : decode cX10_undo 21 = .ok (.aload_n 0, 1) := by decide +kernel
theorem dX10_undo_22 : decode cX10_undo 22 = .ok (.getfield 12, 3) := by decide +kernel
theorem dX10_undo_25 : decode cX10_undo 25 = .ok (.aload_n 0, 1) := by decide +kernel
theorem dX10_undo_26 : decode cX10_undo 26 = .ok (.getfield 25, 3) := by decide +kernel
theorem dX10_undo_29 : decode cX10_undo 29 = .ok (.invokevirtual 370, 3) := by decide +kernel
theorem dX10_undo_32 : decode cX10_undo 32 = .ok (.invokevirtual 229, 3) := by decide +kernel
theorem dX10_undo_35 : decode cX10_undo 35 = .ok (.aload_n 0, 1) := by decide +kernel
theorem dX10_undo_36 : decode cX10_undo 36 = .ok (.getfield 25, 3) := by decide +kernel
theorem dX10_undo_39 : decode cX10_undo 39 = .ok (.getfield 365, 3) := by decide +kernel
theorem dX10_undo_42 : decode cX10_undo 42 = .ok (.ireturn, 1) := by decide +kernel
theorem dX10_save_0 : decode cX10_save 0 = .ok (.aload_n 0, 1) := by decide +kernel
theorem dX10_save_1 : decode cX10_save 1 = .ok (.getfield 16, 3) := by decide +kernel
theorem dX10_save_4 : decode cX10_save 4 = .ok (.aload_n 0, 1) := by decide +kernel
theorem dX10_save_5 : decode cX10_save 5 = .ok (.getfield 12, 3) := by decide +kernel
theorem dX10_save_8 : decode cX10_save 8 = .ok (.invokevirtual 229, 3) := by decide +kernel
theorem dX10_save_11 : decode cX10_save 11 = .ok (.aload_n 0, 1) := by decide +kernel
theorem dX10_save_12 : decode cX10_save 12 = .ok (.iconst 1, 1) := by decide +kernel
theorem dX10_save_13 : decode cX10_save 13 = .ok (.putfield 67, 3) := by decide +kernel
theorem dX10_save_16 : decode cX10_save 16 = .ok (.aload_n 0, 1) := by decide +kernel
theorem dX10_save_17 : decode cX10_save 17 = .ok (.getfield 12, 3) := by decide +kernel
theorem dX10_save_20 : decode cX10_save 20 = .ok (.getfield 121, 3) := by decide +kernel
theorem dX10_save_23 : decode cX10_save 23 = .ok (.ireturn, 1) := by decide +kernel
theorem dX10_restore_0 : decode cX10_restore 0 = .ok (.aload_n 0, 1) := by decide +kernel
theorem dX10_restore_1 : decode cX10_restore 1 = .ok (.getfield 67, 3) := by decide +kernel
theorem dX10_restore_4 : decode cX10_restore 4 = .ok (.ifCond .ne 14, 3) := by decide +kernel
theorem dX10_restore_7 : decode cX10_restore 7 = .ok (.new 331, 3) := by decide +kernel
theorem dX10_restore_10 : decode cX10_restore 10 = .ok (.dup, 1) := by decide +kernel
theorem dX10_restore_11 : decode cX10_restore 11 = .ok (.ldc_w 373, 3) := by decide +kernel
theorem dX10_restore_14 : decode cX10_restore 14 = .ok (.invokespecial 335, 3) := by decide +kernel
theorem dX10_restore_17 : decode cX10_restore 17 = .ok (.athrow, 1) := by decide +kernel
theorem dX10_restore_18 : decode cX10_restore 18 = .ok (.aload_n 0, 1) := by decide +kernel
theorem dX10_restore_19 : decode cX10_restore 19 = .ok (.getfield 12, 3) := by decide +kernel
theorem dX10_restore_22 : decode cX10_restore 22 = .ok (.aload_n 0, 1) := by decide +kernel
theorem dX10_restore_23 : decode cX10_restore 23 = .ok (.getfield 16, 3) := by decide +kernel
theorem dX10_restore_26 : decode cX10_restore 26 = .ok (.invokevirtual 229, 3) := by decide +kernel
theorem dX10_restore_29 : decode cX10_restore 29 = .ok (.aload_n 0, 1) := by decide +kernel
theorem dX10_restore_30 : decode cX10_restore 30 = .ok (.getfield 25, 3) := by decide +kernel
theorem dX10_restore_33 : decode cX10_restore 33 = .ok (.invokevirtual 375, 3) := by decide +kernel
theorem dX10_restore_36 : decode cX10_restore 36 = .ok (.aload_n 0, 1) := by decide +kernel
theorem dX10_restore_37 : decode cX10_restore 37 = .ok (.getfield 12, 3) := by decide +kernel
theorem dX10_restore_40 : decode cX10_restore 40 = .ok (.getfield 121, 3) := by decide +kernel
theorem dX10_restore_43 : decode cX10_restore 43 = .ok (.ireturn, 1) := by decide +kernel
theorem dX10_change_0 : decode cX10_change 0 = .ok (.aload_n 0, 1) := by decide +kernel
theorem dX10_change_1 : decode cX10_change 1 = .ok (.getfield 25, 3) := by decide +kernel
theorem dX10_change_4 : decode cX10_change 4 = .ok (.aload_n 0, 1) := by decide +kernel
theorem dX10_change_5 : decode cX10_change 5 = .ok (.getfield 12, 3) := by decide +kernel
theorem dX10_change_8 : decode cX10_change 8 = .ok (.invokevirtual 345, 3) := by decide +kernel
theorem dX10_change_11 : decode cX10_change 11 = .ok (.aload_n 0, 1) := by decide +kernel
theorem dX10_change_12 : decode cX10_change 12 = .ok (.getfield 12, 3) := by decide +kernel
theorem dX10_change_15 : decode cX10_change 15 = .ok (.aload_n 1, 1) := by decide +kernel
theorem dX10_change_16 : decode cX10_change 16 = .ok (.iload_n 2, 1) := by decide +kernel
theorem dX10_change_17 : decode cX10_change 17 = .ok (.iload_n 3, 1) := by decide +kernel
theorem dX10_change_18 : decode cX10_change 18 = .ok (.invokevirtual 378, 3) := by decide +kernel
theorem dX10_change_21 : decode cX10_change 21 = .ok (.istore 4, 2) := by decide +kernel
theorem dX10_change_23 : decode cX10_change 23 = .ok (.aload_n 0, 1) := by decide +kernel
theorem dX10_change_24 : decode cX10_change 24 = .ok (.getfield 25, 3) := by decide +kernel
theorem dX10_change_27 : decode cX10_change 27 = .ok (.invokevirtual 357, 3) := by decide +kernel
theorem dX10_change_30 : decode cX10_change 30 = .ok (.iload 4, 2) := by decide +kernel
theorem dX10_change_32 : decode cX10_change 32 = .ok (.ireturn, 1) := by decide +kernel
theorem dX10_executeUntilFailure_0 : decode cX10_executeUntilFailure 0 = .ok (.iconst 0, 1) := by decide +kernel
theorem dX10_executeUntilFailure_1 : decode cX10_executeUntilFailure 1 = .ok (.istore_n 1, 1) := by decide +kernel
theorem dX10_executeUntilFailure_2 : decode cX10_executeUntilFailure 2 = .ok (.iload_n 1, 1) := by decide +kernel
theorem dX10_executeUntilFailure_3 : decode cX10_executeUntilFailure 3 = .ok (.aload_n 0, 1) := by decide +kernel
theorem dX10_executeUntilFailure_4 : decode cX10_executeUntilFailure 4 = .ok (.getfield 53, 3) := by decide +kernel
theorem dX10_executeUntilFailure_7 : decode cX10_executeUntilFailure 7 = .ok (.getfield 360, 3) := by decide +kernel
theorem dX10_executeUntilFailure_10 : decode cX10_executeUntilFailure 10 = .ok (.if_icmp .ge 60, 3) := by decide +kernel
theorem dX10_executeUntilFailure_13 : decode cX10_executeUntilFailure 13 = .ok (.aload_n 0, 1) := by decide +kernel
theorem dX10_executeUntilFailure_14 : decode cX10_executeUntilFailure 14 = .ok (.getfield 12, 3) := by decide +kernel
theorem dX10_executeUntilFailure_17 : decode cX10_executeUntilFailure 17 = .ok (.getstatic 381, 3) := by decide +kernel
theorem dX10_executeUntilFailure_20 : decode cX10_executeUntilFailure 20 = .ok (.aload_n 0, 1) := by decide +kernel
theorem dX10_executeUntilFailure_21 : decode cX10_executeUntilFailure 21 = .ok (.getfield 53, 3) := by decide +kernel
theorem dX10_executeUntilFailure_24 : decode cX10_executeUntilFailure 24 = .ok (.getfield 385, 3) := by decide +kernel
theorem dX10_executeUntilFailure_27 : decode cX10_executeUntilFailure 27 = .ok (.iload_n 1, 1) := by decide +kernel
theorem dX10_executeUntilFailure_28 : decode cX10_executeUntilFailure 28 = .ok (.iaload, 1) := by decide +kernel
theorem dX10_executeUntilFailure_29 : decode cX10_executeUntilFailure 29 = .ok (.aaload, 1) := by decide +kernel
theorem dX10_executeUntilFailure_30 : decode cX10_executeUntilFailure 30 = .ok (.aload_n 0, 1) := by decide +kernel
theorem dX10_executeUntilFailure_31 : decode cX10_executeUntilFailure 31 = .ok (.getfield 53, 3) := by decide +kernel
theorem dX10_executeUntilFailure_34 : decode cX10_executeUntilFailure 34 = .ok (.getfield 388, 3) := by decide +kernel
theorem dX10_executeUntilFailure_37 : decode cX10_executeUntilFailure 37 = .ok (.iload_n 1, 1) := by decide +kernel
theorem dX10_executeUntilFailure_38 : decode cX10_executeUntilFailure 38 = .ok (.iaload, 1) := by decide +kernel
theorem dX10_executeUntilFailure_39 : decode cX10_executeUntilFailure 39 = .ok (.aload_n 0, 1) := by decide +kernel
theorem dX10_executeUntilFailure_40 : decode cX10_executeUntilFailure 40 = .ok (.getfield 53, 3) := by decide +kernel
theorem dX10_executeUntilFailure_43 : decode cX10_executeUntilFailure 43 = .ok (.getfield 391, 3) := by decide +kernel
theorem dX10_executeUntilFailure_46 : decode cX10_executeUntilFailure 46 = .ok (.iload_n 1, 1) := by decide +kernel
theorem dX10_executeUntilFailure_47 : decode cX10_executeUntilFailure 47 = .ok (.iaload, 1) := by decide +kernel
theorem dX10_executeUntilFailure_48 : decode cX10_executeUntilFailure 48 = .ok (.invokevirtual 378, 3) := by decide +kernel
theorem dX10_executeUntilFailure_51 : decode cX10_executeUntilFailure 51 = .ok (.pop, 1) := by decide +kernel
theorem dX10_executeUntilFailure_52 : decode cX10_executeUntilFailure 52 = .ok (.goto 12, 3) := by decide +kernel
theorem dX10_executeUntilFailure_55 : decode cX10_executeUntilFailure 55 = .ok (.astore_n 2, 1) := by decide +kernel
theorem dX10_executeUntilFailure_56 : decode cX10_executeUntilFailure 56 = .ok (.iload_n 1, 1) := by decide +kernel
theorem dX10_executeUntilFailure_57 : decode cX10_executeUntilFailure 57 = .ok (.ireturn, 1) := by decide +kernel
theorem dX10_executeUntilFailure_58 : decode cX10_executeUntilFailure 58 = .ok (.astore_n 2, 1) := by decide +kernel
theorem dX10_executeUntilFailure_59 : decode cX10_executeUntilFailure 59 = .ok (.iload_n 1, 1) := by decide +kernel
theorem dX10_executeUntilFailure_60 : decode cX10_executeUntilFailure 60 = .ok (.ireturn, 1) := by decide +kernel
theorem dX10_executeUntilFailure_61 : decode cX10_executeUntilFailure 61 = .ok (.astore_n 2, 1) := by decide +kernel
theorem dX10_executeUntilFailure_62 : decode cX10_executeUntilFailure 62 = .ok (.iload_n 1, 1) := by decide +kernel
theorem dX10_executeUntilFailure_63 : decode cX10_executeUntilFailure 63 = .ok (.ireturn, 1) := by decide +kernel
theorem dX10_executeUntilFailure_64 : decode cX10_executeUntilFailure 64 = .ok (.iinc 1 1, 3) := by decide +kernel
theorem dX10_executeUntilFailure_67 : decode cX10_executeUntilFailure 67 = .ok (.goto (-65), 3) := by decide +kernel
theorem dX10_executeUntilFailure_70 : decode cX10_executeUntilFailure 70 = .ok (.iconst (-1), 1) := by decide +kernel
theorem dX10_executeUntilFailure_71 : decode cX10_executeUntilFailure 71 = .ok (.ireturn, 1) := by decide +kernel
theorem dX10_labelsAgreeWithGame_0 : decode cX10_labelsAgreeWithGame 0 = .ok (.aload_n 0, 1) := by decide +kernel
theorem dX10_labelsAgreeWithGame_1 : decode cX10_labelsAgreeWithGame 1 = .ok (.getfield 32, 3) := by decide +kernel
theorem dX10_labelsAgreeWithGame_4 : decode cX10_labelsAgreeWithGame 4 = .ok (.aload_n 0, 1) := by decide +kernel
theorem dX10_labelsAgreeWithGame_5 : decode cX10_labelsAgreeWithGame 5 = .ok (.getfield 12, 3) := by decide +kernel
theorem dX10_labelsAgreeWithGame_8 : decode cX10_labelsAgreeWithGame 8 = .ok (.invokevirtual 174, 3) := by decide +kernel
theorem dX10_labelsAgreeWithGame_11 : decode cX10_labelsAgreeWithGame 11 = .ok (.iconst 0, 1) := by decide +kernel
theorem dX10_labelsAgreeWithGame_12 : decode cX10_labelsAgreeWithGame 12 = .ok (.istore_n 1, 1) := by decide +kernel
theorem dX10_labelsAgreeWithGame_13 : decode cX10_labelsAgreeWithGame 13 = .ok (.iload_n 1, 1) := by decide +kernel
theorem dX10_labelsAgreeWithGame_14 : decode cX10_labelsAgreeWithGame 14 = .ok (.aload_n 0, 1) := by decide +kernel
theorem dX10_labelsAgreeWithGame_15 : decode cX10_labelsAgreeWithGame 15 = .ok (.getfield 12, 3) := by decide +kernel
theorem dX10_labelsAgreeWithGame_18 : decode cX10_labelsAgreeWithGame 18 = .ok (.getfield 121, 3) := by decide +kernel
theorem dX10_labelsAgreeWithGame_21 : decode cX10_labelsAgreeWithGame 21 = .ok (.if_icmp .ge 37, 3) := by decide +kernel
theorem dX10_labelsAgreeWithGame_24 : decode cX10_labelsAgreeWithGame 24 = .ok (.aload_n 0, 1) := by decide +kernel
theorem dX10_labelsAgreeWithGame_25 : decode cX10_labelsAgreeWithGame 25 = .ok (.getfield 32, 3) := by decide +kernel
theorem dX10_labelsAgreeWithGame_28 : decode cX10_labelsAgreeWithGame 28 = .ok (.getfield 195, 3) := by decide +kernel
theorem dX10_labelsAgreeWithGame_31 : decode cX10_labelsAgreeWithGame 31 = .ok (.iload_n 1, 1) := by decide +kernel
theorem dX10_labelsAgreeWithGame_32 : decode cX10_labelsAgreeWithGame 32 = .ok (.invokestatic 155, 3) := by decide +kernel
theorem dX10_labelsAgreeWithGame_35 : decode cX10_labelsAgreeWithGame 35 = .ok (.aload_n 0, 1) := by decide +kernel
theorem dX10_labelsAgreeWithGame_36 : decode cX10_labelsAgreeWithGame 36 = .ok (.getfield 39, 3) := by decide +kernel
theorem dX10_labelsAgreeWithGame_39 : decode cX10_labelsAgreeWithGame 39 = .ok (.aload_n 0, 1) := by decide +kernel
theorem dX10_labelsAgreeWithGame_40 : decode cX10_labelsAgreeWithGame 40 = .ok (.getfield 12, 3) := by decide +kernel
theorem dX10_labelsAgreeWithGame_43 : decode cX10_labelsAgreeWithGame 43 = .ok (.iload_n 1, 1) := by decide +kernel
theorem dX10_labelsAgreeWithGame_44 : decode cX10_labelsAgreeWithGame 44 = .ok (.invokevirtual 187, 3) := by decide +kernel
theorem dX10_labelsAgreeWithGame_47 : decode cX10_labelsAgreeWithGame 47 = .ok (.if_icmp .eq 5, 3) := by decide +kernel
theorem dX10_labelsAgreeWithGame_50 : decode cX10_labelsAgreeWithGame 50 = .ok (.iconst 0, 1) := by decide +kernel
theorem dX10_labelsAgreeWithGame_51 : decode cX10_labelsAgreeWithGame 51 = .ok (.ireturn, 1) := by decide +kernel
theorem dX10_labelsAgreeWithGame_52 : decode cX10_labelsAgreeWithGame 52 = .ok (.iinc 1 1, 3) := by decide +kernel
theorem dX10_labelsAgreeWithGame_55 : decode cX10_labelsAgreeWithGame 55 = .ok (.goto (-42), 3) := by decide +kernel
theorem dX10_labelsAgreeWithGame_58 : decode cX10_labelsAgreeWithGame 58 = .ok (.iconst 1, 1) := by decide +kernel
theorem dX10_labelsAgreeWithGame_59 : decode cX10_labelsAgreeWithGame 59 = .ok (.ireturn, 1) := by decide +kernel
theorem dX10_has_0 : decode cX10_has 0 = .ok (.iload_n 0, 1) := by decide +kernel
theorem dX10_has_1 : decode cX10_has 1 = .ok (.iload_n 1, 1) := by decide +kernel
theorem dX10_has_2 : decode cX10_has 2 = .ok (.ishr, 1) := by decide +kernel
theorem dX10_has_3 : decode cX10_has 3 = .ok (.iconst 1, 1) := by decide +kernel
theorem dX10_has_4 : decode cX10_has 4 = .ok (.iand, 1) := by decide +kernel
theorem dX10_has_5 : decode cX10_has 5 = .ok (.ifCond .eq 7, 3) := by decide +kernel
theorem dX10_has_8 : decode cX10_has 8 = .ok (.iconst 1, 1) := by decide +kernel
theorem dX10_has_9 : decode cX10_has 9 = .ok (.goto 4, 3) := by decide +kernel
theorem dX10_has_12 : decode cX10_has 12 = .ok (.iconst 0, 1) := by decide +kernel
theorem dX10_has_13 : decode cX10_has 13 = .ok (.ireturn, 1) := by decide +kernel
theorem dX11_init_0 : decode cX11_init 0 = .ok (.aload_n 0, 1) := by decide +kernel
theorem dX11_init_1 : decode cX11_init 1 = .ok (.invokespecial 1, 3) := by decide +kernel
theorem dX11_init_4 : decode cX11_init 4 = .ok (.aload_n 0, 1) := by decide +kernel
theorem dX11_init_5 : decode cX11_init 5 = .ok (.sipush 612, 3) := by decide +kernel
theorem dX11_init_8 : decode cX11_init 8 = .ok (.newarray .int, 2) := by decide +kernel
theorem dX11_init_10 : decode cX11_init 10 = .ok (.putfield 9, 3) := by decide +kernel
theorem dX11_init_13 : decode cX11_init 13 = .ok (.aload_n 0, 1) := by decide +kernel
theorem dX11_init_14 : decode cX11_init 14 = .ok (.bipush 8, 2) := by decide +kernel
theorem dX11_init_16 : decode cX11_init 16 = .ok (.newarray .int, 2) := by decide +kernel
theorem dX11_init_18 : decode cX11_init 18 = .ok (.putfield 13, 3) := by decide +kernel
theorem dX11_init_21 : decode cX11_init 21 = .ok (.aload_n 0, 1) := by decide +kernel
theorem dX11_init_22 : decode cX11_init 22 = .ok (.sipush 256, 3) := by decide +kernel
theorem dX11_init_25 : decode cX11_init 25 = .ok (.newarray .boolean, 2) := by decide +kernel
theorem dX11_init_27 : decode cX11_init 27 = .ok (.putfield 16, 3) := by decide +kernel
theorem dX11_init_30 : decode cX11_init 30 = .ok (.aload_n 0, 1) := by decide +kernel
theorem dX11_init_31 : decode cX11_init 31 = .ok (.bipush 8, 2) := by decide +kernel
theorem dX11_init_33 : decode cX11_init 33 = .ok (.newarray .int, 2) := by decide +kernel
theorem dX11_init_35 : decode cX11_init 35 = .ok (.putfield 20, 3) := by decide +kernel
theorem dX11_init_38 : decode cX11_init 38 = .ok (.aload_n 0, 1) := by decide +kernel
theorem dX11_init_39 : decode cX11_init 39 = .ok (.sipush 160, 3) := by decide +kernel
theorem dX11_init_42 : decode cX11_init 42 = .ok (.newarray .char, 2) := by decide +kernel
theorem dX11_init_44 : decode cX11_init 44 = .ok (.putfield 23, 3) := by decide +kernel
theorem dX11_init_47 : decode cX11_init 47 = .ok (.aload_n 0, 1) := by decide +kernel
theorem dX11_init_48 : decode cX11_init 48 = .ok (.bipush 60, 2) := by decide +kernel
theorem dX11_init_50 : decode cX11_init 50 = .ok (.newarray .char, 2) := by decide +kernel
theorem dX11_init_52 : decode cX11_init 52 = .ok (.putfield 27, 3) := by decide +kernel
theorem dX11_init_55 : decode cX11_init 55 = .ok (.aload_n 0, 1) := by decide +kernel
theorem dX11_init_56 : decode cX11_init 56 = .ok (.iconst (-1), 1) := by decide +kernel
theorem dX11_init_57 : decode cX11_init 57 = .ok (.putfield 30, 3) := by decide +kernel
theorem dX11_init_60 : decode cX11_init 60 = .ok (.aload_n 0, 1) := by decide +kernel
theorem dX11_init_61 : decode cX11_init 61 = .ok (.iconst (-1), 1) := by decide +kernel
theorem dX11_init_62 : decode cX11_init 62 = .ok (.putfield 34, 3) := by decide +kernel
theorem dX11_init_65 : decode cX11_init 65 = .ok (.aload_n 0, 1) := by decide +kernel
theorem dX11_init_66 : decode cX11_init 66 = .ok (.sipush 183, 3) := by decide +kernel
theorem dX11_init_69 : decode cX11_init 69 = .ok (.newarray .int, 2) := by decide +kernel
theorem dX11_init_71 : decode cX11_init 71 = .ok (.putfield 37, 3) := by decide +kernel
theorem dX11_init_74 : decode cX11_init 74 = .ok (.return_, 1) := by decide +kernel
theorem dX11_thrown_0 : decode cX11_thrown 0 = .ok (.aload_n 0, 1) := by decide +kernel
theorem dX11_thrown_1 : decode cX11_thrown 1 = .ok (.getfield 40, 3) := by decide +kernel
theorem dX11_thrown_4 : decode cX11_thrown 4 = .ok (.ireturn, 1) := by decide +kernel
theorem dX11_in_0 : decode cX11_in 0 = .ok (.iload_n 0, 1) := by decide +kernel
theorem dX11_in_1 : decode cX11_in 1 = .ok (.iload_n 1, 1) := by decide +kernel
theorem dX11_in_2 : decode cX11_in 2 = .ok (.if_icmp .lt 12, 3) := by decide +kernel
theorem dX11_in_5 : decode cX11_in 5 = .ok (.iload_n 0, 1) := by decide +kernel
theorem dX11_in_6 : decode cX11_in 6 = .ok (.iload_n 2, 1) := by decide +kernel
theorem dX11_in_7 : decode cX11_in 7 = .ok (.if_icmp .gt 7, 3) := by decide +kernel
theorem dX11_in_10 : decode cX11_in 10 = .ok (.iconst 1, 1) := by decide +kernel
theorem dX11_in_11 : decode cX11_in 11 = .ok (.goto 4, 3) := by decide +kernel
theorem dX11_in_14 : decode cX11_in 14 = .ok (.iconst 0, 1) := by decide +kernel
theorem dX11_in_15 : decode cX11_in 15 = .ok (.ireturn, 1) := by decide +kernel
theorem dX11_copies_0 : decode cX11_copies 0 = .ok (.iconst 0, 1) := by decide +kernel
theorem dX11_copies_1 : decode cX11_copies 1 = .ok (.istore_n 3, 1) := by decide +kernel
theorem dX11_copies_2 : decode cX11_copies 2 = .ok (.iload_n 3, 1) := by decide +kernel
theorem dX11_copies_3 : decode cX11_copies 3 = .ok (.bipush 51, 2) := by decide +kernel
theorem dX11_copies_5 : decode cX11_copies 5 = .ok (.if_icmp .ge 31, 3) := by decide +kernel
theorem dX11_copies_8 : decode cX11_copies 8 = .ok (.aload_n 0, 1) := by decide +kernel
theorem dX11_copies_9 : decode cX11_copies 9 = .ok (.getfield 9, 3) := by decide +kernel
theorem dX11_copies_12 : decode cX11_copies 12 = .ok (.bipush 51, 2) := by decide +kernel
theorem dX11_copies_14 : decode cX11_copies 14 = .ok (.iload_n 2, 1) := by decide +kernel
theorem dX11_copies_15 : decode cX11_copies 15 = .ok (.imul, 1) := by decide +kernel
theorem dX11_copies_16 : decode cX11_copies 16 = .ok (.iload_n 3, 1) := by decide +kernel
theorem dX11_copies_17 : decode cX11_copies 17 = .ok (.iadd, 1) := by decide +kernel
theorem dX11_copies_18 : decode cX11_copies 18 = .ok (.aload_n 0, 1) := by decide +kernel
theorem dX11_copies_19 : decode cX11_copies 19 = .ok (.getfield 9, 3) := by decide +kernel
theorem dX11_copies_22 : decode cX11_copies 22 = .ok (.bipush 51, 2) := by decide +kernel
theorem dX11_copies_24 : decode cX11_copies 24 = .ok (.iload_n 1, 1) := by decide +kernel
theorem dX11_copies_25 : decode cX11_copies 25 = .ok (.imul, 1) := by decide +kernel
theorem dX11_copies_26 : decode cX11_copies 26 = .ok (.iload_n 3, 1) := by decide +kernel
theorem dX11_copies_27 : decode cX11_copies 27 = .ok (.iadd, 1) := by decide +kernel
theorem dX11_copies_28 : decode cX11_copies 28 = .ok (.iaload, 1) := by decide +kernel
theorem dX11_copies_29 : decode cX11_copies 29 = .ok (.iastore, 1) := by decide +kernel
theorem dX11_copies_30 : decode cX11_copies 30 = .ok (.iinc 3 1, 3) := by decide +kernel
theorem dX11_copies_33 : decode cX11_copies 33 = .ok (.goto (-31), 3) := by decide +kernel
theorem dX11_copies_36 : decode cX11_copies 36 = .ok (.return_, 1) := by decide +kernel
theorem dX11_begins_0 : decode cX11_begins 0 = .ok (.aload_n 0, 1) := by decide +kernel
theorem dX11_begins_1 : decode cX11_begins 1 = .ok (.iconst 0, 1) := by decide +kernel
theorem dX11_begins_2 : decode cX11_begins 2 = .ok (.bipush 10, 2) := by decide +kernel
theorem dX11_begins_4 : decode cX11_begins 4 = .ok (.invokevirtual 43, 3) := by decide +kernel
theorem dX11_begins_7 : decode cX11_begins 7 = .ok (.return_, 1) := by decide +kernel
theorem dX11_ends_0 : decode cX11_ends 0 = .ok (.aload_n 0, 1) := by decide +kernel
theorem dX11_ends_1 : decode cX11_ends 1 = .ok (.iload_n 1, 1) := by decide +kernel
theorem dX11_ends_2 : decode cX11_ends 2 = .ok (.iconst 1, 1) := by decide +kernel
theorem dX11_ends_3 : decode cX11_ends 3 = .ok (.if_icmp .ne 7, 3) := by decide +kernel
theorem dX11_ends_6 : decode cX11_ends 6 = .ok (.iload_n 2, 1) := by decide +kernel
theorem dX11_ends_7 : decode cX11_ends 7 = .ok (.goto 23, 3) := by decide +kernel
theorem dX11_ends_10 : decode cX11_ends 10 = .ok (.iload_n 1, 1) := by decide +kernel
theorem dX11_ends_11 : decode cX11_ends 11 = .ok (.iconst 2, 1) := by decide +kernel
theorem dX11_ends_12 : decode cX11_ends 12 = .ok (.if_icmp .ne 7, 3) := by decide +kernel
theorem dX11_ends_15 : decode cX11_ends 15 = .ok (.iload_n 3, 1) := by decide +kernel
theorem dX11_ends_16 : decode cX11_ends 16 = .ok (.goto 14, 3) := by decide +kernel
theorem dX11_ends_19 : decode cX11_ends 19 = .ok (.iload_n 1, 1) := by decide +kernel
theorem dX11_ends_20 : decode cX11_ends 20 = .ok (.iconst 3, 1) := by decide +kernel
theorem dX11_ends_21 : decode cX11_ends 21 = .ok (.if_icmp .ne 8, 3) := by decide +kernel
theorem dX11_ends_24 : decode cX11_ends 24 = .ok (.iload 4, 2) := by decide +kernel
theorem dX11_ends_26 : decode cX11_ends 26 = .ok (.goto 4, 3) := by decide +kernel
theorem dX11_ends_29 : decode cX11_ends 29 = .ok (.iconst 0, 1) := by decide +kernel
theorem dX11_ends_30 : decode cX11_ends 30 = .ok (.putfield 40, 3) := by decide +kernel
theorem dX11_ends_33 : decode cX11_ends 33 = .ok (.aload_n 0, 1) := by decide +kernel
theorem dX11_ends_34 : decode cX11_ends 34 = .ok (.getfield 40, 3) := by decide +kernel
theorem dX11_ends_37 : decode cX11_ends 37 = .ok (.ifCond .eq 12, 3) := by decide +kernel
theorem dX11_ends_40 : decode cX11_ends 40 = .ok (.aload_n 0, 1) := by decide +kernel
theorem dX11_ends_41 : decode cX11_ends 41 = .ok (.bipush 10, 2) := by decide +kernel
theorem dX11_ends_43 : decode cX11_ends 43 = .ok (.iconst 0, 1) := by decide +kernel
theorem dX11_ends_44 : decode cX11_ends 44 = .ok (.invokevirtual 43, 3) := by decide +kernel
theorem dX11_ends_47 : decode cX11_ends 47 = .ok (.iconst 0, 1) := by decide +kernel
theorem dX11_ends_48 : decode cX11_ends 48 = .ok (.ireturn, 1) := by decide +kernel
theorem dX11_ends_49 : decode cX11_ends 49 = .ok (.aload_n 0, 1) := by decide +kernel
theorem dX11_ends_50 : decode cX11_ends 50 = .ok (.getfield 47, 3) := by decide +kernel
theorem dX11_ends_53 : decode cX11_ends 53 = .ok (.bipush 8, 2) := by decide +kernel
theorem dX11_ends_55 : decode cX11_ends 55 = .ok (.if_icmp .ne 39, 3) := by decide +kernel
theorem dX11_ends_58 : decode cX11_ends 58 = .ok (.iconst 1, 1) := by decide +kernel
theorem dX11_ends_59 : decode cX11_ends 59 = .ok (.istore 5, 2) := by decide +kernel
theorem dX11_ends_61 : decode cX11_ends 61 = .ok (.iload 5, 2) := by decide +kernel
theorem dX11_ends_63 : decode cX11_ends 63 = .ok (.bipush 8, 2) := by decide +kernel
theorem dX11_ends_65 : decode cX11_ends 65 = .ok (.if_icmp .ge 19, 3) := by decide +kernel
theorem dX11_ends_68 : decode cX11_ends 68 = .ok (.aload_n 0, 1) := by decide +kernel
theorem dX11_ends_69 : decode cX11_ends 69 = .ok (.iload 5, 2) := by decide +kernel
theorem dX11_ends_71 : decode cX11_ends 71 = .ok (.iconst 1, 1) := by decide +kernel
theorem dX11_ends_72 : decode cX11_ends 72 = .ok (.iadd, 1) := by decide +kernel
theorem dX11_ends_73 : decode cX11_ends 73 = .ok (.iload 5, 2) := by decide +kernel
theorem dX11_ends_75 : decode cX11_ends 75 = .ok (.invokevirtual 43, 3) := by decide +kernel
theorem dX11_ends_78 : decode cX11_ends 78 = .ok (.iinc 5 1, 3) := by decide +kernel
theorem dX11_ends_81 : decode cX11_ends 81 = .ok (.goto (-20), 3) := by decide +kernel
theorem dX11_ends_84 : decode cX11_ends 84 = .ok (.aload_n 0, 1) := by decide +kernel
theorem dX11_ends_85 : decode cX11_ends 85 = .ok (.dup, 1) := by decide +kernel
theorem dX11_ends_86 : decode cX11_ends 86 = .ok (.getfield 47, 3) := by decide +kernel
theorem dX11_ends_89 : decode cX11_ends 89 = .ok (.iconst 1, 1) := by decide +kernel
theorem dX11_ends_90 : decode cX11_ends 90 = .ok (.isub, 1) := by decide +kernel
theorem dX11_ends_91 : decode cX11_ends 91 = .ok (.putfield 47, 3) := by decide +kernel
theorem dX11_ends_94 : decode cX11_ends 94 = .ok (.aload_n 0, 1) := by decide +kernel
theorem dX11_ends_95 : decode cX11_ends 95 = .ok (.dup, 1) := by decide +kernel
theorem dX11_ends_96 : decode cX11_ends 96 = .ok (.getfield 47, 3) := by decide +kernel
theorem dX11_ends_99 : decode cX11_ends 99 = .ok (.iconst 1, 1) := by decide +kernel
theorem dX11_ends_100 : decode cX11_ends 100 = .ok (.iadd, 1) := by decide +kernel
theorem dX11_ends_101 : decode cX11_ends 101 = .ok (.putfield 47, 3) := by decide +kernel
theorem dX11_ends_104 : decode cX11_ends 104 = .ok (.aload_n 0, 1) := by decide +kernel
theorem dX11_ends_105 : decode cX11_ends 105 = .ok (.bipush 10, 2) := by decide +kernel
theorem dX11_ends_107 : decode cX11_ends 107 = .ok (.aload_n 0, 1) := by decide +kernel
theorem dX11_ends_108 : decode cX11_ends 108 = .ok (.getfield 47, 3) := by decide +kernel
theorem dX11_ends_111 : decode cX11_ends 111 = .ok (.invokevirtual 43, 3) := by decide +kernel
theorem dX11_ends_114 : decode cX11_ends 114 = .ok (.aload_n 0, 1) := by decide +kernel
theorem dX11_ends_115 : decode cX11_ends 115 = .ok (.getfield 50, 3) := by decide +kernel
theorem dX11_ends_118 : decode cX11_ends 118 = .ok (.ireturn, 1) := by decide +kernel
theorem dX11_isFine_0 : decode cX11_isFine 0 = .ok (.aload_n 0, 1) := by decide +kernel
theorem dX11_isFine_1 : decode cX11_isFine 1 = .ok (.iload_n 1, 1) := by decide +kernel
theorem dX11_isFine_2 : decode cX11_isFine 2 = .ok (.ifCond .eq 7, 3) := by decide +kernel
theorem dX11_isFine_5 : decode cX11_isFine 5 = .ok (.iconst 0, 1) := by decide +kernel
theorem dX11_isFine_6 : decode cX11_isFine 6 = .ok (.goto 4, 3) := by decide +kernel
theorem dX11_isFine_9 : decode cX11_isFine 9 = .ok (.iconst 1, 1) := by decide +kernel
theorem dX11_isFine_10 : decode cX11_isFine 10 = .ok (.putfield 40, 3) := by decide +kernel
theorem dX11_isFine_13 : decode cX11_isFine 13 = .ok (.iload_n 1, 1) := by decide +kernel
theorem dX11_isFine_14 : decode cX11_isFine 14 = .ok (.ireturn, 1) := by decide +kernel
theorem dX11_a_0 : decode cX11_a 0 = .ok (.aload_n 0, 1) := by decide +kernel
theorem dX11_a_1 : decode cX11_a 1 = .ok (.getfield 9, 3) := by decide +kernel
theorem dX11_a_4 : decode cX11_a 4 = .ok (.bipush 7, 2) := by decide +kernel
theorem dX11_a_6 : decode cX11_a 6 = .ok (.iconst 3, 1) := by decide +kernel
theorem dX11_a_7 : decode cX11_a 7 = .ok (.iload_n 1, 1) := by decide +kernel
theorem dX11_a_8 : decode cX11_a 8 = .ok (.imul, 1) := by decide +kernel
theorem dX11_a_9 : decode cX11_a 9 = .ok (.iadd, 1) := by decide +kernel
theorem dX11_a_10 : decode cX11_a 10 = .ok (.iload_n 2, 1) := by decide +kernel
theorem dX11_a_11 : decode cX11_a 11 = .ok (.iadd, 1) := by decide +kernel
theorem dX11_a_12 : decode cX11_a 12 = .ok (.iaload, 1) := by decide +kernel
theorem dX11_a_13 : decode cX11_a 13 = .ok (.ireturn, 1) := by decide +kernel
theorem dX11_place_0 : decode cX11_place 0 = .ok (.iconst 0, 1) := by decide +kernel
theorem dX11_place_1 : decode cX11_place 1 = .ok (.istore_n 2, 1) := by decide +kernel
theorem dX11_place_2 : decode cX11_place 2 = .ok (.iload_n 2, 1) := by decide +kernel
theorem dX11_place_3 : decode cX11_place 3 = .ok (.aload_n 0, 1) := by decide +kernel
theorem dX11_place_4 : decode cX11_place 4 = .ok (.getfield 9, 3) := by decide +kernel
theorem dX11_place_7 : decode cX11_place 7 = .ok (.iconst 0, 1) := by decide +kernel
theorem dX11_place_8 : decode cX11_place 8 = .ok (.iaload, 1) := by decide +kernel
theorem dX11_place_9 : decode cX11_place 9 = .ok (.if_icmp .ge 21, 3) := by decide +kernel
theorem dX11_place_12 : decode cX11_place 12 = .ok (.aload_n 0, 1) := by decide +kernel
theorem dX11_place_13 : decode cX11_place 13 = .ok (.iload_n 2, 1) := by decide +kernel
theorem dX11_place_14 : decode cX11_place 14 = .ok (.iconst 0, 1) := by decide +kernel
theorem dX11_place_15 : decode cX11_place 15 = .ok (.invokevirtual 53, 3) := by decide +kernel
theorem dX11_place_18 : decode cX11_place 18 = .ok (.iload_n 1, 1) := by decide +kernel
theorem dX11_place_19 : decode cX11_place 19 = .ok (.if_icmp .ne 5, 3) := by decide +kernel
theorem dX11_place_22 : decode cX11_place 22 = .ok (.iload_n 2, 1) := by decide +kernel
theorem dX11_place_23 : decode cX11_place 23 = .ok (.ireturn, 1) := by decide +kernel
theorem dX11_place_24 : decode cX11_place 24 = .ok (.iinc 2 1, 3) := by decide +kernel
theorem dX11_place_27 : decode cX11_place 27 = .ok (.goto (-25), 3) := by decide +kernel
theorem dX11_place_30 : decode cX11_place 30 = .ok (.iconst (-1), 1) := by decide +kernel
theorem dX11_place_31 : decode cX11_place 31 = .ok (.ireturn, 1) := by decide +kernel
theorem dX11_isThere_0 : decode cX11_isThere 0 = .ok (.aload_n 0, 1) := by decide +kernel
theorem dX11_isThere_1 : decode cX11_isThere 1 = .ok (.iload_n 1, 1) := by decide +kernel
theorem dX11_isThere_2 : decode cX11_isThere 2 = .ok (.invokevirtual 57, 3) := by decide +kernel
theorem dX11_isThere_5 : decode cX11_isThere 5 = .ok (.ifCond .lt 7, 3) := by decide +kernel
theorem dX11_isThere_8 : decode cX11_isThere 8 = .ok (.iconst 1, 1) := by decide +kernel
theorem dX11_isThere_9 : decode cX11_isThere 9 = .ok (.goto 4, 3) := by decide +kernel
theorem dX11_isThere_12 : decode cX11_isThere 12 = .ok (.iconst 0, 1) := by decide +kernel
theorem dX11_isThere_13 : decode cX11_isThere 13 = .ok (.ireturn, 1) := by decide +kernel
theorem dX11_strength_0 : decode cX11_strength 0 = .ok (.aload_n 0, 1) := by decide +kernel
theorem dX11_strength_1 : decode cX11_strength 1 = .ok (.iload_n 1, 1) := by decide +kernel
theorem dX11_strength_2 : decode cX11_strength 2 = .ok (.iconst 1, 1) := by decide +kernel
theorem dX11_strength_3 : decode cX11_strength 3 = .ok (.invokevirtual 53, 3) := by decide +kernel
theorem dX11_strength_6 : decode cX11_strength 6 = .ok (.aload_n 0, 1) := by decide +kernel
theorem dX11_strength_7 : decode cX11_strength 7 = .ok (.iload_n 1, 1) := by decide +kernel
theorem dX11_strength_8 : decode cX11_strength 8 = .ok (.iconst 2, 1) := by decide +kernel
theorem dX11_strength_9 : decode cX11_strength 9 = .ok (.invokevirtual 53, 3) := by decide +kernel
theorem dX11_strength_12 : decode cX11_strength 12 = .ok (.bipush 10, 2) := by decide +kernel
theorem dX11_strength_14 : decode cX11_strength 14 = .ok (.idiv, 1) := by decide +kernel
theorem dX11_strength_15 : decode cX11_strength 15 = .ok (.isub, 1) := by decide +kernel
theorem dX11_strength_16 : decode cX11_strength 16 = .ok (.istore_n 2, 1) := by decide +kernel
theorem dX11_strength_17 : decode cX11_strength 17 = .ok (.iload_n 2, 1) := by decide +kernel
theorem dX11_strength_18 : decode cX11_strength 18 = .ok (.iconst 1, 1) := by decide +kernel
theorem dX11_strength_19 : decode cX11_strength 19 = .ok (.if_icmp .ge 7, 3) := by decide +kernel
theorem dX11_strength_22 : decode cX11_strength 22 = .ok (.iconst 1, 1) := by decide +kernel
theorem dX11_strength_23 : decode cX11_strength 23 = .ok (.goto 4, 3) := by decide +kernel
theorem dX11_strength_26 : decode cX11_strength 26 = .ok (.iload_n 2, 1) := by decide +kernel
theorem dX11_strength_27 : decode cX11_strength 27 = .ok (.ireturn, 1) := by decide +kernel
theorem dX11_isAttack_0 : decode cX11_isAttack 0 = .ok (.aload_n 0, 1) := by decide +kernel
theorem dX11_isAttack_1 : decode cX11_isAttack 1 = .ok (.getfield 9, 3) := by decide +kernel
theorem dX11_isAttack_4 : decode cX11_isAttack 4 = .ok (.bipush 31, 2) := by decide +kernel
theorem dX11_isAttack_6 : decode cX11_isAttack 6 = .ok (.iload_n 1, 1) := by decide +kernel
theorem dX11_isAttack_7 : decode cX11_isAttack 7 = .ok (.iadd, 1) := by decide +kernel
theorem dX11_isAttack_8 : decode cX11_isAttack 8 = .ok (.iaload, 1) := by decide +kernel
theorem dX11_isAttack_9 : decode cX11_isAttack 9 = .ok (.iload_n 2, 1) := by decide +kernel
theorem dX11_isAttack_10 : decode cX11_isAttack 10 = .ok (.ishr, 1) := by decide +kernel
theorem dX11_isAttack_11 : decode cX11_isAttack 11 = .ok (.iconst 1, 1) := by decide +kernel
theorem dX11_isAttack_12 : decode cX11_isAttack 12 = .ok (.iand, 1) := by decide +kernel
theorem dX11_isAttack_13 : decode cX11_isAttack 13 = .ok (.iconst 1, 1) := by decide +kernel
theorem dX11_isAttack_14 : decode cX11_isAttack 14 = .ok (.if_icmp .ne 7, 3) := by decide +kernel
theorem dX11_isAttack_17 : decode cX11_isAttack 17 = .ok (.iconst 1, 1) := by decide +kernel
theorem dX11_isAttack_18 : decode cX11_isAttack 18 = .ok (.goto 4, 3) := by decide +kernel
theorem dX11_isAttack_21 : decode cX11_isAttack 21 = .ok (.iconst 0, 1) := by decide +kernel
theorem dX11_isAttack_22 : decode cX11_isAttack 22 = .ok (.ireturn, 1) := by decide +kernel
theorem dX11_wins_0 : decode cX11_wins 0 = .ok (.aload_n 0, 1) := by decide +kernel
theorem dX11_wins_1 : decode cX11_wins 1 = .ok (.iload_n 1, 1) := by decide +kernel
theorem dX11_wins_2 : decode cX11_wins 2 = .ok (.iload_n 2, 1) := by decide +kernel
theorem dX11_wins_3 : decode cX11_wins 3 = .ok (.invokevirtual 61, 3) := by decide +kernel
theorem dX11_wins_6 : decode cX11_wins 6 = .ok (.ifCond .eq 20, 3) := by decide +kernel
theorem dX11_wins_9 : decode cX11_wins 9 = .ok (.aload_n 0, 1) := by decide +kernel
theorem dX11_wins_10 : decode cX11_wins 10 = .ok (.iload_n 1, 1) := by decide +kernel
theorem dX11_wins_11 : decode cX11_wins 11 = .ok (.invokevirtual 65, 3) := by decide +kernel
theorem dX11_wins_14 : decode cX11_wins 14 = .ok (.aload_n 0, 1) := by decide +kernel
theorem dX11_wins_15 : decode cX11_wins 15 = .ok (.iload_n 2, 1) := by decide +kernel
theorem dX11_wins_16 : decode cX11_wins 16 = .ok (.invokevirtual 65, 3) := by decide +kernel
theorem dX11_wins_19 : decode cX11_wins 19 = .ok (.if_icmp .lt 7, 3) := by decide +kernel
theorem dX11_wins_22 : decode cX11_wins 22 = .ok (.iconst 1, 1) := by decide +kernel
theorem dX11_wins_23 : decode cX11_wins 23 = .ok (.goto 4, 3) := by decide +kernel
theorem dX11_wins_26 : decode cX11_wins 26 = .ok (.iconst 0, 1) := by decide +kernel
theorem dX11_wins_27 : decode cX11_wins 27 = .ok (.ireturn, 1) := by decide +kernel
theorem dX11_size_0 : decode cX11_size 0 = .ok (.iconst 0, 1) := by decide +kernel
theorem dX11_size_1 : decode cX11_size 1 = .ok (.istore_n 1, 1) := by decide +kernel
theorem dX11_size_2 : decode cX11_size 2 = .ok (.iconst 0, 1) := by decide +kernel
theorem dX11_size_3 : decode cX11_size 3 = .ok (.istore_n 2, 1) := by decide +kernel
theorem dX11_size_4 : decode cX11_size 4 = .ok (.iload_n 2, 1) := by decide +kernel
theorem dX11_size_5 : decode cX11_size 5 = .ok (.bipush 8, 2) := by decide +kernel
theorem dX11_size_7 : decode cX11_size 7 = .ok (.if_icmp .ge 17, 3) := by decide +kernel
theorem dX11_size_10 : decode cX11_size 10 = .ok (.iload_n 1, 1) := by decide +kernel
theorem dX11_size_11 : decode cX11_size 11 = .ok (.iload_n 0, 1) := by decide +kernel
theorem dX11_size_12 : decode cX11_size 12 = .ok (.iload_n 2, 1) := by decide +kernel
theorem dX11_size_13 : decode cX11_size 13 = .ok (.ishr, 1) := by decide +kernel
theorem dX11_size_14 : decode cX11_size 14 = .ok (.iconst 1, 1) := by decide +kernel
theorem dX11_size_15 : decode cX11_size 15 = .ok (.iand, 1) := by decide +kernel
theorem dX11_size_16 : decode cX11_size 16 = .ok (.iadd, 1) := by decide +kernel
theorem dX11_size_17 : decode cX11_size 17 = .ok (.istore_n 1, 1) := by decide +kernel
theorem dX11_size_18 : decode cX11_size 18 = .ok (.iinc 2 1, 3) := by decide +kernel
theorem dX11_size_21 : decode cX11_size 21 = .ok (.goto (-17), 3) := by decide +kernel
theorem dX11_size_24 : decode cX11_size 24 = .ok (.iload_n 1, 1) := by decide +kernel
theorem dX11_size_25 : decode cX11_size 25 = .ok (.ireturn, 1) := by decide +kernel
theorem dX11_attacks_0 : decode cX11_attacks 0 = .ok (.iconst 0, 1) := by decide +kernel
theorem dX11_attacks_1 : decode cX11_attacks 1 = .ok (.istore_n 1, 1) := by decide +kernel
theorem dX11_attacks_2 : decode cX11_attacks 2 = .ok (.iconst 0, 1) := by decide +kernel
theorem dX11_attacks_3 : decode cX11_attacks 3 = .ok (.istore_n 2, 1) := by decide +kernel
theorem dX11_attacks_4 : decode cX11_attacks 4 = .ok (.iload_n 2, 1) := by decide +kernel
theorem dX11_attacks_5 : decode cX11_attacks 5 = .ok (.aload_n 0, 1) := by decide +kernel
theorem dX11_attacks_6 : decode cX11_attacks 6 = .ok (.getfield 9, 3) := by decide +kernel
theorem dX11_attacks_9 : decode cX11_attacks 9 = .ok (.iconst 0, 1) := by decide +kernel
theorem dX11_attacks_10 : decode cX11_attacks 10 = .ok (.iaload, 1) := by decide +kernel
theorem dX11_attacks_11 : decode cX11_attacks 11 = .ok (.if_icmp .ge 24, 3) := by decide +kernel
theorem dX11_attacks_14 : decode cX11_attacks 14 = .ok (.iload_n 1, 1) := by decide +kernel
theorem dX11_attacks_15 : decode cX11_attacks 15 = .ok (.aload_n 0, 1) := by decide +kernel
theorem dX11_attacks_16 : decode cX11_attacks 16 = .ok (.getfield 9, 3) := by decide +kernel
theorem dX11_attacks_19 : decode cX11_attacks 19 = .ok (.bipush 31, 2) := by decide +kernel
theorem dX11_attacks_21 : decode cX11_attacks 21 = .ok (.iload_n 2, 1) := by decide +kernel
theorem dX11_attacks_22 : decode cX11_attacks 22 = .ok (.iadd, 1) := by decide +kernel
theorem dX11_attacks_23 : decode cX11_attacks 23 = .ok (.iaload, 1) := by decide +kernel
theorem dX11_attacks_24 : decode cX11_attacks 24 = .ok (.invokestatic 68, 3) := by decide +kernel
theorem dX11_attacks_27 : decode cX11_attacks 27 = .ok (.iadd, 1) := by decide +kernel
theorem dX11_attacks_28 : decode cX11_attacks 28 = .ok (.istore_n 1, 1) := by decide +kernel
theorem dX11_attacks_29 : decode cX11_attacks 29 = .ok (.iinc 2 1, 3) := by decide +kernel
theorem dX11_attacks_32 : decode cX11_attacks 32 = .ok (.goto (-28), 3) := by decide +kernel
theorem dX11_attacks_35 : decode cX11_attacks 35 = .ok (.iload_n 1, 1) := by decide +kernel
theorem dX11_attacks_36 : decode cX11_attacks 36 = .ok (.ireturn, 1) := by decide +kernel
theorem dX11_attackers_0 : decode cX11_attackers 0 = .ok (.iconst 0, 1) := by decide +kernel
theorem dX11_attackers_1 : decode cX11_attackers 1 = .ok (.istore_n 2, 1) := by decide +kernel
theorem dX11_attackers_2 : decode cX11_attackers 2 = .ok (.iconst 0, 1) := by decide +kernel
theorem dX11_attackers_3 : decode cX11_attackers 3 = .ok (.istore_n 3, 1) := by decide +kernel
theorem dX11_attackers_4 : decode cX11_attackers 4 = .ok (.iload_n 3, 1) := by decide +kernel
theorem dX11_attackers_5 : decode cX11_attackers 5 = .ok (.aload_n 0, 1) := by decide +kernel
theorem dX11_attackers_6 : decode cX11_attackers 6 = .ok (.getfield 9, 3) := by decide +kernel
theorem dX11_attackers_9 : decode cX11_attackers 9 = .ok (.iconst 0, 1) := by decide +kernel
theorem dX11_attackers_10 : decode cX11_attackers 10 = .ok (.iaload, 1) := by decide +kernel
theorem dX11_attackers_11 : decode cX11_attackers 11 = .ok (.if_icmp .ge 28, 3) := by decide +kernel
theorem dX11_attackers_14 : decode cX11_attackers 14 = .ok (.iload_n 2, 1) := by decide +kernel
theorem dX11_attackers_15 : decode cX11_attackers 15 = .ok (.aload_n 0, 1) := by decide +kernel
theorem dX11_attackers_16 : decode cX11_attackers 16 = .ok (.iload_n 3, 1) := by decide +kernel
theorem dX11_attackers_17 : decode cX11_attackers 17 = .ok (.iload_n 1, 1) := by decide +kernel
theorem dX11_attackers_18 : decode cX11_attackers 18 = .ok (.invokevirtual 71, 3) := by decide +kernel
theorem dX11_attackers_21 : decode cX11_attackers 21 = .ok (.ifCond .eq 9, 3) := by decide +kernel
theorem dX11_attackers_24 : decode cX11_attackers 24 = .ok (.iconst 1, 1) := by decide +kernel
theorem dX11_attackers_25 : decode cX11_attackers 25 = .ok (.iload_n 3, 1) := by decide +kernel
theorem dX11_attackers_26 : decode cX11_attackers 26 = .ok (.ishl, 1) := by decide +kernel
theorem dX11_attackers_27 : decode cX11_attackers 27 = .ok (.goto 4, 3) := by decide +kernel
theorem dX11_attackers_30 : decode cX11_attackers 30 = .ok (.iconst 0, 1) := by decide +kernel
theorem dX11_attackers_31 : decode cX11_attackers 31 = .ok (.ior, 1) := by decide +kernel
theorem dX11_attackers_32 : decode cX11_attackers 32 = .ok (.istore_n 2, 1) := by decide +kernel
theorem dX11_attackers_33 : decode cX11_attackers 33 = .ok (.iinc 3 1, 3) := by decide +kernel
theorem dX11_attackers_36 : decode cX11_attackers 36 = .ok (.goto (-32), 3) := by decide +kernel
theorem dX11_attackers_39 : decode cX11_attackers 39 = .ok (.iload_n 2, 1) := by decide +kernel
theorem dX11_attackers_40 : decode cX11_attackers 40 = .ok (.ireturn, 1) := by decide +kernel
theorem dX11_labels_0 : decode cX11_labels 0 = .ok (.iconst 0, 1) := by decide +kernel
theorem dX11_labels_1 : decode cX11_labels 1 = .ok (.istore_n 2, 1) := by decide +kernel
theorem dX11_labels_2 : decode cX11_labels 2 = .ok (.iconst 0, 1) := by decide +kernel
theorem dX11_labels_3 : decode cX11_labels 3 = .ok (.istore_n 3, 1) := by decide +kernel
theorem dX11_labels_4 : decode cX11_labels 4 = .ok (.iconst 0, 1) := by decide +kernel
theorem dX11_labels_5 : decode cX11_labels 5 = .ok (.istore 4, 2) := by decide +kernel
theorem dX11_labels_7 : decode cX11_labels 7 = .ok (.iload 4, 2) := by decide +kernel
theorem dX11_labels_9 : decode cX11_labels 9 = .ok (.aload_n 0, 1) := by decide +kernel
theorem dX11_labels_10 : decode cX11_labels 10 = .ok (.getfield 9, 3) := by decide +kernel
theorem dX11_labels_13 : decode cX11_labels 13 = .ok (.iconst 0, 1) := by decide +kernel
theorem dX11_labels_14 : decode cX11_labels 14 = .ok (.iaload, 1) := by decide +kernel
theorem dX11_labels_15 : decode cX11_labels 15 = .ok (.if_icmp .ge 49, 3) := by decide +kernel
theorem dX11_labels_18 : decode cX11_labels 18 = .ok (.aload_n 0, 1) := by decide +kernel
theorem dX11_labels_19 : decode cX11_labels 19 = .ok (.getfield 74, 3) := by decide +kernel
theorem dX11_labels_22 : decode cX11_labels 22 = .ok (.aload_n 0, 1) := by decide +kernel
theorem dX11_labels_23 : decode cX11_labels 23 = .ok (.getfield 77, 3) := by decide +kernel
theorem dX11_labels_26 : decode cX11_labels 26 = .ok (.ior, 1) := by decide +kernel
theorem dX11_labels_27 : decode cX11_labels 27 = .ok (.iload 4, 2) := by decide +kernel
theorem dX11_labels_29 : decode cX11_labels 29 = .ok (.ishr, 1) := by decide +kernel
theorem dX11_labels_30 : decode cX11_labels 30 = .ok (.iconst 1, 1) := by decide +kernel
theorem dX11_labels_31 : decode cX11_labels 31 = .ok (.iand, 1) := by decide +kernel
theorem dX11_labels_32 : decode cX11_labels 32 = .ok (.ifCond .ne 26, 3) := by decide +kernel
theorem dX11_labels_35 : decode cX11_labels 35 = .ok (.aload_n 0, 1) := by decide +kernel
theorem dX11_labels_36 : decode cX11_labels 36 = .ok (.iload 4, 2) := by decide +kernel
theorem dX11_labels_38 : decode cX11_labels 38 = .ok (.invokevirtual 80, 3) := by decide +kernel
theorem dX11_labels_41 : decode cX11_labels 41 = .ok (.aload_n 0, 1) := by decide +kernel
theorem dX11_labels_42 : decode cX11_labels 42 = .ok (.getfield 77, 3) := by decide +kernel
theorem dX11_labels_45 : decode cX11_labels 45 = .ok (.iconst (-1), 1) := by decide +kernel
theorem dX11_labels_46 : decode cX11_labels 46 = .ok (.ixor, 1) := by decide +kernel
theorem dX11_labels_47 : decode cX11_labels 47 = .ok (.iand, 1) := by decide +kernel
theorem dX11_labels_48 : decode cX11_labels 48 = .ok (.ifCond .ne 10, 3) := by decide +kernel
theorem dX11_labels_51 : decode cX11_labels 51 = .ok (.iload_n 2, 1) := by decide +kernel
theorem dX11_labels_52 : decode cX11_labels 52 = .ok (.iconst 1, 1) := by decide +kernel
theorem dX11_labels_53 : decode cX11_labels 53 = .ok (.iload 4, 2) := by decide +kernel
theorem dX11_labels_55 : decode cX11_labels 55 = .ok (.ishl, 1) := by decide +kernel
theorem dX11_labels_56 : decode cX11_labels 56 = .ok (.ior, 1) := by decide +kernel
theorem dX11_labels_57 : decode cX11_labels 57 = .ok (.istore_n 2, 1) := by decide +kernel
theorem dX11_labels_58 : decode cX11_labels 58 = .ok (.iinc 4 1, 3) := by decide +kernel
theorem dX11_labels_61 : decode cX11_labels 61 = .ok (.goto (-54), 3) := by decide +kernel
theorem dX11_labels_64 : decode cX11_labels 64 = .ok (.aload_n 0, 1) := by decide +kernel
theorem dX11_labels_65 : decode cX11_labels 65 = .ok (.dup, 1) := by decide +kernel
theorem dX11_labels_66 : decode cX11_labels 66 = .ok (.getfield 74, 3) := by decide +kernel
theorem dX11_labels_69 : decode cX11_labels 69 = .ok (.iload_n 2, 1) := by decide +kernel
theorem dX11_labels_70 : decode cX11_labels 70 = .ok (.ior, 1) := by decide +kernel
theorem dX11_labels_71 : decode cX11_labels 71 = .ok (.putfield 74, 3) := by decide +kernel
theorem dX11_labels_74 : decode cX11_labels 74 = .ok (.iconst 0, 1) := by decide +kernel
theorem dX11_labels_75 : decode cX11_labels 75 = .ok (.istore 4, 2) := by decide +kernel
theorem dX11_labels_77 : decode cX11_labels 77 = .ok (.iload 4, 2) := by decide +kernel
theorem dX11_labels_79 : decode cX11_labels 79 = .ok (.aload_n 0, 1) := by decide +kernel
theorem dX11_labels_80 : decode cX11_labels 80 = .ok (.getfield 9, 3) := by decide +kernel
theorem dX11_labels_83 : decode cX11_labels 83 = .ok (.iconst 0, 1) := by decide +kernel
theorem dX11_labels_84 : decode cX11_labels 84 = .ok (.iaload, 1) := by decide +kernel
theorem dX11_labels_85 : decode cX11_labels 85 = .ok (.if_icmp .ge 47, 3) := by decide +kernel
theorem dX11_labels_88 : decode cX11_labels 88 = .ok (.aload_n 0, 1) := by decide +kernel
theorem dX11_labels_89 : decode cX11_labels 89 = .ok (.getfield 74, 3) := by decide +kernel
theorem dX11_labels_92 : decode cX11_labels 92 = .ok (.aload_n 0, 1) := by decide +kernel
theorem dX11_labels_93 : decode cX11_labels 93 = .ok (.getfield 77, 3) := by decide +kernel
theorem dX11_labels_96 : decode cX11_labels 96 = .ok (.ior, 1) := by decide +kernel
theorem dX11_labels_97 : decode cX11_labels 97 = .ok (.iload 4, 2) := by decide +kernel
theorem dX11_labels_99 : decode cX11_labels 99 = .ok (.ishr, 1) := by decide +kernel
theorem dX11_labels_100 : decode cX11_labels 100 = .ok (.iconst 1, 1) := by decide +kernel
theorem dX11_labels_101 : decode cX11_labels 101 = .ok (.iand, 1) := by decide +kernel
theorem dX11_labels_102 : decode cX11_labels 102 = .ok (.ifCond .ne 24, 3) := by decide +kernel
theorem dX11_labels_105 : decode cX11_labels 105 = .ok (.aload_n 0, 1) := by decide +kernel
theorem dX11_labels_106 : decode cX11_labels 106 = .ok (.iload 4, 2) := by decide +kernel
theorem dX11_labels_108 : decode cX11_labels 108 = .ok (.invokevirtual 80, 3) := by decide +kernel
theorem dX11_labels_111 : decode cX11_labels 111 = .ok (.aload_n 0, 1) := by decide +kernel
theorem dX11_labels_112 : decode cX11_labels 112 = .ok (.getfield 74, 3) := by decide +kernel
theorem dX11_labels_115 : decode cX11_labels 115 = .ok (.iand, 1) := by decide +kernel
theorem dX11_labels_116 : decode cX11_labels 116 = .ok (.ifCond .eq 10, 3) := by decide +kernel
theorem dX11_labels_119 : decode cX11_labels 119 = .ok (.iload_n 3, 1) := by decide +kernel
theorem dX11_labels_120 : decode cX11_labels 120 = .ok (.iconst 1, 1) := by decide +kernel
theorem dX11_labels_121 : decode cX11_labels 121 = .ok (.iload 4, 2) := by decide +kernel
theorem dX11_labels_123 : decode cX11_labels 123 = .ok (.ishl, 1) := by decide +kernel
theorem dX11_labels_124 : decode cX11_labels 124 = .ok (.ior, 1) := by decide +kernel
theorem dX11_labels_125 : decode cX11_labels 125 = .ok (.istore_n 3, 1) := by decide +kernel
theorem dX11_labels_126 : decode cX11_labels 126 = .ok (.iinc 4 1, 3) := by decide +kernel
theorem dX11_labels_129 : decode cX11_labels 129 = .ok (.goto (-52), 3) := by decide +kernel
theorem dX11_labels_132 : decode cX11_labels 132 = .ok (.aload_n 0, 1) := by decide +kernel
theorem dX11_labels_133 : decode cX11_labels 133 = .ok (.dup, 1) := by decide +kernel
theorem dX11_labels_134 : decode cX11_labels 134 = .ok (.getfield 77, 3) := by decide +kernel
theorem dX11_labels_137 : decode cX11_labels 137 = .ok (.iload_n 3, 1) := by decide +kernel
theorem dX11_labels_138 : decode cX11_labels 138 = .ok (.ior, 1) := by decide +kernel
theorem dX11_labels_139 : decode cX11_labels 139 = .ok (.putfield 77, 3) := by decide +kernel
theorem dX11_labels_142 : decode cX11_labels 142 = .ok (.iconst 0, 1) := by decide +kernel
theorem dX11_labels_143 : decode cX11_labels 143 = .ok (.istore 4, 2) := by decide +kernel
theorem dX11_labels_145 : decode cX11_labels 145 = .ok (.iload 4, 2) := by decide +kernel
theorem dX11_labels_147 : decode cX11_labels 147 = .ok (.aload_n 0, 1) := by decide +kernel
theorem dX11_labels_148 : decode cX11_labels 148 = .ok (.getfield 9, 3) := by decide +kernel
theorem dX11_labels_151 : decode cX11_labels 151 = .ok (.iconst 0, 1) := by decide +kernel
theorem dX11_labels_152 : decode cX11_labels 152 = .ok (.iaload, 1) := by decide +kernel
theorem dX11_labels_153 : decode cX11_labels 153 = .ok (.if_icmp .ge 39, 3) := by decide +kernel
theorem dX11_labels_156 : decode cX11_labels 156 = .ok (.aload_n 0, 1) := by decide +kernel
theorem dX11_labels_157 : decode cX11_labels 157 = .ok (.getfield 13, 3) := by decide +kernel
theorem dX11_labels_160 : decode cX11_labels 160 = .ok (.iload 4, 2) := by decide +kernel
theorem dX11_labels_162 : decode cX11_labels 162 = .ok (.iload_n 2, 1) := by decide +kernel
theorem dX11_labels_163 : decode cX11_labels 163 = .ok (.iload_n 3, 1) := by decide +kernel
theorem dX11_labels_164 : decode cX11_labels 164 = .ok (.ior, 1) := by decide +kernel
theorem dX11_labels_165 : decode cX11_labels 165 = .ok (.iload 4, 2) := by decide +kernel
theorem dX11_labels_167 : decode cX11_labels 167 = .ok (.ishr, 1) := by decide +kernel
theorem dX11_labels_168 : decode cX11_labels 168 = .ok (.iconst 1, 1) := by decide +kernel
theorem dX11_labels_169 : decode cX11_labels 169 = .ok (.iand, 1) := by decide +kernel
theorem dX11_labels_170 : decode cX11_labels 170 = .ok (.iconst 1, 1) := by decide +kernel
theorem dX11_labels_171 : decode cX11_labels 171 = .ok (.if_icmp .ne 7, 3) := by decide +kernel
theorem dX11_labels_174 : decode cX11_labels 174 = .ok (.iload_n 1, 1) := by decide +kernel
theorem dX11_labels_175 : decode cX11_labels 175 = .ok (.goto 10, 3) := by decide +kernel
theorem dX11_labels_178 : decode cX11_labels 178 = .ok (.aload_n 0, 1) := by decide +kernel
theorem dX11_labels_179 : decode cX11_labels 179 = .ok (.getfield 13, 3) := by decide +kernel
theorem dX11_labels_182 : decode cX11_labels 182 = .ok (.iload 4, 2) := by decide +kernel
theorem dX11_labels_184 : decode cX11_labels 184 = .ok (.iaload, 1) := by decide +kernel
theorem dX11_labels_185 : decode cX11_labels 185 = .ok (.iastore, 1) := by decide +kernel
theorem dX11_labels_186 : decode cX11_labels 186 = .ok (.iinc 4 1, 3) := by decide +kernel
theorem dX11_labels_189 : decode cX11_labels 189 = .ok (.goto (-44), 3) := by decide +kernel
theorem dX11_labels_192 : decode cX11_labels 192 = .ok (.iload_n 2, 1) := by decide +kernel
theorem dX11_labels_193 : decode cX11_labels 193 = .ok (.iload_n 3, 1) := by decide +kernel
theorem dX11_labels_194 : decode cX11_labels 194 = .ok (.ior, 1) := by decide +kernel
theorem dX11_labels_195 : decode cX11_labels 195 = .ok (.ifCond .eq 7, 3) := by decide +kernel
theorem dX11_labels_198 : decode cX11_labels 198 = .ok (.iconst 1, 1) := by decide +kernel
theorem dX11_labels_199 : decode cX11_labels 199 = .ok (.goto 4, 3) := by decide +kernel
theorem dX11_labels_202 : decode cX11_labels 202 = .ok (.iconst 0, 1) := by decide +kernel
theorem dX11_labels_203 : decode cX11_labels 203 = .ok (.ireturn, 1) := by decide +kernel
theorem dX11_labelsAll_0 : decode cX11_labelsAll 0 = .ok (.aload_n 0, 1) := by decide +kernel
theorem dX11_labelsAll_1 : decode cX11_labelsAll 1 = .ok (.iconst 0, 1) := by decide +kernel
theorem dX11_labelsAll_2 : decode cX11_labelsAll 2 = .ok (.putfield 74, 3) := by decide +kernel
theorem dX11_labelsAll_5 : decode cX11_labelsAll 5 = .ok (.aload_n 0, 1) := by decide +kernel
theorem dX11_labelsAll_6 : decode cX11_labelsAll 6 = .ok (.iconst 0, 1) := by decide +kernel
theorem dX11_labelsAll_7 : decode cX11_labelsAll 7 = .ok (.putfield 77, 3) := by decide +kernel
theorem dX11_labelsAll_10 : decode cX11_labelsAll 10 = .ok (.iconst 1, 1) := by decide +kernel
theorem dX11_labelsAll_11 : decode cX11_labelsAll 11 = .ok (.istore_n 1, 1) := by decide +kernel
theorem dX11_labelsAll_12 : decode cX11_labelsAll 12 = .ok (.aload_n 0, 1) := by decide +kernel
theorem dX11_labelsAll_13 : decode cX11_labelsAll 13 = .ok (.iload_n 1, 1) := by decide +kernel
theorem dX11_labelsAll_14 : decode cX11_labelsAll 14 = .ok (.invokevirtual 83, 3) := by decide +kernel
theorem dX11_labelsAll_17 : decode cX11_labelsAll 17 = .ok (.ifCond .eq 9, 3) := by decide +kernel
theorem dX11_labelsAll_20 : decode cX11_labelsAll 20 = .ok (.iinc 1 1, 3) := by decide +kernel
theorem dX11_labelsAll_23 : decode cX11_labelsAll 23 = .ok (.goto (-11), 3) := by decide +kernel
theorem dX11_labelsAll_26 : decode cX11_labelsAll 26 = .ok (.return_, 1) := by decide +kernel
theorem dX11_labelOf_0 : decode cX11_labelOf 0 = .ok (.aload_n 0, 1) := by decide +kernel
theorem dX11_labelOf_1 : decode cX11_labelOf 1 = .ok (.getfield 74, 3) := by decide +kernel
theorem dX11_labelOf_4 : decode cX11_labelOf 4 = .ok (.iload_n 1, 1) := by decide +kernel
theorem dX11_labelOf_5 : decode cX11_labelOf 5 = .ok (.ishr, 1) := by decide +kernel
theorem dX11_labelOf_6 : decode cX11_labelOf 6 = .ok (.iconst 1, 1) := by decide +kernel
theorem dX11_labelOf_7 : decode cX11_labelOf 7 = .ok (.iand, 1) := by decide +kernel
theorem dX11_labelOf_8 : decode cX11_labelOf 8 = .ok (.iconst 1, 1) := by decide +kernel
theorem dX11_labelOf_9 : decode cX11_labelOf 9 = .ok (.if_icmp .ne 8, 3) := by decide +kernel
theorem dX11_labelOf_12 : decode cX11_labelOf 12 = .ok (.bipush 97, 2) := by decide +kernel
theorem dX11_labelOf_14 : decode cX11_labelOf 14 = .ok (.goto 22, 3) := by decide +kernel
theorem dX11_labelOf_17 : decode cX11_labelOf 17 = .ok (.aload_n 0, 1) := by decide +kernel
theorem dX11_labelOf_18 : decode cX11_labelOf 18 = .ok (.getfield 77, 3) := by decide +kernel
theorem dX11_labelOf_21 : decode cX11_labelOf 21 = .ok (.iload_n 1, 1) := by decide +kernel
theorem dX11_labelOf_22 : decode cX11_labelOf 22 = .ok (.ishr, 1) := by decide +kernel
theorem dX11_labelOf_23 : decode cX11_labelOf 23 = .ok (.iconst 1, 1) := by decide +kernel
theorem dX11_labelOf_24 : decode cX11_labelOf 24 = .ok (.iand, 1) := by decide +kernel
theorem dX11_labelOf_25 : decode cX11_labelOf 25 = .ok (.iconst 1, 1) := by decide +kernel
theorem dX11_labelOf_26 : decode cX11_labelOf 26 = .ok (.if_icmp .ne 8, 3) := by decide +kernel
theorem dX11_labelOf_29 : decode cX11_labelOf 29 = .ok (.bipush 114, 2) := by decide +kernel
theorem dX11_labelOf_31 : decode cX11_labelOf 31 = .ok (.goto 5, 3) := by decide +kernel
theorem dX11_labelOf_34 : decode cX11_labelOf 34 = .ok (.bipush 117, 2) := by decide +kernel
theorem dX11_labelOf_36 : decode cX11_labelOf 36 = .ok (.ireturn, 1) := by decide +kernel
theorem dX11_attackedBy_0 : decode cX11_attackedBy 0 = .ok (.iconst 0, 1) := by decide +kernel
theorem dX11_attackedBy_1 : decode cX11_attackedBy 1 = .ok (.istore_n 2, 1) := by decide +kernel
theorem dX11_attackedBy_2 : decode cX11_attackedBy 2 = .ok (.iconst 0, 1) := by decide +kernel
theorem dX11_attackedBy_3 : decode cX11_attackedBy 3 = .ok (.istore_n 3, 1) := by decide +kernel
theorem dX11_attackedBy_4 : decode cX11_attackedBy 4 = .ok (.iload_n 3, 1) := by decide +kernel
theorem dX11_attackedBy_5 : decode cX11_attackedBy 5 = .ok (.aload_n 0, 1) := by decide +kernel
theorem dX11_attackedBy_6 : decode cX11_attackedBy 6 = .ok (.getfield 9, 3) := by decide +kernel
theorem dX11_attackedBy_9 : decode cX11_attackedBy 9 = .ok (.iconst 0, 1) := by decide +kernel
theorem dX11_attackedBy_10 : decode cX11_attackedBy 10 = .ok (.iaload, 1) := by decide +kernel
theorem dX11_attackedBy_11 : decode cX11_attackedBy 11 = .ok (.if_icmp .ge 29, 3) := by decide +kernel
theorem dX11_attackedBy_14 : decode cX11_attackedBy 14 = .ok (.iload_n 2, 1) := by decide +kernel
theorem dX11_attackedBy_15 : decode cX11_attackedBy 15 = .ok (.aload_n 0, 1) := by decide +kernel
theorem dX11_attackedBy_16 : decode cX11_attackedBy 16 = .ok (.iload_n 3, 1) := by decide +kernel
theorem dX11_attackedBy_17 : decode cX11_attackedBy 17 = .ok (.invokevirtual 80, 3) := by decide +kernel
theorem dX11_attackedBy_20 : decode cX11_attackedBy 20 = .ok (.iload_n 1, 1) := by decide +kernel
theorem dX11_attackedBy_21 : decode cX11_attackedBy 21 = .ok (.iand, 1) := by decide +kernel
theorem dX11_attackedBy_22 : decode cX11_attackedBy 22 = .ok (.ifCond .eq 9, 3) := by decide +kernel
theorem dX11_attackedBy_25 : decode cX11_attackedBy 25 = .ok (.iconst 1, 1) := by decide +kernel
theorem dX11_attackedBy_26 : decode cX11_attackedBy 26 = .ok (.iload_n 3, 1) := by decide +kernel
theorem dX11_attackedBy_27 : decode cX11_attackedBy 27 = .ok (.ishl, 1) := by decide +kernel
theorem dX11_attackedBy_28 : decode cX11_attackedBy 28 = .ok (.goto 4, 3) := by decide +kernel
theorem dX11_attackedBy_31 : decode cX11_attackedBy 31 = .ok (.iconst 0, 1) := by decide +kernel
theorem dX11_attackedBy_32 : decode cX11_attackedBy 32 = .ok (.ior, 1) := by decide +kernel
theorem dX11_attackedBy_33 : decode cX11_attackedBy 33 = .ok (.istore_n 2, 1) := by decide +kernel
theorem dX11_attackedBy_34 : decode cX11_attackedBy 34 = .ok (.iinc 3 1, 3) := by decide +kernel
theorem dX11_attackedBy_37 : decode cX11_attackedBy 37 = .ok (.goto (-33), 3) := by decide +kernel
theorem dX11_attackedBy_40 : decode cX11_attackedBy 40 = .ok (.iload_n 2, 1) := by decide +kernel
theorem dX11_attackedBy_41 : decode cX11_attackedBy 41 = .ok (.ireturn, 1) := by decide +kernel
theorem dX11_attackersOf_0 : decode cX11_attackersOf 0 = .ok (.iconst 0, 1) := by decide +kernel
theorem dX11_attackersOf_1 : decode cX11_attackersOf 1 = .ok (.istore_n 2, 1) := by decide +kernel
theorem dX11_attackersOf_2 : decode cX11_attackersOf 2 = .ok (.iconst 0, 1) := by decide +kernel
theorem dX11_attackersOf_3 : decode cX11_attackersOf 3 = .ok (.istore_n 3, 1) := by decide +kernel
theorem dX11_attackersOf_4 : decode cX11_attackersOf 4 = .ok (.iload_n 3, 1) := by decide +kernel
theorem dX11_attackersOf_5 : decode cX11_attackersOf 5 = .ok (.aload_n 0, 1) := by decide +kernel
theorem dX11_attackersOf_6 : decode cX11_attackersOf 6 = .ok (.getfield 9, 3) := by decide +kernel
theorem dX11_attackersOf_9 : decode cX11_attackersOf 9 = .ok (.iconst 0, 1) := by decide +kernel
theorem dX11_attackersOf_10 : decode cX11_attackersOf 10 = .ok (.iaload, 1) := by decide +kernel
theorem dX11_attackersOf_11 : decode cX11_attackersOf 11 = .ok (.if_icmp .ge 30, 3) := by decide +kernel
theorem dX11_attackersOf_14 : decode cX11_attackersOf 14 = .ok (.iload_n 2, 1) := by decide +kernel
theorem dX11_attackersOf_15 : decode cX11_attackersOf 15 = .ok (.iload_n 1, 1) := by decide +kernel
theorem dX11_attackersOf_16 : decode cX11_attackersOf 16 = .ok (.iload_n 3, 1) := by decide +kernel
theorem dX11_attackersOf_17 : decode cX11_attackersOf 17 = .ok (.ishr, 1) := by decide +kernel
theorem dX11_attackersOf_18 : decode cX11_attackersOf 18 = .ok (.iconst 1, 1) := by decide +kernel
theorem dX11_attackersOf_19 : decode cX11_attackersOf 19 = .ok (.iand, 1) := by decide +kernel
theorem dX11_attackersOf_20 : decode cX11_attackersOf 20 = .ok (.iconst 1, 1) := by decide +kernel
theorem dX11_attackersOf_21 : decode cX11_attackersOf 21 = .ok (.if_icmp .ne 11, 3) := by decide +kernel
theorem dX11_attackersOf_24 : decode cX11_attackersOf 24 = .ok (.aload_n 0, 1) := by decide +kernel
theorem dX11_attackersOf_25 : decode cX11_attackersOf 25 = .ok (.iload_n 3, 1) := by decide +kernel
theorem dX11_attackersOf_26 : decode cX11_attackersOf 26 = .ok (.invokevirtual 80, 3) := by decide +kernel
theorem dX11_attackersOf_29 : decode cX11_attackersOf 29 = .ok (.goto 4, 3) := by decide +kernel
theorem dX11_attackersOf_32 : decode cX11_attackersOf 32 = .ok (.iconst 0, 1) := by decide +kernel
theorem dX11_attackersOf_33 : decode cX11_attackersOf 33 = .ok (.ior, 1) := by decide +kernel
theorem dX11_attackersOf_34 : decode cX11_attackersOf 34 = .ok (.istore_n 2, 1) := by decide +kernel
theorem dX11_attackersOf_35 : decode cX11_attackersOf 35 = .ok (.iinc 3 1, 3) := by decide +kernel
theorem dX11_attackersOf_38 : decode cX11_attackersOf 38 = .ok (.goto (-34), 3) := by decide +kernel
theorem dX11_attackersOf_41 : decode cX11_attackersOf 41 = .ok (.iload_n 2, 1) := by decide +kernel
theorem dX11_attackersOf_42 : decode cX11_attackersOf 42 = .ok (.ireturn, 1) := by decide +kernel
theorem dX11_isFree_0 : decode cX11_isFree 0 = .ok (.aload_n 0, 1) := by decide +kernel
theorem dX11_isFree_1 : decode cX11_isFree 1 = .ok (.iload_n 1, 1) := by decide +kernel
theorem dX11_isFree_2 : decode cX11_isFree 2 = .ok (.invokevirtual 87, 3) := by decide +kernel
theorem dX11_isFree_5 : decode cX11_isFree 5 = .ok (.iload_n 1, 1) := by decide +kernel
theorem dX11_isFree_6 : decode cX11_isFree 6 = .ok (.iand, 1) := by decide +kernel
theorem dX11_isFree_7 : decode cX11_isFree 7 = .ok (.ifCond .ne 7, 3) := by decide +kernel
theorem dX11_isFree_10 : decode cX11_isFree 10 = .ok (.iconst 1, 1) := by decide +kernel
theorem dX11_isFree_11 : decode cX11_isFree 11 = .ok (.goto 4, 3) := by decide +kernel
theorem dX11_isFree_14 : decode cX11_isFree 14 = .ok (.iconst 0, 1) := by decide +kernel
theorem dX11_isFree_15 : decode cX11_isFree 15 = .ok (.ireturn, 1) := by decide +kernel
theorem dX11_isAdmissible_0 : decode cX11_isAdmissible 0 = .ok (.aload_n 0, 1) := by decide +kernel
theorem dX11_isAdmissible_1 : decode cX11_isAdmissible 1 = .ok (.iload_n 1, 1) := by decide +kernel
theorem dX11_isAdmissible_2 : decode cX11_isAdmissible 2 = .ok (.invokevirtual 90, 3) := by decide +kernel
theorem dX11_isAdmissible_5 : decode cX11_isAdmissible 5 = .ok (.ifCond .eq 23, 3) := by decide +kernel
theorem dX11_isAdmissible_8 : decode cX11_isAdmissible 8 = .ok (.aload_n 0, 1) := by decide +kernel
theorem dX11_isAdmissible_9 : decode cX11_isAdmissible 9 = .ok (.iload_n 1, 1) := by decide +kernel
theorem dX11_isAdmissible_10 : decode cX11_isAdmissible 10 = .ok (.invokevirtual 87, 3) := by decide +kernel
theorem dX11_isAdmissible_13 : decode cX11_isAdmissible 13 = .ok (.aload_n 0, 1) := by decide +kernel
theorem dX11_isAdmissible_14 : decode cX11_isAdmissible 14 = .ok (.iload_n 1, 1) := by decide +kernel
theorem dX11_isAdmissible_15 : decode cX11_isAdmissible 15 = .ok (.invokevirtual 93, 3) := by decide +kernel
theorem dX11_isAdmissible_18 : decode cX11_isAdmissible 18 = .ok (.iconst (-1), 1) := by decide +kernel
theorem dX11_isAdmissible_19 : decode cX11_isAdmissible 19 = .ok (.ixor, 1) := by decide +kernel
theorem dX11_isAdmissible_20 : decode cX11_isAdmissible 20 = .ok (.iand, 1) := by decide +kernel
theorem dX11_isAdmissible_21 : decode cX11_isAdmissible 21 = .ok (.ifCond .ne 7, 3) := by decide +kernel
theorem dX11_isAdmissible_24 : decode cX11_isAdmissible 24 = .ok (.iconst 1, 1) := by decide +kernel
theorem dX11_isAdmissible_25 : decode cX11_isAdmissible 25 = .ok (.goto 4, 3) := by decide +kernel
theorem dX11_isAdmissible_28 : decode cX11_isAdmissible 28 = .ok (.iconst 0, 1) := by decide +kernel
theorem dX11_isAdmissible_29 : decode cX11_isAdmissible 29 = .ok (.ireturn, 1) := by decide +kernel
theorem dX11_sets_0 : decode cX11_sets 0 = .ok (.iconst 1, 1) := by decide +kernel
theorem dX11_sets_1 : decode cX11_sets 1 = .ok (.aload_n 0, 1) := by decide +kernel
theorem dX11_sets_2 : decode cX11_sets 2 = .ok (.getfield 9, 3) := by decide +kernel
theorem dX11_sets_5 : decode cX11_sets 5 = .ok (.iconst 0, 1) := by decide +kernel
theorem dX11_sets_6 : decode cX11_sets 6 = .ok (.iaload, 1) := by decide +kernel
theorem dX11_sets_7 : decode cX11_sets 7 = .ok (.ishl, 1) := by decide +kernel
theorem dX11_sets_8 : decode cX11_sets 8 = .ok (.ireturn, 1) := by decide +kernel
theorem dX11_findsAdmissible_0 : decode cX11_findsAdmissible 0 = .ok (.iconst 0, 1) := by decide +kernel
theorem dX11_findsAdmissible_1 : decode cX11_findsAdmissible 1 = .ok (.istore_n 1, 1) := by decide +kernel
theorem dX11_findsAdmissible_2 : decode cX11_findsAdmissible 2 = .ok (.iload_n 1, 1) := by decide +kernel
theorem dX11_findsAdmissible_3 : decode cX11_findsAdmissible 3 = .ok (.aload_n 0, 1) := by decide +kernel
theorem dX11_findsAdmissible_4 : decode cX11_findsAdmissible 4 = .ok (.invokevirtual 96, 3) := by decide +kernel
theorem dX11_findsAdmissible_7 : decode cX11_findsAdmissible 7 = .ok (.if_icmp .ge 20, 3) := by decide +kernel
theorem dX11_findsAdmissible_10 : decode cX11_findsAdmissible 10 = .ok (.aload_n 0, 1) := by decide +kernel
theorem dX11_findsAdmissible_11 : decode cX11_findsAdmissible 11 = .ok (.getfield 16, 3) := by decide +kernel
theorem dX11_findsAdmissible_14 : decode cX11_findsAdmissible 14 = .ok (.iload_n 1, 1) := by decide +kernel
theorem dX11_findsAdmissible_15 : decode cX11_findsAdmissible 15 = .ok (.aload_n 0, 1) := by decide +kernel
theorem dX11_findsAdmissible_16 : decode cX11_findsAdmissible 16 = .ok (.iload_n 1, 1) := by decide +kernel
theorem dX11_findsAdmissible_17 : decode cX11_findsAdmissible 17 = .ok (.invokevirtual 100, 3) := by decide +kernel
theorem dX11_findsAdmissible_20 : decode cX11_findsAdmissible 20 = .ok (.bastore, 1) := by decide +kernel
theorem dX11_findsAdmissible_21 : decode cX11_findsAdmissible 21 = .ok (.iinc 1 1, 3) := by decide +kernel
theorem dX11_findsAdmissible_24 : decode cX11_findsAdmissible 24 = .ok (.goto (-22), 3) := by decide +kernel
theorem dX11_findsAdmissible_27 : decode cX11_findsAdmissible 27 = .ok (.return_, 1) := by decide +kernel
theorem dX11_isPreferred_0 : decode cX11_isPreferred 0 = .ok (.aload_n 0, 1) := by decide +kernel
theorem dX11_isPreferred_1 : decode cX11_isPreferred 1 = .ok (.getfield 16, 3) := by decide +kernel
theorem dX11_isPreferred_4 : decode cX11_isPreferred 4 = .ok (.iload_n 1, 1) := by decide +kernel
theorem dX11_isPreferred_5 : decode cX11_isPreferred 5 = .ok (.baload, 1) := by decide +kernel
theorem dX11_isPreferred_6 : decode cX11_isPreferred 6 = .ok (.istore_n 2, 1) := by decide +kernel
theorem dX11_isPreferred_7 : decode cX11_isPreferred 7 = .ok (.iconst 0, 1) := by decide +kernel
theorem dX11_isPreferred_8 : decode cX11_isPreferred 8 = .ok (.istore_n 3, 1) := by decide +kernel
theorem dX11_isPreferred_9 : decode cX11_isPreferred 9 = .ok (.iload_n 3, 1) := by decide +kernel
theorem dX11_isPreferred_10 : decode cX11_isPreferred 10 = .ok (.aload_n 0, 1) := by decide +kernel
theorem dX11_isPreferred_11 : decode cX11_isPreferred 11 = .ok (.invokevirtual 96, 3) := by decide +kernel
theorem dX11_isPreferred_14 : decode cX11_isPreferred 14 = .ok (.if_icmp .ge 40, 3) := by decide +kernel
theorem dX11_isPreferred_17 : decode cX11_isPreferred 17 = .ok (.iload_n 2, 1) := by decide +kernel
theorem dX11_isPreferred_18 : decode cX11_isPreferred 18 = .ok (.ifCond .eq 36, 3) := by decide +kernel
theorem dX11_isPreferred_21 : decode cX11_isPreferred 21 = .ok (.iload_n 3, 1) := by decide +kernel
theorem dX11_isPreferred_22 : decode cX11_isPreferred 22 = .ok (.iload_n 1, 1) := by decide +kernel
theorem dX11_isPreferred_23 : decode cX11_isPreferred 23 = .ok (.if_icmp .eq 19, 3) := by decide +kernel
theorem dX11_isPreferred_26 : decode cX11_isPreferred 26 = .ok (.iload_n 3, 1) := by decide +kernel
theorem dX11_isPreferred_27 : decode cX11_isPreferred 27 = .ok (.iload_n 1, 1) := by decide +kernel
theorem dX11_isPreferred_28 : decode cX11_isPreferred 28 = .ok (.iand, 1) := by decide +kernel
theorem dX11_isPreferred_29 : decode cX11_isPreferred 29 = .ok (.iload_n 1, 1) := by decide +kernel
theorem dX11_isPreferred_30 : decode cX11_isPreferred 30 = .ok (.if_icmp .ne 12, 3) := by decide +kernel
theorem dX11_isPreferred_33 : decode cX11_isPreferred 33 = .ok (.aload_n 0, 1) := by decide +kernel
theorem dX11_isPreferred_34 : decode cX11_isPreferred 34 = .ok (.getfield 16, 3) := by decide +kernel
theorem dX11_isPreferred_37 : decode cX11_isPreferred 37 = .ok (.iload_n 3, 1) := by decide +kernel
theorem dX11_isPreferred_38 : decode cX11_isPreferred 38 = .ok (.baload, 1) := by decide +kernel
theorem dX11_isPreferred_39 : decode cX11_isPreferred 39 = .ok (.ifCond .ne 7, 3) := by decide +kernel
theorem dX11_isPreferred_42 : decode cX11_isPreferred 42 = .ok (.iconst 1, 1) := by decide +kernel
theorem dX11_isPreferred_43 : decode cX11_isPreferred 43 = .ok (.goto 4, 3) := by decide +kernel
theorem dX11_isPreferred_46 : decode cX11_isPreferred 46 = .ok (.iconst 0, 1) := by decide +kernel
theorem dX11_isPreferred_47 : decode cX11_isPreferred 47 = .ok (.istore_n 2, 1) := by decide +kernel
theorem dX11_isPreferred_48 : decode cX11_isPreferred 48 = .ok (.iinc 3 1, 3) := by decide +kernel
theorem dX11_isPreferred_51 : decode cX11_isPreferred 51 = .ok (.goto (-42), 3) := by decide +kernel
theorem dX11_isPreferred_54 : decode cX11_isPreferred 54 = .ok (.iload_n 2, 1) := by decide +kernel
theorem dX11_isPreferred_55 : decode cX11_isPreferred 55 = .ok (.ireturn, 1) := by decide +kernel
theorem dX11_preferredWith_0 : decode cX11_preferredWith 0 = .ok (.aload_n 0, 1) := by decide +kernel
theorem dX11_preferredWith_1 : decode cX11_preferredWith 1 = .ok (.invokevirtual 103, 3) := by decide +kernel
theorem dX11_preferredWith_4 : decode cX11_preferredWith 4 = .ok (.iconst 0, 1) := by decide +kernel
theorem dX11_preferredWith_5 : decode cX11_preferredWith 5 = .ok (.istore_n 2, 1) := by decide +kernel
theorem dX11_preferredWith_6 : decode cX11_preferredWith 6 = .ok (.iconst 0, 1) := by decide +kernel
theorem dX11_preferredWith_7 : decode cX11_preferredWith 7 = .ok (.istore_n 3, 1) := by decide +kernel
theorem dX11_preferredWith_8 : decode cX11_preferredWith 8 = .ok (.iload_n 3, 1) := by decide +kernel
theorem dX11_preferredWith_9 : decode cX11_preferredWith 9 = .ok (.aload_n 0, 1) := by decide +kernel
theorem dX11_preferredWith_10 : decode cX11_preferredWith 10 = .ok (.invokevirtual 96, 3) := by decide +kernel
theorem dX11_preferredWith_13 : decode cX11_preferredWith 13 = .ok (.if_icmp .ge 32, 3) := by decide +kernel
theorem dX11_preferredWith_16 : decode cX11_preferredWith 16 = .ok (.iload_n 2, 1) := by decide +kernel
theorem dX11_preferredWith_17 : decode cX11_preferredWith 17 = .ok (.iload_n 3, 1) := by decide +kernel
theorem dX11_preferredWith_18 : decode cX11_preferredWith 18 = .ok (.iload_n 1, 1) := by decide +kernel
theorem dX11_preferredWith_19 : decode cX11_preferredWith 19 = .ok (.iand, 1) := by decide +kernel
theorem dX11_preferredWith_20 : decode cX11_preferredWith 20 = .ok (.iload_n 1, 1) := by decide +kernel
theorem dX11_preferredWith_21 : decode cX11_preferredWith 21 = .ok (.if_icmp .ne 15, 3) := by decide +kernel
theorem dX11_preferredWith_24 : decode cX11_preferredWith 24 = .ok (.aload_n 0, 1) := by decide +kernel
theorem dX11_preferredWith_25 : decode cX11_preferredWith 25 = .ok (.iload_n 3, 1) := by decide +kernel
theorem dX11_preferredWith_26 : decode cX11_preferredWith 26 = .ok (.invokevirtual 106, 3) := by decide +kernel
theorem dX11_preferredWith_29 : decode cX11_preferredWith 29 = .ok (.ifCond .eq 7, 3) := by decide +kernel
theorem dX11_preferredWith_32 : decode cX11_preferredWith 32 = .ok (.iconst 1, 1) := by decide +kernel
theorem dX11_preferredWith_33 : decode cX11_preferredWith 33 = .ok (.goto 4, 3) := by decide +kernel
theorem dX11_preferredWith_36 : decode cX11_preferredWith 36 = .ok (.iconst 0, 1) := by decide +kernel
theorem dX11_preferredWith_37 : decode cX11_preferredWith 37 = .ok (.iadd, 1) := by decide +kernel
theorem dX11_preferredWith_38 : decode cX11_preferredWith 38 = .ok (.istore_n 2, 1) := by decide +kernel
theorem dX11_preferredWith_39 : decode cX11_preferredWith 39 = .ok (.iinc 3 1, 3) := by decide +kernel
theorem dX11_preferredWith_42 : decode cX11_preferredWith 42 = .ok (.goto (-34), 3) := by decide +kernel
theorem dX11_preferredWith_45 : decode cX11_preferredWith 45 = .ok (.iload_n 2, 1) := by decide +kernel
theorem dX11_preferredWith_46 : decode cX11_preferredWith 46 = .ok (.ireturn, 1) := by decide +kernel
theorem dX11_adds_0 : decode cX11_adds 0 = .ok (.iload_n 1, 1) := by decide +kernel
theorem dX11_adds_1 : decode cX11_adds 1 = .ok (.iconst 1, 1) := by decide +kernel
theorem dX11_adds_2 : decode cX11_adds 2 = .ok (.bipush 9, 2) := by decide +kernel
theorem dX11_adds_4 : decode cX11_adds 4 = .ok (.invokestatic 109, 3) := by decide +kernel
theorem dX11_adds_7 : decode cX11_adds 7 = .ok (.ifCond .ne 5, 3) := by decide +kernel
theorem dX11_adds_10 : decode cX11_adds 10 = .ok (.iconst 1, 1) := by decide +kernel
theorem dX11_adds_11 : decode cX11_adds 11 = .ok (.ireturn, 1) := by decide +kernel
theorem dX11_adds_12 : decode cX11_adds 12 = .ok (.aload_n 0, 1) := by decide +kernel
theorem dX11_adds_13 : decode cX11_adds 13 = .ok (.getfield 9, 3) := by decide +kernel
theorem dX11_adds_16 : decode cX11_adds 16 = .ok (.iconst 0, 1) := by decide +kernel
theorem dX11_adds_17 : decode cX11_adds 17 = .ok (.iaload, 1) := by decide +kernel
theorem dX11_adds_18 : decode cX11_adds 18 = .ok (.istore_n 2, 1) := by decide +kernel
theorem dX11_adds_19 : decode cX11_adds 19 = .ok (.iload_n 2, 1) := by decide +kernel
theorem dX11_adds_20 : decode cX11_adds 20 = .ok (.bipush 8, 2) := by decide +kernel
theorem dX11_adds_22 : decode cX11_adds 22 = .ok (.if_icmp .ne 5, 3) := by decide +kernel
theorem dX11_adds_25 : decode cX11_adds 25 = .ok (.iconst 2, 1) := by decide +kernel
theorem dX11_adds_26 : decode cX11_adds 26 = .ok (.ireturn, 1) := by decide +kernel
theorem dX11_adds_27 : decode cX11_adds 27 = .ok (.aload_n 0, 1) := by decide +kernel
theorem dX11_adds_28 : decode cX11_adds 28 = .ok (.aload_n 0, 1) := by decide +kernel
theorem dX11_adds_29 : decode cX11_adds 29 = .ok (.getfield 9, 3) := by decide +kernel
theorem dX11_adds_32 : decode cX11_adds 32 = .ok (.iconst 1, 1) := by decide +kernel
theorem dX11_adds_33 : decode cX11_adds 33 = .ok (.iaload, 1) := by decide +kernel
theorem dX11_adds_34 : decode cX11_adds 34 = .ok (.putfield 50, 3) := by decide +kernel
theorem dX11_adds_37 : decode cX11_adds 37 = .ok (.aload_n 0, 1) := by decide +kernel
theorem dX11_adds_38 : decode cX11_adds 38 = .ok (.getfield 9, 3) := by decide +kernel
theorem dX11_adds_41 : decode cX11_adds 41 = .ok (.bipush 7, 2) := by decide +kernel
theorem dX11_adds_43 : decode cX11_adds 43 = .ok (.iconst 3, 1) := by decide +kernel
theorem dX11_adds_44 : decode cX11_adds 44 = .ok (.iload_n 2, 1) := by decide +kernel
theorem dX11_adds_45 : decode cX11_adds 45 = .ok (.imul, 1) := by decide +kernel
theorem dX11_adds_46 : decode cX11_adds 46 = .ok (.iadd, 1) := by decide +kernel
theorem dX11_adds_47 : decode cX11_adds 47 = .ok (.iconst 0, 1) := by decide +kernel
theorem dX11_adds_48 : decode cX11_adds 48 = .ok (.iadd, 1) := by decide +kernel
theorem dX11_adds_49 : decode cX11_adds 49 = .ok (.aload_n 0, 1) := by decide +kernel
theorem dX11_adds_50 : decode cX11_adds 50 = .ok (.getfield 50, 3) := by decide +kernel
theorem dX11_adds_53 : decode cX11_adds 53 = .ok (.iastore, 1) := by decide +kernel
theorem dX11_adds_54 : decode cX11_adds 54 = .ok (.aload_n 0, 1) := by decide +kernel
theorem dX11_adds_55 : decode cX11_adds 55 = .ok (.getfield 9, 3) := by decide +kernel
theorem dX11_adds_58 : decode cX11_adds 58 = .ok (.bipush 7, 2) := by decide +kernel
theorem dX11_adds_60 : decode cX11_adds 60 = .ok (.iconst 3, 1) := by decide +kernel
theorem dX11_adds_61 : decode cX11_adds 61 = .ok (.iload_n 2, 1) := by decide +kernel
theorem dX11_adds_62 : decode cX11_adds 62 = .ok (.imul, 1) := by decide +kernel
theorem dX11_adds_63 : decode cX11_adds 63 = .ok (.iadd, 1) := by decide +kernel
theorem dX11_adds_64 : decode cX11_adds 64 = .ok (.iconst 1, 1) := by decide +kernel
theorem dX11_adds_65 : decode cX11_adds 65 = .ok (.iadd, 1) := by decide +kernel
theorem dX11_adds_66 : decode cX11_adds 66 = .ok (.iload_n 1, 1) := by decide +kernel
theorem dX11_adds_67 : decode cX11_adds 67 = .ok (.iastore, 1) := by decide +kernel
theorem dX11_adds_68 : decode cX11_adds 68 = .ok (.aload_n 0, 1) := by decide +kernel
theorem dX11_adds_69 : decode cX11_adds 69 = .ok (.getfield 9, 3) := by decide +kernel
theorem dX11_adds_72 : decode cX11_adds 72 = .ok (.bipush 7, 2) := by decide +kernel
theorem dX11_adds_74 : decode cX11_adds 74 = .ok (.iconst 3, 1) := by decide +kernel
theorem dX11_adds_75 : decode cX11_adds 75 = .ok (.iload_n 2, 1) := by decide +kernel
theorem dX11_adds_76 : decode cX11_adds 76 = .ok (.imul, 1) := by decide +kernel
theorem dX11_adds_77 : decode cX11_adds 77 = .ok (.iadd, 1) := by decide +kernel
theorem dX11_adds_78 : decode cX11_adds 78 = .ok (.iconst 2, 1) := by decide +kernel
theorem dX11_adds_79 : decode cX11_adds 79 = .ok (.iadd, 1) := by decide +kernel
theorem dX11_adds_80 : decode cX11_adds 80 = .ok (.iconst 0, 1) := by decide +kernel
theorem dX11_adds_81 : decode cX11_adds 81 = .ok (.iastore, 1) := by decide +kernel
theorem dX11_adds_82 : decode cX11_adds 82 = .ok (.aload_n 0, 1) := by decide +kernel
theorem dX11_adds_83 : decode cX11_adds 83 = .ok (.getfield 9, 3) := by decide +kernel
theorem dX11_adds_86 : decode cX11_adds 86 = .ok (.bipush 31, 2) := by decide +kernel
theorem dX11_adds_88 : decode cX11_adds 88 = .ok (.iload_n 2, 1) := by decide +kernel
theorem dX11_adds_89 : decode cX11_adds 89 = .ok (.iadd, 1) := by decide +kernel
theorem dX11_adds_90 : decode cX11_adds 90 = .ok (.iconst 0, 1) := by decide +kernel
theorem dX11_adds_91 : decode cX11_adds 91 = .ok (.iastore, 1) := by decide +kernel
theorem dX11_adds_92 : decode cX11_adds 92 = .ok (.aload_n 0, 1) := by decide +kernel
theorem dX11_adds_93 : decode cX11_adds 93 = .ok (.getfield 9, 3) := by decide +kernel
theorem dX11_adds_96 : decode cX11_adds 96 = .ok (.iconst 0, 1) := by decide +kernel
theorem dX11_adds_97 : decode cX11_adds 97 = .ok (.dup2, 1) := by decide +kernel
theorem dX11_adds_98 : decode cX11_adds 98 = .ok (.iaload, 1) := by decide +kernel
theorem dX11_adds_99 : decode cX11_adds 99 = .ok (.iconst 1, 1) := by decide +kernel
theorem dX11_adds_100 : decode cX11_adds 100 = .ok (.iadd, 1) := by decide +kernel
theorem dX11_adds_101 : decode cX11_adds 101 = .ok (.iastore, 1) := by decide +kernel
theorem dX11_adds_102 : decode cX11_adds 102 = .ok (.aload_n 0, 1) := by decide +kernel
theorem dX11_adds_103 : decode cX11_adds 103 = .ok (.getfield 9, 3) := by decide +kernel
theorem dX11_adds_106 : decode cX11_adds 106 = .ok (.iconst 1, 1) := by decide +kernel
theorem dX11_adds_107 : decode cX11_adds 107 = .ok (.dup2, 1) := by decide +kernel
theorem dX11_adds_108 : decode cX11_adds 108 = .ok (.iaload, 1) := by decide +kernel
theorem dX11_adds_109 : decode cX11_adds 109 = .ok (.iconst 1, 1) := by decide +kernel
theorem dX11_adds_110 : decode cX11_adds 110 = .ok (.iadd, 1) := by decide +kernel
theorem dX11_adds_111 : decode cX11_adds 111 = .ok (.iastore, 1) := by decide +kernel
theorem dX11_adds_112 : decode cX11_adds 112 = .ok (.iconst 0, 1) := by decide +kernel
theorem dX11_adds_113 : decode cX11_adds 113 = .ok (.ireturn, 1) := by decide +kernel
theorem dX11_addArgument_0 : decode cX11_addArgument 0 = .ok (.aload_n 0, 1) := by decide +kernel
theorem dX11_addArgument_1 : decode cX11_addArgument 1 = .ok (.invokevirtual 113, 3) := by decide +kernel
theorem dX11_addArgument_4 : decode cX11_addArgument 4 = .ok (.aload_n 0, 1) := by decide +kernel
theorem dX11_addArgument_5 : decode cX11_addArgument 5 = .ok (.aload_n 0, 1) := by decide +kernel
theorem dX11_addArgument_6 : decode cX11_addArgument 6 = .ok (.iload_n 1, 1) := by decide +kernel
theorem dX11_addArgument_7 : decode cX11_addArgument 7 = .ok (.invokevirtual 116, 3) := by decide +kernel
theorem dX11_addArgument_10 : decode cX11_addArgument 10 = .ok (.iconst 1, 1) := by decide +kernel
theorem dX11_addArgument_11 : decode cX11_addArgument 11 = .ok (.iconst 2, 1) := by decide +kernel
theorem dX11_addArgument_12 : decode cX11_addArgument 12 = .ok (.iconst 0, 1) := by decide +kernel
theorem dX11_addArgument_13 : decode cX11_addArgument 13 = .ok (.invokevirtual 119, 3) := by decide +kernel
theorem dX11_addArgument_16 : decode cX11_addArgument 16 = .ok (.ireturn, 1) := by decide +kernel
theorem dX11_without_0 : decode cX11_without 0 = .ok (.iload_n 0, 1) := by decide +kernel
theorem dX11_without_1 : decode cX11_without 1 = .ok (.iconst 1, 1) := by decide +kernel
theorem dX11_without_2 : decode cX11_without 2 = .ok (.iload_n 1, 1) := by decide +kernel
theorem dX11_without_3 : decode cX11_without 3 = .ok (.ishl, 1) := by decide +kernel
theorem dX11_without_4 : decode cX11_without 4 = .ok (.iconst 1, 1) := by decide +kernel
theorem dX11_without_5 : decode cX11_without 5 = .ok (.isub, 1) := by decide +kernel
theorem dX11_without_6 : decode cX11_without 6 = .ok (.iand, 1) := by decide +kernel
theorem dX11_without_7 : decode cX11_without 7 = .ok (.iload_n 0, 1) := by decide +kernel
theorem dX11_without_8 : decode cX11_without 8 = .ok (.iload_n 1, 1) := by decide +kernel
theorem dX11_without_9 : decode cX11_without 9 = .ok (.iconst 1, 1) := by decide +kernel
theorem dX11_without_10 : decode cX11_without 10 = .ok (.iadd, 1) := by decide +kernel
theorem dX11_without_11 : decode cX11_without 11 = .ok (.ishr, 1) := by decide +kernel
theorem dX11_without_12 : decode cX11_without 12 = .ok (.iload_n 1, 1) := by decide +kernel
theorem dX11_without_13 : decode cX11_without 13 = .ok (.ishl, 1) := by decide +kernel
theorem dX11_without_14 : decode cX11_without 14 = .ok (.ior, 1) := by decide +kernel
theorem dX11_without_15 : decode cX11_without 15 = .ok (.ireturn, 1) := by decide +kernel
theorem dX11_wasMoved_0 : decode cX11_wasMoved 0 = .ok (.iconst 0, 1) := by decide +kernel
theorem dX11_wasMoved_1 : decode cX11_wasMoved 1 = .ok (.istore_n 2, 1) := by decide +kernel
theorem dX11_wasMoved_2 : decode cX11_wasMoved 2 = .ok (.iconst 0, 1) := by decide +kernel
theorem dX11_wasMoved_3 : decode cX11_wasMoved 3 = .ok (.istore_n 3, 1) := by decide +kernel
theorem dX11_wasMoved_4 : decode cX11_wasMoved 4 = .ok (.iload_n 3, 1) := by decide +kernel
theorem dX11_wasMoved_5 : decode cX11_wasMoved 5 = .ok (.aload_n 0, 1) := by decide +kernel
theorem dX11_wasMoved_6 : decode cX11_wasMoved 6 = .ok (.getfield 9, 3) := by decide +kernel
theorem dX11_wasMoved_9 : decode cX11_wasMoved 9 = .ok (.iconst 3, 1) := by decide +kernel
theorem dX11_wasMoved_10 : decode cX11_wasMoved 10 = .ok (.iaload, 1) := by decide +kernel
theorem dX11_wasMoved_11 : decode cX11_wasMoved 11 = .ok (.if_icmp .ge 30, 3) := by decide +kernel
theorem dX11_wasMoved_14 : decode cX11_wasMoved 14 = .ok (.iload_n 2, 1) := by decide +kernel
theorem dX11_wasMoved_15 : decode cX11_wasMoved 15 = .ok (.aload_n 0, 1) := by decide +kernel
theorem dX11_wasMoved_16 : decode cX11_wasMoved 16 = .ok (.getfield 9, 3) := by decide +kernel
theorem dX11_wasMoved_19 : decode cX11_wasMoved 19 = .ok (.bipush 39, 2) := by decide +kernel
theorem dX11_wasMoved_21 : decode cX11_wasMoved 21 = .ok (.iload_n 3, 1) := by decide +kernel
theorem dX11_wasMoved_22 : decode cX11_wasMoved 22 = .ok (.iadd, 1) := by decide +kernel
theorem dX11_wasMoved_23 : decode cX11_wasMoved 23 = .ok (.iaload, 1) := by decide +kernel
theorem dX11_wasMoved_24 : decode cX11_wasMoved 24 = .ok (.iload_n 1, 1) := by decide +kernel
theorem dX11_wasMoved_25 : decode cX11_wasMoved 25 = .ok (.if_icmp .ne 7, 3) := by decide +kernel
theorem dX11_wasMoved_28 : decode cX11_wasMoved 28 = .ok (.iconst 1, 1) := by decide +kernel
theorem dX11_wasMoved_29 : decode cX11_wasMoved 29 = .ok (.goto 4, 3) := by decide +kernel
theorem dX11_wasMoved_32 : decode cX11_wasMoved 32 = .ok (.iconst 0, 1) := by decide +kernel
theorem dX11_wasMoved_33 : decode cX11_wasMoved 33 = .ok (.ior, 1) := by decide +kernel
theorem dX11_wasMoved_34 : decode cX11_wasMoved 34 = .ok (.istore_n 2, 1) := by decide +kernel
theorem dX11_wasMoved_35 : decode cX11_wasMoved 35 = .ok (.iinc 3 1, 3) := by decide +kernel
theorem dX11_wasMoved_38 : decode cX11_wasMoved 38 = .ok (.goto (-34), 3) := by decide +kernel
theorem dX11_wasMoved_41 : decode cX11_wasMoved 41 = .ok (.iload_n 2, 1) := by decide +kernel
theorem dX11_wasMoved_42 : decode cX11_wasMoved 42 = .ok (.ireturn, 1) := by decide +kernel
theorem dX11_breaksOff_0 : decode cX11_breaksOff 0 = .ok (.aload_n 0, 1) := by decide +kernel
theorem dX11_breaksOff_1 : decode cX11_breaksOff 1 = .ok (.getfield 9, 3) := by decide +kernel
theorem dX11_breaksOff_4 : decode cX11_breaksOff 4 = .ok (.iconst 3, 1) := by decide +kernel
theorem dX11_breaksOff_5 : decode cX11_breaksOff 5 = .ok (.iconst 0, 1) := by decide +kernel
theorem dX11_breaksOff_6 : decode cX11_breaksOff 6 = .ok (.iastore, 1) := by decide +kernel
theorem dX11_breaksOff_7 : decode cX11_breaksOff 7 = .ok (.aload_n 0, 1) := by decide +kernel
theorem dX11_breaksOff_8 : decode cX11_breaksOff 8 = .ok (.getfield 9, 3) := by decide +kernel
theorem dX11_breaksOff_11 : decode cX11_breaksOff 11 = .ok (.bipush 6, 2) := by decide +kernel
theorem dX11_breaksOff_13 : decode cX11_breaksOff 13 = .ok (.dup2, 1) := by decide +kernel
theorem dX11_breaksOff_14 : decode cX11_breaksOff 14 = .ok (.iaload, 1) := by decide +kernel
theorem dX11_breaksOff_15 : decode cX11_breaksOff 15 = .ok (.iconst 1, 1) := by decide +kernel
theorem dX11_breaksOff_16 : decode cX11_breaksOff 16 = .ok (.iadd, 1) := by decide +kernel
theorem dX11_breaksOff_17 : decode cX11_breaksOff 17 = .ok (.iastore, 1) := by decide +kernel
theorem dX11_breaksOff_18 : decode cX11_breaksOff 18 = .ok (.aload_n 0, 1) := by decide +kernel
theorem dX11_breaksOff_19 : decode cX11_breaksOff 19 = .ok (.invokevirtual 123, 3) := by decide +kernel
theorem dX11_breaksOff_22 : decode cX11_breaksOff 22 = .ok (.return_, 1) := by decide +kernel
theorem dX11_clearsMoves_0 : decode cX11_clearsMoves 0 = .ok (.aload_n 0, 1) := by decide +kernel
theorem dX11_clearsMoves_1 : decode cX11_clearsMoves 1 = .ok (.getfield 9, 3) := by decide +kernel
theorem dX11_clearsMoves_4 : decode cX11_clearsMoves 4 = .ok (.iconst 3, 1) := by decide +kernel
theorem dX11_clearsMoves_5 : decode cX11_clearsMoves 5 = .ok (.iaload, 1) := by decide +kernel
theorem dX11_clearsMoves_6 : decode cX11_clearsMoves 6 = .ok (.istore_n 1, 1) := by decide +kernel
theorem dX11_clearsMoves_7 : decode cX11_clearsMoves 7 = .ok (.iload_n 1, 1) := by decide +kernel
theorem dX11_clearsMoves_8 : decode cX11_clearsMoves 8 = .ok (.bipush 12, 2) := by decide +kernel
theorem dX11_clearsMoves_10 : decode cX11_clearsMoves 10 = .ok (.if_icmp .ge 19, 3) := by decide +kernel
theorem dX11_clearsMoves_13 : decode cX11_clearsMoves 13 = .ok (.aload_n 0, 1) := by decide +kernel
theorem dX11_clearsMoves_14 : decode cX11_clearsMoves 14 = .ok (.getfield 9, 3) := by decide +kernel
theorem dX11_clearsMoves_17 : decode cX11_clearsMoves 17 = .ok (.bipush 39, 2) := by decide +kernel
theorem dX11_clearsMoves_19 : decode cX11_clearsMoves 19 = .ok (.iload_n 1, 1) := by decide +kernel
theorem dX11_clearsMoves_20 : decode cX11_clearsMoves 20 = .ok (.iadd, 1) := by decide +kernel
theorem dX11_clearsMoves_21 : decode cX11_clearsMoves 21 = .ok (.iconst 0, 1) := by decide +kernel
theorem dX11_clearsMoves_22 : decode cX11_clearsMoves 22 = .ok (.iastore, 1) := by decide +kernel
theorem dX11_clearsMoves_23 : decode cX11_clearsMoves 23 = .ok (.iinc 1 1, 3) := by decide +kernel
theorem dX11_clearsMoves_26 : decode cX11_clearsMoves 26 = .ok (.goto (-19), 3) := by decide +kernel
theorem dX11_clearsMoves_29 : decode cX11_clearsMoves 29 = .ok (.return_, 1) := by decide +kernel
theorem dX11_removes_0 : decode cX11_removes 0 = .ok (.aload_n 0, 1) := by decide +kernel
theorem dX11_removes_1 : decode cX11_removes 1 = .ok (.iload_n 1, 1) := by decide +kernel
theorem dX11_removes_2 : decode cX11_removes 2 = .ok (.invokevirtual 57, 3) := by decide +kernel
theorem dX11_removes_5 : decode cX11_removes 5 = .ok (.istore_n 2, 1) := by decide +kernel
theorem dX11_removes_6 : decode cX11_removes 6 = .ok (.iload_n 2, 1) := by decide +kernel
theorem dX11_removes_7 : decode cX11_removes 7 = .ok (.ifCond .ge 5, 3) := by decide +kernel
theorem dX11_removes_10 : decode cX11_removes 10 = .ok (.iconst 3, 1) := by decide +kernel
theorem dX11_removes_11 : decode cX11_removes 11 = .ok (.ireturn, 1) := by decide +kernel
theorem dX11_removes_12 : decode cX11_removes 12 = .ok (.aload_n 0, 1) := by decide +kernel
theorem dX11_removes_13 : decode cX11_removes 13 = .ok (.invokevirtual 126, 3) := by decide +kernel
theorem dX11_removes_16 : decode cX11_removes 16 = .ok (.istore_n 3, 1) := by decide +kernel
theorem dX11_removes_17 : decode cX11_removes 17 = .ok (.aload_n 0, 1) := by decide +kernel
theorem dX11_removes_18 : decode cX11_removes 18 = .ok (.getfield 9, 3) := by decide +kernel
theorem dX11_removes_21 : decode cX11_removes 21 = .ok (.iconst 0, 1) := by decide +kernel
theorem dX11_removes_22 : decode cX11_removes 22 = .ok (.iaload, 1) := by decide +kernel
theorem dX11_removes_23 : decode cX11_removes 23 = .ok (.iconst 1, 1) := by decide +kernel
theorem dX11_removes_24 : decode cX11_removes 24 = .ok (.isub, 1) := by decide +kernel
theorem dX11_removes_25 : decode cX11_removes 25 = .ok (.istore 4, 2) := by decide +kernel
theorem dX11_removes_27 : decode cX11_removes 27 = .ok (.iload_n 2, 1) := by decide +kernel
theorem dX11_removes_28 : decode cX11_removes 28 = .ok (.istore 5, 2) := by decide +kernel
theorem dX11_removes_30 : decode cX11_removes 30 = .ok (.iload 5, 2) := by decide +kernel
theorem dX11_removes_32 : decode cX11_removes 32 = .ok (.iload 4, 2) := by decide +kernel
theorem dX11_removes_34 : decode cX11_removes 34 = .ok (.if_icmp .ge 78, 3) := by decide +kernel
theorem dX11_removes_37 : decode cX11_removes 37 = .ok (.iconst 0, 1) := by decide +kernel
theorem dX11_removes_38 : decode cX11_removes 38 = .ok (.istore 6, 2) := by decide +kernel
theorem dX11_removes_40 : decode cX11_removes 40 = .ok (.iload 6, 2) := by decide +kernel
theorem dX11_removes_42 : decode cX11_removes 42 = .ok (.iconst 3, 1) := by decide +kernel
theorem dX11_removes_43 : decode cX11_removes 43 = .ok (.if_icmp .ge 41, 3) := by decide +kernel
theorem dX11_removes_46 : decode cX11_removes 46 = .ok (.aload_n 0, 1) := by decide +kernel
theorem dX11_removes_47 : decode cX11_removes 47 = .ok (.getfield 9, 3) := by decide +kernel
theorem dX11_removes_50 : decode cX11_removes 50 = .ok (.bipush 7, 2) := by decide +kernel
theorem dX11_removes_52 : decode cX11_removes 52 = .ok (.iconst 3, 1) := by decide +kernel
theorem dX11_removes_53 : decode cX11_removes 53 = .ok (.iload 5, 2) := by decide +kernel
theorem dX11_removes_55 : decode cX11_removes 55 = .ok (.imul, 1) := by decide +kernel
theorem dX11_removes_56 : decode cX11_removes 56 = .ok (.iadd, 1) := by decide +kernel
theorem dX11_removes_57 : decode cX11_removes 57 = .ok (.iload 6, 2) := by decide +kernel
theorem dX11_removes_59 : decode cX11_removes 59 = .ok (.iadd, 1) := by decide +kernel
theorem dX11_removes_60 : decode cX11_removes 60 = .ok (.aload_n 0, 1) := by decide +kernel
theorem dX11_removes_61 : decode cX11_removes 61 = .ok (.getfield 9, 3) := by decide +kernel
theorem dX11_removes_64 : decode cX11_removes 64 = .ok (.bipush 7, 2) := by decide +kernel
theorem dX11_removes_66 : decode cX11_removes 66 = .ok (.iconst 3, 1) := by decide +kernel
theorem dX11_removes_67 : decode cX11_removes 67 = .ok (.iload 5, 2) := by decide +kernel
theorem dX11_removes_69 : decode cX11_removes 69 = .ok (.imul, 1) := by decide +kernel
theorem dX11_removes_70 : decode cX11_removes 70 = .ok (.iadd, 1) := by decide +kernel
theorem dX11_removes_71 : decode cX11_removes 71 = .ok (.iconst 3, 1) := by decide +kernel
theorem dX11_removes_72 : decode cX11_removes 72 = .ok (.iadd, 1) := by decide +kernel
theorem dX11_removes_73 : decode cX11_removes 73 = .ok (.iload 6, 2) := by decide +kernel
theorem dX11_removes_75 : decode cX11_removes 75 = .ok (.iadd, 1) := by decide +kernel
theorem dX11_removes_76 : decode cX11_removes 76 = .ok (.iaload, 1) := by decide +kernel
theorem dX11_removes_77 : decode cX11_removes 77 = .ok (.iastore, 1) := by decide +kernel
theorem dX11_removes_78 : decode cX11_removes 78 = .ok (.iinc 6 1, 3) := by decide +kernel
theorem dX11_removes_81 : decode cX11_removes 81 = .ok (.goto (-41), 3) := by decide +kernel
theorem dX11_removes_84 : decode cX11_removes 84 = .ok (.aload_n 0, 1) := by decide +kernel
theorem dX11_removes_85 : decode cX11_removes 85 = .ok (.getfield 9, 3) := by decide +kernel
theorem dX11_removes_88 : decode cX11_removes 88 = .ok (.bipush 31, 2) := by decide +kernel
theorem dX11_removes_90 : decode cX11_removes 90 = .ok (.iload 5, 2) := by decide +kernel
theorem dX11_removes_92 : decode cX11_removes 92 = .ok (.iadd, 1) := by decide +kernel
theorem dX11_removes_93 : decode cX11_removes 93 = .ok (.aload_n 0, 1) := by decide +kernel
theorem dX11_removes_94 : decode cX11_removes 94 = .ok (.getfield 9, 3) := by decide +kernel
theorem dX11_removes_97 : decode cX11_removes 97 = .ok (.bipush 31, 2) := by decide +kernel
theorem dX11_removes_99 : decode cX11_removes 99 = .ok (.iload 5, 2) := by decide +kernel
theorem dX11_removes_101 : decode cX11_removes 101 = .ok (.iadd, 1) := by decide +kernel
theorem dX11_removes_102 : decode cX11_removes 102 = .ok (.iconst 1, 1) := by decide +kernel
theorem dX11_removes_103 : decode cX11_removes 103 = .ok (.iadd, 1) := by decide +kernel
theorem dX11_removes_104 : decode cX11_removes 104 = .ok (.iaload, 1) := by decide +kernel
theorem dX11_removes_105 : decode cX11_removes 105 = .ok (.iastore, 1) := by decide +kernel
theorem dX11_removes_106 : decode cX11_removes 106 = .ok (.iinc 5 1, 3) := by decide +kernel
theorem dX11_removes_109 : decode cX11_removes 109 = .ok (.goto (-79), 3) := by decide +kernel
theorem dX11_removes_112 : decode cX11_removes 112 = .ok (.iconst 0, 1) := by decide +kernel
theorem dX11_removes_113 : decode cX11_removes 113 = .ok (.istore 5, 2) := by decide +kernel
theorem dX11_removes_115 : decode cX11_removes 115 = .ok (.iload 5, 2) := by decide +kernel
theorem dX11_removes_117 : decode cX11_removes 117 = .ok (.iconst 3, 1) := by decide +kernel
theorem dX11_removes_118 : decode cX11_removes 118 = .ok (.if_icmp .ge 25, 3) := by decide +kernel
theorem dX11_removes_121 : decode cX11_removes 121 = .ok (.aload_n 0, 1) := by decide +kernel
theorem dX11_removes_122 : decode cX11_removes 122 = .ok (.getfield 9, 3) := by decide +kernel
theorem dX11_removes_125 : decode cX11_removes 125 = .ok (.bipush 7, 2) := by decide +kernel
theorem dX11_removes_127 : decode cX11_removes 127 = .ok (.iconst 3, 1) := by decide +kernel
theorem dX11_removes_128 : decode cX11_removes 128 = .ok (.iload 4, 2) := by decide +kernel
theorem dX11_removes_130 : decode cX11_removes 130 = .ok (.imul, 1) := by decide +kernel
theorem dX11_removes_131 : decode cX11_removes 131 = .ok (.iadd, 1) := by decide +kernel
theorem dX11_removes_132 : decode cX11_removes 132 = .ok (.iload 5, 2) := by decide +kernel
theorem dX11_removes_134 : decode cX11_removes 134 = .ok (.iadd, 1) := by decide +kernel
theorem dX11_removes_135 : decode cX11_removes 135 = .ok (.iconst 0, 1) := by decide +kernel
theorem dX11_removes_136 : decode cX11_removes 136 = .ok (.iastore, 1) := by decide +kernel
theorem dX11_removes_137 : decode cX11_removes 137 = .ok (.iinc 5 1, 3) := by decide +kernel
theorem dX11_removes_140 : decode cX11_removes 140 = .ok (.goto (-25), 3) := by decide +kernel
theorem dX11_removes_143 : decode cX11_removes 143 = .ok (.aload_n 0, 1) := by decide +kernel
theorem dX11_removes_144 : decode cX11_removes 144 = .ok (.getfield 9, 3) := by decide +kernel
theorem dX11_removes_147 : decode cX11_removes 147 = .ok (.bipush 31, 2) := by decide +kernel
theorem dX11_removes_149 : decode cX11_removes 149 = .ok (.iload 4, 2) := by decide +kernel
theorem dX11_removes_151 : decode cX11_removes 151 = .ok (.iadd, 1) := by decide +kernel
theorem dX11_removes_152 : decode cX11_removes 152 = .ok (.iconst 0, 1) := by decide +kernel
theorem dX11_removes_153 : decode cX11_removes 153 = .ok (.iastore, 1) := by decide +kernel
theorem dX11_removes_154 : decode cX11_removes 154 = .ok (.aload_n 0, 1) := by decide +kernel
theorem dX11_removes_155 : decode cX11_removes 155 = .ok (.getfield 9, 3) := by decide +kernel
theorem dX11_removes_158 : decode cX11_removes 158 = .ok (.iconst 0, 1) := by decide +kernel
theorem dX11_removes_159 : decode cX11_removes 159 = .ok (.iload 4, 2) := by decide +kernel
theorem dX11_removes_161 : decode cX11_removes 161 = .ok (.iastore, 1) := by decide +kernel
theorem dX11_removes_162 : decode cX11_removes 162 = .ok (.iconst 0, 1) := by decide +kernel
theorem dX11_removes_163 : decode cX11_removes 163 = .ok (.istore 5, 2) := by decide +kernel
theorem dX11_removes_165 : decode cX11_removes 165 = .ok (.iload 5, 2) := by decide +kernel
theorem dX11_removes_167 : decode cX11_removes 167 = .ok (.iload 4, 2) := by decide +kernel
theorem dX11_removes_169 : decode cX11_removes 169 = .ok (.if_icmp .ge 33, 3) := by decide +kernel
theorem dX11_removes_172 : decode cX11_removes 172 = .ok (.aload_n 0, 1) := by decide +kernel
theorem dX11_removes_173 : decode cX11_removes 173 = .ok (.getfield 9, 3) := by decide +kernel
theorem dX11_removes_176 : decode cX11_removes 176 = .ok (.bipush 31, 2) := by decide +kernel
theorem dX11_removes_178 : decode cX11_removes 178 = .ok (.iload 5, 2) := by decide +kernel
theorem dX11_removes_180 : decode cX11_removes 180 = .ok (.iadd, 1) := by decide +kernel
theorem dX11_removes_181 : decode cX11_removes 181 = .ok (.aload_n 0, 1) := by decide +kernel
theorem dX11_removes_182 : decode cX11_removes 182 = .ok (.getfield 9, 3) := by decide +kernel
theorem dX11_removes_185 : decode cX11_removes 185 = .ok (.bipush 31, 2) := by decide +kernel
theorem dX11_removes_187 : decode cX11_removes 187 = .ok (.iload 5, 2) := by decide +kernel
theorem dX11_removes_189 : decode cX11_removes 189 = .ok (.iadd, 1) := by decide +kernel
theorem dX11_removes_190 : decode cX11_removes 190 = .ok (.iaload, 1) := by decide +kernel
theorem dX11_removes_191 : decode cX11_removes 191 = .ok (.iload_n 2, 1) := by decide +kernel
theorem dX11_removes_192 : decode cX11_removes 192 = .ok (.invokestatic 129, 3) := by decide +kernel
theorem dX11_removes_195 : decode cX11_removes 195 = .ok (.iastore, 1) := by decide +kernel
theorem dX11_removes_196 : decode cX11_removes 196 = .ok (.iinc 5 1, 3) := by decide +kernel
theorem dX11_removes_199 : decode cX11_removes 199 = .ok (.goto (-34), 3) := by decide +kernel
theorem dX11_removes_202 : decode cX11_removes 202 = .ok (.aload_n 0, 1) := by decide +kernel
theorem dX11_removes_203 : decode cX11_removes 203 = .ok (.iload_n 3, 1) := by decide +kernel
theorem dX11_removes_204 : decode cX11_removes 204 = .ok (.aload_n 0, 1) := by decide +kernel
theorem dX11_removes_205 : decode cX11_removes 205 = .ok (.invokevirtual 126, 3) := by decide +kernel
theorem dX11_removes_208 : decode cX11_removes 208 = .ok (.isub, 1) := by decide +kernel
theorem dX11_removes_209 : decode cX11_removes 209 = .ok (.putfield 50, 3) := by decide +kernel
theorem dX11_removes_212 : decode cX11_removes 212 = .ok (.aload_n 0, 1) := by decide +kernel
theorem dX11_removes_213 : decode cX11_removes 213 = .ok (.iload_n 1, 1) := by decide +kernel
theorem dX11_removes_214 : decode cX11_removes 214 = .ok (.invokevirtual 132, 3) := by decide +kernel
theorem dX11_removes_217 : decode cX11_removes 217 = .ok (.ifCond .eq 7, 3) := by decide +kernel
theorem dX11_removes_220 : decode cX11_removes 220 = .ok (.aload_n 0, 1) := by decide +kernel
theorem dX11_removes_221 : decode cX11_removes 221 = .ok (.invokevirtual 135, 3) := by decide +kernel
theorem dX11_removes_224 : decode cX11_removes 224 = .ok (.iconst 0, 1) := by decide +kernel
theorem dX11_removes_225 : decode cX11_removes 225 = .ok (.ireturn, 1) := by decide +kernel
theorem dX11_removeArgument_0 : decode cX11_removeArgument 0 = .ok (.aload_n 0, 1) := by decide +kernel
theorem dX11_removeArgument_1 : decode cX11_removeArgument 1 = .ok (.invokevirtual 113, 3) := by decide +kernel
theorem dX11_removeArgument_4 : decode cX11_removeArgument 4 = .ok (.aload_n 0, 1) := by decide +kernel
theorem dX11_removeArgument_5 : decode cX11_removeArgument 5 = .ok (.aload_n 0, 1) := by decide +kernel
theorem dX11_removeArgument_6 : decode cX11_removeArgument 6 = .ok (.iload_n 1, 1) := by decide +kernel
theorem dX11_removeArgument_7 : decode cX11_removeArgument 7 = .ok (.invokevirtual 138, 3) := by decide +kernel
theorem dX11_removeArgument_10 : decode cX11_removeArgument 10 = .ok (.iconst 0, 1) := by decide +kernel
theorem dX11_removeArgument_11 : decode cX11_removeArgument 11 = .ok (.iconst 0, 1) := by decide +kernel
theorem dX11_removeArgument_12 : decode cX11_removeArgument 12 = .ok (.iconst 1, 1) := by decide +kernel
theorem dX11_removeArgument_13 : decode cX11_removeArgument 13 = .ok (.invokevirtual 119, 3) := by decide +kernel
theorem dX11_removeArgument_16 : decode cX11_removeArgument 16 = .ok (.ireturn, 1) := by decide +kernel
theorem dX11_leads_0 : decode cX11_leads 0 = .ok (.aload_n 0, 1) := by decide +kernel
theorem dX11_leads_1 : decode cX11_leads 1 = .ok (.iload_n 1, 1) := by decide +kernel
theorem dX11_leads_2 : decode cX11_leads 2 = .ok (.invokevirtual 141, 3) := by decide +kernel
theorem dX11_leads_5 : decode cX11_leads 5 = .ok (.ifCond .eq 11, 3) := by decide +kernel
theorem dX11_leads_8 : decode cX11_leads 8 = .ok (.aload_n 0, 1) := by decide +kernel
theorem dX11_leads_9 : decode cX11_leads 9 = .ok (.iload_n 2, 1) := by decide +kernel
theorem dX11_leads_10 : decode cX11_leads 10 = .ok (.invokevirtual 141, 3) := by decide +kernel
theorem dX11_leads_13 : decode cX11_leads 13 = .ok (.ifCond .ne 5, 3) := by decide +kernel
theorem dX11_leads_16 : decode cX11_leads 16 = .ok (.iconst 3, 1) := by decide +kernel
theorem dX11_leads_17 : decode cX11_leads 17 = .ok (.ireturn, 1) := by decide +kernel
theorem dX11_leads_18 : decode cX11_leads 18 = .ok (.iload_n 1, 1) := by decide +kernel
theorem dX11_leads_19 : decode cX11_leads 19 = .ok (.iload_n 2, 1) := by decide +kernel
theorem dX11_leads_20 : decode cX11_leads 20 = .ok (.if_icmp .ne 5, 3) := by decide +kernel
theorem dX11_leads_23 : decode cX11_leads 23 = .ok (.iconst 1, 1) := by decide +kernel
theorem dX11_leads_24 : decode cX11_leads 24 = .ok (.ireturn, 1) := by decide +kernel
theorem dX11_leads_25 : decode cX11_leads 25 = .ok (.aload_n 0, 1) := by decide +kernel
theorem dX11_leads_26 : decode cX11_leads 26 = .ok (.aload_n 0, 1) := by decide +kernel
theorem dX11_leads_27 : decode cX11_leads 27 = .ok (.iload_n 1, 1) := by decide +kernel
theorem dX11_leads_28 : decode cX11_leads 28 = .ok (.invokevirtual 57, 3) := by decide +kernel
theorem dX11_leads_31 : decode cX11_leads 31 = .ok (.aload_n 0, 1) := by decide +kernel
theorem dX11_leads_32 : decode cX11_leads 32 = .ok (.iload_n 2, 1) := by decide +kernel
theorem dX11_leads_33 : decode cX11_leads 33 = .ok (.invokevirtual 57, 3) := by decide +kernel
theorem dX11_leads_36 : decode cX11_leads 36 = .ok (.invokevirtual 61, 3) := by decide +kernel
theorem dX11_leads_39 : decode cX11_leads 39 = .ok (.ifCond .ne 12, 3) := by decide +kernel
theorem dX11_leads_42 : decode cX11_leads 42 = .ok (.aload_n 0, 1) := by decide +kernel
theorem dX11_leads_43 : decode cX11_leads 43 = .ok (.invokevirtual 126, 3) := by decide +kernel
theorem dX11_leads_46 : decode cX11_leads 46 = .ok (.bipush 20, 2) := by decide +kernel
theorem dX11_leads_48 : decode cX11_leads 48 = .ok (.if_icmp .ne 5, 3) := by decide +kernel
theorem dX11_leads_51 : decode cX11_leads 51 = .ok (.iconst 2, 1) := by decide +kernel
theorem dX11_leads_52 : decode cX11_leads 52 = .ok (.ireturn, 1) := by decide +kernel
theorem dX11_leads_53 : decode cX11_leads 53 = .ok (.aload_n 0, 1) := by decide +kernel
theorem dX11_leads_54 : decode cX11_leads 54 = .ok (.getfield 9, 3) := by decide +kernel
theorem dX11_leads_57 : decode cX11_leads 57 = .ok (.bipush 31, 2) := by decide +kernel
theorem dX11_leads_59 : decode cX11_leads 59 = .ok (.aload_n 0, 1) := by decide +kernel
theorem dX11_leads_60 : decode cX11_leads 60 = .ok (.iload_n 1, 1) := by decide +kernel
theorem dX11_leads_61 : decode cX11_leads 61 = .ok (.invokevirtual 57, 3) := by decide +kernel
theorem dX11_leads_64 : decode cX11_leads 64 = .ok (.iadd, 1) := by decide +kernel
theorem dX11_leads_65 : decode cX11_leads 65 = .ok (.dup2, 1) := by decide +kernel
theorem dX11_leads_66 : decode cX11_leads 66 = .ok (.iaload, 1) := by decide +kernel
theorem dX11_leads_67 : decode cX11_leads 67 = .ok (.iconst 1, 1) := by decide +kernel
theorem dX11_leads_68 : decode cX11_leads 68 = .ok (.aload_n 0, 1) := by decide +kernel
theorem dX11_leads_69 : decode cX11_leads 69 = .ok (.iload_n 2, 1) := by decide +kernel
theorem dX11_leads_70 : decode cX11_leads 70 = .ok (.invokevirtual 57, 3) := by decide +kernel
theorem dX11_leads_73 : decode cX11_leads 73 = .ok (.ishl, 1) := by decide +kernel
theorem dX11_leads_74 : decode cX11_leads 74 = .ok (.ior, 1) := by decide +kernel
theorem dX11_leads_75 : decode cX11_leads 75 = .ok (.iastore, 1) := by decide +kernel
theorem dX11_leads_76 : decode cX11_leads 76 = .ok (.aload_n 0, 1) := by decide +kernel
theorem dX11_leads_77 : decode cX11_leads 77 = .ok (.aload_n 0, 1) := by decide +kernel
theorem dX11_leads_78 : decode cX11_leads 78 = .ok (.invokevirtual 126, 3) := by decide +kernel
theorem dX11_leads_81 : decode cX11_leads 81 = .ok (.putfield 50, 3) := by decide +kernel
theorem dX11_leads_84 : decode cX11_leads 84 = .ok (.iconst 0, 1) := by decide +kernel
theorem dX11_leads_85 : decode cX11_leads 85 = .ok (.ireturn, 1) := by decide +kernel
theorem dX11_addAttack_0 : decode cX11_addAttack 0 = .ok (.aload_n 0, 1) := by decide +kernel
theorem dX11_addAttack_1 : decode cX11_addAttack 1 = .ok (.invokevirtual 113, 3) := by decide +kernel
theorem dX11_addAttack_4 : decode cX11_addAttack 4 = .ok (.aload_n 0, 1) := by decide +kernel
theorem dX11_addAttack_5 : decode cX11_addAttack 5 = .ok (.aload_n 0, 1) := by decide +kernel
theorem dX11_addAttack_6 : decode cX11_addAttack 6 = .ok (.iload_n 1, 1) := by decide +kernel
theorem dX11_addAttack_7 : decode cX11_addAttack 7 = .ok (.iload_n 2, 1) := by decide +kernel
theorem dX11_addAttack_8 : decode cX11_addAttack 8 = .ok (.invokevirtual 144, 3) := by decide +kernel
theorem dX11_addAttack_11 : decode cX11_addAttack 11 = .ok (.iconst 2, 1) := by decide +kernel
theorem dX11_addAttack_12 : decode cX11_addAttack 12 = .ok (.iconst 3, 1) := by decide +kernel
theorem dX11_addAttack_13 : decode cX11_addAttack 13 = .ok (.iconst 1, 1) := by decide +kernel
theorem dX11_addAttack_14 : decode cX11_addAttack 14 = .ok (.invokevirtual 119, 3) := by decide +kernel
theorem dX11_addAttack_17 : decode cX11_addAttack 17 = .ok (.ireturn, 1) := by decide +kernel
theorem dX11_yields_0 : decode cX11_yields 0 = .ok (.aload_n 0, 1) := by decide +kernel
theorem dX11_yields_1 : decode cX11_yields 1 = .ok (.iload_n 1, 1) := by decide +kernel
theorem dX11_yields_2 : decode cX11_yields 2 = .ok (.invokevirtual 141, 3) := by decide +kernel
theorem dX11_yields_5 : decode cX11_yields 5 = .ok (.ifCond .eq 28, 3) := by decide +kernel
theorem dX11_yields_8 : decode cX11_yields 8 = .ok (.aload_n 0, 1) := by decide +kernel
theorem dX11_yields_9 : decode cX11_yields 9 = .ok (.iload_n 2, 1) := by decide +kernel
theorem dX11_yields_10 : decode cX11_yields 10 = .ok (.invokevirtual 141, 3) := by decide +kernel
theorem dX11_yields_13 : decode cX11_yields 13 = .ok (.ifCond .eq 20, 3) := by decide +kernel
theorem dX11_yields_16 : decode cX11_yields 16 = .ok (.aload_n 0, 1) := by decide +kernel
theorem dX11_yields_17 : decode cX11_yields 17 = .ok (.aload_n 0, 1) := by decide +kernel
theorem dX11_yields_18 : decode cX11_yields 18 = .ok (.iload_n 1, 1) := by decide +kernel
theorem dX11_yields_19 : decode cX11_yields 19 = .ok (.invokevirtual 57, 3) := by decide +kernel
theorem dX11_yields_22 : decode cX11_yields 22 = .ok (.aload_n 0, 1) := by decide +kernel
theorem dX11_yields_23 : decode cX11_yields 23 = .ok (.iload_n 2, 1) := by decide +kernel
theorem dX11_yields_24 : decode cX11_yields 24 = .ok (.invokevirtual 57, 3) := by decide +kernel
theorem dX11_yields_27 : decode cX11_yields 27 = .ok (.invokevirtual 61, 3) := by decide +kernel
theorem dX11_yields_30 : decode cX11_yields 30 = .ok (.ifCond .ne 5, 3) := by decide +kernel
theorem dX11_yields_33 : decode cX11_yields 33 = .ok (.iconst 3, 1) := by decide +kernel
theorem dX11_yields_34 : decode cX11_yields 34 = .ok (.ireturn, 1) := by decide +kernel
theorem dX11_yields_35 : decode cX11_yields 35 = .ok (.aload_n 0, 1) := by decide +kernel
theorem dX11_yields_36 : decode cX11_yields 36 = .ok (.getfield 9, 3) := by decide +kernel
theorem dX11_yields_39 : decode cX11_yields 39 = .ok (.bipush 31, 2) := by decide +kernel
theorem dX11_yields_41 : decode cX11_yields 41 = .ok (.aload_n 0, 1) := by decide +kernel
theorem dX11_yields_42 : decode cX11_yields 42 = .ok (.iload_n 1, 1) := by decide +kernel
theorem dX11_yields_43 : decode cX11_yields 43 = .ok (.invokevirtual 57, 3) := by decide +kernel
theorem dX11_yields_46 : decode cX11_yields 46 = .ok (.iadd, 1) := by decide +kernel
theorem dX11_yields_47 : decode cX11_yields 47 = .ok (.dup2, 1) := by decide +kernel
theorem dX11_yields_48 : decode cX11_yields 48 = .ok (.iaload, 1) := by decide +kernel
theorem dX11_yields_49 : decode cX11_yields 49 = .ok (.iconst 1, 1) := by decide +kernel
theorem dX11_yields_50 : decode cX11_yields 50 = .ok (.aload_n 0, 1) := by decide +kernel
theorem dX11_yields_51 : decode cX11_yields 51 = .ok (.iload_n 2, 1) := by decide +kernel
theorem dX11_yields_52 : decode cX11_yields 52 = .ok (.invokevirtual 57, 3) := by decide +kernel
theorem dX11_yields_55 : decode cX11_yields 55 = .ok (.ishl, 1) := by decide +kernel
theorem dX11_yields_56 : decode cX11_yields 56 = .ok (.iconst (-1), 1) := by decide +kernel
theorem dX11_yields_57 : decode cX11_yields 57 = .ok (.ixor, 1) := by decide +kernel
theorem dX11_yields_58 : decode cX11_yields 58 = .ok (.iand, 1) := by decide +kernel
theorem dX11_yields_59 : decode cX11_yields 59 = .ok (.iastore, 1) := by decide +kernel
theorem dX11_yields_60 : decode cX11_yields 60 = .ok (.aload_n 0, 1) := by decide +kernel
theorem dX11_yields_61 : decode cX11_yields 61 = .ok (.aload_n 0, 1) := by decide +kernel
theorem dX11_yields_62 : decode cX11_yields 62 = .ok (.invokevirtual 126, 3) := by decide +kernel
theorem dX11_yields_65 : decode cX11_yields 65 = .ok (.putfield 50, 3) := by decide +kernel
theorem dX11_yields_68 : decode cX11_yields 68 = .ok (.iconst 0, 1) := by decide +kernel
theorem dX11_yields_69 : decode cX11_yields 69 = .ok (.ireturn, 1) := by decide +kernel
theorem dX11_removeAttack_0 : decode cX11_removeAttack 0 = .ok (.aload_n 0, 1) := by decide +kernel
theorem dX11_removeAttack_1 : decode cX11_removeAttack 1 = .ok (.invokevirtual 113, 3) := by decide +kernel
theorem dX11_removeAttack_4 : decode cX11_removeAttack 4 = .ok (.aload_n 0, 1) := by decide +kernel
theorem dX11_removeAttack_5 : decode cX11_removeAttack 5 = .ok (.aload_n 0, 1) := by decide +kernel
theorem dX11_removeAttack_6 : decode cX11_removeAttack 6 = .ok (.iload_n 1, 1) := by decide +kernel
theorem dX11_removeAttack_7 : decode cX11_removeAttack 7 = .ok (.iload_n 2, 1) := by decide +kernel
theorem dX11_removeAttack_8 : decode cX11_removeAttack 8 = .ok (.invokevirtual 147, 3) := by decide +kernel
theorem dX11_removeAttack_11 : decode cX11_removeAttack 11 = .ok (.iconst 0, 1) := by decide +kernel
theorem dX11_removeAttack_12 : decode cX11_removeAttack 12 = .ok (.iconst 0, 1) := by decide +kernel
theorem dX11_removeAttack_13 : decode cX11_removeAttack 13 = .ok (.iconst 1, 1) := by decide +kernel
theorem dX11_removeAttack_14 : decode cX11_removeAttack 14 = .ok (.invokevirtual 119, 3) := by decide +kernel
theorem dX11_removeAttack_17 : decode cX11_removeAttack 17 = .ok (.ireturn, 1) := by decide +kernel
theorem dX11_weighs_0 : decode cX11_weighs 0 = .ok (.aload_n 0, 1) := by decide +kernel
theorem dX11_weighs_1 : decode cX11_weighs 1 = .ok (.iload_n 1, 1) := by decide +kernel
theorem dX11_weighs_2 : decode cX11_weighs 2 = .ok (.invokevirtual 141, 3) := by decide +kernel
theorem dX11_weighs_5 : decode cX11_weighs 5 = .ok (.ifCond .ne 5, 3) := by decide +kernel
theorem dX11_weighs_8 : decode cX11_weighs 8 = .ok (.iconst 3, 1) := by decide +kernel
theorem dX11_weighs_9 : decode cX11_weighs 9 = .ok (.ireturn, 1) := by decide +kernel
theorem dX11_weighs_10 : decode cX11_weighs 10 = .ok (.iload_n 2, 1) := by decide +kernel
theorem dX11_weighs_11 : decode cX11_weighs 11 = .ok (.iconst 1, 1) := by decide +kernel
theorem dX11_weighs_12 : decode cX11_weighs 12 = .ok (.bipush 9, 2) := by decide +kernel
theorem dX11_weighs_14 : decode cX11_weighs 14 = .ok (.invokestatic 109, 3) := by decide +kernel
theorem dX11_weighs_17 : decode cX11_weighs 17 = .ok (.ifCond .ne 5, 3) := by decide +kernel
theorem dX11_weighs_20 : decode cX11_weighs 20 = .ok (.iconst 1, 1) := by decide +kernel
theorem dX11_weighs_21 : decode cX11_weighs 21 = .ok (.ireturn, 1) := by decide +kernel
theorem dX11_weighs_22 : decode cX11_weighs 22 = .ok (.bipush 7, 2) := by decide +kernel
theorem dX11_weighs_24 : decode cX11_weighs 24 = .ok (.iconst 3, 1) := by decide +kernel
theorem dX11_weighs_25 : decode cX11_weighs 25 = .ok (.aload_n 0, 1) := by decide +kernel
theorem dX11_weighs_26 : decode cX11_weighs 26 = .ok (.iload_n 1, 1) := by decide +kernel
theorem dX11_weighs_27 : decode cX11_weighs 27 = .ok (.invokevirtual 57, 3) := by decide +kernel
theorem dX11_weighs_30 : decode cX11_weighs 30 = .ok (.imul, 1) := by decide +kernel
theorem dX11_weighs_31 : decode cX11_weighs 31 = .ok (.iadd, 1) := by decide +kernel
theorem dX11_weighs_32 : decode cX11_weighs 32 = .ok (.iconst 1, 1) := by decide +kernel
theorem dX11_weighs_33 : decode cX11_weighs 33 = .ok (.iadd, 1) := by decide +kernel
theorem dX11_weighs_34 : decode cX11_weighs 34 = .ok (.istore_n 3, 1) := by decide +kernel
theorem dX11_weighs_35 : decode cX11_weighs 35 = .ok (.aload_n 0, 1) := by decide +kernel
theorem dX11_weighs_36 : decode cX11_weighs 36 = .ok (.aload_n 0, 1) := by decide +kernel
theorem dX11_weighs_37 : decode cX11_weighs 37 = .ok (.getfield 9, 3) := by decide +kernel
theorem dX11_weighs_40 : decode cX11_weighs 40 = .ok (.iload_n 3, 1) := by decide +kernel
theorem dX11_weighs_41 : decode cX11_weighs 41 = .ok (.iaload, 1) := by decide +kernel
theorem dX11_weighs_42 : decode cX11_weighs 42 = .ok (.putfield 50, 3) := by decide +kernel
theorem dX11_weighs_45 : decode cX11_weighs 45 = .ok (.aload_n 0, 1) := by decide +kernel
theorem dX11_weighs_46 : decode cX11_weighs 46 = .ok (.getfield 9, 3) := by decide +kernel
theorem dX11_weighs_49 : decode cX11_weighs 49 = .ok (.iload_n 3, 1) := by decide +kernel
theorem dX11_weighs_50 : decode cX11_weighs 50 = .ok (.iload_n 2, 1) := by decide +kernel
theorem dX11_weighs_51 : decode cX11_weighs 51 = .ok (.iastore, 1) := by decide +kernel
theorem dX11_weighs_52 : decode cX11_weighs 52 = .ok (.iconst 0, 1) := by decide +kernel
theorem dX11_weighs_53 : decode cX11_weighs 53 = .ok (.ireturn, 1) := by decide +kernel
theorem dX11_setWeight_0 : decode cX11_setWeight 0 = .ok (.aload_n 0, 1) := by decide +kernel
theorem dX11_setWeight_1 : decode cX11_setWeight 1 = .ok (.invokevirtual 113, 3) := by decide +kernel
theorem dX11_setWeight_4 : decode cX11_setWeight 4 = .ok (.aload_n 0, 1) := by decide +kernel
theorem dX11_setWeight_5 : decode cX11_setWeight 5 = .ok (.aload_n 0, 1) := by decide +kernel
theorem dX11_setWeight_6 : decode cX11_setWeight 6 = .ok (.iload_n 1, 1) := by decide +kernel
theorem dX11_setWeight_7 : decode cX11_setWeight 7 = .ok (.iload_n 2, 1) := by decide +kernel
theorem dX11_setWeight_8 : decode cX11_setWeight 8 = .ok (.invokevirtual 150, 3) := by decide +kernel
theorem dX11_setWeight_11 : decode cX11_setWeight 11 = .ok (.iconst 2, 1) := by decide +kernel
theorem dX11_setWeight_12 : decode cX11_setWeight 12 = .ok (.iconst 0, 1) := by decide +kernel
theorem dX11_setWeight_13 : decode cX11_setWeight 13 = .ok (.iconst 1, 1) := by decide +kernel
theorem dX11_setWeight_14 : decode cX11_setWeight 14 = .ok (.invokevirtual 119, 3) := by decide +kernel
theorem dX11_setWeight_17 : decode cX11_setWeight 17 = .ok (.ireturn, 1) := by decide +kernel
theorem dX11_renews_0 : decode cX11_renews 0 = .ok (.aload_n 0, 1) := by decide +kernel
theorem dX11_renews_1 : decode cX11_renews 1 = .ok (.iload_n 1, 1) := by decide +kernel
theorem dX11_renews_2 : decode cX11_renews 2 = .ok (.invokevirtual 141, 3) := by decide +kernel
theorem dX11_renews_5 : decode cX11_renews 5 = .ok (.ifCond .ne 5, 3) := by decide +kernel
theorem dX11_renews_8 : decode cX11_renews 8 = .ok (.iconst 3, 1) := by decide +kernel
theorem dX11_renews_9 : decode cX11_renews 9 = .ok (.ireturn, 1) := by decide +kernel
theorem dX11_renews_10 : decode cX11_renews 10 = .ok (.bipush 7, 2) := by decide +kernel
theorem dX11_renews_12 : decode cX11_renews 12 = .ok (.iconst 3, 1) := by decide +kernel
theorem dX11_renews_13 : decode cX11_renews 13 = .ok (.aload_n 0, 1) := by decide +kernel
theorem dX11_renews_14 : decode cX11_renews 14 = .ok (.iload_n 1, 1) := by decide +kernel
theorem dX11_renews_15 : decode cX11_renews 15 = .ok (.invokevirtual 57, 3) := by decide +kernel
theorem dX11_renews_18 : decode cX11_renews 18 = .ok (.imul, 1) := by decide +kernel
theorem dX11_renews_19 : decode cX11_renews 19 = .ok (.iadd, 1) := by decide +kernel
theorem dX11_renews_20 : decode cX11_renews 20 = .ok (.iconst 2, 1) := by decide +kernel
theorem dX11_renews_21 : decode cX11_renews 21 = .ok (.iadd, 1) := by decide +kernel
theorem dX11_renews_22 : decode cX11_renews 22 = .ok (.istore_n 2, 1) := by decide +kernel
theorem dX11_renews_23 : decode cX11_renews 23 = .ok (.aload_n 0, 1) := by decide +kernel
theorem dX11_renews_24 : decode cX11_renews 24 = .ok (.aload_n 0, 1) := by decide +kernel
theorem dX11_renews_25 : decode cX11_renews 25 = .ok (.getfield 9, 3) := by decide +kernel
theorem dX11_renews_28 : decode cX11_renews 28 = .ok (.iload_n 2, 1) := by decide +kernel
theorem dX11_renews_29 : decode cX11_renews 29 = .ok (.iaload, 1) := by decide +kernel
theorem dX11_renews_30 : decode cX11_renews 30 = .ok (.putfield 50, 3) := by decide +kernel
theorem dX11_renews_33 : decode cX11_renews 33 = .ok (.aload_n 0, 1) := by decide +kernel
theorem dX11_renews_34 : decode cX11_renews 34 = .ok (.getfield 9, 3) := by decide +kernel
theorem dX11_renews_37 : decode cX11_renews 37 = .ok (.iload_n 2, 1) := by decide +kernel
theorem dX11_renews_38 : decode cX11_renews 38 = .ok (.iconst 0, 1) := by decide +kernel
theorem dX11_renews_39 : decode cX11_renews 39 = .ok (.iastore, 1) := by decide +kernel
theorem dX11_renews_40 : decode cX11_renews 40 = .ok (.iconst 0, 1) := by decide +kernel
theorem dX11_renews_41 : decode cX11_renews 41 = .ok (.ireturn, 1) := by decide +kernel
theorem dX11_renew_0 : decode cX11_renew 0 = .ok (.aload_n 0, 1) := by decide +kernel
theorem dX11_renew_1 : decode cX11_renew 1 = .ok (.invokevirtual 113, 3) := by decide +kernel
theorem dX11_renew_4 : decode cX11_renew 4 = .ok (.aload_n 0, 1) := by decide +kernel
theorem dX11_renew_5 : decode cX11_renew 5 = .ok (.aload_n 0, 1) := by decide +kernel
theorem dX11_renew_6 : decode cX11_renew 6 = .ok (.iload_n 1, 1) := by decide +kernel
theorem dX11_renew_7 : decode cX11_renew 7 = .ok (.invokevirtual 153, 3) := by decide +kernel
theorem dX11_renew_10 : decode cX11_renew 10 = .ok (.iconst 0, 1) := by decide +kernel
theorem dX11_renew_11 : decode cX11_renew 11 = .ok (.iconst 0, 1) := by decide +kernel
theorem dX11_renew_12 : decode cX11_renew 12 = .ok (.iconst 1, 1) := by decide +kernel
theorem dX11_renew_13 : decode cX11_renew 13 = .ok (.invokevirtual 119, 3) := by decide +kernel
theorem dX11_renew_16 : decode cX11_renew 16 = .ok (.ireturn, 1) := by decide +kernel
theorem dX11_claims_0 : decode cX11_claims 0 = .ok (.aload_n 0, 1) := by decide +kernel
theorem dX11_claims_1 : decode cX11_claims 1 = .ok (.iload_n 1, 1) := by decide +kernel
theorem dX11_claims_2 : decode cX11_claims 2 = .ok (.invokevirtual 141, 3) := by decide +kernel
theorem dX11_claims_5 : decode cX11_claims 5 = .ok (.ifCond .ne 5, 3) := by decide +kernel
theorem dX11_claims_8 : decode cX11_claims 8 = .ok (.iconst 3, 1) := by decide +kernel
theorem dX11_claims_9 : decode cX11_claims 9 = .ok (.ireturn, 1) := by decide +kernel
theorem dX11_claims_10 : decode cX11_claims 10 = .ok (.aload_n 0, 1) := by decide +kernel
theorem dX11_claims_11 : decode cX11_claims 11 = .ok (.getfield 9, 3) := by decide +kernel
theorem dX11_claims_14 : decode cX11_claims 14 = .ok (.iconst 3, 1) := by decide +kernel
theorem dX11_claims_15 : decode cX11_claims 15 = .ok (.iaload, 1) := by decide +kernel
theorem dX11_claims_16 : decode cX11_claims 16 = .ok (.ifCond .le 5, 3) := by decide +kernel
theorem dX11_claims_19 : decode cX11_claims 19 = .ok (.iconst 2, 1) := by decide +kernel
theorem dX11_claims_20 : decode cX11_claims 20 = .ok (.ireturn, 1) := by decide +kernel
theorem dX11_claims_21 : decode cX11_claims 21 = .ok (.aload_n 0, 1) := by decide +kernel
theorem dX11_claims_22 : decode cX11_claims 22 = .ok (.getfield 9, 3) := by decide +kernel
theorem dX11_claims_25 : decode cX11_claims 25 = .ok (.bipush 39, 2) := by decide +kernel
theorem dX11_claims_27 : decode cX11_claims 27 = .ok (.iload_n 1, 1) := by decide +kernel
theorem dX11_claims_28 : decode cX11_claims 28 = .ok (.iastore, 1) := by decide +kernel
theorem dX11_claims_29 : decode cX11_claims 29 = .ok (.aload_n 0, 1) := by decide +kernel
theorem dX11_claims_30 : decode cX11_claims 30 = .ok (.getfield 9, 3) := by decide +kernel
theorem dX11_claims_33 : decode cX11_claims 33 = .ok (.iconst 3, 1) := by decide +kernel
theorem dX11_claims_34 : decode cX11_claims 34 = .ok (.iconst 1, 1) := by decide +kernel
theorem dX11_claims_35 : decode cX11_claims 35 = .ok (.iastore, 1) := by decide +kernel
theorem dX11_claims_36 : decode cX11_claims 36 = .ok (.aload_n 0, 1) := by decide +kernel
theorem dX11_claims_37 : decode cX11_claims 37 = .ok (.aload_n 0, 1) := by decide +kernel
theorem dX11_claims_38 : decode cX11_claims 38 = .ok (.aload_n 0, 1) := by decide +kernel
theorem dX11_claims_39 : decode cX11_claims 39 = .ok (.iload_n 1, 1) := by decide +kernel
theorem dX11_claims_40 : decode cX11_claims 40 = .ok (.invokevirtual 57, 3) := by decide +kernel
theorem dX11_claims_43 : decode cX11_claims 43 = .ok (.invokevirtual 80, 3) := by decide +kernel
theorem dX11_claims_46 : decode cX11_claims 46 = .ok (.invokestatic 68, 3) := by decide +kernel
theorem dX11_claims_49 : decode cX11_claims 49 = .ok (.putfield 50, 3) := by decide +kernel
theorem dX11_claims_52 : decode cX11_claims 52 = .ok (.iconst 0, 1) := by decide +kernel
theorem dX11_claims_53 : decode cX11_claims 53 = .ok (.ireturn, 1) := by decide +kernel
theorem dX11_startDialogue_0 : decode cX11_startDialogue 0 = .ok (.aload_n 0, 1) := by decide +kernel
theorem dX11_startDialogue_1 : decode cX11_startDialogue 1 = .ok (.invokevirtual 113, 3) := by decide +kernel
theorem dX11_startDialogue_4 : decode cX11_startDialogue 4 = .ok (.aload_n 0, 1) := by decide +kernel
theorem dX11_startDialogue_5 : decode cX11_startDialogue 5 = .ok (.aload_n 0, 1) := by decide +kernel
theorem dX11_startDialogue_6 : decode cX11_startDialogue 6 = .ok (.iload_n 1, 1) := by decide +kernel
theorem dX11_startDialogue_7 : decode cX11_startDialogue 7 = .ok (.invokevirtual 156, 3) := by decide +kernel
theorem dX11_startDialogue_10 : decode cX11_startDialogue 10 = .ok (.iconst 0, 1) := by decide +kernel
theorem dX11_startDialogue_11 : decode cX11_startDialogue 11 = .ok (.iconst 2, 1) := by decide +kernel
theorem dX11_startDialogue_12 : decode cX11_startDialogue 12 = .ok (.iconst 1, 1) := by decide +kernel
theorem dX11_startDialogue_13 : decode cX11_startDialogue 13 = .ok (.invokevirtual 119, 3) := by decide +kernel
theorem dX11_startDialogue_16 : decode cX11_startDialogue 16 = .ok (.ireturn, 1) := by decide +kernel
theorem dX11_isAllowed_0 : decode cX11_isAllowed 0 = .ok (.aload_n 0, 1) := by decide +kernel
theorem dX11_isAllowed_1 : decode cX11_isAllowed 1 = .ok (.getfield 9, 3) := by decide +kernel
theorem dX11_isAllowed_4 : decode cX11_isAllowed 4 = .ok (.iconst 3, 1) := by decide +kernel
theorem dX11_isAllowed_5 : decode cX11_isAllowed 5 = .ok (.iaload, 1) := by decide +kernel
theorem dX11_isAllowed_6 : decode cX11_isAllowed 6 = .ok (.istore_n 2, 1) := by decide +kernel
theorem dX11_isAllowed_7 : decode cX11_isAllowed 7 = .ok (.aload_n 0, 1) := by decide +kernel
theorem dX11_isAllowed_8 : decode cX11_isAllowed 8 = .ok (.aload_n 0, 1) := by decide +kernel
theorem dX11_isAllowed_9 : decode cX11_isAllowed 9 = .ok (.getfield 9, 3) := by decide +kernel
theorem dX11_isAllowed_12 : decode cX11_isAllowed 12 = .ok (.bipush 39, 2) := by decide +kernel
theorem dX11_isAllowed_14 : decode cX11_isAllowed 14 = .ok (.iload_n 2, 1) := by decide +kernel
theorem dX11_isAllowed_15 : decode cX11_isAllowed 15 = .ok (.iadd, 1) := by decide +kernel
theorem dX11_isAllowed_16 : decode cX11_isAllowed 16 = .ok (.iconst 1, 1) := by decide +kernel
theorem dX11_isAllowed_17 : decode cX11_isAllowed 17 = .ok (.isub, 1) := by decide +kernel
theorem dX11_isAllowed_18 : decode cX11_isAllowed 18 = .ok (.iaload, 1) := by decide +kernel
theorem dX11_isAllowed_19 : decode cX11_isAllowed 19 = .ok (.invokevirtual 57, 3) := by decide +kernel
theorem dX11_isAllowed_22 : decode cX11_isAllowed 22 = .ok (.istore_n 3, 1) := by decide +kernel
theorem dX11_isAllowed_23 : decode cX11_isAllowed 23 = .ok (.aload_n 0, 1) := by decide +kernel
theorem dX11_isAllowed_24 : decode cX11_isAllowed 24 = .ok (.iload_n 3, 1) := by decide +kernel
theorem dX11_isAllowed_25 : decode cX11_isAllowed 25 = .ok (.invokevirtual 80, 3) := by decide +kernel
theorem dX11_isAllowed_28 : decode cX11_isAllowed 28 = .ok (.aload_n 0, 1) := by decide +kernel
theorem dX11_isAllowed_29 : decode cX11_isAllowed 29 = .ok (.iload_n 1, 1) := by decide +kernel
theorem dX11_isAllowed_30 : decode cX11_isAllowed 30 = .ok (.invokevirtual 57, 3) := by decide +kernel
theorem dX11_isAllowed_33 : decode cX11_isAllowed 33 = .ok (.ishr, 1) := by decide +kernel
theorem dX11_isAllowed_34 : decode cX11_isAllowed 34 = .ok (.iconst 1, 1) := by decide +kernel
theorem dX11_isAllowed_35 : decode cX11_isAllowed 35 = .ok (.iand, 1) := by decide +kernel
theorem dX11_isAllowed_36 : decode cX11_isAllowed 36 = .ok (.ifCond .ne 5, 3) := by decide +kernel
theorem dX11_isAllowed_39 : decode cX11_isAllowed 39 = .ok (.iconst 0, 1) := by decide +kernel
theorem dX11_isAllowed_40 : decode cX11_isAllowed 40 = .ok (.ireturn, 1) := by decide +kernel
theorem dX11_isAllowed_41 : decode cX11_isAllowed 41 = .ok (.iconst 1, 1) := by decide +kernel
theorem dX11_isAllowed_42 : decode cX11_isAllowed 42 = .ok (.istore 4, 2) := by decide +kernel
theorem dX11_isAllowed_44 : decode cX11_isAllowed 44 = .ok (.iconst 0, 1) := by decide +kernel
theorem dX11_isAllowed_45 : decode cX11_isAllowed 45 = .ok (.istore 5, 2) := by decide +kernel
theorem dX11_isAllowed_47 : decode cX11_isAllowed 47 = .ok (.iload 5, 2) := by decide +kernel
theorem dX11_isAllowed_49 : decode cX11_isAllowed 49 = .ok (.iload_n 2, 1) := by decide +kernel
theorem dX11_isAllowed_50 : decode cX11_isAllowed 50 = .ok (.if_icmp .ge 39, 3) := by decide +kernel
theorem dX11_isAllowed_53 : decode cX11_isAllowed 53 = .ok (.iload_n 2, 1) := by decide +kernel
theorem dX11_isAllowed_54 : decode cX11_isAllowed 54 = .ok (.iconst 2, 1) := by decide +kernel
theorem dX11_isAllowed_55 : decode cX11_isAllowed 55 = .ok (.irem, 1) := by decide +kernel
theorem dX11_isAllowed_56 : decode cX11_isAllowed 56 = .ok (.ifCond .ne 33, 3) := by decide +kernel
theorem dX11_isAllowed_59 : decode cX11_isAllowed 59 = .ok (.iload 4, 2) := by decide +kernel
theorem dX11_isAllowed_61 : decode cX11_isAllowed 61 = .ok (.aload_n 0, 1) := by decide +kernel
theorem dX11_isAllowed_62 : decode cX11_isAllowed 62 = .ok (.getfield 9, 3) := by decide +kernel
theorem dX11_isAllowed_65 : decode cX11_isAllowed 65 = .ok (.bipush 39, 2) := by decide +kernel
theorem dX11_isAllowed_67 : decode cX11_isAllowed 67 = .ok (.iload 5, 2) := by decide +kernel
theorem dX11_isAllowed_69 : decode cX11_isAllowed 69 = .ok (.iadd, 1) := by decide +kernel
theorem dX11_isAllowed_70 : decode cX11_isAllowed 70 = .ok (.iaload, 1) := by decide +kernel
theorem dX11_isAllowed_71 : decode cX11_isAllowed 71 = .ok (.iload_n 1, 1) := by decide +kernel
theorem dX11_isAllowed_72 : decode cX11_isAllowed 72 = .ok (.if_icmp .eq 7, 3) := by decide +kernel
theorem dX11_isAllowed_75 : decode cX11_isAllowed 75 = .ok (.iconst 1, 1) := by decide +kernel
theorem dX11_isAllowed_76 : decode cX11_isAllowed 76 = .ok (.goto 4, 3) := by decide +kernel
theorem dX11_isAllowed_79 : decode cX11_isAllowed 79 = .ok (.iconst 0, 1) := by decide +kernel
theorem dX11_isAllowed_80 : decode cX11_isAllowed 80 = .ok (.iand, 1) := by decide +kernel
theorem dX11_isAllowed_81 : decode cX11_isAllowed 81 = .ok (.istore 4, 2) := by decide +kernel
theorem dX11_isAllowed_83 : decode cX11_isAllowed 83 = .ok (.iinc 5 2, 3) := by decide +kernel
theorem dX11_isAllowed_86 : decode cX11_isAllowed 86 = .ok (.goto (-39), 3) := by decide +kernel
theorem dX11_isAllowed_89 : decode cX11_isAllowed 89 = .ok (.iload 4, 2) := by decide +kernel
theorem dX11_isAllowed_91 : decode cX11_isAllowed 91 = .ok (.ireturn, 1) := by decide +kernel
theorem dX11_replies_0 : decode cX11_replies 0 = .ok (.aload_n 0, 1) := by decide +kernel
theorem dX11_replies_1 : decode cX11_replies 1 = .ok (.getfield 9, 3) := by decide +kernel
theorem dX11_replies_4 : decode cX11_replies 4 = .ok (.iconst 3, 1) := by decide +kernel
theorem dX11_replies_5 : decode cX11_replies 5 = .ok (.iaload, 1) := by decide +kernel
theorem dX11_replies_6 : decode cX11_replies 6 = .ok (.ifCond .eq 11, 3) := by decide +kernel
theorem dX11_replies_9 : decode cX11_replies 9 = .ok (.aload_n 0, 1) := by decide +kernel
theorem dX11_replies_10 : decode cX11_replies 10 = .ok (.iload_n 1, 1) := by decide +kernel
theorem dX11_replies_11 : decode cX11_replies 11 = .ok (.invokevirtual 141, 3) := by decide +kernel
theorem dX11_replies_14 : decode cX11_replies 14 = .ok (.ifCond .ne 5, 3) := by decide +kernel
theorem dX11_replies_17 : decode cX11_replies 17 = .ok (.iconst 3, 1) := by decide +kernel
theorem dX11_replies_18 : decode cX11_replies 18 = .ok (.ireturn, 1) := by decide +kernel
theorem dX11_replies_19 : decode cX11_replies 19 = .ok (.aload_n 0, 1) := by decide +kernel
theorem dX11_replies_20 : decode cX11_replies 20 = .ok (.iload_n 1, 1) := by decide +kernel
theorem dX11_replies_21 : decode cX11_replies 21 = .ok (.invokevirtual 159, 3) := by decide +kernel
theorem dX11_replies_24 : decode cX11_replies 24 = .ok (.ifCond .ne 5, 3) := by decide +kernel
theorem dX11_replies_27 : decode cX11_replies 27 = .ok (.iconst 1, 1) := by decide +kernel
theorem dX11_replies_28 : decode cX11_replies 28 = .ok (.ireturn, 1) := by decide +kernel
theorem dX11_replies_29 : decode cX11_replies 29 = .ok (.aload_n 0, 1) := by decide +kernel
theorem dX11_replies_30 : decode cX11_replies 30 = .ok (.getfield 9, 3) := by decide +kernel
theorem dX11_replies_33 : decode cX11_replies 33 = .ok (.iconst 3, 1) := by decide +kernel
theorem dX11_replies_34 : decode cX11_replies 34 = .ok (.iaload, 1) := by decide +kernel
theorem dX11_replies_35 : decode cX11_replies 35 = .ok (.bipush 12, 2) := by decide +kernel
theorem dX11_replies_37 : decode cX11_replies 37 = .ok (.if_icmp .ne 5, 3) := by decide +kernel
theorem dX11_replies_40 : decode cX11_replies 40 = .ok (.iconst 2, 1) := by decide +kernel
theorem dX11_replies_41 : decode cX11_replies 41 = .ok (.ireturn, 1) := by decide +kernel
theorem dX11_replies_42 : decode cX11_replies 42 = .ok (.aload_n 0, 1) := by decide +kernel
theorem dX11_replies_43 : decode cX11_replies 43 = .ok (.getfield 9, 3) := by decide +kernel
theorem dX11_replies_46 : decode cX11_replies 46 = .ok (.bipush 39, 2) := by decide +kernel
theorem dX11_replies_48 : decode cX11_replies 48 = .ok (.aload_n 0, 1) := by decide +kernel
theorem dX11_replies_49 : decode cX11_replies 49 = .ok (.getfield 9, 3) := by decide +kernel
theorem dX11_replies_52 : decode cX11_replies 52 = .ok (.iconst 3, 1) := by decide +kernel
theorem dX11_replies_53 : decode cX11_replies 53 = .ok (.iaload, 1) := by decide +kernel
theorem dX11_replies_54 : decode cX11_replies 54 = .ok (.iadd, 1) := by decide +kernel
theorem dX11_replies_55 : decode cX11_replies 55 = .ok (.iload_n 1, 1) := by decide +kernel
theorem dX11_replies_56 : decode cX11_replies 56 = .ok (.iastore, 1) := by decide +kernel
theorem dX11_replies_57 : decode cX11_replies 57 = .ok (.aload_n 0, 1) := by decide +kernel
theorem dX11_replies_58 : decode cX11_replies 58 = .ok (.getfield 9, 3) := by decide +kernel
theorem dX11_replies_61 : decode cX11_replies 61 = .ok (.iconst 3, 1) := by decide +kernel
theorem dX11_replies_62 : decode cX11_replies 62 = .ok (.dup2, 1) := by decide +kernel
theorem dX11_replies_63 : decode cX11_replies 63 = .ok (.iaload, 1) := by decide +kernel
theorem dX11_replies_64 : decode cX11_replies 64 = .ok (.iconst 1, 1) := by decide +kernel
theorem dX11_replies_65 : decode cX11_replies 65 = .ok (.iadd, 1) := by decide +kernel
theorem dX11_replies_66 : decode cX11_replies 66 = .ok (.iastore, 1) := by decide +kernel
theorem dX11_replies_67 : decode cX11_replies 67 = .ok (.aload_n 0, 1) := by decide +kernel
theorem dX11_replies_68 : decode cX11_replies 68 = .ok (.aload_n 0, 1) := by decide +kernel
theorem dX11_replies_69 : decode cX11_replies 69 = .ok (.getfield 9, 3) := by decide +kernel
theorem dX11_replies_72 : decode cX11_replies 72 = .ok (.iconst 3, 1) := by decide +kernel
theorem dX11_replies_73 : decode cX11_replies 73 = .ok (.iaload, 1) := by decide +kernel
theorem dX11_replies_74 : decode cX11_replies 74 = .ok (.putfield 50, 3) := by decide +kernel
theorem dX11_replies_77 : decode cX11_replies 77 = .ok (.iconst 0, 1) := by decide +kernel
theorem dX11_replies_78 : decode cX11_replies 78 = .ok (.ireturn, 1) := by decide +kernel
theorem dX11_move_0 : decode cX11_move 0 = .ok (.aload_n 0, 1) := by decide +kernel
theorem dX11_move_1 : decode cX11_move 1 = .ok (.invokevirtual 113, 3) := by decide +kernel
theorem dX11_move_4 : decode cX11_move 4 = .ok (.aload_n 0, 1) := by decide +kernel
theorem dX11_move_5 : decode cX11_move 5 = .ok (.aload_n 0, 1) := by decide +kernel
theorem dX11_move_6 : decode cX11_move 6 = .ok (.iload_n 1, 1) := by decide +kernel
theorem dX11_move_7 : decode cX11_move 7 = .ok (.invokevirtual 162, 3) := by decide +kernel
theorem dX11_move_10 : decode cX11_move 10 = .ok (.iconst 2, 1) := by decide +kernel
theorem dX11_move_11 : decode cX11_move 11 = .ok (.iconst 3, 1) := by decide +kernel
theorem dX11_move_12 : decode cX11_move 12 = .ok (.iconst 1, 1) := by decide +kernel
theorem dX11_move_13 : decode cX11_move 13 = .ok (.invokevirtual 119, 3) := by decide +kernel
theorem dX11_move_16 : decode cX11_move 16 = .ok (.ireturn, 1) := by decide +kernel
theorem dX11_takes_0 : decode cX11_takes 0 = .ok (.aload_n 0, 1) := by decide +kernel
theorem dX11_takes_1 : decode cX11_takes 1 = .ok (.getfield 9, 3) := by decide +kernel
theorem dX11_takes_4 : decode cX11_takes 4 = .ok (.iconst 3, 1) := by decide +kernel
theorem dX11_takes_5 : decode cX11_takes 5 = .ok (.iaload, 1) := by decide +kernel
theorem dX11_takes_6 : decode cX11_takes 6 = .ok (.ifCond .ne 5, 3) := by decide +kernel
theorem dX11_takes_9 : decode cX11_takes 9 = .ok (.iconst 3, 1) := by decide +kernel
theorem dX11_takes_10 : decode cX11_takes 10 = .ok (.ireturn, 1) := by decide +kernel
theorem dX11_takes_11 : decode cX11_takes 11 = .ok (.aload_n 0, 1) := by decide +kernel
theorem dX11_takes_12 : decode cX11_takes 12 = .ok (.getfield 9, 3) := by decide +kernel
theorem dX11_takes_15 : decode cX11_takes 15 = .ok (.iconst 3, 1) := by decide +kernel
theorem dX11_takes_16 : decode cX11_takes 16 = .ok (.iaload, 1) := by decide +kernel
theorem dX11_takes_17 : decode cX11_takes 17 = .ok (.iconst 1, 1) := by decide +kernel
theorem dX11_takes_18 : decode cX11_takes 18 = .ok (.if_icmp .ne 5, 3) := by decide +kernel
theorem dX11_takes_21 : decode cX11_takes 21 = .ok (.iconst 2, 1) := by decide +kernel
theorem dX11_takes_22 : decode cX11_takes 22 = .ok (.ireturn, 1) := by decide +kernel
theorem dX11_takes_23 : decode cX11_takes 23 = .ok (.aload_n 0, 1) := by decide +kernel
theorem dX11_takes_24 : decode cX11_takes 24 = .ok (.getfield 9, 3) := by decide +kernel
theorem dX11_takes_27 : decode cX11_takes 27 = .ok (.iconst 3, 1) := by decide +kernel
theorem dX11_takes_28 : decode cX11_takes 28 = .ok (.dup2, 1) := by decide +kernel
theorem dX11_takes_29 : decode cX11_takes 29 = .ok (.iaload, 1) := by decide +kernel
theorem dX11_takes_30 : decode cX11_takes 30 = .ok (.iconst 1, 1) := by decide +kernel
theorem dX11_takes_31 : decode cX11_takes 31 = .ok (.isub, 1) := by decide +kernel
theorem dX11_takes_32 : decode cX11_takes 32 = .ok (.iastore, 1) := by decide +kernel
theorem dX11_takes_33 : decode cX11_takes 33 = .ok (.aload_n 0, 1) := by decide +kernel
theorem dX11_takes_34 : decode cX11_takes 34 = .ok (.invokevirtual 123, 3) := by decide +kernel
theorem dX11_takes_37 : decode cX11_takes 37 = .ok (.aload_n 0, 1) := by decide +kernel
theorem dX11_takes_38 : decode cX11_takes 38 = .ok (.aload_n 0, 1) := by decide +kernel
theorem dX11_takes_39 : decode cX11_takes 39 = .ok (.getfield 9, 3) := by decide +kernel
theorem dX11_takes_42 : decode cX11_takes 42 = .ok (.iconst 3, 1) := by decide +kernel
theorem dX11_takes_43 : decode cX11_takes 43 = .ok (.iaload, 1) := by decide +kernel
theorem dX11_takes_44 : decode cX11_takes 44 = .ok (.putfield 50, 3) := by decide +kernel
theorem dX11_takes_47 : decode cX11_takes 47 = .ok (.iconst 0, 1) := by decide +kernel
theorem dX11_takes_48 : decode cX11_takes 48 = .ok (.ireturn, 1) := by decide +kernel
theorem dX11_takeBack_0 : decode cX11_takeBack 0 = .ok (.aload_n 0, 1) := by decide +kernel
theorem dX11_takeBack_1 : decode cX11_takeBack 1 = .ok (.invokevirtual 113, 3) := by decide +kernel
theorem dX11_takeBack_4 : decode cX11_takeBack 4 = .ok (.aload_n 0, 1) := by decide +kernel
theorem dX11_takeBack_5 : decode cX11_takeBack 5 = .ok (.aload_n 0, 1) := by decide +kernel
theorem dX11_takeBack_6 : decode cX11_takeBack 6 = .ok (.invokevirtual 165, 3) := by decide +kernel
theorem dX11_takeBack_9 : decode cX11_takeBack 9 = .ok (.iconst 0, 1) := by decide +kernel
theorem dX11_takeBack_10 : decode cX11_takeBack 10 = .ok (.iconst 2, 1) := by decide +kernel
theorem dX11_takeBack_11 : decode cX11_takeBack 11 = .ok (.iconst 1, 1) := by decide +kernel
theorem dX11_takeBack_12 : decode cX11_takeBack 12 = .ok (.invokevirtual 119, 3) := by decide +kernel
theorem dX11_takeBack_15 : decode cX11_takeBack 15 = .ok (.ireturn, 1) := by decide +kernel
theorem dX11_closes_0 : decode cX11_closes 0 = .ok (.aload_n 0, 1) := by decide +kernel
theorem dX11_closes_1 : decode cX11_closes 1 = .ok (.getfield 9, 3) := by decide +kernel
theorem dX11_closes_4 : decode cX11_closes 4 = .ok (.iconst 3, 1) := by decide +kernel
theorem dX11_closes_5 : decode cX11_closes 5 = .ok (.iaload, 1) := by decide +kernel
theorem dX11_closes_6 : decode cX11_closes 6 = .ok (.ifCond .ne 5, 3) := by decide +kernel
theorem dX11_closes_9 : decode cX11_closes 9 = .ok (.iconst 3, 1) := by decide +kernel
theorem dX11_closes_10 : decode cX11_closes 10 = .ok (.ireturn, 1) := by decide +kernel
theorem dX11_closes_11 : decode cX11_closes 11 = .ok (.aload_n 0, 1) := by decide +kernel
theorem dX11_closes_12 : decode cX11_closes 12 = .ok (.getfield 9, 3) := by decide +kernel
theorem dX11_closes_15 : decode cX11_closes 15 = .ok (.iconst 3, 1) := by decide +kernel
theorem dX11_closes_16 : decode cX11_closes 16 = .ok (.iaload, 1) := by decide +kernel
theorem dX11_closes_17 : decode cX11_closes 17 = .ok (.iconst 2, 1) := by decide +kernel
theorem dX11_closes_18 : decode cX11_closes 18 = .ok (.irem, 1) := by decide +kernel
theorem dX11_closes_19 : decode cX11_closes 19 = .ok (.iconst 1, 1) := by decide +kernel
theorem dX11_closes_20 : decode cX11_closes 20 = .ok (.if_icmp .ne 7, 3) := by decide +kernel
theorem dX11_closes_23 : decode cX11_closes 23 = .ok (.iconst 1, 1) := by decide +kernel
theorem dX11_closes_24 : decode cX11_closes 24 = .ok (.goto 4, 3) := by decide +kernel
theorem dX11_closes_27 : decode cX11_closes 27 = .ok (.iconst 0, 1) := by decide +kernel
theorem dX11_closes_28 : decode cX11_closes 28 = .ok (.istore_n 1, 1) := by decide +kernel
theorem dX11_closes_29 : decode cX11_closes 29 = .ok (.aload_n 0, 1) := by decide +kernel
theorem dX11_closes_30 : decode cX11_closes 30 = .ok (.getfield 9, 3) := by decide +kernel
theorem dX11_closes_33 : decode cX11_closes 33 = .ok (.iconst 4, 1) := by decide +kernel
theorem dX11_closes_34 : decode cX11_closes 34 = .ok (.dup2, 1) := by decide +kernel
theorem dX11_closes_35 : decode cX11_closes 35 = .ok (.iaload, 1) := by decide +kernel
theorem dX11_closes_36 : decode cX11_closes 36 = .ok (.iconst 1, 1) := by decide +kernel
theorem dX11_closes_37 : decode cX11_closes 37 = .ok (.iadd, 1) := by decide +kernel
theorem dX11_closes_38 : decode cX11_closes 38 = .ok (.iastore, 1) := by decide +kernel
theorem dX11_closes_39 : decode cX11_closes 39 = .ok (.aload_n 0, 1) := by decide +kernel
theorem dX11_closes_40 : decode cX11_closes 40 = .ok (.getfield 9, 3) := by decide +kernel
theorem dX11_closes_43 : decode cX11_closes 43 = .ok (.iconst 5, 1) := by decide +kernel
theorem dX11_closes_44 : decode cX11_closes 44 = .ok (.dup2, 1) := by decide +kernel
theorem dX11_closes_45 : decode cX11_closes 45 = .ok (.iaload, 1) := by decide +kernel
theorem dX11_closes_46 : decode cX11_closes 46 = .ok (.iload_n 1, 1) := by decide +kernel
theorem dX11_closes_47 : decode cX11_closes 47 = .ok (.ifCond .eq 7, 3) := by decide +kernel
theorem dX11_closes_50 : decode cX11_closes 50 = .ok (.iconst 1, 1) := by decide +kernel
theorem dX11_closes_51 : decode cX11_closes 51 = .ok (.goto 4, 3) := by decide +kernel
theorem dX11_closes_54 : decode cX11_closes 54 = .ok (.iconst 0, 1) := by decide +kernel
theorem dX11_closes_55 : decode cX11_closes 55 = .ok (.iadd, 1) := by decide +kernel
theorem dX11_closes_56 : decode cX11_closes 56 = .ok (.iastore, 1) := by decide +kernel
theorem dX11_closes_57 : decode cX11_closes 57 = .ok (.aload_n 0, 1) := by decide +kernel
theorem dX11_closes_58 : decode cX11_closes 58 = .ok (.getfield 9, 3) := by decide +kernel
theorem dX11_closes_61 : decode cX11_closes 61 = .ok (.iconst 3, 1) := by decide +kernel
theorem dX11_closes_62 : decode cX11_closes 62 = .ok (.iconst 0, 1) := by decide +kernel
theorem dX11_closes_63 : decode cX11_closes 63 = .ok (.iastore, 1) := by decide +kernel
theorem dX11_closes_64 : decode cX11_closes 64 = .ok (.aload_n 0, 1) := by decide +kernel
theorem dX11_closes_65 : decode cX11_closes 65 = .ok (.invokevirtual 123, 3) := by decide +kernel
theorem dX11_closes_68 : decode cX11_closes 68 = .ok (.aload_n 0, 1) := by decide +kernel
theorem dX11_closes_69 : decode cX11_closes 69 = .ok (.iload_n 1, 1) := by decide +kernel
theorem dX11_closes_70 : decode cX11_closes 70 = .ok (.ifCond .eq 8, 3) := by decide +kernel
theorem dX11_closes_73 : decode cX11_closes 73 = .ok (.bipush 112, 2) := by decide +kernel
theorem dX11_closes_75 : decode cX11_closes 75 = .ok (.goto 5, 3) := by decide +kernel
theorem dX11_closes_78 : decode cX11_closes 78 = .ok (.bipush 111, 2) := by decide +kernel
theorem dX11_closes_80 : decode cX11_closes 80 = .ok (.putfield 50, 3) := by decide +kernel
theorem dX11_closes_83 : decode cX11_closes 83 = .ok (.iconst 0, 1) := by decide +kernel
theorem dX11_closes_84 : decode cX11_closes 84 = .ok (.ireturn, 1) := by decide +kernel
theorem dX11_endDialogue_0 : decode cX11_endDialogue 0 = .ok (.aload_n 0, 1) := by decide +kernel
theorem dX11_endDialogue_1 : decode cX11_endDialogue 1 = .ok (.invokevirtual 113, 3) := by decide +kernel
theorem dX11_endDialogue_4 : decode cX11_endDialogue 4 = .ok (.aload_n 0, 1) := by decide +kernel
theorem dX11_endDialogue_5 : decode cX11_endDialogue 5 = .ok (.aload_n 0, 1) := by decide +kernel
theorem dX11_endDialogue_6 : decode cX11_endDialogue 6 = .ok (.invokevirtual 168, 3) := by decide +kernel
theorem dX11_endDialogue_9 : decode cX11_endDialogue 9 = .ok (.iconst 0, 1) := by decide +kernel
theorem dX11_endDialogue_10 : decode cX11_endDialogue 10 = .ok (.iconst 0, 1) := by decide +kernel
theorem dX11_endDialogue_11 : decode cX11_endDialogue 11 = .ok (.iconst 1, 1) := by decide +kernel
theorem dX11_endDialogue_12 : decode cX11_endDialogue 12 = .ok (.invokevirtual 119, 3) := by decide +kernel
theorem dX11_endDialogue_15 : decode cX11_endDialogue 15 = .ok (.i2c, 1) := by decide +kernel
theorem dX11_endDialogue_16 : decode cX11_endDialogue 16 = .ok (.ireturn, 1) := by decide +kernel
theorem dX11_ages_0 : decode cX11_ages 0 = .ok (.iconst 0, 1) := by decide +kernel
theorem dX11_ages_1 : decode cX11_ages 1 = .ok (.istore_n 2, 1) := by decide +kernel
theorem dX11_ages_2 : decode cX11_ages 2 = .ok (.iload_n 2, 1) := by decide +kernel
theorem dX11_ages_3 : decode cX11_ages 3 = .ok (.aload_n 0, 1) := by decide +kernel
theorem dX11_ages_4 : decode cX11_ages 4 = .ok (.getfield 9, 3) := by decide +kernel
theorem dX11_ages_7 : decode cX11_ages 7 = .ok (.iconst 0, 1) := by decide +kernel
theorem dX11_ages_8 : decode cX11_ages 8 = .ok (.iaload, 1) := by decide +kernel
theorem dX11_ages_9 : decode cX11_ages 9 = .ok (.if_icmp .ge 43, 3) := by decide +kernel
theorem dX11_ages_12 : decode cX11_ages 12 = .ok (.aload_n 0, 1) := by decide +kernel
theorem dX11_ages_13 : decode cX11_ages 13 = .ok (.iload_n 2, 1) := by decide +kernel
theorem dX11_ages_14 : decode cX11_ages 14 = .ok (.iconst 2, 1) := by decide +kernel
theorem dX11_ages_15 : decode cX11_ages 15 = .ok (.invokevirtual 53, 3) := by decide +kernel
theorem dX11_ages_18 : decode cX11_ages 18 = .ok (.iload_n 1, 1) := by decide +kernel
theorem dX11_ages_19 : decode cX11_ages 19 = .ok (.iadd, 1) := by decide +kernel
theorem dX11_ages_20 : decode cX11_ages 20 = .ok (.istore_n 3, 1) := by decide +kernel
theorem dX11_ages_21 : decode cX11_ages 21 = .ok (.aload_n 0, 1) := by decide +kernel
theorem dX11_ages_22 : decode cX11_ages 22 = .ok (.getfield 9, 3) := by decide +kernel
theorem dX11_ages_25 : decode cX11_ages 25 = .ok (.bipush 7, 2) := by decide +kernel
theorem dX11_ages_27 : decode cX11_ages 27 = .ok (.iconst 3, 1) := by decide +kernel
theorem dX11_ages_28 : decode cX11_ages 28 = .ok (.iload_n 2, 1) := by decide +kernel
theorem dX11_ages_29 : decode cX11_ages 29 = .ok (.imul, 1) := by decide +kernel
theorem dX11_ages_30 : decode cX11_ages 30 = .ok (.iadd, 1) := by decide +kernel
theorem dX11_ages_31 : decode cX11_ages 31 = .ok (.iconst 2, 1) := by decide +kernel
theorem dX11_ages_32 : decode cX11_ages 32 = .ok (.iadd, 1) := by decide +kernel
theorem dX11_ages_33 : decode cX11_ages 33 = .ok (.iload_n 3, 1) := by decide +kernel
theorem dX11_ages_34 : decode cX11_ages 34 = .ok (.bipush 90, 2) := by decide +kernel
theorem dX11_ages_36 : decode cX11_ages 36 = .ok (.if_icmp .le 8, 3) := by decide +kernel
theorem dX11_ages_39 : decode cX11_ages 39 = .ok (.bipush 90, 2) := by decide +kernel
theorem dX11_ages_41 : decode cX11_ages 41 = .ok (.goto 4, 3) := by decide +kernel
theorem dX11_ages_44 : decode cX11_ages 44 = .ok (.iload_n 3, 1) := by decide +kernel
theorem dX11_ages_45 : decode cX11_ages 45 = .ok (.iastore, 1) := by decide +kernel
theorem dX11_ages_46 : decode cX11_ages 46 = .ok (.iinc 2 1, 3) := by decide +kernel
theorem dX11_ages_49 : decode cX11_ages 49 = .ok (.goto (-47), 3) := by decide +kernel
theorem dX11_ages_52 : decode cX11_ages 52 = .ok (.aload_n 0, 1) := by decide +kernel
theorem dX11_ages_53 : decode cX11_ages 53 = .ok (.getfield 9, 3) := by decide +kernel
theorem dX11_ages_56 : decode cX11_ages 56 = .ok (.iconst 2, 1) := by decide +kernel
theorem dX11_ages_57 : decode cX11_ages 57 = .ok (.dup2, 1) := by decide +kernel
theorem dX11_ages_58 : decode cX11_ages 58 = .ok (.iaload, 1) := by decide +kernel
theorem dX11_ages_59 : decode cX11_ages 59 = .ok (.iload_n 1, 1) := by decide +kernel
theorem dX11_ages_60 : decode cX11_ages 60 = .ok (.iadd, 1) := by decide +kernel
theorem dX11_ages_61 : decode cX11_ages 61 = .ok (.iastore, 1) := by decide +kernel
theorem dX11_ages_62 : decode cX11_ages 62 = .ok (.return_, 1) := by decide +kernel
theorem dX11_passes_0 : decode cX11_passes 0 = .ok (.iload_n 1, 1) := by decide +kernel
theorem dX11_passes_1 : decode cX11_passes 1 = .ok (.iconst 1, 1) := by decide +kernel
theorem dX11_passes_2 : decode cX11_passes 2 = .ok (.bipush 90, 2) := by decide +kernel
theorem dX11_passes_4 : decode cX11_passes 4 = .ok (.invokestatic 109, 3) := by decide +kernel
theorem dX11_passes_7 : decode cX11_passes 7 = .ok (.ifCond .ne 5, 3) := by decide +kernel
theorem dX11_passes_10 : decode cX11_passes 10 = .ok (.iconst 1, 1) := by decide +kernel
theorem dX11_passes_11 : decode cX11_passes 11 = .ok (.ireturn, 1) := by decide +kernel
theorem dX11_passes_12 : decode cX11_passes 12 = .ok (.iconst 0, 1) := by decide +kernel
theorem dX11_passes_13 : decode cX11_passes 13 = .ok (.istore_n 2, 1) := by decide +kernel
theorem dX11_passes_14 : decode cX11_passes 14 = .ok (.iload_n 2, 1) := by decide +kernel
theorem dX11_passes_15 : decode cX11_passes 15 = .ok (.aload_n 0, 1) := by decide +kernel
theorem dX11_passes_16 : decode cX11_passes 16 = .ok (.getfield 9, 3) := by decide +kernel
theorem dX11_passes_19 : decode cX11_passes 19 = .ok (.iconst 0, 1) := by decide +kernel
theorem dX11_passes_20 : decode cX11_passes 20 = .ok (.iaload, 1) := by decide +kernel
theorem dX11_passes_21 : decode cX11_passes 21 = .ok (.if_icmp .ge 20, 3) := by decide +kernel
theorem dX11_passes_24 : decode cX11_passes 24 = .ok (.aload_n 0, 1) := by decide +kernel
theorem dX11_passes_25 : decode cX11_passes 25 = .ok (.getfield 20, 3) := by decide +kernel
theorem dX11_passes_28 : decode cX11_passes 28 = .ok (.iload_n 2, 1) := by decide +kernel
theorem dX11_passes_29 : decode cX11_passes 29 = .ok (.aload_n 0, 1) := by decide +kernel
theorem dX11_passes_30 : decode cX11_passes 30 = .ok (.iload_n 2, 1) := by decide +kernel
theorem dX11_passes_31 : decode cX11_passes 31 = .ok (.invokevirtual 80, 3) := by decide +kernel
theorem dX11_passes_34 : decode cX11_passes 34 = .ok (.iastore, 1) := by decide +kernel
theorem dX11_passes_35 : decode cX11_passes 35 = .ok (.iinc 2 1, 3) := by decide +kernel
theorem dX11_passes_38 : decode cX11_passes 38 = .ok (.goto (-24), 3) := by decide +kernel
theorem dX11_passes_41 : decode cX11_passes 41 = .ok (.aload_n 0, 1) := by decide +kernel
theorem dX11_passes_42 : decode cX11_passes 42 = .ok (.iload_n 1, 1) := by decide +kernel
theorem dX11_passes_43 : decode cX11_passes 43 = .ok (.invokevirtual 171, 3) := by decide +kernel
theorem dX11_passes_46 : decode cX11_passes 46 = .ok (.aload_n 0, 1) := by decide +kernel
theorem dX11_passes_47 : decode cX11_passes 47 = .ok (.iconst 0, 1) := by decide +kernel
theorem dX11_passes_48 : decode cX11_passes 48 = .ok (.putfield 50, 3) := by decide +kernel
theorem dX11_passes_51 : decode cX11_passes 51 = .ok (.iconst 0, 1) := by decide +kernel
theorem dX11_passes_52 : decode cX11_passes 52 = .ok (.istore_n 2, 1) := by decide +kernel
theorem dX11_passes_53 : decode cX11_passes 53 = .ok (.iload_n 2, 1) := by decide +kernel
theorem dX11_passes_54 : decode cX11_passes 54 = .ok (.aload_n 0, 1) := by decide +kernel
theorem dX11_passes_55 : decode cX11_passes 55 = .ok (.getfield 9, 3) := by decide +kernel
theorem dX11_passes_58 : decode cX11_passes 58 = .ok (.iconst 0, 1) := by decide +kernel
theorem dX11_passes_59 : decode cX11_passes 59 = .ok (.iaload, 1) := by decide +kernel
theorem dX11_passes_60 : decode cX11_passes 60 = .ok (.if_icmp .ge 33, 3) := by decide +kernel
theorem dX11_passes_63 : decode cX11_passes 63 = .ok (.aload_n 0, 1) := by decide +kernel
theorem dX11_passes_64 : decode cX11_passes 64 = .ok (.dup, 1) := by decide +kernel
theorem dX11_passes_65 : decode cX11_passes 65 = .ok (.getfield 50, 3) := by decide +kernel
theorem dX11_passes_68 : decode cX11_passes 68 = .ok (.aload_n 0, 1) := by decide +kernel
theorem dX11_passes_69 : decode cX11_passes 69 = .ok (.getfield 20, 3) := by decide +kernel
theorem dX11_passes_72 : decode cX11_passes 72 = .ok (.iload_n 2, 1) := by decide +kernel
theorem dX11_passes_73 : decode cX11_passes 73 = .ok (.iaload, 1) := by decide +kernel
theorem dX11_passes_74 : decode cX11_passes 74 = .ok (.aload_n 0, 1) := by decide +kernel
theorem dX11_passes_75 : decode cX11_passes 75 = .ok (.iload_n 2, 1) := by decide +kernel
theorem dX11_passes_76 : decode cX11_passes 76 = .ok (.invokevirtual 80, 3) := by decide +kernel
theorem dX11_passes_79 : decode cX11_passes 79 = .ok (.ixor, 1) := by decide +kernel
theorem dX11_passes_80 : decode cX11_passes 80 = .ok (.invokestatic 68, 3) := by decide +kernel
theorem dX11_passes_83 : decode cX11_passes 83 = .ok (.iadd, 1) := by decide +kernel
theorem dX11_passes_84 : decode cX11_passes 84 = .ok (.putfield 50, 3) := by decide +kernel
theorem dX11_passes_87 : decode cX11_passes 87 = .ok (.iinc 2 1, 3) := by decide +kernel
theorem dX11_passes_90 : decode cX11_passes 90 = .ok (.goto (-37), 3) := by decide +kernel
theorem dX11_passes_93 : decode cX11_passes 93 = .ok (.iconst 0, 1) := by decide +kernel
theorem dX11_passes_94 : decode cX11_passes 94 = .ok (.ireturn, 1) := by decide +kernel
theorem dX11_pass_0 : decode cX11_pass 0 = .ok (.aload_n 0, 1) := by decide +kernel
theorem dX11_pass_1 : decode cX11_pass 1 = .ok (.invokevirtual 113, 3) := by decide +kernel
theorem dX11_pass_4 : decode cX11_pass 4 = .ok (.aload_n 0, 1) := by decide +kernel
theorem dX11_pass_5 : decode cX11_pass 5 = .ok (.aload_n 0, 1) := by decide +kernel
theorem dX11_pass_6 : decode cX11_pass 6 = .ok (.iload_n 1, 1) := by decide +kernel
theorem dX11_pass_7 : decode cX11_pass 7 = .ok (.invokevirtual 175, 3) := by decide +kernel
theorem dX11_pass_10 : decode cX11_pass 10 = .ok (.iconst 1, 1) := by decide +kernel
theorem dX11_pass_11 : decode cX11_pass 11 = .ok (.iconst 0, 1) := by decide +kernel
theorem dX11_pass_12 : decode cX11_pass 12 = .ok (.iconst 0, 1) := by decide +kernel
theorem dX11_pass_13 : decode cX11_pass 13 = .ok (.invokevirtual 119, 3) := by decide +kernel
theorem dX11_pass_16 : decode cX11_pass 16 = .ok (.ireturn, 1) := by decide +kernel
theorem dX11_told_0 : decode cX11_told 0 = .ok (.aload_n 0, 1) := by decide +kernel
theorem dX11_told_1 : decode cX11_told 1 = .ok (.iconst 0, 1) := by decide +kernel
theorem dX11_told_2 : decode cX11_told 2 = .ok (.putfield 40, 3) := by decide +kernel
theorem dX11_told_5 : decode cX11_told 5 = .ok (.aload_n 0, 1) := by decide +kernel
theorem dX11_told_6 : decode cX11_told 6 = .ok (.getfield 9, 3) := by decide +kernel
theorem dX11_told_9 : decode cX11_told 9 = .ok (.iload_n 1, 1) := by decide +kernel
theorem dX11_told_10 : decode cX11_told 10 = .ok (.iaload, 1) := by decide +kernel
theorem dX11_told_11 : decode cX11_told 11 = .ok (.ireturn, 1) := by decide +kernel
theorem dX11_day_0 : decode cX11_day 0 = .ok (.aload_n 0, 1) := by decide +kernel
theorem dX11_day_1 : decode cX11_day 1 = .ok (.iconst 2, 1) := by decide +kernel
theorem dX11_day_2 : decode cX11_day 2 = .ok (.invokevirtual 178, 3) := by decide +kernel
theorem dX11_day_5 : decode cX11_day 5 = .ok (.ireturn, 1) := by decide +kernel
theorem dX11_argumentCount_0 : decode cX11_argumentCount 0 = .ok (.aload_n 0, 1) := by decide +kernel
theorem dX11_argumentCount_1 : decode cX11_argumentCount 1 = .ok (.iconst 0, 1) := by decide +kernel
theorem dX11_argumentCount_2 : decode cX11_argumentCount 2 = .ok (.invokevirtual 178, 3) := by decide +kernel
theorem dX11_argumentCount_5 : decode cX11_argumentCount 5 = .ok (.ireturn, 1) := by decide +kernel
theorem dX11_idAt_0 : decode cX11_idAt 0 = .ok (.aload_n 0, 1) := by decide +kernel
theorem dX11_idAt_1 : decode cX11_idAt 1 = .ok (.iload_n 1, 1) := by decide +kernel
theorem dX11_idAt_2 : decode cX11_idAt 2 = .ok (.iconst 0, 1) := by decide +kernel
theorem dX11_idAt_3 : decode cX11_idAt 3 = .ok (.aload_n 0, 1) := by decide +kernel
theorem dX11_idAt_4 : decode cX11_idAt 4 = .ok (.getfield 9, 3) := by decide +kernel
theorem dX11_idAt_7 : decode cX11_idAt 7 = .ok (.iconst 0, 1) := by decide +kernel
theorem dX11_idAt_8 : decode cX11_idAt 8 = .ok (.iaload, 1) := by decide +kernel
theorem dX11_idAt_9 : decode cX11_idAt 9 = .ok (.iconst 1, 1) := by decide +kernel
theorem dX11_idAt_10 : decode cX11_idAt 10 = .ok (.isub, 1) := by decide +kernel
theorem dX11_idAt_11 : decode cX11_idAt 11 = .ok (.invokestatic 109, 3) := by decide +kernel
theorem dX11_idAt_14 : decode cX11_idAt 14 = .ok (.invokevirtual 181, 3) := by decide +kernel
theorem dX11_idAt_17 : decode cX11_idAt 17 = .ok (.ifCond .eq 12, 3) := by decide +kernel
theorem dX11_idAt_20 : decode cX11_idAt 20 = .ok (.aload_n 0, 1) := by decide +kernel
theorem dX11_idAt_21 : decode cX11_idAt 21 = .ok (.iload_n 1, 1) := by decide +kernel
theorem dX11_idAt_22 : decode cX11_idAt 22 = .ok (.iconst 0, 1) := by decide +kernel
theorem dX11_idAt_23 : decode cX11_idAt 23 = .ok (.invokevirtual 53, 3) := by decide +kernel
theorem dX11_idAt_26 : decode cX11_idAt 26 = .ok (.goto 4, 3) := by decide +kernel
theorem dX11_idAt_29 : decode cX11_idAt 29 = .ok (.iconst 0, 1) := by decide +kernel
theorem dX11_idAt_30 : decode cX11_idAt 30 = .ok (.ireturn, 1) := by decide +kernel
theorem dX11_ofArgument_0 : decode cX11_ofArgument 0 = .ok (.aload_n 0, 1) := by decide +kernel
theorem dX11_ofArgument_1 : decode cX11_ofArgument 1 = .ok (.aload_n 0, 1) := by decide +kernel
theorem dX11_ofArgument_2 : decode cX11_ofArgument 2 = .ok (.iload_n 1, 1) := by decide +kernel
theorem dX11_ofArgument_3 : decode cX11_ofArgument 3 = .ok (.invokevirtual 141, 3) := by decide +kernel
theorem dX11_ofArgument_6 : decode cX11_ofArgument 6 = .ok (.invokevirtual 181, 3) := by decide +kernel
theorem dX11_ofArgument_9 : decode cX11_ofArgument 9 = .ok (.ifCond .eq 16, 3) := by decide +kernel
theorem dX11_ofArgument_12 : decode cX11_ofArgument 12 = .ok (.aload_n 0, 1) := by decide +kernel
theorem dX11_ofArgument_13 : decode cX11_ofArgument 13 = .ok (.aload_n 0, 1) := by decide +kernel
theorem dX11_ofArgument_14 : decode cX11_ofArgument 14 = .ok (.iload_n 1, 1) := by decide +kernel
theorem dX11_ofArgument_15 : decode cX11_ofArgument 15 = .ok (.invokevirtual 57, 3) := by decide +kernel
theorem dX11_ofArgument_18 : decode cX11_ofArgument 18 = .ok (.iload_n 2, 1) := by decide +kernel
theorem dX11_ofArgument_19 : decode cX11_ofArgument 19 = .ok (.invokevirtual 53, 3) := by decide +kernel
theorem dX11_ofArgument_22 : decode cX11_ofArgument 22 = .ok (.goto 4, 3) := by decide +kernel
theorem dX11_ofArgument_25 : decode cX11_ofArgument 25 = .ok (.iconst 0, 1) := by decide +kernel
theorem dX11_ofArgument_26 : decode cX11_ofArgument 26 = .ok (.ireturn, 1) := by decide +kernel
theorem dX11_weightOf_0 : decode cX11_weightOf 0 = .ok (.aload_n 0, 1) := by decide +kernel
theorem dX11_weightOf_1 : decode cX11_weightOf 1 = .ok (.iload_n 1, 1) := by decide +kernel
theorem dX11_weightOf_2 : decode cX11_weightOf 2 = .ok (.iconst 1, 1) := by decide +kernel
theorem dX11_weightOf_3 : decode cX11_weightOf 3 = .ok (.invokevirtual 185, 3) := by decide +kernel
theorem dX11_weightOf_6 : decode cX11_weightOf 6 = .ok (.ireturn, 1) := by decide +kernel
theorem dX11_ageOf_0 : decode cX11_ageOf 0 = .ok (.aload_n 0, 1) := by decide +kernel
theorem dX11_ageOf_1 : decode cX11_ageOf 1 = .ok (.iload_n 1, 1) := by decide +kernel
theorem dX11_ageOf_2 : decode cX11_ageOf 2 = .ok (.iconst 2, 1) := by decide +kernel
theorem dX11_ageOf_3 : decode cX11_ageOf 3 = .ok (.invokevirtual 185, 3) := by decide +kernel
theorem dX11_ageOf_6 : decode cX11_ageOf 6 = .ok (.ireturn, 1) := by decide +kernel
theorem dX11_strengthOf_0 : decode cX11_strengthOf 0 = .ok (.aload_n 0, 1) := by decide +kernel
theorem dX11_strengthOf_1 : decode cX11_strengthOf 1 = .ok (.aload_n 0, 1) := by decide +kernel
theorem dX11_strengthOf_2 : decode cX11_strengthOf 2 = .ok (.iload_n 1, 1) := by decide +kernel
theorem dX11_strengthOf_3 : decode cX11_strengthOf 3 = .ok (.invokevirtual 141, 3) := by decide +kernel
theorem dX11_strengthOf_6 : decode cX11_strengthOf 6 = .ok (.invokevirtual 181, 3) := by decide +kernel
theorem dX11_strengthOf_9 : decode cX11_strengthOf 9 = .ok (.ifCond .eq 15, 3) := by decide +kernel
theorem dX11_strengthOf_12 : decode cX11_strengthOf 12 = .ok (.aload_n 0, 1) := by decide +kernel
theorem dX11_strengthOf_13 : decode cX11_strengthOf 13 = .ok (.aload_n 0, 1) := by decide +kernel
theorem dX11_strengthOf_14 : decode cX11_strengthOf 14 = .ok (.iload_n 1, 1) := by decide +kernel
theorem dX11_strengthOf_15 : decode cX11_strengthOf 15 = .ok (.invokevirtual 57, 3) := by decide +kernel
theorem dX11_strengthOf_18 : decode cX11_strengthOf 18 = .ok (.invokevirtual 65, 3) := by decide +kernel
theorem dX11_strengthOf_21 : decode cX11_strengthOf 21 = .ok (.goto 4, 3) := by decide +kernel
theorem dX11_strengthOf_24 : decode cX11_strengthOf 24 = .ok (.iconst 0, 1) := by decide +kernel
theorem dX11_strengthOf_25 : decode cX11_strengthOf 25 = .ok (.ireturn, 1) := by decide +kernel
theorem dX11_attackCount_0 : decode cX11_attackCount 0 = .ok (.aload_n 0, 1) := by decide +kernel
theorem dX11_attackCount_1 : decode cX11_attackCount 1 = .ok (.iconst 0, 1) := by decide +kernel
theorem dX11_attackCount_2 : decode cX11_attackCount 2 = .ok (.putfield 40, 3) := by decide +kernel
theorem dX11_attackCount_5 : decode cX11_attackCount 5 = .ok (.aload_n 0, 1) := by decide +kernel
theorem dX11_attackCount_6 : decode cX11_attackCount 6 = .ok (.invokevirtual 126, 3) := by decide +kernel
theorem dX11_attackCount_9 : decode cX11_attackCount 9 = .ok (.ireturn, 1) := by decide +kernel
theorem dX11_areThere_0 : decode cX11_areThere 0 = .ok (.aload_n 0, 1) := by decide +kernel
theorem dX11_areThere_1 : decode cX11_areThere 1 = .ok (.aload_n 0, 1) := by decide +kernel
theorem dX11_areThere_2 : decode cX11_areThere 2 = .ok (.iload_n 1, 1) := by decide +kernel
theorem dX11_areThere_3 : decode cX11_areThere 3 = .ok (.invokevirtual 141, 3) := by decide +kernel
theorem dX11_areThere_6 : decode cX11_areThere 6 = .ok (.ifCond .eq 15, 3) := by decide +kernel
theorem dX11_areThere_9 : decode cX11_areThere 9 = .ok (.aload_n 0, 1) := by decide +kernel
theorem dX11_areThere_10 : decode cX11_areThere 10 = .ok (.iload_n 2, 1) := by decide +kernel
theorem dX11_areThere_11 : decode cX11_areThere 11 = .ok (.invokevirtual 141, 3) := by decide +kernel
theorem dX11_areThere_14 : decode cX11_areThere 14 = .ok (.ifCond .eq 7, 3) := by decide +kernel
theorem dX11_areThere_17 : decode cX11_areThere 17 = .ok (.iconst 1, 1) := by decide +kernel
theorem dX11_areThere_18 : decode cX11_areThere 18 = .ok (.goto 4, 3) := by decide +kernel
theorem dX11_areThere_21 : decode cX11_areThere 21 = .ok (.iconst 0, 1) := by decide +kernel
theorem dX11_areThere_22 : decode cX11_areThere 22 = .ok (.invokevirtual 181, 3) := by decide +kernel
theorem dX11_areThere_25 : decode cX11_areThere 25 = .ok (.ireturn, 1) := by decide +kernel
theorem dX11_hasAttack_0 : decode cX11_hasAttack 0 = .ok (.aload_n 0, 1) := by decide +kernel
theorem dX11_hasAttack_1 : decode cX11_hasAttack 1 = .ok (.iload_n 1, 1) := by decide +kernel
theorem dX11_hasAttack_2 : decode cX11_hasAttack 2 = .ok (.iload_n 2, 1) := by decide +kernel
theorem dX11_hasAttack_3 : decode cX11_hasAttack 3 = .ok (.invokevirtual 188, 3) := by decide +kernel
theorem dX11_hasAttack_6 : decode cX11_hasAttack 6 = .ok (.ifCond .eq 24, 3) := by decide +kernel
theorem dX11_hasAttack_9 : decode cX11_hasAttack 9 = .ok (.aload_n 0, 1) := by decide +kernel
theorem dX11_hasAttack_10 : decode cX11_hasAttack 10 = .ok (.aload_n 0, 1) := by decide +kernel
theorem dX11_hasAttack_11 : decode cX11_hasAttack 11 = .ok (.iload_n 1, 1) := by decide +kernel
theorem dX11_hasAttack_12 : decode cX11_hasAttack 12 = .ok (.invokevirtual 57, 3) := by decide +kernel
theorem dX11_hasAttack_15 : decode cX11_hasAttack 15 = .ok (.aload_n 0, 1) := by decide +kernel
theorem dX11_hasAttack_16 : decode cX11_hasAttack 16 = .ok (.iload_n 2, 1) := by decide +kernel
theorem dX11_hasAttack_17 : decode cX11_hasAttack 17 = .ok (.invokevirtual 57, 3) := by decide +kernel
theorem dX11_hasAttack_20 : decode cX11_hasAttack 20 = .ok (.invokevirtual 61, 3) := by decide +kernel
theorem dX11_hasAttack_23 : decode cX11_hasAttack 23 = .ok (.ifCond .eq 7, 3) := by decide +kernel
theorem dX11_hasAttack_26 : decode cX11_hasAttack 26 = .ok (.iconst 1, 1) := by decide +kernel
theorem dX11_hasAttack_27 : decode cX11_hasAttack 27 = .ok (.goto 4, 3) := by decide +kernel
theorem dX11_hasAttack_30 : decode cX11_hasAttack 30 = .ok (.iconst 0, 1) := by decide +kernel
theorem dX11_hasAttack_31 : decode cX11_hasAttack 31 = .ok (.ireturn, 1) := by decide +kernel
theorem dX11_isSuccessful_0 : decode cX11_isSuccessful 0 = .ok (.aload_n 0, 1) := by decide +kernel
theorem dX11_isSuccessful_1 : decode cX11_isSuccessful 1 = .ok (.aload_n 0, 1) := by decide +kernel
theorem dX11_isSuccessful_2 : decode cX11_isSuccessful 2 = .ok (.iload_n 1, 1) := by decide +kernel
theorem dX11_isSuccessful_3 : decode cX11_isSuccessful 3 = .ok (.invokevirtual 141, 3) := by decide +kernel
theorem dX11_isSuccessful_6 : decode cX11_isSuccessful 6 = .ok (.ifCond .eq 32, 3) := by decide +kernel
theorem dX11_isSuccessful_9 : decode cX11_isSuccessful 9 = .ok (.aload_n 0, 1) := by decide +kernel
theorem dX11_isSuccessful_10 : decode cX11_isSuccessful 10 = .ok (.iload_n 2, 1) := by decide +kernel
theorem dX11_isSuccessful_11 : decode cX11_isSuccessful 11 = .ok (.invokevirtual 141, 3) := by decide +kernel
theorem dX11_isSuccessful_14 : decode cX11_isSuccessful 14 = .ok (.ifCond .eq 24, 3) := by decide +kernel
theorem dX11_isSuccessful_17 : decode cX11_isSuccessful 17 = .ok (.aload_n 0, 1) := by decide +kernel
theorem dX11_isSuccessful_18 : decode cX11_isSuccessful 18 = .ok (.aload_n 0, 1) := by decide +kernel
theorem dX11_isSuccessful_19 : decode cX11_isSuccessful 19 = .ok (.iload_n 1, 1) := by decide +kernel
theorem dX11_isSuccessful_20 : decode cX11_isSuccessful 20 = .ok (.invokevirtual 57, 3) := by decide +kernel
theorem dX11_isSuccessful_23 : decode cX11_isSuccessful 23 = .ok (.aload_n 0, 1) := by decide +kernel
theorem dX11_isSuccessful_24 : decode cX11_isSuccessful 24 = .ok (.iload_n 2, 1) := by decide +kernel
theorem dX11_isSuccessful_25 : decode cX11_isSuccessful 25 = .ok (.invokevirtual 57, 3) := by decide +kernel
theorem dX11_isSuccessful_28 : decode cX11_isSuccessful 28 = .ok (.invokevirtual 61, 3) := by decide +kernel
theorem dX11_isSuccessful_31 : decode cX11_isSuccessful 31 = .ok (.ifCond .eq 7, 3) := by decide +kernel
theorem dX11_isSuccessful_34 : decode cX11_isSuccessful 34 = .ok (.iconst 1, 1) := by decide +kernel
theorem dX11_isSuccessful_35 : decode cX11_isSuccessful 35 = .ok (.goto 4, 3) := by decide +kernel
theorem dX11_isSuccessful_38 : decode cX11_isSuccessful 38 = .ok (.iconst 0, 1) := by decide +kernel
theorem dX11_isSuccessful_39 : decode cX11_isSuccessful 39 = .ok (.invokevirtual 181, 3) := by decide +kernel
theorem dX11_isSuccessful_42 : decode cX11_isSuccessful 42 = .ok (.ifCond .eq 24, 3) := by decide +kernel
theorem dX11_isSuccessful_45 : decode cX11_isSuccessful 45 = .ok (.aload_n 0, 1) := by decide +kernel
theorem dX11_isSuccessful_46 : decode cX11_isSuccessful 46 = .ok (.aload_n 0, 1) := by decide +kernel
theorem dX11_isSuccessful_47 : decode cX11_isSuccessful 47 = .ok (.iload_n 1, 1) := by decide +kernel
theorem dX11_isSuccessful_48 : decode cX11_isSuccessful 48 = .ok (.invokevirtual 57, 3) := by decide +kernel
theorem dX11_isSuccessful_51 : decode cX11_isSuccessful 51 = .ok (.aload_n 0, 1) := by decide +kernel
theorem dX11_isSuccessful_52 : decode cX11_isSuccessful 52 = .ok (.iload_n 2, 1) := by decide +kernel
theorem dX11_isSuccessful_53 : decode cX11_isSuccessful 53 = .ok (.invokevirtual 57, 3) := by decide +kernel
theorem dX11_isSuccessful_56 : decode cX11_isSuccessful 56 = .ok (.invokevirtual 71, 3) := by decide +kernel
theorem dX11_isSuccessful_59 : decode cX11_isSuccessful 59 = .ok (.ifCond .eq 7, 3) := by decide +kernel
theorem dX11_isSuccessful_62 : decode cX11_isSuccessful 62 = .ok (.iconst 1, 1) := by decide +kernel
theorem dX11_isSuccessful_63 : decode cX11_isSuccessful 63 = .ok (.goto 4, 3) := by decide +kernel
theorem dX11_isSuccessful_66 : decode cX11_isSuccessful 66 = .ok (.iconst 0, 1) := by decide +kernel
theorem dX11_isSuccessful_67 : decode cX11_isSuccessful 67 = .ok (.ireturn, 1) := by decide +kernel
theorem dX11_successfulCount_0 : decode cX11_successfulCount 0 = .ok (.aload_n 0, 1) := by decide +kernel
theorem dX11_successfulCount_1 : decode cX11_successfulCount 1 = .ok (.iconst 0, 1) := by decide +kernel
theorem dX11_successfulCount_2 : decode cX11_successfulCount 2 = .ok (.putfield 40, 3) := by decide +kernel
theorem dX11_successfulCount_5 : decode cX11_successfulCount 5 = .ok (.iconst 0, 1) := by decide +kernel
theorem dX11_successfulCount_6 : decode cX11_successfulCount 6 = .ok (.istore_n 1, 1) := by decide +kernel
theorem dX11_successfulCount_7 : decode cX11_successfulCount 7 = .ok (.iconst 0, 1) := by decide +kernel
theorem dX11_successfulCount_8 : decode cX11_successfulCount 8 = .ok (.istore_n 2, 1) := by decide +kernel
theorem dX11_successfulCount_9 : decode cX11_successfulCount 9 = .ok (.iload_n 2, 1) := by decide +kernel
theorem dX11_successfulCount_10 : decode cX11_successfulCount 10 = .ok (.aload_n 0, 1) := by decide +kernel
theorem dX11_successfulCount_11 : decode cX11_successfulCount 11 = .ok (.getfield 9, 3) := by decide +kernel
theorem dX11_successfulCount_14 : decode cX11_successfulCount 14 = .ok (.iconst 0, 1) := by decide +kernel
theorem dX11_successfulCount_15 : decode cX11_successfulCount 15 = .ok (.iaload, 1) := by decide +kernel
theorem dX11_successfulCount_16 : decode cX11_successfulCount 16 = .ok (.if_icmp .ge 20, 3) := by decide +kernel
theorem dX11_successfulCount_19 : decode cX11_successfulCount 19 = .ok (.iload_n 1, 1) := by decide +kernel
theorem dX11_successfulCount_20 : decode cX11_successfulCount 20 = .ok (.aload_n 0, 1) := by decide +kernel
theorem dX11_successfulCount_21 : decode cX11_successfulCount 21 = .ok (.iload_n 2, 1) := by decide +kernel
theorem dX11_successfulCount_22 : decode cX11_successfulCount 22 = .ok (.invokevirtual 80, 3) := by decide +kernel
theorem dX11_successfulCount_25 : decode cX11_successfulCount 25 = .ok (.invokestatic 68, 3) := by decide +kernel
theorem dX11_successfulCount_28 : decode cX11_successfulCount 28 = .ok (.iadd, 1) := by decide +kernel
theorem dX11_successfulCount_29 : decode cX11_successfulCount 29 = .ok (.istore_n 1, 1) := by decide +kernel
theorem dX11_successfulCount_30 : decode cX11_successfulCount 30 = .ok (.iinc 2 1, 3) := by decide +kernel
theorem dX11_successfulCount_33 : decode cX11_successfulCount 33 = .ok (.goto (-24), 3) := by decide +kernel
theorem dX11_successfulCount_36 : decode cX11_successfulCount 36 = .ok (.iload_n 1, 1) := by decide +kernel
theorem dX11_successfulCount_37 : decode cX11_successfulCount 37 = .ok (.ireturn, 1) := by decide +kernel
theorem dX11_attackerCount_0 : decode cX11_attackerCount 0 = .ok (.aload_n 0, 1) := by decide +kernel
theorem dX11_attackerCount_1 : decode cX11_attackerCount 1 = .ok (.aload_n 0, 1) := by decide +kernel
theorem dX11_attackerCount_2 : decode cX11_attackerCount 2 = .ok (.iload_n 1, 1) := by decide +kernel
theorem dX11_attackerCount_3 : decode cX11_attackerCount 3 = .ok (.invokevirtual 141, 3) := by decide +kernel
theorem dX11_attackerCount_6 : decode cX11_attackerCount 6 = .ok (.invokevirtual 181, 3) := by decide +kernel
theorem dX11_attackerCount_9 : decode cX11_attackerCount 9 = .ok (.ifCond .eq 18, 3) := by decide +kernel
theorem dX11_attackerCount_12 : decode cX11_attackerCount 12 = .ok (.aload_n 0, 1) := by decide +kernel
theorem dX11_attackerCount_13 : decode cX11_attackerCount 13 = .ok (.aload_n 0, 1) := by decide +kernel
theorem dX11_attackerCount_14 : decode cX11_attackerCount 14 = .ok (.iload_n 1, 1) := by decide +kernel
theorem dX11_attackerCount_15 : decode cX11_attackerCount 15 = .ok (.invokevirtual 57, 3) := by decide +kernel
theorem dX11_attackerCount_18 : decode cX11_attackerCount 18 = .ok (.invokevirtual 80, 3) := by decide +kernel
theorem dX11_attackerCount_21 : decode cX11_attackerCount 21 = .ok (.invokestatic 68, 3) := by decide +kernel
theorem dX11_attackerCount_24 : decode cX11_attackerCount 24 = .ok (.goto 4, 3) := by decide +kernel
theorem dX11_attackerCount_27 : decode cX11_attackerCount 27 = .ok (.iconst 0, 1) := by decide +kernel
theorem dX11_attackerCount_28 : decode cX11_attackerCount 28 = .ok (.ireturn, 1) := by decide +kernel
theorem dX11_attackerAt_0 : decode cX11_attackerAt 0 = .ok (.aload_n 0, 1) := by decide +kernel
theorem dX11_attackerAt_1 : decode cX11_attackerAt 1 = .ok (.aload_n 0, 1) := by decide +kernel
theorem dX11_attackerAt_2 : decode cX11_attackerAt 2 = .ok (.iload_n 1, 1) := by decide +kernel
theorem dX11_attackerAt_3 : decode cX11_attackerAt 3 = .ok (.invokevirtual 141, 3) := by decide +kernel
theorem dX11_attackerAt_6 : decode cX11_attackerAt 6 = .ok (.invokevirtual 181, 3) := by decide +kernel
theorem dX11_attackerAt_9 : decode cX11_attackerAt 9 = .ok (.ifCond .ne 5, 3) := by decide +kernel
theorem dX11_attackerAt_12 : decode cX11_attackerAt 12 = .ok (.iconst 0, 1) := by decide +kernel
theorem dX11_attackerAt_13 : decode cX11_attackerAt 13 = .ok (.ireturn, 1) := by decide +kernel
theorem dX11_attackerAt_14 : decode cX11_attackerAt 14 = .ok (.aload_n 0, 1) := by decide +kernel
theorem dX11_attackerAt_15 : decode cX11_attackerAt 15 = .ok (.aload_n 0, 1) := by decide +kernel
theorem dX11_attackerAt_16 : decode cX11_attackerAt 16 = .ok (.iload_n 1, 1) := by decide +kernel
theorem dX11_attackerAt_17 : decode cX11_attackerAt 17 = .ok (.invokevirtual 57, 3) := by decide +kernel
theorem dX11_attackerAt_20 : decode cX11_attackerAt 20 = .ok (.invokevirtual 80, 3) := by decide +kernel
theorem dX11_attackerAt_23 : decode cX11_attackerAt 23 = .ok (.istore_n 3, 1) := by decide +kernel
theorem dX11_attackerAt_24 : decode cX11_attackerAt 24 = .ok (.iconst 0, 1) := by decide +kernel
theorem dX11_attackerAt_25 : decode cX11_attackerAt 25 = .ok (.istore 4, 2) := by decide +kernel
theorem dX11_attackerAt_27 : decode cX11_attackerAt 27 = .ok (.iconst 0, 1) := by decide +kernel
theorem dX11_attackerAt_28 : decode cX11_attackerAt 28 = .ok (.istore 5, 2) := by decide +kernel
theorem dX11_attackerAt_30 : decode cX11_attackerAt 30 = .ok (.iload 5, 2) := by decide +kernel
theorem dX11_attackerAt_32 : decode cX11_attackerAt 32 = .ok (.aload_n 0, 1) := by decide +kernel
theorem dX11_attackerAt_33 : decode cX11_attackerAt 33 = .ok (.getfield 9, 3) := by decide +kernel
theorem dX11_attackerAt_36 : decode cX11_attackerAt 36 = .ok (.iconst 0, 1) := by decide +kernel
theorem dX11_attackerAt_37 : decode cX11_attackerAt 37 = .ok (.iaload, 1) := by decide +kernel
theorem dX11_attackerAt_38 : decode cX11_attackerAt 38 = .ok (.if_icmp .ge 60, 3) := by decide +kernel
theorem dX11_attackerAt_41 : decode cX11_attackerAt 41 = .ok (.iload_n 3, 1) := by decide +kernel
theorem dX11_attackerAt_42 : decode cX11_attackerAt 42 = .ok (.iload 5, 2) := by decide +kernel
theorem dX11_attackerAt_44 : decode cX11_attackerAt 44 = .ok (.ishr, 1) := by decide +kernel
theorem dX11_attackerAt_45 : decode cX11_attackerAt 45 = .ok (.iconst 1, 1) := by decide +kernel
theorem dX11_attackerAt_46 : decode cX11_attackerAt 46 = .ok (.iand, 1) := by decide +kernel
theorem dX11_attackerAt_47 : decode cX11_attackerAt 47 = .ok (.iconst 1, 1) := by decide +kernel
theorem dX11_attackerAt_48 : decode cX11_attackerAt 48 = .ok (.if_icmp .ne 7, 3) := by decide +kernel
theorem dX11_attackerAt_51 : decode cX11_attackerAt 51 = .ok (.iconst 1, 1) := by decide +kernel
theorem dX11_attackerAt_52 : decode cX11_attackerAt 52 = .ok (.goto 4, 3) := by decide +kernel
theorem dX11_attackerAt_55 : decode cX11_attackerAt 55 = .ok (.iconst 0, 1) := by decide +kernel
theorem dX11_attackerAt_56 : decode cX11_attackerAt 56 = .ok (.istore 6, 2) := by decide +kernel
theorem dX11_attackerAt_58 : decode cX11_attackerAt 58 = .ok (.iload 6, 2) := by decide +kernel
theorem dX11_attackerAt_60 : decode cX11_attackerAt 60 = .ok (.ifCond .eq 17, 3) := by decide +kernel
theorem dX11_attackerAt_63 : decode cX11_attackerAt 63 = .ok (.iload 4, 2) := by decide +kernel
theorem dX11_attackerAt_65 : decode cX11_attackerAt 65 = .ok (.iload_n 2, 1) := by decide +kernel
theorem dX11_attackerAt_66 : decode cX11_attackerAt 66 = .ok (.if_icmp .ne 11, 3) := by decide +kernel
theorem dX11_attackerAt_69 : decode cX11_attackerAt 69 = .ok (.aload_n 0, 1) := by decide +kernel
theorem dX11_attackerAt_70 : decode cX11_attackerAt 70 = .ok (.iload 5, 2) := by decide +kernel
theorem dX11_attackerAt_72 : decode cX11_attackerAt 72 = .ok (.iconst 0, 1) := by decide +kernel
theorem dX11_attackerAt_73 : decode cX11_attackerAt 73 = .ok (.invokevirtual 53, 3) := by decide +kernel
theorem dX11_attackerAt_76 : decode cX11_attackerAt 76 = .ok (.ireturn, 1) := by decide +kernel
theorem dX11_attackerAt_77 : decode cX11_attackerAt 77 = .ok (.iload 4, 2) := by decide +kernel
theorem dX11_attackerAt_79 : decode cX11_attackerAt 79 = .ok (.iload 6, 2) := by decide +kernel
theorem dX11_attackerAt_81 : decode cX11_attackerAt 81 = .ok (.ifCond .eq 7, 3) := by decide +kernel
theorem dX11_attackerAt_84 : decode cX11_attackerAt 84 = .ok (.iconst 1, 1) := by decide +kernel
theorem dX11_attackerAt_85 : decode cX11_attackerAt 85 = .ok (.goto 4, 3) := by decide +kernel
theorem dX11_attackerAt_88 : decode cX11_attackerAt 88 = .ok (.iconst 0, 1) := by decide +kernel
theorem dX11_attackerAt_89 : decode cX11_attackerAt 89 = .ok (.iadd, 1) := by decide +kernel
theorem dX11_attackerAt_90 : decode cX11_attackerAt 90 = .ok (.istore 4, 2) := by decide +kernel
theorem dX11_attackerAt_92 : decode cX11_attackerAt 92 = .ok (.iinc 5 1, 3) := by decide +kernel
theorem dX11_attackerAt_95 : decode cX11_attackerAt 95 = .ok (.goto (-65), 3) := by decide +kernel
theorem dX11_attackerAt_98 : decode cX11_attackerAt 98 = .ok (.aload_n 0, 1) := by decide +kernel
theorem dX11_attackerAt_99 : decode cX11_attackerAt 99 = .ok (.iconst 2, 1) := by decide +kernel
theorem dX11_attackerAt_100 : decode cX11_attackerAt 100 = .ok (.putfield 40, 3) := by decide +kernel
theorem dX11_attackerAt_103 : decode cX11_attackerAt 103 = .ok (.iconst 0, 1) := by decide +kernel
theorem dX11_attackerAt_104 : decode cX11_attackerAt 104 = .ok (.ireturn, 1) := by decide +kernel
theorem dX11_status_0 : decode cX11_status 0 = .ok (.aload_n 0, 1) := by decide +kernel
theorem dX11_status_1 : decode cX11_status 1 = .ok (.invokevirtual 191, 3) := by decide +kernel
theorem dX11_status_4 : decode cX11_status 4 = .ok (.aload_n 0, 1) := by decide +kernel
theorem dX11_status_5 : decode cX11_status 5 = .ok (.aload_n 0, 1) := by decide +kernel
theorem dX11_status_6 : decode cX11_status 6 = .ok (.iload_n 1, 1) := by decide +kernel
theorem dX11_status_7 : decode cX11_status 7 = .ok (.invokevirtual 141, 3) := by decide +kernel
theorem dX11_status_10 : decode cX11_status 10 = .ok (.invokevirtual 181, 3) := by decide +kernel
theorem dX11_status_13 : decode cX11_status 13 = .ok (.ifCond .eq 15, 3) := by decide +kernel
theorem dX11_status_16 : decode cX11_status 16 = .ok (.aload_n 0, 1) := by decide +kernel
theorem dX11_status_17 : decode cX11_status 17 = .ok (.aload_n 0, 1) := by decide +kernel
theorem dX11_status_18 : decode cX11_status 18 = .ok (.iload_n 1, 1) := by decide +kernel
theorem dX11_status_19 : decode cX11_status 19 = .ok (.invokevirtual 57, 3) := by decide +kernel
theorem dX11_status_22 : decode cX11_status 22 = .ok (.invokevirtual 194, 3) := by decide +kernel
theorem dX11_status_25 : decode cX11_status 25 = .ok (.goto 4, 3) := by decide +kernel
theorem dX11_status_28 : decode cX11_status 28 = .ok (.iconst 0, 1) := by decide +kernel
theorem dX11_status_29 : decode cX11_status 29 = .ok (.ireturn, 1) := by decide +kernel
theorem dX11_roundOf_0 : decode cX11_roundOf 0 = .ok (.aload_n 0, 1) := by decide +kernel
theorem dX11_roundOf_1 : decode cX11_roundOf 1 = .ok (.invokevirtual 191, 3) := by decide +kernel
theorem dX11_roundOf_4 : decode cX11_roundOf 4 = .ok (.aload_n 0, 1) := by decide +kernel
theorem dX11_roundOf_5 : decode cX11_roundOf 5 = .ok (.aload_n 0, 1) := by decide +kernel
theorem dX11_roundOf_6 : decode cX11_roundOf 6 = .ok (.iload_n 1, 1) := by decide +kernel
theorem dX11_roundOf_7 : decode cX11_roundOf 7 = .ok (.invokevirtual 141, 3) := by decide +kernel
theorem dX11_roundOf_10 : decode cX11_roundOf 10 = .ok (.ifCond .eq 21, 3) := by decide +kernel
theorem dX11_roundOf_13 : decode cX11_roundOf 13 = .ok (.aload_n 0, 1) := by decide +kernel
theorem dX11_roundOf_14 : decode cX11_roundOf 14 = .ok (.aload_n 0, 1) := by decide +kernel
theorem dX11_roundOf_15 : decode cX11_roundOf 15 = .ok (.iload_n 1, 1) := by decide +kernel
theorem dX11_roundOf_16 : decode cX11_roundOf 16 = .ok (.invokevirtual 57, 3) := by decide +kernel
theorem dX11_roundOf_19 : decode cX11_roundOf 19 = .ok (.invokevirtual 194, 3) := by decide +kernel
theorem dX11_roundOf_22 : decode cX11_roundOf 22 = .ok (.bipush 117, 2) := by decide +kernel
theorem dX11_roundOf_24 : decode cX11_roundOf 24 = .ok (.if_icmp .eq 7, 3) := by decide +kernel
theorem dX11_roundOf_27 : decode cX11_roundOf 27 = .ok (.iconst 1, 1) := by decide +kernel
theorem dX11_roundOf_28 : decode cX11_roundOf 28 = .ok (.goto 4, 3) := by decide +kernel
theorem dX11_roundOf_31 : decode cX11_roundOf 31 = .ok (.iconst 0, 1) := by decide +kernel
theorem dX11_roundOf_32 : decode cX11_roundOf 32 = .ok (.invokevirtual 181, 3) := by decide +kernel
theorem dX11_roundOf_35 : decode cX11_roundOf 35 = .ok (.ifCond .eq 16, 3) := by decide +kernel
theorem dX11_roundOf_38 : decode cX11_roundOf 38 = .ok (.aload_n 0, 1) := by decide +kernel
theorem dX11_roundOf_39 : decode cX11_roundOf 39 = .ok (.getfield 13, 3) := by decide +kernel
theorem dX11_roundOf_42 : decode cX11_roundOf 42 = .ok (.aload_n 0, 1) := by decide +kernel
theorem dX11_roundOf_43 : decode cX11_roundOf 43 = .ok (.iload_n 1, 1) := by decide +kernel
theorem dX11_roundOf_44 : decode cX11_roundOf 44 = .ok (.invokevirtual 57, 3) := by decide +kernel
theorem dX11_roundOf_47 : decode cX11_roundOf 47 = .ok (.iaload, 1) := by decide +kernel
theorem dX11_roundOf_48 : decode cX11_roundOf 48 = .ok (.goto 4, 3) := by decide +kernel
theorem dX11_roundOf_51 : decode cX11_roundOf 51 = .ok (.iconst 0, 1) := by decide +kernel
theorem dX11_roundOf_52 : decode cX11_roundOf 52 = .ok (.ireturn, 1) := by decide +kernel
theorem dX11_isAcceptedByGame_0 : decode cX11_isAcceptedByGame 0 = .ok (.aload_n 0, 1) := by decide +kernel
theorem dX11_isAcceptedByGame_1 : decode cX11_isAcceptedByGame 1 = .ok (.iload_n 1, 1) := by decide +kernel
theorem dX11_isAcceptedByGame_2 : decode cX11_isAcceptedByGame 2 = .ok (.invokevirtual 198, 3) := by decide +kernel
theorem dX11_isAcceptedByGame_5 : decode cX11_isAcceptedByGame 5 = .ok (.bipush 97, 2) := by decide +kernel
theorem dX11_isAcceptedByGame_7 : decode cX11_isAcceptedByGame 7 = .ok (.if_icmp .ne 7, 3) := by decide +kernel
theorem dX11_isAcceptedByGame_10 : decode cX11_isAcceptedByGame 10 = .ok (.iconst 1, 1) := by decide +kernel
theorem dX11_isAcceptedByGame_11 : decode cX11_isAcceptedByGame 11 = .ok (.goto 4, 3) := by decide +kernel
theorem dX11_isAcceptedByGame_14 : decode cX11_isAcceptedByGame 14 = .ok (.iconst 0, 1) := by decide +kernel
theorem dX11_isAcceptedByGame_15 : decode cX11_isAcceptedByGame 15 = .ok (.ireturn, 1) := by decide +kernel
theorem dX11_canOpponentWin_0 : decode cX11_canOpponentWin 0 = .ok (.aload_n 0, 1) := by decide +kernel
theorem dX11_canOpponentWin_1 : decode cX11_canOpponentWin 1 = .ok (.iload_n 1, 1) := by decide +kernel
theorem dX11_canOpponentWin_2 : decode cX11_canOpponentWin 2 = .ok (.invokevirtual 201, 3) := by decide +kernel
theorem dX11_canOpponentWin_5 : decode cX11_canOpponentWin 5 = .ok (.istore_n 2, 1) := by decide +kernel
theorem dX11_canOpponentWin_6 : decode cX11_canOpponentWin 6 = .ok (.aload_n 0, 1) := by decide +kernel
theorem dX11_canOpponentWin_7 : decode cX11_canOpponentWin 7 = .ok (.getfield 40, 3) := by decide +kernel
theorem dX11_canOpponentWin_10 : decode cX11_canOpponentWin 10 = .ok (.ifCond .ne 11, 3) := by decide +kernel
theorem dX11_canOpponentWin_13 : decode cX11_canOpponentWin 13 = .ok (.iload_n 2, 1) := by decide +kernel
theorem dX11_canOpponentWin_14 : decode cX11_canOpponentWin 14 = .ok (.ifCond .ne 7, 3) := by decide +kernel
theorem dX11_canOpponentWin_17 : decode cX11_canOpponentWin 17 = .ok (.iconst 1, 1) := by decide +kernel
theorem dX11_canOpponentWin_18 : decode cX11_canOpponentWin 18 = .ok (.goto 4, 3) := by decide +kernel
theorem dX11_canOpponentWin_21 : decode cX11_canOpponentWin 21 = .ok (.iconst 0, 1) := by decide +kernel
theorem dX11_canOpponentWin_22 : decode cX11_canOpponentWin 22 = .ok (.ireturn, 1) := by decide +kernel
theorem dX11_acceptedCount_0 : decode cX11_acceptedCount 0 = .ok (.aload_n 0, 1) := by decide +kernel
theorem dX11_acceptedCount_1 : decode cX11_acceptedCount 1 = .ok (.iconst 0, 1) := by decide +kernel
theorem dX11_acceptedCount_2 : decode cX11_acceptedCount 2 = .ok (.putfield 40, 3) := by decide +kernel
theorem dX11_acceptedCount_5 : decode cX11_acceptedCount 5 = .ok (.aload_n 0, 1) := by decide +kernel
theorem dX11_acceptedCount_6 : decode cX11_acceptedCount 6 = .ok (.invokevirtual 191, 3) := by decide +kernel
theorem dX11_acceptedCount_9 : decode cX11_acceptedCount 9 = .ok (.aload_n 0, 1) := by decide +kernel
theorem dX11_acceptedCount_10 : decode cX11_acceptedCount 10 = .ok (.getfield 74, 3) := by decide +kernel
theorem dX11_acceptedCount_13 : decode cX11_acceptedCount 13 = .ok (.invokestatic 68, 3) := by decide +kernel
theorem dX11_acceptedCount_16 : decode cX11_acceptedCount 16 = .ok (.ireturn, 1) := by decide +kernel
theorem dX11_undecidedCount_0 : decode cX11_undecidedCount 0 = .ok (.aload_n 0, 1) := by decide +kernel
theorem dX11_undecidedCount_1 : decode cX11_undecidedCount 1 = .ok (.iconst 0, 1) := by decide +kernel
theorem dX11_undecidedCount_2 : decode cX11_undecidedCount 2 = .ok (.putfield 40, 3) := by decide +kernel
theorem dX11_undecidedCount_5 : decode cX11_undecidedCount 5 = .ok (.aload_n 0, 1) := by decide +kernel
theorem dX11_undecidedCount_6 : decode cX11_undecidedCount 6 = .ok (.invokevirtual 191, 3) := by decide +kernel
theorem dX11_undecidedCount_9 : decode cX11_undecidedCount 9 = .ok (.aload_n 0, 1) := by decide +kernel
theorem dX11_undecidedCount_10 : decode cX11_undecidedCount 10 = .ok (.getfield 9, 3) := by decide +kernel
theorem dX11_undecidedCount_13 : decode cX11_undecidedCount 13 = .ok (.iconst 0, 1) := by decide +kernel
theorem dX11_undecidedCount_14 : decode cX11_undecidedCount 14 = .ok (.iaload, 1) := by decide +kernel
theorem dX11_undecidedCount_15 : decode cX11_undecidedCount 15 = .ok (.aload_n 0, 1) := by decide +kernel
theorem dX11_undecidedCount_16 : decode cX11_undecidedCount 16 = .ok (.getfield 74, 3) := by decide +kernel
theorem dX11_undecidedCount_19 : decode cX11_undecidedCount 19 = .ok (.aload_n 0, 1) := by decide +kernel
theorem dX11_undecidedCount_20 : decode cX11_undecidedCount 20 = .ok (.getfield 77, 3) := by decide +kernel
theorem dX11_undecidedCount_23 : decode cX11_undecidedCount 23 = .ok (.ior, 1) := by decide +kernel
theorem dX11_undecidedCount_24 : decode cX11_undecidedCount 24 = .ok (.invokestatic 68, 3) := by decide +kernel
theorem dX11_undecidedCount_27 : decode cX11_undecidedCount 27 = .ok (.isub, 1) := by decide +kernel
theorem dX11_undecidedCount_28 : decode cX11_undecidedCount 28 = .ok (.ireturn, 1) := by decide +kernel
theorem dX11_stableCount_0 : decode cX11_stableCount 0 = .ok (.aload_n 0, 1) := by decide +kernel
theorem dX11_stableCount_1 : decode cX11_stableCount 1 = .ok (.iconst 0, 1) := by decide +kernel
theorem dX11_stableCount_2 : decode cX11_stableCount 2 = .ok (.putfield 40, 3) := by decide +kernel
theorem dX11_stableCount_5 : decode cX11_stableCount 5 = .ok (.iconst 0, 1) := by decide +kernel
theorem dX11_stableCount_6 : decode cX11_stableCount 6 = .ok (.istore_n 1, 1) := by decide +kernel
theorem dX11_stableCount_7 : decode cX11_stableCount 7 = .ok (.iconst 0, 1) := by decide +kernel
theorem dX11_stableCount_8 : decode cX11_stableCount 8 = .ok (.istore_n 2, 1) := by decide +kernel
theorem dX11_stableCount_9 : decode cX11_stableCount 9 = .ok (.iload_n 2, 1) := by decide +kernel
theorem dX11_stableCount_10 : decode cX11_stableCount 10 = .ok (.aload_n 0, 1) := by decide +kernel
theorem dX11_stableCount_11 : decode cX11_stableCount 11 = .ok (.invokevirtual 96, 3) := by decide +kernel
theorem dX11_stableCount_14 : decode cX11_stableCount 14 = .ok (.if_icmp .ge 41, 3) := by decide +kernel
theorem dX11_stableCount_17 : decode cX11_stableCount 17 = .ok (.iload_n 1, 1) := by decide +kernel
theorem dX11_stableCount_18 : decode cX11_stableCount 18 = .ok (.aload_n 0, 1) := by decide +kernel
theorem dX11_stableCount_19 : decode cX11_stableCount 19 = .ok (.iload_n 2, 1) := by decide +kernel
theorem dX11_stableCount_20 : decode cX11_stableCount 20 = .ok (.invokevirtual 90, 3) := by decide +kernel
theorem dX11_stableCount_23 : decode cX11_stableCount 23 = .ok (.ifCond .eq 23, 3) := by decide +kernel
theorem dX11_stableCount_26 : decode cX11_stableCount 26 = .ok (.iload_n 2, 1) := by decide +kernel
theorem dX11_stableCount_27 : decode cX11_stableCount 27 = .ok (.aload_n 0, 1) := by decide +kernel
theorem dX11_stableCount_28 : decode cX11_stableCount 28 = .ok (.iload_n 2, 1) := by decide +kernel
theorem dX11_stableCount_29 : decode cX11_stableCount 29 = .ok (.invokevirtual 93, 3) := by decide +kernel
theorem dX11_stableCount_32 : decode cX11_stableCount 32 = .ok (.ior, 1) := by decide +kernel
theorem dX11_stableCount_33 : decode cX11_stableCount 33 = .ok (.aload_n 0, 1) := by decide +kernel
theorem dX11_stableCount_34 : decode cX11_stableCount 34 = .ok (.invokevirtual 96, 3) := by decide +kernel
theorem dX11_stableCount_37 : decode cX11_stableCount 37 = .ok (.iconst 1, 1) := by decide +kernel
theorem dX11_stableCount_38 : decode cX11_stableCount 38 = .ok (.isub, 1) := by decide +kernel
theorem dX11_stableCount_39 : decode cX11_stableCount 39 = .ok (.if_icmp .ne 7, 3) := by decide +kernel
theorem dX11_stableCount_42 : decode cX11_stableCount 42 = .ok (.iconst 1, 1) := by decide +kernel
theorem dX11_stableCount_43 : decode cX11_stableCount 43 = .ok (.goto 4, 3) := by decide +kernel
theorem dX11_stableCount_46 : decode cX11_stableCount 46 = .ok (.iconst 0, 1) := by decide +kernel
theorem dX11_stableCount_47 : decode cX11_stableCount 47 = .ok (.iadd, 1) := by decide +kernel
theorem dX11_stableCount_48 : decode cX11_stableCount 48 = .ok (.istore_n 1, 1) := by decide +kernel
theorem dX11_stableCount_49 : decode cX11_stableCount 49 = .ok (.iinc 2 1, 3) := by decide +kernel
theorem dX11_stableCount_52 : decode cX11_stableCount 52 = .ok (.goto (-43), 3) := by decide +kernel
theorem dX11_stableCount_55 : decode cX11_stableCount 55 = .ok (.iload_n 1, 1) := by decide +kernel
theorem dX11_stableCount_56 : decode cX11_stableCount 56 = .ok (.ireturn, 1) := by decide +kernel
theorem dX11_stableCountByLabels_0 : decode cX11_stableCountByLabels 0 = .ok (.aload_n 0, 1) := by decide +kernel
theorem dX11_stableCountByLabels_1 : decode cX11_stableCountByLabels 1 = .ok (.invokevirtual 204, 3) := by decide +kernel
theorem dX11_stableCountByLabels_4 : decode cX11_stableCountByLabels 4 = .ok (.ireturn, 1) := by decide +kernel
theorem dX11_preferredCount_0 : decode cX11_preferredCount 0 = .ok (.aload_n 0, 1) := by decide +kernel
theorem dX11_preferredCount_1 : decode cX11_preferredCount 1 = .ok (.iconst 0, 1) := by decide +kernel
theorem dX11_preferredCount_2 : decode cX11_preferredCount 2 = .ok (.putfield 40, 3) := by decide +kernel
theorem dX11_preferredCount_5 : decode cX11_preferredCount 5 = .ok (.aload_n 0, 1) := by decide +kernel
theorem dX11_preferredCount_6 : decode cX11_preferredCount 6 = .ok (.iconst 0, 1) := by decide +kernel
theorem dX11_preferredCount_7 : decode cX11_preferredCount 7 = .ok (.invokevirtual 207, 3) := by decide +kernel
theorem dX11_preferredCount_10 : decode cX11_preferredCount 10 = .ok (.ireturn, 1) := by decide +kernel
theorem dX11_greatestAdmissible_0 : decode cX11_greatestAdmissible 0 = .ok (.aload_n 0, 1) := by decide +kernel
theorem dX11_greatestAdmissible_1 : decode cX11_greatestAdmissible 1 = .ok (.iconst 0, 1) := by decide +kernel
theorem dX11_greatestAdmissible_2 : decode cX11_greatestAdmissible 2 = .ok (.putfield 40, 3) := by decide +kernel
theorem dX11_greatestAdmissible_5 : decode cX11_greatestAdmissible 5 = .ok (.iconst 0, 1) := by decide +kernel
theorem dX11_greatestAdmissible_6 : decode cX11_greatestAdmissible 6 = .ok (.istore_n 1, 1) := by decide +kernel
theorem dX11_greatestAdmissible_7 : decode cX11_greatestAdmissible 7 = .ok (.iconst 0, 1) := by decide +kernel
theorem dX11_greatestAdmissible_8 : decode cX11_greatestAdmissible 8 = .ok (.istore_n 2, 1) := by decide +kernel
theorem dX11_greatestAdmissible_9 : decode cX11_greatestAdmissible 9 = .ok (.iload_n 2, 1) := by decide +kernel
theorem dX11_greatestAdmissible_10 : decode cX11_greatestAdmissible 10 = .ok (.aload_n 0, 1) := by decide +kernel
theorem dX11_greatestAdmissible_11 : decode cX11_greatestAdmissible 11 = .ok (.invokevirtual 96, 3) := by decide +kernel
theorem dX11_greatestAdmissible_14 : decode cX11_greatestAdmissible 14 = .ok (.if_icmp .ge 34, 3) := by decide +kernel
theorem dX11_greatestAdmissible_17 : decode cX11_greatestAdmissible 17 = .ok (.iload_n 2, 1) := by decide +kernel
theorem dX11_greatestAdmissible_18 : decode cX11_greatestAdmissible 18 = .ok (.invokestatic 68, 3) := by decide +kernel
theorem dX11_greatestAdmissible_21 : decode cX11_greatestAdmissible 21 = .ok (.iload_n 1, 1) := by decide +kernel
theorem dX11_greatestAdmissible_22 : decode cX11_greatestAdmissible 22 = .ok (.if_icmp .le 18, 3) := by decide +kernel
theorem dX11_greatestAdmissible_25 : decode cX11_greatestAdmissible 25 = .ok (.aload_n 0, 1) := by decide +kernel
theorem dX11_greatestAdmissible_26 : decode cX11_greatestAdmissible 26 = .ok (.iload_n 2, 1) := by decide +kernel
theorem dX11_greatestAdmissible_27 : decode cX11_greatestAdmissible 27 = .ok (.invokevirtual 100, 3) := by decide +kernel
theorem dX11_greatestAdmissible_30 : decode cX11_greatestAdmissible 30 = .ok (.ifCond .eq 10, 3) := by decide +kernel
theorem dX11_greatestAdmissible_33 : decode cX11_greatestAdmissible 33 = .ok (.iload_n 2, 1) := by decide +kernel
theorem dX11_greatestAdmissible_34 : decode cX11_greatestAdmissible 34 = .ok (.invokestatic 68, 3) := by decide +kernel
theorem dX11_greatestAdmissible_37 : decode cX11_greatestAdmissible 37 = .ok (.goto 4, 3) := by decide +kernel
theorem dX11_greatestAdmissible_40 : decode cX11_greatestAdmissible 40 = .ok (.iload_n 1, 1) := by decide +kernel
theorem dX11_greatestAdmissible_41 : decode cX11_greatestAdmissible 41 = .ok (.istore_n 1, 1) := by decide +kernel
theorem dX11_greatestAdmissible_42 : decode cX11_greatestAdmissible 42 = .ok (.iinc 2 1, 3) := by decide +kernel
theorem dX11_greatestAdmissible_45 : decode cX11_greatestAdmissible 45 = .ok (.goto (-36), 3) := by decide +kernel
theorem dX11_greatestAdmissible_48 : decode cX11_greatestAdmissible 48 = .ok (.iload_n 1, 1) := by decide +kernel
theorem dX11_greatestAdmissible_49 : decode cX11_greatestAdmissible 49 = .ok (.ireturn, 1) := by decide +kernel
theorem dX11_isCredible_0 : decode cX11_isCredible 0 = .ok (.aload_n 0, 1) := by decide +kernel
theorem dX11_isCredible_1 : decode cX11_isCredible 1 = .ok (.aload_n 0, 1) := by decide +kernel
theorem dX11_isCredible_2 : decode cX11_isCredible 2 = .ok (.iload_n 1, 1) := by decide +kernel
theorem dX11_isCredible_3 : decode cX11_isCredible 3 = .ok (.invokevirtual 141, 3) := by decide +kernel
theorem dX11_isCredible_6 : decode cX11_isCredible 6 = .ok (.invokevirtual 181, 3) := by decide +kernel
theorem dX11_isCredible_9 : decode cX11_isCredible 9 = .ok (.ifCond .eq 21, 3) := by decide +kernel
theorem dX11_isCredible_12 : decode cX11_isCredible 12 = .ok (.aload_n 0, 1) := by decide +kernel
theorem dX11_isCredible_13 : decode cX11_isCredible 13 = .ok (.iconst 1, 1) := by decide +kernel
theorem dX11_isCredible_14 : decode cX11_isCredible 14 = .ok (.aload_n 0, 1) := by decide +kernel
theorem dX11_isCredible_15 : decode cX11_isCredible 15 = .ok (.iload_n 1, 1) := by decide +kernel
theorem dX11_isCredible_16 : decode cX11_isCredible 16 = .ok (.invokevirtual 57, 3) := by decide +kernel
theorem dX11_isCredible_19 : decode cX11_isCredible 19 = .ok (.ishl, 1) := by decide +kernel
theorem dX11_isCredible_20 : decode cX11_isCredible 20 = .ok (.invokevirtual 207, 3) := by decide +kernel
theorem dX11_isCredible_23 : decode cX11_isCredible 23 = .ok (.ifCond .le 7, 3) := by decide +kernel
theorem dX11_isCredible_26 : decode cX11_isCredible 26 = .ok (.iconst 1, 1) := by decide +kernel
theorem dX11_isCredible_27 : decode cX11_isCredible 27 = .ok (.goto 4, 3) := by decide +kernel
theorem dX11_isCredible_30 : decode cX11_isCredible 30 = .ok (.iconst 0, 1) := by decide +kernel
theorem dX11_isCredible_31 : decode cX11_isCredible 31 = .ok (.ireturn, 1) := by decide +kernel
theorem dX11_isCertain_0 : decode cX11_isCertain 0 = .ok (.aload_n 0, 1) := by decide +kernel
theorem dX11_isCertain_1 : decode cX11_isCertain 1 = .ok (.aload_n 0, 1) := by decide +kernel
theorem dX11_isCertain_2 : decode cX11_isCertain 2 = .ok (.iload_n 1, 1) := by decide +kernel
theorem dX11_isCertain_3 : decode cX11_isCertain 3 = .ok (.invokevirtual 141, 3) := by decide +kernel
theorem dX11_isCertain_6 : decode cX11_isCertain 6 = .ok (.invokevirtual 181, 3) := by decide +kernel
theorem dX11_isCertain_9 : decode cX11_isCertain 9 = .ok (.ifCond .eq 26, 3) := by decide +kernel
theorem dX11_isCertain_12 : decode cX11_isCertain 12 = .ok (.aload_n 0, 1) := by decide +kernel
theorem dX11_isCertain_13 : decode cX11_isCertain 13 = .ok (.iconst 1, 1) := by decide +kernel
theorem dX11_isCertain_14 : decode cX11_isCertain 14 = .ok (.aload_n 0, 1) := by decide +kernel
theorem dX11_isCertain_15 : decode cX11_isCertain 15 = .ok (.iload_n 1, 1) := by decide +kernel
theorem dX11_isCertain_16 : decode cX11_isCertain 16 = .ok (.invokevirtual 57, 3) := by decide +kernel
theorem dX11_isCertain_19 : decode cX11_isCertain 19 = .ok (.ishl, 1) := by decide +kernel
theorem dX11_isCertain_20 : decode cX11_isCertain 20 = .ok (.invokevirtual 207, 3) := by decide +kernel
theorem dX11_isCertain_23 : decode cX11_isCertain 23 = .ok (.aload_n 0, 1) := by decide +kernel
theorem dX11_isCertain_24 : decode cX11_isCertain 24 = .ok (.iconst 0, 1) := by decide +kernel
theorem dX11_isCertain_25 : decode cX11_isCertain 25 = .ok (.invokevirtual 207, 3) := by decide +kernel
theorem dX11_isCertain_28 : decode cX11_isCertain 28 = .ok (.if_icmp .ne 7, 3) := by decide +kernel
theorem dX11_isCertain_31 : decode cX11_isCertain 31 = .ok (.iconst 1, 1) := by decide +kernel
theorem dX11_isCertain_32 : decode cX11_isCertain 32 = .ok (.goto 4, 3) := by decide +kernel
theorem dX11_isCertain_35 : decode cX11_isCertain 35 = .ok (.iconst 0, 1) := by decide +kernel
theorem dX11_isCertain_36 : decode cX11_isCertain 36 = .ok (.ireturn, 1) := by decide +kernel
theorem dX11_canStandTogether_0 : decode cX11_canStandTogether 0 = .ok (.aload_n 0, 1) := by decide +kernel
theorem dX11_canStandTogether_1 : decode cX11_canStandTogether 1 = .ok (.iload_n 1, 1) := by decide +kernel
theorem dX11_canStandTogether_2 : decode cX11_canStandTogether 2 = .ok (.iload_n 2, 1) := by decide +kernel
theorem dX11_canStandTogether_3 : decode cX11_canStandTogether 3 = .ok (.invokevirtual 188, 3) := by decide +kernel
theorem dX11_canStandTogether_6 : decode cX11_canStandTogether 6 = .ok (.ifCond .eq 29, 3) := by decide +kernel
theorem dX11_canStandTogether_9 : decode cX11_canStandTogether 9 = .ok (.aload_n 0, 1) := by decide +kernel
theorem dX11_canStandTogether_10 : decode cX11_canStandTogether 10 = .ok (.iconst 1, 1) := by decide +kernel
theorem dX11_canStandTogether_11 : decode cX11_canStandTogether 11 = .ok (.aload_n 0, 1) := by decide +kernel
theorem dX11_canStandTogether_12 : decode cX11_canStandTogether 12 = .ok (.iload_n 1, 1) := by decide +kernel
theorem dX11_canStandTogether_13 : decode cX11_canStandTogether 13 = .ok (.invokevirtual 57, 3) := by decide +kernel
theorem dX11_canStandTogether_16 : decode cX11_canStandTogether 16 = .ok (.ishl, 1) := by decide +kernel
theorem dX11_canStandTogether_17 : decode cX11_canStandTogether 17 = .ok (.iconst 1, 1) := by decide +kernel
theorem dX11_canStandTogether_18 : decode cX11_canStandTogether 18 = .ok (.aload_n 0, 1) := by decide +kernel
theorem dX11_canStandTogether_19 : decode cX11_canStandTogether 19 = .ok (.iload_n 2, 1) := by decide +kernel
theorem dX11_canStandTogether_20 : decode cX11_canStandTogether 20 = .ok (.invokevirtual 57, 3) := by decide +kernel
theorem dX11_canStandTogether_23 : decode cX11_canStandTogether 23 = .ok (.ishl, 1) := by decide +kernel
theorem dX11_canStandTogether_24 : decode cX11_canStandTogether 24 = .ok (.ior, 1) := by decide +kernel
theorem dX11_canStandTogether_25 : decode cX11_canStandTogether 25 = .ok (.invokevirtual 207, 3) := by decide +kernel
theorem dX11_canStandTogether_28 : decode cX11_canStandTogether 28 = .ok (.ifCond .le 7, 3) := by decide +kernel
theorem dX11_canStandTogether_31 : decode cX11_canStandTogether 31 = .ok (.iconst 1, 1) := by decide +kernel
theorem dX11_canStandTogether_32 : decode cX11_canStandTogether 32 = .ok (.goto 4, 3) := by decide +kernel
theorem dX11_canStandTogether_35 : decode cX11_canStandTogether 35 = .ok (.iconst 0, 1) := by decide +kernel
theorem dX11_canStandTogether_36 : decode cX11_canStandTogether 36 = .ok (.ireturn, 1) := by decide +kernel
theorem dX11_hasCycle_0 : decode cX11_hasCycle 0 = .ok (.aload_n 0, 1) := by decide +kernel
theorem dX11_hasCycle_1 : decode cX11_hasCycle 1 = .ok (.iconst 0, 1) := by decide +kernel
theorem dX11_hasCycle_2 : decode cX11_hasCycle 2 = .ok (.putfield 40, 3) := by decide +kernel
theorem dX11_hasCycle_5 : decode cX11_hasCycle 5 = .ok (.aload_n 0, 1) := by decide +kernel
theorem dX11_hasCycle_6 : decode cX11_hasCycle 6 = .ok (.invokevirtual 96, 3) := by decide +kernel
theorem dX11_hasCycle_9 : decode cX11_hasCycle 9 = .ok (.iconst 1, 1) := by decide +kernel
theorem dX11_hasCycle_10 : decode cX11_hasCycle 10 = .ok (.isub, 1) := by decide +kernel
theorem dX11_hasCycle_11 : decode cX11_hasCycle 11 = .ok (.istore_n 1, 1) := by decide +kernel
theorem dX11_hasCycle_12 : decode cX11_hasCycle 12 = .ok (.iconst 1, 1) := by decide +kernel
theorem dX11_hasCycle_13 : decode cX11_hasCycle 13 = .ok (.istore_n 2, 1) := by decide +kernel
theorem dX11_hasCycle_14 : decode cX11_hasCycle 14 = .ok (.iload_n 2, 1) := by decide +kernel
theorem dX11_hasCycle_15 : decode cX11_hasCycle 15 = .ok (.ifCond .eq 57, 3) := by decide +kernel
theorem dX11_hasCycle_18 : decode cX11_hasCycle 18 = .ok (.iconst 0, 1) := by decide +kernel
theorem dX11_hasCycle_19 : decode cX11_hasCycle 19 = .ok (.istore_n 2, 1) := by decide +kernel
theorem dX11_hasCycle_20 : decode cX11_hasCycle 20 = .ok (.iconst 0, 1) := by decide +kernel
theorem dX11_hasCycle_21 : decode cX11_hasCycle 21 = .ok (.istore_n 3, 1) := by decide +kernel
theorem dX11_hasCycle_22 : decode cX11_hasCycle 22 = .ok (.iload_n 3, 1) := by decide +kernel
theorem dX11_hasCycle_23 : decode cX11_hasCycle 23 = .ok (.aload_n 0, 1) := by decide +kernel
theorem dX11_hasCycle_24 : decode cX11_hasCycle 24 = .ok (.getfield 9, 3) := by decide +kernel
theorem dX11_hasCycle_27 : decode cX11_hasCycle 27 = .ok (.iconst 0, 1) := by decide +kernel
theorem dX11_hasCycle_28 : decode cX11_hasCycle 28 = .ok (.iaload, 1) := by decide +kernel
theorem dX11_hasCycle_29 : decode cX11_hasCycle 29 = .ok (.if_icmp .ge 40, 3) := by decide +kernel
theorem dX11_hasCycle_32 : decode cX11_hasCycle 32 = .ok (.iload_n 1, 1) := by decide +kernel
theorem dX11_hasCycle_33 : decode cX11_hasCycle 33 = .ok (.iload_n 3, 1) := by decide +kernel
theorem dX11_hasCycle_34 : decode cX11_hasCycle 34 = .ok (.ishr, 1) := by decide +kernel
theorem dX11_hasCycle_35 : decode cX11_hasCycle 35 = .ok (.iconst 1, 1) := by decide +kernel
theorem dX11_hasCycle_36 : decode cX11_hasCycle 36 = .ok (.iand, 1) := by decide +kernel
theorem dX11_hasCycle_37 : decode cX11_hasCycle 37 = .ok (.ifCond .eq 26, 3) := by decide +kernel
theorem dX11_hasCycle_40 : decode cX11_hasCycle 40 = .ok (.aload_n 0, 1) := by decide +kernel
theorem dX11_hasCycle_41 : decode cX11_hasCycle 41 = .ok (.iload_n 3, 1) := by decide +kernel
theorem dX11_hasCycle_42 : decode cX11_hasCycle 42 = .ok (.invokevirtual 80, 3) := by decide +kernel
theorem dX11_hasCycle_45 : decode cX11_hasCycle 45 = .ok (.iload_n 1, 1) := by decide +kernel
theorem dX11_hasCycle_46 : decode cX11_hasCycle 46 = .ok (.iand, 1) := by decide +kernel
theorem dX11_hasCycle_47 : decode cX11_hasCycle 47 = .ok (.ifCond .eq 6, 3) := by decide +kernel
theorem dX11_hasCycle_50 : decode cX11_hasCycle 50 = .ok (.goto 13, 3) := by decide +kernel
theorem dX11_hasCycle_53 : decode cX11_hasCycle 53 = .ok (.iload_n 1, 1) := by decide +kernel
theorem dX11_hasCycle_54 : decode cX11_hasCycle 54 = .ok (.iconst 1, 1) := by decide +kernel
theorem dX11_hasCycle_55 : decode cX11_hasCycle 55 = .ok (.iload_n 3, 1) := by decide +kernel
theorem dX11_hasCycle_56 : decode cX11_hasCycle 56 = .ok (.ishl, 1) := by decide +kernel
theorem dX11_hasCycle_57 : decode cX11_hasCycle 57 = .ok (.iconst (-1), 1) := by decide +kernel
theorem dX11_hasCycle_58 : decode cX11_hasCycle 58 = .ok (.ixor, 1) := by decide +kernel
theorem dX11_hasCycle_59 : decode cX11_hasCycle 59 = .ok (.iand, 1) := by decide +kernel
theorem dX11_hasCycle_60 : decode cX11_hasCycle 60 = .ok (.istore_n 1, 1) := by decide +kernel
theorem dX11_hasCycle_61 : decode cX11_hasCycle 61 = .ok (.iconst 1, 1) := by decide +kernel
theorem dX11_hasCycle_62 : decode cX11_hasCycle 62 = .ok (.istore_n 2, 1) := by decide +kernel
theorem dX11_hasCycle_63 : decode cX11_hasCycle 63 = .ok (.iinc 3 1, 3) := by decide +kernel
theorem dX11_hasCycle_66 : decode cX11_hasCycle 66 = .ok (.goto (-44), 3) := by decide +kernel
theorem dX11_hasCycle_69 : decode cX11_hasCycle 69 = .ok (.goto (-55), 3) := by decide +kernel
theorem dX11_hasCycle_72 : decode cX11_hasCycle 72 = .ok (.iload_n 1, 1) := by decide +kernel
theorem dX11_hasCycle_73 : decode cX11_hasCycle 73 = .ok (.ifCond .eq 7, 3) := by decide +kernel
theorem dX11_hasCycle_76 : decode cX11_hasCycle 76 = .ok (.iconst 1, 1) := by decide +kernel
theorem dX11_hasCycle_77 : decode cX11_hasCycle 77 = .ok (.goto 4, 3) := by decide +kernel
theorem dX11_hasCycle_80 : decode cX11_hasCycle 80 = .ok (.iconst 0, 1) := by decide +kernel
theorem dX11_hasCycle_81 : decode cX11_hasCycle 81 = .ok (.ireturn, 1) := by decide +kernel
theorem dX11_hasCycleBySearch_0 : decode cX11_hasCycleBySearch 0 = .ok (.aload_n 0, 1) := by decide +kernel
theorem dX11_hasCycleBySearch_1 : decode cX11_hasCycleBySearch 1 = .ok (.invokevirtual 210, 3) := by decide +kernel
theorem dX11_hasCycleBySearch_4 : decode cX11_hasCycleBySearch 4 = .ok (.ireturn, 1) := by decide +kernel
theorem dX11_labelsAfter_0 : decode cX11_labelsAfter 0 = .ok (.aload_n 0, 1) := by decide +kernel
theorem dX11_labelsAfter_1 : decode cX11_labelsAfter 1 = .ok (.iconst 0, 1) := by decide +kernel
theorem dX11_labelsAfter_2 : decode cX11_labelsAfter 2 = .ok (.bipush 11, 2) := by decide +kernel
theorem dX11_labelsAfter_4 : decode cX11_labelsAfter 4 = .ok (.invokevirtual 43, 3) := by decide +kernel
theorem dX11_labelsAfter_7 : decode cX11_labelsAfter 7 = .ok (.aload_n 0, 1) := by decide +kernel
theorem dX11_labelsAfter_8 : decode cX11_labelsAfter 8 = .ok (.iload_n 1, 1) := by decide +kernel
theorem dX11_labelsAfter_9 : decode cX11_labelsAfter 9 = .ok (.invokevirtual 171, 3) := by decide +kernel
theorem dX11_labelsAfter_12 : decode cX11_labelsAfter 12 = .ok (.aload_n 0, 1) := by decide +kernel
theorem dX11_labelsAfter_13 : decode cX11_labelsAfter 13 = .ok (.invokevirtual 191, 3) := by decide +kernel
theorem dX11_labelsAfter_16 : decode cX11_labelsAfter 16 = .ok (.aload_n 0, 1) := by decide +kernel
theorem dX11_labelsAfter_17 : decode cX11_labelsAfter 17 = .ok (.bipush 11, 2) := by decide +kernel
theorem dX11_labelsAfter_19 : decode cX11_labelsAfter 19 = .ok (.iconst 0, 1) := by decide +kernel
theorem dX11_labelsAfter_20 : decode cX11_labelsAfter 20 = .ok (.invokevirtual 43, 3) := by decide +kernel
theorem dX11_labelsAfter_23 : decode cX11_labelsAfter 23 = .ok (.aload_n 0, 1) := by decide +kernel
theorem dX11_labelsAfter_24 : decode cX11_labelsAfter 24 = .ok (.getfield 74, 3) := by decide +kernel
theorem dX11_labelsAfter_27 : decode cX11_labelsAfter 27 = .ok (.aload_n 0, 1) := by decide +kernel
theorem dX11_labelsAfter_28 : decode cX11_labelsAfter 28 = .ok (.getfield 77, 3) := by decide +kernel
theorem dX11_labelsAfter_31 : decode cX11_labelsAfter 31 = .ok (.bipush 8, 2) := by decide +kernel
theorem dX11_labelsAfter_33 : decode cX11_labelsAfter 33 = .ok (.ishl, 1) := by decide +kernel
theorem dX11_labelsAfter_34 : decode cX11_labelsAfter 34 = .ok (.ior, 1) := by decide +kernel
theorem dX11_labelsAfter_35 : decode cX11_labelsAfter 35 = .ok (.ireturn, 1) := by decide +kernel
theorem dX11_daysUntilChange_0 : decode cX11_daysUntilChange 0 = .ok (.aload_n 0, 1) := by decide +kernel
theorem dX11_daysUntilChange_1 : decode cX11_daysUntilChange 1 = .ok (.iconst 0, 1) := by decide +kernel
theorem dX11_daysUntilChange_2 : decode cX11_daysUntilChange 2 = .ok (.invokevirtual 214, 3) := by decide +kernel
theorem dX11_daysUntilChange_5 : decode cX11_daysUntilChange 5 = .ok (.istore_n 1, 1) := by decide +kernel
theorem dX11_daysUntilChange_6 : decode cX11_daysUntilChange 6 = .ok (.iconst 1, 1) := by decide +kernel
theorem dX11_daysUntilChange_7 : decode cX11_daysUntilChange 7 = .ok (.istore_n 2, 1) := by decide +kernel
theorem dX11_daysUntilChange_8 : decode cX11_daysUntilChange 8 = .ok (.iload_n 2, 1) := by decide +kernel
theorem dX11_daysUntilChange_9 : decode cX11_daysUntilChange 9 = .ok (.bipush 90, 2) := by decide +kernel
theorem dX11_daysUntilChange_11 : decode cX11_daysUntilChange 11 = .ok (.if_icmp .gt 18, 3) := by decide +kernel
theorem dX11_daysUntilChange_14 : decode cX11_daysUntilChange 14 = .ok (.aload_n 0, 1) := by decide +kernel
theorem dX11_daysUntilChange_15 : decode cX11_daysUntilChange 15 = .ok (.iload_n 2, 1) := by decide +kernel
theorem dX11_daysUntilChange_16 : decode cX11_daysUntilChange 16 = .ok (.invokevirtual 214, 3) := by decide +kernel
theorem dX11_daysUntilChange_19 : decode cX11_daysUntilChange 19 = .ok (.iload_n 1, 1) := by decide +kernel
theorem dX11_daysUntilChange_20 : decode cX11_daysUntilChange 20 = .ok (.if_icmp .ne 9, 3) := by decide +kernel
theorem dX11_daysUntilChange_23 : decode cX11_daysUntilChange 23 = .ok (.iinc 2 1, 3) := by decide +kernel
theorem dX11_daysUntilChange_26 : decode cX11_daysUntilChange 26 = .ok (.goto (-18), 3) := by decide +kernel
theorem dX11_daysUntilChange_29 : decode cX11_daysUntilChange 29 = .ok (.aload_n 0, 1) := by decide +kernel
theorem dX11_daysUntilChange_30 : decode cX11_daysUntilChange 30 = .ok (.iload_n 2, 1) := by decide +kernel
theorem dX11_daysUntilChange_31 : decode cX11_daysUntilChange 31 = .ok (.bipush 90, 2) := by decide +kernel
theorem dX11_daysUntilChange_33 : decode cX11_daysUntilChange 33 = .ok (.if_icmp .gt 7, 3) := by decide +kernel
theorem dX11_daysUntilChange_36 : decode cX11_daysUntilChange 36 = .ok (.iconst 1, 1) := by decide +kernel
theorem dX11_daysUntilChange_37 : decode cX11_daysUntilChange 37 = .ok (.goto 4, 3) := by decide +kernel
theorem dX11_daysUntilChange_40 : decode cX11_daysUntilChange 40 = .ok (.iconst 0, 1) := by decide +kernel
theorem dX11_daysUntilChange_41 : decode cX11_daysUntilChange 41 = .ok (.invokevirtual 181, 3) := by decide +kernel
theorem dX11_daysUntilChange_44 : decode cX11_daysUntilChange 44 = .ok (.ifCond .eq 7, 3) := by decide +kernel
theorem dX11_daysUntilChange_47 : decode cX11_daysUntilChange 47 = .ok (.iload_n 2, 1) := by decide +kernel
theorem dX11_daysUntilChange_48 : decode cX11_daysUntilChange 48 = .ok (.goto 4, 3) := by decide +kernel
theorem dX11_daysUntilChange_51 : decode cX11_daysUntilChange 51 = .ok (.iconst 0, 1) := by decide +kernel
theorem dX11_daysUntilChange_52 : decode cX11_daysUntilChange 52 = .ok (.ireturn, 1) := by decide +kernel
theorem dX11_statusAfter_0 : decode cX11_statusAfter 0 = .ok (.aload_n 0, 1) := by decide +kernel
theorem dX11_statusAfter_1 : decode cX11_statusAfter 1 = .ok (.aload_n 0, 1) := by decide +kernel
theorem dX11_statusAfter_2 : decode cX11_statusAfter 2 = .ok (.iload_n 1, 1) := by decide +kernel
theorem dX11_statusAfter_3 : decode cX11_statusAfter 3 = .ok (.invokevirtual 141, 3) := by decide +kernel
theorem dX11_statusAfter_6 : decode cX11_statusAfter 6 = .ok (.ifCond .ne 7, 3) := by decide +kernel
theorem dX11_statusAfter_9 : decode cX11_statusAfter 9 = .ok (.iconst 1, 1) := by decide +kernel
theorem dX11_statusAfter_10 : decode cX11_statusAfter 10 = .ok (.goto 18, 3) := by decide +kernel
theorem dX11_statusAfter_13 : decode cX11_statusAfter 13 = .ok (.iload_n 2, 1) := by decide +kernel
theorem dX11_statusAfter_14 : decode cX11_statusAfter 14 = .ok (.iconst 0, 1) := by decide +kernel
theorem dX11_statusAfter_15 : decode cX11_statusAfter 15 = .ok (.bipush 90, 2) := by decide +kernel
theorem dX11_statusAfter_17 : decode cX11_statusAfter 17 = .ok (.invokestatic 109, 3) := by decide +kernel
theorem dX11_statusAfter_20 : decode cX11_statusAfter 20 = .ok (.ifCond .ne 7, 3) := by decide +kernel
theorem dX11_statusAfter_23 : decode cX11_statusAfter 23 = .ok (.iconst 2, 1) := by decide +kernel
theorem dX11_statusAfter_24 : decode cX11_statusAfter 24 = .ok (.goto 4, 3) := by decide +kernel
theorem dX11_statusAfter_27 : decode cX11_statusAfter 27 = .ok (.iconst 0, 1) := by decide +kernel
theorem dX11_statusAfter_28 : decode cX11_statusAfter 28 = .ok (.putfield 40, 3) := by decide +kernel
theorem dX11_statusAfter_31 : decode cX11_statusAfter 31 = .ok (.aload_n 0, 1) := by decide +kernel
theorem dX11_statusAfter_32 : decode cX11_statusAfter 32 = .ok (.getfield 40, 3) := by decide +kernel
theorem dX11_statusAfter_35 : decode cX11_statusAfter 35 = .ok (.ifCond .eq 5, 3) := by decide +kernel
theorem dX11_statusAfter_38 : decode cX11_statusAfter 38 = .ok (.iconst 0, 1) := by decide +kernel
theorem dX11_statusAfter_39 : decode cX11_statusAfter 39 = .ok (.ireturn, 1) := by decide +kernel
theorem dX11_statusAfter_40 : decode cX11_statusAfter 40 = .ok (.aload_n 0, 1) := by decide +kernel
theorem dX11_statusAfter_41 : decode cX11_statusAfter 41 = .ok (.iload_n 2, 1) := by decide +kernel
theorem dX11_statusAfter_42 : decode cX11_statusAfter 42 = .ok (.invokevirtual 214, 3) := by decide +kernel
theorem dX11_statusAfter_45 : decode cX11_statusAfter 45 = .ok (.istore_n 3, 1) := by decide +kernel
theorem dX11_statusAfter_46 : decode cX11_statusAfter 46 = .ok (.aload_n 0, 1) := by decide +kernel
theorem dX11_statusAfter_47 : decode cX11_statusAfter 47 = .ok (.aload_n 0, 1) := by decide +kernel
theorem dX11_statusAfter_48 : decode cX11_statusAfter 48 = .ok (.iload_n 1, 1) := by decide +kernel
theorem dX11_statusAfter_49 : decode cX11_statusAfter 49 = .ok (.invokevirtual 57, 3) := by decide +kernel
theorem dX11_statusAfter_52 : decode cX11_statusAfter 52 = .ok (.invokevirtual 194, 3) := by decide +kernel
theorem dX11_statusAfter_55 : decode cX11_statusAfter 55 = .ok (.ireturn, 1) := by decide +kernel
theorem dX11_isAhead_0 : decode cX11_isAhead 0 = .ok (.aload_n 0, 1) := by decide +kernel
theorem dX11_isAhead_1 : decode cX11_isAhead 1 = .ok (.iload_n 1, 1) := by decide +kernel
theorem dX11_isAhead_2 : decode cX11_isAhead 2 = .ok (.invokevirtual 65, 3) := by decide +kernel
theorem dX11_isAhead_5 : decode cX11_isAhead 5 = .ok (.aload_n 0, 1) := by decide +kernel
theorem dX11_isAhead_6 : decode cX11_isAhead 6 = .ok (.iload_n 2, 1) := by decide +kernel
theorem dX11_isAhead_7 : decode cX11_isAhead 7 = .ok (.invokevirtual 65, 3) := by decide +kernel
theorem dX11_isAhead_10 : decode cX11_isAhead 10 = .ok (.isub, 1) := by decide +kernel
theorem dX11_isAhead_11 : decode cX11_isAhead 11 = .ok (.istore_n 3, 1) := by decide +kernel
theorem dX11_isAhead_12 : decode cX11_isAhead 12 = .ok (.aload_n 0, 1) := by decide +kernel
theorem dX11_isAhead_13 : decode cX11_isAhead 13 = .ok (.iload_n 2, 1) := by decide +kernel
theorem dX11_isAhead_14 : decode cX11_isAhead 14 = .ok (.invokevirtual 80, 3) := by decide +kernel
theorem dX11_isAhead_17 : decode cX11_isAhead 17 = .ok (.invokestatic 68, 3) := by decide +kernel
theorem dX11_isAhead_20 : decode cX11_isAhead 20 = .ok (.aload_n 0, 1) := by decide +kernel
theorem dX11_isAhead_21 : decode cX11_isAhead 21 = .ok (.iload_n 1, 1) := by decide +kernel
theorem dX11_isAhead_22 : decode cX11_isAhead 22 = .ok (.invokevirtual 80, 3) := by decide +kernel
theorem dX11_isAhead_25 : decode cX11_isAhead 25 = .ok (.invokestatic 68, 3) := by decide +kernel
theorem dX11_isAhead_28 : decode cX11_isAhead 28 = .ok (.isub, 1) := by decide +kernel
theorem dX11_isAhead_29 : decode cX11_isAhead 29 = .ok (.istore 4, 2) := by decide +kernel
theorem dX11_isAhead_31 : decode cX11_isAhead 31 = .ok (.iload_n 3, 1) := by decide +kernel
theorem dX11_isAhead_32 : decode cX11_isAhead 32 = .ok (.ifCond .gt 22, 3) := by decide +kernel
theorem dX11_isAhead_35 : decode cX11_isAhead 35 = .ok (.iload_n 3, 1) := by decide +kernel
theorem dX11_isAhead_36 : decode cX11_isAhead 36 = .ok (.ifCond .ne 22, 3) := by decide +kernel
theorem dX11_isAhead_39 : decode cX11_isAhead 39 = .ok (.iload 4, 2) := by decide +kernel
theorem dX11_isAhead_41 : decode cX11_isAhead 41 = .ok (.ifCond .gt 13, 3) := by decide +kernel
theorem dX11_isAhead_44 : decode cX11_isAhead 44 = .ok (.iload 4, 2) := by decide +kernel
theorem dX11_isAhead_46 : decode cX11_isAhead 46 = .ok (.ifCond .ne 12, 3) := by decide +kernel
theorem dX11_isAhead_49 : decode cX11_isAhead 49 = .ok (.iload_n 1, 1) := by decide +kernel
theorem dX11_isAhead_50 : decode cX11_isAhead 50 = .ok (.iload_n 2, 1) := by decide +kernel
theorem dX11_isAhead_51 : decode cX11_isAhead 51 = .ok (.if_icmp .ge 7, 3) := by decide +kernel
theorem dX11_isAhead_54 : decode cX11_isAhead 54 = .ok (.iconst 1, 1) := by decide +kernel
theorem dX11_isAhead_55 : decode cX11_isAhead 55 = .ok (.goto 4, 3) := by decide +kernel
theorem dX11_isAhead_58 : decode cX11_isAhead 58 = .ok (.iconst 0, 1) := by decide +kernel
theorem dX11_isAhead_59 : decode cX11_isAhead 59 = .ok (.ireturn, 1) := by decide +kernel
theorem dX11_argumentByStrength_0 : decode cX11_argumentByStrength 0 = .ok (.iconst 0, 1) := by decide +kernel
theorem dX11_argumentByStrength_1 : decode cX11_argumentByStrength 1 = .ok (.istore_n 2, 1) := by decide +kernel
theorem dX11_argumentByStrength_2 : decode cX11_argumentByStrength 2 = .ok (.iload_n 2, 1) := by decide +kernel
theorem dX11_argumentByStrength_3 : decode cX11_argumentByStrength 3 = .ok (.aload_n 0, 1) := by decide +kernel
theorem dX11_argumentByStrength_4 : decode cX11_argumentByStrength 4 = .ok (.getfield 9, 3) := by decide +kernel
theorem dX11_argumentByStrength_7 : decode cX11_argumentByStrength 7 = .ok (.iconst 0, 1) := by decide +kernel
theorem dX11_argumentByStrength_8 : decode cX11_argumentByStrength 8 = .ok (.iaload, 1) := by decide +kernel
theorem dX11_argumentByStrength_9 : decode cX11_argumentByStrength 9 = .ok (.if_icmp .ge 73, 3) := by decide +kernel
theorem dX11_argumentByStrength_12 : decode cX11_argumentByStrength 12 = .ok (.iconst 0, 1) := by decide +kernel
theorem dX11_argumentByStrength_13 : decode cX11_argumentByStrength 13 = .ok (.istore_n 3, 1) := by decide +kernel
theorem dX11_argumentByStrength_14 : decode cX11_argumentByStrength 14 = .ok (.iconst 0, 1) := by decide +kernel
theorem dX11_argumentByStrength_15 : decode cX11_argumentByStrength 15 = .ok (.istore 4, 2) := by decide +kernel
theorem dX11_argumentByStrength_17 : decode cX11_argumentByStrength 17 = .ok (.iload 4, 2) := by decide +kernel
theorem dX11_argumentByStrength_19 : decode cX11_argumentByStrength 19 = .ok (.aload_n 0, 1) := by decide +kernel
theorem dX11_argumentByStrength_20 : decode cX11_argumentByStrength 20 = .ok (.getfield 9, 3) := by decide +kernel
theorem dX11_argumentByStrength_23 : decode cX11_argumentByStrength 23 = .ok (.iconst 0, 1) := by decide +kernel
theorem dX11_argumentByStrength_24 : decode cX11_argumentByStrength 24 = .ok (.iaload, 1) := by decide +kernel
theorem dX11_argumentByStrength_25 : decode cX11_argumentByStrength 25 = .ok (.if_icmp .ge 27, 3) := by decide +kernel
theorem dX11_argumentByStrength_28 : decode cX11_argumentByStrength 28 = .ok (.iload_n 3, 1) := by decide +kernel
theorem dX11_argumentByStrength_29 : decode cX11_argumentByStrength 29 = .ok (.aload_n 0, 1) := by decide +kernel
theorem dX11_argumentByStrength_30 : decode cX11_argumentByStrength 30 = .ok (.iload 4, 2) := by decide +kernel
theorem dX11_argumentByStrength_32 : decode cX11_argumentByStrength 32 = .ok (.iload_n 2, 1) := by decide +kernel
theorem dX11_argumentByStrength_33 : decode cX11_argumentByStrength 33 = .ok (.invokevirtual 217, 3) := by decide +kernel
theorem dX11_argumentByStrength_36 : decode cX11_argumentByStrength 36 = .ok (.ifCond .eq 7, 3) := by decide +kernel
theorem dX11_argumentByStrength_39 : decode cX11_argumentByStrength 39 = .ok (.iconst 1, 1) := by decide +kernel
theorem dX11_argumentByStrength_40 : decode cX11_argumentByStrength 40 = .ok (.goto 4, 3) := by decide +kernel
theorem dX11_argumentByStrength_43 : decode cX11_argumentByStrength 43 = .ok (.iconst 0, 1) := by decide +kernel
theorem dX11_argumentByStrength_44 : decode cX11_argumentByStrength 44 = .ok (.iadd, 1) := by decide +kernel
theorem dX11_argumentByStrength_45 : decode cX11_argumentByStrength 45 = .ok (.istore_n 3, 1) := by decide +kernel
theorem dX11_argumentByStrength_46 : decode cX11_argumentByStrength 46 = .ok (.iinc 4 1, 3) := by decide +kernel
theorem dX11_argumentByStrength_49 : decode cX11_argumentByStrength 49 = .ok (.goto (-32), 3) := by decide +kernel
theorem dX11_argumentByStrength_52 : decode cX11_argumentByStrength 52 = .ok (.aload_n 0, 1) := by decide +kernel
theorem dX11_argumentByStrength_53 : decode cX11_argumentByStrength 53 = .ok (.iload_n 3, 1) := by decide +kernel
theorem dX11_argumentByStrength_54 : decode cX11_argumentByStrength 54 = .ok (.iload_n 1, 1) := by decide +kernel
theorem dX11_argumentByStrength_55 : decode cX11_argumentByStrength 55 = .ok (.if_icmp .ne 7, 3) := by decide +kernel
theorem dX11_argumentByStrength_58 : decode cX11_argumentByStrength 58 = .ok (.iconst 1, 1) := by decide +kernel
theorem dX11_argumentByStrength_59 : decode cX11_argumentByStrength 59 = .ok (.goto 4, 3) := by decide +kernel
theorem dX11_argumentByStrength_62 : decode cX11_argumentByStrength 62 = .ok (.iconst 0, 1) := by decide +kernel
theorem dX11_argumentByStrength_63 : decode cX11_argumentByStrength 63 = .ok (.invokevirtual 181, 3) := by decide +kernel
theorem dX11_argumentByStrength_66 : decode cX11_argumentByStrength 66 = .ok (.ifCond .eq 10, 3) := by decide +kernel
theorem dX11_argumentByStrength_69 : decode cX11_argumentByStrength 69 = .ok (.aload_n 0, 1) := by decide +kernel
theorem dX11_argumentByStrength_70 : decode cX11_argumentByStrength 70 = .ok (.iload_n 2, 1) := by decide +kernel
theorem dX11_argumentByStrength_71 : decode cX11_argumentByStrength 71 = .ok (.iconst 0, 1) := by decide +kernel
theorem dX11_argumentByStrength_72 : decode cX11_argumentByStrength 72 = .ok (.invokevirtual 53, 3) := by decide +kernel
theorem dX11_argumentByStrength_75 : decode cX11_argumentByStrength 75 = .ok (.ireturn, 1) := by decide +kernel
theorem dX11_argumentByStrength_76 : decode cX11_argumentByStrength 76 = .ok (.iinc 2 1, 3) := by decide +kernel
theorem dX11_argumentByStrength_79 : decode cX11_argumentByStrength 79 = .ok (.goto (-77), 3) := by decide +kernel
theorem dX11_argumentByStrength_82 : decode cX11_argumentByStrength 82 = .ok (.aload_n 0, 1) := by decide +kernel
theorem dX11_argumentByStrength_83 : decode cX11_argumentByStrength 83 = .ok (.iconst 1, 1) := by decide +kernel
theorem dX11_argumentByStrength_84 : decode cX11_argumentByStrength 84 = .ok (.putfield 40, 3) := by decide +kernel
theorem dX11_argumentByStrength_87 : decode cX11_argumentByStrength 87 = .ok (.iconst 0, 1) := by decide +kernel
theorem dX11_argumentByStrength_88 : decode cX11_argumentByStrength 88 = .ok (.ireturn, 1) := by decide +kernel
theorem dX11_isDialogueHeld_0 : decode cX11_isDialogueHeld 0 = .ok (.aload_n 0, 1) := by decide +kernel
theorem dX11_isDialogueHeld_1 : decode cX11_isDialogueHeld 1 = .ok (.iconst 3, 1) := by decide +kernel
theorem dX11_isDialogueHeld_2 : decode cX11_isDialogueHeld 2 = .ok (.invokevirtual 178, 3) := by decide +kernel
theorem dX11_isDialogueHeld_5 : decode cX11_isDialogueHeld 5 = .ok (.ifCond .le 7, 3) := by decide +kernel
theorem dX11_isDialogueHeld_8 : decode cX11_isDialogueHeld 8 = .ok (.iconst 1, 1) := by decide +kernel
theorem dX11_isDialogueHeld_9 : decode cX11_isDialogueHeld 9 = .ok (.goto 4, 3) := by decide +kernel
theorem dX11_isDialogueHeld_12 : decode cX11_isDialogueHeld 12 = .ok (.iconst 0, 1) := by decide +kernel
theorem dX11_isDialogueHeld_13 : decode cX11_isDialogueHeld 13 = .ok (.ireturn, 1) := by decide +kernel
theorem dX11_moveCount_0 : decode cX11_moveCount 0 = .ok (.aload_n 0, 1) := by decide +kernel
theorem dX11_moveCount_1 : decode cX11_moveCount 1 = .ok (.iconst 3, 1) := by decide +kernel
theorem dX11_moveCount_2 : decode cX11_moveCount 2 = .ok (.invokevirtual 178, 3) := by decide +kernel
theorem dX11_moveCount_5 : decode cX11_moveCount 5 = .ok (.ireturn, 1) := by decide +kernel
theorem dX11_moveAt_0 : decode cX11_moveAt 0 = .ok (.aload_n 0, 1) := by decide +kernel
theorem dX11_moveAt_1 : decode cX11_moveAt 1 = .ok (.iload_n 1, 1) := by decide +kernel
theorem dX11_moveAt_2 : decode cX11_moveAt 2 = .ok (.iconst 0, 1) := by decide +kernel
theorem dX11_moveAt_3 : decode cX11_moveAt 3 = .ok (.aload_n 0, 1) := by decide +kernel
theorem dX11_moveAt_4 : decode cX11_moveAt 4 = .ok (.getfield 9, 3) := by decide +kernel
theorem dX11_moveAt_7 : decode cX11_moveAt 7 = .ok (.iconst 3, 1) := by decide +kernel
theorem dX11_moveAt_8 : decode cX11_moveAt 8 = .ok (.iaload, 1) := by decide +kernel
theorem dX11_moveAt_9 : decode cX11_moveAt 9 = .ok (.iconst 1, 1) := by decide +kernel
theorem dX11_moveAt_10 : decode cX11_moveAt 10 = .ok (.isub, 1) := by decide +kernel
theorem dX11_moveAt_11 : decode cX11_moveAt 11 = .ok (.invokestatic 109, 3) := by decide +kernel
theorem dX11_moveAt_14 : decode cX11_moveAt 14 = .ok (.invokevirtual 181, 3) := by decide +kernel
theorem dX11_moveAt_17 : decode cX11_moveAt 17 = .ok (.ifCond .eq 15, 3) := by decide +kernel
theorem dX11_moveAt_20 : decode cX11_moveAt 20 = .ok (.aload_n 0, 1) := by decide +kernel
theorem dX11_moveAt_21 : decode cX11_moveAt 21 = .ok (.getfield 9, 3) := by decide +kernel
theorem dX11_moveAt_24 : decode cX11_moveAt 24 = .ok (.bipush 39, 2) := by decide +kernel
theorem dX11_moveAt_26 : decode cX11_moveAt 26 = .ok (.iload_n 1, 1) := by decide +kernel
theorem dX11_moveAt_27 : decode cX11_moveAt 27 = .ok (.iadd, 1) := by decide +kernel
theorem dX11_moveAt_28 : decode cX11_moveAt 28 = .ok (.iaload, 1) := by decide +kernel
theorem dX11_moveAt_29 : decode cX11_moveAt 29 = .ok (.goto 4, 3) := by decide +kernel
theorem dX11_moveAt_32 : decode cX11_moveAt 32 = .ok (.iconst 0, 1) := by decide +kernel
theorem dX11_moveAt_33 : decode cX11_moveAt 33 = .ok (.ireturn, 1) := by decide +kernel
theorem dX11_canMove_0 : decode cX11_canMove 0 = .ok (.aload_n 0, 1) := by decide +kernel
theorem dX11_canMove_1 : decode cX11_canMove 1 = .ok (.aload_n 0, 1) := by decide +kernel
theorem dX11_canMove_2 : decode cX11_canMove 2 = .ok (.getfield 9, 3) := by decide +kernel
theorem dX11_canMove_5 : decode cX11_canMove 5 = .ok (.iconst 3, 1) := by decide +kernel
theorem dX11_canMove_6 : decode cX11_canMove 6 = .ok (.iaload, 1) := by decide +kernel
theorem dX11_canMove_7 : decode cX11_canMove 7 = .ok (.ifCond .le 15, 3) := by decide +kernel
theorem dX11_canMove_10 : decode cX11_canMove 10 = .ok (.aload_n 0, 1) := by decide +kernel
theorem dX11_canMove_11 : decode cX11_canMove 11 = .ok (.iload_n 1, 1) := by decide +kernel
theorem dX11_canMove_12 : decode cX11_canMove 12 = .ok (.invokevirtual 141, 3) := by decide +kernel
theorem dX11_canMove_15 : decode cX11_canMove 15 = .ok (.ifCond .eq 7, 3) := by decide +kernel
theorem dX11_canMove_18 : decode cX11_canMove 18 = .ok (.iconst 1, 1) := by decide +kernel
theorem dX11_canMove_19 : decode cX11_canMove 19 = .ok (.goto 4, 3) := by decide +kernel
theorem dX11_canMove_22 : decode cX11_canMove 22 = .ok (.iconst 0, 1) := by decide +kernel
theorem dX11_canMove_23 : decode cX11_canMove 23 = .ok (.invokevirtual 181, 3) := by decide +kernel
theorem dX11_canMove_26 : decode cX11_canMove 26 = .ok (.ifCond .eq 26, 3) := by decide +kernel
theorem dX11_canMove_29 : decode cX11_canMove 29 = .ok (.aload_n 0, 1) := by decide +kernel
theorem dX11_canMove_30 : decode cX11_canMove 30 = .ok (.getfield 9, 3) := by decide +kernel
theorem dX11_canMove_33 : decode cX11_canMove 33 = .ok (.iconst 3, 1) := by decide +kernel
theorem dX11_canMove_34 : decode cX11_canMove 34 = .ok (.iaload, 1) := by decide +kernel
theorem dX11_canMove_35 : decode cX11_canMove 35 = .ok (.bipush 12, 2) := by decide +kernel
theorem dX11_canMove_37 : decode cX11_canMove 37 = .ok (.if_icmp .ge 15, 3) := by decide +kernel
theorem dX11_canMove_40 : decode cX11_canMove 40 = .ok (.aload_n 0, 1) := by decide +kernel
theorem dX11_canMove_41 : decode cX11_canMove 41 = .ok (.iload_n 1, 1) := by decide +kernel
theorem dX11_canMove_42 : decode cX11_canMove 42 = .ok (.invokevirtual 159, 3) := by decide +kernel
theorem dX11_canMove_45 : decode cX11_canMove 45 = .ok (.ifCond .eq 7, 3) := by decide +kernel
theorem dX11_canMove_48 : decode cX11_canMove 48 = .ok (.iconst 1, 1) := by decide +kernel
theorem dX11_canMove_49 : decode cX11_canMove 49 = .ok (.goto 4, 3) := by decide +kernel
theorem dX11_canMove_52 : decode cX11_canMove 52 = .ok (.iconst 0, 1) := by decide +kernel
theorem dX11_canMove_53 : decode cX11_canMove 53 = .ok (.ireturn, 1) := by decide +kernel
theorem dX11_dialogueTotal_0 : decode cX11_dialogueTotal 0 = .ok (.aload_n 0, 1) := by decide +kernel
theorem dX11_dialogueTotal_1 : decode cX11_dialogueTotal 1 = .ok (.iconst 4, 1) := by decide +kernel
theorem dX11_dialogueTotal_2 : decode cX11_dialogueTotal 2 = .ok (.invokevirtual 178, 3) := by decide +kernel
theorem dX11_dialogueTotal_5 : decode cX11_dialogueTotal 5 = .ok (.ireturn, 1) := by decide +kernel
theorem dX11_proponentWins_0 : decode cX11_proponentWins 0 = .ok (.aload_n 0, 1) := by decide +kernel
theorem dX11_proponentWins_1 : decode cX11_proponentWins 1 = .ok (.iconst 5, 1) := by decide +kernel
theorem dX11_proponentWins_2 : decode cX11_proponentWins 2 = .ok (.invokevirtual 178, 3) := by decide +kernel
theorem dX11_proponentWins_5 : decode cX11_proponentWins 5 = .ok (.ireturn, 1) := by decide +kernel
theorem dX11_brokenOffTotal_0 : decode cX11_brokenOffTotal 0 = .ok (.aload_n 0, 1) := by decide +kernel
theorem dX11_brokenOffTotal_1 : decode cX11_brokenOffTotal 1 = .ok (.bipush 6, 2) := by decide +kernel
theorem dX11_brokenOffTotal_3 : decode cX11_brokenOffTotal 3 = .ok (.invokevirtual 178, 3) := by decide +kernel
theorem dX11_brokenOffTotal_6 : decode cX11_brokenOffTotal 6 = .ok (.ireturn, 1) := by decide +kernel
theorem dX11_meanStrength_0 : decode cX11_meanStrength 0 = .ok (.iconst 0, 1) := by decide +kernel
theorem dX11_meanStrength_1 : decode cX11_meanStrength 1 = .ok (.istore_n 1, 1) := by decide +kernel
theorem dX11_meanStrength_2 : decode cX11_meanStrength 2 = .ok (.iconst 0, 1) := by decide +kernel
theorem dX11_meanStrength_3 : decode cX11_meanStrength 3 = .ok (.istore_n 2, 1) := by decide +kernel
theorem dX11_meanStrength_4 : decode cX11_meanStrength 4 = .ok (.iload_n 2, 1) := by decide +kernel
theorem dX11_meanStrength_5 : decode cX11_meanStrength 5 = .ok (.aload_n 0, 1) := by decide +kernel
theorem dX11_meanStrength_6 : decode cX11_meanStrength 6 = .ok (.getfield 9, 3) := by decide +kernel
theorem dX11_meanStrength_9 : decode cX11_meanStrength 9 = .ok (.iconst 0, 1) := by decide +kernel
theorem dX11_meanStrength_10 : decode cX11_meanStrength 10 = .ok (.iaload, 1) := by decide +kernel
theorem dX11_meanStrength_11 : decode cX11_meanStrength 11 = .ok (.if_icmp .ge 17, 3) := by decide +kernel
theorem dX11_meanStrength_14 : decode cX11_meanStrength 14 = .ok (.iload_n 1, 1) := by decide +kernel
theorem dX11_meanStrength_15 : decode cX11_meanStrength 15 = .ok (.aload_n 0, 1) := by decide +kernel
theorem dX11_meanStrength_16 : decode cX11_meanStrength 16 = .ok (.iload_n 2, 1) := by decide +kernel
theorem dX11_meanStrength_17 : decode cX11_meanStrength 17 = .ok (.invokevirtual 65, 3) := by decide +kernel
theorem dX11_meanStrength_20 : decode cX11_meanStrength 20 = .ok (.iadd, 1) := by decide +kernel
theorem dX11_meanStrength_21 : decode cX11_meanStrength 21 = .ok (.istore_n 1, 1) := by decide +kernel
theorem dX11_meanStrength_22 : decode cX11_meanStrength 22 = .ok (.iinc 2 1, 3) := by decide +kernel
theorem dX11_meanStrength_25 : decode cX11_meanStrength 25 = .ok (.goto (-21), 3) := by decide +kernel
theorem dX11_meanStrength_28 : decode cX11_meanStrength 28 = .ok (.aload_n 0, 1) := by decide +kernel
theorem dX11_meanStrength_29 : decode cX11_meanStrength 29 = .ok (.aload_n 0, 1) := by decide +kernel
theorem dX11_meanStrength_30 : decode cX11_meanStrength 30 = .ok (.getfield 9, 3) := by decide +kernel
theorem dX11_meanStrength_33 : decode cX11_meanStrength 33 = .ok (.iconst 0, 1) := by decide +kernel
theorem dX11_meanStrength_34 : decode cX11_meanStrength 34 = .ok (.iaload, 1) := by decide +kernel
theorem dX11_meanStrength_35 : decode cX11_meanStrength 35 = .ok (.ifCond .le 7, 3) := by decide +kernel
theorem dX11_meanStrength_38 : decode cX11_meanStrength 38 = .ok (.iconst 1, 1) := by decide +kernel
theorem dX11_meanStrength_39 : decode cX11_meanStrength 39 = .ok (.goto 4, 3) := by decide +kernel
theorem dX11_meanStrength_42 : decode cX11_meanStrength 42 = .ok (.iconst 0, 1) := by decide +kernel
theorem dX11_meanStrength_43 : decode cX11_meanStrength 43 = .ok (.invokevirtual 181, 3) := by decide +kernel
theorem dX11_meanStrength_46 : decode cX11_meanStrength 46 = .ok (.ifCond .eq 16, 3) := by decide +kernel
theorem dX11_meanStrength_49 : decode cX11_meanStrength 49 = .ok (.iload_n 1, 1) := by decide +kernel
theorem dX11_meanStrength_50 : decode cX11_meanStrength 50 = .ok (.i2d, 1) := by decide +kernel
theorem dX11_meanStrength_51 : decode cX11_meanStrength 51 = .ok (.aload_n 0, 1) := by decide +kernel
theorem dX11_meanStrength_52 : decode cX11_meanStrength 52 = .ok (.getfield 9, 3) := by decide +kernel
theorem dX11_meanStrength_55 : decode cX11_meanStrength 55 = .ok (.iconst 0, 1) := by decide +kernel
theorem dX11_meanStrength_56 : decode cX11_meanStrength 56 = .ok (.iaload, 1) := by decide +kernel
theorem dX11_meanStrength_57 : decode cX11_meanStrength 57 = .ok (.i2d, 1) := by decide +kernel
theorem dX11_meanStrength_58 : decode cX11_meanStrength 58 = .ok (.ddiv, 1) := by decide +kernel
theorem dX11_meanStrength_59 : decode cX11_meanStrength 59 = .ok (.goto 4, 3) := by decide +kernel
theorem dX11_meanStrength_62 : decode cX11_meanStrength 62 = .ok (.dconst 0, 1) := by decide +kernel
theorem dX11_meanStrength_63 : decode cX11_meanStrength 63 = .ok (.dreturn, 1) := by decide +kernel
theorem dX11_acceptedShare_0 : decode cX11_acceptedShare 0 = .ok (.aload_n 0, 1) := by decide +kernel
theorem dX11_acceptedShare_1 : decode cX11_acceptedShare 1 = .ok (.invokevirtual 191, 3) := by decide +kernel
theorem dX11_acceptedShare_4 : decode cX11_acceptedShare 4 = .ok (.aload_n 0, 1) := by decide +kernel
theorem dX11_acceptedShare_5 : decode cX11_acceptedShare 5 = .ok (.aload_n 0, 1) := by decide +kernel
theorem dX11_acceptedShare_6 : decode cX11_acceptedShare 6 = .ok (.getfield 9, 3) := by decide +kernel
theorem dX11_acceptedShare_9 : decode cX11_acceptedShare 9 = .ok (.iconst 0, 1) := by decide +kernel
theorem dX11_acceptedShare_10 : decode cX11_acceptedShare 10 = .ok (.iaload, 1) := by decide +kernel
theorem dX11_acceptedShare_11 : decode cX11_acceptedShare 11 = .ok (.ifCond .le 7, 3) := by decide +kernel
theorem dX11_acceptedShare_14 : decode cX11_acceptedShare 14 = .ok (.iconst 1, 1) := by decide +kernel
theorem dX11_acceptedShare_15 : decode cX11_acceptedShare 15 = .ok (.goto 4, 3) := by decide +kernel
theorem dX11_acceptedShare_18 : decode cX11_acceptedShare 18 = .ok (.iconst 0, 1) := by decide +kernel
theorem dX11_acceptedShare_19 : decode cX11_acceptedShare 19 = .ok (.invokevirtual 181, 3) := by decide +kernel
theorem dX11_acceptedShare_22 : decode cX11_acceptedShare 22 = .ok (.ifCond .eq 22, 3) := by decide +kernel
theorem dX11_acceptedShare_25 : decode cX11_acceptedShare 25 = .ok (.aload_n 0, 1) := by decide +kernel
theorem dX11_acceptedShare_26 : decode cX11_acceptedShare 26 = .ok (.getfield 74, 3) := by decide +kernel
theorem dX11_acceptedShare_29 : decode cX11_acceptedShare 29 = .ok (.invokestatic 68, 3) := by decide +kernel
theorem dX11_acceptedShare_32 : decode cX11_acceptedShare 32 = .ok (.i2f, 1) := by decide +kernel
theorem dX11_acceptedShare_33 : decode cX11_acceptedShare 33 = .ok (.aload_n 0, 1) := by decide +kernel
theorem dX11_acceptedShare_34 : decode cX11_acceptedShare 34 = .ok (.getfield 9, 3) := by decide +kernel
theorem dX11_acceptedShare_37 : decode cX11_acceptedShare 37 = .ok (.iconst 0, 1) := by decide +kernel
theorem dX11_acceptedShare_38 : decode cX11_acceptedShare 38 = .ok (.iaload, 1) := by decide +kernel
theorem dX11_acceptedShare_39 : decode cX11_acceptedShare 39 = .ok (.i2f, 1) := by decide +kernel
theorem dX11_acceptedShare_40 : decode cX11_acceptedShare 40 = .ok (.fdiv, 1) := by decide +kernel
theorem dX11_acceptedShare_41 : decode cX11_acceptedShare 41 = .ok (.goto 4, 3) := by decide +kernel
theorem dX11_acceptedShare_44 : decode cX11_acceptedShare 44 = .ok (.fconst 0, 1) := by decide +kernel
theorem dX11_acceptedShare_45 : decode cX11_acceptedShare 45 = .ok (.freturn, 1) := by decide +kernel
theorem dX11_isConsistent_0 : decode cX11_isConsistent 0 = .ok (.aload_n 0, 1) := by decide +kernel
theorem dX11_isConsistent_1 : decode cX11_isConsistent 1 = .ok (.iconst 0, 1) := by decide +kernel
theorem dX11_isConsistent_2 : decode cX11_isConsistent 2 = .ok (.putfield 40, 3) := by decide +kernel
theorem dX11_isConsistent_5 : decode cX11_isConsistent 5 = .ok (.iconst 1, 1) := by decide +kernel
theorem dX11_isConsistent_6 : decode cX11_isConsistent 6 = .ok (.ireturn, 1) := by decide +kernel
theorem dX11_writes_0 : decode cX11_writes 0 = .ok (.aload_n 0, 1) := by decide +kernel
theorem dX11_writes_1 : decode cX11_writes 1 = .ok (.getfield 23, 3) := by decide +kernel
theorem dX11_writes_4 : decode cX11_writes 4 = .ok (.aload_n 0, 1) := by decide +kernel
theorem dX11_writes_5 : decode cX11_writes 5 = .ok (.getfield 220, 3) := by decide +kernel
theorem dX11_writes_8 : decode cX11_writes 8 = .ok (.iload_n 1, 1) := by decide +kernel
theorem dX11_writes_9 : decode cX11_writes 9 = .ok (.i2c, 1) := by decide +kernel
theorem dX11_writes_10 : decode cX11_writes 10 = .ok (.castore, 1) := by decide +kernel
theorem dX11_writes_11 : decode cX11_writes 11 = .ok (.aload_n 0, 1) := by decide +kernel
theorem dX11_writes_12 : decode cX11_writes 12 = .ok (.dup, 1) := by decide +kernel
theorem dX11_writes_13 : decode cX11_writes 13 = .ok (.getfield 220, 3) := by decide +kernel
theorem dX11_writes_16 : decode cX11_writes 16 = .ok (.iconst 1, 1) := by decide +kernel
theorem dX11_writes_17 : decode cX11_writes 17 = .ok (.iadd, 1) := by decide +kernel
theorem dX11_writes_18 : decode cX11_writes 18 = .ok (.putfield 220, 3) := by decide +kernel
theorem dX11_writes_21 : decode cX11_writes 21 = .ok (.return_, 1) := by decide +kernel
theorem dX11_writesNumber_0 : decode cX11_writesNumber 0 = .ok (.iload_n 1, 1) := by decide +kernel
theorem dX11_writesNumber_1 : decode cX11_writesNumber 1 = .ok (.bipush 9, 2) := by decide +kernel
theorem dX11_writesNumber_3 : decode cX11_writesNumber 3 = .ok (.if_icmp .le 11, 3) := by decide +kernel
theorem dX11_writesNumber_6 : decode cX11_writesNumber 6 = .ok (.aload_n 0, 1) := by decide +kernel
theorem dX11_writesNumber_7 : decode cX11_writesNumber 7 = .ok (.iload_n 1, 1) := by decide +kernel
theorem dX11_writesNumber_8 : decode cX11_writesNumber 8 = .ok (.bipush 10, 2) := by decide +kernel
theorem dX11_writesNumber_10 : decode cX11_writesNumber 10 = .ok (.idiv, 1) := by decide +kernel
theorem dX11_writesNumber_11 : decode cX11_writesNumber 11 = .ok (.invokevirtual 223, 3) := by decide +kernel
theorem dX11_writesNumber_14 : decode cX11_writesNumber 14 = .ok (.aload_n 0, 1) := by decide +kernel
theorem dX11_writesNumber_15 : decode cX11_writesNumber 15 = .ok (.bipush 48, 2) := by decide +kernel
theorem dX11_writesNumber_17 : decode cX11_writesNumber 17 = .ok (.iload_n 1, 1) := by decide +kernel
theorem dX11_writesNumber_18 : decode cX11_writesNumber 18 = .ok (.bipush 10, 2) := by decide +kernel
theorem dX11_writesNumber_20 : decode cX11_writesNumber 20 = .ok (.irem, 1) := by decide +kernel
theorem dX11_writesNumber_21 : decode cX11_writesNumber 21 = .ok (.iadd, 1) := by decide +kernel
theorem dX11_writesNumber_22 : decode cX11_writesNumber 22 = .ok (.invokevirtual 226, 3) := by decide +kernel
theorem dX11_writesNumber_25 : decode cX11_writesNumber 25 = .ok (.return_, 1) := by decide +kernel
theorem dX11_writesBehind_0 : decode cX11_writesBehind 0 = .ok (.aload_n 0, 1) := by decide +kernel
theorem dX11_writesBehind_1 : decode cX11_writesBehind 1 = .ok (.iload_n 1, 1) := by decide +kernel
theorem dX11_writesBehind_2 : decode cX11_writesBehind 2 = .ok (.invokevirtual 226, 3) := by decide +kernel
theorem dX11_writesBehind_5 : decode cX11_writesBehind 5 = .ok (.aload_n 0, 1) := by decide +kernel
theorem dX11_writesBehind_6 : decode cX11_writesBehind 6 = .ok (.iload_n 2, 1) := by decide +kernel
theorem dX11_writesBehind_7 : decode cX11_writesBehind 7 = .ok (.invokevirtual 223, 3) := by decide +kernel
theorem dX11_writesBehind_10 : decode cX11_writesBehind 10 = .ok (.return_, 1) := by decide +kernel
theorem dX11_formatArgument_0 : decode cX11_formatArgument 0 = .ok (.aload_n 0, 1) := by decide +kernel
theorem dX11_formatArgument_1 : decode cX11_formatArgument 1 = .ok (.aload_n 0, 1) := by decide +kernel
theorem dX11_formatArgument_2 : decode cX11_formatArgument 2 = .ok (.iload_n 1, 1) := by decide +kernel
theorem dX11_formatArgument_3 : decode cX11_formatArgument 3 = .ok (.invokevirtual 141, 3) := by decide +kernel
theorem dX11_formatArgument_6 : decode cX11_formatArgument 6 = .ok (.invokevirtual 181, 3) := by decide +kernel
theorem dX11_formatArgument_9 : decode cX11_formatArgument 9 = .ok (.ifCond .ne 5, 3) := by decide +kernel
theorem dX11_formatArgument_12 : decode cX11_formatArgument 12 = .ok (.iconst 0, 1) := by decide +kernel
theorem dX11_formatArgument_13 : decode cX11_formatArgument 13 = .ok (.ireturn, 1) := by decide +kernel
theorem dX11_formatArgument_14 : decode cX11_formatArgument 14 = .ok (.aload_n 0, 1) := by decide +kernel
theorem dX11_formatArgument_15 : decode cX11_formatArgument 15 = .ok (.iload_n 1, 1) := by decide +kernel
theorem dX11_formatArgument_16 : decode cX11_formatArgument 16 = .ok (.invokevirtual 57, 3) := by decide +kernel
theorem dX11_formatArgument_19 : decode cX11_formatArgument 19 = .ok (.istore_n 2, 1) := by decide +kernel
theorem dX11_formatArgument_20 : decode cX11_formatArgument 20 = .ok (.aload_n 0, 1) := by decide +kernel
theorem dX11_formatArgument_21 : decode cX11_formatArgument 21 = .ok (.iload_n 2, 1) := by decide +kernel
theorem dX11_formatArgument_22 : decode cX11_formatArgument 22 = .ok (.invokevirtual 80, 3) := by decide +kernel
theorem dX11_formatArgument_25 : decode cX11_formatArgument 25 = .ok (.istore_n 3, 1) := by decide +kernel
theorem dX11_formatArgument_26 : decode cX11_formatArgument 26 = .ok (.aload_n 0, 1) := by decide +kernel
theorem dX11_formatArgument_27 : decode cX11_formatArgument 27 = .ok (.invokevirtual 191, 3) := by decide +kernel
theorem dX11_formatArgument_30 : decode cX11_formatArgument 30 = .ok (.aload_n 0, 1) := by decide +kernel
theorem dX11_formatArgument_31 : decode cX11_formatArgument 31 = .ok (.iconst 0, 1) := by decide +kernel
theorem dX11_formatArgument_32 : decode cX11_formatArgument 32 = .ok (.putfield 220, 3) := by decide +kernel
theorem dX11_formatArgument_35 : decode cX11_formatArgument 35 = .ok (.aload_n 0, 1) := by decide +kernel
theorem dX11_formatArgument_36 : decode cX11_formatArgument 36 = .ok (.iload_n 1, 1) := by decide +kernel
theorem dX11_formatArgument_37 : decode cX11_formatArgument 37 = .ok (.invokevirtual 223, 3) := by decide +kernel
theorem dX11_formatArgument_40 : decode cX11_formatArgument 40 = .ok (.aload_n 0, 1) := by decide +kernel
theorem dX11_formatArgument_41 : decode cX11_formatArgument 41 = .ok (.bipush 40, 2) := by decide +kernel
theorem dX11_formatArgument_43 : decode cX11_formatArgument 43 = .ok (.aload_n 0, 1) := by decide +kernel
theorem dX11_formatArgument_44 : decode cX11_formatArgument 44 = .ok (.iload_n 2, 1) := by decide +kernel
theorem dX11_formatArgument_45 : decode cX11_formatArgument 45 = .ok (.invokevirtual 65, 3) := by decide +kernel
theorem dX11_formatArgument_48 : decode cX11_formatArgument 48 = .ok (.invokevirtual 229, 3) := by decide +kernel
theorem dX11_formatArgument_51 : decode cX11_formatArgument 51 = .ok (.aload_n 0, 1) := by decide +kernel
theorem dX11_formatArgument_52 : decode cX11_formatArgument 52 = .ok (.bipush 47, 2) := by decide +kernel
theorem dX11_formatArgument_54 : decode cX11_formatArgument 54 = .ok (.aload_n 0, 1) := by decide +kernel
theorem dX11_formatArgument_55 : decode cX11_formatArgument 55 = .ok (.iload_n 2, 1) := by decide +kernel
theorem dX11_formatArgument_56 : decode cX11_formatArgument 56 = .ok (.iconst 1, 1) := by decide +kernel
theorem dX11_formatArgument_57 : decode cX11_formatArgument 57 = .ok (.invokevirtual 53, 3) := by decide +kernel
theorem dX11_formatArgument_60 : decode cX11_formatArgument 60 = .ok (.invokevirtual 229, 3) := by decide +kernel
theorem dX11_formatArgument_63 : decode cX11_formatArgument 63 = .ok (.aload_n 0, 1) := by decide +kernel
theorem dX11_formatArgument_64 : decode cX11_formatArgument 64 = .ok (.bipush 41, 2) := by decide +kernel
theorem dX11_formatArgument_66 : decode cX11_formatArgument 66 = .ok (.invokevirtual 226, 3) := by decide +kernel
theorem dX11_formatArgument_69 : decode cX11_formatArgument 69 = .ok (.aload_n 0, 1) := by decide +kernel
theorem dX11_formatArgument_70 : decode cX11_formatArgument 70 = .ok (.aload_n 0, 1) := by decide +kernel
theorem dX11_formatArgument_71 : decode cX11_formatArgument 71 = .ok (.iload_n 2, 1) := by decide +kernel
theorem dX11_formatArgument_72 : decode cX11_formatArgument 72 = .ok (.invokevirtual 194, 3) := by decide +kernel
theorem dX11_formatArgument_75 : decode cX11_formatArgument 75 = .ok (.invokevirtual 226, 3) := by decide +kernel
theorem dX11_formatArgument_78 : decode cX11_formatArgument 78 = .ok (.iconst 0, 1) := by decide +kernel
theorem dX11_formatArgument_79 : decode cX11_formatArgument 79 = .ok (.istore 4, 2) := by decide +kernel
theorem dX11_formatArgument_81 : decode cX11_formatArgument 81 = .ok (.iload 4, 2) := by decide +kernel
theorem dX11_formatArgument_83 : decode cX11_formatArgument 83 = .ok (.aload_n 0, 1) := by decide +kernel
theorem dX11_formatArgument_84 : decode cX11_formatArgument 84 = .ok (.getfield 9, 3) := by decide +kernel
theorem dX11_formatArgument_87 : decode cX11_formatArgument 87 = .ok (.iconst 0, 1) := by decide +kernel
theorem dX11_formatArgument_88 : decode cX11_formatArgument 88 = .ok (.iaload, 1) := by decide +kernel
theorem dX11_formatArgument_89 : decode cX11_formatArgument 89 = .ok (.if_icmp .ge 32, 3) := by decide +kernel
theorem dX11_formatArgument_92 : decode cX11_formatArgument 92 = .ok (.iload_n 3, 1) := by decide +kernel
theorem dX11_formatArgument_93 : decode cX11_formatArgument 93 = .ok (.iload 4, 2) := by decide +kernel
theorem dX11_formatArgument_95 : decode cX11_formatArgument 95 = .ok (.ishr, 1) := by decide +kernel
theorem dX11_formatArgument_96 : decode cX11_formatArgument 96 = .ok (.iconst 1, 1) := by decide +kernel
theorem dX11_formatArgument_97 : decode cX11_formatArgument 97 = .ok (.iand, 1) := by decide +kernel
theorem dX11_formatArgument_98 : decode cX11_formatArgument 98 = .ok (.iconst 1, 1) := by decide +kernel
theorem dX11_formatArgument_99 : decode cX11_formatArgument 99 = .ok (.if_icmp .ne 16, 3) := by decide +kernel
theorem dX11_formatArgument_102 : decode cX11_formatArgument 102 = .ok (.aload_n 0, 1) := by decide +kernel
theorem dX11_formatArgument_103 : decode cX11_formatArgument 103 = .ok (.bipush 60, 2) := by decide +kernel
theorem dX11_formatArgument_105 : decode cX11_formatArgument 105 = .ok (.aload_n 0, 1) := by decide +kernel
theorem dX11_formatArgument_106 : decode cX11_formatArgument 106 = .ok (.iload 4, 2) := by decide +kernel
theorem dX11_formatArgument_108 : decode cX11_formatArgument 108 = .ok (.iconst 0, 1) := by decide +kernel
theorem dX11_formatArgument_109 : decode cX11_formatArgument 109 = .ok (.invokevirtual 53, 3) := by decide +kernel
theorem dX11_formatArgument_112 : decode cX11_formatArgument 112 = .ok (.invokevirtual 229, 3) := by decide +kernel
theorem dX11_formatArgument_115 : decode cX11_formatArgument 115 = .ok (.iinc 4 1, 3) := by decide +kernel
theorem dX11_formatArgument_118 : decode cX11_formatArgument 118 = .ok (.goto (-37), 3) := by decide +kernel
theorem dX11_formatArgument_121 : decode cX11_formatArgument 121 = .ok (.aload_n 0, 1) := by decide +kernel
theorem dX11_formatArgument_122 : decode cX11_formatArgument 122 = .ok (.getfield 220, 3) := by decide +kernel
theorem dX11_formatArgument_125 : decode cX11_formatArgument 125 = .ok (.ireturn, 1) := by decide +kernel
theorem dX11_formatDialogue_0 : decode cX11_formatDialogue 0 = .ok (.aload_n 0, 1) := by decide +kernel
theorem dX11_formatDialogue_1 : decode cX11_formatDialogue 1 = .ok (.aload_n 0, 1) := by decide +kernel
theorem dX11_formatDialogue_2 : decode cX11_formatDialogue 2 = .ok (.getfield 9, 3) := by decide +kernel
theorem dX11_formatDialogue_5 : decode cX11_formatDialogue 5 = .ok (.iconst 3, 1) := by decide +kernel
theorem dX11_formatDialogue_6 : decode cX11_formatDialogue 6 = .ok (.iaload, 1) := by decide +kernel
theorem dX11_formatDialogue_7 : decode cX11_formatDialogue 7 = .ok (.ifCond .le 7, 3) := by decide +kernel
theorem dX11_formatDialogue_10 : decode cX11_formatDialogue 10 = .ok (.iconst 1, 1) := by decide +kernel
theorem dX11_formatDialogue_11 : decode cX11_formatDialogue 11 = .ok (.goto 4, 3) := by decide +kernel
theorem dX11_formatDialogue_14 : decode cX11_formatDialogue 14 = .ok (.iconst 0, 1) := by decide +kernel
theorem dX11_formatDialogue_15 : decode cX11_formatDialogue 15 = .ok (.invokevirtual 181, 3) := by decide +kernel
theorem dX11_formatDialogue_18 : decode cX11_formatDialogue 18 = .ok (.ifCond .ne 5, 3) := by decide +kernel
theorem dX11_formatDialogue_21 : decode cX11_formatDialogue 21 = .ok (.iconst 0, 1) := by decide +kernel
theorem dX11_formatDialogue_22 : decode cX11_formatDialogue 22 = .ok (.ireturn, 1) := by decide +kernel
theorem dX11_formatDialogue_23 : decode cX11_formatDialogue 23 = .ok (.aload_n 0, 1) := by decide +kernel
theorem dX11_formatDialogue_24 : decode cX11_formatDialogue 24 = .ok (.iconst 0, 1) := by decide +kernel
theorem dX11_formatDialogue_25 : decode cX11_formatDialogue 25 = .ok (.putfield 220, 3) := by decide +kernel
theorem dX11_formatDialogue_28 : decode cX11_formatDialogue 28 = .ok (.iconst 0, 1) := by decide +kernel
theorem dX11_formatDialogue_29 : decode cX11_formatDialogue 29 = .ok (.istore_n 1, 1) := by decide +kernel
theorem dX11_formatDialogue_30 : decode cX11_formatDialogue 30 = .ok (.iload_n 1, 1) := by decide +kernel
theorem dX11_formatDialogue_31 : decode cX11_formatDialogue 31 = .ok (.aload_n 0, 1) := by decide +kernel
theorem dX11_formatDialogue_32 : decode cX11_formatDialogue 32 = .ok (.getfield 9, 3) := by decide +kernel
theorem dX11_formatDialogue_35 : decode cX11_formatDialogue 35 = .ok (.iconst 3, 1) := by decide +kernel
theorem dX11_formatDialogue_36 : decode cX11_formatDialogue 36 = .ok (.iaload, 1) := by decide +kernel
theorem dX11_formatDialogue_37 : decode cX11_formatDialogue 37 = .ok (.if_icmp .ge 45, 3) := by decide +kernel
theorem dX11_formatDialogue_40 : decode cX11_formatDialogue 40 = .ok (.iload_n 1, 1) := by decide +kernel
theorem dX11_formatDialogue_41 : decode cX11_formatDialogue 41 = .ok (.ifCond .le 9, 3) := by decide +kernel
theorem dX11_formatDialogue_44 : decode cX11_formatDialogue 44 = .ok (.aload_n 0, 1) := by decide +kernel
theorem dX11_formatDialogue_45 : decode cX11_formatDialogue 45 = .ok (.bipush 32, 2) := by decide +kernel
theorem dX11_formatDialogue_47 : decode cX11_formatDialogue 47 = .ok (.invokevirtual 226, 3) := by decide +kernel
theorem dX11_formatDialogue_50 : decode cX11_formatDialogue 50 = .ok (.aload_n 0, 1) := by decide +kernel
theorem dX11_formatDialogue_51 : decode cX11_formatDialogue 51 = .ok (.iload_n 1, 1) := by decide +kernel
theorem dX11_formatDialogue_52 : decode cX11_formatDialogue 52 = .ok (.iconst 2, 1) := by decide +kernel
theorem dX11_formatDialogue_53 : decode cX11_formatDialogue 53 = .ok (.irem, 1) := by decide +kernel
theorem dX11_formatDialogue_54 : decode cX11_formatDialogue 54 = .ok (.ifCond .ne 8, 3) := by decide +kernel
theorem dX11_formatDialogue_57 : decode cX11_formatDialogue 57 = .ok (.bipush 112, 2) := by decide +kernel
theorem dX11_formatDialogue_59 : decode cX11_formatDialogue 59 = .ok (.goto 5, 3) := by decide +kernel
theorem dX11_formatDialogue_62 : decode cX11_formatDialogue 62 = .ok (.bipush 111, 2) := by decide +kernel
theorem dX11_formatDialogue_64 : decode cX11_formatDialogue 64 = .ok (.aload_n 0, 1) := by decide +kernel
theorem dX11_formatDialogue_65 : decode cX11_formatDialogue 65 = .ok (.getfield 9, 3) := by decide +kernel
theorem dX11_formatDialogue_68 : decode cX11_formatDialogue 68 = .ok (.bipush 39, 2) := by decide +kernel
theorem dX11_formatDialogue_70 : decode cX11_formatDialogue 70 = .ok (.iload_n 1, 1) := by decide +kernel
theorem dX11_formatDialogue_71 : decode cX11_formatDialogue 71 = .ok (.iadd, 1) := by decide +kernel
theorem dX11_formatDialogue_72 : decode cX11_formatDialogue 72 = .ok (.iaload, 1) := by decide +kernel
theorem dX11_formatDialogue_73 : decode cX11_formatDialogue 73 = .ok (.invokevirtual 229, 3) := by decide +kernel
theorem dX11_formatDialogue_76 : decode cX11_formatDialogue 76 = .ok (.iinc 1 1, 3) := by decide +kernel
theorem dX11_formatDialogue_79 : decode cX11_formatDialogue 79 = .ok (.goto (-49), 3) := by decide +kernel
theorem dX11_formatDialogue_82 : decode cX11_formatDialogue 82 = .ok (.aload_n 0, 1) := by decide +kernel
theorem dX11_formatDialogue_83 : decode cX11_formatDialogue 83 = .ok (.getfield 220, 3) := by decide +kernel
theorem dX11_formatDialogue_86 : decode cX11_formatDialogue 86 = .ok (.ireturn, 1) := by decide +kernel
theorem dX11_lineChar_0 : decode cX11_lineChar 0 = .ok (.aload_n 0, 1) := by decide +kernel
theorem dX11_lineChar_1 : decode cX11_lineChar 1 = .ok (.iload_n 1, 1) := by decide +kernel
theorem dX11_lineChar_2 : decode cX11_lineChar 2 = .ok (.iconst 0, 1) := by decide +kernel
theorem dX11_lineChar_3 : decode cX11_lineChar 3 = .ok (.aload_n 0, 1) := by decide +kernel
theorem dX11_lineChar_4 : decode cX11_lineChar 4 = .ok (.getfield 220, 3) := by decide +kernel
theorem dX11_lineChar_7 : decode cX11_lineChar 7 = .ok (.iconst 1, 1) := by decide +kernel
theorem dX11_lineChar_8 : decode cX11_lineChar 8 = .ok (.isub, 1) := by decide +kernel
theorem dX11_lineChar_9 : decode cX11_lineChar 9 = .ok (.invokestatic 109, 3) := by decide +kernel
theorem dX11_lineChar_12 : decode cX11_lineChar 12 = .ok (.invokevirtual 181, 3) := by decide +kernel
theorem dX11_lineChar_15 : decode cX11_lineChar 15 = .ok (.ifCond .eq 12, 3) := by decide +kernel
theorem dX11_lineChar_18 : decode cX11_lineChar 18 = .ok (.aload_n 0, 1) := by decide +kernel
theorem dX11_lineChar_19 : decode cX11_lineChar 19 = .ok (.getfield 23, 3) := by decide +kernel
theorem dX11_lineChar_22 : decode cX11_lineChar 22 = .ok (.iload_n 1, 1) := by decide +kernel
theorem dX11_lineChar_23 : decode cX11_lineChar 23 = .ok (.caload, 1) := by decide +kernel
theorem dX11_lineChar_24 : decode cX11_lineChar 24 = .ok (.goto 4, 3) := by decide +kernel
theorem dX11_lineChar_27 : decode cX11_lineChar 27 = .ok (.iconst 0, 1) := by decide +kernel
theorem dX11_lineChar_28 : decode cX11_lineChar 28 = .ok (.ireturn, 1) := by decide +kernel
theorem dX11_append_0 : decode cX11_append 0 = .ok (.aload_n 0, 1) := by decide +kernel
theorem dX11_append_1 : decode cX11_append 1 = .ok (.iload_n 1, 1) := by decide +kernel
theorem dX11_append_2 : decode cX11_append 2 = .ok (.bipush 32, 2) := by decide +kernel
theorem dX11_append_4 : decode cX11_append 4 = .ok (.bipush 126, 2) := by decide +kernel
theorem dX11_append_6 : decode cX11_append 6 = .ok (.invokestatic 109, 3) := by decide +kernel
theorem dX11_append_9 : decode cX11_append 9 = .ok (.ifCond .ne 7, 3) := by decide +kernel
theorem dX11_append_12 : decode cX11_append 12 = .ok (.iconst 1, 1) := by decide +kernel
theorem dX11_append_13 : decode cX11_append 13 = .ok (.goto 17, 3) := by decide +kernel
theorem dX11_append_16 : decode cX11_append 16 = .ok (.aload_n 0, 1) := by decide +kernel
theorem dX11_append_17 : decode cX11_append 17 = .ok (.getfield 232, 3) := by decide +kernel
theorem dX11_append_20 : decode cX11_append 20 = .ok (.bipush 60, 2) := by decide +kernel
theorem dX11_append_22 : decode cX11_append 22 = .ok (.if_icmp .ne 7, 3) := by decide +kernel
theorem dX11_append_25 : decode cX11_append 25 = .ok (.iconst 2, 1) := by decide +kernel
theorem dX11_append_26 : decode cX11_append 26 = .ok (.goto 4, 3) := by decide +kernel
theorem dX11_append_29 : decode cX11_append 29 = .ok (.iconst 0, 1) := by decide +kernel
theorem dX11_append_30 : decode cX11_append 30 = .ok (.putfield 40, 3) := by decide +kernel
theorem dX11_append_33 : decode cX11_append 33 = .ok (.aload_n 0, 1) := by decide +kernel
theorem dX11_append_34 : decode cX11_append 34 = .ok (.getfield 40, 3) := by decide +kernel
theorem dX11_append_37 : decode cX11_append 37 = .ok (.ifCond .eq 5, 3) := by decide +kernel
theorem dX11_append_40 : decode cX11_append 40 = .ok (.iconst 0, 1) := by decide +kernel
theorem dX11_append_41 : decode cX11_append 41 = .ok (.ireturn, 1) := by decide +kernel
theorem dX11_append_42 : decode cX11_append 42 = .ok (.aload_n 0, 1) := by decide +kernel
theorem dX11_append_43 : decode cX11_append 43 = .ok (.getfield 27, 3) := by decide +kernel
theorem dX11_append_46 : decode cX11_append 46 = .ok (.aload_n 0, 1) := by decide +kernel
theorem dX11_append_47 : decode cX11_append 47 = .ok (.getfield 232, 3) := by decide +kernel
theorem dX11_append_50 : decode cX11_append 50 = .ok (.iload_n 1, 1) := by decide +kernel
theorem dX11_append_51 : decode cX11_append 51 = .ok (.castore, 1) := by decide +kernel
theorem dX11_append_52 : decode cX11_append 52 = .ok (.aload_n 0, 1) := by decide +kernel
theorem dX11_append_53 : decode cX11_append 53 = .ok (.dup, 1) := by decide +kernel
theorem dX11_append_54 : decode cX11_append 54 = .ok (.getfield 232, 3) := by decide +kernel
theorem dX11_append_57 : decode cX11_append 57 = .ok (.iconst 1, 1) := by decide +kernel
theorem dX11_append_58 : decode cX11_append 58 = .ok (.iadd, 1) := by decide +kernel
theorem dX11_append_59 : decode cX11_append 59 = .ok (.putfield 232, 3) := by decide +kernel
theorem dX11_append_62 : decode cX11_append 62 = .ok (.aload_n 0, 1) := by decide +kernel
theorem dX11_append_63 : decode cX11_append 63 = .ok (.getfield 232, 3) := by decide +kernel
theorem dX11_append_66 : decode cX11_append 66 = .ok (.ireturn, 1) := by decide +kernel
theorem dX11_sign_0 : decode cX11_sign 0 = .ok (.aload_n 0, 1) := by decide +kernel
theorem dX11_sign_1 : decode cX11_sign 1 = .ok (.getfield 235, 3) := by decide +kernel
theorem dX11_sign_4 : decode cX11_sign 4 = .ok (.aload_n 0, 1) := by decide +kernel
theorem dX11_sign_5 : decode cX11_sign 5 = .ok (.getfield 232, 3) := by decide +kernel
theorem dX11_sign_8 : decode cX11_sign 8 = .ok (.if_icmp .ge 15, 3) := by decide +kernel
theorem dX11_sign_11 : decode cX11_sign 11 = .ok (.aload_n 0, 1) := by decide +kernel
theorem dX11_sign_12 : decode cX11_sign 12 = .ok (.getfield 27, 3) := by decide +kernel
theorem dX11_sign_15 : decode cX11_sign 15 = .ok (.aload_n 0, 1) := by decide +kernel
theorem dX11_sign_16 : decode cX11_sign 16 = .ok (.getfield 235, 3) := by decide +kernel
theorem dX11_sign_19 : decode cX11_sign 19 = .ok (.caload, 1) := by decide +kernel
theorem dX11_sign_20 : decode cX11_sign 20 = .ok (.goto 4, 3) := by decide +kernel
theorem dX11_sign_23 : decode cX11_sign 23 = .ok (.iconst (-1), 1) := by decide +kernel
theorem dX11_sign_24 : decode cX11_sign 24 = .ok (.ireturn, 1) := by decide +kernel
theorem dX11_needs_0 : decode cX11_needs 0 = .ok (.aload_n 0, 1) := by decide +kernel
theorem dX11_needs_1 : decode cX11_needs 1 = .ok (.getfield 238, 3) := by decide +kernel
theorem dX11_needs_4 : decode cX11_needs 4 = .ok (.ifCond .lt 4, 3) := by decide +kernel
theorem dX11_needs_7 : decode cX11_needs 7 = .ok (.return_, 1) := by decide +kernel
theorem dX11_needs_8 : decode cX11_needs 8 = .ok (.aload_n 0, 1) := by decide +kernel
theorem dX11_needs_9 : decode cX11_needs 9 = .ok (.invokevirtual 241, 3) := by decide +kernel
theorem dX11_needs_12 : decode cX11_needs 12 = .ok (.iload_n 1, 1) := by decide +kernel
theorem dX11_needs_13 : decode cX11_needs 13 = .ok (.if_icmp .eq 12, 3) := by decide +kernel
theorem dX11_needs_16 : decode cX11_needs 16 = .ok (.aload_n 0, 1) := by decide +kernel
theorem dX11_needs_17 : decode cX11_needs 17 = .ok (.aload_n 0, 1) := by decide +kernel
theorem dX11_needs_18 : decode cX11_needs 18 = .ok (.getfield 235, 3) := by decide +kernel
theorem dX11_needs_21 : decode cX11_needs 21 = .ok (.putfield 238, 3) := by decide +kernel
theorem dX11_needs_24 : decode cX11_needs 24 = .ok (.return_, 1) := by decide +kernel
theorem dX11_needs_25 : decode cX11_needs 25 = .ok (.aload_n 0, 1) := by decide +kernel
theorem dX11_needs_26 : decode cX11_needs 26 = .ok (.dup, 1) := by decide +kernel
theorem dX11_needs_27 : decode cX11_needs 27 = .ok (.getfield 235, 3) := by decide +kernel
theorem dX11_needs_30 : decode cX11_needs 30 = .ok (.iconst 1, 1) := by decide +kernel
theorem dX11_needs_31 : decode cX11_needs 31 = .ok (.iadd, 1) := by decide +kernel
theorem dX11_needs_32 : decode cX11_needs 32 = .ok (.putfield 235, 3) := by decide +kernel
theorem dX11_needs_35 : decode cX11_needs 35 = .ok (.return_, 1) := by decide +kernel
theorem dX11_letters_0 : decode cX11_letters 0 = .ok (.aload_n 0, 1) := by decide +kernel
theorem dX11_letters_1 : decode cX11_letters 1 = .ok (.iload_n 1, 1) := by decide +kernel
theorem dX11_letters_2 : decode cX11_letters 2 = .ok (.invokevirtual 244, 3) := by decide +kernel
theorem dX11_letters_5 : decode cX11_letters 5 = .ok (.aload_n 0, 1) := by decide +kernel
theorem dX11_letters_6 : decode cX11_letters 6 = .ok (.iload_n 2, 1) := by decide +kernel
theorem dX11_letters_7 : decode cX11_letters 7 = .ok (.invokevirtual 244, 3) := by decide +kernel
theorem dX11_letters_10 : decode cX11_letters 10 = .ok (.aload_n 0, 1) := by decide +kernel
theorem dX11_letters_11 : decode cX11_letters 11 = .ok (.iload_n 3, 1) := by decide +kernel
theorem dX11_letters_12 : decode cX11_letters 12 = .ok (.invokevirtual 244, 3) := by decide +kernel
theorem dX11_letters_15 : decode cX11_letters 15 = .ok (.return_, 1) := by decide +kernel
theorem dX11_behind_0 : decode cX11_behind 0 = .ok (.aload_n 0, 1) := by decide +kernel
theorem dX11_behind_1 : decode cX11_behind 1 = .ok (.iload_n 1, 1) := by decide +kernel
theorem dX11_behind_2 : decode cX11_behind 2 = .ok (.invokevirtual 244, 3) := by decide +kernel
theorem dX11_behind_5 : decode cX11_behind 5 = .ok (.aload_n 0, 1) := by decide +kernel
theorem dX11_behind_6 : decode cX11_behind 6 = .ok (.getfield 238, 3) := by decide +kernel
theorem dX11_behind_9 : decode cX11_behind 9 = .ok (.ifCond .lt 5, 3) := by decide +kernel
theorem dX11_behind_12 : decode cX11_behind 12 = .ok (.iconst 0, 1) := by decide +kernel
theorem dX11_behind_13 : decode cX11_behind 13 = .ok (.ireturn, 1) := by decide +kernel
theorem dX11_behind_14 : decode cX11_behind 14 = .ok (.aload_n 0, 1) := by decide +kernel
theorem dX11_behind_15 : decode cX11_behind 15 = .ok (.invokevirtual 241, 3) := by decide +kernel
theorem dX11_behind_18 : decode cX11_behind 18 = .ok (.bipush 48, 2) := by decide +kernel
theorem dX11_behind_20 : decode cX11_behind 20 = .ok (.bipush 57, 2) := by decide +kernel
theorem dX11_behind_22 : decode cX11_behind 22 = .ok (.invokestatic 109, 3) := by decide +kernel
theorem dX11_behind_25 : decode cX11_behind 25 = .ok (.ifCond .ne 13, 3) := by decide +kernel
theorem dX11_behind_28 : decode cX11_behind 28 = .ok (.aload_n 0, 1) := by decide +kernel
theorem dX11_behind_29 : decode cX11_behind 29 = .ok (.aload_n 0, 1) := by decide +kernel
theorem dX11_behind_30 : decode cX11_behind 30 = .ok (.getfield 235, 3) := by decide +kernel
theorem dX11_behind_33 : decode cX11_behind 33 = .ok (.putfield 238, 3) := by decide +kernel
theorem dX11_behind_36 : decode cX11_behind 36 = .ok (.iconst 0, 1) := by decide +kernel
theorem dX11_behind_37 : decode cX11_behind 37 = .ok (.ireturn, 1) := by decide +kernel
theorem dX11_behind_38 : decode cX11_behind 38 = .ok (.iconst 0, 1) := by decide +kernel
theorem dX11_behind_39 : decode cX11_behind 39 = .ok (.istore_n 3, 1) := by decide +kernel
theorem dX11_behind_40 : decode cX11_behind 40 = .ok (.iconst 0, 1) := by decide +kernel
theorem dX11_behind_41 : decode cX11_behind 41 = .ok (.istore 4, 2) := by decide +kernel
theorem dX11_behind_43 : decode cX11_behind 43 = .ok (.iload 4, 2) := by decide +kernel
theorem dX11_behind_45 : decode cX11_behind 45 = .ok (.iload_n 2, 1) := by decide +kernel
theorem dX11_behind_46 : decode cX11_behind 46 = .ok (.if_icmp .ge 46, 3) := by decide +kernel
theorem dX11_behind_49 : decode cX11_behind 49 = .ok (.aload_n 0, 1) := by decide +kernel
theorem dX11_behind_50 : decode cX11_behind 50 = .ok (.invokevirtual 241, 3) := by decide +kernel
theorem dX11_behind_53 : decode cX11_behind 53 = .ok (.bipush 48, 2) := by decide +kernel
theorem dX11_behind_55 : decode cX11_behind 55 = .ok (.bipush 57, 2) := by decide +kernel
theorem dX11_behind_57 : decode cX11_behind 57 = .ok (.invokestatic 109, 3) := by decide +kernel
theorem dX11_behind_60 : decode cX11_behind 60 = .ok (.ifCond .eq 32, 3) := by decide +kernel
theorem dX11_behind_63 : decode cX11_behind 63 = .ok (.bipush 10, 2) := by decide +kernel
theorem dX11_behind_65 : decode cX11_behind 65 = .ok (.iload_n 3, 1) := by decide +kernel
theorem dX11_behind_66 : decode cX11_behind 66 = .ok (.imul, 1) := by decide +kernel
theorem dX11_behind_67 : decode cX11_behind 67 = .ok (.aload_n 0, 1) := by decide +kernel
theorem dX11_behind_68 : decode cX11_behind 68 = .ok (.invokevirtual 241, 3) := by decide +kernel
theorem dX11_behind_71 : decode cX11_behind 71 = .ok (.iadd, 1) := by decide +kernel
theorem dX11_behind_72 : decode cX11_behind 72 = .ok (.bipush 48, 2) := by decide +kernel
theorem dX11_behind_74 : decode cX11_behind 74 = .ok (.isub, 1) := by decide +kernel
theorem dX11_behind_75 : decode cX11_behind 75 = .ok (.istore_n 3, 1) := by decide +kernel
theorem dX11_behind_76 : decode cX11_behind 76 = .ok (.aload_n 0, 1) := by decide +kernel
theorem dX11_behind_77 : decode cX11_behind 77 = .ok (.dup, 1) := by decide +kernel
theorem dX11_behind_78 : decode cX11_behind 78 = .ok (.getfield 235, 3) := by decide +kernel
theorem dX11_behind_81 : decode cX11_behind 81 = .ok (.iconst 1, 1) := by decide +kernel
theorem dX11_behind_82 : decode cX11_behind 82 = .ok (.iadd, 1) := by decide +kernel
theorem dX11_behind_83 : decode cX11_behind 83 = .ok (.putfield 235, 3) := by decide +kernel
theorem dX11_behind_86 : decode cX11_behind 86 = .ok (.iinc 4 1, 3) := by decide +kernel
theorem dX11_behind_89 : decode cX11_behind 89 = .ok (.goto (-46), 3) := by decide +kernel
theorem dX11_behind_92 : decode cX11_behind 92 = .ok (.iload_n 3, 1) := by decide +kernel
theorem dX11_behind_93 : decode cX11_behind 93 = .ok (.ireturn, 1) := by decide +kernel
theorem dX11_again_0 : decode cX11_again 0 = .ok (.aload_n 0, 1) := by decide +kernel
theorem dX11_again_1 : decode cX11_again 1 = .ok (.bipush 101, 2) := by decide +kernel
theorem dX11_again_3 : decode cX11_again 3 = .ok (.invokevirtual 244, 3) := by decide +kernel
theorem dX11_again_6 : decode cX11_again 6 = .ok (.aload_n 0, 1) := by decide +kernel
theorem dX11_again_7 : decode cX11_again 7 = .ok (.getfield 238, 3) := by decide +kernel
theorem dX11_again_10 : decode cX11_again 10 = .ok (.ifCond .lt 6, 3) := by decide +kernel
theorem dX11_again_13 : decode cX11_again 13 = .ok (.bipush 109, 2) := by decide +kernel
theorem dX11_again_15 : decode cX11_again 15 = .ok (.ireturn, 1) := by decide +kernel
theorem dX11_again_16 : decode cX11_again 16 = .ok (.aload_n 0, 1) := by decide +kernel
theorem dX11_again_17 : decode cX11_again 17 = .ok (.invokevirtual 241, 3) := by decide +kernel
theorem dX11_again_20 : decode cX11_again 20 = .ok (.bipush 110, 2) := by decide +kernel
theorem dX11_again_22 : decode cX11_again 22 = .ok (.if_icmp .ne 16, 3) := by decide +kernel
theorem dX11_again_25 : decode cX11_again 25 = .ok (.aload_n 0, 1) := by decide +kernel
theorem dX11_again_26 : decode cX11_again 26 = .ok (.bipush 110, 2) := by decide +kernel
theorem dX11_again_28 : decode cX11_again 28 = .ok (.bipush 101, 2) := by decide +kernel
theorem dX11_again_30 : decode cX11_again 30 = .ok (.bipush 119, 2) := by decide +kernel
theorem dX11_again_32 : decode cX11_again 32 = .ok (.invokevirtual 247, 3) := by decide +kernel
theorem dX11_again_35 : decode cX11_again 35 = .ok (.bipush 110, 2) := by decide +kernel
theorem dX11_again_37 : decode cX11_again 37 = .ok (.ireturn, 1) := by decide +kernel
theorem dX11_again_38 : decode cX11_again 38 = .ok (.aload_n 0, 1) := by decide +kernel
theorem dX11_again_39 : decode cX11_again 39 = .ok (.invokevirtual 241, 3) := by decide +kernel
theorem dX11_again_42 : decode cX11_again 42 = .ok (.bipush 112, 2) := by decide +kernel
theorem dX11_again_44 : decode cX11_again 44 = .ok (.if_icmp .ne 16, 3) := by decide +kernel
theorem dX11_again_47 : decode cX11_again 47 = .ok (.aload_n 0, 1) := by decide +kernel
theorem dX11_again_48 : decode cX11_again 48 = .ok (.bipush 112, 2) := by decide +kernel
theorem dX11_again_50 : decode cX11_again 50 = .ok (.bipush 108, 2) := by decide +kernel
theorem dX11_again_52 : decode cX11_again 52 = .ok (.bipush 121, 2) := by decide +kernel
theorem dX11_again_54 : decode cX11_again 54 = .ok (.invokevirtual 247, 3) := by decide +kernel
theorem dX11_again_57 : decode cX11_again 57 = .ok (.bipush 112, 2) := by decide +kernel
theorem dX11_again_59 : decode cX11_again 59 = .ok (.ireturn, 1) := by decide +kernel
theorem dX11_again_60 : decode cX11_again 60 = .ok (.aload_n 0, 1) := by decide +kernel
theorem dX11_again_61 : decode cX11_again 61 = .ok (.bipush 109, 2) := by decide +kernel
theorem dX11_again_63 : decode cX11_again 63 = .ok (.bipush 111, 2) := by decide +kernel
theorem dX11_again_65 : decode cX11_again 65 = .ok (.bipush 118, 2) := by decide +kernel
theorem dX11_again_67 : decode cX11_again 67 = .ok (.invokevirtual 247, 3) := by decide +kernel
theorem dX11_again_70 : decode cX11_again 70 = .ok (.aload_n 0, 1) := by decide +kernel
theorem dX11_again_71 : decode cX11_again 71 = .ok (.bipush 101, 2) := by decide +kernel
theorem dX11_again_73 : decode cX11_again 73 = .ok (.invokevirtual 244, 3) := by decide +kernel
theorem dX11_again_76 : decode cX11_again 76 = .ok (.bipush 109, 2) := by decide +kernel
theorem dX11_again_78 : decode cX11_again 78 = .ok (.ireturn, 1) := by decide +kernel
theorem dX11_word_0 : decode cX11_word 0 = .ok (.iload_n 1, 1) := by decide +kernel
theorem dX11_word_1 : decode cX11_word 1 = .ok (.tableswitch 214 98 121 #[173, 154, 201, 186, 214, 214, 214, 214, 214, 214, 214, 214, 214, 214, 214, 214, 111, 214, 214, 214, 214, 135, 214, 116], 111) := by decide +kernel
theorem dX11_word_112 : decode cX11_word 112 = .ok (.aload_n 0, 1) := by decide +kernel
theorem dX11_word_113 : decode cX11_word 113 = .ok (.invokevirtual 251, 3) := by decide +kernel
theorem dX11_word_116 : decode cX11_word 116 = .ok (.ireturn, 1) := by decide +kernel
theorem dX11_word_117 : decode cX11_word 117 = .ok (.aload_n 0, 1) := by decide +kernel
theorem dX11_word_118 : decode cX11_word 118 = .ok (.bipush 105, 2) := by decide +kernel
theorem dX11_word_120 : decode cX11_word 120 = .ok (.bipush 101, 2) := by decide +kernel
theorem dX11_word_122 : decode cX11_word 122 = .ok (.bipush 108, 2) := by decide +kernel
theorem dX11_word_124 : decode cX11_word 124 = .ok (.invokevirtual 247, 3) := by decide +kernel
theorem dX11_word_127 : decode cX11_word 127 = .ok (.aload_n 0, 1) := by decide +kernel
theorem dX11_word_128 : decode cX11_word 128 = .ok (.bipush 100, 2) := by decide +kernel
theorem dX11_word_130 : decode cX11_word 130 = .ok (.invokevirtual 244, 3) := by decide +kernel
theorem dX11_word_133 : decode cX11_word 133 = .ok (.bipush 121, 2) := by decide +kernel
theorem dX11_word_135 : decode cX11_word 135 = .ok (.ireturn, 1) := by decide +kernel
theorem dX11_word_136 : decode cX11_word 136 = .ok (.aload_n 0, 1) := by decide +kernel
theorem dX11_word_137 : decode cX11_word 137 = .ok (.bipush 101, 2) := by decide +kernel
theorem dX11_word_139 : decode cX11_word 139 = .ok (.bipush 105, 2) := by decide +kernel
theorem dX11_word_141 : decode cX11_word 141 = .ok (.bipush 103, 2) := by decide +kernel
theorem dX11_word_143 : decode cX11_word 143 = .ok (.invokevirtual 247, 3) := by decide +kernel
theorem dX11_word_146 : decode cX11_word 146 = .ok (.aload_n 0, 1) := by decide +kernel
theorem dX11_word_147 : decode cX11_word 147 = .ok (.bipush 104, 2) := by decide +kernel
theorem dX11_word_149 : decode cX11_word 149 = .ok (.invokevirtual 244, 3) := by decide +kernel
theorem dX11_word_152 : decode cX11_word 152 = .ok (.bipush 119, 2) := by decide +kernel
theorem dX11_word_154 : decode cX11_word 154 = .ok (.ireturn, 1) := by decide +kernel
theorem dX11_word_155 : decode cX11_word 155 = .ok (.aload_n 0, 1) := by decide +kernel
theorem dX11_word_156 : decode cX11_word 156 = .ok (.bipush 108, 2) := by decide +kernel
theorem dX11_word_158 : decode cX11_word 158 = .ok (.bipush 97, 2) := by decide +kernel
theorem dX11_word_160 : decode cX11_word 160 = .ok (.bipush 105, 2) := by decide +kernel
theorem dX11_word_162 : decode cX11_word 162 = .ok (.invokevirtual 247, 3) := by decide +kernel
theorem dX11_word_165 : decode cX11_word 165 = .ok (.aload_n 0, 1) := by decide +kernel
theorem dX11_word_166 : decode cX11_word 166 = .ok (.bipush 109, 2) := by decide +kernel
theorem dX11_word_168 : decode cX11_word 168 = .ok (.invokevirtual 244, 3) := by decide +kernel
theorem dX11_word_171 : decode cX11_word 171 = .ok (.bipush 99, 2) := by decide +kernel
theorem dX11_word_173 : decode cX11_word 173 = .ok (.ireturn, 1) := by decide +kernel
theorem dX11_word_174 : decode cX11_word 174 = .ok (.aload_n 0, 1) := by decide +kernel
theorem dX11_word_175 : decode cX11_word 175 = .ok (.bipush 97, 2) := by decide +kernel
theorem dX11_word_177 : decode cX11_word 177 = .ok (.bipush 99, 2) := by decide +kernel
theorem dX11_word_179 : decode cX11_word 179 = .ok (.bipush 107, 2) := by decide +kernel
theorem dX11_word_181 : decode cX11_word 181 = .ok (.invokevirtual 247, 3) := by decide +kernel
theorem dX11_word_184 : decode cX11_word 184 = .ok (.bipush 98, 2) := by decide +kernel
theorem dX11_word_186 : decode cX11_word 186 = .ok (.ireturn, 1) := by decide +kernel
theorem dX11_word_187 : decode cX11_word 187 = .ok (.aload_n 0, 1) := by decide +kernel
theorem dX11_word_188 : decode cX11_word 188 = .ok (.bipush 110, 2) := by decide +kernel
theorem dX11_word_190 : decode cX11_word 190 = .ok (.invokevirtual 244, 3) := by decide +kernel
theorem dX11_word_193 : decode cX11_word 193 = .ok (.aload_n 0, 1) := by decide +kernel
theorem dX11_word_194 : decode cX11_word 194 = .ok (.bipush 100, 2) := by decide +kernel
theorem dX11_word_196 : decode cX11_word 196 = .ok (.invokevirtual 244, 3) := by decide +kernel
theorem dX11_word_199 : decode cX11_word 199 = .ok (.bipush 101, 2) := by decide +kernel
theorem dX11_word_201 : decode cX11_word 201 = .ok (.ireturn, 1) := by decide +kernel
theorem dX11_word_202 : decode cX11_word 202 = .ok (.aload_n 0, 1) := by decide +kernel
theorem dX11_word_203 : decode cX11_word 203 = .ok (.bipush 97, 2) := by decide +kernel
theorem dX11_word_205 : decode cX11_word 205 = .ok (.bipush 121, 2) := by decide +kernel
theorem dX11_word_207 : decode cX11_word 207 = .ok (.bipush 115, 2) := by decide +kernel
theorem dX11_word_209 : decode cX11_word 209 = .ok (.invokevirtual 247, 3) := by decide +kernel
theorem dX11_word_212 : decode cX11_word 212 = .ok (.bipush 100, 2) := by decide +kernel
theorem dX11_word_214 : decode cX11_word 214 = .ok (.ireturn, 1) := by decide +kernel
theorem dX11_word_215 : decode cX11_word 215 = .ok (.aload_n 0, 1) := by decide +kernel
theorem dX11_word_216 : decode cX11_word 216 = .ok (.invokevirtual 241, 3) := by decide +kernel
theorem dX11_word_219 : decode cX11_word 219 = .ok (.bipush 116, 2) := by decide +kernel
theorem dX11_word_221 : decode cX11_word 221 = .ok (.if_icmp .ne 28, 3) := by decide +kernel
theorem dX11_word_224 : decode cX11_word 224 = .ok (.aload_n 0, 1) := by decide +kernel
theorem dX11_word_225 : decode cX11_word 225 = .ok (.bipush 116, 2) := by decide +kernel
theorem dX11_word_227 : decode cX11_word 227 = .ok (.bipush 116, 2) := by decide +kernel
theorem dX11_word_229 : decode cX11_word 229 = .ok (.bipush 97, 2) := by decide +kernel
theorem dX11_word_231 : decode cX11_word 231 = .ok (.invokevirtual 247, 3) := by decide +kernel
theorem dX11_word_234 : decode cX11_word 234 = .ok (.aload_n 0, 1) := by decide +kernel
theorem dX11_word_235 : decode cX11_word 235 = .ok (.bipush 99, 2) := by decide +kernel
theorem dX11_word_237 : decode cX11_word 237 = .ok (.invokevirtual 244, 3) := by decide +kernel
theorem dX11_word_240 : decode cX11_word 240 = .ok (.aload_n 0, 1) := by decide +kernel
theorem dX11_word_241 : decode cX11_word 241 = .ok (.bipush 107, 2) := by decide +kernel
theorem dX11_word_243 : decode cX11_word 243 = .ok (.invokevirtual 244, 3) := by decide +kernel
theorem dX11_word_246 : decode cX11_word 246 = .ok (.bipush 116, 2) := by decide +kernel
theorem dX11_word_248 : decode cX11_word 248 = .ok (.ireturn, 1) := by decide +kernel
theorem dX11_word_249 : decode cX11_word 249 = .ok (.aload_n 0, 1) := by decide +kernel
theorem dX11_word_250 : decode cX11_word 250 = .ok (.bipush 100, 2) := by decide +kernel
theorem dX11_word_252 : decode cX11_word 252 = .ok (.invokevirtual 244, 3) := by decide +kernel
theorem dX11_word_255 : decode cX11_word 255 = .ok (.aload_n 0, 1) := by decide +kernel
theorem dX11_word_256 : decode cX11_word 256 = .ok (.bipush 100, 2) := by decide +kernel
theorem dX11_word_258 : decode cX11_word 258 = .ok (.invokevirtual 244, 3) := by decide +kernel
theorem dX11_word_261 : decode cX11_word 261 = .ok (.bipush 97, 2) := by decide +kernel
theorem dX11_word_263 : decode cX11_word 263 = .ok (.ireturn, 1) := by decide +kernel
theorem dX11_isFirst_0 : decode cX11_isFirst 0 = .ok (.iload_n 0, 1) := by decide +kernel
theorem dX11_isFirst_1 : decode cX11_isFirst 1 = .ok (.bipush 97, 2) := by decide +kernel
theorem dX11_isFirst_3 : decode cX11_isFirst 3 = .ok (.if_icmp .eq 45, 3) := by decide +kernel
theorem dX11_isFirst_6 : decode cX11_isFirst 6 = .ok (.iload_n 0, 1) := by decide +kernel
theorem dX11_isFirst_7 : decode cX11_isFirst 7 = .ok (.bipush 114, 2) := by decide +kernel
theorem dX11_isFirst_9 : decode cX11_isFirst 9 = .ok (.if_icmp .eq 39, 3) := by decide +kernel
theorem dX11_isFirst_12 : decode cX11_isFirst 12 = .ok (.iload_n 0, 1) := by decide +kernel
theorem dX11_isFirst_13 : decode cX11_isFirst 13 = .ok (.bipush 121, 2) := by decide +kernel
theorem dX11_isFirst_15 : decode cX11_isFirst 15 = .ok (.if_icmp .eq 33, 3) := by decide +kernel
theorem dX11_isFirst_18 : decode cX11_isFirst 18 = .ok (.iload_n 0, 1) := by decide +kernel
theorem dX11_isFirst_19 : decode cX11_isFirst 19 = .ok (.bipush 119, 2) := by decide +kernel
theorem dX11_isFirst_21 : decode cX11_isFirst 21 = .ok (.if_icmp .eq 27, 3) := by decide +kernel
theorem dX11_isFirst_24 : decode cX11_isFirst 24 = .ok (.iload_n 0, 1) := by decide +kernel
theorem dX11_isFirst_25 : decode cX11_isFirst 25 = .ok (.bipush 99, 2) := by decide +kernel
theorem dX11_isFirst_27 : decode cX11_isFirst 27 = .ok (.if_icmp .eq 21, 3) := by decide +kernel
theorem dX11_isFirst_30 : decode cX11_isFirst 30 = .ok (.iload_n 0, 1) := by decide +kernel
theorem dX11_isFirst_31 : decode cX11_isFirst 31 = .ok (.bipush 98, 2) := by decide +kernel
theorem dX11_isFirst_33 : decode cX11_isFirst 33 = .ok (.if_icmp .eq 15, 3) := by decide +kernel
theorem dX11_isFirst_36 : decode cX11_isFirst 36 = .ok (.iload_n 0, 1) := by decide +kernel
theorem dX11_isFirst_37 : decode cX11_isFirst 37 = .ok (.bipush 101, 2) := by decide +kernel
theorem dX11_isFirst_39 : decode cX11_isFirst 39 = .ok (.if_icmp .eq 9, 3) := by decide +kernel
theorem dX11_isFirst_42 : decode cX11_isFirst 42 = .ok (.iload_n 0, 1) := by decide +kernel
theorem dX11_isFirst_43 : decode cX11_isFirst 43 = .ok (.bipush 100, 2) := by decide +kernel
theorem dX11_isFirst_45 : decode cX11_isFirst 45 = .ok (.if_icmp .ne 7, 3) := by decide +kernel
theorem dX11_isFirst_48 : decode cX11_isFirst 48 = .ok (.iconst 1, 1) := by decide +kernel
theorem dX11_isFirst_49 : decode cX11_isFirst 49 = .ok (.goto 4, 3) := by decide +kernel
theorem dX11_isFirst_52 : decode cX11_isFirst 52 = .ok (.iconst 0, 1) := by decide +kernel
theorem dX11_isFirst_53 : decode cX11_isFirst 53 = .ok (.ireturn, 1) := by decide +kernel
theorem dX11_command_0 : decode cX11_command 0 = .ok (.iconst 3, 1) := by decide +kernel
theorem dX11_command_1 : decode cX11_command 1 = .ok (.aload_n 0, 1) := by decide +kernel
theorem dX11_command_2 : decode cX11_command 2 = .ok (.getfield 254, 3) := by decide +kernel
theorem dX11_command_5 : decode cX11_command 5 = .ok (.imul, 1) := by decide +kernel
theorem dX11_command_6 : decode cX11_command 6 = .ok (.istore_n 1, 1) := by decide +kernel
theorem dX11_command_7 : decode cX11_command 7 = .ok (.aload_n 0, 1) := by decide +kernel
theorem dX11_command_8 : decode cX11_command 8 = .ok (.dup, 1) := by decide +kernel
theorem dX11_command_9 : decode cX11_command 9 = .ok (.getfield 254, 3) := by decide +kernel
theorem dX11_command_12 : decode cX11_command 12 = .ok (.iconst 1, 1) := by decide +kernel
theorem dX11_command_13 : decode cX11_command 13 = .ok (.iadd, 1) := by decide +kernel
theorem dX11_command_14 : decode cX11_command 14 = .ok (.putfield 254, 3) := by decide +kernel
theorem dX11_command_17 : decode cX11_command 17 = .ok (.aload_n 0, 1) := by decide +kernel
theorem dX11_command_18 : decode cX11_command 18 = .ok (.invokevirtual 241, 3) := by decide +kernel
theorem dX11_command_21 : decode cX11_command 21 = .ok (.istore_n 2, 1) := by decide +kernel
theorem dX11_command_22 : decode cX11_command 22 = .ok (.iconst 0, 1) := by decide +kernel
theorem dX11_command_23 : decode cX11_command 23 = .ok (.istore_n 3, 1) := by decide +kernel
theorem dX11_command_24 : decode cX11_command 24 = .ok (.iload_n 3, 1) := by decide +kernel
theorem dX11_command_25 : decode cX11_command 25 = .ok (.iconst 3, 1) := by decide +kernel
theorem dX11_command_26 : decode cX11_command 26 = .ok (.if_icmp .ge 18, 3) := by decide +kernel
theorem dX11_command_29 : decode cX11_command 29 = .ok (.aload_n 0, 1) := by decide +kernel
theorem dX11_command_30 : decode cX11_command 30 = .ok (.getfield 37, 3) := by decide +kernel
theorem dX11_command_33 : decode cX11_command 33 = .ok (.iload_n 1, 1) := by decide +kernel
theorem dX11_command_34 : decode cX11_command 34 = .ok (.iload_n 3, 1) := by decide +kernel
theorem dX11_command_35 : decode cX11_command 35 = .ok (.iadd, 1) := by decide +kernel
theorem dX11_command_36 : decode cX11_command 36 = .ok (.iconst 0, 1) := by decide +kernel
theorem dX11_command_37 : decode cX11_command 37 = .ok (.iastore, 1) := by decide +kernel
theorem dX11_command_38 : decode cX11_command 38 = .ok (.iinc 3 1, 3) := by decide +kernel
theorem dX11_command_41 : decode cX11_command 41 = .ok (.goto (-17), 3) := by decide +kernel
theorem dX11_command_44 : decode cX11_command 44 = .ok (.iload_n 2, 1) := by decide +kernel
theorem dX11_command_45 : decode cX11_command 45 = .ok (.invokestatic 257, 3) := by decide +kernel
theorem dX11_command_48 : decode cX11_command 48 = .ok (.ifCond .ne 12, 3) := by decide +kernel
theorem dX11_command_51 : decode cX11_command 51 = .ok (.aload_n 0, 1) := by decide +kernel
theorem dX11_command_52 : decode cX11_command 52 = .ok (.aload_n 0, 1) := by decide +kernel
theorem dX11_command_53 : decode cX11_command 53 = .ok (.getfield 235, 3) := by decide +kernel
theorem dX11_command_56 : decode cX11_command 56 = .ok (.putfield 238, 3) := by decide +kernel
theorem dX11_command_59 : decode cX11_command 59 = .ok (.return_, 1) := by decide +kernel
theorem dX11_command_60 : decode cX11_command 60 = .ok (.aload_n 0, 1) := by decide +kernel
theorem dX11_command_61 : decode cX11_command 61 = .ok (.dup, 1) := by decide +kernel
theorem dX11_command_62 : decode cX11_command 62 = .ok (.getfield 235, 3) := by decide +kernel
theorem dX11_command_65 : decode cX11_command 65 = .ok (.iconst 1, 1) := by decide +kernel
theorem dX11_command_66 : decode cX11_command 66 = .ok (.iadd, 1) := by decide +kernel
theorem dX11_command_67 : decode cX11_command 67 = .ok (.putfield 235, 3) := by decide +kernel
theorem dX11_command_70 : decode cX11_command 70 = .ok (.aload_n 0, 1) := by decide +kernel
theorem dX11_command_71 : decode cX11_command 71 = .ok (.iload_n 2, 1) := by decide +kernel
theorem dX11_command_72 : decode cX11_command 72 = .ok (.invokevirtual 260, 3) := by decide +kernel
theorem dX11_command_75 : decode cX11_command 75 = .ok (.istore_n 3, 1) := by decide +kernel
theorem dX11_command_76 : decode cX11_command 76 = .ok (.aload_n 0, 1) := by decide +kernel
theorem dX11_command_77 : decode cX11_command 77 = .ok (.getfield 37, 3) := by decide +kernel
theorem dX11_command_80 : decode cX11_command 80 = .ok (.iload_n 1, 1) := by decide +kernel
theorem dX11_command_81 : decode cX11_command 81 = .ok (.iload_n 3, 1) := by decide +kernel
theorem dX11_command_82 : decode cX11_command 82 = .ok (.iastore, 1) := by decide +kernel
theorem dX11_command_83 : decode cX11_command 83 = .ok (.iload_n 3, 1) := by decide +kernel
theorem dX11_command_84 : decode cX11_command 84 = .ok (.lookupswitch 147 #[(97, 60), (98, 144), (101, 144), (116, 78), (119, 111), (121, 78)], 60) := by decide +kernel
theorem dX11_command_144 : decode cX11_command 144 = .ok (.aload_n 0, 1) := by decide +kernel
theorem dX11_command_145 : decode cX11_command 145 = .ok (.getfield 37, 3) := by decide +kernel
theorem dX11_command_148 : decode cX11_command 148 = .ok (.iload_n 1, 1) := by decide +kernel
theorem dX11_command_149 : decode cX11_command 149 = .ok (.iconst 1, 1) := by decide +kernel
theorem dX11_command_150 : decode cX11_command 150 = .ok (.iadd, 1) := by decide +kernel
theorem dX11_command_151 : decode cX11_command 151 = .ok (.aload_n 0, 1) := by decide +kernel
theorem dX11_command_152 : decode cX11_command 152 = .ok (.bipush 32, 2) := by decide +kernel
theorem dX11_command_154 : decode cX11_command 154 = .ok (.iconst 1, 1) := by decide +kernel
theorem dX11_command_155 : decode cX11_command 155 = .ok (.invokevirtual 263, 3) := by decide +kernel
theorem dX11_command_158 : decode cX11_command 158 = .ok (.iastore, 1) := by decide +kernel
theorem dX11_command_159 : decode cX11_command 159 = .ok (.goto 87, 3) := by decide +kernel
theorem dX11_command_162 : decode cX11_command 162 = .ok (.aload_n 0, 1) := by decide +kernel
theorem dX11_command_163 : decode cX11_command 163 = .ok (.getfield 37, 3) := by decide +kernel
theorem dX11_command_166 : decode cX11_command 166 = .ok (.iload_n 1, 1) := by decide +kernel
theorem dX11_command_167 : decode cX11_command 167 = .ok (.iconst 1, 1) := by decide +kernel
theorem dX11_command_168 : decode cX11_command 168 = .ok (.iadd, 1) := by decide +kernel
theorem dX11_command_169 : decode cX11_command 169 = .ok (.aload_n 0, 1) := by decide +kernel
theorem dX11_command_170 : decode cX11_command 170 = .ok (.bipush 32, 2) := by decide +kernel
theorem dX11_command_172 : decode cX11_command 172 = .ok (.iconst 2, 1) := by decide +kernel
theorem dX11_command_173 : decode cX11_command 173 = .ok (.invokevirtual 263, 3) := by decide +kernel
theorem dX11_command_176 : decode cX11_command 176 = .ok (.iastore, 1) := by decide +kernel
theorem dX11_command_177 : decode cX11_command 177 = .ok (.aload_n 0, 1) := by decide +kernel
theorem dX11_command_178 : decode cX11_command 178 = .ok (.getfield 37, 3) := by decide +kernel
theorem dX11_command_181 : decode cX11_command 181 = .ok (.iload_n 1, 1) := by decide +kernel
theorem dX11_command_182 : decode cX11_command 182 = .ok (.iconst 2, 1) := by decide +kernel
theorem dX11_command_183 : decode cX11_command 183 = .ok (.iadd, 1) := by decide +kernel
theorem dX11_command_184 : decode cX11_command 184 = .ok (.aload_n 0, 1) := by decide +kernel
theorem dX11_command_185 : decode cX11_command 185 = .ok (.bipush 62, 2) := by decide +kernel
theorem dX11_command_187 : decode cX11_command 187 = .ok (.iconst 2, 1) := by decide +kernel
theorem dX11_command_188 : decode cX11_command 188 = .ok (.invokevirtual 263, 3) := by decide +kernel
theorem dX11_command_191 : decode cX11_command 191 = .ok (.iastore, 1) := by decide +kernel
theorem dX11_command_192 : decode cX11_command 192 = .ok (.goto 54, 3) := by decide +kernel
theorem dX11_command_195 : decode cX11_command 195 = .ok (.aload_n 0, 1) := by decide +kernel
theorem dX11_command_196 : decode cX11_command 196 = .ok (.getfield 37, 3) := by decide +kernel
theorem dX11_command_199 : decode cX11_command 199 = .ok (.iload_n 1, 1) := by decide +kernel
theorem dX11_command_200 : decode cX11_command 200 = .ok (.iconst 1, 1) := by decide +kernel
theorem dX11_command_201 : decode cX11_command 201 = .ok (.iadd, 1) := by decide +kernel
theorem dX11_command_202 : decode cX11_command 202 = .ok (.aload_n 0, 1) := by decide +kernel
theorem dX11_command_203 : decode cX11_command 203 = .ok (.bipush 32, 2) := by decide +kernel
theorem dX11_command_205 : decode cX11_command 205 = .ok (.iconst 2, 1) := by decide +kernel
theorem dX11_command_206 : decode cX11_command 206 = .ok (.invokevirtual 263, 3) := by decide +kernel
theorem dX11_command_209 : decode cX11_command 209 = .ok (.iastore, 1) := by decide +kernel
theorem dX11_command_210 : decode cX11_command 210 = .ok (.aload_n 0, 1) := by decide +kernel
theorem dX11_command_211 : decode cX11_command 211 = .ok (.getfield 37, 3) := by decide +kernel
theorem dX11_command_214 : decode cX11_command 214 = .ok (.iload_n 1, 1) := by decide +kernel
theorem dX11_command_215 : decode cX11_command 215 = .ok (.iconst 2, 1) := by decide +kernel
theorem dX11_command_216 : decode cX11_command 216 = .ok (.iadd, 1) := by decide +kernel
theorem dX11_command_217 : decode cX11_command 217 = .ok (.aload_n 0, 1) := by decide +kernel
theorem dX11_command_218 : decode cX11_command 218 = .ok (.bipush 32, 2) := by decide +kernel
theorem dX11_command_220 : decode cX11_command 220 = .ok (.iconst 1, 1) := by decide +kernel
theorem dX11_command_221 : decode cX11_command 221 = .ok (.invokevirtual 263, 3) := by decide +kernel
theorem dX11_command_224 : decode cX11_command 224 = .ok (.iastore, 1) := by decide +kernel
theorem dX11_command_225 : decode cX11_command 225 = .ok (.goto 21, 3) := by decide +kernel
theorem dX11_command_228 : decode cX11_command 228 = .ok (.goto 18, 3) := by decide +kernel
theorem dX11_command_231 : decode cX11_command 231 = .ok (.aload_n 0, 1) := by decide +kernel
theorem dX11_command_232 : decode cX11_command 232 = .ok (.getfield 37, 3) := by decide +kernel
theorem dX11_command_235 : decode cX11_command 235 = .ok (.iload_n 1, 1) := by decide +kernel
theorem dX11_command_236 : decode cX11_command 236 = .ok (.iconst 1, 1) := by decide +kernel
theorem dX11_command_237 : decode cX11_command 237 = .ok (.iadd, 1) := by decide +kernel
theorem dX11_command_238 : decode cX11_command 238 = .ok (.aload_n 0, 1) := by decide +kernel
theorem dX11_command_239 : decode cX11_command 239 = .ok (.bipush 32, 2) := by decide +kernel
theorem dX11_command_241 : decode cX11_command 241 = .ok (.iconst 2, 1) := by decide +kernel
theorem dX11_command_242 : decode cX11_command 242 = .ok (.invokevirtual 263, 3) := by decide +kernel
theorem dX11_command_245 : decode cX11_command 245 = .ok (.iastore, 1) := by decide +kernel
theorem dX11_command_246 : decode cX11_command 246 = .ok (.return_, 1) := by decide +kernel
theorem dX11_parse_0 : decode cX11_parse 0 = .ok (.aload_n 0, 1) := by decide +kernel
theorem dX11_parse_1 : decode cX11_parse 1 = .ok (.iconst 0, 1) := by decide +kernel
theorem dX11_parse_2 : decode cX11_parse 2 = .ok (.putfield 235, 3) := by decide +kernel
theorem dX11_parse_5 : decode cX11_parse 5 = .ok (.aload_n 0, 1) := by decide +kernel
theorem dX11_parse_6 : decode cX11_parse 6 = .ok (.iconst (-1), 1) := by decide +kernel
theorem dX11_parse_7 : decode cX11_parse 7 = .ok (.putfield 238, 3) := by decide +kernel
theorem dX11_parse_10 : decode cX11_parse 10 = .ok (.aload_n 0, 1) := by decide +kernel
theorem dX11_parse_11 : decode cX11_parse 11 = .ok (.iconst 0, 1) := by decide +kernel
theorem dX11_parse_12 : decode cX11_parse 12 = .ok (.putfield 254, 3) := by decide +kernel
theorem dX11_parse_15 : decode cX11_parse 15 = .ok (.aload_n 0, 1) := by decide +kernel
theorem dX11_parse_16 : decode cX11_parse 16 = .ok (.invokevirtual 266, 3) := by decide +kernel
theorem dX11_parse_19 : decode cX11_parse 19 = .ok (.aload_n 0, 1) := by decide +kernel
theorem dX11_parse_20 : decode cX11_parse 20 = .ok (.getfield 238, 3) := by decide +kernel
theorem dX11_parse_23 : decode cX11_parse 23 = .ok (.ifCond .ge 29, 3) := by decide +kernel
theorem dX11_parse_26 : decode cX11_parse 26 = .ok (.aload_n 0, 1) := by decide +kernel
theorem dX11_parse_27 : decode cX11_parse 27 = .ok (.invokevirtual 241, 3) := by decide +kernel
theorem dX11_parse_30 : decode cX11_parse 30 = .ok (.bipush 59, 2) := by decide +kernel
theorem dX11_parse_32 : decode cX11_parse 32 = .ok (.if_icmp .ne 20, 3) := by decide +kernel
theorem dX11_parse_35 : decode cX11_parse 35 = .ok (.aload_n 0, 1) := by decide +kernel
theorem dX11_parse_36 : decode cX11_parse 36 = .ok (.dup, 1) := by decide +kernel
theorem dX11_parse_37 : decode cX11_parse 37 = .ok (.getfield 235, 3) := by decide +kernel
theorem dX11_parse_40 : decode cX11_parse 40 = .ok (.iconst 1, 1) := by decide +kernel
theorem dX11_parse_41 : decode cX11_parse 41 = .ok (.iadd, 1) := by decide +kernel
theorem dX11_parse_42 : decode cX11_parse 42 = .ok (.putfield 235, 3) := by decide +kernel
theorem dX11_parse_45 : decode cX11_parse 45 = .ok (.aload_n 0, 1) := by decide +kernel
theorem dX11_parse_46 : decode cX11_parse 46 = .ok (.invokevirtual 266, 3) := by decide +kernel
theorem dX11_parse_49 : decode cX11_parse 49 = .ok (.goto (-30), 3) := by decide +kernel
theorem dX11_parse_52 : decode cX11_parse 52 = .ok (.aload_n 0, 1) := by decide +kernel
theorem dX11_parse_53 : decode cX11_parse 53 = .ok (.getfield 238, 3) := by decide +kernel
theorem dX11_parse_56 : decode cX11_parse 56 = .ok (.ifCond .ge 22, 3) := by decide +kernel
theorem dX11_parse_59 : decode cX11_parse 59 = .ok (.aload_n 0, 1) := by decide +kernel
theorem dX11_parse_60 : decode cX11_parse 60 = .ok (.getfield 235, 3) := by decide +kernel
theorem dX11_parse_63 : decode cX11_parse 63 = .ok (.aload_n 0, 1) := by decide +kernel
theorem dX11_parse_64 : decode cX11_parse 64 = .ok (.getfield 232, 3) := by decide +kernel
theorem dX11_parse_67 : decode cX11_parse 67 = .ok (.if_icmp .ge 11, 3) := by decide +kernel
theorem dX11_parse_70 : decode cX11_parse 70 = .ok (.aload_n 0, 1) := by decide +kernel
theorem dX11_parse_71 : decode cX11_parse 71 = .ok (.aload_n 0, 1) := by decide +kernel
theorem dX11_parse_72 : decode cX11_parse 72 = .ok (.getfield 235, 3) := by decide +kernel
theorem dX11_parse_75 : decode cX11_parse 75 = .ok (.putfield 238, 3) := by decide +kernel
theorem dX11_parse_78 : decode cX11_parse 78 = .ok (.return_, 1) := by decide +kernel
theorem dX11_does_0 : decode cX11_does 0 = .ok (.aload_n 0, 1) := by decide +kernel
theorem dX11_does_1 : decode cX11_does 1 = .ok (.getfield 37, 3) := by decide +kernel
theorem dX11_does_4 : decode cX11_does 4 = .ok (.iload_n 1, 1) := by decide +kernel
theorem dX11_does_5 : decode cX11_does 5 = .ok (.iconst 1, 1) := by decide +kernel
theorem dX11_does_6 : decode cX11_does 6 = .ok (.iadd, 1) := by decide +kernel
theorem dX11_does_7 : decode cX11_does 7 = .ok (.iaload, 1) := by decide +kernel
theorem dX11_does_8 : decode cX11_does 8 = .ok (.istore_n 2, 1) := by decide +kernel
theorem dX11_does_9 : decode cX11_does 9 = .ok (.aload_n 0, 1) := by decide +kernel
theorem dX11_does_10 : decode cX11_does 10 = .ok (.getfield 37, 3) := by decide +kernel
theorem dX11_does_13 : decode cX11_does 13 = .ok (.iload_n 1, 1) := by decide +kernel
theorem dX11_does_14 : decode cX11_does 14 = .ok (.iconst 2, 1) := by decide +kernel
theorem dX11_does_15 : decode cX11_does 15 = .ok (.iadd, 1) := by decide +kernel
theorem dX11_does_16 : decode cX11_does 16 = .ok (.iaload, 1) := by decide +kernel
theorem dX11_does_17 : decode cX11_does 17 = .ok (.istore_n 3, 1) := by decide +kernel
theorem dX11_does_18 : decode cX11_does 18 = .ok (.aload_n 0, 1) := by decide +kernel
theorem dX11_does_19 : decode cX11_does 19 = .ok (.getfield 37, 3) := by decide +kernel
theorem dX11_does_22 : decode cX11_does 22 = .ok (.iload_n 1, 1) := by decide +kernel
theorem dX11_does_23 : decode cX11_does 23 = .ok (.iaload, 1) := by decide +kernel
theorem dX11_does_24 : decode cX11_does 24 = .ok (.tableswitch 177 97 121 #[116, 167, 155, 177, 172, 177, 177, 177, 177, 177, 177, 177, 122, 149, 177, 161, 177, 177, 177, 128, 177, 177, 142, 177, 135], 116) := by decide +kernel
theorem dX11_does_140 : decode cX11_does 140 = .ok (.aload_n 0, 1) := by decide +kernel
theorem dX11_does_141 : decode cX11_does 141 = .ok (.iload_n 2, 1) := by decide +kernel
theorem dX11_does_142 : decode cX11_does 142 = .ok (.invokevirtual 116, 3) := by decide +kernel
theorem dX11_does_145 : decode cX11_does 145 = .ok (.ireturn, 1) := by decide +kernel
theorem dX11_does_146 : decode cX11_does 146 = .ok (.aload_n 0, 1) := by decide +kernel
theorem dX11_does_147 : decode cX11_does 147 = .ok (.iload_n 2, 1) := by decide +kernel
theorem dX11_does_148 : decode cX11_does 148 = .ok (.invokevirtual 138, 3) := by decide +kernel
theorem dX11_does_151 : decode cX11_does 151 = .ok (.ireturn, 1) := by decide +kernel
theorem dX11_does_152 : decode cX11_does 152 = .ok (.aload_n 0, 1) := by decide +kernel
theorem dX11_does_153 : decode cX11_does 153 = .ok (.iload_n 2, 1) := by decide +kernel
theorem dX11_does_154 : decode cX11_does 154 = .ok (.iload_n 3, 1) := by decide +kernel
theorem dX11_does_155 : decode cX11_does 155 = .ok (.invokevirtual 144, 3) := by decide +kernel
theorem dX11_does_158 : decode cX11_does 158 = .ok (.ireturn, 1) := by decide +kernel
theorem dX11_does_159 : decode cX11_does 159 = .ok (.aload_n 0, 1) := by decide +kernel
theorem dX11_does_160 : decode cX11_does 160 = .ok (.iload_n 2, 1) := by decide +kernel
theorem dX11_does_161 : decode cX11_does 161 = .ok (.iload_n 3, 1) := by decide +kernel
theorem dX11_does_162 : decode cX11_does 162 = .ok (.invokevirtual 147, 3) := by decide +kernel
theorem dX11_does_165 : decode cX11_does 165 = .ok (.ireturn, 1) := by decide +kernel
theorem dX11_does_166 : decode cX11_does 166 = .ok (.aload_n 0, 1) := by decide +kernel
theorem dX11_does_167 : decode cX11_does 167 = .ok (.iload_n 2, 1) := by decide +kernel
theorem dX11_does_168 : decode cX11_does 168 = .ok (.iload_n 3, 1) := by decide +kernel
theorem dX11_does_169 : decode cX11_does 169 = .ok (.invokevirtual 150, 3) := by decide +kernel
theorem dX11_does_172 : decode cX11_does 172 = .ok (.ireturn, 1) := by decide +kernel
theorem dX11_does_173 : decode cX11_does 173 = .ok (.aload_n 0, 1) := by decide +kernel
theorem dX11_does_174 : decode cX11_does 174 = .ok (.iload_n 2, 1) := by decide +kernel
theorem dX11_does_175 : decode cX11_does 175 = .ok (.invokevirtual 153, 3) := by decide +kernel
theorem dX11_does_178 : decode cX11_does 178 = .ok (.ireturn, 1) := by decide +kernel
theorem dX11_does_179 : decode cX11_does 179 = .ok (.aload_n 0, 1) := by decide +kernel
theorem dX11_does_180 : decode cX11_does 180 = .ok (.iload_n 2, 1) := by decide +kernel
theorem dX11_does_181 : decode cX11_does 181 = .ok (.invokevirtual 156, 3) := by decide +kernel
theorem dX11_does_184 : decode cX11_does 184 = .ok (.ireturn, 1) := by decide +kernel
theorem dX11_does_185 : decode cX11_does 185 = .ok (.aload_n 0, 1) := by decide +kernel
theorem dX11_does_186 : decode cX11_does 186 = .ok (.iload_n 2, 1) := by decide +kernel
theorem dX11_does_187 : decode cX11_does 187 = .ok (.invokevirtual 162, 3) := by decide +kernel
theorem dX11_does_190 : decode cX11_does 190 = .ok (.ireturn, 1) := by decide +kernel
theorem dX11_does_191 : decode cX11_does 191 = .ok (.aload_n 0, 1) := by decide +kernel
theorem dX11_does_192 : decode cX11_does 192 = .ok (.invokevirtual 165, 3) := by decide +kernel
theorem dX11_does_195 : decode cX11_does 195 = .ok (.ireturn, 1) := by decide +kernel
theorem dX11_does_196 : decode cX11_does 196 = .ok (.aload_n 0, 1) := by decide +kernel
theorem dX11_does_197 : decode cX11_does 197 = .ok (.invokevirtual 168, 3) := by decide +kernel
theorem dX11_does_200 : decode cX11_does 200 = .ok (.ireturn, 1) := by decide +kernel
theorem dX11_does_201 : decode cX11_does 201 = .ok (.aload_n 0, 1) := by decide +kernel
theorem dX11_does_202 : decode cX11_does 202 = .ok (.iload_n 2, 1) := by decide +kernel
theorem dX11_does_203 : decode cX11_does 203 = .ok (.invokevirtual 175, 3) := by decide +kernel
theorem dX11_does_206 : decode cX11_does 206 = .ok (.ireturn, 1) := by decide +kernel
theorem dX11_run_0 : decode cX11_run 0 = .ok (.aload_n 0, 1) := by decide +kernel
theorem dX11_run_1 : decode cX11_run 1 = .ok (.invokevirtual 269, 3) := by decide +kernel
theorem dX11_run_4 : decode cX11_run 4 = .ok (.aload_n 0, 1) := by decide +kernel
theorem dX11_run_5 : decode cX11_run 5 = .ok (.iconst 0, 1) := by decide +kernel
theorem dX11_run_6 : decode cX11_run 6 = .ok (.putfield 232, 3) := by decide +kernel
theorem dX11_run_9 : decode cX11_run 9 = .ok (.aload_n 0, 1) := by decide +kernel
theorem dX11_run_10 : decode cX11_run 10 = .ok (.getfield 238, 3) := by decide +kernel
theorem dX11_run_13 : decode cX11_run 13 = .ok (.ifCond .lt 18, 3) := by decide +kernel
theorem dX11_run_16 : decode cX11_run 16 = .ok (.aload_n 0, 1) := by decide +kernel
theorem dX11_run_17 : decode cX11_run 17 = .ok (.aload_n 0, 1) := by decide +kernel
theorem dX11_run_18 : decode cX11_run 18 = .ok (.getfield 238, 3) := by decide +kernel
theorem dX11_run_21 : decode cX11_run 21 = .ok (.putfield 30, 3) := by decide +kernel
theorem dX11_run_24 : decode cX11_run 24 = .ok (.aload_n 0, 1) := by decide +kernel
theorem dX11_run_25 : decode cX11_run 25 = .ok (.iconst 1, 1) := by decide +kernel
theorem dX11_run_26 : decode cX11_run 26 = .ok (.putfield 40, 3) := by decide +kernel
theorem dX11_run_29 : decode cX11_run 29 = .ok (.iconst 0, 1) := by decide +kernel
theorem dX11_run_30 : decode cX11_run 30 = .ok (.ireturn, 1) := by decide +kernel
theorem dX11_run_31 : decode cX11_run 31 = .ok (.aload_n 0, 1) := by decide +kernel
theorem dX11_run_32 : decode cX11_run 32 = .ok (.invokevirtual 113, 3) := by decide +kernel
theorem dX11_run_35 : decode cX11_run 35 = .ok (.iconst 0, 1) := by decide +kernel
theorem dX11_run_36 : decode cX11_run 36 = .ok (.istore_n 1, 1) := by decide +kernel
theorem dX11_run_37 : decode cX11_run 37 = .ok (.iload_n 1, 1) := by decide +kernel
theorem dX11_run_38 : decode cX11_run 38 = .ok (.aload_n 0, 1) := by decide +kernel
theorem dX11_run_39 : decode cX11_run 39 = .ok (.getfield 254, 3) := by decide +kernel
theorem dX11_run_42 : decode cX11_run 42 = .ok (.if_icmp .ge 19, 3) := by decide +kernel
theorem dX11_run_45 : decode cX11_run 45 = .ok (.aload_n 0, 1) := by decide +kernel
theorem dX11_run_46 : decode cX11_run 46 = .ok (.iconst 3, 1) := by decide +kernel
theorem dX11_run_47 : decode cX11_run 47 = .ok (.iload_n 1, 1) := by decide +kernel
theorem dX11_run_48 : decode cX11_run 48 = .ok (.imul, 1) := by decide +kernel
theorem dX11_run_49 : decode cX11_run 49 = .ok (.invokevirtual 272, 3) := by decide +kernel
theorem dX11_run_52 : decode cX11_run 52 = .ok (.ifCond .ne 9, 3) := by decide +kernel
theorem dX11_run_55 : decode cX11_run 55 = .ok (.iinc 1 1, 3) := by decide +kernel
theorem dX11_run_58 : decode cX11_run 58 = .ok (.goto (-21), 3) := by decide +kernel
theorem dX11_run_61 : decode cX11_run 61 = .ok (.iload_n 1, 1) := by decide +kernel
theorem dX11_run_62 : decode cX11_run 62 = .ok (.aload_n 0, 1) := by decide +kernel
theorem dX11_run_63 : decode cX11_run 63 = .ok (.getfield 254, 3) := by decide +kernel
theorem dX11_run_66 : decode cX11_run 66 = .ok (.if_icmp .ne 7, 3) := by decide +kernel
theorem dX11_run_69 : decode cX11_run 69 = .ok (.iconst 1, 1) := by decide +kernel
theorem dX11_run_70 : decode cX11_run 70 = .ok (.goto 4, 3) := by decide +kernel
theorem dX11_run_73 : decode cX11_run 73 = .ok (.iconst 0, 1) := by decide +kernel
theorem dX11_run_74 : decode cX11_run 74 = .ok (.istore_n 2, 1) := by decide +kernel
theorem dX11_run_75 : decode cX11_run 75 = .ok (.aload_n 0, 1) := by decide +kernel
theorem dX11_run_76 : decode cX11_run 76 = .ok (.iload_n 2, 1) := by decide +kernel
theorem dX11_run_77 : decode cX11_run 77 = .ok (.ifCond .eq 10, 3) := by decide +kernel
theorem dX11_run_80 : decode cX11_run 80 = .ok (.aload_n 0, 1) := by decide +kernel
theorem dX11_run_81 : decode cX11_run 81 = .ok (.getfield 34, 3) := by decide +kernel
theorem dX11_run_84 : decode cX11_run 84 = .ok (.goto 4, 3) := by decide +kernel
theorem dX11_run_87 : decode cX11_run 87 = .ok (.iload_n 1, 1) := by decide +kernel
theorem dX11_run_88 : decode cX11_run 88 = .ok (.putfield 34, 3) := by decide +kernel
theorem dX11_run_91 : decode cX11_run 91 = .ok (.aload_n 0, 1) := by decide +kernel
theorem dX11_run_92 : decode cX11_run 92 = .ok (.aload_n 0, 1) := by decide +kernel
theorem dX11_run_93 : decode cX11_run 93 = .ok (.getfield 254, 3) := by decide +kernel
theorem dX11_run_96 : decode cX11_run 96 = .ok (.putfield 50, 3) := by decide +kernel
theorem dX11_run_99 : decode cX11_run 99 = .ok (.aload_n 0, 1) := by decide +kernel
theorem dX11_run_100 : decode cX11_run 100 = .ok (.iload_n 2, 1) := by decide +kernel
theorem dX11_run_101 : decode cX11_run 101 = .ok (.ifCond .eq 7, 3) := by decide +kernel
theorem dX11_run_104 : decode cX11_run 104 = .ok (.iconst 0, 1) := by decide +kernel
theorem dX11_run_105 : decode cX11_run 105 = .ok (.goto 4, 3) := by decide +kernel
theorem dX11_run_108 : decode cX11_run 108 = .ok (.iconst 2, 1) := by decide +kernel
theorem dX11_run_109 : decode cX11_run 109 = .ok (.iconst 0, 1) := by decide +kernel
theorem dX11_run_110 : decode cX11_run 110 = .ok (.iconst 2, 1) := by decide +kernel
theorem dX11_run_111 : decode cX11_run 111 = .ok (.iconst 0, 1) := by decide +kernel
theorem dX11_run_112 : decode cX11_run 112 = .ok (.invokevirtual 119, 3) := by decide +kernel
theorem dX11_run_115 : decode cX11_run 115 = .ok (.ireturn, 1) := by decide +kernel
theorem dX11_errorPosition_0 : decode cX11_errorPosition 0 = .ok (.aload_n 0, 1) := by decide +kernel
theorem dX11_errorPosition_1 : decode cX11_errorPosition 1 = .ok (.aload_n 0, 1) := by decide +kernel
theorem dX11_errorPosition_2 : decode cX11_errorPosition 2 = .ok (.getfield 30, 3) := by decide +kernel
theorem dX11_errorPosition_5 : decode cX11_errorPosition 5 = .ok (.iconst (-1), 1) := by decide +kernel
theorem dX11_errorPosition_6 : decode cX11_errorPosition 6 = .ok (.if_icmp .eq 7, 3) := by decide +kernel
theorem dX11_errorPosition_9 : decode cX11_errorPosition 9 = .ok (.iconst 1, 1) := by decide +kernel
theorem dX11_errorPosition_10 : decode cX11_errorPosition 10 = .ok (.goto 4, 3) := by decide +kernel
theorem dX11_errorPosition_13 : decode cX11_errorPosition 13 = .ok (.iconst 0, 1) := by decide +kernel
theorem dX11_errorPosition_14 : decode cX11_errorPosition 14 = .ok (.invokevirtual 181, 3) := by decide +kernel
theorem dX11_errorPosition_17 : decode cX11_errorPosition 17 = .ok (.ifCond .eq 10, 3) := by decide +kernel
theorem dX11_errorPosition_20 : decode cX11_errorPosition 20 = .ok (.aload_n 0, 1) := by decide +kernel
theorem dX11_errorPosition_21 : decode cX11_errorPosition 21 = .ok (.getfield 30, 3) := by decide +kernel
theorem dX11_errorPosition_24 : decode cX11_errorPosition 24 = .ok (.goto 4, 3) := by decide +kernel
theorem dX11_errorPosition_27 : decode cX11_errorPosition 27 = .ok (.iconst 0, 1) := by decide +kernel
theorem dX11_errorPosition_28 : decode cX11_errorPosition 28 = .ok (.ireturn, 1) := by decide +kernel
theorem dX11_failedCommand_0 : decode cX11_failedCommand 0 = .ok (.aload_n 0, 1) := by decide +kernel
theorem dX11_failedCommand_1 : decode cX11_failedCommand 1 = .ok (.aload_n 0, 1) := by decide +kernel
theorem dX11_failedCommand_2 : decode cX11_failedCommand 2 = .ok (.getfield 34, 3) := by decide +kernel
theorem dX11_failedCommand_5 : decode cX11_failedCommand 5 = .ok (.iconst (-1), 1) := by decide +kernel
theorem dX11_failedCommand_6 : decode cX11_failedCommand 6 = .ok (.if_icmp .eq 7, 3) := by decide +kernel
theorem dX11_failedCommand_9 : decode cX11_failedCommand 9 = .ok (.iconst 1, 1) := by decide +kernel
theorem dX11_failedCommand_10 : decode cX11_failedCommand 10 = .ok (.goto 4, 3) := by decide +kernel
theorem dX11_failedCommand_13 : decode cX11_failedCommand 13 = .ok (.iconst 0, 1) := by decide +kernel
theorem dX11_failedCommand_14 : decode cX11_failedCommand 14 = .ok (.invokevirtual 181, 3) := by decide +kernel
theorem dX11_failedCommand_17 : decode cX11_failedCommand 17 = .ok (.ifCond .eq 10, 3) := by decide +kernel
theorem dX11_failedCommand_20 : decode cX11_failedCommand 20 = .ok (.aload_n 0, 1) := by decide +kernel
theorem dX11_failedCommand_21 : decode cX11_failedCommand 21 = .ok (.getfield 34, 3) := by decide +kernel
theorem dX11_failedCommand_24 : decode cX11_failedCommand 24 = .ok (.goto 4, 3) := by decide +kernel
theorem dX11_failedCommand_27 : decode cX11_failedCommand 27 = .ok (.iconst 0, 1) := by decide +kernel
theorem dX11_failedCommand_28 : decode cX11_failedCommand 28 = .ok (.ireturn, 1) := by decide +kernel
theorem dX11_undoableCount_0 : decode cX11_undoableCount 0 = .ok (.aload_n 0, 1) := by decide +kernel
theorem dX11_undoableCount_1 : decode cX11_undoableCount 1 = .ok (.iconst 0, 1) := by decide +kernel
theorem dX11_undoableCount_2 : decode cX11_undoableCount 2 = .ok (.putfield 40, 3) := by decide +kernel
theorem dX11_undoableCount_5 : decode cX11_undoableCount 5 = .ok (.aload_n 0, 1) := by decide +kernel
theorem dX11_undoableCount_6 : decode cX11_undoableCount 6 = .ok (.getfield 47, 3) := by decide +kernel
theorem dX11_undoableCount_9 : decode cX11_undoableCount 9 = .ok (.ireturn, 1) := by decide +kernel
theorem dX11_undo_0 : decode cX11_undo 0 = .ok (.aload_n 0, 1) := by decide +kernel
theorem dX11_undo_1 : decode cX11_undo 1 = .ok (.aload_n 0, 1) := by decide +kernel
theorem dX11_undo_2 : decode cX11_undo 2 = .ok (.getfield 47, 3) := by decide +kernel
theorem dX11_undo_5 : decode cX11_undo 5 = .ok (.ifCond .le 7, 3) := by decide +kernel
theorem dX11_undo_8 : decode cX11_undo 8 = .ok (.iconst 1, 1) := by decide +kernel
theorem dX11_undo_9 : decode cX11_undo 9 = .ok (.goto 4, 3) := by decide +kernel
theorem dX11_undo_12 : decode cX11_undo 12 = .ok (.iconst 0, 1) := by decide +kernel
theorem dX11_undo_13 : decode cX11_undo 13 = .ok (.invokevirtual 181, 3) := by decide +kernel
theorem dX11_undo_16 : decode cX11_undo 16 = .ok (.ifCond .ne 5, 3) := by decide +kernel
theorem dX11_undo_19 : decode cX11_undo 19 = .ok (.iconst 0, 1) := by decide +kernel
theorem dX11_undo_20 : decode cX11_undo 20 = .ok (.ireturn, 1) := by decide +kernel
theorem dX11_undo_21 : decode cX11_undo 21 = .ok (.aload_n 0, 1) := by decide +kernel
theorem dX11_undo_22 : decode cX11_undo 22 = .ok (.aload_n 0, 1) := by decide +kernel
theorem dX11_undo_23 : decode cX11_undo 23 = .ok (.getfield 47, 3) := by decide +kernel
theorem dX11_undo_26 : decode cX11_undo 26 = .ok (.iconst 0, 1) := by decide +kernel
theorem dX11_undo_27 : decode cX11_undo 27 = .ok (.invokevirtual 43, 3) := by decide +kernel
theorem dX11_undo_30 : decode cX11_undo 30 = .ok (.aload_n 0, 1) := by decide +kernel
theorem dX11_undo_31 : decode cX11_undo 31 = .ok (.dup, 1) := by decide +kernel
theorem dX11_undo_32 : decode cX11_undo 32 = .ok (.getfield 47, 3) := by decide +kernel
theorem dX11_undo_35 : decode cX11_undo 35 = .ok (.iconst 1, 1) := by decide +kernel
theorem dX11_undo_36 : decode cX11_undo 36 = .ok (.isub, 1) := by decide +kernel
theorem dX11_undo_37 : decode cX11_undo 37 = .ok (.putfield 47, 3) := by decide +kernel
theorem dX11_undo_40 : decode cX11_undo 40 = .ok (.aload_n 0, 1) := by decide +kernel
theorem dX11_undo_41 : decode cX11_undo 41 = .ok (.getfield 47, 3) := by decide +kernel
theorem dX11_undo_44 : decode cX11_undo 44 = .ok (.ireturn, 1) := by decide +kernel
theorem dX11_save_0 : decode cX11_save 0 = .ok (.aload_n 0, 1) := by decide +kernel
theorem dX11_save_1 : decode cX11_save 1 = .ok (.iconst 0, 1) := by decide +kernel
theorem dX11_save_2 : decode cX11_save 2 = .ok (.putfield 40, 3) := by decide +kernel
theorem dX11_save_5 : decode cX11_save 5 = .ok (.aload_n 0, 1) := by decide +kernel
theorem dX11_save_6 : decode cX11_save 6 = .ok (.iconst 1, 1) := by decide +kernel
theorem dX11_save_7 : decode cX11_save 7 = .ok (.putfield 275, 3) := by decide +kernel
theorem dX11_save_10 : decode cX11_save 10 = .ok (.aload_n 0, 1) := by decide +kernel
theorem dX11_save_11 : decode cX11_save 11 = .ok (.iconst 0, 1) := by decide +kernel
theorem dX11_save_12 : decode cX11_save 12 = .ok (.bipush 9, 2) := by decide +kernel
theorem dX11_save_14 : decode cX11_save 14 = .ok (.invokevirtual 43, 3) := by decide +kernel
theorem dX11_save_17 : decode cX11_save 17 = .ok (.aload_n 0, 1) := by decide +kernel
theorem dX11_save_18 : decode cX11_save 18 = .ok (.getfield 9, 3) := by decide +kernel
theorem dX11_save_21 : decode cX11_save 21 = .ok (.iconst 0, 1) := by decide +kernel
theorem dX11_save_22 : decode cX11_save 22 = .ok (.iaload, 1) := by decide +kernel
theorem dX11_save_23 : decode cX11_save 23 = .ok (.ireturn, 1) := by decide +kernel
theorem dX11_restore_0 : decode cX11_restore 0 = .ok (.aload_n 0, 1) := by decide +kernel
theorem dX11_restore_1 : decode cX11_restore 1 = .ok (.aload_n 0, 1) := by decide +kernel
theorem dX11_restore_2 : decode cX11_restore 2 = .ok (.getfield 275, 3) := by decide +kernel
theorem dX11_restore_5 : decode cX11_restore 5 = .ok (.invokevirtual 181, 3) := by decide +kernel
theorem dX11_restore_8 : decode cX11_restore 8 = .ok (.ifCond .ne 5, 3) := by decide +kernel
theorem dX11_restore_11 : decode cX11_restore 11 = .ok (.iconst 0, 1) := by decide +kernel
theorem dX11_restore_12 : decode cX11_restore 12 = .ok (.ireturn, 1) := by decide +kernel
theorem dX11_restore_13 : decode cX11_restore 13 = .ok (.aload_n 0, 1) := by decide +kernel
theorem dX11_restore_14 : decode cX11_restore 14 = .ok (.bipush 9, 2) := by decide +kernel
theorem dX11_restore_16 : decode cX11_restore 16 = .ok (.iconst 0, 1) := by decide +kernel
theorem dX11_restore_17 : decode cX11_restore 17 = .ok (.invokevirtual 43, 3) := by decide +kernel
theorem dX11_restore_20 : decode cX11_restore 20 = .ok (.aload_n 0, 1) := by decide +kernel
theorem dX11_restore_21 : decode cX11_restore 21 = .ok (.iconst 0, 1) := by decide +kernel
theorem dX11_restore_22 : decode cX11_restore 22 = .ok (.putfield 47, 3) := by decide +kernel
theorem dX11_restore_25 : decode cX11_restore 25 = .ok (.aload_n 0, 1) := by decide +kernel
theorem dX11_restore_26 : decode cX11_restore 26 = .ok (.getfield 9, 3) := by decide +kernel
theorem dX11_restore_29 : decode cX11_restore 29 = .ok (.iconst 0, 1) := by decide +kernel
theorem dX11_restore_30 : decode cX11_restore 30 = .ok (.iaload, 1) := by decide +kernel
theorem dX11_restore_31 : decode cX11_restore 31 = .ok (.ireturn, 1) := by decide +kernel
theorem dJ5_init_d00df_0 : decode cJ5_init_d00df 0 = .ok (.aload_n 0, 1) := by decide +kernel
theorem dJ5_init_d00df_1 : decode cJ5_init_d00df 1 = .ok (.invokespecial 3, 3) := by decide +kernel
theorem dJ5_init_d00df_4 : decode cJ5_init_d00df 4 = .ok (.getstatic 18, 3) := by decide +kernel
theorem dJ5_init_d00df_7 : decode cJ5_init_d00df 7 = .ok (.ifCond .eq 18, 3) := by decide +kernel
theorem dJ5_init_d00df_10 : decode cJ5_init_d00df 10 = .ok (.aload_n 0, 1) := by decide +kernel
theorem dJ5_init_d00df_11 : decode cJ5_init_d00df 11 = .ok (.iload_n 1, 1) := by decide +kernel
theorem dJ5_init_d00df_12 : decode cJ5_init_d00df 12 = .ok (.newarray .byte, 2) := by decide +kernel
theorem dJ5_init_d00df_14 : decode cJ5_init_d00df 14 = .ok (.putfield 15, 3) := by decide +kernel
theorem dJ5_init_d00df_17 : decode cJ5_init_d00df 17 = .ok (.aload_n 0, 1) := by decide +kernel
theorem dJ5_init_d00df_18 : decode cJ5_init_d00df 18 = .ok (.iconst 0, 1) := by decide +kernel
theorem dJ5_init_d00df_19 : decode cJ5_init_d00df 19 = .ok (.putfield 22, 3) := by decide +kernel
theorem dJ5_init_d00df_22 : decode cJ5_init_d00df 22 = .ok (.goto 16, 3) := by decide +kernel
theorem dJ5_init_d00df_25 : decode cJ5_init_d00df 25 = .ok (.aload_n 0, 1) := by decide +kernel
theorem dJ5_init_d00df_26 : decode cJ5_init_d00df 26 = .ok (.iload_n 1, 1) := by decide +kernel
theorem dJ5_init_d00df_27 : decode cJ5_init_d00df 27 = .ok (.invokestatic 26, 3) := by decide +kernel
theorem dJ5_init_d00df_30 : decode cJ5_init_d00df 30 = .ok (.putfield 15, 3) := by decide +kernel
theorem dJ5_init_d00df_33 : decode cJ5_init_d00df 33 = .ok (.aload_n 0, 1) := by decide +kernel
theorem dJ5_init_d00df_34 : decode cJ5_init_d00df 34 = .ok (.iconst 1, 1) := by decide +kernel
theorem dJ5_init_d00df_35 : decode cJ5_init_d00df 35 = .ok (.putfield 22, 3) := by decide +kernel
theorem dJ5_init_d00df_38 : decode cJ5_init_d00df 38 = .ok (.return_, 1) := by decide +kernel
theorem dJ5_length_8abf5_0 : decode cJ5_length_8abf5 0 = .ok (.aload_n 0, 1) := by decide +kernel
theorem dJ5_length_8abf5_1 : decode cJ5_length_8abf5 1 = .ok (.getfield 79, 3) := by decide +kernel
theorem dJ5_length_8abf5_4 : decode cJ5_length_8abf5 4 = .ok (.ireturn, 1) := by decide +kernel
theorem dJ5_ensureCapacityInternal_d00df_0 : decode cJ5_ensureCapacityInternal_d00df 0 = .ok (.aload_n 0, 1) := by decide +kernel
theorem dJ5_ensureCapacityInternal_d00df_1 : decode cJ5_ensureCapacityInternal_d00df 1 = .ok (.getfield 15, 3) := by decide +kernel
theorem dJ5_ensureCapacityInternal_d00df_4 : decode cJ5_ensureCapacityInternal_d00df 4 = .ok (.arraylength, 1) := by decide +kernel
theorem dJ5_ensureCapacityInternal_d00df_5 : decode cJ5_ensureCapacityInternal_d00df 5 = .ok (.aload_n 0, 1) := by decide +kernel
theorem dJ5_ensureCapacityInternal_d00df_6 : decode cJ5_ensureCapacityInternal_d00df 6 = .ok (.getfield 22, 3) := by decide +kernel
theorem dJ5_ensureCapacityInternal_d00df_9 : decode cJ5_ensureCapacityInternal_d00df 9 = .ok (.ishr, 1) := by decide +kernel
theorem dJ5_ensureCapacityInternal_d00df_10 : decode cJ5_ensureCapacityInternal_d00df 10 = .ok (.istore_n 2, 1) := by decide +kernel
theorem dJ5_ensureCapacityInternal_d00df_11 : decode cJ5_ensureCapacityInternal_d00df 11 = .ok (.iload_n 1, 1) := by decide +kernel
theorem dJ5_ensureCapacityInternal_d00df_12 : decode cJ5_ensureCapacityInternal_d00df 12 = .ok (.iload_n 2, 1) := by decide +kernel
theorem dJ5_ensureCapacityInternal_d00df_13 : decode cJ5_ensureCapacityInternal_d00df 13 = .ok (.isub, 1) := by decide +kernel
theorem dJ5_ensureCapacityInternal_d00df_14 : decode cJ5_ensureCapacityInternal_d00df 14 = .ok (.ifCond .le 24, 3) := by decide +kernel
theorem dJ5_ensureCapacityInternal_d00df_17 : decode cJ5_ensureCapacityInternal_d00df 17 = .ok (.aload_n 0, 1) := by decide +kernel
theorem dJ5_ensureCapacityInternal_d00df_18 : decode cJ5_ensureCapacityInternal_d00df 18 = .ok (.aload_n 0, 1) := by decide +kernel
theorem dJ5_ensureCapacityInternal_d00df_19 : decode cJ5_ensureCapacityInternal_d00df 19 = .ok (.getfield 15, 3) := by decide +kernel
theorem dJ5_ensureCapacityInternal_d00df_22 : decode cJ5_ensureCapacityInternal_d00df 22 = .ok (.aload_n 0, 1) := by decide +kernel
theorem dJ5_ensureCapacityInternal_d00df_23 : decode cJ5_ensureCapacityInternal_d00df 23 = .ok (.iload_n 1, 1) := by decide +kernel
theorem dJ5_ensureCapacityInternal_d00df_24 : decode cJ5_ensureCapacityInternal_d00df 24 = .ok (.invokevirtual 104, 3) := by decide +kernel
theorem dJ5_ensureCapacityInternal_d00df_27 : decode cJ5_ensureCapacityInternal_d00df 27 = .ok (.aload_n 0, 1) := by decide +kernel
theorem dJ5_ensureCapacityInternal_d00df_28 : decode cJ5_ensureCapacityInternal_d00df 28 = .ok (.getfield 22, 3) := by decide +kernel
theorem dJ5_ensureCapacityInternal_d00df_31 : decode cJ5_ensureCapacityInternal_d00df 31 = .ok (.ishl, 1) := by decide +kernel
theorem dJ5_ensureCapacityInternal_d00df_32 : decode cJ5_ensureCapacityInternal_d00df 32 = .ok (.invokestatic 108, 3) := by decide +kernel
theorem dJ5_ensureCapacityInternal_d00df_35 : decode cJ5_ensureCapacityInternal_d00df 35 = .ok (.putfield 15, 3) := by decide +kernel
theorem dJ5_ensureCapacityInternal_d00df_38 : decode cJ5_ensureCapacityInternal_d00df 38 = .ok (.return_, 1) := by decide +kernel
theorem dJ5_newCapacity_0f7a4_0 : decode cJ5_newCapacity_0f7a4 0 = .ok (.aload_n 0, 1) := by decide +kernel
theorem dJ5_newCapacity_0f7a4_1 : decode cJ5_newCapacity_0f7a4 1 = .ok (.getfield 15, 3) := by decide +kernel
theorem dJ5_newCapacity_0f7a4_4 : decode cJ5_newCapacity_0f7a4 4 = .ok (.arraylength, 1) := by decide +kernel
theorem dJ5_newCapacity_0f7a4_5 : decode cJ5_newCapacity_0f7a4 5 = .ok (.istore_n 2, 1) := by decide +kernel
theorem dJ5_newCapacity_0f7a4_6 : decode cJ5_newCapacity_0f7a4 6 = .ok (.iload_n 1, 1) := by decide +kernel
theorem dJ5_newCapacity_0f7a4_7 : decode cJ5_newCapacity_0f7a4 7 = .ok (.aload_n 0, 1) := by decide +kernel
theorem dJ5_newCapacity_0f7a4_8 : decode cJ5_newCapacity_0f7a4 8 = .ok (.getfield 22, 3) := by decide +kernel
theorem dJ5_newCapacity_0f7a4_11 : decode cJ5_newCapacity_0f7a4 11 = .ok (.ishl, 1) := by decide +kernel
theorem dJ5_newCapacity_0f7a4_12 : decode cJ5_newCapacity_0f7a4 12 = .ok (.istore_n 3, 1) := by decide +kernel
theorem dJ5_newCapacity_0f7a4_13 : decode cJ5_newCapacity_0f7a4 13 = .ok (.iload_n 3, 1) := by decide +kernel
theorem dJ5_newCapacity_0f7a4_14 : decode cJ5_newCapacity_0f7a4 14 = .ok (.iload_n 2, 1) := by decide +kernel
theorem dJ5_newCapacity_0f7a4_15 : decode cJ5_newCapacity_0f7a4 15 = .ok (.isub, 1) := by decide +kernel
theorem dJ5_newCapacity_0f7a4_16 : decode cJ5_newCapacity_0f7a4 16 = .ok (.istore 4, 2) := by decide +kernel
theorem dJ5_newCapacity_0f7a4_18 : decode cJ5_newCapacity_0f7a4 18 = .ok (.iload_n 2, 1) := by decide +kernel
theorem dJ5_newCapacity_0f7a4_19 : decode cJ5_newCapacity_0f7a4 19 = .ok (.iload 4, 2) := by decide +kernel
theorem dJ5_newCapacity_0f7a4_21 : decode cJ5_newCapacity_0f7a4 21 = .ok (.iload_n 2, 1) := by decide +kernel
theorem dJ5_newCapacity_0f7a4_22 : decode cJ5_newCapacity_0f7a4 22 = .ok (.iconst 2, 1) := by decide +kernel
theorem dJ5_newCapacity_0f7a4_23 : decode cJ5_newCapacity_0f7a4 23 = .ok (.aload_n 0, 1) := by decide +kernel
theorem dJ5_newCapacity_0f7a4_24 : decode cJ5_newCapacity_0f7a4 24 = .ok (.getfield 22, 3) := by decide +kernel
theorem dJ5_newCapacity_0f7a4_27 : decode cJ5_newCapacity_0f7a4 27 = .ok (.ishl, 1) := by decide +kernel
theorem dJ5_newCapacity_0f7a4_28 : decode cJ5_newCapacity_0f7a4 28 = .ok (.iadd, 1) := by decide +kernel
theorem dJ5_newCapacity_0f7a4_29 : decode cJ5_newCapacity_0f7a4 29 = .ok (.invokestatic 114, 3) := by decide +kernel
theorem dJ5_newCapacity_0f7a4_32 : decode cJ5_newCapacity_0f7a4 32 = .ok (.istore 5, 2) := by decide +kernel
theorem dJ5_newCapacity_0f7a4_34 : decode cJ5_newCapacity_0f7a4 34 = .ok (.iload 5, 2) := by decide +kernel
theorem dJ5_newCapacity_0f7a4_36 : decode cJ5_newCapacity_0f7a4 36 = .ok (.ldc 39, 2) := by decide +kernel
theorem dJ5_newCapacity_0f7a4_38 : decode cJ5_newCapacity_0f7a4 38 = .ok (.if_icmp .ne 13, 3) := by decide +kernel
theorem dJ5_newCapacity_0f7a4_41 : decode cJ5_newCapacity_0f7a4 41 = .ok (.new 120, 3) := by decide +kernel
theorem dJ5_newCapacity_0f7a4_44 : decode cJ5_newCapacity_0f7a4 44 = .ok (.dup, 1) := by decide +kernel
theorem dJ5_newCapacity_0f7a4_45 : decode cJ5_newCapacity_0f7a4 45 = .ok (.ldc 122, 2) := by decide +kernel
theorem dJ5_newCapacity_0f7a4_47 : decode cJ5_newCapacity_0f7a4 47 = .ok (.invokespecial 124, 3) := by decide +kernel
theorem dJ5_newCapacity_0f7a4_50 : decode cJ5_newCapacity_0f7a4 50 = .ok (.athrow, 1) := by decide +kernel
theorem dJ5_newCapacity_0f7a4_51 : decode cJ5_newCapacity_0f7a4 51 = .ok (.iload 5, 2) := by decide +kernel
theorem dJ5_newCapacity_0f7a4_53 : decode cJ5_newCapacity_0f7a4 53 = .ok (.aload_n 0, 1) := by decide +kernel
theorem dJ5_newCapacity_0f7a4_54 : decode cJ5_newCapacity_0f7a4 54 = .ok (.getfield 22, 3) := by decide +kernel
theorem dJ5_newCapacity_0f7a4_57 : decode cJ5_newCapacity_0f7a4 57 = .ok (.ishr, 1) := by decide +kernel
theorem dJ5_newCapacity_0f7a4_58 : decode cJ5_newCapacity_0f7a4 58 = .ok (.ireturn, 1) := by decide +kernel
theorem dJ5_inflate_da8c8_0 : decode cJ5_inflate_da8c8 0 = .ok (.aload_n 0, 1) := by decide +kernel
theorem dJ5_inflate_da8c8_1 : decode cJ5_inflate_da8c8 1 = .ok (.invokevirtual 83, 3) := by decide +kernel
theorem dJ5_inflate_da8c8_4 : decode cJ5_inflate_da8c8 4 = .ok (.ifCond .ne 4, 3) := by decide +kernel
theorem dJ5_inflate_da8c8_7 : decode cJ5_inflate_da8c8 7 = .ok (.return_, 1) := by decide +kernel
theorem dJ5_inflate_da8c8_8 : decode cJ5_inflate_da8c8 8 = .ok (.aload_n 0, 1) := by decide +kernel
theorem dJ5_inflate_da8c8_9 : decode cJ5_inflate_da8c8 9 = .ok (.getfield 15, 3) := by decide +kernel
theorem dJ5_inflate_da8c8_12 : decode cJ5_inflate_da8c8 12 = .ok (.arraylength, 1) := by decide +kernel
theorem dJ5_inflate_da8c8_13 : decode cJ5_inflate_da8c8 13 = .ok (.invokestatic 26, 3) := by decide +kernel
theorem dJ5_inflate_da8c8_16 : decode cJ5_inflate_da8c8 16 = .ok (.astore_n 1, 1) := by decide +kernel
theorem dJ5_inflate_da8c8_17 : decode cJ5_inflate_da8c8 17 = .ok (.aload_n 0, 1) := by decide +kernel
theorem dJ5_inflate_da8c8_18 : decode cJ5_inflate_da8c8 18 = .ok (.getfield 15, 3) := by decide +kernel
theorem dJ5_inflate_da8c8_21 : decode cJ5_inflate_da8c8 21 = .ok (.iconst 0, 1) := by decide +kernel
theorem dJ5_inflate_da8c8_22 : decode cJ5_inflate_da8c8 22 = .ok (.aload_n 1, 1) := by decide +kernel
theorem dJ5_inflate_da8c8_23 : decode cJ5_inflate_da8c8 23 = .ok (.iconst 0, 1) := by decide +kernel
theorem dJ5_inflate_da8c8_24 : decode cJ5_inflate_da8c8 24 = .ok (.aload_n 0, 1) := by decide +kernel
theorem dJ5_inflate_da8c8_25 : decode cJ5_inflate_da8c8 25 = .ok (.getfield 79, 3) := by decide +kernel
theorem dJ5_inflate_da8c8_28 : decode cJ5_inflate_da8c8 28 = .ok (.invokestatic 125, 3) := by decide +kernel
theorem dJ5_inflate_da8c8_31 : decode cJ5_inflate_da8c8 31 = .ok (.aload_n 0, 1) := by decide +kernel
theorem dJ5_inflate_da8c8_32 : decode cJ5_inflate_da8c8 32 = .ok (.aload_n 1, 1) := by decide +kernel
theorem dJ5_inflate_da8c8_33 : decode cJ5_inflate_da8c8 33 = .ok (.putfield 15, 3) := by decide +kernel
theorem dJ5_inflate_da8c8_36 : decode cJ5_inflate_da8c8 36 = .ok (.aload_n 0, 1) := by decide +kernel
theorem dJ5_inflate_da8c8_37 : decode cJ5_inflate_da8c8 37 = .ok (.iconst 1, 1) := by decide +kernel
theorem dJ5_inflate_da8c8_38 : decode cJ5_inflate_da8c8 38 = .ok (.putfield 22, 3) := by decide +kernel
theorem dJ5_inflate_da8c8_41 : decode cJ5_inflate_da8c8 41 = .ok (.return_, 1) := by decide +kernel
theorem dJ5_setLength_d00df_0 : decode cJ5_setLength_d00df 0 = .ok (.iload_n 1, 1) := by decide +kernel
theorem dJ5_setLength_d00df_1 : decode cJ5_setLength_d00df 1 = .ok (.ifCond .ge 12, 3) := by decide +kernel
theorem dJ5_setLength_d00df_4 : decode cJ5_setLength_d00df 4 = .ok (.new 129, 3) := by decide +kernel
theorem dJ5_setLength_d00df_7 : decode cJ5_setLength_d00df 7 = .ok (.dup, 1) := by decide +kernel
theorem dJ5_setLength_d00df_8 : decode cJ5_setLength_d00df 8 = .ok (.iload_n 1, 1) := by decide +kernel
theorem dJ5_setLength_d00df_9 : decode cJ5_setLength_d00df 9 = .ok (.invokespecial 131, 3) := by decide +kernel
theorem dJ5_setLength_d00df_12 : decode cJ5_setLength_d00df 12 = .ok (.athrow, 1) := by decide +kernel
theorem dJ5_setLength_d00df_13 : decode cJ5_setLength_d00df 13 = .ok (.aload_n 0, 1) := by decide +kernel
theorem dJ5_setLength_d00df_14 : decode cJ5_setLength_d00df 14 = .ok (.iload_n 1, 1) := by decide +kernel
theorem dJ5_setLength_d00df_15 : decode cJ5_setLength_d00df 15 = .ok (.invokevirtual 100, 3) := by decide +kernel
theorem dJ5_setLength_d00df_18 : decode cJ5_setLength_d00df 18 = .ok (.aload_n 0, 1) := by decide +kernel
theorem dJ5_setLength_d00df_19 : decode cJ5_setLength_d00df 19 = .ok (.getfield 79, 3) := by decide +kernel
theorem dJ5_setLength_d00df_22 : decode cJ5_setLength_d00df 22 = .ok (.iload_n 1, 1) := by decide +kernel
theorem dJ5_setLength_d00df_23 : decode cJ5_setLength_d00df 23 = .ok (.if_icmp .ge 40, 3) := by decide +kernel
theorem dJ5_setLength_d00df_26 : decode cJ5_setLength_d00df 26 = .ok (.aload_n 0, 1) := by decide +kernel
theorem dJ5_setLength_d00df_27 : decode cJ5_setLength_d00df 27 = .ok (.invokevirtual 83, 3) := by decide +kernel
theorem dJ5_setLength_d00df_30 : decode cJ5_setLength_d00df 30 = .ok (.ifCond .eq 18, 3) := by decide +kernel
theorem dJ5_setLength_d00df_33 : decode cJ5_setLength_d00df 33 = .ok (.aload_n 0, 1) := by decide +kernel
theorem dJ5_setLength_d00df_34 : decode cJ5_setLength_d00df 34 = .ok (.getfield 15, 3) := by decide +kernel
theorem dJ5_setLength_d00df_37 : decode cJ5_setLength_d00df 37 = .ok (.aload_n 0, 1) := by decide +kernel
theorem dJ5_setLength_d00df_38 : decode cJ5_setLength_d00df 38 = .ok (.getfield 79, 3) := by decide +kernel
theorem dJ5_setLength_d00df_41 : decode cJ5_setLength_d00df 41 = .ok (.iload_n 1, 1) := by decide +kernel
theorem dJ5_setLength_d00df_42 : decode cJ5_setLength_d00df 42 = .ok (.invokestatic 133, 3) := by decide +kernel
theorem dJ5_setLength_d00df_45 : decode cJ5_setLength_d00df 45 = .ok (.goto 31, 3) := by decide +kernel
theorem dJ5_setLength_d00df_48 : decode cJ5_setLength_d00df 48 = .ok (.aload_n 0, 1) := by decide +kernel
theorem dJ5_setLength_d00df_49 : decode cJ5_setLength_d00df 49 = .ok (.getfield 15, 3) := by decide +kernel
theorem dJ5_setLength_d00df_52 : decode cJ5_setLength_d00df 52 = .ok (.aload_n 0, 1) := by decide +kernel
theorem dJ5_setLength_d00df_53 : decode cJ5_setLength_d00df 53 = .ok (.getfield 79, 3) := by decide +kernel
theorem dJ5_setLength_d00df_56 : decode cJ5_setLength_d00df 56 = .ok (.iload_n 1, 1) := by decide +kernel
theorem dJ5_setLength_d00df_57 : decode cJ5_setLength_d00df 57 = .ok (.invokestatic 137, 3) := by decide +kernel
theorem dJ5_setLength_d00df_60 : decode cJ5_setLength_d00df 60 = .ok (.goto 16, 3) := by decide +kernel
theorem dJ5_setLength_d00df_63 : decode cJ5_setLength_d00df 63 = .ok (.aload_n 0, 1) := by decide +kernel
theorem dJ5_setLength_d00df_64 : decode cJ5_setLength_d00df 64 = .ok (.getfield 79, 3) := by decide +kernel
theorem dJ5_setLength_d00df_67 : decode cJ5_setLength_d00df 67 = .ok (.iload_n 1, 1) := by decide +kernel
theorem dJ5_setLength_d00df_68 : decode cJ5_setLength_d00df 68 = .ok (.if_icmp .le 8, 3) := by decide +kernel
theorem dJ5_setLength_d00df_71 : decode cJ5_setLength_d00df 71 = .ok (.aload_n 0, 1) := by decide +kernel
theorem dJ5_setLength_d00df_72 : decode cJ5_setLength_d00df 72 = .ok (.iconst 1, 1) := by decide +kernel
theorem dJ5_setLength_d00df_73 : decode cJ5_setLength_d00df 73 = .ok (.putfield 73, 3) := by decide +kernel
theorem dJ5_setLength_d00df_76 : decode cJ5_setLength_d00df 76 = .ok (.aload_n 0, 1) := by decide +kernel
theorem dJ5_setLength_d00df_77 : decode cJ5_setLength_d00df 77 = .ok (.iload_n 1, 1) := by decide +kernel
theorem dJ5_setLength_d00df_78 : decode cJ5_setLength_d00df 78 = .ok (.putfield 79, 3) := by decide +kernel
theorem dJ5_setLength_d00df_81 : decode cJ5_setLength_d00df 81 = .ok (.return_, 1) := by decide +kernel
theorem dJ5_charAt_5068e_0 : decode cJ5_charAt_5068e 0 = .ok (.aload_n 0, 1) := by decide +kernel
theorem dJ5_charAt_5068e_1 : decode cJ5_charAt_5068e 1 = .ok (.getfield 22, 3) := by decide +kernel
theorem dJ5_charAt_5068e_4 : decode cJ5_charAt_5068e 4 = .ok (.istore_n 2, 1) := by decide +kernel
theorem dJ5_charAt_5068e_5 : decode cJ5_charAt_5068e 5 = .ok (.aload_n 0, 1) := by decide +kernel
theorem dJ5_charAt_5068e_6 : decode cJ5_charAt_5068e 6 = .ok (.getfield 15, 3) := by decide +kernel
theorem dJ5_charAt_5068e_9 : decode cJ5_charAt_5068e 9 = .ok (.astore_n 3, 1) := by decide +kernel
theorem dJ5_charAt_5068e_10 : decode cJ5_charAt_5068e 10 = .ok (.aload_n 0, 1) := by decide +kernel
theorem dJ5_charAt_5068e_11 : decode cJ5_charAt_5068e 11 = .ok (.getfield 79, 3) := by decide +kernel
theorem dJ5_charAt_5068e_14 : decode cJ5_charAt_5068e 14 = .ok (.aload_n 3, 1) := by decide +kernel
theorem dJ5_charAt_5068e_15 : decode cJ5_charAt_5068e 15 = .ok (.arraylength, 1) := by decide +kernel
theorem dJ5_charAt_5068e_16 : decode cJ5_charAt_5068e 16 = .ok (.iload_n 2, 1) := by decide +kernel
theorem dJ5_charAt_5068e_17 : decode cJ5_charAt_5068e 17 = .ok (.ishr, 1) := by decide +kernel
theorem dJ5_charAt_5068e_18 : decode cJ5_charAt_5068e 18 = .ok (.invokestatic 138, 3) := by decide +kernel
theorem dJ5_charAt_5068e_21 : decode cJ5_charAt_5068e 21 = .ok (.istore 4, 2) := by decide +kernel
theorem dJ5_charAt_5068e_23 : decode cJ5_charAt_5068e 23 = .ok (.iload_n 1, 1) := by decide +kernel
theorem dJ5_charAt_5068e_24 : decode cJ5_charAt_5068e 24 = .ok (.iload 4, 2) := by decide +kernel
theorem dJ5_charAt_5068e_26 : decode cJ5_charAt_5068e 26 = .ok (.invokestatic 144, 3) := by decide +kernel
theorem dJ5_charAt_5068e_29 : decode cJ5_charAt_5068e 29 = .ok (.iload_n 2, 1) := by decide +kernel
theorem dJ5_charAt_5068e_30 : decode cJ5_charAt_5068e 30 = .ok (.ifCond .ne 12, 3) := by decide +kernel
theorem dJ5_charAt_5068e_33 : decode cJ5_charAt_5068e 33 = .ok (.aload_n 3, 1) := by decide +kernel
theorem dJ5_charAt_5068e_34 : decode cJ5_charAt_5068e 34 = .ok (.iload_n 1, 1) := by decide +kernel
theorem dJ5_charAt_5068e_35 : decode cJ5_charAt_5068e 35 = .ok (.baload, 1) := by decide +kernel
theorem dJ5_charAt_5068e_36 : decode cJ5_charAt_5068e 36 = .ok (.sipush 255, 3) := by decide +kernel
theorem dJ5_charAt_5068e_39 : decode cJ5_charAt_5068e 39 = .ok (.iand, 1) := by decide +kernel
theorem dJ5_charAt_5068e_40 : decode cJ5_charAt_5068e 40 = .ok (.i2c, 1) := by decide +kernel
theorem dJ5_charAt_5068e_41 : decode cJ5_charAt_5068e 41 = .ok (.ireturn, 1) := by decide +kernel
theorem dJ5_charAt_5068e_42 : decode cJ5_charAt_5068e 42 = .ok (.aload_n 3, 1) := by decide +kernel
theorem dJ5_charAt_5068e_43 : decode cJ5_charAt_5068e 43 = .ok (.iload_n 1, 1) := by decide +kernel
theorem dJ5_charAt_5068e_44 : decode cJ5_charAt_5068e 44 = .ok (.invokestatic 148, 3) := by decide +kernel
theorem dJ5_charAt_5068e_47 : decode cJ5_charAt_5068e 47 = .ok (.ireturn, 1) := by decide +kernel
theorem dJ5_append_cf1ce_0 : decode cJ5_append_cf1ce 0 = .ok (.aload_n 1, 1) := by decide +kernel
theorem dJ5_append_cf1ce_1 : decode cJ5_append_cf1ce 1 = .ok (.ifnonnull 8, 3) := by decide +kernel
theorem dJ5_append_cf1ce_4 : decode cJ5_append_cf1ce 4 = .ok (.aload_n 0, 1) := by decide +kernel
theorem dJ5_append_cf1ce_5 : decode cJ5_append_cf1ce 5 = .ok (.invokevirtual 204, 3) := by decide +kernel
theorem dJ5_append_cf1ce_8 : decode cJ5_append_cf1ce 8 = .ok (.areturn, 1) := by decide +kernel
theorem dJ5_append_cf1ce_9 : decode cJ5_append_cf1ce 9 = .ok (.aload_n 1, 1) := by decide +kernel
theorem dJ5_append_cf1ce_10 : decode cJ5_append_cf1ce 10 = .ok (.invokevirtual 32, 3) := by decide +kernel
theorem dJ5_append_cf1ce_13 : decode cJ5_append_cf1ce 13 = .ok (.istore_n 2, 1) := by decide +kernel
theorem dJ5_append_cf1ce_14 : decode cJ5_append_cf1ce 14 = .ok (.aload_n 0, 1) := by decide +kernel
theorem dJ5_append_cf1ce_15 : decode cJ5_append_cf1ce 15 = .ok (.aload_n 0, 1) := by decide +kernel
theorem dJ5_append_cf1ce_16 : decode cJ5_append_cf1ce 16 = .ok (.getfield 79, 3) := by decide +kernel
theorem dJ5_append_cf1ce_19 : decode cJ5_append_cf1ce 19 = .ok (.iload_n 2, 1) := by decide +kernel
theorem dJ5_append_cf1ce_20 : decode cJ5_append_cf1ce 20 = .ok (.iadd, 1) := by decide +kernel
theorem dJ5_append_cf1ce_21 : decode cJ5_append_cf1ce 21 = .ok (.invokevirtual 100, 3) := by decide +kernel
theorem dJ5_append_cf1ce_24 : decode cJ5_append_cf1ce 24 = .ok (.aload_n 0, 1) := by decide +kernel
theorem dJ5_append_cf1ce_25 : decode cJ5_append_cf1ce 25 = .ok (.aload_n 0, 1) := by decide +kernel
theorem dJ5_append_cf1ce_26 : decode cJ5_append_cf1ce 26 = .ok (.getfield 79, 3) := by decide +kernel
theorem dJ5_append_cf1ce_29 : decode cJ5_append_cf1ce 29 = .ok (.aload_n 1, 1) := by decide +kernel
theorem dJ5_append_cf1ce_30 : decode cJ5_append_cf1ce 30 = .ok (.invokevirtual 208, 3) := by decide +kernel
theorem dJ5_append_cf1ce_33 : decode cJ5_append_cf1ce 33 = .ok (.aload_n 0, 1) := by decide +kernel
theorem dJ5_append_cf1ce_34 : decode cJ5_append_cf1ce 34 = .ok (.dup, 1) := by decide +kernel
theorem dJ5_append_cf1ce_35 : decode cJ5_append_cf1ce 35 = .ok (.getfield 79, 3) := by decide +kernel
theorem dJ5_append_cf1ce_38 : decode cJ5_append_cf1ce 38 = .ok (.iload_n 2, 1) := by decide +kernel
theorem dJ5_append_cf1ce_39 : decode cJ5_append_cf1ce 39 = .ok (.iadd, 1) := by decide +kernel
theorem dJ5_append_cf1ce_40 : decode cJ5_append_cf1ce 40 = .ok (.putfield 79, 3) := by decide +kernel
theorem dJ5_append_cf1ce_43 : decode cJ5_append_cf1ce 43 = .ok (.aload_n 0, 1) := by decide +kernel
theorem dJ5_append_cf1ce_44 : decode cJ5_append_cf1ce 44 = .ok (.areturn, 1) := by decide +kernel
theorem dJ5_appendNull_278bc_0 : decode cJ5_appendNull_278bc 0 = .ok (.aload_n 0, 1) := by decide +kernel
theorem dJ5_appendNull_278bc_1 : decode cJ5_appendNull_278bc 1 = .ok (.aload_n 0, 1) := by decide +kernel
theorem dJ5_appendNull_278bc_2 : decode cJ5_appendNull_278bc 2 = .ok (.getfield 79, 3) := by decide +kernel
theorem dJ5_appendNull_278bc_5 : decode cJ5_appendNull_278bc 5 = .ok (.iconst 4, 1) := by decide +kernel
theorem dJ5_appendNull_278bc_6 : decode cJ5_appendNull_278bc 6 = .ok (.iadd, 1) := by decide +kernel
theorem dJ5_appendNull_278bc_7 : decode cJ5_appendNull_278bc 7 = .ok (.invokevirtual 100, 3) := by decide +kernel
theorem dJ5_appendNull_278bc_10 : decode cJ5_appendNull_278bc 10 = .ok (.aload_n 0, 1) := by decide +kernel
theorem dJ5_appendNull_278bc_11 : decode cJ5_appendNull_278bc 11 = .ok (.getfield 79, 3) := by decide +kernel
theorem dJ5_appendNull_278bc_14 : decode cJ5_appendNull_278bc 14 = .ok (.istore_n 1, 1) := by decide +kernel
theorem dJ5_appendNull_278bc_15 : decode cJ5_appendNull_278bc 15 = .ok (.aload_n 0, 1) := by decide +kernel
theorem dJ5_appendNull_278bc_16 : decode cJ5_appendNull_278bc 16 = .ok (.getfield 15, 3) := by decide +kernel
theorem dJ5_appendNull_278bc_19 : decode cJ5_appendNull_278bc 19 = .ok (.astore_n 2, 1) := by decide +kernel
theorem dJ5_appendNull_278bc_20 : decode cJ5_appendNull_278bc 20 = .ok (.aload_n 0, 1) := by decide +kernel
theorem dJ5_appendNull_278bc_21 : decode cJ5_appendNull_278bc 21 = .ok (.invokevirtual 83, 3) := by decide +kernel
theorem dJ5_appendNull_278bc_24 : decode cJ5_appendNull_278bc 24 = .ok (.ifCond .eq 38, 3) := by decide +kernel
theorem dJ5_appendNull_278bc_27 : decode cJ5_appendNull_278bc 27 = .ok (.aload_n 2, 1) := by decide +kernel
theorem dJ5_appendNull_278bc_28 : decode cJ5_appendNull_278bc 28 = .ok (.iload_n 1, 1) := by decide +kernel
theorem dJ5_appendNull_278bc_29 : decode cJ5_appendNull_278bc 29 = .ok (.iinc 1 1, 3) := by decide +kernel
theorem dJ5_appendNull_278bc_32 : decode cJ5_appendNull_278bc 32 = .ok (.bipush 110, 2) := by decide +kernel
theorem dJ5_appendNull_278bc_34 : decode cJ5_appendNull_278bc 34 = .ok (.bastore, 1) := by decide +kernel
theorem dJ5_appendNull_278bc_35 : decode cJ5_appendNull_278bc 35 = .ok (.aload_n 2, 1) := by decide +kernel
theorem dJ5_appendNull_278bc_36 : decode cJ5_appendNull_278bc 36 = .ok (.iload_n 1, 1) := by decide +kernel
theorem dJ5_appendNull_278bc_37 : decode cJ5_appendNull_278bc 37 = .ok (.iinc 1 1, 3) := by decide +kernel
theorem dJ5_appendNull_278bc_40 : decode cJ5_appendNull_278bc 40 = .ok (.bipush 117, 2) := by decide +kernel
theorem dJ5_appendNull_278bc_42 : decode cJ5_appendNull_278bc 42 = .ok (.bastore, 1) := by decide +kernel
theorem dJ5_appendNull_278bc_43 : decode cJ5_appendNull_278bc 43 = .ok (.aload_n 2, 1) := by decide +kernel
theorem dJ5_appendNull_278bc_44 : decode cJ5_appendNull_278bc 44 = .ok (.iload_n 1, 1) := by decide +kernel
theorem dJ5_appendNull_278bc_45 : decode cJ5_appendNull_278bc 45 = .ok (.iinc 1 1, 3) := by decide +kernel
theorem dJ5_appendNull_278bc_48 : decode cJ5_appendNull_278bc 48 = .ok (.bipush 108, 2) := by decide +kernel
theorem dJ5_appendNull_278bc_50 : decode cJ5_appendNull_278bc 50 = .ok (.bastore, 1) := by decide +kernel
theorem dJ5_appendNull_278bc_51 : decode cJ5_appendNull_278bc 51 = .ok (.aload_n 2, 1) := by decide +kernel
theorem dJ5_appendNull_278bc_52 : decode cJ5_appendNull_278bc 52 = .ok (.iload_n 1, 1) := by decide +kernel
theorem dJ5_appendNull_278bc_53 : decode cJ5_appendNull_278bc 53 = .ok (.iinc 1 1, 3) := by decide +kernel
theorem dJ5_appendNull_278bc_56 : decode cJ5_appendNull_278bc 56 = .ok (.bipush 108, 2) := by decide +kernel
theorem dJ5_appendNull_278bc_58 : decode cJ5_appendNull_278bc 58 = .ok (.bastore, 1) := by decide +kernel
theorem dJ5_appendNull_278bc_59 : decode cJ5_appendNull_278bc 59 = .ok (.goto 17, 3) := by decide +kernel
theorem dJ5_appendNull_278bc_62 : decode cJ5_appendNull_278bc 62 = .ok (.aload_n 2, 1) := by decide +kernel
theorem dJ5_appendNull_278bc_63 : decode cJ5_appendNull_278bc 63 = .ok (.iload_n 1, 1) := by decide +kernel
theorem dJ5_appendNull_278bc_64 : decode cJ5_appendNull_278bc 64 = .ok (.bipush 110, 2) := by decide +kernel
theorem dJ5_appendNull_278bc_66 : decode cJ5_appendNull_278bc 66 = .ok (.bipush 117, 2) := by decide +kernel
theorem dJ5_appendNull_278bc_68 : decode cJ5_appendNull_278bc 68 = .ok (.bipush 108, 2) := by decide +kernel
theorem dJ5_appendNull_278bc_70 : decode cJ5_appendNull_278bc 70 = .ok (.bipush 108, 2) := by decide +kernel
theorem dJ5_appendNull_278bc_72 : decode cJ5_appendNull_278bc 72 = .ok (.invokestatic 226, 3) := by decide +kernel
theorem dJ5_appendNull_278bc_75 : decode cJ5_appendNull_278bc 75 = .ok (.istore_n 1, 1) := by decide +kernel
theorem dJ5_appendNull_278bc_76 : decode cJ5_appendNull_278bc 76 = .ok (.aload_n 0, 1) := by decide +kernel
theorem dJ5_appendNull_278bc_77 : decode cJ5_appendNull_278bc 77 = .ok (.iload_n 1, 1) := by decide +kernel
theorem dJ5_appendNull_278bc_78 : decode cJ5_appendNull_278bc 78 = .ok (.putfield 79, 3) := by decide +kernel
theorem dJ5_appendNull_278bc_81 : decode cJ5_appendNull_278bc 81 = .ok (.aload_n 0, 1) := by decide +kernel
theorem dJ5_appendNull_278bc_82 : decode cJ5_appendNull_278bc 82 = .ok (.areturn, 1) := by decide +kernel
theorem dJ5_append_3fe6f_0 : decode cJ5_append_3fe6f 0 = .ok (.aload_n 0, 1) := by decide +kernel
theorem dJ5_append_3fe6f_1 : decode cJ5_append_3fe6f 1 = .ok (.aload_n 0, 1) := by decide +kernel
theorem dJ5_append_3fe6f_2 : decode cJ5_append_3fe6f 2 = .ok (.getfield 79, 3) := by decide +kernel
theorem dJ5_append_3fe6f_5 : decode cJ5_append_3fe6f 5 = .ok (.iconst 1, 1) := by decide +kernel
theorem dJ5_append_3fe6f_6 : decode cJ5_append_3fe6f 6 = .ok (.iadd, 1) := by decide +kernel
theorem dJ5_append_3fe6f_7 : decode cJ5_append_3fe6f 7 = .ok (.invokevirtual 100, 3) := by decide +kernel
theorem dJ5_append_3fe6f_10 : decode cJ5_append_3fe6f 10 = .ok (.aload_n 0, 1) := by decide +kernel
theorem dJ5_append_3fe6f_11 : decode cJ5_append_3fe6f 11 = .ok (.invokevirtual 83, 3) := by decide +kernel
theorem dJ5_append_3fe6f_14 : decode cJ5_append_3fe6f 14 = .ok (.ifCond .eq 31, 3) := by decide +kernel
theorem dJ5_append_3fe6f_17 : decode cJ5_append_3fe6f 17 = .ok (.iload_n 1, 1) := by decide +kernel
theorem dJ5_append_3fe6f_18 : decode cJ5_append_3fe6f 18 = .ok (.invokestatic 191, 3) := by decide +kernel
theorem dJ5_append_3fe6f_21 : decode cJ5_append_3fe6f 21 = .ok (.ifCond .eq 24, 3) := by decide +kernel
theorem dJ5_append_3fe6f_24 : decode cJ5_append_3fe6f 24 = .ok (.aload_n 0, 1) := by decide +kernel
theorem dJ5_append_3fe6f_25 : decode cJ5_append_3fe6f 25 = .ok (.getfield 15, 3) := by decide +kernel
theorem dJ5_append_3fe6f_28 : decode cJ5_append_3fe6f 28 = .ok (.aload_n 0, 1) := by decide +kernel
theorem dJ5_append_3fe6f_29 : decode cJ5_append_3fe6f 29 = .ok (.dup, 1) := by decide +kernel
theorem dJ5_append_3fe6f_30 : decode cJ5_append_3fe6f 30 = .ok (.getfield 79, 3) := by decide +kernel
theorem dJ5_append_3fe6f_33 : decode cJ5_append_3fe6f 33 = .ok (.dup_x1, 1) := by decide +kernel
theorem dJ5_append_3fe6f_34 : decode cJ5_append_3fe6f 34 = .ok (.iconst 1, 1) := by decide +kernel
theorem dJ5_append_3fe6f_35 : decode cJ5_append_3fe6f 35 = .ok (.iadd, 1) := by decide +kernel
theorem dJ5_append_3fe6f_36 : decode cJ5_append_3fe6f 36 = .ok (.putfield 79, 3) := by decide +kernel
theorem dJ5_append_3fe6f_39 : decode cJ5_append_3fe6f 39 = .ok (.iload_n 1, 1) := by decide +kernel
theorem dJ5_append_3fe6f_40 : decode cJ5_append_3fe6f 40 = .ok (.i2b, 1) := by decide +kernel
theorem dJ5_append_3fe6f_41 : decode cJ5_append_3fe6f 41 = .ok (.bastore, 1) := by decide +kernel
theorem dJ5_append_3fe6f_42 : decode cJ5_append_3fe6f 42 = .ok (.goto 33, 3) := by decide +kernel
theorem dJ5_append_3fe6f_45 : decode cJ5_append_3fe6f 45 = .ok (.aload_n 0, 1) := by decide +kernel
theorem dJ5_append_3fe6f_46 : decode cJ5_append_3fe6f 46 = .ok (.invokevirtual 83, 3) := by decide +kernel
theorem dJ5_append_3fe6f_49 : decode cJ5_append_3fe6f 49 = .ok (.ifCond .eq 7, 3) := by decide +kernel
theorem dJ5_append_3fe6f_52 : decode cJ5_append_3fe6f 52 = .ok (.aload_n 0, 1) := by decide +kernel
theorem dJ5_append_3fe6f_53 : decode cJ5_append_3fe6f 53 = .ok (.invokevirtual 195, 3) := by decide +kernel
theorem dJ5_append_3fe6f_56 : decode cJ5_append_3fe6f 56 = .ok (.aload_n 0, 1) := by decide +kernel
theorem dJ5_append_3fe6f_57 : decode cJ5_append_3fe6f 57 = .ok (.getfield 15, 3) := by decide +kernel
theorem dJ5_append_3fe6f_60 : decode cJ5_append_3fe6f 60 = .ok (.aload_n 0, 1) := by decide +kernel
theorem dJ5_append_3fe6f_61 : decode cJ5_append_3fe6f 61 = .ok (.dup, 1) := by decide +kernel
theorem dJ5_append_3fe6f_62 : decode cJ5_append_3fe6f 62 = .ok (.getfield 79, 3) := by decide +kernel
theorem dJ5_append_3fe6f_65 : decode cJ5_append_3fe6f 65 = .ok (.dup_x1, 1) := by decide +kernel
theorem dJ5_append_3fe6f_66 : decode cJ5_append_3fe6f 66 = .ok (.iconst 1, 1) := by decide +kernel
theorem dJ5_append_3fe6f_67 : decode cJ5_append_3fe6f 67 = .ok (.iadd, 1) := by decide +kernel
theorem dJ5_append_3fe6f_68 : decode cJ5_append_3fe6f 68 = .ok (.putfield 79, 3) := by decide +kernel
theorem dJ5_append_3fe6f_71 : decode cJ5_append_3fe6f 71 = .ok (.iload_n 1, 1) := by decide +kernel
theorem dJ5_append_3fe6f_72 : decode cJ5_append_3fe6f 72 = .ok (.invokestatic 197, 3) := by decide +kernel
theorem dJ5_append_3fe6f_75 : decode cJ5_append_3fe6f 75 = .ok (.aload_n 0, 1) := by decide +kernel
theorem dJ5_append_3fe6f_76 : decode cJ5_append_3fe6f 76 = .ok (.areturn, 1) := by decide +kernel
theorem dJ5_append_c97b9_0 : decode cJ5_append_c97b9 0 = .ok (.aload_n 0, 1) := by decide +kernel
theorem dJ5_append_c97b9_1 : decode cJ5_append_c97b9 1 = .ok (.getfield 79, 3) := by decide +kernel
theorem dJ5_append_c97b9_4 : decode cJ5_append_c97b9 4 = .ok (.istore_n 2, 1) := by decide +kernel
theorem dJ5_append_c97b9_5 : decode cJ5_append_c97b9 5 = .ok (.iload_n 2, 1) := by decide +kernel
theorem dJ5_append_c97b9_6 : decode cJ5_append_c97b9 6 = .ok (.iload_n 1, 1) := by decide +kernel
theorem dJ5_append_c97b9_7 : decode cJ5_append_c97b9 7 = .ok (.invokestatic 245, 3) := by decide +kernel
theorem dJ5_append_c97b9_10 : decode cJ5_append_c97b9 10 = .ok (.iadd, 1) := by decide +kernel
theorem dJ5_append_c97b9_11 : decode cJ5_append_c97b9 11 = .ok (.istore_n 3, 1) := by decide +kernel
theorem dJ5_append_c97b9_12 : decode cJ5_append_c97b9 12 = .ok (.aload_n 0, 1) := by decide +kernel
theorem dJ5_append_c97b9_13 : decode cJ5_append_c97b9 13 = .ok (.iload_n 3, 1) := by decide +kernel
theorem dJ5_append_c97b9_14 : decode cJ5_append_c97b9 14 = .ok (.invokevirtual 100, 3) := by decide +kernel
theorem dJ5_append_c97b9_17 : decode cJ5_append_c97b9 17 = .ok (.aload_n 0, 1) := by decide +kernel
theorem dJ5_append_c97b9_18 : decode cJ5_append_c97b9 18 = .ok (.invokevirtual 83, 3) := by decide +kernel
theorem dJ5_append_c97b9_21 : decode cJ5_append_c97b9 21 = .ok (.ifCond .eq 16, 3) := by decide +kernel
theorem dJ5_append_c97b9_24 : decode cJ5_append_c97b9 24 = .ok (.iload_n 1, 1) := by decide +kernel
theorem dJ5_append_c97b9_25 : decode cJ5_append_c97b9 25 = .ok (.iload_n 3, 1) := by decide +kernel
theorem dJ5_append_c97b9_26 : decode cJ5_append_c97b9 26 = .ok (.aload_n 0, 1) := by decide +kernel
theorem dJ5_append_c97b9_27 : decode cJ5_append_c97b9 27 = .ok (.getfield 15, 3) := by decide +kernel
theorem dJ5_append_c97b9_30 : decode cJ5_append_c97b9 30 = .ok (.invokestatic 248, 3) := by decide +kernel
theorem dJ5_append_c97b9_33 : decode cJ5_append_c97b9 33 = .ok (.pop, 1) := by decide +kernel
theorem dJ5_append_c97b9_34 : decode cJ5_append_c97b9 34 = .ok (.goto 14, 3) := by decide +kernel
theorem dJ5_append_c97b9_37 : decode cJ5_append_c97b9 37 = .ok (.iload_n 1, 1) := by decide +kernel
theorem dJ5_append_c97b9_38 : decode cJ5_append_c97b9 38 = .ok (.iload_n 2, 1) := by decide +kernel
theorem dJ5_append_c97b9_39 : decode cJ5_append_c97b9 39 = .ok (.iload_n 3, 1) := by decide +kernel
theorem dJ5_append_c97b9_40 : decode cJ5_append_c97b9 40 = .ok (.aload_n 0, 1) := by decide +kernel
theorem dJ5_append_c97b9_41 : decode cJ5_append_c97b9 41 = .ok (.getfield 15, 3) := by decide +kernel
theorem dJ5_append_c97b9_44 : decode cJ5_append_c97b9 44 = .ok (.invokestatic 251, 3) := by decide +kernel
theorem dJ5_append_c97b9_47 : decode cJ5_append_c97b9 47 = .ok (.pop, 1) := by decide +kernel
theorem dJ5_append_c97b9_48 : decode cJ5_append_c97b9 48 = .ok (.aload_n 0, 1) := by decide +kernel
theorem dJ5_append_c97b9_49 : decode cJ5_append_c97b9 49 = .ok (.iload_n 3, 1) := by decide +kernel
theorem dJ5_append_c97b9_50 : decode cJ5_append_c97b9 50 = .ok (.putfield 79, 3) := by decide +kernel
theorem dJ5_append_c97b9_53 : decode cJ5_append_c97b9 53 = .ok (.aload_n 0, 1) := by decide +kernel
theorem dJ5_append_c97b9_54 : decode cJ5_append_c97b9 54 = .ok (.areturn, 1) := by decide +kernel
theorem dJ5_getValue_6d5f1_0 : decode cJ5_getValue_6d5f1 0 = .ok (.aload_n 0, 1) := by decide +kernel
theorem dJ5_getValue_6d5f1_1 : decode cJ5_getValue_6d5f1 1 = .ok (.getfield 15, 3) := by decide +kernel
theorem dJ5_getValue_6d5f1_4 : decode cJ5_getValue_6d5f1 4 = .ok (.areturn, 1) := by decide +kernel
theorem dJ5_isLatin1_aae02_0 : decode cJ5_isLatin1_aae02 0 = .ok (.getstatic 18, 3) := by decide +kernel
theorem dJ5_isLatin1_aae02_3 : decode cJ5_isLatin1_aae02 3 = .ok (.ifCond .eq 14, 3) := by decide +kernel
theorem dJ5_isLatin1_aae02_6 : decode cJ5_isLatin1_aae02 6 = .ok (.aload_n 0, 1) := by decide +kernel
theorem dJ5_isLatin1_aae02_7 : decode cJ5_isLatin1_aae02 7 = .ok (.getfield 22, 3) := by decide +kernel
theorem dJ5_isLatin1_aae02_10 : decode cJ5_isLatin1_aae02 10 = .ok (.ifCond .ne 7, 3) := by decide +kernel
theorem dJ5_isLatin1_aae02_13 : decode cJ5_isLatin1_aae02 13 = .ok (.iconst 1, 1) := by decide +kernel
theorem dJ5_isLatin1_aae02_14 : decode cJ5_isLatin1_aae02 14 = .ok (.goto 4, 3) := by decide +kernel
theorem dJ5_isLatin1_aae02_17 : decode cJ5_isLatin1_aae02 17 = .ok (.iconst 0, 1) := by decide +kernel
theorem dJ5_isLatin1_aae02_18 : decode cJ5_isLatin1_aae02 18 = .ok (.ireturn, 1) := by decide +kernel
theorem dJ5_inflateIfNeededFor_a7421_0 : decode cJ5_inflateIfNeededFor_a7421 0 = .ok (.getstatic 18, 3) := by decide +kernel
theorem dJ5_inflateIfNeededFor_a7421_3 : decode cJ5_inflateIfNeededFor_a7421 3 = .ok (.ifCond .eq 18, 3) := by decide +kernel
theorem dJ5_inflateIfNeededFor_a7421_6 : decode cJ5_inflateIfNeededFor_a7421 6 = .ok (.aload_n 0, 1) := by decide +kernel
theorem dJ5_inflateIfNeededFor_a7421_7 : decode cJ5_inflateIfNeededFor_a7421 7 = .ok (.getfield 22, 3) := by decide +kernel
theorem dJ5_inflateIfNeededFor_a7421_10 : decode cJ5_inflateIfNeededFor_a7421 10 = .ok (.aload_n 1, 1) := by decide +kernel
theorem dJ5_inflateIfNeededFor_a7421_11 : decode cJ5_inflateIfNeededFor_a7421 11 = .ok (.invokevirtual 40, 3) := by decide +kernel
theorem dJ5_inflateIfNeededFor_a7421_14 : decode cJ5_inflateIfNeededFor_a7421 14 = .ok (.if_icmp .eq 7, 3) := by decide +kernel
theorem dJ5_inflateIfNeededFor_a7421_17 : decode cJ5_inflateIfNeededFor_a7421 17 = .ok (.aload_n 0, 1) := by decide +kernel
theorem dJ5_inflateIfNeededFor_a7421_18 : decode cJ5_inflateIfNeededFor_a7421 18 = .ok (.invokevirtual 195, 3) := by decide +kernel
theorem dJ5_inflateIfNeededFor_a7421_21 : decode cJ5_inflateIfNeededFor_a7421 21 = .ok (.return_, 1) := by decide +kernel
theorem dJ5_putStringAt_47b60_0 : decode cJ5_putStringAt_47b60 0 = .ok (.aload_n 0, 1) := by decide +kernel
theorem dJ5_putStringAt_47b60_1 : decode cJ5_putStringAt_47b60 1 = .ok (.aload_n 2, 1) := by decide +kernel
theorem dJ5_putStringAt_47b60_2 : decode cJ5_putStringAt_47b60 2 = .ok (.invokevirtual 397, 3) := by decide +kernel
theorem dJ5_putStringAt_47b60_5 : decode cJ5_putStringAt_47b60 5 = .ok (.aload_n 2, 1) := by decide +kernel
theorem dJ5_putStringAt_47b60_6 : decode cJ5_putStringAt_47b60 6 = .ok (.aload_n 0, 1) := by decide +kernel
theorem dJ5_putStringAt_47b60_7 : decode cJ5_putStringAt_47b60 7 = .ok (.getfield 15, 3) := by decide +kernel
theorem dJ5_putStringAt_47b60_10 : decode cJ5_putStringAt_47b60 10 = .ok (.iload_n 1, 1) := by decide +kernel
theorem dJ5_putStringAt_47b60_11 : decode cJ5_putStringAt_47b60 11 = .ok (.aload_n 0, 1) := by decide +kernel
theorem dJ5_putStringAt_47b60_12 : decode cJ5_putStringAt_47b60 12 = .ok (.getfield 22, 3) := by decide +kernel
theorem dJ5_putStringAt_47b60_15 : decode cJ5_putStringAt_47b60 15 = .ok (.invokevirtual 399, 3) := by decide +kernel
theorem dJ5_putStringAt_47b60_18 : decode cJ5_putStringAt_47b60 18 = .ok (.return_, 1) := by decide +kernel
theorem dJx00060_init_a7421_0 : decode cJx00060_init_a7421 0 = .ok (.aload_n 0, 1) := by decide +kernel
theorem dJx00060_init_a7421_1 : decode cJx00060_init_a7421 1 = .ok (.aload_n 1, 1) := by decide +kernel
theorem dJx00060_init_a7421_2 : decode cJx00060_init_a7421 2 = .ok (.invokespecial 7, 3) := by decide +kernel
theorem dJx00060_init_a7421_5 : decode cJx00060_init_a7421 5 = .ok (.return_, 1) := by decide +kernel
theorem dJx00060_init_d00df_0 : decode cJx00060_init_d00df 0 = .ok (.aload_n 0, 1) := by decide +kernel
theorem dJx00060_init_d00df_1 : decode cJx00060_init_d00df 1 = .ok (.new 10, 3) := by decide +kernel
theorem dJx00060_init_d00df_4 : decode cJx00060_init_d00df 4 = .ok (.dup, 1) := by decide +kernel
theorem dJx00060_init_d00df_5 : decode cJx00060_init_d00df 5 = .ok (.invokespecial 12, 3) := by decide +kernel
theorem dJx00060_init_d00df_8 : decode cJx00060_init_d00df 8 = .ok (.ldc 13, 2) := by decide +kernel
theorem dJx00060_init_d00df_10 : decode cJx00060_init_d00df 10 = .ok (.invokevirtual 15, 3) := by decide +kernel
theorem dJx00060_init_d00df_13 : decode cJx00060_init_d00df 13 = .ok (.iload_n 1, 1) := by decide +kernel
theorem dJx00060_init_d00df_14 : decode cJx00060_init_d00df 14 = .ok (.invokevirtual 19, 3) := by decide +kernel
theorem dJx00060_init_d00df_17 : decode cJx00060_init_d00df 17 = .ok (.invokevirtual 22, 3) := by decide +kernel
theorem dJx00060_init_d00df_20 : decode cJx00060_init_d00df 20 = .ok (.invokespecial 7, 3) := by decide +kernel
theorem dJx00060_init_d00df_23 : decode cJx00060_init_d00df 23 = .ok (.return_, 1) := by decide +kernel
theorem dJx29ce0_ordinal_8abf5_0 : decode cJx29ce0_ordinal_8abf5 0 = .ok (.aload_n 0, 1) := by decide +kernel
theorem dJx29ce0_ordinal_8abf5_1 : decode cJx29ce0_ordinal_8abf5 1 = .ok (.getfield 7, 3) := by decide +kernel
theorem dJx29ce0_ordinal_8abf5_4 : decode cJx29ce0_ordinal_8abf5 4 = .ok (.ireturn, 1) := by decide +kernel
theorem dJ6_getChars_ba4f3_0 : decode cJ6_getChars_ba4f3 0 = .ok (.iload_n 1, 1) := by decide +kernel
theorem dJ6_getChars_ba4f3_1 : decode cJ6_getChars_ba4f3 1 = .ok (.istore 5, 2) := by decide +kernel
theorem dJ6_getChars_ba4f3_3 : decode cJ6_getChars_ba4f3 3 = .ok (.iload_n 0, 1) := by decide +kernel
theorem dJ6_getChars_ba4f3_4 : decode cJ6_getChars_ba4f3 4 = .ok (.ifCond .ge 7, 3) := by decide +kernel
theorem dJ6_getChars_ba4f3_7 : decode cJ6_getChars_ba4f3 7 = .ok (.iconst 1, 1) := by decide +kernel
theorem dJ6_getChars_ba4f3_8 : decode cJ6_getChars_ba4f3 8 = .ok (.goto 4, 3) := by decide +kernel
theorem dJ6_getChars_ba4f3_11 : decode cJ6_getChars_ba4f3 11 = .ok (.iconst 0, 1) := by decide +kernel
theorem dJ6_getChars_ba4f3_12 : decode cJ6_getChars_ba4f3 12 = .ok (.istore 6, 2) := by decide +kernel
theorem dJ6_getChars_ba4f3_14 : decode cJ6_getChars_ba4f3 14 = .ok (.iload 6, 2) := by decide +kernel
theorem dJ6_getChars_ba4f3_16 : decode cJ6_getChars_ba4f3 16 = .ok (.ifCond .ne 6, 3) := by decide +kernel
theorem dJ6_getChars_ba4f3_19 : decode cJ6_getChars_ba4f3 19 = .ok (.iload_n 0, 1) := by decide +kernel
theorem dJ6_getChars_ba4f3_20 : decode cJ6_getChars_ba4f3 20 = .ok (.ineg, 1) := by decide +kernel
theorem dJ6_getChars_ba4f3_21 : decode cJ6_getChars_ba4f3 21 = .ok (.istore_n 0, 1) := by decide +kernel
theorem dJ6_getChars_ba4f3_22 : decode cJ6_getChars_ba4f3 22 = .ok (.iload_n 0, 1) := by decide +kernel
theorem dJ6_getChars_ba4f3_23 : decode cJ6_getChars_ba4f3 23 = .ok (.bipush (-100), 2) := by decide +kernel
theorem dJ6_getChars_ba4f3_25 : decode cJ6_getChars_ba4f3 25 = .ok (.if_icmp .gt 47, 3) := by decide +kernel
theorem dJ6_getChars_ba4f3_28 : decode cJ6_getChars_ba4f3 28 = .ok (.iload_n 0, 1) := by decide +kernel
theorem dJ6_getChars_ba4f3_29 : decode cJ6_getChars_ba4f3 29 = .ok (.bipush 100, 2) := by decide +kernel
theorem dJ6_getChars_ba4f3_31 : decode cJ6_getChars_ba4f3 31 = .ok (.idiv, 1) := by decide +kernel
theorem dJ6_getChars_ba4f3_32 : decode cJ6_getChars_ba4f3 32 = .ok (.istore_n 3, 1) := by decide +kernel
theorem dJ6_getChars_ba4f3_33 : decode cJ6_getChars_ba4f3 33 = .ok (.iload_n 3, 1) := by decide +kernel
theorem dJ6_getChars_ba4f3_34 : decode cJ6_getChars_ba4f3 34 = .ok (.bipush 100, 2) := by decide +kernel
theorem dJ6_getChars_ba4f3_36 : decode cJ6_getChars_ba4f3 36 = .ok (.imul, 1) := by decide +kernel
theorem dJ6_getChars_ba4f3_37 : decode cJ6_getChars_ba4f3 37 = .ok (.iload_n 0, 1) := by decide +kernel
theorem dJ6_getChars_ba4f3_38 : decode cJ6_getChars_ba4f3 38 = .ok (.isub, 1) := by decide +kernel
theorem dJ6_getChars_ba4f3_39 : decode cJ6_getChars_ba4f3 39 = .ok (.istore 4, 2) := by decide +kernel
theorem dJ6_getChars_ba4f3_41 : decode cJ6_getChars_ba4f3 41 = .ok (.iload_n 3, 1) := by decide +kernel
theorem dJ6_getChars_ba4f3_42 : decode cJ6_getChars_ba4f3 42 = .ok (.istore_n 0, 1) := by decide +kernel
theorem dJ6_getChars_ba4f3_43 : decode cJ6_getChars_ba4f3 43 = .ok (.aload_n 2, 1) := by decide +kernel
theorem dJ6_getChars_ba4f3_44 : decode cJ6_getChars_ba4f3 44 = .ok (.iinc 5 (-1), 3) := by decide +kernel
theorem dJ6_getChars_ba4f3_47 : decode cJ6_getChars_ba4f3 47 = .ok (.iload 5, 2) := by decide +kernel
theorem dJ6_getChars_ba4f3_49 : decode cJ6_getChars_ba4f3 49 = .ok (.getstatic 83, 3) := by decide +kernel
theorem dJ6_getChars_ba4f3_52 : decode cJ6_getChars_ba4f3 52 = .ok (.iload 4, 2) := by decide +kernel
theorem dJ6_getChars_ba4f3_54 : decode cJ6_getChars_ba4f3 54 = .ok (.baload, 1) := by decide +kernel
theorem dJ6_getChars_ba4f3_55 : decode cJ6_getChars_ba4f3 55 = .ok (.bastore, 1) := by decide +kernel
theorem dJ6_getChars_ba4f3_56 : decode cJ6_getChars_ba4f3 56 = .ok (.aload_n 2, 1) := by decide +kernel
theorem dJ6_getChars_ba4f3_57 : decode cJ6_getChars_ba4f3 57 = .ok (.iinc 5 (-1), 3) := by decide +kernel
theorem dJ6_getChars_ba4f3_60 : decode cJ6_getChars_ba4f3 60 = .ok (.iload 5, 2) := by decide +kernel
theorem dJ6_getChars_ba4f3_62 : decode cJ6_getChars_ba4f3 62 = .ok (.getstatic 87, 3) := by decide +kernel
theorem dJ6_getChars_ba4f3_65 : decode cJ6_getChars_ba4f3 65 = .ok (.iload 4, 2) := by decide +kernel
theorem dJ6_getChars_ba4f3_67 : decode cJ6_getChars_ba4f3 67 = .ok (.baload, 1) := by decide +kernel
theorem dJ6_getChars_ba4f3_68 : decode cJ6_getChars_ba4f3 68 = .ok (.bastore, 1) := by decide +kernel
theorem dJ6_getChars_ba4f3_69 : decode cJ6_getChars_ba4f3 69 = .ok (.goto (-47), 3) := by decide +kernel
theorem dJ6_getChars_ba4f3_72 : decode cJ6_getChars_ba4f3 72 = .ok (.aload_n 2, 1) := by decide +kernel
theorem dJ6_getChars_ba4f3_73 : decode cJ6_getChars_ba4f3 73 = .ok (.iinc 5 (-1), 3) := by decide +kernel
theorem dJ6_getChars_ba4f3_76 : decode cJ6_getChars_ba4f3 76 = .ok (.iload 5, 2) := by decide +kernel
theorem dJ6_getChars_ba4f3_78 : decode cJ6_getChars_ba4f3 78 = .ok (.getstatic 83, 3) := by decide +kernel
theorem dJ6_getChars_ba4f3_81 : decode cJ6_getChars_ba4f3 81 = .ok (.iload_n 0, 1) := by decide +kernel
theorem dJ6_getChars_ba4f3_82 : decode cJ6_getChars_ba4f3 82 = .ok (.ineg, 1) := by decide +kernel
theorem dJ6_getChars_ba4f3_83 : decode cJ6_getChars_ba4f3 83 = .ok (.baload, 1) := by decide +kernel
theorem dJ6_getChars_ba4f3_84 : decode cJ6_getChars_ba4f3 84 = .ok (.bastore, 1) := by decide +kernel
theorem dJ6_getChars_ba4f3_85 : decode cJ6_getChars_ba4f3 85 = .ok (.iload_n 0, 1) := by decide +kernel
theorem dJ6_getChars_ba4f3_86 : decode cJ6_getChars_ba4f3 86 = .ok (.bipush (-9), 2) := by decide +kernel
theorem dJ6_getChars_ba4f3_88 : decode cJ6_getChars_ba4f3 88 = .ok (.if_icmp .ge 16, 3) := by decide +kernel
theorem dJ6_getChars_ba4f3_91 : decode cJ6_getChars_ba4f3 91 = .ok (.aload_n 2, 1) := by decide +kernel
theorem dJ6_getChars_ba4f3_92 : decode cJ6_getChars_ba4f3 92 = .ok (.iinc 5 (-1), 3) := by decide +kernel
theorem dJ6_getChars_ba4f3_95 : decode cJ6_getChars_ba4f3 95 = .ok (.iload 5, 2) := by decide +kernel
theorem dJ6_getChars_ba4f3_97 : decode cJ6_getChars_ba4f3 97 = .ok (.getstatic 87, 3) := by decide +kernel
theorem dJ6_getChars_ba4f3_100 : decode cJ6_getChars_ba4f3 100 = .ok (.iload_n 0, 1) := by decide +kernel
theorem dJ6_getChars_ba4f3_101 : decode cJ6_getChars_ba4f3 101 = .ok (.ineg, 1) := by decide +kernel
theorem dJ6_getChars_ba4f3_102 : decode cJ6_getChars_ba4f3 102 = .ok (.baload, 1) := by decide +kernel
theorem dJ6_getChars_ba4f3_103 : decode cJ6_getChars_ba4f3 103 = .ok (.bastore, 1) := by decide +kernel
theorem dJ6_getChars_ba4f3_104 : decode cJ6_getChars_ba4f3 104 = .ok (.iload 6, 2) := by decide +kernel
theorem dJ6_getChars_ba4f3_106 : decode cJ6_getChars_ba4f3 106 = .ok (.ifCond .eq 12, 3) := by decide +kernel
theorem dJ6_getChars_ba4f3_109 : decode cJ6_getChars_ba4f3 109 = .ok (.aload_n 2, 1) := by decide +kernel
theorem dJ6_getChars_ba4f3_110 : decode cJ6_getChars_ba4f3 110 = .ok (.iinc 5 (-1), 3) := by decide +kernel
theorem dJ6_getChars_ba4f3_113 : decode cJ6_getChars_ba4f3 113 = .ok (.iload 5, 2) := by decide +kernel
theorem dJ6_getChars_ba4f3_115 : decode cJ6_getChars_ba4f3 115 = .ok (.bipush 45, 2) := by decide +kernel
theorem dJ6_getChars_ba4f3_117 : decode cJ6_getChars_ba4f3 117 = .ok (.bastore, 1) := by decide +kernel
theorem dJ6_getChars_ba4f3_118 : decode cJ6_getChars_ba4f3 118 = .ok (.iload 5, 2) := by decide +kernel
theorem dJ6_getChars_ba4f3_120 : decode cJ6_getChars_ba4f3 120 = .ok (.ireturn, 1) := by decide +kernel
theorem dJ6_stringSize_0f7a4_0 : decode cJ6_stringSize_0f7a4 0 = .ok (.iconst 1, 1) := by decide +kernel
theorem dJ6_stringSize_0f7a4_1 : decode cJ6_stringSize_0f7a4 1 = .ok (.istore_n 1, 1) := by decide +kernel
theorem dJ6_stringSize_0f7a4_2 : decode cJ6_stringSize_0f7a4 2 = .ok (.iload_n 0, 1) := by decide +kernel
theorem dJ6_stringSize_0f7a4_3 : decode cJ6_stringSize_0f7a4 3 = .ok (.ifCond .lt 8, 3) := by decide +kernel
theorem dJ6_stringSize_0f7a4_6 : decode cJ6_stringSize_0f7a4 6 = .ok (.iconst 0, 1) := by decide +kernel
theorem dJ6_stringSize_0f7a4_7 : decode cJ6_stringSize_0f7a4 7 = .ok (.istore_n 1, 1) := by decide +kernel
theorem dJ6_stringSize_0f7a4_8 : decode cJ6_stringSize_0f7a4 8 = .ok (.iload_n 0, 1) := by decide +kernel
theorem dJ6_stringSize_0f7a4_9 : decode cJ6_stringSize_0f7a4 9 = .ok (.ineg, 1) := by decide +kernel
theorem dJ6_stringSize_0f7a4_10 : decode cJ6_stringSize_0f7a4 10 = .ok (.istore_n 0, 1) := by decide +kernel
theorem dJ6_stringSize_0f7a4_11 : decode cJ6_stringSize_0f7a4 11 = .ok (.bipush (-10), 2) := by decide +kernel
theorem dJ6_stringSize_0f7a4_13 : decode cJ6_stringSize_0f7a4 13 = .ok (.istore_n 2, 1) := by decide +kernel
theorem dJ6_stringSize_0f7a4_14 : decode cJ6_stringSize_0f7a4 14 = .ok (.iconst 1, 1) := by decide +kernel
theorem dJ6_stringSize_0f7a4_15 : decode cJ6_stringSize_0f7a4 15 = .ok (.istore_n 3, 1) := by decide +kernel
theorem dJ6_stringSize_0f7a4_16 : decode cJ6_stringSize_0f7a4 16 = .ok (.iload_n 3, 1) := by decide +kernel
theorem dJ6_stringSize_0f7a4_17 : decode cJ6_stringSize_0f7a4 17 = .ok (.bipush 10, 2) := by decide +kernel
theorem dJ6_stringSize_0f7a4_19 : decode cJ6_stringSize_0f7a4 19 = .ok (.if_icmp .ge 23, 3) := by decide +kernel
theorem dJ6_stringSize_0f7a4_22 : decode cJ6_stringSize_0f7a4 22 = .ok (.iload_n 0, 1) := by decide +kernel
theorem dJ6_stringSize_0f7a4_23 : decode cJ6_stringSize_0f7a4 23 = .ok (.iload_n 2, 1) := by decide +kernel
theorem dJ6_stringSize_0f7a4_24 : decode cJ6_stringSize_0f7a4 24 = .ok (.if_icmp .le 7, 3) := by decide +kernel
theorem dJ6_stringSize_0f7a4_27 : decode cJ6_stringSize_0f7a4 27 = .ok (.iload_n 3, 1) := by decide +kernel
theorem dJ6_stringSize_0f7a4_28 : decode cJ6_stringSize_0f7a4 28 = .ok (.iload_n 1, 1) := by decide +kernel
theorem dJ6_stringSize_0f7a4_29 : decode cJ6_stringSize_0f7a4 29 = .ok (.iadd, 1) := by decide +kernel
theorem dJ6_stringSize_0f7a4_30 : decode cJ6_stringSize_0f7a4 30 = .ok (.ireturn, 1) := by decide +kernel
theorem dJ6_stringSize_0f7a4_31 : decode cJ6_stringSize_0f7a4 31 = .ok (.bipush 10, 2) := by decide +kernel
theorem dJ6_stringSize_0f7a4_33 : decode cJ6_stringSize_0f7a4 33 = .ok (.iload_n 2, 1) := by decide +kernel
theorem dJ6_stringSize_0f7a4_34 : decode cJ6_stringSize_0f7a4 34 = .ok (.imul, 1) := by decide +kernel
theorem dJ6_stringSize_0f7a4_35 : decode cJ6_stringSize_0f7a4 35 = .ok (.istore_n 2, 1) := by decide +kernel
theorem dJ6_stringSize_0f7a4_36 : decode cJ6_stringSize_0f7a4 36 = .ok (.iinc 3 1, 3) := by decide +kernel
theorem dJ6_stringSize_0f7a4_39 : decode cJ6_stringSize_0f7a4 39 = .ok (.goto (-23), 3) := by decide +kernel
theorem dJ6_stringSize_0f7a4_42 : decode cJ6_stringSize_0f7a4 42 = .ok (.bipush 10, 2) := by decide +kernel
theorem dJ6_stringSize_0f7a4_44 : decode cJ6_stringSize_0f7a4 44 = .ok (.iload_n 1, 1) := by decide +kernel
theorem dJ6_stringSize_0f7a4_45 : decode cJ6_stringSize_0f7a4 45 = .ok (.iadd, 1) := by decide +kernel
theorem dJ6_stringSize_0f7a4_46 : decode cJ6_stringSize_0f7a4 46 = .ok (.ireturn, 1) := by decide +kernel
theorem dJ6_bitCount_0f7a4_0 : decode cJ6_bitCount_0f7a4 0 = .ok (.iload_n 0, 1) := by decide +kernel
theorem dJ6_bitCount_0f7a4_1 : decode cJ6_bitCount_0f7a4 1 = .ok (.iload_n 0, 1) := by decide +kernel
theorem dJ6_bitCount_0f7a4_2 : decode cJ6_bitCount_0f7a4 2 = .ok (.iconst 1, 1) := by decide +kernel
theorem dJ6_bitCount_0f7a4_3 : decode cJ6_bitCount_0f7a4 3 = .ok (.iushr, 1) := by decide +kernel
theorem dJ6_bitCount_0f7a4_4 : decode cJ6_bitCount_0f7a4 4 = .ok (.ldc_w 265, 3) := by decide +kernel
theorem dJ6_bitCount_0f7a4_7 : decode cJ6_bitCount_0f7a4 7 = .ok (.iand, 1) := by decide +kernel
theorem dJ6_bitCount_0f7a4_8 : decode cJ6_bitCount_0f7a4 8 = .ok (.isub, 1) := by decide +kernel
theorem dJ6_bitCount_0f7a4_9 : decode cJ6_bitCount_0f7a4 9 = .ok (.istore_n 0, 1) := by decide +kernel
theorem dJ6_bitCount_0f7a4_10 : decode cJ6_bitCount_0f7a4 10 = .ok (.iload_n 0, 1) := by decide +kernel
theorem dJ6_bitCount_0f7a4_11 : decode cJ6_bitCount_0f7a4 11 = .ok (.ldc_w 266, 3) := by decide +kernel
theorem dJ6_bitCount_0f7a4_14 : decode cJ6_bitCount_0f7a4 14 = .ok (.iand, 1) := by decide +kernel
theorem dJ6_bitCount_0f7a4_15 : decode cJ6_bitCount_0f7a4 15 = .ok (.iload_n 0, 1) := by decide +kernel
theorem dJ6_bitCount_0f7a4_16 : decode cJ6_bitCount_0f7a4 16 = .ok (.iconst 2, 1) := by decide +kernel
theorem dJ6_bitCount_0f7a4_17 : decode cJ6_bitCount_0f7a4 17 = .ok (.iushr, 1) := by decide +kernel
theorem dJ6_bitCount_0f7a4_18 : decode cJ6_bitCount_0f7a4 18 = .ok (.ldc_w 266, 3) := by decide +kernel
theorem dJ6_bitCount_0f7a4_21 : decode cJ6_bitCount_0f7a4 21 = .ok (.iand, 1) := by decide +kernel
theorem dJ6_bitCount_0f7a4_22 : decode cJ6_bitCount_0f7a4 22 = .ok (.iadd, 1) := by decide +kernel
theorem dJ6_bitCount_0f7a4_23 : decode cJ6_bitCount_0f7a4 23 = .ok (.istore_n 0, 1) := by decide +kernel
theorem dJ6_bitCount_0f7a4_24 : decode cJ6_bitCount_0f7a4 24 = .ok (.iload_n 0, 1) := by decide +kernel
theorem dJ6_bitCount_0f7a4_25 : decode cJ6_bitCount_0f7a4 25 = .ok (.iload_n 0, 1) := by decide +kernel
theorem dJ6_bitCount_0f7a4_26 : decode cJ6_bitCount_0f7a4 26 = .ok (.iconst 4, 1) := by decide +kernel
theorem dJ6_bitCount_0f7a4_27 : decode cJ6_bitCount_0f7a4 27 = .ok (.iushr, 1) := by decide +kernel
theorem dJ6_bitCount_0f7a4_28 : decode cJ6_bitCount_0f7a4 28 = .ok (.iadd, 1) := by decide +kernel
theorem dJ6_bitCount_0f7a4_29 : decode cJ6_bitCount_0f7a4 29 = .ok (.ldc_w 267, 3) := by decide +kernel
theorem dJ6_bitCount_0f7a4_32 : decode cJ6_bitCount_0f7a4 32 = .ok (.iand, 1) := by decide +kernel
theorem dJ6_bitCount_0f7a4_33 : decode cJ6_bitCount_0f7a4 33 = .ok (.istore_n 0, 1) := by decide +kernel
theorem dJ6_bitCount_0f7a4_34 : decode cJ6_bitCount_0f7a4 34 = .ok (.iload_n 0, 1) := by decide +kernel
theorem dJ6_bitCount_0f7a4_35 : decode cJ6_bitCount_0f7a4 35 = .ok (.iload_n 0, 1) := by decide +kernel
theorem dJ6_bitCount_0f7a4_36 : decode cJ6_bitCount_0f7a4 36 = .ok (.bipush 8, 2) := by decide +kernel
theorem dJ6_bitCount_0f7a4_38 : decode cJ6_bitCount_0f7a4 38 = .ok (.iushr, 1) := by decide +kernel
theorem dJ6_bitCount_0f7a4_39 : decode cJ6_bitCount_0f7a4 39 = .ok (.iadd, 1) := by decide +kernel
theorem dJ6_bitCount_0f7a4_40 : decode cJ6_bitCount_0f7a4 40 = .ok (.istore_n 0, 1) := by decide +kernel
theorem dJ6_bitCount_0f7a4_41 : decode cJ6_bitCount_0f7a4 41 = .ok (.iload_n 0, 1) := by decide +kernel
theorem dJ6_bitCount_0f7a4_42 : decode cJ6_bitCount_0f7a4 42 = .ok (.iload_n 0, 1) := by decide +kernel
theorem dJ6_bitCount_0f7a4_43 : decode cJ6_bitCount_0f7a4 43 = .ok (.bipush 16, 2) := by decide +kernel
theorem dJ6_bitCount_0f7a4_45 : decode cJ6_bitCount_0f7a4 45 = .ok (.iushr, 1) := by decide +kernel
theorem dJ6_bitCount_0f7a4_46 : decode cJ6_bitCount_0f7a4 46 = .ok (.iadd, 1) := by decide +kernel
theorem dJ6_bitCount_0f7a4_47 : decode cJ6_bitCount_0f7a4 47 = .ok (.istore_n 0, 1) := by decide +kernel
theorem dJ6_bitCount_0f7a4_48 : decode cJ6_bitCount_0f7a4 48 = .ok (.iload_n 0, 1) := by decide +kernel
theorem dJ6_bitCount_0f7a4_49 : decode cJ6_bitCount_0f7a4 49 = .ok (.bipush 63, 2) := by decide +kernel
theorem dJ6_bitCount_0f7a4_51 : decode cJ6_bitCount_0f7a4 51 = .ok (.iand, 1) := by decide +kernel
theorem dJ6_bitCount_0f7a4_52 : decode cJ6_bitCount_0f7a4 52 = .ok (.ireturn, 1) := by decide +kernel
theorem dJ9_max_7cf53_0 : decode cJ9_max_7cf53 0 = .ok (.iload_n 0, 1) := by decide +kernel
theorem dJ9_max_7cf53_1 : decode cJ9_max_7cf53 1 = .ok (.iload_n 1, 1) := by decide +kernel
theorem dJ9_max_7cf53_2 : decode cJ9_max_7cf53 2 = .ok (.if_icmp .lt 7, 3) := by decide +kernel
theorem dJ9_max_7cf53_5 : decode cJ9_max_7cf53 5 = .ok (.iload_n 0, 1) := by decide +kernel
theorem dJ9_max_7cf53_6 : decode cJ9_max_7cf53 6 = .ok (.goto 4, 3) := by decide +kernel
theorem dJ9_max_7cf53_9 : decode cJ9_max_7cf53 9 = .ok (.iload_n 1, 1) := by decide +kernel
theorem dJ9_max_7cf53_10 : decode cJ9_max_7cf53 10 = .ok (.ireturn, 1) := by decide +kernel
theorem dJ9_min_7cf53_0 : decode cJ9_min_7cf53 0 = .ok (.iload_n 0, 1) := by decide +kernel
theorem dJ9_min_7cf53_1 : decode cJ9_min_7cf53 1 = .ok (.iload_n 1, 1) := by decide +kernel
theorem dJ9_min_7cf53_2 : decode cJ9_min_7cf53 2 = .ok (.if_icmp .gt 7, 3) := by decide +kernel
theorem dJ9_min_7cf53_5 : decode cJ9_min_7cf53 5 = .ok (.iload_n 0, 1) := by decide +kernel
theorem dJ9_min_7cf53_6 : decode cJ9_min_7cf53 6 = .ok (.goto 4, 3) := by decide +kernel
theorem dJ9_min_7cf53_9 : decode cJ9_min_7cf53 9 = .ok (.iload_n 1, 1) := by decide +kernel
theorem dJ9_min_7cf53_10 : decode cJ9_min_7cf53 10 = .ok (.ireturn, 1) := by decide +kernel
theorem dJ0_init_81219_0 : decode cJ0_init_81219 0 = .ok (.aload_n 0, 1) := by decide +kernel
theorem dJ0_init_81219_1 : decode cJ0_init_81219 1 = .ok (.aload_n 1, 1) := by decide +kernel
theorem dJ0_init_81219_2 : decode cJ0_init_81219 2 = .ok (.aconst_null, 1) := by decide +kernel
theorem dJ0_init_81219_3 : decode cJ0_init_81219 3 = .ok (.invokespecial 489, 3) := by decide +kernel
theorem dJ0_init_81219_6 : decode cJ0_init_81219 6 = .ok (.return_, 1) := by decide +kernel
theorem dJ0_length_8abf5_0 : decode cJ0_length_8abf5 0 = .ok (.aload_n 0, 1) := by decide +kernel
theorem dJ0_length_8abf5_1 : decode cJ0_length_8abf5 1 = .ok (.getfield 9, 3) := by decide +kernel
theorem dJ0_length_8abf5_4 : decode cJ0_length_8abf5 4 = .ok (.arraylength, 1) := by decide +kernel
theorem dJ0_length_8abf5_5 : decode cJ0_length_8abf5 5 = .ok (.aload_n 0, 1) := by decide +kernel
theorem dJ0_length_8abf5_6 : decode cJ0_length_8abf5 6 = .ok (.invokevirtual 335, 3) := by decide +kernel
theorem dJ0_length_8abf5_9 : decode cJ0_length_8abf5 9 = .ok (.ishr, 1) := by decide +kernel
theorem dJ0_length_8abf5_10 : decode cJ0_length_8abf5 10 = .ok (.ireturn, 1) := by decide +kernel
theorem dJ0_charAt_5068e_0 : decode cJ0_charAt_5068e 0 = .ok (.aload_n 0, 1) := by decide +kernel
theorem dJ0_charAt_5068e_1 : decode cJ0_charAt_5068e 1 = .ok (.invokevirtual 492, 3) := by decide +kernel
theorem dJ0_charAt_5068e_4 : decode cJ0_charAt_5068e 4 = .ok (.ifCond .eq 12, 3) := by decide +kernel
theorem dJ0_charAt_5068e_7 : decode cJ0_charAt_5068e 7 = .ok (.aload_n 0, 1) := by decide +kernel
theorem dJ0_charAt_5068e_8 : decode cJ0_charAt_5068e 8 = .ok (.getfield 9, 3) := by decide +kernel
theorem dJ0_charAt_5068e_11 : decode cJ0_charAt_5068e 11 = .ok (.iload_n 1, 1) := by decide +kernel
theorem dJ0_charAt_5068e_12 : decode cJ0_charAt_5068e 12 = .ok (.invokestatic 495, 3) := by decide +kernel
theorem dJ0_charAt_5068e_15 : decode cJ0_charAt_5068e 15 = .ok (.ireturn, 1) := by decide +kernel
theorem dJ0_charAt_5068e_16 : decode cJ0_charAt_5068e 16 = .ok (.aload_n 0, 1) := by decide +kernel
theorem dJ0_charAt_5068e_17 : decode cJ0_charAt_5068e 17 = .ok (.getfield 9, 3) := by decide +kernel
theorem dJ0_charAt_5068e_20 : decode cJ0_charAt_5068e 20 = .ok (.iload_n 1, 1) := by decide +kernel
theorem dJ0_charAt_5068e_21 : decode cJ0_charAt_5068e 21 = .ok (.invokestatic 498, 3) := by decide +kernel
theorem dJ0_charAt_5068e_24 : decode cJ0_charAt_5068e 24 = .ok (.ireturn, 1) := by decide +kernel
theorem dJ0_getBytes_840e7_0 : decode cJ0_getBytes_840e7 0 = .ok (.aload_n 0, 1) := by decide +kernel
theorem dJ0_getBytes_840e7_1 : decode cJ0_getBytes_840e7 1 = .ok (.invokevirtual 335, 3) := by decide +kernel
theorem dJ0_getBytes_840e7_4 : decode cJ0_getBytes_840e7 4 = .ok (.iload_n 3, 1) := by decide +kernel
theorem dJ0_getBytes_840e7_5 : decode cJ0_getBytes_840e7 5 = .ok (.if_icmp .ne 23, 3) := by decide +kernel
theorem dJ0_getBytes_840e7_8 : decode cJ0_getBytes_840e7 8 = .ok (.aload_n 0, 1) := by decide +kernel
theorem dJ0_getBytes_840e7_9 : decode cJ0_getBytes_840e7 9 = .ok (.getfield 9, 3) := by decide +kernel
theorem dJ0_getBytes_840e7_12 : decode cJ0_getBytes_840e7 12 = .ok (.iconst 0, 1) := by decide +kernel
theorem dJ0_getBytes_840e7_13 : decode cJ0_getBytes_840e7 13 = .ok (.aload_n 1, 1) := by decide +kernel
theorem dJ0_getBytes_840e7_14 : decode cJ0_getBytes_840e7 14 = .ok (.iload_n 2, 1) := by decide +kernel
theorem dJ0_getBytes_840e7_15 : decode cJ0_getBytes_840e7 15 = .ok (.iload_n 3, 1) := by decide +kernel
theorem dJ0_getBytes_840e7_16 : decode cJ0_getBytes_840e7 16 = .ok (.ishl, 1) := by decide +kernel
theorem dJ0_getBytes_840e7_17 : decode cJ0_getBytes_840e7 17 = .ok (.aload_n 0, 1) := by decide +kernel
theorem dJ0_getBytes_840e7_18 : decode cJ0_getBytes_840e7 18 = .ok (.getfield 9, 3) := by decide +kernel
theorem dJ0_getBytes_840e7_21 : decode cJ0_getBytes_840e7 21 = .ok (.arraylength, 1) := by decide +kernel
theorem dJ0_getBytes_840e7_22 : decode cJ0_getBytes_840e7 22 = .ok (.invokestatic 212, 3) := by decide +kernel
theorem dJ0_getBytes_840e7_25 : decode cJ0_getBytes_840e7 25 = .ok (.goto 18, 3) := by decide +kernel
theorem dJ0_getBytes_840e7_28 : decode cJ0_getBytes_840e7 28 = .ok (.aload_n 0, 1) := by decide +kernel
theorem dJ0_getBytes_840e7_29 : decode cJ0_getBytes_840e7 29 = .ok (.getfield 9, 3) := by decide +kernel
theorem dJ0_getBytes_840e7_32 : decode cJ0_getBytes_840e7 32 = .ok (.iconst 0, 1) := by decide +kernel
theorem dJ0_getBytes_840e7_33 : decode cJ0_getBytes_840e7 33 = .ok (.aload_n 1, 1) := by decide +kernel
theorem dJ0_getBytes_840e7_34 : decode cJ0_getBytes_840e7 34 = .ok (.iload_n 2, 1) := by decide +kernel
theorem dJ0_getBytes_840e7_35 : decode cJ0_getBytes_840e7 35 = .ok (.aload_n 0, 1) := by decide +kernel
theorem dJ0_getBytes_840e7_36 : decode cJ0_getBytes_840e7 36 = .ok (.getfield 9, 3) := by decide +kernel
theorem dJ0_getBytes_840e7_39 : decode cJ0_getBytes_840e7 39 = .ok (.arraylength, 1) := by decide +kernel
theorem dJ0_getBytes_840e7_40 : decode cJ0_getBytes_840e7 40 = .ok (.invokestatic 106, 3) := by decide +kernel
theorem dJ0_getBytes_840e7_43 : decode cJ0_getBytes_840e7 43 = .ok (.return_, 1) := by decide +kernel
theorem dJ0_init_db425_0 : decode cJ0_init_db425 0 = .ok (.aload_n 0, 1) := by decide +kernel
theorem dJ0_init_db425_1 : decode cJ0_init_db425 1 = .ok (.invokespecial 1, 3) := by decide +kernel
theorem dJ0_init_db425_4 : decode cJ0_init_db425 4 = .ok (.aload_n 1, 1) := by decide +kernel
theorem dJ0_init_db425_5 : decode cJ0_init_db425 5 = .ok (.invokevirtual 552, 3) := by decide +kernel
theorem dJ0_init_db425_8 : decode cJ0_init_db425 8 = .ok (.astore_n 3, 1) := by decide +kernel
theorem dJ0_init_db425_9 : decode cJ0_init_db425 9 = .ok (.aload_n 1, 1) := by decide +kernel
theorem dJ0_init_db425_10 : decode cJ0_init_db425 10 = .ok (.invokevirtual 549, 3) := by decide +kernel
theorem dJ0_init_db425_13 : decode cJ0_init_db425 13 = .ok (.istore 4, 2) := by decide +kernel
theorem dJ0_init_db425_15 : decode cJ0_init_db425 15 = .ok (.aload_n 1, 1) := by decide +kernel
theorem dJ0_init_db425_16 : decode cJ0_init_db425 16 = .ok (.invokevirtual 1047, 3) := by decide +kernel
theorem dJ0_init_db425_19 : decode cJ0_init_db425 19 = .ok (.ifCond .eq 22, 3) := by decide +kernel
theorem dJ0_init_db425_22 : decode cJ0_init_db425 22 = .ok (.aload_n 0, 1) := by decide +kernel
theorem dJ0_init_db425_23 : decode cJ0_init_db425 23 = .ok (.iconst 0, 1) := by decide +kernel
theorem dJ0_init_db425_24 : decode cJ0_init_db425 24 = .ok (.putfield 15, 3) := by decide +kernel
theorem dJ0_init_db425_27 : decode cJ0_init_db425 27 = .ok (.aload_n 0, 1) := by decide +kernel
theorem dJ0_init_db425_28 : decode cJ0_init_db425 28 = .ok (.aload_n 3, 1) := by decide +kernel
theorem dJ0_init_db425_29 : decode cJ0_init_db425 29 = .ok (.iconst 0, 1) := by decide +kernel
theorem dJ0_init_db425_30 : decode cJ0_init_db425 30 = .ok (.iload 4, 2) := by decide +kernel
theorem dJ0_init_db425_32 : decode cJ0_init_db425 32 = .ok (.invokestatic 54, 3) := by decide +kernel
theorem dJ0_init_db425_35 : decode cJ0_init_db425 35 = .ok (.putfield 9, 3) := by decide +kernel
theorem dJ0_init_db425_38 : decode cJ0_init_db425 38 = .ok (.goto 59, 3) := by decide +kernel
theorem dJ0_init_db425_41 : decode cJ0_init_db425 41 = .ok (.getstatic 38, 3) := by decide +kernel
theorem dJ0_init_db425_44 : decode cJ0_init_db425 44 = .ok (.ifCond .eq 35, 3) := by decide +kernel
theorem dJ0_init_db425_47 : decode cJ0_init_db425 47 = .ok (.aload_n 1, 1) := by decide +kernel
theorem dJ0_init_db425_48 : decode cJ0_init_db425 48 = .ok (.getfield 1048, 3) := by decide +kernel
theorem dJ0_init_db425_51 : decode cJ0_init_db425 51 = .ok (.ifCond .eq 28, 3) := by decide +kernel
theorem dJ0_init_db425_54 : decode cJ0_init_db425 54 = .ok (.aload_n 0, 1) := by decide +kernel
theorem dJ0_init_db425_55 : decode cJ0_init_db425 55 = .ok (.aload_n 3, 1) := by decide +kernel
theorem dJ0_init_db425_56 : decode cJ0_init_db425 56 = .ok (.iconst 0, 1) := by decide +kernel
theorem dJ0_init_db425_57 : decode cJ0_init_db425 57 = .ok (.iload 4, 2) := by decide +kernel
theorem dJ0_init_db425_59 : decode cJ0_init_db425 59 = .ok (.invokestatic 1051, 3) := by decide +kernel
theorem dJ0_init_db425_62 : decode cJ0_init_db425 62 = .ok (.putfield 9, 3) := by decide +kernel
theorem dJ0_init_db425_65 : decode cJ0_init_db425 65 = .ok (.aload_n 0, 1) := by decide +kernel
theorem dJ0_init_db425_66 : decode cJ0_init_db425 66 = .ok (.aload_n 0, 1) := by decide +kernel
theorem dJ0_init_db425_67 : decode cJ0_init_db425 67 = .ok (.getfield 9, 3) := by decide +kernel
theorem dJ0_init_db425_70 : decode cJ0_init_db425 70 = .ok (.iload 4, 2) := by decide +kernel
theorem dJ0_init_db425_72 : decode cJ0_init_db425 72 = .ok (.invokestatic 47, 3) := by decide +kernel
theorem dJ0_init_db425_75 : decode cJ0_init_db425 75 = .ok (.putfield 15, 3) := by decide +kernel
theorem dJ0_init_db425_78 : decode cJ0_init_db425 78 = .ok (.return_, 1) := by decide +kernel
theorem dJ0_init_db425_79 : decode cJ0_init_db425 79 = .ok (.aload_n 0, 1) := by decide +kernel
theorem dJ0_init_db425_80 : decode cJ0_init_db425 80 = .ok (.iconst 1, 1) := by decide +kernel
theorem dJ0_init_db425_81 : decode cJ0_init_db425 81 = .ok (.putfield 15, 3) := by decide +kernel
theorem dJ0_init_db425_84 : decode cJ0_init_db425 84 = .ok (.aload_n 0, 1) := by decide +kernel
theorem dJ0_init_db425_85 : decode cJ0_init_db425 85 = .ok (.aload_n 3, 1) := by decide +kernel
theorem dJ0_init_db425_86 : decode cJ0_init_db425 86 = .ok (.iconst 0, 1) := by decide +kernel
theorem dJ0_init_db425_87 : decode cJ0_init_db425 87 = .ok (.iload 4, 2) := by decide +kernel
theorem dJ0_init_db425_89 : decode cJ0_init_db425 89 = .ok (.iconst 1, 1) := by decide +kernel
theorem dJ0_init_db425_90 : decode cJ0_init_db425 90 = .ok (.ishl, 1) := by decide +kernel
theorem dJ0_init_db425_91 : decode cJ0_init_db425 91 = .ok (.invokestatic 54, 3) := by decide +kernel
theorem dJ0_init_db425_94 : decode cJ0_init_db425 94 = .ok (.putfield 9, 3) := by decide +kernel
theorem dJ0_init_db425_97 : decode cJ0_init_db425 97 = .ok (.return_, 1) := by decide +kernel
theorem dJ0_coder_7d493_0 : decode cJ0_coder_7d493 0 = .ok (.getstatic 38, 3) := by decide +kernel
theorem dJ0_coder_7d493_3 : decode cJ0_coder_7d493 3 = .ok (.ifCond .eq 10, 3) := by decide +kernel
theorem dJ0_coder_7d493_6 : decode cJ0_coder_7d493 6 = .ok (.aload_n 0, 1) := by decide +kernel
theorem dJ0_coder_7d493_7 : decode cJ0_coder_7d493 7 = .ok (.getfield 15, 3) := by decide +kernel
theorem dJ0_coder_7d493_10 : decode cJ0_coder_7d493 10 = .ok (.goto 4, 3) := by decide +kernel
theorem dJ0_coder_7d493_13 : decode cJ0_coder_7d493 13 = .ok (.iconst 1, 1) := by decide +kernel
theorem dJ0_coder_7d493_14 : decode cJ0_coder_7d493 14 = .ok (.ireturn, 1) := by decide +kernel
theorem dJ0_isLatin1_aae02_0 : decode cJ0_isLatin1_aae02 0 = .ok (.getstatic 38, 3) := by decide +kernel
theorem dJ0_isLatin1_aae02_3 : decode cJ0_isLatin1_aae02 3 = .ok (.ifCond .eq 14, 3) := by decide +kernel
theorem dJ0_isLatin1_aae02_6 : decode cJ0_isLatin1_aae02 6 = .ok (.aload_n 0, 1) := by decide +kernel
theorem dJ0_isLatin1_aae02_7 : decode cJ0_isLatin1_aae02 7 = .ok (.getfield 15, 3) := by decide +kernel
theorem dJ0_isLatin1_aae02_10 : decode cJ0_isLatin1_aae02 10 = .ok (.ifCond .ne 7, 3) := by decide +kernel
theorem dJ0_isLatin1_aae02_13 : decode cJ0_isLatin1_aae02 13 = .ok (.iconst 1, 1) := by decide +kernel
theorem dJ0_isLatin1_aae02_14 : decode cJ0_isLatin1_aae02 14 = .ok (.goto 4, 3) := by decide +kernel
theorem dJ0_isLatin1_aae02_17 : decode cJ0_isLatin1_aae02 17 = .ok (.iconst 0, 1) := by decide +kernel
theorem dJ0_isLatin1_aae02_18 : decode cJ0_isLatin1_aae02 18 = .ok (.ireturn, 1) := by decide +kernel
theorem dJ0_checkIndex_df160_0 : decode cJ0_checkIndex_df160 0 = .ok (.iload_n 0, 1) := by decide +kernel
theorem dJ0_checkIndex_df160_1 : decode cJ0_checkIndex_df160 1 = .ok (.iload_n 1, 1) := by decide +kernel
theorem dJ0_checkIndex_df160_2 : decode cJ0_checkIndex_df160 2 = .ok (.getstatic 1053, 3) := by decide +kernel
theorem dJ0_checkIndex_df160_5 : decode cJ0_checkIndex_df160 5 = .ok (.invokestatic 1059, 3) := by decide +kernel
theorem dJ0_checkIndex_df160_8 : decode cJ0_checkIndex_df160 8 = .ok (.pop, 1) := by decide +kernel
theorem dJ0_checkIndex_df160_9 : decode cJ0_checkIndex_df160 9 = .ok (.return_, 1) := by decide +kernel
theorem dJ0_checkBoundsOffCount_cabcc_0 : decode cJ0_checkBoundsOffCount_cabcc 0 = .ok (.iload_n 0, 1) := by decide +kernel
theorem dJ0_checkBoundsOffCount_cabcc_1 : decode cJ0_checkBoundsOffCount_cabcc 1 = .ok (.iload_n 1, 1) := by decide +kernel
theorem dJ0_checkBoundsOffCount_cabcc_2 : decode cJ0_checkBoundsOffCount_cabcc 2 = .ok (.iload_n 2, 1) := by decide +kernel
theorem dJ0_checkBoundsOffCount_cabcc_3 : decode cJ0_checkBoundsOffCount_cabcc 3 = .ok (.getstatic 1053, 3) := by decide +kernel
theorem dJ0_checkBoundsOffCount_cabcc_6 : decode cJ0_checkBoundsOffCount_cabcc 6 = .ok (.invokestatic 1065, 3) := by decide +kernel
theorem dJ0_checkBoundsOffCount_cabcc_9 : decode cJ0_checkBoundsOffCount_cabcc 9 = .ok (.ireturn, 1) := by decide +kernel
theorem dJ0_checkBoundsBeginEnd_23922_0 : decode cJ0_checkBoundsBeginEnd_23922 0 = .ok (.iload_n 0, 1) := by decide +kernel
theorem dJ0_checkBoundsBeginEnd_23922_1 : decode cJ0_checkBoundsBeginEnd_23922 1 = .ok (.iload_n 1, 1) := by decide +kernel
theorem dJ0_checkBoundsBeginEnd_23922_2 : decode cJ0_checkBoundsBeginEnd_23922 2 = .ok (.iload_n 2, 1) := by decide +kernel
theorem dJ0_checkBoundsBeginEnd_23922_3 : decode cJ0_checkBoundsBeginEnd_23922 3 = .ok (.getstatic 1053, 3) := by decide +kernel
theorem dJ0_checkBoundsBeginEnd_23922_6 : decode cJ0_checkBoundsBeginEnd_23922 6 = .ok (.invokestatic 1062, 3) := by decide +kernel
theorem dJ0_checkBoundsBeginEnd_23922_9 : decode cJ0_checkBoundsBeginEnd_23922 9 = .ok (.pop, 1) := by decide +kernel
theorem dJ0_checkBoundsBeginEnd_23922_10 : decode cJ0_checkBoundsBeginEnd_23922 10 = .ok (.return_, 1) := by decide +kernel
theorem dJ4_init_da8c8_0 : decode cJ4_init_da8c8 0 = .ok (.aload_n 0, 1) := by decide +kernel
theorem dJ4_init_da8c8_1 : decode cJ4_init_da8c8 1 = .ok (.bipush 16, 2) := by decide +kernel
theorem dJ4_init_da8c8_3 : decode cJ4_init_da8c8 3 = .ok (.invokespecial 1, 3) := by decide +kernel
theorem dJ4_init_da8c8_6 : decode cJ4_init_da8c8 6 = .ok (.return_, 1) := by decide +kernel
theorem dJ4_append_15ec4_0 : decode cJ4_append_15ec4 0 = .ok (.aload_n 0, 1) := by decide +kernel
theorem dJ4_append_15ec4_1 : decode cJ4_append_15ec4 1 = .ok (.aload_n 1, 1) := by decide +kernel
theorem dJ4_append_15ec4_2 : decode cJ4_append_15ec4 2 = .ok (.invokespecial 29, 3) := by decide +kernel
theorem dJ4_append_15ec4_5 : decode cJ4_append_15ec4 5 = .ok (.pop, 1) := by decide +kernel
theorem dJ4_append_15ec4_6 : decode cJ4_append_15ec4 6 = .ok (.aload_n 0, 1) := by decide +kernel
theorem dJ4_append_15ec4_7 : decode cJ4_append_15ec4 7 = .ok (.areturn, 1) := by decide +kernel
theorem dJ4_append_cf468_0 : decode cJ4_append_cf468 0 = .ok (.aload_n 0, 1) := by decide +kernel
theorem dJ4_append_cf468_1 : decode cJ4_append_cf468 1 = .ok (.iload_n 1, 1) := by decide +kernel
theorem dJ4_append_cf468_2 : decode cJ4_append_cf468 2 = .ok (.invokespecial 50, 3) := by decide +kernel
theorem dJ4_append_cf468_5 : decode cJ4_append_cf468 5 = .ok (.pop, 1) := by decide +kernel
theorem dJ4_append_cf468_6 : decode cJ4_append_cf468 6 = .ok (.aload_n 0, 1) := by decide +kernel
theorem dJ4_append_cf468_7 : decode cJ4_append_cf468 7 = .ok (.areturn, 1) := by decide +kernel
theorem dJ4_append_bf812_0 : decode cJ4_append_bf812 0 = .ok (.aload_n 0, 1) := by decide +kernel
theorem dJ4_append_bf812_1 : decode cJ4_append_bf812 1 = .ok (.iload_n 1, 1) := by decide +kernel
theorem dJ4_append_bf812_2 : decode cJ4_append_bf812 2 = .ok (.invokespecial 53, 3) := by decide +kernel
theorem dJ4_append_bf812_5 : decode cJ4_append_bf812 5 = .ok (.pop, 1) := by decide +kernel
theorem dJ4_append_bf812_6 : decode cJ4_append_bf812 6 = .ok (.aload_n 0, 1) := by decide +kernel
theorem dJ4_append_bf812_7 : decode cJ4_append_bf812 7 = .ok (.areturn, 1) := by decide +kernel
theorem dJ4_toString_0e30d_0 : decode cJ4_toString_0e30d 0 = .ok (.new 18, 3) := by decide +kernel
theorem dJ4_toString_0e30d_3 : decode cJ4_toString_0e30d 3 = .ok (.dup, 1) := by decide +kernel
theorem dJ4_toString_0e30d_4 : decode cJ4_toString_0e30d 4 = .ok (.aload_n 0, 1) := by decide +kernel
theorem dJ4_toString_0e30d_5 : decode cJ4_toString_0e30d 5 = .ok (.invokespecial 137, 3) := by decide +kernel
theorem dJ4_toString_0e30d_8 : decode cJ4_toString_0e30d 8 = .ok (.areturn, 1) := by decide +kernel
theorem dJ4_charAt_5068e_0 : decode cJ4_charAt_5068e 0 = .ok (.aload_n 0, 1) := by decide +kernel
theorem dJ4_charAt_5068e_1 : decode cJ4_charAt_5068e 1 = .ok (.iload_n 1, 1) := by decide +kernel
theorem dJ4_charAt_5068e_2 : decode cJ4_charAt_5068e 2 = .ok (.invokespecial 329, 3) := by decide +kernel
theorem dJ4_charAt_5068e_5 : decode cJ4_charAt_5068e 5 = .ok (.ireturn, 1) := by decide +kernel
theorem dJ4_setLength_d00df_0 : decode cJ4_setLength_d00df 0 = .ok (.aload_n 0, 1) := by decide +kernel
theorem dJ4_setLength_d00df_1 : decode cJ4_setLength_d00df 1 = .ok (.iload_n 1, 1) := by decide +kernel
theorem dJ4_setLength_d00df_2 : decode cJ4_setLength_d00df 2 = .ok (.invokespecial 333, 3) := by decide +kernel
theorem dJ4_setLength_d00df_5 : decode cJ4_setLength_d00df 5 = .ok (.return_, 1) := by decide +kernel
theorem dJ4_length_8abf5_0 : decode cJ4_length_8abf5 0 = .ok (.aload_n 0, 1) := by decide +kernel
theorem dJ4_length_8abf5_1 : decode cJ4_length_8abf5 1 = .ok (.invokespecial 343, 3) := by decide +kernel
theorem dJ4_length_8abf5_4 : decode cJ4_length_8abf5 4 = .ok (.ireturn, 1) := by decide +kernel
theorem dJx7c733_init_d00df_0 : decode cJx7c733_init_d00df 0 = .ok (.aload_n 0, 1) := by decide +kernel
theorem dJx7c733_init_d00df_1 : decode cJx7c733_init_d00df 1 = .ok (.new 10, 3) := by decide +kernel
theorem dJx7c733_init_d00df_4 : decode cJx7c733_init_d00df 4 = .ok (.dup, 1) := by decide +kernel
theorem dJx7c733_init_d00df_5 : decode cJx7c733_init_d00df 5 = .ok (.invokespecial 12, 3) := by decide +kernel
theorem dJx7c733_init_d00df_8 : decode cJx7c733_init_d00df 8 = .ok (.ldc 13, 2) := by decide +kernel
theorem dJx7c733_init_d00df_10 : decode cJx7c733_init_d00df 10 = .ok (.invokevirtual 15, 3) := by decide +kernel
theorem dJx7c733_init_d00df_13 : decode cJx7c733_init_d00df 13 = .ok (.iload_n 1, 1) := by decide +kernel
theorem dJx7c733_init_d00df_14 : decode cJx7c733_init_d00df 14 = .ok (.invokevirtual 19, 3) := by decide +kernel
theorem dJx7c733_init_d00df_17 : decode cJx7c733_init_d00df 17 = .ok (.invokevirtual 22, 3) := by decide +kernel
theorem dJx7c733_init_d00df_20 : decode cJx7c733_init_d00df 20 = .ok (.invokespecial 7, 3) := by decide +kernel
theorem dJx7c733_init_d00df_23 : decode cJx7c733_init_d00df 23 = .ok (.return_, 1) := by decide +kernel
theorem dJ1_charAt_3b067_0 : decode cJ1_charAt_3b067 0 = .ok (.iload_n 1, 1) := by decide +kernel
theorem dJ1_charAt_3b067_1 : decode cJ1_charAt_3b067 1 = .ok (.aload_n 0, 1) := by decide +kernel
theorem dJ1_charAt_3b067_2 : decode cJ1_charAt_3b067 2 = .ok (.arraylength, 1) := by decide +kernel
theorem dJ1_charAt_3b067_3 : decode cJ1_charAt_3b067 3 = .ok (.invokestatic 9, 3) := by decide +kernel
theorem dJ1_charAt_3b067_6 : decode cJ1_charAt_3b067 6 = .ok (.aload_n 0, 1) := by decide +kernel
theorem dJ1_charAt_3b067_7 : decode cJ1_charAt_3b067 7 = .ok (.iload_n 1, 1) := by decide +kernel
theorem dJ1_charAt_3b067_8 : decode cJ1_charAt_3b067 8 = .ok (.baload, 1) := by decide +kernel
theorem dJ1_charAt_3b067_9 : decode cJ1_charAt_3b067 9 = .ok (.sipush 255, 3) := by decide +kernel
theorem dJ1_charAt_3b067_12 : decode cJ1_charAt_3b067 12 = .ok (.iand, 1) := by decide +kernel
theorem dJ1_charAt_3b067_13 : decode cJ1_charAt_3b067 13 = .ok (.i2c, 1) := by decide +kernel
theorem dJ1_charAt_3b067_14 : decode cJ1_charAt_3b067 14 = .ok (.ireturn, 1) := by decide +kernel
theorem dJ1_canEncode_fc78d_0 : decode cJ1_canEncode_fc78d 0 = .ok (.iload_n 0, 1) := by decide +kernel
theorem dJ1_canEncode_fc78d_1 : decode cJ1_canEncode_fc78d 1 = .ok (.sipush 255, 3) := by decide +kernel
theorem dJ1_canEncode_fc78d_4 : decode cJ1_canEncode_fc78d 4 = .ok (.if_icmp .gt 7, 3) := by decide +kernel
theorem dJ1_canEncode_fc78d_7 : decode cJ1_canEncode_fc78d 7 = .ok (.iconst 1, 1) := by decide +kernel
theorem dJ1_canEncode_fc78d_8 : decode cJ1_canEncode_fc78d 8 = .ok (.goto 4, 3) := by decide +kernel
theorem dJ1_canEncode_fc78d_11 : decode cJ1_canEncode_fc78d 11 = .ok (.iconst 0, 1) := by decide +kernel
theorem dJ1_canEncode_fc78d_12 : decode cJ1_canEncode_fc78d 12 = .ok (.ireturn, 1) := by decide +kernel
theorem dJ1_fillNull_b72d1_0 : decode cJ1_fillNull_b72d1 0 = .ok (.aload_n 0, 1) := by decide +kernel
theorem dJ1_fillNull_b72d1_1 : decode cJ1_fillNull_b72d1 1 = .ok (.iload_n 1, 1) := by decide +kernel
theorem dJ1_fillNull_b72d1_2 : decode cJ1_fillNull_b72d1 2 = .ok (.iload_n 2, 1) := by decide +kernel
theorem dJ1_fillNull_b72d1_3 : decode cJ1_fillNull_b72d1 3 = .ok (.iconst 0, 1) := by decide +kernel
theorem dJ1_fillNull_b72d1_4 : decode cJ1_fillNull_b72d1 4 = .ok (.invokestatic 236, 3) := by decide +kernel
theorem dJ1_fillNull_b72d1_7 : decode cJ1_fillNull_b72d1 7 = .ok (.return_, 1) := by decide +kernel
theorem dJ1_inflate_0e8fd_0 : decode cJ1_inflate_0e8fd 0 = .ok (.aload_n 0, 1) := by decide +kernel
theorem dJ1_inflate_0e8fd_1 : decode cJ1_inflate_0e8fd 1 = .ok (.iload_n 1, 1) := by decide +kernel
theorem dJ1_inflate_0e8fd_2 : decode cJ1_inflate_0e8fd 2 = .ok (.aload_n 2, 1) := by decide +kernel
theorem dJ1_inflate_0e8fd_3 : decode cJ1_inflate_0e8fd 3 = .ok (.iload_n 3, 1) := by decide +kernel
theorem dJ1_inflate_0e8fd_4 : decode cJ1_inflate_0e8fd 4 = .ok (.iload 4, 2) := by decide +kernel
theorem dJ1_inflate_0e8fd_6 : decode cJ1_inflate_0e8fd 6 = .ok (.invokestatic 240, 3) := by decide +kernel
theorem dJ1_inflate_0e8fd_9 : decode cJ1_inflate_0e8fd 9 = .ok (.return_, 1) := by decide +kernel
theorem dJ2_newBytesFor_77867_0 : decode cJ2_newBytesFor_77867 0 = .ok (.iload_n 0, 1) := by decide +kernel
theorem dJ2_newBytesFor_77867_1 : decode cJ2_newBytesFor_77867 1 = .ok (.invokestatic 11, 3) := by decide +kernel
theorem dJ2_newBytesFor_77867_4 : decode cJ2_newBytesFor_77867 4 = .ok (.newarray .byte, 2) := by decide +kernel
theorem dJ2_newBytesFor_77867_6 : decode cJ2_newBytesFor_77867 6 = .ok (.areturn, 1) := by decide +kernel
theorem dJ2_newBytesLength_0f7a4_0 : decode cJ2_newBytesLength_0f7a4 0 = .ok (.iload_n 0, 1) := by decide +kernel
theorem dJ2_newBytesLength_0f7a4_1 : decode cJ2_newBytesLength_0f7a4 1 = .ok (.ifCond .ge 11, 3) := by decide +kernel
theorem dJ2_newBytesLength_0f7a4_4 : decode cJ2_newBytesLength_0f7a4 4 = .ok (.new 17, 3) := by decide +kernel
theorem dJ2_newBytesLength_0f7a4_7 : decode cJ2_newBytesLength_0f7a4 7 = .ok (.dup, 1) := by decide +kernel
theorem dJ2_newBytesLength_0f7a4_8 : decode cJ2_newBytesLength_0f7a4 8 = .ok (.invokespecial 19, 3) := by decide +kernel
theorem dJ2_newBytesLength_0f7a4_11 : decode cJ2_newBytesLength_0f7a4 11 = .ok (.athrow, 1) := by decide +kernel
theorem dJ2_newBytesLength_0f7a4_12 : decode cJ2_newBytesLength_0f7a4 12 = .ok (.iload_n 0, 1) := by decide +kernel
theorem dJ2_newBytesLength_0f7a4_13 : decode cJ2_newBytesLength_0f7a4 13 = .ok (.ldc 20, 2) := by decide +kernel
theorem dJ2_newBytesLength_0f7a4_15 : decode cJ2_newBytesLength_0f7a4 15 = .ok (.if_icmp .lt 40, 3) := by decide +kernel
theorem dJ2_newBytesLength_0f7a4_18 : decode cJ2_newBytesLength_0f7a4 18 = .ok (.new 21, 3) := by decide +kernel
theorem dJ2_newBytesLength_0f7a4_21 : decode cJ2_newBytesLength_0f7a4 21 = .ok (.dup, 1) := by decide +kernel
theorem dJ2_newBytesLength_0f7a4_22 : decode cJ2_newBytesLength_0f7a4 22 = .ok (.new 23, 3) := by decide +kernel
theorem dJ2_newBytesLength_0f7a4_25 : decode cJ2_newBytesLength_0f7a4 25 = .ok (.dup, 1) := by decide +kernel
theorem dJ2_newBytesLength_0f7a4_26 : decode cJ2_newBytesLength_0f7a4 26 = .ok (.invokespecial 25, 3) := by decide +kernel
theorem dJ2_newBytesLength_0f7a4_29 : decode cJ2_newBytesLength_0f7a4 29 = .ok (.ldc 26, 2) := by decide +kernel
theorem dJ2_newBytesLength_0f7a4_31 : decode cJ2_newBytesLength_0f7a4 31 = .ok (.invokevirtual 28, 3) := by decide +kernel
theorem dJ2_newBytesLength_0f7a4_34 : decode cJ2_newBytesLength_0f7a4 34 = .ok (.iload_n 0, 1) := by decide +kernel
theorem dJ2_newBytesLength_0f7a4_35 : decode cJ2_newBytesLength_0f7a4 35 = .ok (.invokevirtual 32, 3) := by decide +kernel
theorem dJ2_newBytesLength_0f7a4_38 : decode cJ2_newBytesLength_0f7a4 38 = .ok (.ldc 35, 2) := by decide +kernel
theorem dJ2_newBytesLength_0f7a4_40 : decode cJ2_newBytesLength_0f7a4 40 = .ok (.invokevirtual 28, 3) := by decide +kernel
theorem dJ2_newBytesLength_0f7a4_43 : decode cJ2_newBytesLength_0f7a4 43 = .ok (.ldc 20, 2) := by decide +kernel
theorem dJ2_newBytesLength_0f7a4_45 : decode cJ2_newBytesLength_0f7a4 45 = .ok (.invokevirtual 32, 3) := by decide +kernel
theorem dJ2_newBytesLength_0f7a4_48 : decode cJ2_newBytesLength_0f7a4 48 = .ok (.invokevirtual 37, 3) := by decide +kernel
theorem dJ2_newBytesLength_0f7a4_51 : decode cJ2_newBytesLength_0f7a4 51 = .ok (.invokespecial 41, 3) := by decide +kernel
theorem dJ2_newBytesLength_0f7a4_54 : decode cJ2_newBytesLength_0f7a4 54 = .ok (.athrow, 1) := by decide +kernel
theorem dJ2_newBytesLength_0f7a4_55 : decode cJ2_newBytesLength_0f7a4 55 = .ok (.iload_n 0, 1) := by decide +kernel
theorem dJ2_newBytesLength_0f7a4_56 : decode cJ2_newBytesLength_0f7a4 56 = .ok (.iconst 1, 1) := by decide +kernel
theorem dJ2_newBytesLength_0f7a4_57 : decode cJ2_newBytesLength_0f7a4 57 = .ok (.ishl, 1) := by decide +kernel
theorem dJ2_newBytesLength_0f7a4_58 : decode cJ2_newBytesLength_0f7a4 58 = .ok (.ireturn, 1) := by decide +kernel
theorem dJ2_putChar_b72d1_0 : decode cJ2_putChar_b72d1 0 = .ok (.getstatic 44, 3) := by decide +kernel
theorem dJ2_putChar_b72d1_3 : decode cJ2_putChar_b72d1 3 = .ok (.ifCond .ne 25, 3) := by decide +kernel
theorem dJ2_putChar_b72d1_6 : decode cJ2_putChar_b72d1 6 = .ok (.iload_n 1, 1) := by decide +kernel
theorem dJ2_putChar_b72d1_7 : decode cJ2_putChar_b72d1 7 = .ok (.ifCond .lt 11, 3) := by decide +kernel
theorem dJ2_putChar_b72d1_10 : decode cJ2_putChar_b72d1 10 = .ok (.iload_n 1, 1) := by decide +kernel
theorem dJ2_putChar_b72d1_11 : decode cJ2_putChar_b72d1 11 = .ok (.aload_n 0, 1) := by decide +kernel
theorem dJ2_putChar_b72d1_12 : decode cJ2_putChar_b72d1 12 = .ok (.invokestatic 48, 3) := by decide +kernel
theorem dJ2_putChar_b72d1_15 : decode cJ2_putChar_b72d1 15 = .ok (.if_icmp .lt 13, 3) := by decide +kernel
theorem dJ2_putChar_b72d1_18 : decode cJ2_putChar_b72d1 18 = .ok (.new 52, 3) := by decide +kernel
theorem dJ2_putChar_b72d1_21 : decode cJ2_putChar_b72d1 21 = .ok (.dup, 1) := by decide +kernel
theorem dJ2_putChar_b72d1_22 : decode cJ2_putChar_b72d1 22 = .ok (.ldc 54, 2) := by decide +kernel
theorem dJ2_putChar_b72d1_24 : decode cJ2_putChar_b72d1 24 = .ok (.invokespecial 56, 3) := by decide +kernel
theorem dJ2_putChar_b72d1_27 : decode cJ2_putChar_b72d1 27 = .ok (.athrow, 1) := by decide +kernel
theorem dJ2_putChar_b72d1_28 : decode cJ2_putChar_b72d1 28 = .ok (.iload_n 1, 1) := by decide +kernel
theorem dJ2_putChar_b72d1_29 : decode cJ2_putChar_b72d1 29 = .ok (.iconst 1, 1) := by decide +kernel
theorem dJ2_putChar_b72d1_30 : decode cJ2_putChar_b72d1 30 = .ok (.ishl, 1) := by decide +kernel
theorem dJ2_putChar_b72d1_31 : decode cJ2_putChar_b72d1 31 = .ok (.istore_n 1, 1) := by decide +kernel
theorem dJ2_putChar_b72d1_32 : decode cJ2_putChar_b72d1 32 = .ok (.aload_n 0, 1) := by decide +kernel
theorem dJ2_putChar_b72d1_33 : decode cJ2_putChar_b72d1 33 = .ok (.iload_n 1, 1) := by decide +kernel
theorem dJ2_putChar_b72d1_34 : decode cJ2_putChar_b72d1 34 = .ok (.iinc 1 1, 3) := by decide +kernel
theorem dJ2_putChar_b72d1_37 : decode cJ2_putChar_b72d1 37 = .ok (.iload_n 2, 1) := by decide +kernel
theorem dJ2_putChar_b72d1_38 : decode cJ2_putChar_b72d1 38 = .ok (.getstatic 59, 3) := by decide +kernel
theorem dJ2_putChar_b72d1_41 : decode cJ2_putChar_b72d1 41 = .ok (.ishr, 1) := by decide +kernel
theorem dJ2_putChar_b72d1_42 : decode cJ2_putChar_b72d1 42 = .ok (.i2b, 1) := by decide +kernel
theorem dJ2_putChar_b72d1_43 : decode cJ2_putChar_b72d1 43 = .ok (.bastore, 1) := by decide +kernel
theorem dJ2_putChar_b72d1_44 : decode cJ2_putChar_b72d1 44 = .ok (.aload_n 0, 1) := by decide +kernel
theorem dJ2_putChar_b72d1_45 : decode cJ2_putChar_b72d1 45 = .ok (.iload_n 1, 1) := by decide +kernel
theorem dJ2_putChar_b72d1_46 : decode cJ2_putChar_b72d1 46 = .ok (.iload_n 2, 1) := by decide +kernel
theorem dJ2_putChar_b72d1_47 : decode cJ2_putChar_b72d1 47 = .ok (.getstatic 63, 3) := by decide +kernel
theorem dJ2_putChar_b72d1_50 : decode cJ2_putChar_b72d1 50 = .ok (.ishr, 1) := by decide +kernel
theorem dJ2_putChar_b72d1_51 : decode cJ2_putChar_b72d1 51 = .ok (.i2b, 1) := by decide +kernel
theorem dJ2_putChar_b72d1_52 : decode cJ2_putChar_b72d1 52 = .ok (.bastore, 1) := by decide +kernel
theorem dJ2_putChar_b72d1_53 : decode cJ2_putChar_b72d1 53 = .ok (.return_, 1) := by decide +kernel
theorem dJ2_getChar_3b067_0 : decode cJ2_getChar_3b067 0 = .ok (.getstatic 44, 3) := by decide +kernel
theorem dJ2_getChar_3b067_3 : decode cJ2_getChar_3b067 3 = .ok (.ifCond .ne 25, 3) := by decide +kernel
theorem dJ2_getChar_3b067_6 : decode cJ2_getChar_3b067 6 = .ok (.iload_n 1, 1) := by decide +kernel
theorem dJ2_getChar_3b067_7 : decode cJ2_getChar_3b067 7 = .ok (.ifCond .lt 11, 3) := by decide +kernel
theorem dJ2_getChar_3b067_10 : decode cJ2_getChar_3b067 10 = .ok (.iload_n 1, 1) := by decide +kernel
theorem dJ2_getChar_3b067_11 : decode cJ2_getChar_3b067 11 = .ok (.aload_n 0, 1) := by decide +kernel
theorem dJ2_getChar_3b067_12 : decode cJ2_getChar_3b067 12 = .ok (.invokestatic 48, 3) := by decide +kernel
theorem dJ2_getChar_3b067_15 : decode cJ2_getChar_3b067 15 = .ok (.if_icmp .lt 13, 3) := by decide +kernel
theorem dJ2_getChar_3b067_18 : decode cJ2_getChar_3b067 18 = .ok (.new 52, 3) := by decide +kernel
theorem dJ2_getChar_3b067_21 : decode cJ2_getChar_3b067 21 = .ok (.dup, 1) := by decide +kernel
theorem dJ2_getChar_3b067_22 : decode cJ2_getChar_3b067 22 = .ok (.ldc 54, 2) := by decide +kernel
theorem dJ2_getChar_3b067_24 : decode cJ2_getChar_3b067 24 = .ok (.invokespecial 56, 3) := by decide +kernel
theorem dJ2_getChar_3b067_27 : decode cJ2_getChar_3b067 27 = .ok (.athrow, 1) := by decide +kernel
theorem dJ2_getChar_3b067_28 : decode cJ2_getChar_3b067 28 = .ok (.iload_n 1, 1) := by decide +kernel
theorem dJ2_getChar_3b067_29 : decode cJ2_getChar_3b067 29 = .ok (.iconst 1, 1) := by decide +kernel
theorem dJ2_getChar_3b067_30 : decode cJ2_getChar_3b067 30 = .ok (.ishl, 1) := by decide +kernel
theorem dJ2_getChar_3b067_31 : decode cJ2_getChar_3b067 31 = .ok (.istore_n 1, 1) := by decide +kernel
theorem dJ2_getChar_3b067_32 : decode cJ2_getChar_3b067 32 = .ok (.aload_n 0, 1) := by decide +kernel
theorem dJ2_getChar_3b067_33 : decode cJ2_getChar_3b067 33 = .ok (.iload_n 1, 1) := by decide +kernel
theorem dJ2_getChar_3b067_34 : decode cJ2_getChar_3b067 34 = .ok (.iinc 1 1, 3) := by decide +kernel
theorem dJ2_getChar_3b067_37 : decode cJ2_getChar_3b067 37 = .ok (.baload, 1) := by decide +kernel
theorem dJ2_getChar_3b067_38 : decode cJ2_getChar_3b067 38 = .ok (.sipush 255, 3) := by decide +kernel
theorem dJ2_getChar_3b067_41 : decode cJ2_getChar_3b067 41 = .ok (.iand, 1) := by decide +kernel
theorem dJ2_getChar_3b067_42 : decode cJ2_getChar_3b067 42 = .ok (.getstatic 59, 3) := by decide +kernel
theorem dJ2_getChar_3b067_45 : decode cJ2_getChar_3b067 45 = .ok (.ishl, 1) := by decide +kernel
theorem dJ2_getChar_3b067_46 : decode cJ2_getChar_3b067 46 = .ok (.aload_n 0, 1) := by decide +kernel
theorem dJ2_getChar_3b067_47 : decode cJ2_getChar_3b067 47 = .ok (.iload_n 1, 1) := by decide +kernel
theorem dJ2_getChar_3b067_48 : decode cJ2_getChar_3b067 48 = .ok (.baload, 1) := by decide +kernel
theorem dJ2_getChar_3b067_49 : decode cJ2_getChar_3b067 49 = .ok (.sipush 255, 3) := by decide +kernel
theorem dJ2_getChar_3b067_52 : decode cJ2_getChar_3b067 52 = .ok (.iand, 1) := by decide +kernel
theorem dJ2_getChar_3b067_53 : decode cJ2_getChar_3b067 53 = .ok (.getstatic 63, 3) := by decide +kernel
theorem dJ2_getChar_3b067_56 : decode cJ2_getChar_3b067 56 = .ok (.ishl, 1) := by decide +kernel
theorem dJ2_getChar_3b067_57 : decode cJ2_getChar_3b067 57 = .ok (.ior, 1) := by decide +kernel
theorem dJ2_getChar_3b067_58 : decode cJ2_getChar_3b067 58 = .ok (.i2c, 1) := by decide +kernel
theorem dJ2_getChar_3b067_59 : decode cJ2_getChar_3b067 59 = .ok (.ireturn, 1) := by decide +kernel
theorem dJ2_length_9d52b_0 : decode cJ2_length_9d52b 0 = .ok (.aload_n 0, 1) := by decide +kernel
theorem dJ2_length_9d52b_1 : decode cJ2_length_9d52b 1 = .ok (.arraylength, 1) := by decide +kernel
theorem dJ2_length_9d52b_2 : decode cJ2_length_9d52b 2 = .ok (.iconst 1, 1) := by decide +kernel
theorem dJ2_length_9d52b_3 : decode cJ2_length_9d52b 3 = .ok (.ishr, 1) := by decide +kernel
theorem dJ2_length_9d52b_4 : decode cJ2_length_9d52b 4 = .ok (.ireturn, 1) := by decide +kernel
theorem dJ2_coderFromArrayLen_85cad_0 : decode cJ2_coderFromArrayLen_85cad 0 = .ok (.iload_n 1, 1) := by decide +kernel
theorem dJ2_coderFromArrayLen_85cad_1 : decode cJ2_coderFromArrayLen_85cad 1 = .ok (.aload_n 0, 1) := by decide +kernel
theorem dJ2_coderFromArrayLen_85cad_2 : decode cJ2_coderFromArrayLen_85cad 2 = .ok (.arraylength, 1) := by decide +kernel
theorem dJ2_coderFromArrayLen_85cad_3 : decode cJ2_coderFromArrayLen_85cad 3 = .ok (.isub, 1) := by decide +kernel
theorem dJ2_coderFromArrayLen_85cad_4 : decode cJ2_coderFromArrayLen_85cad 4 = .ok (.bipush 31, 2) := by decide +kernel
theorem dJ2_coderFromArrayLen_85cad_6 : decode cJ2_coderFromArrayLen_85cad 6 = .ok (.iushr, 1) := by decide +kernel
theorem dJ2_coderFromArrayLen_85cad_7 : decode cJ2_coderFromArrayLen_85cad 7 = .ok (.i2b, 1) := by decide +kernel
theorem dJ2_coderFromArrayLen_85cad_8 : decode cJ2_coderFromArrayLen_85cad 8 = .ok (.ireturn, 1) := by decide +kernel
theorem dJ2_compress_39247_0 : decode cJ2_compress_39247 0 = .ok (.iload_n 2, 1) := by decide +kernel
theorem dJ2_compress_39247_1 : decode cJ2_compress_39247 1 = .ok (.newarray .byte, 2) := by decide +kernel
theorem dJ2_compress_39247_3 : decode cJ2_compress_39247 3 = .ok (.astore_n 3, 1) := by decide +kernel
theorem dJ2_compress_39247_4 : decode cJ2_compress_39247 4 = .ok (.aload_n 0, 1) := by decide +kernel
theorem dJ2_compress_39247_5 : decode cJ2_compress_39247 5 = .ok (.iload_n 1, 1) := by decide +kernel
theorem dJ2_compress_39247_6 : decode cJ2_compress_39247 6 = .ok (.aload_n 3, 1) := by decide +kernel
theorem dJ2_compress_39247_7 : decode cJ2_compress_39247 7 = .ok (.iconst 0, 1) := by decide +kernel
theorem dJ2_compress_39247_8 : decode cJ2_compress_39247 8 = .ok (.iload_n 2, 1) := by decide +kernel
theorem dJ2_compress_39247_9 : decode cJ2_compress_39247 9 = .ok (.invokestatic 123, 3) := by decide +kernel
theorem dJ2_compress_39247_12 : decode cJ2_compress_39247 12 = .ok (.istore 4, 2) := by decide +kernel
theorem dJ2_compress_39247_14 : decode cJ2_compress_39247 14 = .ok (.iload 4, 2) := by decide +kernel
theorem dJ2_compress_39247_16 : decode cJ2_compress_39247 16 = .ok (.iload_n 2, 1) := by decide +kernel
theorem dJ2_compress_39247_17 : decode cJ2_compress_39247 17 = .ok (.if_icmp .eq 47, 3) := by decide +kernel
theorem dJ2_compress_39247_20 : decode cJ2_compress_39247 20 = .ok (.aload_n 0, 1) := by decide +kernel
theorem dJ2_compress_39247_21 : decode cJ2_compress_39247 21 = .ok (.iload_n 1, 1) := by decide +kernel
theorem dJ2_compress_39247_22 : decode cJ2_compress_39247 22 = .ok (.iconst 1, 1) := by decide +kernel
theorem dJ2_compress_39247_23 : decode cJ2_compress_39247 23 = .ok (.ishl, 1) := by decide +kernel
theorem dJ2_compress_39247_24 : decode cJ2_compress_39247 24 = .ok (.iload_n 1, 1) := by decide +kernel
theorem dJ2_compress_39247_25 : decode cJ2_compress_39247 25 = .ok (.iload_n 2, 1) := by decide +kernel
theorem dJ2_compress_39247_26 : decode cJ2_compress_39247 26 = .ok (.iadd, 1) := by decide +kernel
theorem dJ2_compress_39247_27 : decode cJ2_compress_39247 27 = .ok (.invokestatic 11, 3) := by decide +kernel
theorem dJ2_compress_39247_30 : decode cJ2_compress_39247 30 = .ok (.invokestatic 126, 3) := by decide +kernel
theorem dJ2_compress_39247_33 : decode cJ2_compress_39247 33 = .ok (.astore 5, 2) := by decide +kernel
theorem dJ2_compress_39247_35 : decode cJ2_compress_39247 35 = .ok (.aload 5, 2) := by decide +kernel
theorem dJ2_compress_39247_37 : decode cJ2_compress_39247 37 = .ok (.iload 4, 2) := by decide +kernel
theorem dJ2_compress_39247_39 : decode cJ2_compress_39247 39 = .ok (.invokestatic 71, 3) := by decide +kernel
theorem dJ2_compress_39247_42 : decode cJ2_compress_39247 42 = .ok (.sipush 255, 3) := by decide +kernel
theorem dJ2_compress_39247_45 : decode cJ2_compress_39247 45 = .ok (.if_icmp .gt 16, 3) := by decide +kernel
theorem dJ2_compress_39247_48 : decode cJ2_compress_39247 48 = .ok (.aload 5, 2) := by decide +kernel
theorem dJ2_compress_39247_50 : decode cJ2_compress_39247 50 = .ok (.iconst 0, 1) := by decide +kernel
theorem dJ2_compress_39247_51 : decode cJ2_compress_39247 51 = .ok (.aload_n 3, 1) := by decide +kernel
theorem dJ2_compress_39247_52 : decode cJ2_compress_39247 52 = .ok (.iconst 0, 1) := by decide +kernel
theorem dJ2_compress_39247_53 : decode cJ2_compress_39247 53 = .ok (.iload_n 2, 1) := by decide +kernel
theorem dJ2_compress_39247_54 : decode cJ2_compress_39247 54 = .ok (.invokestatic 123, 3) := by decide +kernel
theorem dJ2_compress_39247_57 : decode cJ2_compress_39247 57 = .ok (.iload_n 2, 1) := by decide +kernel
theorem dJ2_compress_39247_58 : decode cJ2_compress_39247 58 = .ok (.if_icmp .eq 6, 3) := by decide +kernel
theorem dJ2_compress_39247_61 : decode cJ2_compress_39247 61 = .ok (.aload 5, 2) := by decide +kernel
theorem dJ2_compress_39247_63 : decode cJ2_compress_39247 63 = .ok (.areturn, 1) := by decide +kernel
theorem dJ2_compress_39247_64 : decode cJ2_compress_39247 64 = .ok (.aload_n 3, 1) := by decide +kernel
theorem dJ2_compress_39247_65 : decode cJ2_compress_39247 65 = .ok (.areturn, 1) := by decide +kernel
theorem dJ2_compress_5af95_0 : decode cJ2_compress_5af95 0 = .ok (.iload_n 1, 1) := by decide +kernel
theorem dJ2_compress_5af95_1 : decode cJ2_compress_5af95 1 = .ok (.iload 4, 2) := by decide +kernel
theorem dJ2_compress_5af95_3 : decode cJ2_compress_5af95 3 = .ok (.aload_n 0, 1) := by decide +kernel
theorem dJ2_compress_5af95_4 : decode cJ2_compress_5af95 4 = .ok (.invokestatic 173, 3) := by decide +kernel
theorem dJ2_compress_5af95_7 : decode cJ2_compress_5af95 7 = .ok (.iconst 0, 1) := by decide +kernel
theorem dJ2_compress_5af95_8 : decode cJ2_compress_5af95 8 = .ok (.istore 5, 2) := by decide +kernel
theorem dJ2_compress_5af95_10 : decode cJ2_compress_5af95 10 = .ok (.iload 5, 2) := by decide +kernel
theorem dJ2_compress_5af95_12 : decode cJ2_compress_5af95 12 = .ok (.iload 4, 2) := by decide +kernel
theorem dJ2_compress_5af95_14 : decode cJ2_compress_5af95 14 = .ok (.if_icmp .ge 39, 3) := by decide +kernel
theorem dJ2_compress_5af95_17 : decode cJ2_compress_5af95 17 = .ok (.aload_n 0, 1) := by decide +kernel
theorem dJ2_compress_5af95_18 : decode cJ2_compress_5af95 18 = .ok (.iload_n 1, 1) := by decide +kernel
theorem dJ2_compress_5af95_19 : decode cJ2_compress_5af95 19 = .ok (.invokestatic 71, 3) := by decide +kernel
theorem dJ2_compress_5af95_22 : decode cJ2_compress_5af95 22 = .ok (.istore 6, 2) := by decide +kernel
theorem dJ2_compress_5af95_24 : decode cJ2_compress_5af95 24 = .ok (.iload 6, 2) := by decide +kernel
theorem dJ2_compress_5af95_26 : decode cJ2_compress_5af95 26 = .ok (.sipush 255, 3) := by decide +kernel
theorem dJ2_compress_5af95_29 : decode cJ2_compress_5af95 29 = .ok (.if_icmp .le 6, 3) := by decide +kernel
theorem dJ2_compress_5af95_32 : decode cJ2_compress_5af95 32 = .ok (.iload 5, 2) := by decide +kernel
theorem dJ2_compress_5af95_34 : decode cJ2_compress_5af95 34 = .ok (.ireturn, 1) := by decide +kernel
theorem dJ2_compress_5af95_35 : decode cJ2_compress_5af95 35 = .ok (.aload_n 2, 1) := by decide +kernel
theorem dJ2_compress_5af95_36 : decode cJ2_compress_5af95 36 = .ok (.iload_n 3, 1) := by decide +kernel
theorem dJ2_compress_5af95_37 : decode cJ2_compress_5af95 37 = .ok (.iload 6, 2) := by decide +kernel
theorem dJ2_compress_5af95_39 : decode cJ2_compress_5af95 39 = .ok (.i2b, 1) := by decide +kernel
theorem dJ2_compress_5af95_40 : decode cJ2_compress_5af95 40 = .ok (.bastore, 1) := by decide +kernel
theorem dJ2_compress_5af95_41 : decode cJ2_compress_5af95 41 = .ok (.iinc 1 1, 3) := by decide +kernel
theorem dJ2_compress_5af95_44 : decode cJ2_compress_5af95 44 = .ok (.iinc 3 1, 3) := by decide +kernel
theorem dJ2_compress_5af95_47 : decode cJ2_compress_5af95 47 = .ok (.iinc 5 1, 3) := by decide +kernel
theorem dJ2_compress_5af95_50 : decode cJ2_compress_5af95 50 = .ok (.goto (-40), 3) := by decide +kernel
theorem dJ2_compress_5af95_53 : decode cJ2_compress_5af95 53 = .ok (.iload 4, 2) := by decide +kernel
theorem dJ2_compress_5af95_55 : decode cJ2_compress_5af95 55 = .ok (.ireturn, 1) := by decide +kernel
theorem dJ2_fillNull_b72d1_0 : decode cJ2_fillNull_b72d1 0 = .ok (.aload_n 0, 1) := by decide +kernel
theorem dJ2_fillNull_b72d1_1 : decode cJ2_fillNull_b72d1 1 = .ok (.iload_n 1, 1) := by decide +kernel
theorem dJ2_fillNull_b72d1_2 : decode cJ2_fillNull_b72d1 2 = .ok (.iconst 1, 1) := by decide +kernel
theorem dJ2_fillNull_b72d1_3 : decode cJ2_fillNull_b72d1 3 = .ok (.ishl, 1) := by decide +kernel
theorem dJ2_fillNull_b72d1_4 : decode cJ2_fillNull_b72d1 4 = .ok (.iload_n 2, 1) := by decide +kernel
theorem dJ2_fillNull_b72d1_5 : decode cJ2_fillNull_b72d1 5 = .ok (.iconst 1, 1) := by decide +kernel
theorem dJ2_fillNull_b72d1_6 : decode cJ2_fillNull_b72d1 6 = .ok (.ishl, 1) := by decide +kernel
theorem dJ2_fillNull_b72d1_7 : decode cJ2_fillNull_b72d1 7 = .ok (.iconst 0, 1) := by decide +kernel
theorem dJ2_fillNull_b72d1_8 : decode cJ2_fillNull_b72d1 8 = .ok (.invokestatic 380, 3) := by decide +kernel
theorem dJ2_fillNull_b72d1_11 : decode cJ2_fillNull_b72d1 11 = .ok (.return_, 1) := by decide +kernel
theorem dJ2_putCharSB_b72d1_0 : decode cJ2_putCharSB_b72d1 0 = .ok (.iload_n 1, 1) := by decide +kernel
theorem dJ2_putCharSB_b72d1_1 : decode cJ2_putCharSB_b72d1 1 = .ok (.aload_n 0, 1) := by decide +kernel
theorem dJ2_putCharSB_b72d1_2 : decode cJ2_putCharSB_b72d1 2 = .ok (.invokestatic 67, 3) := by decide +kernel
theorem dJ2_putCharSB_b72d1_5 : decode cJ2_putCharSB_b72d1 5 = .ok (.aload_n 0, 1) := by decide +kernel
theorem dJ2_putCharSB_b72d1_6 : decode cJ2_putCharSB_b72d1 6 = .ok (.iload_n 1, 1) := by decide +kernel
theorem dJ2_putCharSB_b72d1_7 : decode cJ2_putCharSB_b72d1 7 = .ok (.iload_n 2, 1) := by decide +kernel
theorem dJ2_putCharSB_b72d1_8 : decode cJ2_putCharSB_b72d1 8 = .ok (.invokestatic 111, 3) := by decide +kernel
theorem dJ2_putCharSB_b72d1_11 : decode cJ2_putCharSB_b72d1 11 = .ok (.return_, 1) := by decide +kernel
theorem dJ2_getChars_46870_0 : decode cJ2_getChars_46870 0 = .ok (.iload_n 1, 1) := by decide +kernel
theorem dJ2_getChars_46870_1 : decode cJ2_getChars_46870 1 = .ok (.iload_n 2, 1) := by decide +kernel
theorem dJ2_getChars_46870_2 : decode cJ2_getChars_46870 2 = .ok (.aload_n 3, 1) := by decide +kernel
theorem dJ2_getChars_46870_3 : decode cJ2_getChars_46870 3 = .ok (.invokestatic 96, 3) := by decide +kernel
theorem dJ2_getChars_46870_6 : decode cJ2_getChars_46870 6 = .ok (.iload_n 0, 1) := by decide +kernel
theorem dJ2_getChars_46870_7 : decode cJ2_getChars_46870 7 = .ok (.iload_n 2, 1) := by decide +kernel
theorem dJ2_getChars_46870_8 : decode cJ2_getChars_46870 8 = .ok (.aload_n 3, 1) := by decide +kernel
theorem dJ2_getChars_46870_9 : decode cJ2_getChars_46870 9 = .ok (.invokestatic 393, 3) := by decide +kernel
theorem dJ2_getChars_46870_12 : decode cJ2_getChars_46870 12 = .ok (.istore 4, 2) := by decide +kernel
theorem dJ2_getChars_46870_14 : decode cJ2_getChars_46870 14 = .ok (.getstatic 44, 3) := by decide +kernel
theorem dJ2_getChars_46870_17 : decode cJ2_getChars_46870 17 = .ok (.ifCond .ne 17, 3) := by decide +kernel
theorem dJ2_getChars_46870_20 : decode cJ2_getChars_46870 20 = .ok (.iload_n 1, 1) := by decide +kernel
theorem dJ2_getChars_46870_21 : decode cJ2_getChars_46870 21 = .ok (.iload 4, 2) := by decide +kernel
theorem dJ2_getChars_46870_23 : decode cJ2_getChars_46870 23 = .ok (.if_icmp .eq 11, 3) := by decide +kernel
theorem dJ2_getChars_46870_26 : decode cJ2_getChars_46870 26 = .ok (.new 52, 3) := by decide +kernel
theorem dJ2_getChars_46870_29 : decode cJ2_getChars_46870 29 = .ok (.dup, 1) := by decide +kernel
theorem dJ2_getChars_46870_30 : decode cJ2_getChars_46870 30 = .ok (.invokespecial 66, 3) := by decide +kernel
theorem dJ2_getChars_46870_33 : decode cJ2_getChars_46870 33 = .ok (.athrow, 1) := by decide +kernel
theorem dJ2_getChars_46870_34 : decode cJ2_getChars_46870 34 = .ok (.iload 4, 2) := by decide +kernel
theorem dJ2_getChars_46870_36 : decode cJ2_getChars_46870 36 = .ok (.ireturn, 1) := by decide +kernel
theorem dJ2_putCharsAt_cd4e5_0 : decode cJ2_putCharsAt_cd4e5 0 = .ok (.iload_n 1, 1) := by decide +kernel
theorem dJ2_putCharsAt_cd4e5_1 : decode cJ2_putCharsAt_cd4e5 1 = .ok (.iconst 4, 1) := by decide +kernel
theorem dJ2_putCharsAt_cd4e5_2 : decode cJ2_putCharsAt_cd4e5 2 = .ok (.iadd, 1) := by decide +kernel
theorem dJ2_putCharsAt_cd4e5_3 : decode cJ2_putCharsAt_cd4e5 3 = .ok (.istore 6, 2) := by decide +kernel
theorem dJ2_putCharsAt_cd4e5_5 : decode cJ2_putCharsAt_cd4e5 5 = .ok (.iload_n 1, 1) := by decide +kernel
theorem dJ2_putCharsAt_cd4e5_6 : decode cJ2_putCharsAt_cd4e5 6 = .ok (.iload 6, 2) := by decide +kernel
theorem dJ2_putCharsAt_cd4e5_8 : decode cJ2_putCharsAt_cd4e5 8 = .ok (.aload_n 0, 1) := by decide +kernel
theorem dJ2_putCharsAt_cd4e5_9 : decode cJ2_putCharsAt_cd4e5 9 = .ok (.invokestatic 96, 3) := by decide +kernel
theorem dJ2_putCharsAt_cd4e5_12 : decode cJ2_putCharsAt_cd4e5 12 = .ok (.aload_n 0, 1) := by decide +kernel
theorem dJ2_putCharsAt_cd4e5_13 : decode cJ2_putCharsAt_cd4e5 13 = .ok (.iload_n 1, 1) := by decide +kernel
theorem dJ2_putCharsAt_cd4e5_14 : decode cJ2_putCharsAt_cd4e5 14 = .ok (.iinc 1 1, 3) := by decide +kernel
theorem dJ2_putCharsAt_cd4e5_17 : decode cJ2_putCharsAt_cd4e5 17 = .ok (.iload_n 2, 1) := by decide +kernel
theorem dJ2_putCharsAt_cd4e5_18 : decode cJ2_putCharsAt_cd4e5 18 = .ok (.invokestatic 111, 3) := by decide +kernel
theorem dJ2_putCharsAt_cd4e5_21 : decode cJ2_putCharsAt_cd4e5 21 = .ok (.aload_n 0, 1) := by decide +kernel
theorem dJ2_putCharsAt_cd4e5_22 : decode cJ2_putCharsAt_cd4e5 22 = .ok (.iload_n 1, 1) := by decide +kernel
theorem dJ2_putCharsAt_cd4e5_23 : decode cJ2_putCharsAt_cd4e5 23 = .ok (.iinc 1 1, 3) := by decide +kernel
theorem dJ2_putCharsAt_cd4e5_26 : decode cJ2_putCharsAt_cd4e5 26 = .ok (.iload_n 3, 1) := by decide +kernel
theorem dJ2_putCharsAt_cd4e5_27 : decode cJ2_putCharsAt_cd4e5 27 = .ok (.invokestatic 111, 3) := by decide +kernel
theorem dJ2_putCharsAt_cd4e5_30 : decode cJ2_putCharsAt_cd4e5 30 = .ok (.aload_n 0, 1) := by decide +kernel
theorem dJ2_putCharsAt_cd4e5_31 : decode cJ2_putCharsAt_cd4e5 31 = .ok (.iload_n 1, 1) := by decide +kernel
theorem dJ2_putCharsAt_cd4e5_32 : decode cJ2_putCharsAt_cd4e5 32 = .ok (.iinc 1 1, 3) := by decide +kernel
theorem dJ2_putCharsAt_cd4e5_35 : decode cJ2_putCharsAt_cd4e5 35 = .ok (.iload 4, 2) := by decide +kernel
theorem dJ2_putCharsAt_cd4e5_37 : decode cJ2_putCharsAt_cd4e5 37 = .ok (.invokestatic 111, 3) := by decide +kernel
theorem dJ2_putCharsAt_cd4e5_40 : decode cJ2_putCharsAt_cd4e5 40 = .ok (.aload_n 0, 1) := by decide +kernel
theorem dJ2_putCharsAt_cd4e5_41 : decode cJ2_putCharsAt_cd4e5 41 = .ok (.iload_n 1, 1) := by decide +kernel
theorem dJ2_putCharsAt_cd4e5_42 : decode cJ2_putCharsAt_cd4e5 42 = .ok (.iinc 1 1, 3) := by decide +kernel
theorem dJ2_putCharsAt_cd4e5_45 : decode cJ2_putCharsAt_cd4e5 45 = .ok (.iload 5, 2) := by decide +kernel
theorem dJ2_putCharsAt_cd4e5_47 : decode cJ2_putCharsAt_cd4e5 47 = .ok (.invokestatic 111, 3) := by decide +kernel
theorem dJ2_putCharsAt_cd4e5_50 : decode cJ2_putCharsAt_cd4e5 50 = .ok (.getstatic 44, 3) := by decide +kernel
theorem dJ2_putCharsAt_cd4e5_53 : decode cJ2_putCharsAt_cd4e5 53 = .ok (.ifCond .ne 17, 3) := by decide +kernel
theorem dJ2_putCharsAt_cd4e5_56 : decode cJ2_putCharsAt_cd4e5 56 = .ok (.iload_n 1, 1) := by decide +kernel
theorem dJ2_putCharsAt_cd4e5_57 : decode cJ2_putCharsAt_cd4e5 57 = .ok (.iload 6, 2) := by decide +kernel
theorem dJ2_putCharsAt_cd4e5_59 : decode cJ2_putCharsAt_cd4e5 59 = .ok (.if_icmp .eq 11, 3) := by decide +kernel
theorem dJ2_putCharsAt_cd4e5_62 : decode cJ2_putCharsAt_cd4e5 62 = .ok (.new 52, 3) := by decide +kernel
theorem dJ2_putCharsAt_cd4e5_65 : decode cJ2_putCharsAt_cd4e5 65 = .ok (.dup, 1) := by decide +kernel
theorem dJ2_putCharsAt_cd4e5_66 : decode cJ2_putCharsAt_cd4e5 66 = .ok (.invokespecial 66, 3) := by decide +kernel
theorem dJ2_putCharsAt_cd4e5_69 : decode cJ2_putCharsAt_cd4e5 69 = .ok (.athrow, 1) := by decide +kernel
theorem dJ2_putCharsAt_cd4e5_70 : decode cJ2_putCharsAt_cd4e5 70 = .ok (.iload 6, 2) := by decide +kernel
theorem dJ2_putCharsAt_cd4e5_72 : decode cJ2_putCharsAt_cd4e5 72 = .ok (.ireturn, 1) := by decide +kernel
theorem dJ2_charAt_3b067_0 : decode cJ2_charAt_3b067 0 = .ok (.iload_n 1, 1) := by decide +kernel
theorem dJ2_charAt_3b067_1 : decode cJ2_charAt_3b067 1 = .ok (.aload_n 0, 1) := by decide +kernel
theorem dJ2_charAt_3b067_2 : decode cJ2_charAt_3b067 2 = .ok (.invokestatic 67, 3) := by decide +kernel
theorem dJ2_charAt_3b067_5 : decode cJ2_charAt_3b067 5 = .ok (.aload_n 0, 1) := by decide +kernel
theorem dJ2_charAt_3b067_6 : decode cJ2_charAt_3b067 6 = .ok (.iload_n 1, 1) := by decide +kernel
theorem dJ2_charAt_3b067_7 : decode cJ2_charAt_3b067 7 = .ok (.invokestatic 71, 3) := by decide +kernel
theorem dJ2_charAt_3b067_10 : decode cJ2_charAt_3b067 10 = .ok (.ireturn, 1) := by decide +kernel
theorem dJ2_inflate_0e8fd_0 : decode cJ2_inflate_0e8fd 0 = .ok (.iload_n 3, 1) := by decide +kernel
theorem dJ2_inflate_0e8fd_1 : decode cJ2_inflate_0e8fd 1 = .ok (.iload 4, 2) := by decide +kernel
theorem dJ2_inflate_0e8fd_3 : decode cJ2_inflate_0e8fd 3 = .ok (.aload_n 2, 1) := by decide +kernel
theorem dJ2_inflate_0e8fd_4 : decode cJ2_inflate_0e8fd 4 = .ok (.invokestatic 173, 3) := by decide +kernel
theorem dJ2_inflate_0e8fd_7 : decode cJ2_inflate_0e8fd 7 = .ok (.iconst 0, 1) := by decide +kernel
theorem dJ2_inflate_0e8fd_8 : decode cJ2_inflate_0e8fd 8 = .ok (.istore 5, 2) := by decide +kernel
theorem dJ2_inflate_0e8fd_10 : decode cJ2_inflate_0e8fd 10 = .ok (.iload 5, 2) := by decide +kernel
theorem dJ2_inflate_0e8fd_12 : decode cJ2_inflate_0e8fd 12 = .ok (.iload 4, 2) := by decide +kernel
theorem dJ2_inflate_0e8fd_14 : decode cJ2_inflate_0e8fd 14 = .ok (.if_icmp .ge 27, 3) := by decide +kernel
theorem dJ2_inflate_0e8fd_17 : decode cJ2_inflate_0e8fd 17 = .ok (.aload_n 2, 1) := by decide +kernel
theorem dJ2_inflate_0e8fd_18 : decode cJ2_inflate_0e8fd 18 = .ok (.iload_n 3, 1) := by decide +kernel
theorem dJ2_inflate_0e8fd_19 : decode cJ2_inflate_0e8fd 19 = .ok (.iinc 3 1, 3) := by decide +kernel
theorem dJ2_inflate_0e8fd_22 : decode cJ2_inflate_0e8fd 22 = .ok (.aload_n 0, 1) := by decide +kernel
theorem dJ2_inflate_0e8fd_23 : decode cJ2_inflate_0e8fd 23 = .ok (.iload_n 1, 1) := by decide +kernel
theorem dJ2_inflate_0e8fd_24 : decode cJ2_inflate_0e8fd 24 = .ok (.iinc 1 1, 3) := by decide +kernel
theorem dJ2_inflate_0e8fd_27 : decode cJ2_inflate_0e8fd 27 = .ok (.baload, 1) := by decide +kernel
theorem dJ2_inflate_0e8fd_28 : decode cJ2_inflate_0e8fd 28 = .ok (.sipush 255, 3) := by decide +kernel
theorem dJ2_inflate_0e8fd_31 : decode cJ2_inflate_0e8fd 31 = .ok (.iand, 1) := by decide +kernel
theorem dJ2_inflate_0e8fd_32 : decode cJ2_inflate_0e8fd 32 = .ok (.invokestatic 111, 3) := by decide +kernel
theorem dJ2_inflate_0e8fd_35 : decode cJ2_inflate_0e8fd 35 = .ok (.iinc 5 1, 3) := by decide +kernel
theorem dJ2_inflate_0e8fd_38 : decode cJ2_inflate_0e8fd 38 = .ok (.goto (-28), 3) := by decide +kernel
theorem dJ2_inflate_0e8fd_41 : decode cJ2_inflate_0e8fd 41 = .ok (.return_, 1) := by decide +kernel
theorem dJ2_getChars_ba4f3_0 : decode cJ2_getChars_ba4f3 0 = .ok (.iload_n 1, 1) := by decide +kernel
theorem dJ2_getChars_ba4f3_1 : decode cJ2_getChars_ba4f3 1 = .ok (.istore 5, 2) := by decide +kernel
theorem dJ2_getChars_ba4f3_3 : decode cJ2_getChars_ba4f3 3 = .ok (.iload_n 0, 1) := by decide +kernel
theorem dJ2_getChars_ba4f3_4 : decode cJ2_getChars_ba4f3 4 = .ok (.ifCond .ge 7, 3) := by decide +kernel
theorem dJ2_getChars_ba4f3_7 : decode cJ2_getChars_ba4f3 7 = .ok (.iconst 1, 1) := by decide +kernel
theorem dJ2_getChars_ba4f3_8 : decode cJ2_getChars_ba4f3 8 = .ok (.goto 4, 3) := by decide +kernel
theorem dJ2_getChars_ba4f3_11 : decode cJ2_getChars_ba4f3 11 = .ok (.iconst 0, 1) := by decide +kernel
theorem dJ2_getChars_ba4f3_12 : decode cJ2_getChars_ba4f3 12 = .ok (.istore 6, 2) := by decide +kernel
theorem dJ2_getChars_ba4f3_14 : decode cJ2_getChars_ba4f3 14 = .ok (.iload 6, 2) := by decide +kernel
theorem dJ2_getChars_ba4f3_16 : decode cJ2_getChars_ba4f3 16 = .ok (.ifCond .ne 6, 3) := by decide +kernel
theorem dJ2_getChars_ba4f3_19 : decode cJ2_getChars_ba4f3 19 = .ok (.iload_n 0, 1) := by decide +kernel
theorem dJ2_getChars_ba4f3_20 : decode cJ2_getChars_ba4f3 20 = .ok (.ineg, 1) := by decide +kernel
theorem dJ2_getChars_ba4f3_21 : decode cJ2_getChars_ba4f3 21 = .ok (.istore_n 0, 1) := by decide +kernel
theorem dJ2_getChars_ba4f3_22 : decode cJ2_getChars_ba4f3 22 = .ok (.iload_n 0, 1) := by decide +kernel
theorem dJ2_getChars_ba4f3_23 : decode cJ2_getChars_ba4f3 23 = .ok (.bipush (-100), 2) := by decide +kernel
theorem dJ2_getChars_ba4f3_25 : decode cJ2_getChars_ba4f3 25 = .ok (.if_icmp .gt 51, 3) := by decide +kernel
theorem dJ2_getChars_ba4f3_28 : decode cJ2_getChars_ba4f3 28 = .ok (.iload_n 0, 1) := by decide +kernel
theorem dJ2_getChars_ba4f3_29 : decode cJ2_getChars_ba4f3 29 = .ok (.bipush 100, 2) := by decide +kernel
theorem dJ2_getChars_ba4f3_31 : decode cJ2_getChars_ba4f3 31 = .ok (.idiv, 1) := by decide +kernel
theorem dJ2_getChars_ba4f3_32 : decode cJ2_getChars_ba4f3 32 = .ok (.istore_n 3, 1) := by decide +kernel
theorem dJ2_getChars_ba4f3_33 : decode cJ2_getChars_ba4f3 33 = .ok (.iload_n 3, 1) := by decide +kernel
theorem dJ2_getChars_ba4f3_34 : decode cJ2_getChars_ba4f3 34 = .ok (.bipush 100, 2) := by decide +kernel
theorem dJ2_getChars_ba4f3_36 : decode cJ2_getChars_ba4f3 36 = .ok (.imul, 1) := by decide +kernel
theorem dJ2_getChars_ba4f3_37 : decode cJ2_getChars_ba4f3 37 = .ok (.iload_n 0, 1) := by decide +kernel
theorem dJ2_getChars_ba4f3_38 : decode cJ2_getChars_ba4f3 38 = .ok (.isub, 1) := by decide +kernel
theorem dJ2_getChars_ba4f3_39 : decode cJ2_getChars_ba4f3 39 = .ok (.istore 4, 2) := by decide +kernel
theorem dJ2_getChars_ba4f3_41 : decode cJ2_getChars_ba4f3 41 = .ok (.iload_n 3, 1) := by decide +kernel
theorem dJ2_getChars_ba4f3_42 : decode cJ2_getChars_ba4f3 42 = .ok (.istore_n 0, 1) := by decide +kernel
theorem dJ2_getChars_ba4f3_43 : decode cJ2_getChars_ba4f3 43 = .ok (.aload_n 2, 1) := by decide +kernel
theorem dJ2_getChars_ba4f3_44 : decode cJ2_getChars_ba4f3 44 = .ok (.iinc 5 (-1), 3) := by decide +kernel
theorem dJ2_getChars_ba4f3_47 : decode cJ2_getChars_ba4f3 47 = .ok (.iload 5, 2) := by decide +kernel
theorem dJ2_getChars_ba4f3_49 : decode cJ2_getChars_ba4f3 49 = .ok (.getstatic 403, 3) := by decide +kernel
theorem dJ2_getChars_ba4f3_52 : decode cJ2_getChars_ba4f3 52 = .ok (.iload 4, 2) := by decide +kernel
theorem dJ2_getChars_ba4f3_54 : decode cJ2_getChars_ba4f3 54 = .ok (.baload, 1) := by decide +kernel
theorem dJ2_getChars_ba4f3_55 : decode cJ2_getChars_ba4f3 55 = .ok (.invokestatic 111, 3) := by decide +kernel
theorem dJ2_getChars_ba4f3_58 : decode cJ2_getChars_ba4f3 58 = .ok (.aload_n 2, 1) := by decide +kernel
theorem dJ2_getChars_ba4f3_59 : decode cJ2_getChars_ba4f3 59 = .ok (.iinc 5 (-1), 3) := by decide +kernel
theorem dJ2_getChars_ba4f3_62 : decode cJ2_getChars_ba4f3 62 = .ok (.iload 5, 2) := by decide +kernel
theorem dJ2_getChars_ba4f3_64 : decode cJ2_getChars_ba4f3 64 = .ok (.getstatic 407, 3) := by decide +kernel
theorem dJ2_getChars_ba4f3_67 : decode cJ2_getChars_ba4f3 67 = .ok (.iload 4, 2) := by decide +kernel
theorem dJ2_getChars_ba4f3_69 : decode cJ2_getChars_ba4f3 69 = .ok (.baload, 1) := by decide +kernel
theorem dJ2_getChars_ba4f3_70 : decode cJ2_getChars_ba4f3 70 = .ok (.invokestatic 111, 3) := by decide +kernel
theorem dJ2_getChars_ba4f3_73 : decode cJ2_getChars_ba4f3 73 = .ok (.goto (-51), 3) := by decide +kernel
theorem dJ2_getChars_ba4f3_76 : decode cJ2_getChars_ba4f3 76 = .ok (.aload_n 2, 1) := by decide +kernel
theorem dJ2_getChars_ba4f3_77 : decode cJ2_getChars_ba4f3 77 = .ok (.iinc 5 (-1), 3) := by decide +kernel
theorem dJ2_getChars_ba4f3_80 : decode cJ2_getChars_ba4f3 80 = .ok (.iload 5, 2) := by decide +kernel
theorem dJ2_getChars_ba4f3_82 : decode cJ2_getChars_ba4f3 82 = .ok (.getstatic 403, 3) := by decide +kernel
theorem dJ2_getChars_ba4f3_85 : decode cJ2_getChars_ba4f3 85 = .ok (.iload_n 0, 1) := by decide +kernel
theorem dJ2_getChars_ba4f3_86 : decode cJ2_getChars_ba4f3 86 = .ok (.ineg, 1) := by decide +kernel
theorem dJ2_getChars_ba4f3_87 : decode cJ2_getChars_ba4f3 87 = .ok (.baload, 1) := by decide +kernel
theorem dJ2_getChars_ba4f3_88 : decode cJ2_getChars_ba4f3 88 = .ok (.invokestatic 111, 3) := by decide +kernel
theorem dJ2_getChars_ba4f3_91 : decode cJ2_getChars_ba4f3 91 = .ok (.iload_n 0, 1) := by decide +kernel
theorem dJ2_getChars_ba4f3_92 : decode cJ2_getChars_ba4f3 92 = .ok (.bipush (-9), 2) := by decide +kernel
theorem dJ2_getChars_ba4f3_94 : decode cJ2_getChars_ba4f3 94 = .ok (.if_icmp .ge 18, 3) := by decide +kernel
theorem dJ2_getChars_ba4f3_97 : decode cJ2_getChars_ba4f3 97 = .ok (.aload_n 2, 1) := by decide +kernel
theorem dJ2_getChars_ba4f3_98 : decode cJ2_getChars_ba4f3 98 = .ok (.iinc 5 (-1), 3) := by decide +kernel
theorem dJ2_getChars_ba4f3_101 : decode cJ2_getChars_ba4f3 101 = .ok (.iload 5, 2) := by decide +kernel
theorem dJ2_getChars_ba4f3_103 : decode cJ2_getChars_ba4f3 103 = .ok (.getstatic 407, 3) := by decide +kernel
theorem dJ2_getChars_ba4f3_106 : decode cJ2_getChars_ba4f3 106 = .ok (.iload_n 0, 1) := by decide +kernel
theorem dJ2_getChars_ba4f3_107 : decode cJ2_getChars_ba4f3 107 = .ok (.ineg, 1) := by decide +kernel
theorem dJ2_getChars_ba4f3_108 : decode cJ2_getChars_ba4f3 108 = .ok (.baload, 1) := by decide +kernel
theorem dJ2_getChars_ba4f3_109 : decode cJ2_getChars_ba4f3 109 = .ok (.invokestatic 111, 3) := by decide +kernel
theorem dJ2_getChars_ba4f3_112 : decode cJ2_getChars_ba4f3 112 = .ok (.iload 6, 2) := by decide +kernel
theorem dJ2_getChars_ba4f3_114 : decode cJ2_getChars_ba4f3 114 = .ok (.ifCond .eq 14, 3) := by decide +kernel
theorem dJ2_getChars_ba4f3_117 : decode cJ2_getChars_ba4f3 117 = .ok (.aload_n 2, 1) := by decide +kernel
theorem dJ2_getChars_ba4f3_118 : decode cJ2_getChars_ba4f3 118 = .ok (.iinc 5 (-1), 3) := by decide +kernel
theorem dJ2_getChars_ba4f3_121 : decode cJ2_getChars_ba4f3 121 = .ok (.iload 5, 2) := by decide +kernel
theorem dJ2_getChars_ba4f3_123 : decode cJ2_getChars_ba4f3 123 = .ok (.bipush 45, 2) := by decide +kernel
theorem dJ2_getChars_ba4f3_125 : decode cJ2_getChars_ba4f3 125 = .ok (.invokestatic 111, 3) := by decide +kernel
theorem dJ2_getChars_ba4f3_128 : decode cJ2_getChars_ba4f3 128 = .ok (.iload 5, 2) := by decide +kernel
theorem dJ2_getChars_ba4f3_130 : decode cJ2_getChars_ba4f3 130 = .ok (.ireturn, 1) := by decide +kernel
theorem dJ2_checkIndex_2214a_0 : decode cJ2_checkIndex_2214a 0 = .ok (.iload_n 0, 1) := by decide +kernel
theorem dJ2_checkIndex_2214a_1 : decode cJ2_checkIndex_2214a 1 = .ok (.aload_n 1, 1) := by decide +kernel
theorem dJ2_checkIndex_2214a_2 : decode cJ2_checkIndex_2214a 2 = .ok (.invokestatic 48, 3) := by decide +kernel
theorem dJ2_checkIndex_2214a_5 : decode cJ2_checkIndex_2214a 5 = .ok (.invokestatic 414, 3) := by decide +kernel
theorem dJ2_checkIndex_2214a_8 : decode cJ2_checkIndex_2214a 8 = .ok (.return_, 1) := by decide +kernel
theorem dJ2_checkBoundsBeginEnd_d044e_0 : decode cJ2_checkBoundsBeginEnd_d044e 0 = .ok (.iload_n 0, 1) := by decide +kernel
theorem dJ2_checkBoundsBeginEnd_d044e_1 : decode cJ2_checkBoundsBeginEnd_d044e 1 = .ok (.iload_n 1, 1) := by decide +kernel
theorem dJ2_checkBoundsBeginEnd_d044e_2 : decode cJ2_checkBoundsBeginEnd_d044e 2 = .ok (.aload_n 2, 1) := by decide +kernel
theorem dJ2_checkBoundsBeginEnd_d044e_3 : decode cJ2_checkBoundsBeginEnd_d044e 3 = .ok (.invokestatic 48, 3) := by decide +kernel
theorem dJ2_checkBoundsBeginEnd_d044e_6 : decode cJ2_checkBoundsBeginEnd_d044e 6 = .ok (.invokestatic 241, 3) := by decide +kernel
theorem dJ2_checkBoundsBeginEnd_d044e_9 : decode cJ2_checkBoundsBeginEnd_d044e 9 = .ok (.return_, 1) := by decide +kernel
theorem dJ2_checkBoundsOffCount_d044e_0 : decode cJ2_checkBoundsOffCount_d044e 0 = .ok (.iload_n 0, 1) := by decide +kernel
theorem dJ2_checkBoundsOffCount_d044e_1 : decode cJ2_checkBoundsOffCount_d044e 1 = .ok (.iload_n 1, 1) := by decide +kernel
theorem dJ2_checkBoundsOffCount_d044e_2 : decode cJ2_checkBoundsOffCount_d044e 2 = .ok (.aload_n 2, 1) := by decide +kernel
theorem dJ2_checkBoundsOffCount_d044e_3 : decode cJ2_checkBoundsOffCount_d044e 3 = .ok (.invokestatic 48, 3) := by decide +kernel
theorem dJ2_checkBoundsOffCount_d044e_6 : decode cJ2_checkBoundsOffCount_d044e 6 = .ok (.invokestatic 419, 3) := by decide +kernel
theorem dJ2_checkBoundsOffCount_d044e_9 : decode cJ2_checkBoundsOffCount_d044e 9 = .ok (.pop, 1) := by decide +kernel
theorem dJ2_checkBoundsOffCount_d044e_10 : decode cJ2_checkBoundsOffCount_d044e 10 = .ok (.return_, 1) := by decide +kernel
theorem dJ7_rangeCheck_23922_0 : decode cJ7_rangeCheck_23922 0 = .ok (.iload_n 1, 1) := by decide +kernel
theorem dJ7_rangeCheck_23922_1 : decode cJ7_rangeCheck_23922 1 = .ok (.iload_n 2, 1) := by decide +kernel
theorem dJ7_rangeCheck_23922_2 : decode cJ7_rangeCheck_23922 2 = .ok (.if_icmp .le 44, 3) := by decide +kernel
theorem dJ7_rangeCheck_23922_5 : decode cJ7_rangeCheck_23922 5 = .ok (.new 43, 3) := by decide +kernel
theorem dJ7_rangeCheck_23922_8 : decode cJ7_rangeCheck_23922 8 = .ok (.dup, 1) := by decide +kernel
theorem dJ7_rangeCheck_23922_9 : decode cJ7_rangeCheck_23922 9 = .ok (.new 45, 3) := by decide +kernel
theorem dJ7_rangeCheck_23922_12 : decode cJ7_rangeCheck_23922 12 = .ok (.dup, 1) := by decide +kernel
theorem dJ7_rangeCheck_23922_13 : decode cJ7_rangeCheck_23922 13 = .ok (.invokespecial 47, 3) := by decide +kernel
theorem dJ7_rangeCheck_23922_16 : decode cJ7_rangeCheck_23922 16 = .ok (.ldc 48, 2) := by decide +kernel
theorem dJ7_rangeCheck_23922_18 : decode cJ7_rangeCheck_23922 18 = .ok (.invokevirtual 50, 3) := by decide +kernel
theorem dJ7_rangeCheck_23922_21 : decode cJ7_rangeCheck_23922 21 = .ok (.iload_n 1, 1) := by decide +kernel
theorem dJ7_rangeCheck_23922_22 : decode cJ7_rangeCheck_23922 22 = .ok (.invokevirtual 54, 3) := by decide +kernel
theorem dJ7_rangeCheck_23922_25 : decode cJ7_rangeCheck_23922 25 = .ok (.ldc 57, 2) := by decide +kernel
theorem dJ7_rangeCheck_23922_27 : decode cJ7_rangeCheck_23922 27 = .ok (.invokevirtual 50, 3) := by decide +kernel
theorem dJ7_rangeCheck_23922_30 : decode cJ7_rangeCheck_23922 30 = .ok (.iload_n 2, 1) := by decide +kernel
theorem dJ7_rangeCheck_23922_31 : decode cJ7_rangeCheck_23922 31 = .ok (.invokevirtual 54, 3) := by decide +kernel
theorem dJ7_rangeCheck_23922_34 : decode cJ7_rangeCheck_23922 34 = .ok (.ldc 59, 2) := by decide +kernel
theorem dJ7_rangeCheck_23922_36 : decode cJ7_rangeCheck_23922 36 = .ok (.invokevirtual 50, 3) := by decide +kernel
theorem dJ7_rangeCheck_23922_39 : decode cJ7_rangeCheck_23922 39 = .ok (.invokevirtual 61, 3) := by decide +kernel
theorem dJ7_rangeCheck_23922_42 : decode cJ7_rangeCheck_23922 42 = .ok (.invokespecial 65, 3) := by decide +kernel
theorem dJ7_rangeCheck_23922_45 : decode cJ7_rangeCheck_23922 45 = .ok (.athrow, 1) := by decide +kernel
theorem dJ7_rangeCheck_23922_46 : decode cJ7_rangeCheck_23922 46 = .ok (.iload_n 1, 1) := by decide +kernel
theorem dJ7_rangeCheck_23922_47 : decode cJ7_rangeCheck_23922 47 = .ok (.ifCond .ge 12, 3) := by decide +kernel
theorem dJ7_rangeCheck_23922_50 : decode cJ7_rangeCheck_23922 50 = .ok (.new 68, 3) := by decide +kernel
theorem dJ7_rangeCheck_23922_53 : decode cJ7_rangeCheck_23922 53 = .ok (.dup, 1) := by decide +kernel
theorem dJ7_rangeCheck_23922_54 : decode cJ7_rangeCheck_23922 54 = .ok (.iload_n 1, 1) := by decide +kernel
theorem dJ7_rangeCheck_23922_55 : decode cJ7_rangeCheck_23922 55 = .ok (.invokespecial 70, 3) := by decide +kernel
theorem dJ7_rangeCheck_23922_58 : decode cJ7_rangeCheck_23922 58 = .ok (.athrow, 1) := by decide +kernel
theorem dJ7_rangeCheck_23922_59 : decode cJ7_rangeCheck_23922 59 = .ok (.iload_n 2, 1) := by decide +kernel
theorem dJ7_rangeCheck_23922_60 : decode cJ7_rangeCheck_23922 60 = .ok (.iload_n 0, 1) := by decide +kernel
theorem dJ7_rangeCheck_23922_61 : decode cJ7_rangeCheck_23922 61 = .ok (.if_icmp .le 12, 3) := by decide +kernel
theorem dJ7_rangeCheck_23922_64 : decode cJ7_rangeCheck_23922 64 = .ok (.new 68, 3) := by decide +kernel
theorem dJ7_rangeCheck_23922_67 : decode cJ7_rangeCheck_23922 67 = .ok (.dup, 1) := by decide +kernel
theorem dJ7_rangeCheck_23922_68 : decode cJ7_rangeCheck_23922 68 = .ok (.iload_n 2, 1) := by decide +kernel
theorem dJ7_rangeCheck_23922_69 : decode cJ7_rangeCheck_23922 69 = .ok (.invokespecial 70, 3) := by decide +kernel
theorem dJ7_rangeCheck_23922_72 : decode cJ7_rangeCheck_23922 72 = .ok (.athrow, 1) := by decide +kernel
theorem dJ7_rangeCheck_23922_73 : decode cJ7_rangeCheck_23922 73 = .ok (.return_, 1) := by decide +kernel
theorem dJ7_fill_53178_0 : decode cJ7_fill_53178 0 = .ok (.iconst 0, 1) := by decide +kernel
theorem dJ7_fill_53178_1 : decode cJ7_fill_53178 1 = .ok (.istore_n 2, 1) := by decide +kernel
theorem dJ7_fill_53178_2 : decode cJ7_fill_53178 2 = .ok (.aload_n 0, 1) := by decide +kernel
theorem dJ7_fill_53178_3 : decode cJ7_fill_53178 3 = .ok (.arraylength, 1) := by decide +kernel
theorem dJ7_fill_53178_4 : decode cJ7_fill_53178 4 = .ok (.istore_n 3, 1) := by decide +kernel
theorem dJ7_fill_53178_5 : decode cJ7_fill_53178 5 = .ok (.iload_n 2, 1) := by decide +kernel
theorem dJ7_fill_53178_6 : decode cJ7_fill_53178 6 = .ok (.iload_n 3, 1) := by decide +kernel
theorem dJ7_fill_53178_7 : decode cJ7_fill_53178 7 = .ok (.if_icmp .ge 13, 3) := by decide +kernel
theorem dJ7_fill_53178_10 : decode cJ7_fill_53178 10 = .ok (.aload_n 0, 1) := by decide +kernel
theorem dJ7_fill_53178_11 : decode cJ7_fill_53178 11 = .ok (.iload_n 2, 1) := by decide +kernel
theorem dJ7_fill_53178_12 : decode cJ7_fill_53178 12 = .ok (.iload_n 1, 1) := by decide +kernel
theorem dJ7_fill_53178_13 : decode cJ7_fill_53178 13 = .ok (.iastore, 1) := by decide +kernel
theorem dJ7_fill_53178_14 : decode cJ7_fill_53178 14 = .ok (.iinc 2 1, 3) := by decide +kernel
theorem dJ7_fill_53178_17 : decode cJ7_fill_53178 17 = .ok (.goto (-12), 3) := by decide +kernel
theorem dJ7_fill_53178_20 : decode cJ7_fill_53178 20 = .ok (.return_, 1) := by decide +kernel
theorem dJ7_fill_eb02e_0 : decode cJ7_fill_eb02e 0 = .ok (.aload_n 0, 1) := by decide +kernel
theorem dJ7_fill_eb02e_1 : decode cJ7_fill_eb02e 1 = .ok (.arraylength, 1) := by decide +kernel
theorem dJ7_fill_eb02e_2 : decode cJ7_fill_eb02e 2 = .ok (.iload_n 1, 1) := by decide +kernel
theorem dJ7_fill_eb02e_3 : decode cJ7_fill_eb02e 3 = .ok (.iload_n 2, 1) := by decide +kernel
theorem dJ7_fill_eb02e_4 : decode cJ7_fill_eb02e 4 = .ok (.invokestatic 13, 3) := by decide +kernel
theorem dJ7_fill_eb02e_7 : decode cJ7_fill_eb02e 7 = .ok (.iload_n 1, 1) := by decide +kernel
theorem dJ7_fill_eb02e_8 : decode cJ7_fill_eb02e 8 = .ok (.istore 4, 2) := by decide +kernel
theorem dJ7_fill_eb02e_10 : decode cJ7_fill_eb02e 10 = .ok (.iload 4, 2) := by decide +kernel
theorem dJ7_fill_eb02e_12 : decode cJ7_fill_eb02e 12 = .ok (.iload_n 2, 1) := by decide +kernel
theorem dJ7_fill_eb02e_13 : decode cJ7_fill_eb02e 13 = .ok (.if_icmp .ge 14, 3) := by decide +kernel
theorem dJ7_fill_eb02e_16 : decode cJ7_fill_eb02e 16 = .ok (.aload_n 0, 1) := by decide +kernel
theorem dJ7_fill_eb02e_17 : decode cJ7_fill_eb02e 17 = .ok (.iload 4, 2) := by decide +kernel
theorem dJ7_fill_eb02e_19 : decode cJ7_fill_eb02e 19 = .ok (.iload_n 3, 1) := by decide +kernel
theorem dJ7_fill_eb02e_20 : decode cJ7_fill_eb02e 20 = .ok (.bastore, 1) := by decide +kernel
theorem dJ7_fill_eb02e_21 : decode cJ7_fill_eb02e 21 = .ok (.iinc 4 1, 3) := by decide +kernel
theorem dJ7_fill_eb02e_24 : decode cJ7_fill_eb02e 24 = .ok (.goto (-14), 3) := by decide +kernel
theorem dJ7_fill_eb02e_27 : decode cJ7_fill_eb02e 27 = .ok (.return_, 1) := by decide +kernel
theorem dJ7_copyOf_9075b_0 : decode cJ7_copyOf_9075b 0 = .ok (.iload_n 1, 1) := by decide +kernel
theorem dJ7_copyOf_9075b_1 : decode cJ7_copyOf_9075b 1 = .ok (.aload_n 0, 1) := by decide +kernel
theorem dJ7_copyOf_9075b_2 : decode cJ7_copyOf_9075b 2 = .ok (.arraylength, 1) := by decide +kernel
theorem dJ7_copyOf_9075b_3 : decode cJ7_copyOf_9075b 3 = .ok (.if_icmp .ne 11, 3) := by decide +kernel
theorem dJ7_copyOf_9075b_6 : decode cJ7_copyOf_9075b 6 = .ok (.aload_n 0, 1) := by decide +kernel
theorem dJ7_copyOf_9075b_7 : decode cJ7_copyOf_9075b 7 = .ok (.invokevirtual 310, 3) := by decide +kernel
theorem dJ7_copyOf_9075b_10 : decode cJ7_copyOf_9075b 10 = .ok (.checkcast 311, 3) := by decide +kernel
theorem dJ7_copyOf_9075b_13 : decode cJ7_copyOf_9075b 13 = .ok (.areturn, 1) := by decide +kernel
theorem dJ7_copyOf_9075b_14 : decode cJ7_copyOf_9075b 14 = .ok (.iload_n 1, 1) := by decide +kernel
theorem dJ7_copyOf_9075b_15 : decode cJ7_copyOf_9075b 15 = .ok (.newarray .byte, 2) := by decide +kernel
theorem dJ7_copyOf_9075b_17 : decode cJ7_copyOf_9075b 17 = .ok (.astore_n 2, 1) := by decide +kernel
theorem dJ7_copyOf_9075b_18 : decode cJ7_copyOf_9075b 18 = .ok (.aload_n 0, 1) := by decide +kernel
theorem dJ7_copyOf_9075b_19 : decode cJ7_copyOf_9075b 19 = .ok (.iconst 0, 1) := by decide +kernel
theorem dJ7_copyOf_9075b_20 : decode cJ7_copyOf_9075b 20 = .ok (.aload_n 2, 1) := by decide +kernel
theorem dJ7_copyOf_9075b_21 : decode cJ7_copyOf_9075b 21 = .ok (.iconst 0, 1) := by decide +kernel
theorem dJ7_copyOf_9075b_22 : decode cJ7_copyOf_9075b 22 = .ok (.aload_n 0, 1) := by decide +kernel
theorem dJ7_copyOf_9075b_23 : decode cJ7_copyOf_9075b 23 = .ok (.arraylength, 1) := by decide +kernel
theorem dJ7_copyOf_9075b_24 : decode cJ7_copyOf_9075b 24 = .ok (.iload_n 1, 1) := by decide +kernel
theorem dJ7_copyOf_9075b_25 : decode cJ7_copyOf_9075b 25 = .ok (.invokestatic 304, 3) := by decide +kernel
theorem dJ7_copyOf_9075b_28 : decode cJ7_copyOf_9075b 28 = .ok (.invokestatic 150, 3) := by decide +kernel
theorem dJ7_copyOf_9075b_31 : decode cJ7_copyOf_9075b 31 = .ok (.aload_n 2, 1) := by decide +kernel
theorem dJ7_copyOf_9075b_32 : decode cJ7_copyOf_9075b 32 = .ok (.areturn, 1) := by decide +kernel
theorem dJ7_checkLength_df160_0 : decode cJ7_checkLength_df160 0 = .ok (.iload_n 1, 1) := by decide +kernel
theorem dJ7_checkLength_df160_1 : decode cJ7_checkLength_df160 1 = .ok (.iload_n 0, 1) := by decide +kernel
theorem dJ7_checkLength_df160_2 : decode cJ7_checkLength_df160 2 = .ok (.if_icmp .ge 35, 3) := by decide +kernel
theorem dJ7_checkLength_df160_5 : decode cJ7_checkLength_df160 5 = .ok (.new 43, 3) := by decide +kernel
theorem dJ7_checkLength_df160_8 : decode cJ7_checkLength_df160 8 = .ok (.dup, 1) := by decide +kernel
theorem dJ7_checkLength_df160_9 : decode cJ7_checkLength_df160 9 = .ok (.new 45, 3) := by decide +kernel
theorem dJ7_checkLength_df160_12 : decode cJ7_checkLength_df160 12 = .ok (.dup, 1) := by decide +kernel
theorem dJ7_checkLength_df160_13 : decode cJ7_checkLength_df160 13 = .ok (.invokespecial 47, 3) := by decide +kernel
theorem dJ7_checkLength_df160_16 : decode cJ7_checkLength_df160 16 = .ok (.iload_n 0, 1) := by decide +kernel
theorem dJ7_checkLength_df160_17 : decode cJ7_checkLength_df160 17 = .ok (.invokevirtual 54, 3) := by decide +kernel
theorem dJ7_checkLength_df160_20 : decode cJ7_checkLength_df160 20 = .ok (.ldc_w 337, 3) := by decide +kernel
theorem dJ7_checkLength_df160_23 : decode cJ7_checkLength_df160 23 = .ok (.invokevirtual 50, 3) := by decide +kernel
theorem dJ7_checkLength_df160_26 : decode cJ7_checkLength_df160 26 = .ok (.iload_n 1, 1) := by decide +kernel
theorem dJ7_checkLength_df160_27 : decode cJ7_checkLength_df160 27 = .ok (.invokevirtual 54, 3) := by decide +kernel
theorem dJ7_checkLength_df160_30 : decode cJ7_checkLength_df160 30 = .ok (.invokevirtual 61, 3) := by decide +kernel
theorem dJ7_checkLength_df160_33 : decode cJ7_checkLength_df160 33 = .ok (.invokespecial 65, 3) := by decide +kernel
theorem dJ7_checkLength_df160_36 : decode cJ7_checkLength_df160 36 = .ok (.athrow, 1) := by decide +kernel
theorem dJ7_checkLength_df160_37 : decode cJ7_checkLength_df160 37 = .ok (.return_, 1) := by decide +kernel
theorem dJ7_copyOfRange_39247_0 : decode cJ7_copyOfRange_39247 0 = .ok (.iload_n 1, 1) := by decide +kernel
theorem dJ7_copyOfRange_39247_1 : decode cJ7_copyOfRange_39247 1 = .ok (.ifCond .ne 9, 3) := by decide +kernel
theorem dJ7_copyOfRange_39247_4 : decode cJ7_copyOfRange_39247 4 = .ok (.iload_n 2, 1) := by decide +kernel
theorem dJ7_copyOfRange_39247_5 : decode cJ7_copyOfRange_39247 5 = .ok (.aload_n 0, 1) := by decide +kernel
theorem dJ7_copyOfRange_39247_6 : decode cJ7_copyOfRange_39247 6 = .ok (.arraylength, 1) := by decide +kernel
theorem dJ7_copyOfRange_39247_7 : decode cJ7_copyOfRange_39247 7 = .ok (.if_icmp .eq 10, 3) := by decide +kernel
theorem dJ7_copyOfRange_39247_10 : decode cJ7_copyOfRange_39247 10 = .ok (.aload_n 0, 1) := by decide +kernel
theorem dJ7_copyOfRange_39247_11 : decode cJ7_copyOfRange_39247 11 = .ok (.iload_n 1, 1) := by decide +kernel
theorem dJ7_copyOfRange_39247_12 : decode cJ7_copyOfRange_39247 12 = .ok (.iload_n 2, 1) := by decide +kernel
theorem dJ7_copyOfRange_39247_13 : decode cJ7_copyOfRange_39247 13 = .ok (.invokestatic 339, 3) := by decide +kernel
theorem dJ7_copyOfRange_39247_16 : decode cJ7_copyOfRange_39247 16 = .ok (.areturn, 1) := by decide +kernel
theorem dJ7_copyOfRange_39247_17 : decode cJ7_copyOfRange_39247 17 = .ok (.aload_n 0, 1) := by decide +kernel
theorem dJ7_copyOfRange_39247_18 : decode cJ7_copyOfRange_39247 18 = .ok (.invokevirtual 310, 3) := by decide +kernel
theorem dJ7_copyOfRange_39247_21 : decode cJ7_copyOfRange_39247 21 = .ok (.checkcast 311, 3) := by decide +kernel
theorem dJ7_copyOfRange_39247_24 : decode cJ7_copyOfRange_39247 24 = .ok (.areturn, 1) := by decide +kernel
theorem dJ7_copyOfRangeByte_39247_0 : decode cJ7_copyOfRangeByte_39247 0 = .ok (.iload_n 1, 1) := by decide +kernel
theorem dJ7_copyOfRangeByte_39247_1 : decode cJ7_copyOfRangeByte_39247 1 = .ok (.iload_n 2, 1) := by decide +kernel
theorem dJ7_copyOfRangeByte_39247_2 : decode cJ7_copyOfRangeByte_39247 2 = .ok (.invokestatic 343, 3) := by decide +kernel
theorem dJ7_copyOfRangeByte_39247_5 : decode cJ7_copyOfRangeByte_39247 5 = .ok (.iload_n 2, 1) := by decide +kernel
theorem dJ7_copyOfRangeByte_39247_6 : decode cJ7_copyOfRangeByte_39247 6 = .ok (.iload_n 1, 1) := by decide +kernel
theorem dJ7_copyOfRangeByte_39247_7 : decode cJ7_copyOfRangeByte_39247 7 = .ok (.isub, 1) := by decide +kernel
theorem dJ7_copyOfRangeByte_39247_8 : decode cJ7_copyOfRangeByte_39247 8 = .ok (.istore_n 3, 1) := by decide +kernel
theorem dJ7_copyOfRangeByte_39247_9 : decode cJ7_copyOfRangeByte_39247 9 = .ok (.iload_n 3, 1) := by decide +kernel
theorem dJ7_copyOfRangeByte_39247_10 : decode cJ7_copyOfRangeByte_39247 10 = .ok (.newarray .byte, 2) := by decide +kernel
theorem dJ7_copyOfRangeByte_39247_12 : decode cJ7_copyOfRangeByte_39247 12 = .ok (.astore 4, 2) := by decide +kernel
theorem dJ7_copyOfRangeByte_39247_14 : decode cJ7_copyOfRangeByte_39247 14 = .ok (.aload_n 0, 1) := by decide +kernel
theorem dJ7_copyOfRangeByte_39247_15 : decode cJ7_copyOfRangeByte_39247 15 = .ok (.iload_n 1, 1) := by decide +kernel
theorem dJ7_copyOfRangeByte_39247_16 : decode cJ7_copyOfRangeByte_39247 16 = .ok (.aload 4, 2) := by decide +kernel
theorem dJ7_copyOfRangeByte_39247_18 : decode cJ7_copyOfRangeByte_39247 18 = .ok (.iconst 0, 1) := by decide +kernel
theorem dJ7_copyOfRangeByte_39247_19 : decode cJ7_copyOfRangeByte_39247 19 = .ok (.aload_n 0, 1) := by decide +kernel
theorem dJ7_copyOfRangeByte_39247_20 : decode cJ7_copyOfRangeByte_39247 20 = .ok (.arraylength, 1) := by decide +kernel
theorem dJ7_copyOfRangeByte_39247_21 : decode cJ7_copyOfRangeByte_39247 21 = .ok (.iload_n 1, 1) := by decide +kernel
theorem dJ7_copyOfRangeByte_39247_22 : decode cJ7_copyOfRangeByte_39247 22 = .ok (.isub, 1) := by decide +kernel
theorem dJ7_copyOfRangeByte_39247_23 : decode cJ7_copyOfRangeByte_39247 23 = .ok (.iload_n 3, 1) := by decide +kernel
theorem dJ7_copyOfRangeByte_39247_24 : decode cJ7_copyOfRangeByte_39247 24 = .ok (.invokestatic 304, 3) := by decide +kernel
theorem dJ7_copyOfRangeByte_39247_27 : decode cJ7_copyOfRangeByte_39247 27 = .ok (.invokestatic 150, 3) := by decide +kernel
theorem dJ7_copyOfRangeByte_39247_30 : decode cJ7_copyOfRangeByte_39247 30 = .ok (.aload 4, 2) := by decide +kernel
theorem dJ7_copyOfRangeByte_39247_32 : decode cJ7_copyOfRangeByte_39247 32 = .ok (.areturn, 1) := by decide +kernel
theorem dJ8_newLength_cabcc_0 : decode cJ8_newLength_cabcc 0 = .ok (.iload_n 0, 1) := by decide +kernel
theorem dJ8_newLength_cabcc_1 : decode cJ8_newLength_cabcc 1 = .ok (.iload_n 1, 1) := by decide +kernel
theorem dJ8_newLength_cabcc_2 : decode cJ8_newLength_cabcc 2 = .ok (.iload_n 2, 1) := by decide +kernel
theorem dJ8_newLength_cabcc_3 : decode cJ8_newLength_cabcc 3 = .ok (.invokestatic 194, 3) := by decide +kernel
theorem dJ8_newLength_cabcc_6 : decode cJ8_newLength_cabcc 6 = .ok (.iadd, 1) := by decide +kernel
theorem dJ8_newLength_cabcc_7 : decode cJ8_newLength_cabcc 7 = .ok (.istore_n 3, 1) := by decide +kernel
theorem dJ8_newLength_cabcc_8 : decode cJ8_newLength_cabcc 8 = .ok (.iconst 0, 1) := by decide +kernel
theorem dJ8_newLength_cabcc_9 : decode cJ8_newLength_cabcc 9 = .ok (.iload_n 3, 1) := by decide +kernel
theorem dJ8_newLength_cabcc_10 : decode cJ8_newLength_cabcc 10 = .ok (.if_icmp .ge 11, 3) := by decide +kernel
theorem dJ8_newLength_cabcc_13 : decode cJ8_newLength_cabcc 13 = .ok (.iload_n 3, 1) := by decide +kernel
theorem dJ8_newLength_cabcc_14 : decode cJ8_newLength_cabcc 14 = .ok (.ldc 200, 2) := by decide +kernel
theorem dJ8_newLength_cabcc_16 : decode cJ8_newLength_cabcc 16 = .ok (.if_icmp .gt 5, 3) := by decide +kernel
theorem dJ8_newLength_cabcc_19 : decode cJ8_newLength_cabcc 19 = .ok (.iload_n 3, 1) := by decide +kernel
theorem dJ8_newLength_cabcc_20 : decode cJ8_newLength_cabcc 20 = .ok (.ireturn, 1) := by decide +kernel
theorem dJ8_newLength_cabcc_21 : decode cJ8_newLength_cabcc 21 = .ok (.iload_n 0, 1) := by decide +kernel
theorem dJ8_newLength_cabcc_22 : decode cJ8_newLength_cabcc 22 = .ok (.iload_n 1, 1) := by decide +kernel
theorem dJ8_newLength_cabcc_23 : decode cJ8_newLength_cabcc 23 = .ok (.invokestatic 201, 3) := by decide +kernel
theorem dJ8_newLength_cabcc_26 : decode cJ8_newLength_cabcc 26 = .ok (.ireturn, 1) := by decide +kernel
theorem dJ8_hugeLength_7cf53_0 : decode cJ8_hugeLength_7cf53 0 = .ok (.iload_n 0, 1) := by decide +kernel
theorem dJ8_hugeLength_7cf53_1 : decode cJ8_hugeLength_7cf53 1 = .ok (.iload_n 1, 1) := by decide +kernel
theorem dJ8_hugeLength_7cf53_2 : decode cJ8_hugeLength_7cf53 2 = .ok (.iadd, 1) := by decide +kernel
theorem dJ8_hugeLength_7cf53_3 : decode cJ8_hugeLength_7cf53 3 = .ok (.istore_n 2, 1) := by decide +kernel
theorem dJ8_hugeLength_7cf53_4 : decode cJ8_hugeLength_7cf53 4 = .ok (.iload_n 2, 1) := by decide +kernel
theorem dJ8_hugeLength_7cf53_5 : decode cJ8_hugeLength_7cf53 5 = .ok (.ifCond .ge 44, 3) := by decide +kernel
theorem dJ8_hugeLength_7cf53_8 : decode cJ8_hugeLength_7cf53 8 = .ok (.new 204, 3) := by decide +kernel
theorem dJ8_hugeLength_7cf53_11 : decode cJ8_hugeLength_7cf53 11 = .ok (.dup, 1) := by decide +kernel
theorem dJ8_hugeLength_7cf53_12 : decode cJ8_hugeLength_7cf53 12 = .ok (.new 89, 3) := by decide +kernel
theorem dJ8_hugeLength_7cf53_15 : decode cJ8_hugeLength_7cf53 15 = .ok (.dup, 1) := by decide +kernel
theorem dJ8_hugeLength_7cf53_16 : decode cJ8_hugeLength_7cf53 16 = .ok (.invokespecial 91, 3) := by decide +kernel
theorem dJ8_hugeLength_7cf53_19 : decode cJ8_hugeLength_7cf53 19 = .ok (.ldc 206, 2) := by decide +kernel
theorem dJ8_hugeLength_7cf53_21 : decode cJ8_hugeLength_7cf53 21 = .ok (.invokevirtual 94, 3) := by decide +kernel
theorem dJ8_hugeLength_7cf53_24 : decode cJ8_hugeLength_7cf53 24 = .ok (.iload_n 0, 1) := by decide +kernel
theorem dJ8_hugeLength_7cf53_25 : decode cJ8_hugeLength_7cf53 25 = .ok (.invokevirtual 98, 3) := by decide +kernel
theorem dJ8_hugeLength_7cf53_28 : decode cJ8_hugeLength_7cf53 28 = .ok (.ldc 208, 2) := by decide +kernel
theorem dJ8_hugeLength_7cf53_30 : decode cJ8_hugeLength_7cf53 30 = .ok (.invokevirtual 94, 3) := by decide +kernel
theorem dJ8_hugeLength_7cf53_33 : decode cJ8_hugeLength_7cf53 33 = .ok (.iload_n 1, 1) := by decide +kernel
theorem dJ8_hugeLength_7cf53_34 : decode cJ8_hugeLength_7cf53 34 = .ok (.invokevirtual 98, 3) := by decide +kernel
theorem dJ8_hugeLength_7cf53_37 : decode cJ8_hugeLength_7cf53 37 = .ok (.ldc 210, 2) := by decide +kernel
theorem dJ8_hugeLength_7cf53_39 : decode cJ8_hugeLength_7cf53 39 = .ok (.invokevirtual 94, 3) := by decide +kernel
theorem dJ8_hugeLength_7cf53_42 : decode cJ8_hugeLength_7cf53 42 = .ok (.invokevirtual 101, 3) := by decide +kernel
theorem dJ8_hugeLength_7cf53_45 : decode cJ8_hugeLength_7cf53 45 = .ok (.invokespecial 212, 3) := by decide +kernel
theorem dJ8_hugeLength_7cf53_48 : decode cJ8_hugeLength_7cf53 48 = .ok (.athrow, 1) := by decide +kernel
theorem dJ8_hugeLength_7cf53_49 : decode cJ8_hugeLength_7cf53 49 = .ok (.iload_n 2, 1) := by decide +kernel
theorem dJ8_hugeLength_7cf53_50 : decode cJ8_hugeLength_7cf53 50 = .ok (.ldc 200, 2) := by decide +kernel
theorem dJ8_hugeLength_7cf53_52 : decode cJ8_hugeLength_7cf53 52 = .ok (.if_icmp .gt 6, 3) := by decide +kernel
theorem dJ8_hugeLength_7cf53_55 : decode cJ8_hugeLength_7cf53 55 = .ok (.ldc 200, 2) := by decide +kernel
theorem dJ8_hugeLength_7cf53_57 : decode cJ8_hugeLength_7cf53 57 = .ok (.ireturn, 1) := by decide +kernel
theorem dJ8_hugeLength_7cf53_58 : decode cJ8_hugeLength_7cf53 58 = .ok (.iload_n 2, 1) := by decide +kernel
theorem dJ8_hugeLength_7cf53_59 : decode cJ8_hugeLength_7cf53 59 = .ok (.ireturn, 1) := by decide +kernel
theorem dJ3_checkIndex_8e157_0 : decode cJ3_checkIndex_8e157 0 = .ok (.iload_n 0, 1) := by decide +kernel
theorem dJ3_checkIndex_8e157_1 : decode cJ3_checkIndex_8e157 1 = .ok (.ifCond .lt 8, 3) := by decide +kernel
theorem dJ3_checkIndex_8e157_4 : decode cJ3_checkIndex_8e157 4 = .ok (.iload_n 0, 1) := by decide +kernel
theorem dJ3_checkIndex_8e157_5 : decode cJ3_checkIndex_8e157 5 = .ok (.iload_n 1, 1) := by decide +kernel
theorem dJ3_checkIndex_8e157_6 : decode cJ3_checkIndex_8e157 6 = .ok (.if_icmp .lt 10, 3) := by decide +kernel
theorem dJ3_checkIndex_8e157_9 : decode cJ3_checkIndex_8e157 9 = .ok (.aload_n 2, 1) := by decide +kernel
theorem dJ3_checkIndex_8e157_10 : decode cJ3_checkIndex_8e157 10 = .ok (.iload_n 0, 1) := by decide +kernel
theorem dJ3_checkIndex_8e157_11 : decode cJ3_checkIndex_8e157 11 = .ok (.iload_n 1, 1) := by decide +kernel
theorem dJ3_checkIndex_8e157_12 : decode cJ3_checkIndex_8e157 12 = .ok (.invokestatic 95, 3) := by decide +kernel
theorem dJ3_checkIndex_8e157_15 : decode cJ3_checkIndex_8e157 15 = .ok (.athrow, 1) := by decide +kernel
theorem dJ3_checkIndex_8e157_16 : decode cJ3_checkIndex_8e157 16 = .ok (.iload_n 0, 1) := by decide +kernel
theorem dJ3_checkIndex_8e157_17 : decode cJ3_checkIndex_8e157 17 = .ok (.ireturn, 1) := by decide +kernel
theorem dJ3_checkFromToIndex_8c36e_0 : decode cJ3_checkFromToIndex_8c36e 0 = .ok (.iload_n 0, 1) := by decide +kernel
theorem dJ3_checkFromToIndex_8c36e_1 : decode cJ3_checkFromToIndex_8c36e 1 = .ok (.ifCond .lt 13, 3) := by decide +kernel
theorem dJ3_checkFromToIndex_8c36e_4 : decode cJ3_checkFromToIndex_8c36e 4 = .ok (.iload_n 0, 1) := by decide +kernel
theorem dJ3_checkFromToIndex_8c36e_5 : decode cJ3_checkFromToIndex_8c36e 5 = .ok (.iload_n 1, 1) := by decide +kernel
theorem dJ3_checkFromToIndex_8c36e_6 : decode cJ3_checkFromToIndex_8c36e 6 = .ok (.if_icmp .gt 8, 3) := by decide +kernel
theorem dJ3_checkFromToIndex_8c36e_9 : decode cJ3_checkFromToIndex_8c36e 9 = .ok (.iload_n 1, 1) := by decide +kernel
theorem dJ3_checkFromToIndex_8c36e_10 : decode cJ3_checkFromToIndex_8c36e 10 = .ok (.iload_n 2, 1) := by decide +kernel
theorem dJ3_checkFromToIndex_8c36e_11 : decode cJ3_checkFromToIndex_8c36e 11 = .ok (.if_icmp .le 11, 3) := by decide +kernel
theorem dJ3_checkFromToIndex_8c36e_14 : decode cJ3_checkFromToIndex_8c36e 14 = .ok (.aload_n 3, 1) := by decide +kernel
theorem dJ3_checkFromToIndex_8c36e_15 : decode cJ3_checkFromToIndex_8c36e 15 = .ok (.iload_n 0, 1) := by decide +kernel
theorem dJ3_checkFromToIndex_8c36e_16 : decode cJ3_checkFromToIndex_8c36e 16 = .ok (.iload_n 1, 1) := by decide +kernel
theorem dJ3_checkFromToIndex_8c36e_17 : decode cJ3_checkFromToIndex_8c36e 17 = .ok (.iload_n 2, 1) := by decide +kernel
theorem dJ3_checkFromToIndex_8c36e_18 : decode cJ3_checkFromToIndex_8c36e 18 = .ok (.invokestatic 99, 3) := by decide +kernel
theorem dJ3_checkFromToIndex_8c36e_21 : decode cJ3_checkFromToIndex_8c36e 21 = .ok (.athrow, 1) := by decide +kernel
theorem dJ3_checkFromToIndex_8c36e_22 : decode cJ3_checkFromToIndex_8c36e 22 = .ok (.iload_n 0, 1) := by decide +kernel
theorem dJ3_checkFromToIndex_8c36e_23 : decode cJ3_checkFromToIndex_8c36e 23 = .ok (.ireturn, 1) := by decide +kernel
theorem dJ3_checkFromIndexSize_8c36e_0 : decode cJ3_checkFromIndexSize_8c36e 0 = .ok (.iload_n 2, 1) := by decide +kernel
theorem dJ3_checkFromIndexSize_8c36e_1 : decode cJ3_checkFromIndexSize_8c36e 1 = .ok (.iload_n 0, 1) := by decide +kernel
theorem dJ3_checkFromIndexSize_8c36e_2 : decode cJ3_checkFromIndexSize_8c36e 2 = .ok (.ior, 1) := by decide +kernel
theorem dJ3_checkFromIndexSize_8c36e_3 : decode cJ3_checkFromIndexSize_8c36e 3 = .ok (.iload_n 1, 1) := by decide +kernel
theorem dJ3_checkFromIndexSize_8c36e_4 : decode cJ3_checkFromIndexSize_8c36e 4 = .ok (.ior, 1) := by decide +kernel
theorem dJ3_checkFromIndexSize_8c36e_5 : decode cJ3_checkFromIndexSize_8c36e 5 = .ok (.ifCond .lt 10, 3) := by decide +kernel
theorem dJ3_checkFromIndexSize_8c36e_8 : decode cJ3_checkFromIndexSize_8c36e 8 = .ok (.iload_n 1, 1) := by decide +kernel
theorem dJ3_checkFromIndexSize_8c36e_9 : decode cJ3_checkFromIndexSize_8c36e 9 = .ok (.iload_n 2, 1) := by decide +kernel
theorem dJ3_checkFromIndexSize_8c36e_10 : decode cJ3_checkFromIndexSize_8c36e 10 = .ok (.iload_n 0, 1) := by decide +kernel
theorem dJ3_checkFromIndexSize_8c36e_11 : decode cJ3_checkFromIndexSize_8c36e 11 = .ok (.isub, 1) := by decide +kernel
theorem dJ3_checkFromIndexSize_8c36e_12 : decode cJ3_checkFromIndexSize_8c36e 12 = .ok (.if_icmp .le 11, 3) := by decide +kernel
theorem dJ3_checkFromIndexSize_8c36e_15 : decode cJ3_checkFromIndexSize_8c36e 15 = .ok (.aload_n 3, 1) := by decide +kernel
theorem dJ3_checkFromIndexSize_8c36e_16 : decode cJ3_checkFromIndexSize_8c36e 16 = .ok (.iload_n 0, 1) := by decide +kernel
theorem dJ3_checkFromIndexSize_8c36e_17 : decode cJ3_checkFromIndexSize_8c36e 17 = .ok (.iload_n 1, 1) := by decide +kernel
theorem dJ3_checkFromIndexSize_8c36e_18 : decode cJ3_checkFromIndexSize_8c36e 18 = .ok (.iload_n 2, 1) := by decide +kernel
theorem dJ3_checkFromIndexSize_8c36e_19 : decode cJ3_checkFromIndexSize_8c36e 19 = .ok (.invokestatic 103, 3) := by decide +kernel
theorem dJ3_checkFromIndexSize_8c36e_22 : decode cJ3_checkFromIndexSize_8c36e 22 = .ok (.athrow, 1) := by decide +kernel
theorem dJ3_checkFromIndexSize_8c36e_23 : decode cJ3_checkFromIndexSize_8c36e 23 = .ok (.iload_n 0, 1) := by decide +kernel
theorem dJ3_checkFromIndexSize_8c36e_24 : decode cJ3_checkFromIndexSize_8c36e 24 = .ok (.ireturn, 1) := by decide +kernel
theorem dL_addArgument_0 : decode cL_addArgument 0 = .ok (.aload_n 2, 1) := by decide +kernel
theorem dL_addArgument_1 : decode cL_addArgument 1 = .ok (.iconst 0, 1) := by decide +kernel
theorem dL_addArgument_2 : decode cL_addArgument 2 = .ok (.aload_n 0, 1) := by decide +kernel
theorem dL_addArgument_3 : decode cL_addArgument 3 = .ok (.iload_n 1, 1) := by decide +kernel
theorem dL_addArgument_4 : decode cL_addArgument 4 = .ok (.invokevirtual 7, 3) := by decide +kernel
theorem dL_addArgument_7 : decode cL_addArgument 7 = .ok (.i2l, 1) := by decide +kernel
theorem dL_addArgument_8 : decode cL_addArgument 8 = .ok (.lastore, 1) := by decide +kernel
theorem dL_addArgument_9 : decode cL_addArgument 9 = .ok (.goto 9, 3) := by decide +kernel
theorem dL_addArgument_12 : decode cL_addArgument 12 = .ok (.astore_n 3, 1) := by decide +kernel
theorem dL_addArgument_13 : decode cL_addArgument 13 = .ok (.iconst 1, 1) := by decide +kernel
theorem dL_addArgument_14 : decode cL_addArgument 14 = .ok (.ireturn, 1) := by decide +kernel
theorem dL_addArgument_15 : decode cL_addArgument 15 = .ok (.astore_n 3, 1) := by decide +kernel
theorem dL_addArgument_16 : decode cL_addArgument 16 = .ok (.iconst 2, 1) := by decide +kernel
theorem dL_addArgument_17 : decode cL_addArgument 17 = .ok (.ireturn, 1) := by decide +kernel
theorem dL_addArgument_18 : decode cL_addArgument 18 = .ok (.iconst 0, 1) := by decide +kernel
theorem dL_addArgument_19 : decode cL_addArgument 19 = .ok (.ireturn, 1) := by decide +kernel
theorem dL_removeArgument_0 : decode cL_removeArgument 0 = .ok (.aload_n 2, 1) := by decide +kernel
theorem dL_removeArgument_1 : decode cL_removeArgument 1 = .ok (.iconst 0, 1) := by decide +kernel
theorem dL_removeArgument_2 : decode cL_removeArgument 2 = .ok (.aload_n 0, 1) := by decide +kernel
theorem dL_removeArgument_3 : decode cL_removeArgument 3 = .ok (.iload_n 1, 1) := by decide +kernel
theorem dL_removeArgument_4 : decode cL_removeArgument 4 = .ok (.invokevirtual 17, 3) := by decide +kernel
theorem dL_removeArgument_7 : decode cL_removeArgument 7 = .ok (.i2l, 1) := by decide +kernel
theorem dL_removeArgument_8 : decode cL_removeArgument 8 = .ok (.lastore, 1) := by decide +kernel
theorem dL_removeArgument_9 : decode cL_removeArgument 9 = .ok (.goto 6, 3) := by decide +kernel
theorem dL_removeArgument_12 : decode cL_removeArgument 12 = .ok (.astore_n 3, 1) := by decide +kernel
theorem dL_removeArgument_13 : decode cL_removeArgument 13 = .ok (.iconst 1, 1) := by decide +kernel
theorem dL_removeArgument_14 : decode cL_removeArgument 14 = .ok (.ireturn, 1) := by decide +kernel
theorem dL_removeArgument_15 : decode cL_removeArgument 15 = .ok (.iconst 0, 1) := by decide +kernel
theorem dL_removeArgument_16 : decode cL_removeArgument 16 = .ok (.ireturn, 1) := by decide +kernel
theorem dL_addAttack_0 : decode cL_addAttack 0 = .ok (.aload_n 3, 1) := by decide +kernel
theorem dL_addAttack_1 : decode cL_addAttack 1 = .ok (.iconst 0, 1) := by decide +kernel
theorem dL_addAttack_2 : decode cL_addAttack 2 = .ok (.aload_n 0, 1) := by decide +kernel
theorem dL_addAttack_3 : decode cL_addAttack 3 = .ok (.iload_n 1, 1) := by decide +kernel
theorem dL_addAttack_4 : decode cL_addAttack 4 = .ok (.iload_n 2, 1) := by decide +kernel
theorem dL_addAttack_5 : decode cL_addAttack 5 = .ok (.invokevirtual 22, 3) := by decide +kernel
theorem dL_addAttack_8 : decode cL_addAttack 8 = .ok (.i2l, 1) := by decide +kernel
theorem dL_addAttack_9 : decode cL_addAttack 9 = .ok (.lastore, 1) := by decide +kernel
theorem dL_addAttack_10 : decode cL_addAttack 10 = .ok (.goto 15, 3) := by decide +kernel
theorem dL_addAttack_13 : decode cL_addAttack 13 = .ok (.astore 4, 2) := by decide +kernel
theorem dL_addAttack_15 : decode cL_addAttack 15 = .ok (.iconst 1, 1) := by decide +kernel
theorem dL_addAttack_16 : decode cL_addAttack 16 = .ok (.ireturn, 1) := by decide +kernel
theorem dL_addAttack_17 : decode cL_addAttack 17 = .ok (.astore 4, 2) := by decide +kernel
theorem dL_addAttack_19 : decode cL_addAttack 19 = .ok (.iconst 2, 1) := by decide +kernel
theorem dL_addAttack_20 : decode cL_addAttack 20 = .ok (.ireturn, 1) := by decide +kernel
theorem dL_addAttack_21 : decode cL_addAttack 21 = .ok (.astore 4, 2) := by decide +kernel
theorem dL_addAttack_23 : decode cL_addAttack 23 = .ok (.iconst 3, 1) := by decide +kernel
theorem dL_addAttack_24 : decode cL_addAttack 24 = .ok (.ireturn, 1) := by decide +kernel
theorem dL_addAttack_25 : decode cL_addAttack 25 = .ok (.iconst 0, 1) := by decide +kernel
theorem dL_addAttack_26 : decode cL_addAttack 26 = .ok (.ireturn, 1) := by decide +kernel
theorem dL_removeAttack_0 : decode cL_removeAttack 0 = .ok (.aload_n 3, 1) := by decide +kernel
theorem dL_removeAttack_1 : decode cL_removeAttack 1 = .ok (.iconst 0, 1) := by decide +kernel
theorem dL_removeAttack_2 : decode cL_removeAttack 2 = .ok (.aload_n 0, 1) := by decide +kernel
theorem dL_removeAttack_3 : decode cL_removeAttack 3 = .ok (.iload_n 1, 1) := by decide +kernel
theorem dL_removeAttack_4 : decode cL_removeAttack 4 = .ok (.iload_n 2, 1) := by decide +kernel
theorem dL_removeAttack_5 : decode cL_removeAttack 5 = .ok (.invokevirtual 26, 3) := by decide +kernel
theorem dL_removeAttack_8 : decode cL_removeAttack 8 = .ok (.i2l, 1) := by decide +kernel
theorem dL_removeAttack_9 : decode cL_removeAttack 9 = .ok (.lastore, 1) := by decide +kernel
theorem dL_removeAttack_10 : decode cL_removeAttack 10 = .ok (.goto 7, 3) := by decide +kernel
theorem dL_removeAttack_13 : decode cL_removeAttack 13 = .ok (.astore 4, 2) := by decide +kernel
theorem dL_removeAttack_15 : decode cL_removeAttack 15 = .ok (.iconst 1, 1) := by decide +kernel
theorem dL_removeAttack_16 : decode cL_removeAttack 16 = .ok (.ireturn, 1) := by decide +kernel
theorem dL_removeAttack_17 : decode cL_removeAttack 17 = .ok (.iconst 0, 1) := by decide +kernel
theorem dL_removeAttack_18 : decode cL_removeAttack 18 = .ok (.ireturn, 1) := by decide +kernel
theorem dL_setWeight_0 : decode cL_setWeight 0 = .ok (.aload_n 3, 1) := by decide +kernel
theorem dL_setWeight_1 : decode cL_setWeight 1 = .ok (.iconst 0, 1) := by decide +kernel
theorem dL_setWeight_2 : decode cL_setWeight 2 = .ok (.aload_n 0, 1) := by decide +kernel
theorem dL_setWeight_3 : decode cL_setWeight 3 = .ok (.iload_n 1, 1) := by decide +kernel
theorem dL_setWeight_4 : decode cL_setWeight 4 = .ok (.iload_n 2, 1) := by decide +kernel
theorem dL_setWeight_5 : decode cL_setWeight 5 = .ok (.invokevirtual 29, 3) := by decide +kernel
theorem dL_setWeight_8 : decode cL_setWeight 8 = .ok (.i2l, 1) := by decide +kernel
theorem dL_setWeight_9 : decode cL_setWeight 9 = .ok (.lastore, 1) := by decide +kernel
theorem dL_setWeight_10 : decode cL_setWeight 10 = .ok (.goto 11, 3) := by decide +kernel
theorem dL_setWeight_13 : decode cL_setWeight 13 = .ok (.astore 4, 2) := by decide +kernel
theorem dL_setWeight_15 : decode cL_setWeight 15 = .ok (.iconst 1, 1) := by decide +kernel
theorem dL_setWeight_16 : decode cL_setWeight 16 = .ok (.ireturn, 1) := by decide +kernel
theorem dL_setWeight_17 : decode cL_setWeight 17 = .ok (.astore 4, 2) := by decide +kernel
theorem dL_setWeight_19 : decode cL_setWeight 19 = .ok (.iconst 2, 1) := by decide +kernel
theorem dL_setWeight_20 : decode cL_setWeight 20 = .ok (.ireturn, 1) := by decide +kernel
theorem dL_setWeight_21 : decode cL_setWeight 21 = .ok (.iconst 0, 1) := by decide +kernel
theorem dL_setWeight_22 : decode cL_setWeight 22 = .ok (.ireturn, 1) := by decide +kernel
theorem dL_renew_0 : decode cL_renew 0 = .ok (.aload_n 2, 1) := by decide +kernel
theorem dL_renew_1 : decode cL_renew 1 = .ok (.iconst 0, 1) := by decide +kernel
theorem dL_renew_2 : decode cL_renew 2 = .ok (.aload_n 0, 1) := by decide +kernel
theorem dL_renew_3 : decode cL_renew 3 = .ok (.iload_n 1, 1) := by decide +kernel
theorem dL_renew_4 : decode cL_renew 4 = .ok (.invokevirtual 32, 3) := by decide +kernel
theorem dL_renew_7 : decode cL_renew 7 = .ok (.i2l, 1) := by decide +kernel
theorem dL_renew_8 : decode cL_renew 8 = .ok (.lastore, 1) := by decide +kernel
theorem dL_renew_9 : decode cL_renew 9 = .ok (.goto 6, 3) := by decide +kernel
theorem dL_renew_12 : decode cL_renew 12 = .ok (.astore_n 3, 1) := by decide +kernel
theorem dL_renew_13 : decode cL_renew 13 = .ok (.iconst 1, 1) := by decide +kernel
theorem dL_renew_14 : decode cL_renew 14 = .ok (.ireturn, 1) := by decide +kernel
theorem dL_renew_15 : decode cL_renew 15 = .ok (.iconst 0, 1) := by decide +kernel
theorem dL_renew_16 : decode cL_renew 16 = .ok (.ireturn, 1) := by decide +kernel
theorem dL_startDialogue_0 : decode cL_startDialogue 0 = .ok (.aload_n 2, 1) := by decide +kernel
theorem dL_startDialogue_1 : decode cL_startDialogue 1 = .ok (.iconst 0, 1) := by decide +kernel
theorem dL_startDialogue_2 : decode cL_startDialogue 2 = .ok (.aload_n 0, 1) := by decide +kernel
theorem dL_startDialogue_3 : decode cL_startDialogue 3 = .ok (.iload_n 1, 1) := by decide +kernel
theorem dL_startDialogue_4 : decode cL_startDialogue 4 = .ok (.invokevirtual 35, 3) := by decide +kernel
theorem dL_startDialogue_7 : decode cL_startDialogue 7 = .ok (.i2l, 1) := by decide +kernel
theorem dL_startDialogue_8 : decode cL_startDialogue 8 = .ok (.lastore, 1) := by decide +kernel
theorem dL_startDialogue_9 : decode cL_startDialogue 9 = .ok (.goto 9, 3) := by decide +kernel
theorem dL_startDialogue_12 : decode cL_startDialogue 12 = .ok (.astore_n 3, 1) := by decide +kernel
theorem dL_startDialogue_13 : decode cL_startDialogue 13 = .ok (.iconst 1, 1) := by decide +kernel
theorem dL_startDialogue_14 : decode cL_startDialogue 14 = .ok (.ireturn, 1) := by decide +kernel
theorem dL_startDialogue_15 : decode cL_startDialogue 15 = .ok (.astore_n 3, 1) := by decide +kernel
theorem dL_startDialogue_16 : decode cL_startDialogue 16 = .ok (.iconst 2, 1) := by decide +kernel
theorem dL_startDialogue_17 : decode cL_startDialogue 17 = .ok (.ireturn, 1) := by decide +kernel
theorem dL_startDialogue_18 : decode cL_startDialogue 18 = .ok (.iconst 0, 1) := by decide +kernel
theorem dL_startDialogue_19 : decode cL_startDialogue 19 = .ok (.ireturn, 1) := by decide +kernel
theorem dL_move_0 : decode cL_move 0 = .ok (.aload_n 2, 1) := by decide +kernel
theorem dL_move_1 : decode cL_move 1 = .ok (.iconst 0, 1) := by decide +kernel
theorem dL_move_2 : decode cL_move 2 = .ok (.aload_n 0, 1) := by decide +kernel
theorem dL_move_3 : decode cL_move 3 = .ok (.iload_n 1, 1) := by decide +kernel
theorem dL_move_4 : decode cL_move 4 = .ok (.invokevirtual 38, 3) := by decide +kernel
theorem dL_move_7 : decode cL_move 7 = .ok (.i2l, 1) := by decide +kernel
theorem dL_move_8 : decode cL_move 8 = .ok (.lastore, 1) := by decide +kernel
theorem dL_move_9 : decode cL_move 9 = .ok (.goto 12, 3) := by decide +kernel
theorem dL_move_12 : decode cL_move 12 = .ok (.astore_n 3, 1) := by decide +kernel
theorem dL_move_13 : decode cL_move 13 = .ok (.iconst 1, 1) := by decide +kernel
theorem dL_move_14 : decode cL_move 14 = .ok (.ireturn, 1) := by decide +kernel
theorem dL_move_15 : decode cL_move 15 = .ok (.astore_n 3, 1) := by decide +kernel
theorem dL_move_16 : decode cL_move 16 = .ok (.iconst 2, 1) := by decide +kernel
theorem dL_move_17 : decode cL_move 17 = .ok (.ireturn, 1) := by decide +kernel
theorem dL_move_18 : decode cL_move 18 = .ok (.astore_n 3, 1) := by decide +kernel
theorem dL_move_19 : decode cL_move 19 = .ok (.iconst 3, 1) := by decide +kernel
theorem dL_move_20 : decode cL_move 20 = .ok (.ireturn, 1) := by decide +kernel
theorem dL_move_21 : decode cL_move 21 = .ok (.iconst 0, 1) := by decide +kernel
theorem dL_move_22 : decode cL_move 22 = .ok (.ireturn, 1) := by decide +kernel
theorem dL_takeBack_0 : decode cL_takeBack 0 = .ok (.aload_n 1, 1) := by decide +kernel
theorem dL_takeBack_1 : decode cL_takeBack 1 = .ok (.iconst 0, 1) := by decide +kernel
theorem dL_takeBack_2 : decode cL_takeBack 2 = .ok (.aload_n 0, 1) := by decide +kernel
theorem dL_takeBack_3 : decode cL_takeBack 3 = .ok (.invokevirtual 41, 3) := by decide +kernel
theorem dL_takeBack_6 : decode cL_takeBack 6 = .ok (.i2l, 1) := by decide +kernel
theorem dL_takeBack_7 : decode cL_takeBack 7 = .ok (.lastore, 1) := by decide +kernel
theorem dL_takeBack_8 : decode cL_takeBack 8 = .ok (.goto 9, 3) := by decide +kernel
theorem dL_takeBack_11 : decode cL_takeBack 11 = .ok (.astore_n 2, 1) := by decide +kernel
theorem dL_takeBack_12 : decode cL_takeBack 12 = .ok (.iconst 1, 1) := by decide +kernel
theorem dL_takeBack_13 : decode cL_takeBack 13 = .ok (.ireturn, 1) := by decide +kernel
theorem dL_takeBack_14 : decode cL_takeBack 14 = .ok (.astore_n 2, 1) := by decide +kernel
theorem dL_takeBack_15 : decode cL_takeBack 15 = .ok (.iconst 2, 1) := by decide +kernel
theorem dL_takeBack_16 : decode cL_takeBack 16 = .ok (.ireturn, 1) := by decide +kernel
theorem dL_takeBack_17 : decode cL_takeBack 17 = .ok (.iconst 0, 1) := by decide +kernel
theorem dL_takeBack_18 : decode cL_takeBack 18 = .ok (.ireturn, 1) := by decide +kernel
theorem dL_endDialogue_0 : decode cL_endDialogue 0 = .ok (.aload_n 1, 1) := by decide +kernel
theorem dL_endDialogue_1 : decode cL_endDialogue 1 = .ok (.iconst 0, 1) := by decide +kernel
theorem dL_endDialogue_2 : decode cL_endDialogue 2 = .ok (.aload_n 0, 1) := by decide +kernel
theorem dL_endDialogue_3 : decode cL_endDialogue 3 = .ok (.invokevirtual 45, 3) := by decide +kernel
theorem dL_endDialogue_6 : decode cL_endDialogue 6 = .ok (.i2l, 1) := by decide +kernel
theorem dL_endDialogue_7 : decode cL_endDialogue 7 = .ok (.lastore, 1) := by decide +kernel
theorem dL_endDialogue_8 : decode cL_endDialogue 8 = .ok (.goto 6, 3) := by decide +kernel
theorem dL_endDialogue_11 : decode cL_endDialogue 11 = .ok (.astore_n 2, 1) := by decide +kernel
theorem dL_endDialogue_12 : decode cL_endDialogue 12 = .ok (.iconst 1, 1) := by decide +kernel
theorem dL_endDialogue_13 : decode cL_endDialogue 13 = .ok (.ireturn, 1) := by decide +kernel
theorem dL_endDialogue_14 : decode cL_endDialogue 14 = .ok (.iconst 0, 1) := by decide +kernel
theorem dL_endDialogue_15 : decode cL_endDialogue 15 = .ok (.ireturn, 1) := by decide +kernel
theorem dL_pass_0 : decode cL_pass 0 = .ok (.aload_n 2, 1) := by decide +kernel
theorem dL_pass_1 : decode cL_pass 1 = .ok (.iconst 0, 1) := by decide +kernel
theorem dL_pass_2 : decode cL_pass 2 = .ok (.aload_n 0, 1) := by decide +kernel
theorem dL_pass_3 : decode cL_pass 3 = .ok (.iload_n 1, 1) := by decide +kernel
theorem dL_pass_4 : decode cL_pass 4 = .ok (.invokevirtual 49, 3) := by decide +kernel
theorem dL_pass_7 : decode cL_pass 7 = .ok (.i2l, 1) := by decide +kernel
theorem dL_pass_8 : decode cL_pass 8 = .ok (.lastore, 1) := by decide +kernel
theorem dL_pass_9 : decode cL_pass 9 = .ok (.goto 6, 3) := by decide +kernel
theorem dL_pass_12 : decode cL_pass 12 = .ok (.astore_n 3, 1) := by decide +kernel
theorem dL_pass_13 : decode cL_pass 13 = .ok (.iconst 1, 1) := by decide +kernel
theorem dL_pass_14 : decode cL_pass 14 = .ok (.ireturn, 1) := by decide +kernel
theorem dL_pass_15 : decode cL_pass 15 = .ok (.iconst 0, 1) := by decide +kernel
theorem dL_pass_16 : decode cL_pass 16 = .ok (.ireturn, 1) := by decide +kernel
theorem dL_idAt_0 : decode cL_idAt 0 = .ok (.aload_n 2, 1) := by decide +kernel
theorem dL_idAt_1 : decode cL_idAt 1 = .ok (.iconst 0, 1) := by decide +kernel
theorem dL_idAt_2 : decode cL_idAt 2 = .ok (.aload_n 0, 1) := by decide +kernel
theorem dL_idAt_3 : decode cL_idAt 3 = .ok (.iload_n 1, 1) := by decide +kernel
theorem dL_idAt_4 : decode cL_idAt 4 = .ok (.invokevirtual 52, 3) := by decide +kernel
theorem dL_idAt_7 : decode cL_idAt 7 = .ok (.i2l, 1) := by decide +kernel
theorem dL_idAt_8 : decode cL_idAt 8 = .ok (.lastore, 1) := by decide +kernel
theorem dL_idAt_9 : decode cL_idAt 9 = .ok (.goto 6, 3) := by decide +kernel
theorem dL_idAt_12 : decode cL_idAt 12 = .ok (.astore_n 3, 1) := by decide +kernel
theorem dL_idAt_13 : decode cL_idAt 13 = .ok (.iconst 1, 1) := by decide +kernel
theorem dL_idAt_14 : decode cL_idAt 14 = .ok (.ireturn, 1) := by decide +kernel
theorem dL_idAt_15 : decode cL_idAt 15 = .ok (.iconst 0, 1) := by decide +kernel
theorem dL_idAt_16 : decode cL_idAt 16 = .ok (.ireturn, 1) := by decide +kernel
theorem dL_weightOf_0 : decode cL_weightOf 0 = .ok (.aload_n 2, 1) := by decide +kernel
theorem dL_weightOf_1 : decode cL_weightOf 1 = .ok (.iconst 0, 1) := by decide +kernel
theorem dL_weightOf_2 : decode cL_weightOf 2 = .ok (.aload_n 0, 1) := by decide +kernel
theorem dL_weightOf_3 : decode cL_weightOf 3 = .ok (.iload_n 1, 1) := by decide +kernel
theorem dL_weightOf_4 : decode cL_weightOf 4 = .ok (.invokevirtual 57, 3) := by decide +kernel
theorem dL_weightOf_7 : decode cL_weightOf 7 = .ok (.i2l, 1) := by decide +kernel
theorem dL_weightOf_8 : decode cL_weightOf 8 = .ok (.lastore, 1) := by decide +kernel
theorem dL_weightOf_9 : decode cL_weightOf 9 = .ok (.goto 6, 3) := by decide +kernel
theorem dL_weightOf_12 : decode cL_weightOf 12 = .ok (.astore_n 3, 1) := by decide +kernel
theorem dL_weightOf_13 : decode cL_weightOf 13 = .ok (.iconst 1, 1) := by decide +kernel
theorem dL_weightOf_14 : decode cL_weightOf 14 = .ok (.ireturn, 1) := by decide +kernel
theorem dL_weightOf_15 : decode cL_weightOf 15 = .ok (.iconst 0, 1) := by decide +kernel
theorem dL_weightOf_16 : decode cL_weightOf 16 = .ok (.ireturn, 1) := by decide +kernel
theorem dL_ageOf_0 : decode cL_ageOf 0 = .ok (.aload_n 2, 1) := by decide +kernel
theorem dL_ageOf_1 : decode cL_ageOf 1 = .ok (.iconst 0, 1) := by decide +kernel
theorem dL_ageOf_2 : decode cL_ageOf 2 = .ok (.aload_n 0, 1) := by decide +kernel
theorem dL_ageOf_3 : decode cL_ageOf 3 = .ok (.iload_n 1, 1) := by decide +kernel
theorem dL_ageOf_4 : decode cL_ageOf 4 = .ok (.invokevirtual 60, 3) := by decide +kernel
theorem dL_ageOf_7 : decode cL_ageOf 7 = .ok (.i2l, 1) := by decide +kernel
theorem dL_ageOf_8 : decode cL_ageOf 8 = .ok (.lastore, 1) := by decide +kernel
theorem dL_ageOf_9 : decode cL_ageOf 9 = .ok (.goto 6, 3) := by decide +kernel
theorem dL_ageOf_12 : decode cL_ageOf 12 = .ok (.astore_n 3, 1) := by decide +kernel
theorem dL_ageOf_13 : decode cL_ageOf 13 = .ok (.iconst 1, 1) := by decide +kernel
theorem dL_ageOf_14 : decode cL_ageOf 14 = .ok (.ireturn, 1) := by decide +kernel
theorem dL_ageOf_15 : decode cL_ageOf 15 = .ok (.iconst 0, 1) := by decide +kernel
theorem dL_ageOf_16 : decode cL_ageOf 16 = .ok (.ireturn, 1) := by decide +kernel
theorem dL_strengthOf_0 : decode cL_strengthOf 0 = .ok (.aload_n 2, 1) := by decide +kernel
theorem dL_strengthOf_1 : decode cL_strengthOf 1 = .ok (.iconst 0, 1) := by decide +kernel
theorem dL_strengthOf_2 : decode cL_strengthOf 2 = .ok (.aload_n 0, 1) := by decide +kernel
theorem dL_strengthOf_3 : decode cL_strengthOf 3 = .ok (.iload_n 1, 1) := by decide +kernel
theorem dL_strengthOf_4 : decode cL_strengthOf 4 = .ok (.invokevirtual 63, 3) := by decide +kernel
theorem dL_strengthOf_7 : decode cL_strengthOf 7 = .ok (.i2l, 1) := by decide +kernel
theorem dL_strengthOf_8 : decode cL_strengthOf 8 = .ok (.lastore, 1) := by decide +kernel
theorem dL_strengthOf_9 : decode cL_strengthOf 9 = .ok (.goto 6, 3) := by decide +kernel
theorem dL_strengthOf_12 : decode cL_strengthOf 12 = .ok (.astore_n 3, 1) := by decide +kernel
theorem dL_strengthOf_13 : decode cL_strengthOf 13 = .ok (.iconst 1, 1) := by decide +kernel
theorem dL_strengthOf_14 : decode cL_strengthOf 14 = .ok (.ireturn, 1) := by decide +kernel
theorem dL_strengthOf_15 : decode cL_strengthOf 15 = .ok (.iconst 0, 1) := by decide +kernel
theorem dL_strengthOf_16 : decode cL_strengthOf 16 = .ok (.ireturn, 1) := by decide +kernel
theorem dL_hasAttack_0 : decode cL_hasAttack 0 = .ok (.aload_n 3, 1) := by decide +kernel
theorem dL_hasAttack_1 : decode cL_hasAttack 1 = .ok (.iconst 0, 1) := by decide +kernel
theorem dL_hasAttack_2 : decode cL_hasAttack 2 = .ok (.aload_n 0, 1) := by decide +kernel
theorem dL_hasAttack_3 : decode cL_hasAttack 3 = .ok (.iload_n 1, 1) := by decide +kernel
theorem dL_hasAttack_4 : decode cL_hasAttack 4 = .ok (.iload_n 2, 1) := by decide +kernel
theorem dL_hasAttack_5 : decode cL_hasAttack 5 = .ok (.invokevirtual 66, 3) := by decide +kernel
theorem dL_hasAttack_8 : decode cL_hasAttack 8 = .ok (.ifCond .eq 7, 3) := by decide +kernel
theorem dL_hasAttack_11 : decode cL_hasAttack 11 = .ok (.lconst 1, 1) := by decide +kernel
theorem dL_hasAttack_12 : decode cL_hasAttack 12 = .ok (.goto 4, 3) := by decide +kernel
theorem dL_hasAttack_15 : decode cL_hasAttack 15 = .ok (.lconst 0, 1) := by decide +kernel
theorem dL_hasAttack_16 : decode cL_hasAttack 16 = .ok (.lastore, 1) := by decide +kernel
theorem dL_hasAttack_17 : decode cL_hasAttack 17 = .ok (.goto 7, 3) := by decide +kernel
theorem dL_hasAttack_20 : decode cL_hasAttack 20 = .ok (.astore 4, 2) := by decide +kernel
theorem dL_hasAttack_22 : decode cL_hasAttack 22 = .ok (.iconst 1, 1) := by decide +kernel
theorem dL_hasAttack_23 : decode cL_hasAttack 23 = .ok (.ireturn, 1) := by decide +kernel
theorem dL_hasAttack_24 : decode cL_hasAttack 24 = .ok (.iconst 0, 1) := by decide +kernel
theorem dL_hasAttack_25 : decode cL_hasAttack 25 = .ok (.ireturn, 1) := by decide +kernel
theorem dL_isSuccessful_0 : decode cL_isSuccessful 0 = .ok (.aload_n 3, 1) := by decide +kernel
theorem dL_isSuccessful_1 : decode cL_isSuccessful 1 = .ok (.iconst 0, 1) := by decide +kernel
theorem dL_isSuccessful_2 : decode cL_isSuccessful 2 = .ok (.aload_n 0, 1) := by decide +kernel
theorem dL_isSuccessful_3 : decode cL_isSuccessful 3 = .ok (.iload_n 1, 1) := by decide +kernel
theorem dL_isSuccessful_4 : decode cL_isSuccessful 4 = .ok (.iload_n 2, 1) := by decide +kernel
theorem dL_isSuccessful_5 : decode cL_isSuccessful 5 = .ok (.invokevirtual 70, 3) := by decide +kernel
theorem dL_isSuccessful_8 : decode cL_isSuccessful 8 = .ok (.ifCond .eq 7, 3) := by decide +kernel
theorem dL_isSuccessful_11 : decode cL_isSuccessful 11 = .ok (.lconst 1, 1) := by decide +kernel
theorem dL_isSuccessful_12 : decode cL_isSuccessful 12 = .ok (.goto 4, 3) := by decide +kernel
theorem dL_isSuccessful_15 : decode cL_isSuccessful 15 = .ok (.lconst 0, 1) := by decide +kernel
theorem dL_isSuccessful_16 : decode cL_isSuccessful 16 = .ok (.lastore, 1) := by decide +kernel
theorem dL_isSuccessful_17 : decode cL_isSuccessful 17 = .ok (.goto 7, 3) := by decide +kernel
theorem dL_isSuccessful_20 : decode cL_isSuccessful 20 = .ok (.astore 4, 2) := by decide +kernel
theorem dL_isSuccessful_22 : decode cL_isSuccessful 22 = .ok (.iconst 1, 1) := by decide +kernel
theorem dL_isSuccessful_23 : decode cL_isSuccessful 23 = .ok (.ireturn, 1) := by decide +kernel
theorem dL_isSuccessful_24 : decode cL_isSuccessful 24 = .ok (.iconst 0, 1) := by decide +kernel
theorem dL_isSuccessful_25 : decode cL_isSuccessful 25 = .ok (.ireturn, 1) := by decide +kernel
theorem dL_attackerCount_0 : decode cL_attackerCount 0 = .ok (.aload_n 2, 1) := by decide +kernel
theorem dL_attackerCount_1 : decode cL_attackerCount 1 = .ok (.iconst 0, 1) := by decide +kernel
theorem dL_attackerCount_2 : decode cL_attackerCount 2 = .ok (.aload_n 0, 1) := by decide +kernel
theorem dL_attackerCount_3 : decode cL_attackerCount 3 = .ok (.iload_n 1, 1) := by decide +kernel
theorem dL_attackerCount_4 : decode cL_attackerCount 4 = .ok (.invokevirtual 73, 3) := by decide +kernel
theorem dL_attackerCount_7 : decode cL_attackerCount 7 = .ok (.i2l, 1) := by decide +kernel
theorem dL_attackerCount_8 : decode cL_attackerCount 8 = .ok (.lastore, 1) := by decide +kernel
theorem dL_attackerCount_9 : decode cL_attackerCount 9 = .ok (.goto 6, 3) := by decide +kernel
theorem dL_attackerCount_12 : decode cL_attackerCount 12 = .ok (.astore_n 3, 1) := by decide +kernel
theorem dL_attackerCount_13 : decode cL_attackerCount 13 = .ok (.iconst 1, 1) := by decide +kernel
theorem dL_attackerCount_14 : decode cL_attackerCount 14 = .ok (.ireturn, 1) := by decide +kernel
theorem dL_attackerCount_15 : decode cL_attackerCount 15 = .ok (.iconst 0, 1) := by decide +kernel
theorem dL_attackerCount_16 : decode cL_attackerCount 16 = .ok (.ireturn, 1) := by decide +kernel
theorem dL_attackerAt_0 : decode cL_attackerAt 0 = .ok (.aload_n 3, 1) := by decide +kernel
theorem dL_attackerAt_1 : decode cL_attackerAt 1 = .ok (.iconst 0, 1) := by decide +kernel
theorem dL_attackerAt_2 : decode cL_attackerAt 2 = .ok (.aload_n 0, 1) := by decide +kernel
theorem dL_attackerAt_3 : decode cL_attackerAt 3 = .ok (.iload_n 1, 1) := by decide +kernel
theorem dL_attackerAt_4 : decode cL_attackerAt 4 = .ok (.iload_n 2, 1) := by decide +kernel
theorem dL_attackerAt_5 : decode cL_attackerAt 5 = .ok (.invokevirtual 76, 3) := by decide +kernel
theorem dL_attackerAt_8 : decode cL_attackerAt 8 = .ok (.i2l, 1) := by decide +kernel
theorem dL_attackerAt_9 : decode cL_attackerAt 9 = .ok (.lastore, 1) := by decide +kernel
theorem dL_attackerAt_10 : decode cL_attackerAt 10 = .ok (.goto 11, 3) := by decide +kernel
theorem dL_attackerAt_13 : decode cL_attackerAt 13 = .ok (.astore 4, 2) := by decide +kernel
theorem dL_attackerAt_15 : decode cL_attackerAt 15 = .ok (.iconst 1, 1) := by decide +kernel
theorem dL_attackerAt_16 : decode cL_attackerAt 16 = .ok (.ireturn, 1) := by decide +kernel
theorem dL_attackerAt_17 : decode cL_attackerAt 17 = .ok (.astore 4, 2) := by decide +kernel
theorem dL_attackerAt_19 : decode cL_attackerAt 19 = .ok (.iconst 2, 1) := by decide +kernel
theorem dL_attackerAt_20 : decode cL_attackerAt 20 = .ok (.ireturn, 1) := by decide +kernel
theorem dL_attackerAt_21 : decode cL_attackerAt 21 = .ok (.iconst 0, 1) := by decide +kernel
theorem dL_attackerAt_22 : decode cL_attackerAt 22 = .ok (.ireturn, 1) := by decide +kernel
theorem dL_status_0 : decode cL_status 0 = .ok (.aload_n 2, 1) := by decide +kernel
theorem dL_status_1 : decode cL_status 1 = .ok (.iconst 0, 1) := by decide +kernel
theorem dL_status_2 : decode cL_status 2 = .ok (.aload_n 0, 1) := by decide +kernel
theorem dL_status_3 : decode cL_status 3 = .ok (.iload_n 1, 1) := by decide +kernel
theorem dL_status_4 : decode cL_status 4 = .ok (.invokevirtual 79, 3) := by decide +kernel
theorem dL_status_7 : decode cL_status 7 = .ok (.i2l, 1) := by decide +kernel
theorem dL_status_8 : decode cL_status 8 = .ok (.lastore, 1) := by decide +kernel
theorem dL_status_9 : decode cL_status 9 = .ok (.goto 6, 3) := by decide +kernel
theorem dL_status_12 : decode cL_status 12 = .ok (.astore_n 3, 1) := by decide +kernel
theorem dL_status_13 : decode cL_status 13 = .ok (.iconst 1, 1) := by decide +kernel
theorem dL_status_14 : decode cL_status 14 = .ok (.ireturn, 1) := by decide +kernel
theorem dL_status_15 : decode cL_status 15 = .ok (.iconst 0, 1) := by decide +kernel
theorem dL_status_16 : decode cL_status 16 = .ok (.ireturn, 1) := by decide +kernel
theorem dL_roundOf_0 : decode cL_roundOf 0 = .ok (.aload_n 2, 1) := by decide +kernel
theorem dL_roundOf_1 : decode cL_roundOf 1 = .ok (.iconst 0, 1) := by decide +kernel
theorem dL_roundOf_2 : decode cL_roundOf 2 = .ok (.aload_n 0, 1) := by decide +kernel
theorem dL_roundOf_3 : decode cL_roundOf 3 = .ok (.iload_n 1, 1) := by decide +kernel
theorem dL_roundOf_4 : decode cL_roundOf 4 = .ok (.invokevirtual 83, 3) := by decide +kernel
theorem dL_roundOf_7 : decode cL_roundOf 7 = .ok (.i2l, 1) := by decide +kernel
theorem dL_roundOf_8 : decode cL_roundOf 8 = .ok (.lastore, 1) := by decide +kernel
theorem dL_roundOf_9 : decode cL_roundOf 9 = .ok (.goto 6, 3) := by decide +kernel
theorem dL_roundOf_12 : decode cL_roundOf 12 = .ok (.astore_n 3, 1) := by decide +kernel
theorem dL_roundOf_13 : decode cL_roundOf 13 = .ok (.iconst 1, 1) := by decide +kernel
theorem dL_roundOf_14 : decode cL_roundOf 14 = .ok (.ireturn, 1) := by decide +kernel
theorem dL_roundOf_15 : decode cL_roundOf 15 = .ok (.iconst 0, 1) := by decide +kernel
theorem dL_roundOf_16 : decode cL_roundOf 16 = .ok (.ireturn, 1) := by decide +kernel
theorem dL_isAcceptedByGame_0 : decode cL_isAcceptedByGame 0 = .ok (.aload_n 2, 1) := by decide +kernel
theorem dL_isAcceptedByGame_1 : decode cL_isAcceptedByGame 1 = .ok (.iconst 0, 1) := by decide +kernel
theorem dL_isAcceptedByGame_2 : decode cL_isAcceptedByGame 2 = .ok (.aload_n 0, 1) := by decide +kernel
theorem dL_isAcceptedByGame_3 : decode cL_isAcceptedByGame 3 = .ok (.iload_n 1, 1) := by decide +kernel
theorem dL_isAcceptedByGame_4 : decode cL_isAcceptedByGame 4 = .ok (.invokevirtual 86, 3) := by decide +kernel
theorem dL_isAcceptedByGame_7 : decode cL_isAcceptedByGame 7 = .ok (.ifCond .eq 7, 3) := by decide +kernel
theorem dL_isAcceptedByGame_10 : decode cL_isAcceptedByGame 10 = .ok (.lconst 1, 1) := by decide +kernel
theorem dL_isAcceptedByGame_11 : decode cL_isAcceptedByGame 11 = .ok (.goto 4, 3) := by decide +kernel
theorem dL_isAcceptedByGame_14 : decode cL_isAcceptedByGame 14 = .ok (.lconst 0, 1) := by decide +kernel
theorem dL_isAcceptedByGame_15 : decode cL_isAcceptedByGame 15 = .ok (.lastore, 1) := by decide +kernel
theorem dL_isAcceptedByGame_16 : decode cL_isAcceptedByGame 16 = .ok (.goto 6, 3) := by decide +kernel
theorem dL_isAcceptedByGame_19 : decode cL_isAcceptedByGame 19 = .ok (.astore_n 3, 1) := by decide +kernel
theorem dL_isAcceptedByGame_20 : decode cL_isAcceptedByGame 20 = .ok (.iconst 1, 1) := by decide +kernel
theorem dL_isAcceptedByGame_21 : decode cL_isAcceptedByGame 21 = .ok (.ireturn, 1) := by decide +kernel
theorem dL_isAcceptedByGame_22 : decode cL_isAcceptedByGame 22 = .ok (.iconst 0, 1) := by decide +kernel
theorem dL_isAcceptedByGame_23 : decode cL_isAcceptedByGame 23 = .ok (.ireturn, 1) := by decide +kernel
theorem dL_canOpponentWin_0 : decode cL_canOpponentWin 0 = .ok (.aload_n 2, 1) := by decide +kernel
theorem dL_canOpponentWin_1 : decode cL_canOpponentWin 1 = .ok (.iconst 0, 1) := by decide +kernel
theorem dL_canOpponentWin_2 : decode cL_canOpponentWin 2 = .ok (.aload_n 0, 1) := by decide +kernel
theorem dL_canOpponentWin_3 : decode cL_canOpponentWin 3 = .ok (.iload_n 1, 1) := by decide +kernel
theorem dL_canOpponentWin_4 : decode cL_canOpponentWin 4 = .ok (.invokevirtual 90, 3) := by decide +kernel
theorem dL_canOpponentWin_7 : decode cL_canOpponentWin 7 = .ok (.ifCond .eq 7, 3) := by decide +kernel
theorem dL_canOpponentWin_10 : decode cL_canOpponentWin 10 = .ok (.lconst 1, 1) := by decide +kernel
theorem dL_canOpponentWin_11 : decode cL_canOpponentWin 11 = .ok (.goto 4, 3) := by decide +kernel
theorem dL_canOpponentWin_14 : decode cL_canOpponentWin 14 = .ok (.lconst 0, 1) := by decide +kernel
theorem dL_canOpponentWin_15 : decode cL_canOpponentWin 15 = .ok (.lastore, 1) := by decide +kernel
theorem dL_canOpponentWin_16 : decode cL_canOpponentWin 16 = .ok (.goto 6, 3) := by decide +kernel
theorem dL_canOpponentWin_19 : decode cL_canOpponentWin 19 = .ok (.astore_n 3, 1) := by decide +kernel
theorem dL_canOpponentWin_20 : decode cL_canOpponentWin 20 = .ok (.iconst 1, 1) := by decide +kernel
theorem dL_canOpponentWin_21 : decode cL_canOpponentWin 21 = .ok (.ireturn, 1) := by decide +kernel
theorem dL_canOpponentWin_22 : decode cL_canOpponentWin 22 = .ok (.iconst 0, 1) := by decide +kernel
theorem dL_canOpponentWin_23 : decode cL_canOpponentWin 23 = .ok (.ireturn, 1) := by decide +kernel
theorem dL_isCredible_0 : decode cL_isCredible 0 = .ok (.aload_n 2, 1) := by decide +kernel
theorem dL_isCredible_1 : decode cL_isCredible 1 = .ok (.iconst 0, 1) := by decide +kernel
theorem dL_isCredible_2 : decode cL_isCredible 2 = .ok (.aload_n 0, 1) := by decide +kernel
theorem dL_isCredible_3 : decode cL_isCredible 3 = .ok (.iload_n 1, 1) := by decide +kernel
theorem dL_isCredible_4 : decode cL_isCredible 4 = .ok (.invokevirtual 93, 3) := by decide +kernel
theorem dL_isCredible_7 : decode cL_isCredible 7 = .ok (.ifCond .eq 7, 3) := by decide +kernel
theorem dL_isCredible_10 : decode cL_isCredible 10 = .ok (.lconst 1, 1) := by decide +kernel
theorem dL_isCredible_11 : decode cL_isCredible 11 = .ok (.goto 4, 3) := by decide +kernel
theorem dL_isCredible_14 : decode cL_isCredible 14 = .ok (.lconst 0, 1) := by decide +kernel
theorem dL_isCredible_15 : decode cL_isCredible 15 = .ok (.lastore, 1) := by decide +kernel
theorem dL_isCredible_16 : decode cL_isCredible 16 = .ok (.goto 6, 3) := by decide +kernel
theorem dL_isCredible_19 : decode cL_isCredible 19 = .ok (.astore_n 3, 1) := by decide +kernel
theorem dL_isCredible_20 : decode cL_isCredible 20 = .ok (.iconst 1, 1) := by decide +kernel
theorem dL_isCredible_21 : decode cL_isCredible 21 = .ok (.ireturn, 1) := by decide +kernel
theorem dL_isCredible_22 : decode cL_isCredible 22 = .ok (.iconst 0, 1) := by decide +kernel
theorem dL_isCredible_23 : decode cL_isCredible 23 = .ok (.ireturn, 1) := by decide +kernel
theorem dL_isCertain_0 : decode cL_isCertain 0 = .ok (.aload_n 2, 1) := by decide +kernel
theorem dL_isCertain_1 : decode cL_isCertain 1 = .ok (.iconst 0, 1) := by decide +kernel
theorem dL_isCertain_2 : decode cL_isCertain 2 = .ok (.aload_n 0, 1) := by decide +kernel
theorem dL_isCertain_3 : decode cL_isCertain 3 = .ok (.iload_n 1, 1) := by decide +kernel
theorem dL_isCertain_4 : decode cL_isCertain 4 = .ok (.invokevirtual 96, 3) := by decide +kernel
theorem dL_isCertain_7 : decode cL_isCertain 7 = .ok (.ifCond .eq 7, 3) := by decide +kernel
theorem dL_isCertain_10 : decode cL_isCertain 10 = .ok (.lconst 1, 1) := by decide +kernel
theorem dL_isCertain_11 : decode cL_isCertain 11 = .ok (.goto 4, 3) := by decide +kernel
theorem dL_isCertain_14 : decode cL_isCertain 14 = .ok (.lconst 0, 1) := by decide +kernel
theorem dL_isCertain_15 : decode cL_isCertain 15 = .ok (.lastore, 1) := by decide +kernel
theorem dL_isCertain_16 : decode cL_isCertain 16 = .ok (.goto 6, 3) := by decide +kernel
theorem dL_isCertain_19 : decode cL_isCertain 19 = .ok (.astore_n 3, 1) := by decide +kernel
theorem dL_isCertain_20 : decode cL_isCertain 20 = .ok (.iconst 1, 1) := by decide +kernel
theorem dL_isCertain_21 : decode cL_isCertain 21 = .ok (.ireturn, 1) := by decide +kernel
theorem dL_isCertain_22 : decode cL_isCertain 22 = .ok (.iconst 0, 1) := by decide +kernel
theorem dL_isCertain_23 : decode cL_isCertain 23 = .ok (.ireturn, 1) := by decide +kernel
theorem dL_canStandTogether_0 : decode cL_canStandTogether 0 = .ok (.aload_n 3, 1) := by decide +kernel
theorem dL_canStandTogether_1 : decode cL_canStandTogether 1 = .ok (.iconst 0, 1) := by decide +kernel
theorem dL_canStandTogether_2 : decode cL_canStandTogether 2 = .ok (.aload_n 0, 1) := by decide +kernel
theorem dL_canStandTogether_3 : decode cL_canStandTogether 3 = .ok (.iload_n 1, 1) := by decide +kernel
theorem dL_canStandTogether_4 : decode cL_canStandTogether 4 = .ok (.iload_n 2, 1) := by decide +kernel
theorem dL_canStandTogether_5 : decode cL_canStandTogether 5 = .ok (.invokevirtual 99, 3) := by decide +kernel
theorem dL_canStandTogether_8 : decode cL_canStandTogether 8 = .ok (.ifCond .eq 7, 3) := by decide +kernel
theorem dL_canStandTogether_11 : decode cL_canStandTogether 11 = .ok (.lconst 1, 1) := by decide +kernel
theorem dL_canStandTogether_12 : decode cL_canStandTogether 12 = .ok (.goto 4, 3) := by decide +kernel
theorem dL_canStandTogether_15 : decode cL_canStandTogether 15 = .ok (.lconst 0, 1) := by decide +kernel
theorem dL_canStandTogether_16 : decode cL_canStandTogether 16 = .ok (.lastore, 1) := by decide +kernel
theorem dL_canStandTogether_17 : decode cL_canStandTogether 17 = .ok (.goto 7, 3) := by decide +kernel
theorem dL_canStandTogether_20 : decode cL_canStandTogether 20 = .ok (.astore 4, 2) := by decide +kernel
theorem dL_canStandTogether_22 : decode cL_canStandTogether 22 = .ok (.iconst 1, 1) := by decide +kernel
theorem dL_canStandTogether_23 : decode cL_canStandTogether 23 = .ok (.ireturn, 1) := by decide +kernel
theorem dL_canStandTogether_24 : decode cL_canStandTogether 24 = .ok (.iconst 0, 1) := by decide +kernel
theorem dL_canStandTogether_25 : decode cL_canStandTogether 25 = .ok (.ireturn, 1) := by decide +kernel
theorem dL_daysUntilChange_0 : decode cL_daysUntilChange 0 = .ok (.aload_n 1, 1) := by decide +kernel
theorem dL_daysUntilChange_1 : decode cL_daysUntilChange 1 = .ok (.iconst 0, 1) := by decide +kernel
theorem dL_daysUntilChange_2 : decode cL_daysUntilChange 2 = .ok (.aload_n 0, 1) := by decide +kernel
theorem dL_daysUntilChange_3 : decode cL_daysUntilChange 3 = .ok (.invokevirtual 102, 3) := by decide +kernel
theorem dL_daysUntilChange_6 : decode cL_daysUntilChange 6 = .ok (.i2l, 1) := by decide +kernel
theorem dL_daysUntilChange_7 : decode cL_daysUntilChange 7 = .ok (.lastore, 1) := by decide +kernel
theorem dL_daysUntilChange_8 : decode cL_daysUntilChange 8 = .ok (.goto 6, 3) := by decide +kernel
theorem dL_daysUntilChange_11 : decode cL_daysUntilChange 11 = .ok (.astore_n 2, 1) := by decide +kernel
theorem dL_daysUntilChange_12 : decode cL_daysUntilChange 12 = .ok (.iconst 1, 1) := by decide +kernel
theorem dL_daysUntilChange_13 : decode cL_daysUntilChange 13 = .ok (.ireturn, 1) := by decide +kernel
theorem dL_daysUntilChange_14 : decode cL_daysUntilChange 14 = .ok (.iconst 0, 1) := by decide +kernel
theorem dL_daysUntilChange_15 : decode cL_daysUntilChange 15 = .ok (.ireturn, 1) := by decide +kernel
theorem dL_statusAfter_0 : decode cL_statusAfter 0 = .ok (.aload_n 3, 1) := by decide +kernel
theorem dL_statusAfter_1 : decode cL_statusAfter 1 = .ok (.iconst 0, 1) := by decide +kernel
theorem dL_statusAfter_2 : decode cL_statusAfter 2 = .ok (.aload_n 0, 1) := by decide +kernel
theorem dL_statusAfter_3 : decode cL_statusAfter 3 = .ok (.iload_n 1, 1) := by decide +kernel
theorem dL_statusAfter_4 : decode cL_statusAfter 4 = .ok (.iload_n 2, 1) := by decide +kernel
theorem dL_statusAfter_5 : decode cL_statusAfter 5 = .ok (.invokevirtual 105, 3) := by decide +kernel
theorem dL_statusAfter_8 : decode cL_statusAfter 8 = .ok (.i2l, 1) := by decide +kernel
theorem dL_statusAfter_9 : decode cL_statusAfter 9 = .ok (.lastore, 1) := by decide +kernel
theorem dL_statusAfter_10 : decode cL_statusAfter 10 = .ok (.goto 11, 3) := by decide +kernel
theorem dL_statusAfter_13 : decode cL_statusAfter 13 = .ok (.astore 4, 2) := by decide +kernel
theorem dL_statusAfter_15 : decode cL_statusAfter 15 = .ok (.iconst 1, 1) := by decide +kernel
theorem dL_statusAfter_16 : decode cL_statusAfter 16 = .ok (.ireturn, 1) := by decide +kernel
theorem dL_statusAfter_17 : decode cL_statusAfter 17 = .ok (.astore 4, 2) := by decide +kernel
theorem dL_statusAfter_19 : decode cL_statusAfter 19 = .ok (.iconst 2, 1) := by decide +kernel
theorem dL_statusAfter_20 : decode cL_statusAfter 20 = .ok (.ireturn, 1) := by decide +kernel
theorem dL_statusAfter_21 : decode cL_statusAfter 21 = .ok (.iconst 0, 1) := by decide +kernel
theorem dL_statusAfter_22 : decode cL_statusAfter 22 = .ok (.ireturn, 1) := by decide +kernel
theorem dL_argumentByStrength_0 : decode cL_argumentByStrength 0 = .ok (.aload_n 2, 1) := by decide +kernel
theorem dL_argumentByStrength_1 : decode cL_argumentByStrength 1 = .ok (.iconst 0, 1) := by decide +kernel
theorem dL_argumentByStrength_2 : decode cL_argumentByStrength 2 = .ok (.aload_n 0, 1) := by decide +kernel
theorem dL_argumentByStrength_3 : decode cL_argumentByStrength 3 = .ok (.iload_n 1, 1) := by decide +kernel
theorem dL_argumentByStrength_4 : decode cL_argumentByStrength 4 = .ok (.invokevirtual 109, 3) := by decide +kernel
theorem dL_argumentByStrength_7 : decode cL_argumentByStrength 7 = .ok (.i2l, 1) := by decide +kernel
theorem dL_argumentByStrength_8 : decode cL_argumentByStrength 8 = .ok (.lastore, 1) := by decide +kernel
theorem dL_argumentByStrength_9 : decode cL_argumentByStrength 9 = .ok (.goto 6, 3) := by decide +kernel
theorem dL_argumentByStrength_12 : decode cL_argumentByStrength 12 = .ok (.astore_n 3, 1) := by decide +kernel
theorem dL_argumentByStrength_13 : decode cL_argumentByStrength 13 = .ok (.iconst 1, 1) := by decide +kernel
theorem dL_argumentByStrength_14 : decode cL_argumentByStrength 14 = .ok (.ireturn, 1) := by decide +kernel
theorem dL_argumentByStrength_15 : decode cL_argumentByStrength 15 = .ok (.iconst 0, 1) := by decide +kernel
theorem dL_argumentByStrength_16 : decode cL_argumentByStrength 16 = .ok (.ireturn, 1) := by decide +kernel
theorem dL_moveAt_0 : decode cL_moveAt 0 = .ok (.aload_n 2, 1) := by decide +kernel
theorem dL_moveAt_1 : decode cL_moveAt 1 = .ok (.iconst 0, 1) := by decide +kernel
theorem dL_moveAt_2 : decode cL_moveAt 2 = .ok (.aload_n 0, 1) := by decide +kernel
theorem dL_moveAt_3 : decode cL_moveAt 3 = .ok (.iload_n 1, 1) := by decide +kernel
theorem dL_moveAt_4 : decode cL_moveAt 4 = .ok (.invokevirtual 112, 3) := by decide +kernel
theorem dL_moveAt_7 : decode cL_moveAt 7 = .ok (.i2l, 1) := by decide +kernel
theorem dL_moveAt_8 : decode cL_moveAt 8 = .ok (.lastore, 1) := by decide +kernel
theorem dL_moveAt_9 : decode cL_moveAt 9 = .ok (.goto 6, 3) := by decide +kernel
theorem dL_moveAt_12 : decode cL_moveAt 12 = .ok (.astore_n 3, 1) := by decide +kernel
theorem dL_moveAt_13 : decode cL_moveAt 13 = .ok (.iconst 1, 1) := by decide +kernel
theorem dL_moveAt_14 : decode cL_moveAt 14 = .ok (.ireturn, 1) := by decide +kernel
theorem dL_moveAt_15 : decode cL_moveAt 15 = .ok (.iconst 0, 1) := by decide +kernel
theorem dL_moveAt_16 : decode cL_moveAt 16 = .ok (.ireturn, 1) := by decide +kernel
theorem dL_canMove_0 : decode cL_canMove 0 = .ok (.aload_n 2, 1) := by decide +kernel
theorem dL_canMove_1 : decode cL_canMove 1 = .ok (.iconst 0, 1) := by decide +kernel
theorem dL_canMove_2 : decode cL_canMove 2 = .ok (.aload_n 0, 1) := by decide +kernel
theorem dL_canMove_3 : decode cL_canMove 3 = .ok (.iload_n 1, 1) := by decide +kernel
theorem dL_canMove_4 : decode cL_canMove 4 = .ok (.invokevirtual 115, 3) := by decide +kernel
theorem dL_canMove_7 : decode cL_canMove 7 = .ok (.ifCond .eq 7, 3) := by decide +kernel
theorem dL_canMove_10 : decode cL_canMove 10 = .ok (.lconst 1, 1) := by decide +kernel
theorem dL_canMove_11 : decode cL_canMove 11 = .ok (.goto 4, 3) := by decide +kernel
theorem dL_canMove_14 : decode cL_canMove 14 = .ok (.lconst 0, 1) := by decide +kernel
theorem dL_canMove_15 : decode cL_canMove 15 = .ok (.lastore, 1) := by decide +kernel
theorem dL_canMove_16 : decode cL_canMove 16 = .ok (.goto 6, 3) := by decide +kernel
theorem dL_canMove_19 : decode cL_canMove 19 = .ok (.astore_n 3, 1) := by decide +kernel
theorem dL_canMove_20 : decode cL_canMove 20 = .ok (.iconst 1, 1) := by decide +kernel
theorem dL_canMove_21 : decode cL_canMove 21 = .ok (.ireturn, 1) := by decide +kernel
theorem dL_canMove_22 : decode cL_canMove 22 = .ok (.iconst 0, 1) := by decide +kernel
theorem dL_canMove_23 : decode cL_canMove 23 = .ok (.ireturn, 1) := by decide +kernel
theorem dL_meanStrength_0 : decode cL_meanStrength 0 = .ok (.aload_n 1, 1) := by decide +kernel
theorem dL_meanStrength_1 : decode cL_meanStrength 1 = .ok (.iconst 0, 1) := by decide +kernel
theorem dL_meanStrength_2 : decode cL_meanStrength 2 = .ok (.aload_n 0, 1) := by decide +kernel
theorem dL_meanStrength_3 : decode cL_meanStrength 3 = .ok (.invokevirtual 118, 3) := by decide +kernel
theorem dL_meanStrength_6 : decode cL_meanStrength 6 = .ok (.dastore, 1) := by decide +kernel
theorem dL_meanStrength_7 : decode cL_meanStrength 7 = .ok (.goto 6, 3) := by decide +kernel
theorem dL_meanStrength_10 : decode cL_meanStrength 10 = .ok (.astore_n 2, 1) := by decide +kernel
theorem dL_meanStrength_11 : decode cL_meanStrength 11 = .ok (.iconst 1, 1) := by decide +kernel
theorem dL_meanStrength_12 : decode cL_meanStrength 12 = .ok (.ireturn, 1) := by decide +kernel
theorem dL_meanStrength_13 : decode cL_meanStrength 13 = .ok (.iconst 0, 1) := by decide +kernel
theorem dL_meanStrength_14 : decode cL_meanStrength 14 = .ok (.ireturn, 1) := by decide +kernel
theorem dL_acceptedShare_0 : decode cL_acceptedShare 0 = .ok (.aload_n 1, 1) := by decide +kernel
theorem dL_acceptedShare_1 : decode cL_acceptedShare 1 = .ok (.iconst 0, 1) := by decide +kernel
theorem dL_acceptedShare_2 : decode cL_acceptedShare 2 = .ok (.aload_n 0, 1) := by decide +kernel
theorem dL_acceptedShare_3 : decode cL_acceptedShare 3 = .ok (.invokevirtual 124, 3) := by decide +kernel
theorem dL_acceptedShare_6 : decode cL_acceptedShare 6 = .ok (.f2d, 1) := by decide +kernel
theorem dL_acceptedShare_7 : decode cL_acceptedShare 7 = .ok (.dastore, 1) := by decide +kernel
theorem dL_acceptedShare_8 : decode cL_acceptedShare 8 = .ok (.goto 6, 3) := by decide +kernel
theorem dL_acceptedShare_11 : decode cL_acceptedShare 11 = .ok (.astore_n 2, 1) := by decide +kernel
theorem dL_acceptedShare_12 : decode cL_acceptedShare 12 = .ok (.iconst 1, 1) := by decide +kernel
theorem dL_acceptedShare_13 : decode cL_acceptedShare 13 = .ok (.ireturn, 1) := by decide +kernel
theorem dL_acceptedShare_14 : decode cL_acceptedShare 14 = .ok (.iconst 0, 1) := by decide +kernel
theorem dL_acceptedShare_15 : decode cL_acceptedShare 15 = .ok (.ireturn, 1) := by decide +kernel
theorem dL_formatArgument_0 : decode cL_formatArgument 0 = .ok (.aload_n 2, 1) := by decide +kernel
theorem dL_formatArgument_1 : decode cL_formatArgument 1 = .ok (.iconst 0, 1) := by decide +kernel
theorem dL_formatArgument_2 : decode cL_formatArgument 2 = .ok (.aload_n 0, 1) := by decide +kernel
theorem dL_formatArgument_3 : decode cL_formatArgument 3 = .ok (.iload_n 1, 1) := by decide +kernel
theorem dL_formatArgument_4 : decode cL_formatArgument 4 = .ok (.invokevirtual 128, 3) := by decide +kernel
theorem dL_formatArgument_7 : decode cL_formatArgument 7 = .ok (.i2l, 1) := by decide +kernel
theorem dL_formatArgument_8 : decode cL_formatArgument 8 = .ok (.lastore, 1) := by decide +kernel
theorem dL_formatArgument_9 : decode cL_formatArgument 9 = .ok (.goto 6, 3) := by decide +kernel
theorem dL_formatArgument_12 : decode cL_formatArgument 12 = .ok (.astore_n 3, 1) := by decide +kernel
theorem dL_formatArgument_13 : decode cL_formatArgument 13 = .ok (.iconst 1, 1) := by decide +kernel
theorem dL_formatArgument_14 : decode cL_formatArgument 14 = .ok (.ireturn, 1) := by decide +kernel
theorem dL_formatArgument_15 : decode cL_formatArgument 15 = .ok (.iconst 0, 1) := by decide +kernel
theorem dL_formatArgument_16 : decode cL_formatArgument 16 = .ok (.ireturn, 1) := by decide +kernel
theorem dL_formatDialogue_0 : decode cL_formatDialogue 0 = .ok (.aload_n 1, 1) := by decide +kernel
theorem dL_formatDialogue_1 : decode cL_formatDialogue 1 = .ok (.iconst 0, 1) := by decide +kernel
theorem dL_formatDialogue_2 : decode cL_formatDialogue 2 = .ok (.aload_n 0, 1) := by decide +kernel
theorem dL_formatDialogue_3 : decode cL_formatDialogue 3 = .ok (.invokevirtual 131, 3) := by decide +kernel
theorem dL_formatDialogue_6 : decode cL_formatDialogue 6 = .ok (.i2l, 1) := by decide +kernel
theorem dL_formatDialogue_7 : decode cL_formatDialogue 7 = .ok (.lastore, 1) := by decide +kernel
theorem dL_formatDialogue_8 : decode cL_formatDialogue 8 = .ok (.goto 6, 3) := by decide +kernel
theorem dL_formatDialogue_11 : decode cL_formatDialogue 11 = .ok (.astore_n 2, 1) := by decide +kernel
theorem dL_formatDialogue_12 : decode cL_formatDialogue 12 = .ok (.iconst 1, 1) := by decide +kernel
theorem dL_formatDialogue_13 : decode cL_formatDialogue 13 = .ok (.ireturn, 1) := by decide +kernel
theorem dL_formatDialogue_14 : decode cL_formatDialogue 14 = .ok (.iconst 0, 1) := by decide +kernel
theorem dL_formatDialogue_15 : decode cL_formatDialogue 15 = .ok (.ireturn, 1) := by decide +kernel
theorem dL_lineChar_0 : decode cL_lineChar 0 = .ok (.aload_n 2, 1) := by decide +kernel
theorem dL_lineChar_1 : decode cL_lineChar 1 = .ok (.iconst 0, 1) := by decide +kernel
theorem dL_lineChar_2 : decode cL_lineChar 2 = .ok (.aload_n 0, 1) := by decide +kernel
theorem dL_lineChar_3 : decode cL_lineChar 3 = .ok (.iload_n 1, 1) := by decide +kernel
theorem dL_lineChar_4 : decode cL_lineChar 4 = .ok (.invokevirtual 134, 3) := by decide +kernel
theorem dL_lineChar_7 : decode cL_lineChar 7 = .ok (.i2l, 1) := by decide +kernel
theorem dL_lineChar_8 : decode cL_lineChar 8 = .ok (.lastore, 1) := by decide +kernel
theorem dL_lineChar_9 : decode cL_lineChar 9 = .ok (.goto 6, 3) := by decide +kernel
theorem dL_lineChar_12 : decode cL_lineChar 12 = .ok (.astore_n 3, 1) := by decide +kernel
theorem dL_lineChar_13 : decode cL_lineChar 13 = .ok (.iconst 1, 1) := by decide +kernel
theorem dL_lineChar_14 : decode cL_lineChar 14 = .ok (.ireturn, 1) := by decide +kernel
theorem dL_lineChar_15 : decode cL_lineChar 15 = .ok (.iconst 0, 1) := by decide +kernel
theorem dL_lineChar_16 : decode cL_lineChar 16 = .ok (.ireturn, 1) := by decide +kernel
theorem dL_append_0 : decode cL_append 0 = .ok (.aload_n 2, 1) := by decide +kernel
theorem dL_append_1 : decode cL_append 1 = .ok (.iconst 0, 1) := by decide +kernel
theorem dL_append_2 : decode cL_append 2 = .ok (.aload_n 0, 1) := by decide +kernel
theorem dL_append_3 : decode cL_append 3 = .ok (.iload_n 1, 1) := by decide +kernel
theorem dL_append_4 : decode cL_append 4 = .ok (.invokevirtual 137, 3) := by decide +kernel
theorem dL_append_7 : decode cL_append 7 = .ok (.i2l, 1) := by decide +kernel
theorem dL_append_8 : decode cL_append 8 = .ok (.lastore, 1) := by decide +kernel
theorem dL_append_9 : decode cL_append 9 = .ok (.goto 9, 3) := by decide +kernel
theorem dL_append_12 : decode cL_append 12 = .ok (.astore_n 3, 1) := by decide +kernel
theorem dL_append_13 : decode cL_append 13 = .ok (.iconst 1, 1) := by decide +kernel
theorem dL_append_14 : decode cL_append 14 = .ok (.ireturn, 1) := by decide +kernel
theorem dL_append_15 : decode cL_append 15 = .ok (.astore_n 3, 1) := by decide +kernel
theorem dL_append_16 : decode cL_append 16 = .ok (.iconst 2, 1) := by decide +kernel
theorem dL_append_17 : decode cL_append 17 = .ok (.ireturn, 1) := by decide +kernel
theorem dL_append_18 : decode cL_append 18 = .ok (.iconst 0, 1) := by decide +kernel
theorem dL_append_19 : decode cL_append 19 = .ok (.ireturn, 1) := by decide +kernel
theorem dL_run_0 : decode cL_run 0 = .ok (.aload_n 1, 1) := by decide +kernel
theorem dL_run_1 : decode cL_run 1 = .ok (.iconst 0, 1) := by decide +kernel
theorem dL_run_2 : decode cL_run 2 = .ok (.aload_n 0, 1) := by decide +kernel
theorem dL_run_3 : decode cL_run 3 = .ok (.invokevirtual 141, 3) := by decide +kernel
theorem dL_run_6 : decode cL_run 6 = .ok (.i2l, 1) := by decide +kernel
theorem dL_run_7 : decode cL_run 7 = .ok (.lastore, 1) := by decide +kernel
theorem dL_run_8 : decode cL_run 8 = .ok (.goto 9, 3) := by decide +kernel
theorem dL_run_11 : decode cL_run 11 = .ok (.astore_n 2, 1) := by decide +kernel
theorem dL_run_12 : decode cL_run 12 = .ok (.iconst 1, 1) := by decide +kernel
theorem dL_run_13 : decode cL_run 13 = .ok (.ireturn, 1) := by decide +kernel
theorem dL_run_14 : decode cL_run 14 = .ok (.astore_n 2, 1) := by decide +kernel
theorem dL_run_15 : decode cL_run 15 = .ok (.iconst 2, 1) := by decide +kernel
theorem dL_run_16 : decode cL_run 16 = .ok (.ireturn, 1) := by decide +kernel
theorem dL_run_17 : decode cL_run 17 = .ok (.iconst 0, 1) := by decide +kernel
theorem dL_run_18 : decode cL_run 18 = .ok (.ireturn, 1) := by decide +kernel
theorem dL_errorPosition_0 : decode cL_errorPosition 0 = .ok (.aload_n 1, 1) := by decide +kernel
theorem dL_errorPosition_1 : decode cL_errorPosition 1 = .ok (.iconst 0, 1) := by decide +kernel
theorem dL_errorPosition_2 : decode cL_errorPosition 2 = .ok (.aload_n 0, 1) := by decide +kernel
theorem dL_errorPosition_3 : decode cL_errorPosition 3 = .ok (.invokevirtual 144, 3) := by decide +kernel
theorem dL_errorPosition_6 : decode cL_errorPosition 6 = .ok (.i2l, 1) := by decide +kernel
theorem dL_errorPosition_7 : decode cL_errorPosition 7 = .ok (.lastore, 1) := by decide +kernel
theorem dL_errorPosition_8 : decode cL_errorPosition 8 = .ok (.goto 6, 3) := by decide +kernel
theorem dL_errorPosition_11 : decode cL_errorPosition 11 = .ok (.astore_n 2, 1) := by decide +kernel
theorem dL_errorPosition_12 : decode cL_errorPosition 12 = .ok (.iconst 1, 1) := by decide +kernel
theorem dL_errorPosition_13 : decode cL_errorPosition 13 = .ok (.ireturn, 1) := by decide +kernel
theorem dL_errorPosition_14 : decode cL_errorPosition 14 = .ok (.iconst 0, 1) := by decide +kernel
theorem dL_errorPosition_15 : decode cL_errorPosition 15 = .ok (.ireturn, 1) := by decide +kernel
theorem dL_failedCommand_0 : decode cL_failedCommand 0 = .ok (.aload_n 1, 1) := by decide +kernel
theorem dL_failedCommand_1 : decode cL_failedCommand 1 = .ok (.iconst 0, 1) := by decide +kernel
theorem dL_failedCommand_2 : decode cL_failedCommand 2 = .ok (.aload_n 0, 1) := by decide +kernel
theorem dL_failedCommand_3 : decode cL_failedCommand 3 = .ok (.invokevirtual 147, 3) := by decide +kernel
theorem dL_failedCommand_6 : decode cL_failedCommand 6 = .ok (.i2l, 1) := by decide +kernel
theorem dL_failedCommand_7 : decode cL_failedCommand 7 = .ok (.lastore, 1) := by decide +kernel
theorem dL_failedCommand_8 : decode cL_failedCommand 8 = .ok (.goto 6, 3) := by decide +kernel
theorem dL_failedCommand_11 : decode cL_failedCommand 11 = .ok (.astore_n 2, 1) := by decide +kernel
theorem dL_failedCommand_12 : decode cL_failedCommand 12 = .ok (.iconst 1, 1) := by decide +kernel
theorem dL_failedCommand_13 : decode cL_failedCommand 13 = .ok (.ireturn, 1) := by decide +kernel
theorem dL_failedCommand_14 : decode cL_failedCommand 14 = .ok (.iconst 0, 1) := by decide +kernel
theorem dL_failedCommand_15 : decode cL_failedCommand 15 = .ok (.ireturn, 1) := by decide +kernel
theorem dL_undo_0 : decode cL_undo 0 = .ok (.aload_n 1, 1) := by decide +kernel
theorem dL_undo_1 : decode cL_undo 1 = .ok (.iconst 0, 1) := by decide +kernel
theorem dL_undo_2 : decode cL_undo 2 = .ok (.aload_n 0, 1) := by decide +kernel
theorem dL_undo_3 : decode cL_undo 3 = .ok (.invokevirtual 150, 3) := by decide +kernel
theorem dL_undo_6 : decode cL_undo 6 = .ok (.i2l, 1) := by decide +kernel
theorem dL_undo_7 : decode cL_undo 7 = .ok (.lastore, 1) := by decide +kernel
theorem dL_undo_8 : decode cL_undo 8 = .ok (.goto 6, 3) := by decide +kernel
theorem dL_undo_11 : decode cL_undo 11 = .ok (.astore_n 2, 1) := by decide +kernel
theorem dL_undo_12 : decode cL_undo 12 = .ok (.iconst 1, 1) := by decide +kernel
theorem dL_undo_13 : decode cL_undo 13 = .ok (.ireturn, 1) := by decide +kernel
theorem dL_undo_14 : decode cL_undo 14 = .ok (.iconst 0, 1) := by decide +kernel
theorem dL_undo_15 : decode cL_undo 15 = .ok (.ireturn, 1) := by decide +kernel
theorem dL_restore_0 : decode cL_restore 0 = .ok (.aload_n 1, 1) := by decide +kernel
theorem dL_restore_1 : decode cL_restore 1 = .ok (.iconst 0, 1) := by decide +kernel
theorem dL_restore_2 : decode cL_restore 2 = .ok (.aload_n 0, 1) := by decide +kernel
theorem dL_restore_3 : decode cL_restore 3 = .ok (.invokevirtual 153, 3) := by decide +kernel
theorem dL_restore_6 : decode cL_restore 6 = .ok (.i2l, 1) := by decide +kernel
theorem dL_restore_7 : decode cL_restore 7 = .ok (.lastore, 1) := by decide +kernel
theorem dL_restore_8 : decode cL_restore 8 = .ok (.goto 6, 3) := by decide +kernel
theorem dL_restore_11 : decode cL_restore 11 = .ok (.astore_n 2, 1) := by decide +kernel
theorem dL_restore_12 : decode cL_restore 12 = .ok (.iconst 1, 1) := by decide +kernel
theorem dL_restore_13 : decode cL_restore 13 = .ok (.ireturn, 1) := by decide +kernel
theorem dL_restore_14 : decode cL_restore 14 = .ok (.iconst 0, 1) := by decide +kernel
theorem dL_restore_15 : decode cL_restore 15 = .ok (.ireturn, 1) := by decide +kernel
theorem dL_law_0 : decode cL_law 0 = .ok (.new 8, 3) := by decide +kernel
theorem dL_law_3 : decode cL_law 3 = .ok (.dup, 1) := by decide +kernel
theorem dL_law_4 : decode cL_law 4 = .ok (.invokespecial 156, 3) := by decide +kernel
theorem dL_law_7 : decode cL_law 7 = .ok (.astore_n 1, 1) := by decide +kernel
theorem dL_law_8 : decode cL_law 8 = .ok (.new 157, 3) := by decide +kernel
theorem dL_law_11 : decode cL_law 11 = .ok (.dup, 1) := by decide +kernel
theorem dL_law_12 : decode cL_law 12 = .ok (.invokespecial 159, 3) := by decide +kernel
theorem dL_law_15 : decode cL_law 15 = .ok (.astore_n 2, 1) := by decide +kernel
theorem dL_law_16 : decode cL_law 16 = .ok (.iconst 1, 1) := by decide +kernel
theorem dL_law_17 : decode cL_law 17 = .ok (.newarray .long, 2) := by decide +kernel
theorem dL_law_19 : decode cL_law 19 = .ok (.astore_n 3, 1) := by decide +kernel
theorem dL_law_20 : decode cL_law 20 = .ok (.iconst 1, 1) := by decide +kernel
theorem dL_law_21 : decode cL_law 21 = .ok (.newarray .double, 2) := by decide +kernel
theorem dL_law_23 : decode cL_law 23 = .ok (.astore 4, 2) := by decide +kernel
theorem dL_law_25 : decode cL_law 25 = .ok (.iconst 0, 1) := by decide +kernel
theorem dL_law_26 : decode cL_law 26 = .ok (.istore 5, 2) := by decide +kernel
theorem dL_law_28 : decode cL_law 28 = .ok (.iload 5, 2) := by decide +kernel
theorem dL_law_30 : decode cL_law 30 = .ok (.aload_n 0, 1) := by decide +kernel
theorem dL_law_31 : decode cL_law 31 = .ok (.arraylength, 1) := by decide +kernel
theorem dL_law_32 : decode cL_law 32 = .ok (.iconst 3, 1) := by decide +kernel
theorem dL_law_33 : decode cL_law 33 = .ok (.isub, 1) := by decide +kernel
theorem dL_law_34 : decode cL_law 34 = .ok (.if_icmp .gt 2957, 3) := by decide +kernel
theorem dL_law_37 : decode cL_law 37 = .ok (.aload_n 0, 1) := by decide +kernel
theorem dL_law_38 : decode cL_law 38 = .ok (.iload 5, 2) := by decide +kernel
theorem dL_law_40 : decode cL_law 40 = .ok (.iaload, 1) := by decide +kernel
theorem dL_law_41 : decode cL_law 41 = .ok (.bipush 63, 2) := by decide +kernel
theorem dL_law_43 : decode cL_law 43 = .ok (.iand, 1) := by decide +kernel
theorem dL_law_44 : decode cL_law 44 = .ok (.tableswitch 2941 0 61 #[264, 320, 376, 444, 512, 580, 636, 692, 748, 792, 836, 892, 905, 918, 974, 1030, 1086, 1142, 1155, 1230, 1305, 1318, 1374, 1442, 1498, 1554, 1617, 1680, 1693, 1706, 1719, 1732, 1745, 1758, 1821, 1884, 1959, 1972, 1985, 2029, 2097, 2153, 2166, 2179, 2235, 2298, 2311, 2324, 2337, 2402, 2468, 2481, 2537, 2581, 2637, 2695, 2739, 2783, 2827, 2840, 2884, 2897], 264) := by decide +kernel
theorem dL_law_308 : decode cL_law 308 = .ok (.aload_n 1, 1) := by decide +kernel
theorem dL_law_309 : decode cL_law 309 = .ok (.aload_n 0, 1) := by decide +kernel
theorem dL_law_310 : decode cL_law 310 = .ok (.iload 5, 2) := by decide +kernel
theorem dL_law_312 : decode cL_law 312 = .ok (.iconst 1, 1) := by decide +kernel
theorem dL_law_313 : decode cL_law 313 = .ok (.iadd, 1) := by decide +kernel
theorem dL_law_314 : decode cL_law 314 = .ok (.iaload, 1) := by decide +kernel
theorem dL_law_315 : decode cL_law 315 = .ok (.aload_n 3, 1) := by decide +kernel
theorem dL_law_316 : decode cL_law 316 = .ok (.invokestatic 160, 3) := by decide +kernel
theorem dL_law_319 : decode cL_law 319 = .ok (.istore 6, 2) := by decide +kernel
theorem dL_law_321 : decode cL_law 321 = .ok (.aload_n 2, 1) := by decide +kernel
theorem dL_law_322 : decode cL_law 322 = .ok (.aload_n 0, 1) := by decide +kernel
theorem dL_law_323 : decode cL_law 323 = .ok (.iload 5, 2) := by decide +kernel
theorem dL_law_325 : decode cL_law 325 = .ok (.iconst 1, 1) := by decide +kernel
theorem dL_law_326 : decode cL_law 326 = .ok (.iadd, 1) := by decide +kernel
theorem dL_law_327 : decode cL_law 327 = .ok (.iaload, 1) := by decide +kernel
theorem dL_law_328 : decode cL_law 328 = .ok (.invokevirtual 165, 3) := by decide +kernel
theorem dL_law_331 : decode cL_law 331 = .ok (.istore 7, 2) := by decide +kernel
theorem dL_law_333 : decode cL_law 333 = .ok (.aload_n 2, 1) := by decide +kernel
theorem dL_law_334 : decode cL_law 334 = .ok (.invokevirtual 166, 3) := by decide +kernel
theorem dL_law_337 : decode cL_law 337 = .ok (.iload 6, 2) := by decide +kernel
theorem dL_law_339 : decode cL_law 339 = .ok (.if_icmp .eq 5, 3) := by decide +kernel
theorem dL_law_342 : decode cL_law 342 = .ok (.iconst 0, 1) := by decide +kernel
theorem dL_law_343 : decode cL_law 343 = .ok (.ireturn, 1) := by decide +kernel
theorem dL_law_344 : decode cL_law 344 = .ok (.iload 6, 2) := by decide +kernel
theorem dL_law_346 : decode cL_law 346 = .ok (.ifCond .ne 15, 3) := by decide +kernel
theorem dL_law_349 : decode cL_law 349 = .ok (.aload_n 3, 1) := by decide +kernel
theorem dL_law_350 : decode cL_law 350 = .ok (.iconst 0, 1) := by decide +kernel
theorem dL_law_351 : decode cL_law 351 = .ok (.laload, 1) := by decide +kernel
theorem dL_law_352 : decode cL_law 352 = .ok (.iload 7, 2) := by decide +kernel
theorem dL_law_354 : decode cL_law 354 = .ok (.i2l, 1) := by decide +kernel
theorem dL_law_355 : decode cL_law 355 = .ok (.lcmp, 1) := by decide +kernel
theorem dL_law_356 : decode cL_law 356 = .ok (.ifCond .eq 5, 3) := by decide +kernel
theorem dL_law_359 : decode cL_law 359 = .ok (.iconst 0, 1) := by decide +kernel
theorem dL_law_360 : decode cL_law 360 = .ok (.ireturn, 1) := by decide +kernel
theorem dL_law_361 : decode cL_law 361 = .ok (.goto 2624, 3) := by decide +kernel
theorem dL_law_364 : decode cL_law 364 = .ok (.aload_n 1, 1) := by decide +kernel
theorem dL_law_365 : decode cL_law 365 = .ok (.aload_n 0, 1) := by decide +kernel
theorem dL_law_366 : decode cL_law 366 = .ok (.iload 5, 2) := by decide +kernel
theorem dL_law_368 : decode cL_law 368 = .ok (.iconst 1, 1) := by decide +kernel
theorem dL_law_369 : decode cL_law 369 = .ok (.iadd, 1) := by decide +kernel
theorem dL_law_370 : decode cL_law 370 = .ok (.iaload, 1) := by decide +kernel
theorem dL_law_371 : decode cL_law 371 = .ok (.aload_n 3, 1) := by decide +kernel
theorem dL_law_372 : decode cL_law 372 = .ok (.invokestatic 169, 3) := by decide +kernel
theorem dL_law_375 : decode cL_law 375 = .ok (.istore 6, 2) := by decide +kernel
theorem dL_law_377 : decode cL_law 377 = .ok (.aload_n 2, 1) := by decide +kernel
theorem dL_law_378 : decode cL_law 378 = .ok (.aload_n 0, 1) := by decide +kernel
theorem dL_law_379 : decode cL_law 379 = .ok (.iload 5, 2) := by decide +kernel
theorem dL_law_381 : decode cL_law 381 = .ok (.iconst 1, 1) := by decide +kernel
theorem dL_law_382 : decode cL_law 382 = .ok (.iadd, 1) := by decide +kernel
theorem dL_law_383 : decode cL_law 383 = .ok (.iaload, 1) := by decide +kernel
theorem dL_law_384 : decode cL_law 384 = .ok (.invokevirtual 171, 3) := by decide +kernel
theorem dL_law_387 : decode cL_law 387 = .ok (.istore 7, 2) := by decide +kernel
theorem dL_law_389 : decode cL_law 389 = .ok (.aload_n 2, 1) := by decide +kernel
theorem dL_law_390 : decode cL_law 390 = .ok (.invokevirtual 166, 3) := by decide +kernel
theorem dL_law_393 : decode cL_law 393 = .ok (.iload 6, 2) := by decide +kernel
theorem dL_law_395 : decode cL_law 395 = .ok (.if_icmp .eq 5, 3) := by decide +kernel
theorem dL_law_398 : decode cL_law 398 = .ok (.iconst 0, 1) := by decide +kernel
theorem dL_law_399 : decode cL_law 399 = .ok (.ireturn, 1) := by decide +kernel
theorem dL_law_400 : decode cL_law 400 = .ok (.iload 6, 2) := by decide +kernel
theorem dL_law_402 : decode cL_law 402 = .ok (.ifCond .ne 15, 3) := by decide +kernel
theorem dL_law_405 : decode cL_law 405 = .ok (.aload_n 3, 1) := by decide +kernel
theorem dL_law_406 : decode cL_law 406 = .ok (.iconst 0, 1) := by decide +kernel
theorem dL_law_407 : decode cL_law 407 = .ok (.laload, 1) := by decide +kernel
theorem dL_law_408 : decode cL_law 408 = .ok (.iload 7, 2) := by decide +kernel
theorem dL_law_410 : decode cL_law 410 = .ok (.i2l, 1) := by decide +kernel
theorem dL_law_411 : decode cL_law 411 = .ok (.lcmp, 1) := by decide +kernel
theorem dL_law_412 : decode cL_law 412 = .ok (.ifCond .eq 5, 3) := by decide +kernel
theorem dL_law_415 : decode cL_law 415 = .ok (.iconst 0, 1) := by decide +kernel
theorem dL_law_416 : decode cL_law 416 = .ok (.ireturn, 1) := by decide +kernel
theorem dL_law_417 : decode cL_law 417 = .ok (.goto 2568, 3) := by decide +kernel
theorem dL_law_420 : decode cL_law 420 = .ok (.aload_n 1, 1) := by decide +kernel
theorem dL_law_421 : decode cL_law 421 = .ok (.aload_n 0, 1) := by decide +kernel
theorem dL_law_422 : decode cL_law 422 = .ok (.iload 5, 2) := by decide +kernel
theorem dL_law_424 : decode cL_law 424 = .ok (.iconst 1, 1) := by decide +kernel
theorem dL_law_425 : decode cL_law 425 = .ok (.iadd, 1) := by decide +kernel
theorem dL_law_426 : decode cL_law 426 = .ok (.iaload, 1) := by decide +kernel
theorem dL_law_427 : decode cL_law 427 = .ok (.aload_n 0, 1) := by decide +kernel
theorem dL_law_428 : decode cL_law 428 = .ok (.iload 5, 2) := by decide +kernel
theorem dL_law_430 : decode cL_law 430 = .ok (.iconst 2, 1) := by decide +kernel
theorem dL_law_431 : decode cL_law 431 = .ok (.iadd, 1) := by decide +kernel
theorem dL_law_432 : decode cL_law 432 = .ok (.iaload, 1) := by decide +kernel
theorem dL_law_433 : decode cL_law 433 = .ok (.aload_n 3, 1) := by decide +kernel
theorem dL_law_434 : decode cL_law 434 = .ok (.invokestatic 172, 3) := by decide +kernel
theorem dL_law_437 : decode cL_law 437 = .ok (.istore 6, 2) := by decide +kernel
theorem dL_law_439 : decode cL_law 439 = .ok (.aload_n 2, 1) := by decide +kernel
theorem dL_law_440 : decode cL_law 440 = .ok (.aload_n 0, 1) := by decide +kernel
theorem dL_law_441 : decode cL_law 441 = .ok (.iload 5, 2) := by decide +kernel
theorem dL_law_443 : decode cL_law 443 = .ok (.iconst 1, 1) := by decide +kernel
theorem dL_law_444 : decode cL_law 444 = .ok (.iadd, 1) := by decide +kernel
theorem dL_law_445 : decode cL_law 445 = .ok (.iaload, 1) := by decide +kernel
theorem dL_law_446 : decode cL_law 446 = .ok (.aload_n 0, 1) := by decide +kernel
theorem dL_law_447 : decode cL_law 447 = .ok (.iload 5, 2) := by decide +kernel
theorem dL_law_449 : decode cL_law 449 = .ok (.iconst 2, 1) := by decide +kernel
theorem dL_law_450 : decode cL_law 450 = .ok (.iadd, 1) := by decide +kernel
theorem dL_law_451 : decode cL_law 451 = .ok (.iaload, 1) := by decide +kernel
theorem dL_law_452 : decode cL_law 452 = .ok (.invokevirtual 175, 3) := by decide +kernel
theorem dL_law_455 : decode cL_law 455 = .ok (.istore 7, 2) := by decide +kernel
theorem dL_law_457 : decode cL_law 457 = .ok (.aload_n 2, 1) := by decide +kernel
theorem dL_law_458 : decode cL_law 458 = .ok (.invokevirtual 166, 3) := by decide +kernel
theorem dL_law_461 : decode cL_law 461 = .ok (.iload 6, 2) := by decide +kernel
theorem dL_law_463 : decode cL_law 463 = .ok (.if_icmp .eq 5, 3) := by decide +kernel
theorem dL_law_466 : decode cL_law 466 = .ok (.iconst 0, 1) := by decide +kernel
theorem dL_law_467 : decode cL_law 467 = .ok (.ireturn, 1) := by decide +kernel
theorem dL_law_468 : decode cL_law 468 = .ok (.iload 6, 2) := by decide +kernel
theorem dL_law_470 : decode cL_law 470 = .ok (.ifCond .ne 15, 3) := by decide +kernel
theorem dL_law_473 : decode cL_law 473 = .ok (.aload_n 3, 1) := by decide +kernel
theorem dL_law_474 : decode cL_law 474 = .ok (.iconst 0, 1) := by decide +kernel
theorem dL_law_475 : decode cL_law 475 = .ok (.laload, 1) := by decide +kernel
theorem dL_law_476 : decode cL_law 476 = .ok (.iload 7, 2) := by decide +kernel
theorem dL_law_478 : decode cL_law 478 = .ok (.i2l, 1) := by decide +kernel
theorem dL_law_479 : decode cL_law 479 = .ok (.lcmp, 1) := by decide +kernel
theorem dL_law_480 : decode cL_law 480 = .ok (.ifCond .eq 5, 3) := by decide +kernel
theorem dL_law_483 : decode cL_law 483 = .ok (.iconst 0, 1) := by decide +kernel
theorem dL_law_484 : decode cL_law 484 = .ok (.ireturn, 1) := by decide +kernel
theorem dL_law_485 : decode cL_law 485 = .ok (.goto 2500, 3) := by decide +kernel
theorem dL_law_488 : decode cL_law 488 = .ok (.aload_n 1, 1) := by decide +kernel
theorem dL_law_489 : decode cL_law 489 = .ok (.aload_n 0, 1) := by decide +kernel
theorem dL_law_490 : decode cL_law 490 = .ok (.iload 5, 2) := by decide +kernel
theorem dL_law_492 : decode cL_law 492 = .ok (.iconst 1, 1) := by decide +kernel
theorem dL_law_493 : decode cL_law 493 = .ok (.iadd, 1) := by decide +kernel
theorem dL_law_494 : decode cL_law 494 = .ok (.iaload, 1) := by decide +kernel
theorem dL_law_495 : decode cL_law 495 = .ok (.aload_n 0, 1) := by decide +kernel
theorem dL_law_496 : decode cL_law 496 = .ok (.iload 5, 2) := by decide +kernel
theorem dL_law_498 : decode cL_law 498 = .ok (.iconst 2, 1) := by decide +kernel
theorem dL_law_499 : decode cL_law 499 = .ok (.iadd, 1) := by decide +kernel
theorem dL_law_500 : decode cL_law 500 = .ok (.iaload, 1) := by decide +kernel
theorem dL_law_501 : decode cL_law 501 = .ok (.aload_n 3, 1) := by decide +kernel
theorem dL_law_502 : decode cL_law 502 = .ok (.invokestatic 176, 3) := by decide +kernel
theorem dL_law_505 : decode cL_law 505 = .ok (.istore 6, 2) := by decide +kernel
theorem dL_law_507 : decode cL_law 507 = .ok (.aload_n 2, 1) := by decide +kernel
theorem dL_law_508 : decode cL_law 508 = .ok (.aload_n 0, 1) := by decide +kernel
theorem dL_law_509 : decode cL_law 509 = .ok (.iload 5, 2) := by decide +kernel
theorem dL_law_511 : decode cL_law 511 = .ok (.iconst 1, 1) := by decide +kernel
theorem dL_law_512 : decode cL_law 512 = .ok (.iadd, 1) := by decide +kernel
theorem dL_law_513 : decode cL_law 513 = .ok (.iaload, 1) := by decide +kernel
theorem dL_law_514 : decode cL_law 514 = .ok (.aload_n 0, 1) := by decide +kernel
theorem dL_law_515 : decode cL_law 515 = .ok (.iload 5, 2) := by decide +kernel
theorem dL_law_517 : decode cL_law 517 = .ok (.iconst 2, 1) := by decide +kernel
theorem dL_law_518 : decode cL_law 518 = .ok (.iadd, 1) := by decide +kernel
theorem dL_law_519 : decode cL_law 519 = .ok (.iaload, 1) := by decide +kernel
theorem dL_law_520 : decode cL_law 520 = .ok (.invokevirtual 178, 3) := by decide +kernel
theorem dL_law_523 : decode cL_law 523 = .ok (.istore 7, 2) := by decide +kernel
theorem dL_law_525 : decode cL_law 525 = .ok (.aload_n 2, 1) := by decide +kernel
theorem dL_law_526 : decode cL_law 526 = .ok (.invokevirtual 166, 3) := by decide +kernel
theorem dL_law_529 : decode cL_law 529 = .ok (.iload 6, 2) := by decide +kernel
theorem dL_law_531 : decode cL_law 531 = .ok (.if_icmp .eq 5, 3) := by decide +kernel
theorem dL_law_534 : decode cL_law 534 = .ok (.iconst 0, 1) := by decide +kernel
theorem dL_law_535 : decode cL_law 535 = .ok (.ireturn, 1) := by decide +kernel
theorem dL_law_536 : decode cL_law 536 = .ok (.iload 6, 2) := by decide +kernel
theorem dL_law_538 : decode cL_law 538 = .ok (.ifCond .ne 15, 3) := by decide +kernel
theorem dL_law_541 : decode cL_law 541 = .ok (.aload_n 3, 1) := by decide +kernel
theorem dL_law_542 : decode cL_law 542 = .ok (.iconst 0, 1) := by decide +kernel
theorem dL_law_543 : decode cL_law 543 = .ok (.laload, 1) := by decide +kernel
theorem dL_law_544 : decode cL_law 544 = .ok (.iload 7, 2) := by decide +kernel
theorem dL_law_546 : decode cL_law 546 = .ok (.i2l, 1) := by decide +kernel
theorem dL_law_547 : decode cL_law 547 = .ok (.lcmp, 1) := by decide +kernel
theorem dL_law_548 : decode cL_law 548 = .ok (.ifCond .eq 5, 3) := by decide +kernel
theorem dL_law_551 : decode cL_law 551 = .ok (.iconst 0, 1) := by decide +kernel
theorem dL_law_552 : decode cL_law 552 = .ok (.ireturn, 1) := by decide +kernel
theorem dL_law_553 : decode cL_law 553 = .ok (.goto 2432, 3) := by decide +kernel
theorem dL_law_556 : decode cL_law 556 = .ok (.aload_n 1, 1) := by decide +kernel
theorem dL_law_557 : decode cL_law 557 = .ok (.aload_n 0, 1) := by decide +kernel
theorem dL_law_558 : decode cL_law 558 = .ok (.iload 5, 2) := by decide +kernel
theorem dL_law_560 : decode cL_law 560 = .ok (.iconst 1, 1) := by decide +kernel
theorem dL_law_561 : decode cL_law 561 = .ok (.iadd, 1) := by decide +kernel
theorem dL_law_562 : decode cL_law 562 = .ok (.iaload, 1) := by decide +kernel
theorem dL_law_563 : decode cL_law 563 = .ok (.aload_n 0, 1) := by decide +kernel
theorem dL_law_564 : decode cL_law 564 = .ok (.iload 5, 2) := by decide +kernel
theorem dL_law_566 : decode cL_law 566 = .ok (.iconst 2, 1) := by decide +kernel
theorem dL_law_567 : decode cL_law 567 = .ok (.iadd, 1) := by decide +kernel
theorem dL_law_568 : decode cL_law 568 = .ok (.iaload, 1) := by decide +kernel
theorem dL_law_569 : decode cL_law 569 = .ok (.aload_n 3, 1) := by decide +kernel
theorem dL_law_570 : decode cL_law 570 = .ok (.invokestatic 179, 3) := by decide +kernel
theorem dL_law_573 : decode cL_law 573 = .ok (.istore 6, 2) := by decide +kernel
theorem dL_law_575 : decode cL_law 575 = .ok (.aload_n 2, 1) := by decide +kernel
theorem dL_law_576 : decode cL_law 576 = .ok (.aload_n 0, 1) := by decide +kernel
theorem dL_law_577 : decode cL_law 577 = .ok (.iload 5, 2) := by decide +kernel
theorem dL_law_579 : decode cL_law 579 = .ok (.iconst 1, 1) := by decide +kernel
theorem dL_law_580 : decode cL_law 580 = .ok (.iadd, 1) := by decide +kernel
theorem dL_law_581 : decode cL_law 581 = .ok (.iaload, 1) := by decide +kernel
theorem dL_law_582 : decode cL_law 582 = .ok (.aload_n 0, 1) := by decide +kernel
theorem dL_law_583 : decode cL_law 583 = .ok (.iload 5, 2) := by decide +kernel
theorem dL_law_585 : decode cL_law 585 = .ok (.iconst 2, 1) := by decide +kernel
theorem dL_law_586 : decode cL_law 586 = .ok (.iadd, 1) := by decide +kernel
theorem dL_law_587 : decode cL_law 587 = .ok (.iaload, 1) := by decide +kernel
theorem dL_law_588 : decode cL_law 588 = .ok (.invokevirtual 181, 3) := by decide +kernel
theorem dL_law_591 : decode cL_law 591 = .ok (.istore 7, 2) := by decide +kernel
theorem dL_law_593 : decode cL_law 593 = .ok (.aload_n 2, 1) := by decide +kernel
theorem dL_law_594 : decode cL_law 594 = .ok (.invokevirtual 166, 3) := by decide +kernel
theorem dL_law_597 : decode cL_law 597 = .ok (.iload 6, 2) := by decide +kernel
theorem dL_law_599 : decode cL_law 599 = .ok (.if_icmp .eq 5, 3) := by decide +kernel
theorem dL_law_602 : decode cL_law 602 = .ok (.iconst 0, 1) := by decide +kernel
theorem dL_law_603 : decode cL_law 603 = .ok (.ireturn, 1) := by decide +kernel
theorem dL_law_604 : decode cL_law 604 = .ok (.iload 6, 2) := by decide +kernel
theorem dL_law_606 : decode cL_law 606 = .ok (.ifCond .ne 15, 3) := by decide +kernel
theorem dL_law_609 : decode cL_law 609 = .ok (.aload_n 3, 1) := by decide +kernel
theorem dL_law_610 : decode cL_law 610 = .ok (.iconst 0, 1) := by decide +kernel
theorem dL_law_611 : decode cL_law 611 = .ok (.laload, 1) := by decide +kernel
theorem dL_law_612 : decode cL_law 612 = .ok (.iload 7, 2) := by decide +kernel
theorem dL_law_614 : decode cL_law 614 = .ok (.i2l, 1) := by decide +kernel
theorem dL_law_615 : decode cL_law 615 = .ok (.lcmp, 1) := by decide +kernel
theorem dL_law_616 : decode cL_law 616 = .ok (.ifCond .eq 5, 3) := by decide +kernel
theorem dL_law_619 : decode cL_law 619 = .ok (.iconst 0, 1) := by decide +kernel
theorem dL_law_620 : decode cL_law 620 = .ok (.ireturn, 1) := by decide +kernel
theorem dL_law_621 : decode cL_law 621 = .ok (.goto 2364, 3) := by decide +kernel
theorem dL_law_624 : decode cL_law 624 = .ok (.aload_n 1, 1) := by decide +kernel
theorem dL_law_625 : decode cL_law 625 = .ok (.aload_n 0, 1) := by decide +kernel
theorem dL_law_626 : decode cL_law 626 = .ok (.iload 5, 2) := by decide +kernel
theorem dL_law_628 : decode cL_law 628 = .ok (.iconst 1, 1) := by decide +kernel
theorem dL_law_629 : decode cL_law 629 = .ok (.iadd, 1) := by decide +kernel
theorem dL_law_630 : decode cL_law 630 = .ok (.iaload, 1) := by decide +kernel
theorem dL_law_631 : decode cL_law 631 = .ok (.aload_n 3, 1) := by decide +kernel
theorem dL_law_632 : decode cL_law 632 = .ok (.invokestatic 182, 3) := by decide +kernel
theorem dL_law_635 : decode cL_law 635 = .ok (.istore 6, 2) := by decide +kernel
theorem dL_law_637 : decode cL_law 637 = .ok (.aload_n 2, 1) := by decide +kernel
theorem dL_law_638 : decode cL_law 638 = .ok (.aload_n 0, 1) := by decide +kernel
theorem dL_law_639 : decode cL_law 639 = .ok (.iload 5, 2) := by decide +kernel
theorem dL_law_641 : decode cL_law 641 = .ok (.iconst 1, 1) := by decide +kernel
theorem dL_law_642 : decode cL_law 642 = .ok (.iadd, 1) := by decide +kernel
theorem dL_law_643 : decode cL_law 643 = .ok (.iaload, 1) := by decide +kernel
theorem dL_law_644 : decode cL_law 644 = .ok (.invokevirtual 184, 3) := by decide +kernel
theorem dL_law_647 : decode cL_law 647 = .ok (.istore 7, 2) := by decide +kernel
theorem dL_law_649 : decode cL_law 649 = .ok (.aload_n 2, 1) := by decide +kernel
theorem dL_law_650 : decode cL_law 650 = .ok (.invokevirtual 166, 3) := by decide +kernel
theorem dL_law_653 : decode cL_law 653 = .ok (.iload 6, 2) := by decide +kernel
theorem dL_law_655 : decode cL_law 655 = .ok (.if_icmp .eq 5, 3) := by decide +kernel
theorem dL_law_658 : decode cL_law 658 = .ok (.iconst 0, 1) := by decide +kernel
theorem dL_law_659 : decode cL_law 659 = .ok (.ireturn, 1) := by decide +kernel
theorem dL_law_660 : decode cL_law 660 = .ok (.iload 6, 2) := by decide +kernel
theorem dL_law_662 : decode cL_law 662 = .ok (.ifCond .ne 15, 3) := by decide +kernel
theorem dL_law_665 : decode cL_law 665 = .ok (.aload_n 3, 1) := by decide +kernel
theorem dL_law_666 : decode cL_law 666 = .ok (.iconst 0, 1) := by decide +kernel
theorem dL_law_667 : decode cL_law 667 = .ok (.laload, 1) := by decide +kernel
theorem dL_law_668 : decode cL_law 668 = .ok (.iload 7, 2) := by decide +kernel
theorem dL_law_670 : decode cL_law 670 = .ok (.i2l, 1) := by decide +kernel
theorem dL_law_671 : decode cL_law 671 = .ok (.lcmp, 1) := by decide +kernel
theorem dL_law_672 : decode cL_law 672 = .ok (.ifCond .eq 5, 3) := by decide +kernel
theorem dL_law_675 : decode cL_law 675 = .ok (.iconst 0, 1) := by decide +kernel
theorem dL_law_676 : decode cL_law 676 = .ok (.ireturn, 1) := by decide +kernel
theorem dL_law_677 : decode cL_law 677 = .ok (.goto 2308, 3) := by decide +kernel
theorem dL_law_680 : decode cL_law 680 = .ok (.aload_n 1, 1) := by decide +kernel
theorem dL_law_681 : decode cL_law 681 = .ok (.aload_n 0, 1) := by decide +kernel
theorem dL_law_682 : decode cL_law 682 = .ok (.iload 5, 2) := by decide +kernel
theorem dL_law_684 : decode cL_law 684 = .ok (.iconst 1, 1) := by decide +kernel
theorem dL_law_685 : decode cL_law 685 = .ok (.iadd, 1) := by decide +kernel
theorem dL_law_686 : decode cL_law 686 = .ok (.iaload, 1) := by decide +kernel
theorem dL_law_687 : decode cL_law 687 = .ok (.aload_n 3, 1) := by decide +kernel
theorem dL_law_688 : decode cL_law 688 = .ok (.invokestatic 185, 3) := by decide +kernel
theorem dL_law_691 : decode cL_law 691 = .ok (.istore 6, 2) := by decide +kernel
theorem dL_law_693 : decode cL_law 693 = .ok (.aload_n 2, 1) := by decide +kernel
theorem dL_law_694 : decode cL_law 694 = .ok (.aload_n 0, 1) := by decide +kernel
theorem dL_law_695 : decode cL_law 695 = .ok (.iload 5, 2) := by decide +kernel
theorem dL_law_697 : decode cL_law 697 = .ok (.iconst 1, 1) := by decide +kernel
theorem dL_law_698 : decode cL_law 698 = .ok (.iadd, 1) := by decide +kernel
theorem dL_law_699 : decode cL_law 699 = .ok (.iaload, 1) := by decide +kernel
theorem dL_law_700 : decode cL_law 700 = .ok (.invokevirtual 187, 3) := by decide +kernel
theorem dL_law_703 : decode cL_law 703 = .ok (.istore 7, 2) := by decide +kernel
theorem dL_law_705 : decode cL_law 705 = .ok (.aload_n 2, 1) := by decide +kernel
theorem dL_law_706 : decode cL_law 706 = .ok (.invokevirtual 166, 3) := by decide +kernel
theorem dL_law_709 : decode cL_law 709 = .ok (.iload 6, 2) := by decide +kernel
theorem dL_law_711 : decode cL_law 711 = .ok (.if_icmp .eq 5, 3) := by decide +kernel
theorem dL_law_714 : decode cL_law 714 = .ok (.iconst 0, 1) := by decide +kernel
theorem dL_law_715 : decode cL_law 715 = .ok (.ireturn, 1) := by decide +kernel
theorem dL_law_716 : decode cL_law 716 = .ok (.iload 6, 2) := by decide +kernel
theorem dL_law_718 : decode cL_law 718 = .ok (.ifCond .ne 15, 3) := by decide +kernel
theorem dL_law_721 : decode cL_law 721 = .ok (.aload_n 3, 1) := by decide +kernel
theorem dL_law_722 : decode cL_law 722 = .ok (.iconst 0, 1) := by decide +kernel
theorem dL_law_723 : decode cL_law 723 = .ok (.laload, 1) := by decide +kernel
theorem dL_law_724 : decode cL_law 724 = .ok (.iload 7, 2) := by decide +kernel
theorem dL_law_726 : decode cL_law 726 = .ok (.i2l, 1) := by decide +kernel
theorem dL_law_727 : decode cL_law 727 = .ok (.lcmp, 1) := by decide +kernel
theorem dL_law_728 : decode cL_law 728 = .ok (.ifCond .eq 5, 3) := by decide +kernel
theorem dL_law_731 : decode cL_law 731 = .ok (.iconst 0, 1) := by decide +kernel
theorem dL_law_732 : decode cL_law 732 = .ok (.ireturn, 1) := by decide +kernel
theorem dL_law_733 : decode cL_law 733 = .ok (.goto 2252, 3) := by decide +kernel
theorem dL_law_736 : decode cL_law 736 = .ok (.aload_n 1, 1) := by decide +kernel
theorem dL_law_737 : decode cL_law 737 = .ok (.aload_n 0, 1) := by decide +kernel
theorem dL_law_738 : decode cL_law 738 = .ok (.iload 5, 2) := by decide +kernel
theorem dL_law_740 : decode cL_law 740 = .ok (.iconst 1, 1) := by decide +kernel
theorem dL_law_741 : decode cL_law 741 = .ok (.iadd, 1) := by decide +kernel
theorem dL_law_742 : decode cL_law 742 = .ok (.iaload, 1) := by decide +kernel
theorem dL_law_743 : decode cL_law 743 = .ok (.aload_n 3, 1) := by decide +kernel
theorem dL_law_744 : decode cL_law 744 = .ok (.invokestatic 188, 3) := by decide +kernel
theorem dL_law_747 : decode cL_law 747 = .ok (.istore 6, 2) := by decide +kernel
theorem dL_law_749 : decode cL_law 749 = .ok (.aload_n 2, 1) := by decide +kernel
theorem dL_law_750 : decode cL_law 750 = .ok (.aload_n 0, 1) := by decide +kernel
theorem dL_law_751 : decode cL_law 751 = .ok (.iload 5, 2) := by decide +kernel
theorem dL_law_753 : decode cL_law 753 = .ok (.iconst 1, 1) := by decide +kernel
theorem dL_law_754 : decode cL_law 754 = .ok (.iadd, 1) := by decide +kernel
theorem dL_law_755 : decode cL_law 755 = .ok (.iaload, 1) := by decide +kernel
theorem dL_law_756 : decode cL_law 756 = .ok (.invokevirtual 190, 3) := by decide +kernel
theorem dL_law_759 : decode cL_law 759 = .ok (.istore 7, 2) := by decide +kernel
theorem dL_law_761 : decode cL_law 761 = .ok (.aload_n 2, 1) := by decide +kernel
theorem dL_law_762 : decode cL_law 762 = .ok (.invokevirtual 166, 3) := by decide +kernel
theorem dL_law_765 : decode cL_law 765 = .ok (.iload 6, 2) := by decide +kernel
theorem dL_law_767 : decode cL_law 767 = .ok (.if_icmp .eq 5, 3) := by decide +kernel
theorem dL_law_770 : decode cL_law 770 = .ok (.iconst 0, 1) := by decide +kernel
theorem dL_law_771 : decode cL_law 771 = .ok (.ireturn, 1) := by decide +kernel
theorem dL_law_772 : decode cL_law 772 = .ok (.iload 6, 2) := by decide +kernel
theorem dL_law_774 : decode cL_law 774 = .ok (.ifCond .ne 15, 3) := by decide +kernel
theorem dL_law_777 : decode cL_law 777 = .ok (.aload_n 3, 1) := by decide +kernel
theorem dL_law_778 : decode cL_law 778 = .ok (.iconst 0, 1) := by decide +kernel
theorem dL_law_779 : decode cL_law 779 = .ok (.laload, 1) := by decide +kernel
theorem dL_law_780 : decode cL_law 780 = .ok (.iload 7, 2) := by decide +kernel
theorem dL_law_782 : decode cL_law 782 = .ok (.i2l, 1) := by decide +kernel
theorem dL_law_783 : decode cL_law 783 = .ok (.lcmp, 1) := by decide +kernel
theorem dL_law_784 : decode cL_law 784 = .ok (.ifCond .eq 5, 3) := by decide +kernel
theorem dL_law_787 : decode cL_law 787 = .ok (.iconst 0, 1) := by decide +kernel
theorem dL_law_788 : decode cL_law 788 = .ok (.ireturn, 1) := by decide +kernel
theorem dL_law_789 : decode cL_law 789 = .ok (.goto 2196, 3) := by decide +kernel
theorem dL_law_792 : decode cL_law 792 = .ok (.aload_n 1, 1) := by decide +kernel
theorem dL_law_793 : decode cL_law 793 = .ok (.aload_n 3, 1) := by decide +kernel
theorem dL_law_794 : decode cL_law 794 = .ok (.invokestatic 191, 3) := by decide +kernel
theorem dL_law_797 : decode cL_law 797 = .ok (.istore 6, 2) := by decide +kernel
theorem dL_law_799 : decode cL_law 799 = .ok (.aload_n 2, 1) := by decide +kernel
theorem dL_law_800 : decode cL_law 800 = .ok (.invokevirtual 194, 3) := by decide +kernel
theorem dL_law_803 : decode cL_law 803 = .ok (.istore 7, 2) := by decide +kernel
theorem dL_law_805 : decode cL_law 805 = .ok (.aload_n 2, 1) := by decide +kernel
theorem dL_law_806 : decode cL_law 806 = .ok (.invokevirtual 166, 3) := by decide +kernel
theorem dL_law_809 : decode cL_law 809 = .ok (.iload 6, 2) := by decide +kernel
theorem dL_law_811 : decode cL_law 811 = .ok (.if_icmp .eq 5, 3) := by decide +kernel
theorem dL_law_814 : decode cL_law 814 = .ok (.iconst 0, 1) := by decide +kernel
theorem dL_law_815 : decode cL_law 815 = .ok (.ireturn, 1) := by decide +kernel
theorem dL_law_816 : decode cL_law 816 = .ok (.iload 6, 2) := by decide +kernel
theorem dL_law_818 : decode cL_law 818 = .ok (.ifCond .ne 15, 3) := by decide +kernel
theorem dL_law_821 : decode cL_law 821 = .ok (.aload_n 3, 1) := by decide +kernel
theorem dL_law_822 : decode cL_law 822 = .ok (.iconst 0, 1) := by decide +kernel
theorem dL_law_823 : decode cL_law 823 = .ok (.laload, 1) := by decide +kernel
theorem dL_law_824 : decode cL_law 824 = .ok (.iload 7, 2) := by decide +kernel
theorem dL_law_826 : decode cL_law 826 = .ok (.i2l, 1) := by decide +kernel
theorem dL_law_827 : decode cL_law 827 = .ok (.lcmp, 1) := by decide +kernel
theorem dL_law_828 : decode cL_law 828 = .ok (.ifCond .eq 5, 3) := by decide +kernel
theorem dL_law_831 : decode cL_law 831 = .ok (.iconst 0, 1) := by decide +kernel
theorem dL_law_832 : decode cL_law 832 = .ok (.ireturn, 1) := by decide +kernel
theorem dL_law_833 : decode cL_law 833 = .ok (.goto 2152, 3) := by decide +kernel
theorem dL_law_836 : decode cL_law 836 = .ok (.aload_n 1, 1) := by decide +kernel
theorem dL_law_837 : decode cL_law 837 = .ok (.aload_n 3, 1) := by decide +kernel
theorem dL_law_838 : decode cL_law 838 = .ok (.invokestatic 195, 3) := by decide +kernel
theorem dL_law_841 : decode cL_law 841 = .ok (.istore 6, 2) := by decide +kernel
theorem dL_law_843 : decode cL_law 843 = .ok (.aload_n 2, 1) := by decide +kernel
theorem dL_law_844 : decode cL_law 844 = .ok (.invokevirtual 197, 3) := by decide +kernel
theorem dL_law_847 : decode cL_law 847 = .ok (.istore 7, 2) := by decide +kernel
theorem dL_law_849 : decode cL_law 849 = .ok (.aload_n 2, 1) := by decide +kernel
theorem dL_law_850 : decode cL_law 850 = .ok (.invokevirtual 166, 3) := by decide +kernel
theorem dL_law_853 : decode cL_law 853 = .ok (.iload 6, 2) := by decide +kernel
theorem dL_law_855 : decode cL_law 855 = .ok (.if_icmp .eq 5, 3) := by decide +kernel
theorem dL_law_858 : decode cL_law 858 = .ok (.iconst 0, 1) := by decide +kernel
theorem dL_law_859 : decode cL_law 859 = .ok (.ireturn, 1) := by decide +kernel
theorem dL_law_860 : decode cL_law 860 = .ok (.iload 6, 2) := by decide +kernel
theorem dL_law_862 : decode cL_law 862 = .ok (.ifCond .ne 15, 3) := by decide +kernel
theorem dL_law_865 : decode cL_law 865 = .ok (.aload_n 3, 1) := by decide +kernel
theorem dL_law_866 : decode cL_law 866 = .ok (.iconst 0, 1) := by decide +kernel
theorem dL_law_867 : decode cL_law 867 = .ok (.laload, 1) := by decide +kernel
theorem dL_law_868 : decode cL_law 868 = .ok (.iload 7, 2) := by decide +kernel
theorem dL_law_870 : decode cL_law 870 = .ok (.i2l, 1) := by decide +kernel
theorem dL_law_871 : decode cL_law 871 = .ok (.lcmp, 1) := by decide +kernel
theorem dL_law_872 : decode cL_law 872 = .ok (.ifCond .eq 5, 3) := by decide +kernel
theorem dL_law_875 : decode cL_law 875 = .ok (.iconst 0, 1) := by decide +kernel
theorem dL_law_876 : decode cL_law 876 = .ok (.ireturn, 1) := by decide +kernel
theorem dL_law_877 : decode cL_law 877 = .ok (.goto 2108, 3) := by decide +kernel
theorem dL_law_880 : decode cL_law 880 = .ok (.aload_n 1, 1) := by decide +kernel
theorem dL_law_881 : decode cL_law 881 = .ok (.aload_n 0, 1) := by decide +kernel
theorem dL_law_882 : decode cL_law 882 = .ok (.iload 5, 2) := by decide +kernel
theorem dL_law_884 : decode cL_law 884 = .ok (.iconst 1, 1) := by decide +kernel
theorem dL_law_885 : decode cL_law 885 = .ok (.iadd, 1) := by decide +kernel
theorem dL_law_886 : decode cL_law 886 = .ok (.iaload, 1) := by decide +kernel
theorem dL_law_887 : decode cL_law 887 = .ok (.aload_n 3, 1) := by decide +kernel
theorem dL_law_888 : decode cL_law 888 = .ok (.invokestatic 198, 3) := by decide +kernel
theorem dL_law_891 : decode cL_law 891 = .ok (.istore 6, 2) := by decide +kernel
theorem dL_law_893 : decode cL_law 893 = .ok (.aload_n 2, 1) := by decide +kernel
theorem dL_law_894 : decode cL_law 894 = .ok (.aload_n 0, 1) := by decide +kernel
theorem dL_law_895 : decode cL_law 895 = .ok (.iload 5, 2) := by decide +kernel
theorem dL_law_897 : decode cL_law 897 = .ok (.iconst 1, 1) := by decide +kernel
theorem dL_law_898 : decode cL_law 898 = .ok (.iadd, 1) := by decide +kernel
theorem dL_law_899 : decode cL_law 899 = .ok (.iaload, 1) := by decide +kernel
theorem dL_law_900 : decode cL_law 900 = .ok (.invokevirtual 200, 3) := by decide +kernel
theorem dL_law_903 : decode cL_law 903 = .ok (.istore 7, 2) := by decide +kernel
theorem dL_law_905 : decode cL_law 905 = .ok (.aload_n 2, 1) := by decide +kernel
theorem dL_law_906 : decode cL_law 906 = .ok (.invokevirtual 166, 3) := by decide +kernel
theorem dL_law_909 : decode cL_law 909 = .ok (.iload 6, 2) := by decide +kernel
theorem dL_law_911 : decode cL_law 911 = .ok (.if_icmp .eq 5, 3) := by decide +kernel
theorem dL_law_914 : decode cL_law 914 = .ok (.iconst 0, 1) := by decide +kernel
theorem dL_law_915 : decode cL_law 915 = .ok (.ireturn, 1) := by decide +kernel
theorem dL_law_916 : decode cL_law 916 = .ok (.iload 6, 2) := by decide +kernel
theorem dL_law_918 : decode cL_law 918 = .ok (.ifCond .ne 15, 3) := by decide +kernel
theorem dL_law_921 : decode cL_law 921 = .ok (.aload_n 3, 1) := by decide +kernel
theorem dL_law_922 : decode cL_law 922 = .ok (.iconst 0, 1) := by decide +kernel
theorem dL_law_923 : decode cL_law 923 = .ok (.laload, 1) := by decide +kernel
theorem dL_law_924 : decode cL_law 924 = .ok (.iload 7, 2) := by decide +kernel
theorem dL_law_926 : decode cL_law 926 = .ok (.i2l, 1) := by decide +kernel
theorem dL_law_927 : decode cL_law 927 = .ok (.lcmp, 1) := by decide +kernel
theorem dL_law_928 : decode cL_law 928 = .ok (.ifCond .eq 5, 3) := by decide +kernel
theorem dL_law_931 : decode cL_law 931 = .ok (.iconst 0, 1) := by decide +kernel
theorem dL_law_932 : decode cL_law 932 = .ok (.ireturn, 1) := by decide +kernel
theorem dL_law_933 : decode cL_law 933 = .ok (.goto 2052, 3) := by decide +kernel
theorem dL_law_936 : decode cL_law 936 = .ok (.aload_n 1, 1) := by decide +kernel
theorem dL_law_937 : decode cL_law 937 = .ok (.invokevirtual 201, 3) := by decide +kernel
theorem dL_law_940 : decode cL_law 940 = .ok (.aload_n 2, 1) := by decide +kernel
theorem dL_law_941 : decode cL_law 941 = .ok (.invokevirtual 204, 3) := by decide +kernel
theorem dL_law_944 : decode cL_law 944 = .ok (.if_icmp .eq 2041, 3) := by decide +kernel
theorem dL_law_947 : decode cL_law 947 = .ok (.iconst 0, 1) := by decide +kernel
theorem dL_law_948 : decode cL_law 948 = .ok (.ireturn, 1) := by decide +kernel
theorem dL_law_949 : decode cL_law 949 = .ok (.aload_n 1, 1) := by decide +kernel
theorem dL_law_950 : decode cL_law 950 = .ok (.invokevirtual 205, 3) := by decide +kernel
theorem dL_law_953 : decode cL_law 953 = .ok (.aload_n 2, 1) := by decide +kernel
theorem dL_law_954 : decode cL_law 954 = .ok (.invokevirtual 208, 3) := by decide +kernel
theorem dL_law_957 : decode cL_law 957 = .ok (.if_icmp .eq 2028, 3) := by decide +kernel
theorem dL_law_960 : decode cL_law 960 = .ok (.iconst 0, 1) := by decide +kernel
theorem dL_law_961 : decode cL_law 961 = .ok (.ireturn, 1) := by decide +kernel
theorem dL_law_962 : decode cL_law 962 = .ok (.aload_n 1, 1) := by decide +kernel
theorem dL_law_963 : decode cL_law 963 = .ok (.aload_n 0, 1) := by decide +kernel
theorem dL_law_964 : decode cL_law 964 = .ok (.iload 5, 2) := by decide +kernel
theorem dL_law_966 : decode cL_law 966 = .ok (.iconst 1, 1) := by decide +kernel
theorem dL_law_967 : decode cL_law 967 = .ok (.iadd, 1) := by decide +kernel
theorem dL_law_968 : decode cL_law 968 = .ok (.iaload, 1) := by decide +kernel
theorem dL_law_969 : decode cL_law 969 = .ok (.aload_n 3, 1) := by decide +kernel
theorem dL_law_970 : decode cL_law 970 = .ok (.invokestatic 209, 3) := by decide +kernel
theorem dL_law_973 : decode cL_law 973 = .ok (.istore 6, 2) := by decide +kernel
theorem dL_law_975 : decode cL_law 975 = .ok (.aload_n 2, 1) := by decide +kernel
theorem dL_law_976 : decode cL_law 976 = .ok (.aload_n 0, 1) := by decide +kernel
theorem dL_law_977 : decode cL_law 977 = .ok (.iload 5, 2) := by decide +kernel
theorem dL_law_979 : decode cL_law 979 = .ok (.iconst 1, 1) := by decide +kernel
theorem dL_law_980 : decode cL_law 980 = .ok (.iadd, 1) := by decide +kernel
theorem dL_law_981 : decode cL_law 981 = .ok (.iaload, 1) := by decide +kernel
theorem dL_law_982 : decode cL_law 982 = .ok (.invokevirtual 211, 3) := by decide +kernel
theorem dL_law_985 : decode cL_law 985 = .ok (.istore 7, 2) := by decide +kernel
theorem dL_law_987 : decode cL_law 987 = .ok (.aload_n 2, 1) := by decide +kernel
theorem dL_law_988 : decode cL_law 988 = .ok (.invokevirtual 166, 3) := by decide +kernel
theorem dL_law_991 : decode cL_law 991 = .ok (.iload 6, 2) := by decide +kernel
theorem dL_law_993 : decode cL_law 993 = .ok (.if_icmp .eq 5, 3) := by decide +kernel
theorem dL_law_996 : decode cL_law 996 = .ok (.iconst 0, 1) := by decide +kernel
theorem dL_law_997 : decode cL_law 997 = .ok (.ireturn, 1) := by decide +kernel
theorem dL_law_998 : decode cL_law 998 = .ok (.iload 6, 2) := by decide +kernel
theorem dL_law_1000 : decode cL_law 1000 = .ok (.ifCond .ne 15, 3) := by decide +kernel
theorem dL_law_1003 : decode cL_law 1003 = .ok (.aload_n 3, 1) := by decide +kernel
theorem dL_law_1004 : decode cL_law 1004 = .ok (.iconst 0, 1) := by decide +kernel
theorem dL_law_1005 : decode cL_law 1005 = .ok (.laload, 1) := by decide +kernel
theorem dL_law_1006 : decode cL_law 1006 = .ok (.iload 7, 2) := by decide +kernel
theorem dL_law_1008 : decode cL_law 1008 = .ok (.i2l, 1) := by decide +kernel
theorem dL_law_1009 : decode cL_law 1009 = .ok (.lcmp, 1) := by decide +kernel
theorem dL_law_1010 : decode cL_law 1010 = .ok (.ifCond .eq 5, 3) := by decide +kernel
theorem dL_law_1013 : decode cL_law 1013 = .ok (.iconst 0, 1) := by decide +kernel
theorem dL_law_1014 : decode cL_law 1014 = .ok (.ireturn, 1) := by decide +kernel
theorem dL_law_1015 : decode cL_law 1015 = .ok (.goto 1970, 3) := by decide +kernel
theorem dL_law_1018 : decode cL_law 1018 = .ok (.aload_n 1, 1) := by decide +kernel
theorem dL_law_1019 : decode cL_law 1019 = .ok (.aload_n 0, 1) := by decide +kernel
theorem dL_law_1020 : decode cL_law 1020 = .ok (.iload 5, 2) := by decide +kernel
theorem dL_law_1022 : decode cL_law 1022 = .ok (.iconst 1, 1) := by decide +kernel
theorem dL_law_1023 : decode cL_law 1023 = .ok (.iadd, 1) := by decide +kernel
theorem dL_law_1024 : decode cL_law 1024 = .ok (.iaload, 1) := by decide +kernel
theorem dL_law_1025 : decode cL_law 1025 = .ok (.aload_n 3, 1) := by decide +kernel
theorem dL_law_1026 : decode cL_law 1026 = .ok (.invokestatic 212, 3) := by decide +kernel
theorem dL_law_1029 : decode cL_law 1029 = .ok (.istore 6, 2) := by decide +kernel
theorem dL_law_1031 : decode cL_law 1031 = .ok (.aload_n 2, 1) := by decide +kernel
theorem dL_law_1032 : decode cL_law 1032 = .ok (.aload_n 0, 1) := by decide +kernel
theorem dL_law_1033 : decode cL_law 1033 = .ok (.iload 5, 2) := by decide +kernel
theorem dL_law_1035 : decode cL_law 1035 = .ok (.iconst 1, 1) := by decide +kernel
theorem dL_law_1036 : decode cL_law 1036 = .ok (.iadd, 1) := by decide +kernel
theorem dL_law_1037 : decode cL_law 1037 = .ok (.iaload, 1) := by decide +kernel
theorem dL_law_1038 : decode cL_law 1038 = .ok (.invokevirtual 214, 3) := by decide +kernel
theorem dL_law_1041 : decode cL_law 1041 = .ok (.istore 7, 2) := by decide +kernel
theorem dL_law_1043 : decode cL_law 1043 = .ok (.aload_n 2, 1) := by decide +kernel
theorem dL_law_1044 : decode cL_law 1044 = .ok (.invokevirtual 166, 3) := by decide +kernel
theorem dL_law_1047 : decode cL_law 1047 = .ok (.iload 6, 2) := by decide +kernel
theorem dL_law_1049 : decode cL_law 1049 = .ok (.if_icmp .eq 5, 3) := by decide +kernel
theorem dL_law_1052 : decode cL_law 1052 = .ok (.iconst 0, 1) := by decide +kernel
theorem dL_law_1053 : decode cL_law 1053 = .ok (.ireturn, 1) := by decide +kernel
theorem dL_law_1054 : decode cL_law 1054 = .ok (.iload 6, 2) := by decide +kernel
theorem dL_law_1056 : decode cL_law 1056 = .ok (.ifCond .ne 15, 3) := by decide +kernel
theorem dL_law_1059 : decode cL_law 1059 = .ok (.aload_n 3, 1) := by decide +kernel
theorem dL_law_1060 : decode cL_law 1060 = .ok (.iconst 0, 1) := by decide +kernel
theorem dL_law_1061 : decode cL_law 1061 = .ok (.laload, 1) := by decide +kernel
theorem dL_law_1062 : decode cL_law 1062 = .ok (.iload 7, 2) := by decide +kernel
theorem dL_law_1064 : decode cL_law 1064 = .ok (.i2l, 1) := by decide +kernel
theorem dL_law_1065 : decode cL_law 1065 = .ok (.lcmp, 1) := by decide +kernel
theorem dL_law_1066 : decode cL_law 1066 = .ok (.ifCond .eq 5, 3) := by decide +kernel
theorem dL_law_1069 : decode cL_law 1069 = .ok (.iconst 0, 1) := by decide +kernel
theorem dL_law_1070 : decode cL_law 1070 = .ok (.ireturn, 1) := by decide +kernel
theorem dL_law_1071 : decode cL_law 1071 = .ok (.goto 1914, 3) := by decide +kernel
theorem dL_law_1074 : decode cL_law 1074 = .ok (.aload_n 1, 1) := by decide +kernel
theorem dL_law_1075 : decode cL_law 1075 = .ok (.aload_n 0, 1) := by decide +kernel
theorem dL_law_1076 : decode cL_law 1076 = .ok (.iload 5, 2) := by decide +kernel
theorem dL_law_1078 : decode cL_law 1078 = .ok (.iconst 1, 1) := by decide +kernel
theorem dL_law_1079 : decode cL_law 1079 = .ok (.iadd, 1) := by decide +kernel
theorem dL_law_1080 : decode cL_law 1080 = .ok (.iaload, 1) := by decide +kernel
theorem dL_law_1081 : decode cL_law 1081 = .ok (.aload_n 3, 1) := by decide +kernel
theorem dL_law_1082 : decode cL_law 1082 = .ok (.invokestatic 215, 3) := by decide +kernel
theorem dL_law_1085 : decode cL_law 1085 = .ok (.istore 6, 2) := by decide +kernel
theorem dL_law_1087 : decode cL_law 1087 = .ok (.aload_n 2, 1) := by decide +kernel
theorem dL_law_1088 : decode cL_law 1088 = .ok (.aload_n 0, 1) := by decide +kernel
theorem dL_law_1089 : decode cL_law 1089 = .ok (.iload 5, 2) := by decide +kernel
theorem dL_law_1091 : decode cL_law 1091 = .ok (.iconst 1, 1) := by decide +kernel
theorem dL_law_1092 : decode cL_law 1092 = .ok (.iadd, 1) := by decide +kernel
theorem dL_law_1093 : decode cL_law 1093 = .ok (.iaload, 1) := by decide +kernel
theorem dL_law_1094 : decode cL_law 1094 = .ok (.invokevirtual 217, 3) := by decide +kernel
theorem dL_law_1097 : decode cL_law 1097 = .ok (.istore 7, 2) := by decide +kernel
theorem dL_law_1099 : decode cL_law 1099 = .ok (.aload_n 2, 1) := by decide +kernel
theorem dL_law_1100 : decode cL_law 1100 = .ok (.invokevirtual 166, 3) := by decide +kernel
theorem dL_law_1103 : decode cL_law 1103 = .ok (.iload 6, 2) := by decide +kernel
theorem dL_law_1105 : decode cL_law 1105 = .ok (.if_icmp .eq 5, 3) := by decide +kernel
theorem dL_law_1108 : decode cL_law 1108 = .ok (.iconst 0, 1) := by decide +kernel
theorem dL_law_1109 : decode cL_law 1109 = .ok (.ireturn, 1) := by decide +kernel
theorem dL_law_1110 : decode cL_law 1110 = .ok (.iload 6, 2) := by decide +kernel
theorem dL_law_1112 : decode cL_law 1112 = .ok (.ifCond .ne 15, 3) := by decide +kernel
theorem dL_law_1115 : decode cL_law 1115 = .ok (.aload_n 3, 1) := by decide +kernel
theorem dL_law_1116 : decode cL_law 1116 = .ok (.iconst 0, 1) := by decide +kernel
theorem dL_law_1117 : decode cL_law 1117 = .ok (.laload, 1) := by decide +kernel
theorem dL_law_1118 : decode cL_law 1118 = .ok (.iload 7, 2) := by decide +kernel
theorem dL_law_1120 : decode cL_law 1120 = .ok (.i2l, 1) := by decide +kernel
theorem dL_law_1121 : decode cL_law 1121 = .ok (.lcmp, 1) := by decide +kernel
theorem dL_law_1122 : decode cL_law 1122 = .ok (.ifCond .eq 5, 3) := by decide +kernel
theorem dL_law_1125 : decode cL_law 1125 = .ok (.iconst 0, 1) := by decide +kernel
theorem dL_law_1126 : decode cL_law 1126 = .ok (.ireturn, 1) := by decide +kernel
theorem dL_law_1127 : decode cL_law 1127 = .ok (.goto 1858, 3) := by decide +kernel
theorem dL_law_1130 : decode cL_law 1130 = .ok (.aload_n 1, 1) := by decide +kernel
theorem dL_law_1131 : decode cL_law 1131 = .ok (.aload_n 0, 1) := by decide +kernel
theorem dL_law_1132 : decode cL_law 1132 = .ok (.iload 5, 2) := by decide +kernel
theorem dL_law_1134 : decode cL_law 1134 = .ok (.iconst 1, 1) := by decide +kernel
theorem dL_law_1135 : decode cL_law 1135 = .ok (.iadd, 1) := by decide +kernel
theorem dL_law_1136 : decode cL_law 1136 = .ok (.iaload, 1) := by decide +kernel
theorem dL_law_1137 : decode cL_law 1137 = .ok (.aload_n 3, 1) := by decide +kernel
theorem dL_law_1138 : decode cL_law 1138 = .ok (.invokestatic 218, 3) := by decide +kernel
theorem dL_law_1141 : decode cL_law 1141 = .ok (.istore 6, 2) := by decide +kernel
theorem dL_law_1143 : decode cL_law 1143 = .ok (.aload_n 2, 1) := by decide +kernel
theorem dL_law_1144 : decode cL_law 1144 = .ok (.aload_n 0, 1) := by decide +kernel
theorem dL_law_1145 : decode cL_law 1145 = .ok (.iload 5, 2) := by decide +kernel
theorem dL_law_1147 : decode cL_law 1147 = .ok (.iconst 1, 1) := by decide +kernel
theorem dL_law_1148 : decode cL_law 1148 = .ok (.iadd, 1) := by decide +kernel
theorem dL_law_1149 : decode cL_law 1149 = .ok (.iaload, 1) := by decide +kernel
theorem dL_law_1150 : decode cL_law 1150 = .ok (.invokevirtual 220, 3) := by decide +kernel
theorem dL_law_1153 : decode cL_law 1153 = .ok (.istore 7, 2) := by decide +kernel
theorem dL_law_1155 : decode cL_law 1155 = .ok (.aload_n 2, 1) := by decide +kernel
theorem dL_law_1156 : decode cL_law 1156 = .ok (.invokevirtual 166, 3) := by decide +kernel
theorem dL_law_1159 : decode cL_law 1159 = .ok (.iload 6, 2) := by decide +kernel
theorem dL_law_1161 : decode cL_law 1161 = .ok (.if_icmp .eq 5, 3) := by decide +kernel
theorem dL_law_1164 : decode cL_law 1164 = .ok (.iconst 0, 1) := by decide +kernel
theorem dL_law_1165 : decode cL_law 1165 = .ok (.ireturn, 1) := by decide +kernel
theorem dL_law_1166 : decode cL_law 1166 = .ok (.iload 6, 2) := by decide +kernel
theorem dL_law_1168 : decode cL_law 1168 = .ok (.ifCond .ne 15, 3) := by decide +kernel
theorem dL_law_1171 : decode cL_law 1171 = .ok (.aload_n 3, 1) := by decide +kernel
theorem dL_law_1172 : decode cL_law 1172 = .ok (.iconst 0, 1) := by decide +kernel
theorem dL_law_1173 : decode cL_law 1173 = .ok (.laload, 1) := by decide +kernel
theorem dL_law_1174 : decode cL_law 1174 = .ok (.iload 7, 2) := by decide +kernel
theorem dL_law_1176 : decode cL_law 1176 = .ok (.i2l, 1) := by decide +kernel
theorem dL_law_1177 : decode cL_law 1177 = .ok (.lcmp, 1) := by decide +kernel
theorem dL_law_1178 : decode cL_law 1178 = .ok (.ifCond .eq 5, 3) := by decide +kernel
theorem dL_law_1181 : decode cL_law 1181 = .ok (.iconst 0, 1) := by decide +kernel
theorem dL_law_1182 : decode cL_law 1182 = .ok (.ireturn, 1) := by decide +kernel
theorem dL_law_1183 : decode cL_law 1183 = .ok (.goto 1802, 3) := by decide +kernel
theorem dL_law_1186 : decode cL_law 1186 = .ok (.aload_n 1, 1) := by decide +kernel
theorem dL_law_1187 : decode cL_law 1187 = .ok (.invokevirtual 221, 3) := by decide +kernel
theorem dL_law_1190 : decode cL_law 1190 = .ok (.aload_n 2, 1) := by decide +kernel
theorem dL_law_1191 : decode cL_law 1191 = .ok (.invokevirtual 224, 3) := by decide +kernel
theorem dL_law_1194 : decode cL_law 1194 = .ok (.if_icmp .eq 1791, 3) := by decide +kernel
theorem dL_law_1197 : decode cL_law 1197 = .ok (.iconst 0, 1) := by decide +kernel
theorem dL_law_1198 : decode cL_law 1198 = .ok (.ireturn, 1) := by decide +kernel
theorem dL_law_1199 : decode cL_law 1199 = .ok (.aload_n 1, 1) := by decide +kernel
theorem dL_law_1200 : decode cL_law 1200 = .ok (.aload_n 0, 1) := by decide +kernel
theorem dL_law_1201 : decode cL_law 1201 = .ok (.iload 5, 2) := by decide +kernel
theorem dL_law_1203 : decode cL_law 1203 = .ok (.iconst 1, 1) := by decide +kernel
theorem dL_law_1204 : decode cL_law 1204 = .ok (.iadd, 1) := by decide +kernel
theorem dL_law_1205 : decode cL_law 1205 = .ok (.iaload, 1) := by decide +kernel
theorem dL_law_1206 : decode cL_law 1206 = .ok (.aload_n 0, 1) := by decide +kernel
theorem dL_law_1207 : decode cL_law 1207 = .ok (.iload 5, 2) := by decide +kernel
theorem dL_law_1209 : decode cL_law 1209 = .ok (.iconst 2, 1) := by decide +kernel
theorem dL_law_1210 : decode cL_law 1210 = .ok (.iadd, 1) := by decide +kernel
theorem dL_law_1211 : decode cL_law 1211 = .ok (.iaload, 1) := by decide +kernel
theorem dL_law_1212 : decode cL_law 1212 = .ok (.aload_n 3, 1) := by decide +kernel
theorem dL_law_1213 : decode cL_law 1213 = .ok (.invokestatic 225, 3) := by decide +kernel
theorem dL_law_1216 : decode cL_law 1216 = .ok (.istore 6, 2) := by decide +kernel
theorem dL_law_1218 : decode cL_law 1218 = .ok (.aload_n 2, 1) := by decide +kernel
theorem dL_law_1219 : decode cL_law 1219 = .ok (.aload_n 0, 1) := by decide +kernel
theorem dL_law_1220 : decode cL_law 1220 = .ok (.iload 5, 2) := by decide +kernel
theorem dL_law_1222 : decode cL_law 1222 = .ok (.iconst 1, 1) := by decide +kernel
theorem dL_law_1223 : decode cL_law 1223 = .ok (.iadd, 1) := by decide +kernel
theorem dL_law_1224 : decode cL_law 1224 = .ok (.iaload, 1) := by decide +kernel
theorem dL_law_1225 : decode cL_law 1225 = .ok (.aload_n 0, 1) := by decide +kernel
theorem dL_law_1226 : decode cL_law 1226 = .ok (.iload 5, 2) := by decide +kernel
theorem dL_law_1228 : decode cL_law 1228 = .ok (.iconst 2, 1) := by decide +kernel
theorem dL_law_1229 : decode cL_law 1229 = .ok (.iadd, 1) := by decide +kernel
theorem dL_law_1230 : decode cL_law 1230 = .ok (.iaload, 1) := by decide +kernel
theorem dL_law_1231 : decode cL_law 1231 = .ok (.invokevirtual 227, 3) := by decide +kernel
theorem dL_law_1234 : decode cL_law 1234 = .ok (.istore 7, 2) := by decide +kernel
theorem dL_law_1236 : decode cL_law 1236 = .ok (.aload_n 2, 1) := by decide +kernel
theorem dL_law_1237 : decode cL_law 1237 = .ok (.invokevirtual 166, 3) := by decide +kernel
theorem dL_law_1240 : decode cL_law 1240 = .ok (.iload 6, 2) := by decide +kernel
theorem dL_law_1242 : decode cL_law 1242 = .ok (.if_icmp .eq 5, 3) := by decide +kernel
theorem dL_law_1245 : decode cL_law 1245 = .ok (.iconst 0, 1) := by decide +kernel
theorem dL_law_1246 : decode cL_law 1246 = .ok (.ireturn, 1) := by decide +kernel
theorem dL_law_1247 : decode cL_law 1247 = .ok (.iload 6, 2) := by decide +kernel
theorem dL_law_1249 : decode cL_law 1249 = .ok (.ifCond .ne 22, 3) := by decide +kernel
theorem dL_law_1252 : decode cL_law 1252 = .ok (.aload_n 3, 1) := by decide +kernel
theorem dL_law_1253 : decode cL_law 1253 = .ok (.iconst 0, 1) := by decide +kernel
theorem dL_law_1254 : decode cL_law 1254 = .ok (.laload, 1) := by decide +kernel
theorem dL_law_1255 : decode cL_law 1255 = .ok (.iload 7, 2) := by decide +kernel
theorem dL_law_1257 : decode cL_law 1257 = .ok (.ifCond .eq 7, 3) := by decide +kernel
theorem dL_law_1260 : decode cL_law 1260 = .ok (.lconst 1, 1) := by decide +kernel
theorem dL_law_1261 : decode cL_law 1261 = .ok (.goto 4, 3) := by decide +kernel
theorem dL_law_1264 : decode cL_law 1264 = .ok (.lconst 0, 1) := by decide +kernel
theorem dL_law_1265 : decode cL_law 1265 = .ok (.lcmp, 1) := by decide +kernel
theorem dL_law_1266 : decode cL_law 1266 = .ok (.ifCond .eq 5, 3) := by decide +kernel
theorem dL_law_1269 : decode cL_law 1269 = .ok (.iconst 0, 1) := by decide +kernel
theorem dL_law_1270 : decode cL_law 1270 = .ok (.ireturn, 1) := by decide +kernel
theorem dL_law_1271 : decode cL_law 1271 = .ok (.goto 1714, 3) := by decide +kernel
theorem dL_law_1274 : decode cL_law 1274 = .ok (.aload_n 1, 1) := by decide +kernel
theorem dL_law_1275 : decode cL_law 1275 = .ok (.aload_n 0, 1) := by decide +kernel
theorem dL_law_1276 : decode cL_law 1276 = .ok (.iload 5, 2) := by decide +kernel
theorem dL_law_1278 : decode cL_law 1278 = .ok (.iconst 1, 1) := by decide +kernel
theorem dL_law_1279 : decode cL_law 1279 = .ok (.iadd, 1) := by decide +kernel
theorem dL_law_1280 : decode cL_law 1280 = .ok (.iaload, 1) := by decide +kernel
theorem dL_law_1281 : decode cL_law 1281 = .ok (.aload_n 0, 1) := by decide +kernel
theorem dL_law_1282 : decode cL_law 1282 = .ok (.iload 5, 2) := by decide +kernel
theorem dL_law_1284 : decode cL_law 1284 = .ok (.iconst 2, 1) := by decide +kernel
theorem dL_law_1285 : decode cL_law 1285 = .ok (.iadd, 1) := by decide +kernel
theorem dL_law_1286 : decode cL_law 1286 = .ok (.iaload, 1) := by decide +kernel
theorem dL_law_1287 : decode cL_law 1287 = .ok (.aload_n 3, 1) := by decide +kernel
theorem dL_law_1288 : decode cL_law 1288 = .ok (.invokestatic 228, 3) := by decide +kernel
theorem dL_law_1291 : decode cL_law 1291 = .ok (.istore 6, 2) := by decide +kernel
theorem dL_law_1293 : decode cL_law 1293 = .ok (.aload_n 2, 1) := by decide +kernel
theorem dL_law_1294 : decode cL_law 1294 = .ok (.aload_n 0, 1) := by decide +kernel
theorem dL_law_1295 : decode cL_law 1295 = .ok (.iload 5, 2) := by decide +kernel
theorem dL_law_1297 : decode cL_law 1297 = .ok (.iconst 1, 1) := by decide +kernel
theorem dL_law_1298 : decode cL_law 1298 = .ok (.iadd, 1) := by decide +kernel
theorem dL_law_1299 : decode cL_law 1299 = .ok (.iaload, 1) := by decide +kernel
theorem dL_law_1300 : decode cL_law 1300 = .ok (.aload_n 0, 1) := by decide +kernel
theorem dL_law_1301 : decode cL_law 1301 = .ok (.iload 5, 2) := by decide +kernel
theorem dL_law_1303 : decode cL_law 1303 = .ok (.iconst 2, 1) := by decide +kernel
theorem dL_law_1304 : decode cL_law 1304 = .ok (.iadd, 1) := by decide +kernel
theorem dL_law_1305 : decode cL_law 1305 = .ok (.iaload, 1) := by decide +kernel
theorem dL_law_1306 : decode cL_law 1306 = .ok (.invokevirtual 230, 3) := by decide +kernel
theorem dL_law_1309 : decode cL_law 1309 = .ok (.istore 7, 2) := by decide +kernel
theorem dL_law_1311 : decode cL_law 1311 = .ok (.aload_n 2, 1) := by decide +kernel
theorem dL_law_1312 : decode cL_law 1312 = .ok (.invokevirtual 166, 3) := by decide +kernel
theorem dL_law_1315 : decode cL_law 1315 = .ok (.iload 6, 2) := by decide +kernel
theorem dL_law_1317 : decode cL_law 1317 = .ok (.if_icmp .eq 5, 3) := by decide +kernel
theorem dL_law_1320 : decode cL_law 1320 = .ok (.iconst 0, 1) := by decide +kernel
theorem dL_law_1321 : decode cL_law 1321 = .ok (.ireturn, 1) := by decide +kernel
theorem dL_law_1322 : decode cL_law 1322 = .ok (.iload 6, 2) := by decide +kernel
theorem dL_law_1324 : decode cL_law 1324 = .ok (.ifCond .ne 22, 3) := by decide +kernel
theorem dL_law_1327 : decode cL_law 1327 = .ok (.aload_n 3, 1) := by decide +kernel
theorem dL_law_1328 : decode cL_law 1328 = .ok (.iconst 0, 1) := by decide +kernel
theorem dL_law_1329 : decode cL_law 1329 = .ok (.laload, 1) := by decide +kernel
theorem dL_law_1330 : decode cL_law 1330 = .ok (.iload 7, 2) := by decide +kernel
theorem dL_law_1332 : decode cL_law 1332 = .ok (.ifCond .eq 7, 3) := by decide +kernel
theorem dL_law_1335 : decode cL_law 1335 = .ok (.lconst 1, 1) := by decide +kernel
theorem dL_law_1336 : decode cL_law 1336 = .ok (.goto 4, 3) := by decide +kernel
theorem dL_law_1339 : decode cL_law 1339 = .ok (.lconst 0, 1) := by decide +kernel
theorem dL_law_1340 : decode cL_law 1340 = .ok (.lcmp, 1) := by decide +kernel
theorem dL_law_1341 : decode cL_law 1341 = .ok (.ifCond .eq 5, 3) := by decide +kernel
theorem dL_law_1344 : decode cL_law 1344 = .ok (.iconst 0, 1) := by decide +kernel
theorem dL_law_1345 : decode cL_law 1345 = .ok (.ireturn, 1) := by decide +kernel
theorem dL_law_1346 : decode cL_law 1346 = .ok (.goto 1639, 3) := by decide +kernel
theorem dL_law_1349 : decode cL_law 1349 = .ok (.aload_n 1, 1) := by decide +kernel
theorem dL_law_1350 : decode cL_law 1350 = .ok (.invokevirtual 231, 3) := by decide +kernel
theorem dL_law_1353 : decode cL_law 1353 = .ok (.aload_n 2, 1) := by decide +kernel
theorem dL_law_1354 : decode cL_law 1354 = .ok (.invokevirtual 234, 3) := by decide +kernel
theorem dL_law_1357 : decode cL_law 1357 = .ok (.if_icmp .eq 1628, 3) := by decide +kernel
theorem dL_law_1360 : decode cL_law 1360 = .ok (.iconst 0, 1) := by decide +kernel
theorem dL_law_1361 : decode cL_law 1361 = .ok (.ireturn, 1) := by decide +kernel
theorem dL_law_1362 : decode cL_law 1362 = .ok (.aload_n 1, 1) := by decide +kernel
theorem dL_law_1363 : decode cL_law 1363 = .ok (.aload_n 0, 1) := by decide +kernel
theorem dL_law_1364 : decode cL_law 1364 = .ok (.iload 5, 2) := by decide +kernel
theorem dL_law_1366 : decode cL_law 1366 = .ok (.iconst 1, 1) := by decide +kernel
theorem dL_law_1367 : decode cL_law 1367 = .ok (.iadd, 1) := by decide +kernel
theorem dL_law_1368 : decode cL_law 1368 = .ok (.iaload, 1) := by decide +kernel
theorem dL_law_1369 : decode cL_law 1369 = .ok (.aload_n 3, 1) := by decide +kernel
theorem dL_law_1370 : decode cL_law 1370 = .ok (.invokestatic 235, 3) := by decide +kernel
theorem dL_law_1373 : decode cL_law 1373 = .ok (.istore 6, 2) := by decide +kernel
theorem dL_law_1375 : decode cL_law 1375 = .ok (.aload_n 2, 1) := by decide +kernel
theorem dL_law_1376 : decode cL_law 1376 = .ok (.aload_n 0, 1) := by decide +kernel
theorem dL_law_1377 : decode cL_law 1377 = .ok (.iload 5, 2) := by decide +kernel
theorem dL_law_1379 : decode cL_law 1379 = .ok (.iconst 1, 1) := by decide +kernel
theorem dL_law_1380 : decode cL_law 1380 = .ok (.iadd, 1) := by decide +kernel
theorem dL_law_1381 : decode cL_law 1381 = .ok (.iaload, 1) := by decide +kernel
theorem dL_law_1382 : decode cL_law 1382 = .ok (.invokevirtual 237, 3) := by decide +kernel
theorem dL_law_1385 : decode cL_law 1385 = .ok (.istore 7, 2) := by decide +kernel
theorem dL_law_1387 : decode cL_law 1387 = .ok (.aload_n 2, 1) := by decide +kernel
theorem dL_law_1388 : decode cL_law 1388 = .ok (.invokevirtual 166, 3) := by decide +kernel
theorem dL_law_1391 : decode cL_law 1391 = .ok (.iload 6, 2) := by decide +kernel
theorem dL_law_1393 : decode cL_law 1393 = .ok (.if_icmp .eq 5, 3) := by decide +kernel
theorem dL_law_1396 : decode cL_law 1396 = .ok (.iconst 0, 1) := by decide +kernel
theorem dL_law_1397 : decode cL_law 1397 = .ok (.ireturn, 1) := by decide +kernel
theorem dL_law_1398 : decode cL_law 1398 = .ok (.iload 6, 2) := by decide +kernel
theorem dL_law_1400 : decode cL_law 1400 = .ok (.ifCond .ne 15, 3) := by decide +kernel
theorem dL_law_1403 : decode cL_law 1403 = .ok (.aload_n 3, 1) := by decide +kernel
theorem dL_law_1404 : decode cL_law 1404 = .ok (.iconst 0, 1) := by decide +kernel
theorem dL_law_1405 : decode cL_law 1405 = .ok (.laload, 1) := by decide +kernel
theorem dL_law_1406 : decode cL_law 1406 = .ok (.iload 7, 2) := by decide +kernel
theorem dL_law_1408 : decode cL_law 1408 = .ok (.i2l, 1) := by decide +kernel
theorem dL_law_1409 : decode cL_law 1409 = .ok (.lcmp, 1) := by decide +kernel
theorem dL_law_1410 : decode cL_law 1410 = .ok (.ifCond .eq 5, 3) := by decide +kernel
theorem dL_law_1413 : decode cL_law 1413 = .ok (.iconst 0, 1) := by decide +kernel
theorem dL_law_1414 : decode cL_law 1414 = .ok (.ireturn, 1) := by decide +kernel
theorem dL_law_1415 : decode cL_law 1415 = .ok (.goto 1570, 3) := by decide +kernel
theorem dL_law_1418 : decode cL_law 1418 = .ok (.aload_n 1, 1) := by decide +kernel
theorem dL_law_1419 : decode cL_law 1419 = .ok (.aload_n 0, 1) := by decide +kernel
theorem dL_law_1420 : decode cL_law 1420 = .ok (.iload 5, 2) := by decide +kernel
theorem dL_law_1422 : decode cL_law 1422 = .ok (.iconst 1, 1) := by decide +kernel
theorem dL_law_1423 : decode cL_law 1423 = .ok (.iadd, 1) := by decide +kernel
theorem dL_law_1424 : decode cL_law 1424 = .ok (.iaload, 1) := by decide +kernel
theorem dL_law_1425 : decode cL_law 1425 = .ok (.aload_n 0, 1) := by decide +kernel
theorem dL_law_1426 : decode cL_law 1426 = .ok (.iload 5, 2) := by decide +kernel
theorem dL_law_1428 : decode cL_law 1428 = .ok (.iconst 2, 1) := by decide +kernel
theorem dL_law_1429 : decode cL_law 1429 = .ok (.iadd, 1) := by decide +kernel
theorem dL_law_1430 : decode cL_law 1430 = .ok (.iaload, 1) := by decide +kernel
theorem dL_law_1431 : decode cL_law 1431 = .ok (.aload_n 3, 1) := by decide +kernel
theorem dL_law_1432 : decode cL_law 1432 = .ok (.invokestatic 238, 3) := by decide +kernel
theorem dL_law_1435 : decode cL_law 1435 = .ok (.istore 6, 2) := by decide +kernel
theorem dL_law_1437 : decode cL_law 1437 = .ok (.aload_n 2, 1) := by decide +kernel
theorem dL_law_1438 : decode cL_law 1438 = .ok (.aload_n 0, 1) := by decide +kernel
theorem dL_law_1439 : decode cL_law 1439 = .ok (.iload 5, 2) := by decide +kernel
theorem dL_law_1441 : decode cL_law 1441 = .ok (.iconst 1, 1) := by decide +kernel
theorem dL_law_1442 : decode cL_law 1442 = .ok (.iadd, 1) := by decide +kernel
theorem dL_law_1443 : decode cL_law 1443 = .ok (.iaload, 1) := by decide +kernel
theorem dL_law_1444 : decode cL_law 1444 = .ok (.aload_n 0, 1) := by decide +kernel
theorem dL_law_1445 : decode cL_law 1445 = .ok (.iload 5, 2) := by decide +kernel
theorem dL_law_1447 : decode cL_law 1447 = .ok (.iconst 2, 1) := by decide +kernel
theorem dL_law_1448 : decode cL_law 1448 = .ok (.iadd, 1) := by decide +kernel
theorem dL_law_1449 : decode cL_law 1449 = .ok (.iaload, 1) := by decide +kernel
theorem dL_law_1450 : decode cL_law 1450 = .ok (.invokevirtual 240, 3) := by decide +kernel
theorem dL_law_1453 : decode cL_law 1453 = .ok (.istore 7, 2) := by decide +kernel
theorem dL_law_1455 : decode cL_law 1455 = .ok (.aload_n 2, 1) := by decide +kernel
theorem dL_law_1456 : decode cL_law 1456 = .ok (.invokevirtual 166, 3) := by decide +kernel
theorem dL_law_1459 : decode cL_law 1459 = .ok (.iload 6, 2) := by decide +kernel
theorem dL_law_1461 : decode cL_law 1461 = .ok (.if_icmp .eq 5, 3) := by decide +kernel
theorem dL_law_1464 : decode cL_law 1464 = .ok (.iconst 0, 1) := by decide +kernel
theorem dL_law_1465 : decode cL_law 1465 = .ok (.ireturn, 1) := by decide +kernel
theorem dL_law_1466 : decode cL_law 1466 = .ok (.iload 6, 2) := by decide +kernel
theorem dL_law_1468 : decode cL_law 1468 = .ok (.ifCond .ne 15, 3) := by decide +kernel
theorem dL_law_1471 : decode cL_law 1471 = .ok (.aload_n 3, 1) := by decide +kernel
theorem dL_law_1472 : decode cL_law 1472 = .ok (.iconst 0, 1) := by decide +kernel
theorem dL_law_1473 : decode cL_law 1473 = .ok (.laload, 1) := by decide +kernel
theorem dL_law_1474 : decode cL_law 1474 = .ok (.iload 7, 2) := by decide +kernel
theorem dL_law_1476 : decode cL_law 1476 = .ok (.i2l, 1) := by decide +kernel
theorem dL_law_1477 : decode cL_law 1477 = .ok (.lcmp, 1) := by decide +kernel
theorem dL_law_1478 : decode cL_law 1478 = .ok (.ifCond .eq 5, 3) := by decide +kernel
theorem dL_law_1481 : decode cL_law 1481 = .ok (.iconst 0, 1) := by decide +kernel
theorem dL_law_1482 : decode cL_law 1482 = .ok (.ireturn, 1) := by decide +kernel
theorem dL_law_1483 : decode cL_law 1483 = .ok (.goto 1502, 3) := by decide +kernel
theorem dL_law_1486 : decode cL_law 1486 = .ok (.aload_n 1, 1) := by decide +kernel
theorem dL_law_1487 : decode cL_law 1487 = .ok (.aload_n 0, 1) := by decide +kernel
theorem dL_law_1488 : decode cL_law 1488 = .ok (.iload 5, 2) := by decide +kernel
theorem dL_law_1490 : decode cL_law 1490 = .ok (.iconst 1, 1) := by decide +kernel
theorem dL_law_1491 : decode cL_law 1491 = .ok (.iadd, 1) := by decide +kernel
theorem dL_law_1492 : decode cL_law 1492 = .ok (.iaload, 1) := by decide +kernel
theorem dL_law_1493 : decode cL_law 1493 = .ok (.aload_n 3, 1) := by decide +kernel
theorem dL_law_1494 : decode cL_law 1494 = .ok (.invokestatic 241, 3) := by decide +kernel
theorem dL_law_1497 : decode cL_law 1497 = .ok (.istore 6, 2) := by decide +kernel
theorem dL_law_1499 : decode cL_law 1499 = .ok (.aload_n 2, 1) := by decide +kernel
theorem dL_law_1500 : decode cL_law 1500 = .ok (.aload_n 0, 1) := by decide +kernel
theorem dL_law_1501 : decode cL_law 1501 = .ok (.iload 5, 2) := by decide +kernel
theorem dL_law_1503 : decode cL_law 1503 = .ok (.iconst 1, 1) := by decide +kernel
theorem dL_law_1504 : decode cL_law 1504 = .ok (.iadd, 1) := by decide +kernel
theorem dL_law_1505 : decode cL_law 1505 = .ok (.iaload, 1) := by decide +kernel
theorem dL_law_1506 : decode cL_law 1506 = .ok (.invokevirtual 243, 3) := by decide +kernel
theorem dL_law_1509 : decode cL_law 1509 = .ok (.istore 7, 2) := by decide +kernel
theorem dL_law_1511 : decode cL_law 1511 = .ok (.aload_n 2, 1) := by decide +kernel
theorem dL_law_1512 : decode cL_law 1512 = .ok (.invokevirtual 166, 3) := by decide +kernel
theorem dL_law_1515 : decode cL_law 1515 = .ok (.iload 6, 2) := by decide +kernel
theorem dL_law_1517 : decode cL_law 1517 = .ok (.if_icmp .eq 5, 3) := by decide +kernel
theorem dL_law_1520 : decode cL_law 1520 = .ok (.iconst 0, 1) := by decide +kernel
theorem dL_law_1521 : decode cL_law 1521 = .ok (.ireturn, 1) := by decide +kernel
theorem dL_law_1522 : decode cL_law 1522 = .ok (.iload 6, 2) := by decide +kernel
theorem dL_law_1524 : decode cL_law 1524 = .ok (.ifCond .ne 15, 3) := by decide +kernel
theorem dL_law_1527 : decode cL_law 1527 = .ok (.aload_n 3, 1) := by decide +kernel
theorem dL_law_1528 : decode cL_law 1528 = .ok (.iconst 0, 1) := by decide +kernel
theorem dL_law_1529 : decode cL_law 1529 = .ok (.laload, 1) := by decide +kernel
theorem dL_law_1530 : decode cL_law 1530 = .ok (.iload 7, 2) := by decide +kernel
theorem dL_law_1532 : decode cL_law 1532 = .ok (.i2l, 1) := by decide +kernel
theorem dL_law_1533 : decode cL_law 1533 = .ok (.lcmp, 1) := by decide +kernel
theorem dL_law_1534 : decode cL_law 1534 = .ok (.ifCond .eq 5, 3) := by decide +kernel
theorem dL_law_1537 : decode cL_law 1537 = .ok (.iconst 0, 1) := by decide +kernel
theorem dL_law_1538 : decode cL_law 1538 = .ok (.ireturn, 1) := by decide +kernel
theorem dL_law_1539 : decode cL_law 1539 = .ok (.goto 1446, 3) := by decide +kernel
theorem dL_law_1542 : decode cL_law 1542 = .ok (.aload_n 1, 1) := by decide +kernel
theorem dL_law_1543 : decode cL_law 1543 = .ok (.aload_n 0, 1) := by decide +kernel
theorem dL_law_1544 : decode cL_law 1544 = .ok (.iload 5, 2) := by decide +kernel
theorem dL_law_1546 : decode cL_law 1546 = .ok (.iconst 1, 1) := by decide +kernel
theorem dL_law_1547 : decode cL_law 1547 = .ok (.iadd, 1) := by decide +kernel
theorem dL_law_1548 : decode cL_law 1548 = .ok (.iaload, 1) := by decide +kernel
theorem dL_law_1549 : decode cL_law 1549 = .ok (.aload_n 3, 1) := by decide +kernel
theorem dL_law_1550 : decode cL_law 1550 = .ok (.invokestatic 244, 3) := by decide +kernel
theorem dL_law_1553 : decode cL_law 1553 = .ok (.istore 6, 2) := by decide +kernel
theorem dL_law_1555 : decode cL_law 1555 = .ok (.aload_n 2, 1) := by decide +kernel
theorem dL_law_1556 : decode cL_law 1556 = .ok (.aload_n 0, 1) := by decide +kernel
theorem dL_law_1557 : decode cL_law 1557 = .ok (.iload 5, 2) := by decide +kernel
theorem dL_law_1559 : decode cL_law 1559 = .ok (.iconst 1, 1) := by decide +kernel
theorem dL_law_1560 : decode cL_law 1560 = .ok (.iadd, 1) := by decide +kernel
theorem dL_law_1561 : decode cL_law 1561 = .ok (.iaload, 1) := by decide +kernel
theorem dL_law_1562 : decode cL_law 1562 = .ok (.invokevirtual 246, 3) := by decide +kernel
theorem dL_law_1565 : decode cL_law 1565 = .ok (.istore 7, 2) := by decide +kernel
theorem dL_law_1567 : decode cL_law 1567 = .ok (.aload_n 2, 1) := by decide +kernel
theorem dL_law_1568 : decode cL_law 1568 = .ok (.invokevirtual 166, 3) := by decide +kernel
theorem dL_law_1571 : decode cL_law 1571 = .ok (.iload 6, 2) := by decide +kernel
theorem dL_law_1573 : decode cL_law 1573 = .ok (.if_icmp .eq 5, 3) := by decide +kernel
theorem dL_law_1576 : decode cL_law 1576 = .ok (.iconst 0, 1) := by decide +kernel
theorem dL_law_1577 : decode cL_law 1577 = .ok (.ireturn, 1) := by decide +kernel
theorem dL_law_1578 : decode cL_law 1578 = .ok (.iload 6, 2) := by decide +kernel
theorem dL_law_1580 : decode cL_law 1580 = .ok (.ifCond .ne 15, 3) := by decide +kernel
theorem dL_law_1583 : decode cL_law 1583 = .ok (.aload_n 3, 1) := by decide +kernel
theorem dL_law_1584 : decode cL_law 1584 = .ok (.iconst 0, 1) := by decide +kernel
theorem dL_law_1585 : decode cL_law 1585 = .ok (.laload, 1) := by decide +kernel
theorem dL_law_1586 : decode cL_law 1586 = .ok (.iload 7, 2) := by decide +kernel
theorem dL_law_1588 : decode cL_law 1588 = .ok (.i2l, 1) := by decide +kernel
theorem dL_law_1589 : decode cL_law 1589 = .ok (.lcmp, 1) := by decide +kernel
theorem dL_law_1590 : decode cL_law 1590 = .ok (.ifCond .eq 5, 3) := by decide +kernel
theorem dL_law_1593 : decode cL_law 1593 = .ok (.iconst 0, 1) := by decide +kernel
theorem dL_law_1594 : decode cL_law 1594 = .ok (.ireturn, 1) := by decide +kernel
theorem dL_law_1595 : decode cL_law 1595 = .ok (.goto 1390, 3) := by decide +kernel
theorem dL_law_1598 : decode cL_law 1598 = .ok (.aload_n 1, 1) := by decide +kernel
theorem dL_law_1599 : decode cL_law 1599 = .ok (.aload_n 0, 1) := by decide +kernel
theorem dL_law_1600 : decode cL_law 1600 = .ok (.iload 5, 2) := by decide +kernel
theorem dL_law_1602 : decode cL_law 1602 = .ok (.iconst 1, 1) := by decide +kernel
theorem dL_law_1603 : decode cL_law 1603 = .ok (.iadd, 1) := by decide +kernel
theorem dL_law_1604 : decode cL_law 1604 = .ok (.iaload, 1) := by decide +kernel
theorem dL_law_1605 : decode cL_law 1605 = .ok (.aload_n 3, 1) := by decide +kernel
theorem dL_law_1606 : decode cL_law 1606 = .ok (.invokestatic 247, 3) := by decide +kernel
theorem dL_law_1609 : decode cL_law 1609 = .ok (.istore 6, 2) := by decide +kernel
theorem dL_law_1611 : decode cL_law 1611 = .ok (.aload_n 2, 1) := by decide +kernel
theorem dL_law_1612 : decode cL_law 1612 = .ok (.aload_n 0, 1) := by decide +kernel
theorem dL_law_1613 : decode cL_law 1613 = .ok (.iload 5, 2) := by decide +kernel
theorem dL_law_1615 : decode cL_law 1615 = .ok (.iconst 1, 1) := by decide +kernel
theorem dL_law_1616 : decode cL_law 1616 = .ok (.iadd, 1) := by decide +kernel
theorem dL_law_1617 : decode cL_law 1617 = .ok (.iaload, 1) := by decide +kernel
theorem dL_law_1618 : decode cL_law 1618 = .ok (.invokevirtual 249, 3) := by decide +kernel
theorem dL_law_1621 : decode cL_law 1621 = .ok (.istore 7, 2) := by decide +kernel
theorem dL_law_1623 : decode cL_law 1623 = .ok (.aload_n 2, 1) := by decide +kernel
theorem dL_law_1624 : decode cL_law 1624 = .ok (.invokevirtual 166, 3) := by decide +kernel
theorem dL_law_1627 : decode cL_law 1627 = .ok (.iload 6, 2) := by decide +kernel
theorem dL_law_1629 : decode cL_law 1629 = .ok (.if_icmp .eq 5, 3) := by decide +kernel
theorem dL_law_1632 : decode cL_law 1632 = .ok (.iconst 0, 1) := by decide +kernel
theorem dL_law_1633 : decode cL_law 1633 = .ok (.ireturn, 1) := by decide +kernel
theorem dL_law_1634 : decode cL_law 1634 = .ok (.iload 6, 2) := by decide +kernel
theorem dL_law_1636 : decode cL_law 1636 = .ok (.ifCond .ne 22, 3) := by decide +kernel
theorem dL_law_1639 : decode cL_law 1639 = .ok (.aload_n 3, 1) := by decide +kernel
theorem dL_law_1640 : decode cL_law 1640 = .ok (.iconst 0, 1) := by decide +kernel
theorem dL_law_1641 : decode cL_law 1641 = .ok (.laload, 1) := by decide +kernel
theorem dL_law_1642 : decode cL_law 1642 = .ok (.iload 7, 2) := by decide +kernel
theorem dL_law_1644 : decode cL_law 1644 = .ok (.ifCond .eq 7, 3) := by decide +kernel
theorem dL_law_1647 : decode cL_law 1647 = .ok (.lconst 1, 1) := by decide +kernel
theorem dL_law_1648 : decode cL_law 1648 = .ok (.goto 4, 3) := by decide +kernel
theorem dL_law_1651 : decode cL_law 1651 = .ok (.lconst 0, 1) := by decide +kernel
theorem dL_law_1652 : decode cL_law 1652 = .ok (.lcmp, 1) := by decide +kernel
theorem dL_law_1653 : decode cL_law 1653 = .ok (.ifCond .eq 5, 3) := by decide +kernel
theorem dL_law_1656 : decode cL_law 1656 = .ok (.iconst 0, 1) := by decide +kernel
theorem dL_law_1657 : decode cL_law 1657 = .ok (.ireturn, 1) := by decide +kernel
theorem dL_law_1658 : decode cL_law 1658 = .ok (.goto 1327, 3) := by decide +kernel
theorem dL_law_1661 : decode cL_law 1661 = .ok (.aload_n 1, 1) := by decide +kernel
theorem dL_law_1662 : decode cL_law 1662 = .ok (.aload_n 0, 1) := by decide +kernel
theorem dL_law_1663 : decode cL_law 1663 = .ok (.iload 5, 2) := by decide +kernel
theorem dL_law_1665 : decode cL_law 1665 = .ok (.iconst 1, 1) := by decide +kernel
theorem dL_law_1666 : decode cL_law 1666 = .ok (.iadd, 1) := by decide +kernel
theorem dL_law_1667 : decode cL_law 1667 = .ok (.iaload, 1) := by decide +kernel
theorem dL_law_1668 : decode cL_law 1668 = .ok (.aload_n 3, 1) := by decide +kernel
theorem dL_law_1669 : decode cL_law 1669 = .ok (.invokestatic 250, 3) := by decide +kernel
theorem dL_law_1672 : decode cL_law 1672 = .ok (.istore 6, 2) := by decide +kernel
theorem dL_law_1674 : decode cL_law 1674 = .ok (.aload_n 2, 1) := by decide +kernel
theorem dL_law_1675 : decode cL_law 1675 = .ok (.aload_n 0, 1) := by decide +kernel
theorem dL_law_1676 : decode cL_law 1676 = .ok (.iload 5, 2) := by decide +kernel
theorem dL_law_1678 : decode cL_law 1678 = .ok (.iconst 1, 1) := by decide +kernel
theorem dL_law_1679 : decode cL_law 1679 = .ok (.iadd, 1) := by decide +kernel
theorem dL_law_1680 : decode cL_law 1680 = .ok (.iaload, 1) := by decide +kernel
theorem dL_law_1681 : decode cL_law 1681 = .ok (.invokevirtual 252, 3) := by decide +kernel
theorem dL_law_1684 : decode cL_law 1684 = .ok (.istore 7, 2) := by decide +kernel
theorem dL_law_1686 : decode cL_law 1686 = .ok (.aload_n 2, 1) := by decide +kernel
theorem dL_law_1687 : decode cL_law 1687 = .ok (.invokevirtual 166, 3) := by decide +kernel
theorem dL_law_1690 : decode cL_law 1690 = .ok (.iload 6, 2) := by decide +kernel
theorem dL_law_1692 : decode cL_law 1692 = .ok (.if_icmp .eq 5, 3) := by decide +kernel
theorem dL_law_1695 : decode cL_law 1695 = .ok (.iconst 0, 1) := by decide +kernel
theorem dL_law_1696 : decode cL_law 1696 = .ok (.ireturn, 1) := by decide +kernel
theorem dL_law_1697 : decode cL_law 1697 = .ok (.iload 6, 2) := by decide +kernel
theorem dL_law_1699 : decode cL_law 1699 = .ok (.ifCond .ne 22, 3) := by decide +kernel
theorem dL_law_1702 : decode cL_law 1702 = .ok (.aload_n 3, 1) := by decide +kernel
theorem dL_law_1703 : decode cL_law 1703 = .ok (.iconst 0, 1) := by decide +kernel
theorem dL_law_1704 : decode cL_law 1704 = .ok (.laload, 1) := by decide +kernel
theorem dL_law_1705 : decode cL_law 1705 = .ok (.iload 7, 2) := by decide +kernel
theorem dL_law_1707 : decode cL_law 1707 = .ok (.ifCond .eq 7, 3) := by decide +kernel
theorem dL_law_1710 : decode cL_law 1710 = .ok (.lconst 1, 1) := by decide +kernel
theorem dL_law_1711 : decode cL_law 1711 = .ok (.goto 4, 3) := by decide +kernel
theorem dL_law_1714 : decode cL_law 1714 = .ok (.lconst 0, 1) := by decide +kernel
theorem dL_law_1715 : decode cL_law 1715 = .ok (.lcmp, 1) := by decide +kernel
theorem dL_law_1716 : decode cL_law 1716 = .ok (.ifCond .eq 5, 3) := by decide +kernel
theorem dL_law_1719 : decode cL_law 1719 = .ok (.iconst 0, 1) := by decide +kernel
theorem dL_law_1720 : decode cL_law 1720 = .ok (.ireturn, 1) := by decide +kernel
theorem dL_law_1721 : decode cL_law 1721 = .ok (.goto 1264, 3) := by decide +kernel
theorem dL_law_1724 : decode cL_law 1724 = .ok (.aload_n 1, 1) := by decide +kernel
theorem dL_law_1725 : decode cL_law 1725 = .ok (.invokevirtual 253, 3) := by decide +kernel
theorem dL_law_1728 : decode cL_law 1728 = .ok (.aload_n 2, 1) := by decide +kernel
theorem dL_law_1729 : decode cL_law 1729 = .ok (.invokevirtual 256, 3) := by decide +kernel
theorem dL_law_1732 : decode cL_law 1732 = .ok (.if_icmp .eq 1253, 3) := by decide +kernel
theorem dL_law_1735 : decode cL_law 1735 = .ok (.iconst 0, 1) := by decide +kernel
theorem dL_law_1736 : decode cL_law 1736 = .ok (.ireturn, 1) := by decide +kernel
theorem dL_law_1737 : decode cL_law 1737 = .ok (.aload_n 1, 1) := by decide +kernel
theorem dL_law_1738 : decode cL_law 1738 = .ok (.invokevirtual 257, 3) := by decide +kernel
theorem dL_law_1741 : decode cL_law 1741 = .ok (.aload_n 2, 1) := by decide +kernel
theorem dL_law_1742 : decode cL_law 1742 = .ok (.invokevirtual 260, 3) := by decide +kernel
theorem dL_law_1745 : decode cL_law 1745 = .ok (.if_icmp .eq 1240, 3) := by decide +kernel
theorem dL_law_1748 : decode cL_law 1748 = .ok (.iconst 0, 1) := by decide +kernel
theorem dL_law_1749 : decode cL_law 1749 = .ok (.ireturn, 1) := by decide +kernel
theorem dL_law_1750 : decode cL_law 1750 = .ok (.aload_n 1, 1) := by decide +kernel
theorem dL_law_1751 : decode cL_law 1751 = .ok (.invokevirtual 261, 3) := by decide +kernel
theorem dL_law_1754 : decode cL_law 1754 = .ok (.aload_n 2, 1) := by decide +kernel
theorem dL_law_1755 : decode cL_law 1755 = .ok (.invokevirtual 264, 3) := by decide +kernel
theorem dL_law_1758 : decode cL_law 1758 = .ok (.if_icmp .eq 1227, 3) := by decide +kernel
theorem dL_law_1761 : decode cL_law 1761 = .ok (.iconst 0, 1) := by decide +kernel
theorem dL_law_1762 : decode cL_law 1762 = .ok (.ireturn, 1) := by decide +kernel
theorem dL_law_1763 : decode cL_law 1763 = .ok (.aload_n 1, 1) := by decide +kernel
theorem dL_law_1764 : decode cL_law 1764 = .ok (.invokevirtual 265, 3) := by decide +kernel
theorem dL_law_1767 : decode cL_law 1767 = .ok (.aload_n 2, 1) := by decide +kernel
theorem dL_law_1768 : decode cL_law 1768 = .ok (.invokevirtual 268, 3) := by decide +kernel
theorem dL_law_1771 : decode cL_law 1771 = .ok (.if_icmp .eq 1214, 3) := by decide +kernel
theorem dL_law_1774 : decode cL_law 1774 = .ok (.iconst 0, 1) := by decide +kernel
theorem dL_law_1775 : decode cL_law 1775 = .ok (.ireturn, 1) := by decide +kernel
theorem dL_law_1776 : decode cL_law 1776 = .ok (.aload_n 1, 1) := by decide +kernel
theorem dL_law_1777 : decode cL_law 1777 = .ok (.invokevirtual 269, 3) := by decide +kernel
theorem dL_law_1780 : decode cL_law 1780 = .ok (.aload_n 2, 1) := by decide +kernel
theorem dL_law_1781 : decode cL_law 1781 = .ok (.invokevirtual 272, 3) := by decide +kernel
theorem dL_law_1784 : decode cL_law 1784 = .ok (.if_icmp .eq 1201, 3) := by decide +kernel
theorem dL_law_1787 : decode cL_law 1787 = .ok (.iconst 0, 1) := by decide +kernel
theorem dL_law_1788 : decode cL_law 1788 = .ok (.ireturn, 1) := by decide +kernel
theorem dL_law_1789 : decode cL_law 1789 = .ok (.aload_n 1, 1) := by decide +kernel
theorem dL_law_1790 : decode cL_law 1790 = .ok (.invokevirtual 273, 3) := by decide +kernel
theorem dL_law_1793 : decode cL_law 1793 = .ok (.aload_n 2, 1) := by decide +kernel
theorem dL_law_1794 : decode cL_law 1794 = .ok (.invokevirtual 276, 3) := by decide +kernel
theorem dL_law_1797 : decode cL_law 1797 = .ok (.if_icmp .eq 1188, 3) := by decide +kernel
theorem dL_law_1800 : decode cL_law 1800 = .ok (.iconst 0, 1) := by decide +kernel
theorem dL_law_1801 : decode cL_law 1801 = .ok (.ireturn, 1) := by decide +kernel
theorem dL_law_1802 : decode cL_law 1802 = .ok (.aload_n 1, 1) := by decide +kernel
theorem dL_law_1803 : decode cL_law 1803 = .ok (.aload_n 0, 1) := by decide +kernel
theorem dL_law_1804 : decode cL_law 1804 = .ok (.iload 5, 2) := by decide +kernel
theorem dL_law_1806 : decode cL_law 1806 = .ok (.iconst 1, 1) := by decide +kernel
theorem dL_law_1807 : decode cL_law 1807 = .ok (.iadd, 1) := by decide +kernel
theorem dL_law_1808 : decode cL_law 1808 = .ok (.iaload, 1) := by decide +kernel
theorem dL_law_1809 : decode cL_law 1809 = .ok (.aload_n 3, 1) := by decide +kernel
theorem dL_law_1810 : decode cL_law 1810 = .ok (.invokestatic 277, 3) := by decide +kernel
theorem dL_law_1813 : decode cL_law 1813 = .ok (.istore 6, 2) := by decide +kernel
theorem dL_law_1815 : decode cL_law 1815 = .ok (.aload_n 2, 1) := by decide +kernel
theorem dL_law_1816 : decode cL_law 1816 = .ok (.aload_n 0, 1) := by decide +kernel
theorem dL_law_1817 : decode cL_law 1817 = .ok (.iload 5, 2) := by decide +kernel
theorem dL_law_1819 : decode cL_law 1819 = .ok (.iconst 1, 1) := by decide +kernel
theorem dL_law_1820 : decode cL_law 1820 = .ok (.iadd, 1) := by decide +kernel
theorem dL_law_1821 : decode cL_law 1821 = .ok (.iaload, 1) := by decide +kernel
theorem dL_law_1822 : decode cL_law 1822 = .ok (.invokevirtual 279, 3) := by decide +kernel
theorem dL_law_1825 : decode cL_law 1825 = .ok (.istore 7, 2) := by decide +kernel
theorem dL_law_1827 : decode cL_law 1827 = .ok (.aload_n 2, 1) := by decide +kernel
theorem dL_law_1828 : decode cL_law 1828 = .ok (.invokevirtual 166, 3) := by decide +kernel
theorem dL_law_1831 : decode cL_law 1831 = .ok (.iload 6, 2) := by decide +kernel
theorem dL_law_1833 : decode cL_law 1833 = .ok (.if_icmp .eq 5, 3) := by decide +kernel
theorem dL_law_1836 : decode cL_law 1836 = .ok (.iconst 0, 1) := by decide +kernel
theorem dL_law_1837 : decode cL_law 1837 = .ok (.ireturn, 1) := by decide +kernel
theorem dL_law_1838 : decode cL_law 1838 = .ok (.iload 6, 2) := by decide +kernel
theorem dL_law_1840 : decode cL_law 1840 = .ok (.ifCond .ne 22, 3) := by decide +kernel
theorem dL_law_1843 : decode cL_law 1843 = .ok (.aload_n 3, 1) := by decide +kernel
theorem dL_law_1844 : decode cL_law 1844 = .ok (.iconst 0, 1) := by decide +kernel
theorem dL_law_1845 : decode cL_law 1845 = .ok (.laload, 1) := by decide +kernel
theorem dL_law_1846 : decode cL_law 1846 = .ok (.iload 7, 2) := by decide +kernel
theorem dL_law_1848 : decode cL_law 1848 = .ok (.ifCond .eq 7, 3) := by decide +kernel
theorem dL_law_1851 : decode cL_law 1851 = .ok (.lconst 1, 1) := by decide +kernel
theorem dL_law_1852 : decode cL_law 1852 = .ok (.goto 4, 3) := by decide +kernel
theorem dL_law_1855 : decode cL_law 1855 = .ok (.lconst 0, 1) := by decide +kernel
theorem dL_law_1856 : decode cL_law 1856 = .ok (.lcmp, 1) := by decide +kernel
theorem dL_law_1857 : decode cL_law 1857 = .ok (.ifCond .eq 5, 3) := by decide +kernel
theorem dL_law_1860 : decode cL_law 1860 = .ok (.iconst 0, 1) := by decide +kernel
theorem dL_law_1861 : decode cL_law 1861 = .ok (.ireturn, 1) := by decide +kernel
theorem dL_law_1862 : decode cL_law 1862 = .ok (.goto 1123, 3) := by decide +kernel
theorem dL_law_1865 : decode cL_law 1865 = .ok (.aload_n 1, 1) := by decide +kernel
theorem dL_law_1866 : decode cL_law 1866 = .ok (.aload_n 0, 1) := by decide +kernel
theorem dL_law_1867 : decode cL_law 1867 = .ok (.iload 5, 2) := by decide +kernel
theorem dL_law_1869 : decode cL_law 1869 = .ok (.iconst 1, 1) := by decide +kernel
theorem dL_law_1870 : decode cL_law 1870 = .ok (.iadd, 1) := by decide +kernel
theorem dL_law_1871 : decode cL_law 1871 = .ok (.iaload, 1) := by decide +kernel
theorem dL_law_1872 : decode cL_law 1872 = .ok (.aload_n 3, 1) := by decide +kernel
theorem dL_law_1873 : decode cL_law 1873 = .ok (.invokestatic 280, 3) := by decide +kernel
theorem dL_law_1876 : decode cL_law 1876 = .ok (.istore 6, 2) := by decide +kernel
theorem dL_law_1878 : decode cL_law 1878 = .ok (.aload_n 2, 1) := by decide +kernel
theorem dL_law_1879 : decode cL_law 1879 = .ok (.aload_n 0, 1) := by decide +kernel
theorem dL_law_1880 : decode cL_law 1880 = .ok (.iload 5, 2) := by decide +kernel
theorem dL_law_1882 : decode cL_law 1882 = .ok (.iconst 1, 1) := by decide +kernel
theorem dL_law_1883 : decode cL_law 1883 = .ok (.iadd, 1) := by decide +kernel
theorem dL_law_1884 : decode cL_law 1884 = .ok (.iaload, 1) := by decide +kernel
theorem dL_law_1885 : decode cL_law 1885 = .ok (.invokevirtual 282, 3) := by decide +kernel
theorem dL_law_1888 : decode cL_law 1888 = .ok (.istore 7, 2) := by decide +kernel
theorem dL_law_1890 : decode cL_law 1890 = .ok (.aload_n 2, 1) := by decide +kernel
theorem dL_law_1891 : decode cL_law 1891 = .ok (.invokevirtual 166, 3) := by decide +kernel
theorem dL_law_1894 : decode cL_law 1894 = .ok (.iload 6, 2) := by decide +kernel
theorem dL_law_1896 : decode cL_law 1896 = .ok (.if_icmp .eq 5, 3) := by decide +kernel
theorem dL_law_1899 : decode cL_law 1899 = .ok (.iconst 0, 1) := by decide +kernel
theorem dL_law_1900 : decode cL_law 1900 = .ok (.ireturn, 1) := by decide +kernel
theorem dL_law_1901 : decode cL_law 1901 = .ok (.iload 6, 2) := by decide +kernel
theorem dL_law_1903 : decode cL_law 1903 = .ok (.ifCond .ne 22, 3) := by decide +kernel
theorem dL_law_1906 : decode cL_law 1906 = .ok (.aload_n 3, 1) := by decide +kernel
theorem dL_law_1907 : decode cL_law 1907 = .ok (.iconst 0, 1) := by decide +kernel
theorem dL_law_1908 : decode cL_law 1908 = .ok (.laload, 1) := by decide +kernel
theorem dL_law_1909 : decode cL_law 1909 = .ok (.iload 7, 2) := by decide +kernel
theorem dL_law_1911 : decode cL_law 1911 = .ok (.ifCond .eq 7, 3) := by decide +kernel
theorem dL_law_1914 : decode cL_law 1914 = .ok (.lconst 1, 1) := by decide +kernel
theorem dL_law_1915 : decode cL_law 1915 = .ok (.goto 4, 3) := by decide +kernel
theorem dL_law_1918 : decode cL_law 1918 = .ok (.lconst 0, 1) := by decide +kernel
theorem dL_law_1919 : decode cL_law 1919 = .ok (.lcmp, 1) := by decide +kernel
theorem dL_law_1920 : decode cL_law 1920 = .ok (.ifCond .eq 5, 3) := by decide +kernel
theorem dL_law_1923 : decode cL_law 1923 = .ok (.iconst 0, 1) := by decide +kernel
theorem dL_law_1924 : decode cL_law 1924 = .ok (.ireturn, 1) := by decide +kernel
theorem dL_law_1925 : decode cL_law 1925 = .ok (.goto 1060, 3) := by decide +kernel
theorem dL_law_1928 : decode cL_law 1928 = .ok (.aload_n 1, 1) := by decide +kernel
theorem dL_law_1929 : decode cL_law 1929 = .ok (.aload_n 0, 1) := by decide +kernel
theorem dL_law_1930 : decode cL_law 1930 = .ok (.iload 5, 2) := by decide +kernel
theorem dL_law_1932 : decode cL_law 1932 = .ok (.iconst 1, 1) := by decide +kernel
theorem dL_law_1933 : decode cL_law 1933 = .ok (.iadd, 1) := by decide +kernel
theorem dL_law_1934 : decode cL_law 1934 = .ok (.iaload, 1) := by decide +kernel
theorem dL_law_1935 : decode cL_law 1935 = .ok (.aload_n 0, 1) := by decide +kernel
theorem dL_law_1936 : decode cL_law 1936 = .ok (.iload 5, 2) := by decide +kernel
theorem dL_law_1938 : decode cL_law 1938 = .ok (.iconst 2, 1) := by decide +kernel
theorem dL_law_1939 : decode cL_law 1939 = .ok (.iadd, 1) := by decide +kernel
theorem dL_law_1940 : decode cL_law 1940 = .ok (.iaload, 1) := by decide +kernel
theorem dL_law_1941 : decode cL_law 1941 = .ok (.aload_n 3, 1) := by decide +kernel
theorem dL_law_1942 : decode cL_law 1942 = .ok (.invokestatic 283, 3) := by decide +kernel
theorem dL_law_1945 : decode cL_law 1945 = .ok (.istore 6, 2) := by decide +kernel
theorem dL_law_1947 : decode cL_law 1947 = .ok (.aload_n 2, 1) := by decide +kernel
theorem dL_law_1948 : decode cL_law 1948 = .ok (.aload_n 0, 1) := by decide +kernel
theorem dL_law_1949 : decode cL_law 1949 = .ok (.iload 5, 2) := by decide +kernel
theorem dL_law_1951 : decode cL_law 1951 = .ok (.iconst 1, 1) := by decide +kernel
theorem dL_law_1952 : decode cL_law 1952 = .ok (.iadd, 1) := by decide +kernel
theorem dL_law_1953 : decode cL_law 1953 = .ok (.iaload, 1) := by decide +kernel
theorem dL_law_1954 : decode cL_law 1954 = .ok (.aload_n 0, 1) := by decide +kernel
theorem dL_law_1955 : decode cL_law 1955 = .ok (.iload 5, 2) := by decide +kernel
theorem dL_law_1957 : decode cL_law 1957 = .ok (.iconst 2, 1) := by decide +kernel
theorem dL_law_1958 : decode cL_law 1958 = .ok (.iadd, 1) := by decide +kernel
theorem dL_law_1959 : decode cL_law 1959 = .ok (.iaload, 1) := by decide +kernel
theorem dL_law_1960 : decode cL_law 1960 = .ok (.invokevirtual 285, 3) := by decide +kernel
theorem dL_law_1963 : decode cL_law 1963 = .ok (.istore 7, 2) := by decide +kernel
theorem dL_law_1965 : decode cL_law 1965 = .ok (.aload_n 2, 1) := by decide +kernel
theorem dL_law_1966 : decode cL_law 1966 = .ok (.invokevirtual 166, 3) := by decide +kernel
theorem dL_law_1969 : decode cL_law 1969 = .ok (.iload 6, 2) := by decide +kernel
theorem dL_law_1971 : decode cL_law 1971 = .ok (.if_icmp .eq 5, 3) := by decide +kernel
theorem dL_law_1974 : decode cL_law 1974 = .ok (.iconst 0, 1) := by decide +kernel
theorem dL_law_1975 : decode cL_law 1975 = .ok (.ireturn, 1) := by decide +kernel
theorem dL_law_1976 : decode cL_law 1976 = .ok (.iload 6, 2) := by decide +kernel
theorem dL_law_1978 : decode cL_law 1978 = .ok (.ifCond .ne 22, 3) := by decide +kernel
theorem dL_law_1981 : decode cL_law 1981 = .ok (.aload_n 3, 1) := by decide +kernel
theorem dL_law_1982 : decode cL_law 1982 = .ok (.iconst 0, 1) := by decide +kernel
theorem dL_law_1983 : decode cL_law 1983 = .ok (.laload, 1) := by decide +kernel
theorem dL_law_1984 : decode cL_law 1984 = .ok (.iload 7, 2) := by decide +kernel
theorem dL_law_1986 : decode cL_law 1986 = .ok (.ifCond .eq 7, 3) := by decide +kernel
theorem dL_law_1989 : decode cL_law 1989 = .ok (.lconst 1, 1) := by decide +kernel
theorem dL_law_1990 : decode cL_law 1990 = .ok (.goto 4, 3) := by decide +kernel
theorem dL_law_1993 : decode cL_law 1993 = .ok (.lconst 0, 1) := by decide +kernel
theorem dL_law_1994 : decode cL_law 1994 = .ok (.lcmp, 1) := by decide +kernel
theorem dL_law_1995 : decode cL_law 1995 = .ok (.ifCond .eq 5, 3) := by decide +kernel
theorem dL_law_1998 : decode cL_law 1998 = .ok (.iconst 0, 1) := by decide +kernel
theorem dL_law_1999 : decode cL_law 1999 = .ok (.ireturn, 1) := by decide +kernel
theorem dL_law_2000 : decode cL_law 2000 = .ok (.goto 985, 3) := by decide +kernel
theorem dL_law_2003 : decode cL_law 2003 = .ok (.aload_n 1, 1) := by decide +kernel
theorem dL_law_2004 : decode cL_law 2004 = .ok (.invokevirtual 286, 3) := by decide +kernel
theorem dL_law_2007 : decode cL_law 2007 = .ok (.aload_n 2, 1) := by decide +kernel
theorem dL_law_2008 : decode cL_law 2008 = .ok (.invokevirtual 290, 3) := by decide +kernel
theorem dL_law_2011 : decode cL_law 2011 = .ok (.if_icmp .eq 974, 3) := by decide +kernel
theorem dL_law_2014 : decode cL_law 2014 = .ok (.iconst 0, 1) := by decide +kernel
theorem dL_law_2015 : decode cL_law 2015 = .ok (.ireturn, 1) := by decide +kernel
theorem dL_law_2016 : decode cL_law 2016 = .ok (.aload_n 1, 1) := by decide +kernel
theorem dL_law_2017 : decode cL_law 2017 = .ok (.invokevirtual 291, 3) := by decide +kernel
theorem dL_law_2020 : decode cL_law 2020 = .ok (.aload_n 2, 1) := by decide +kernel
theorem dL_law_2021 : decode cL_law 2021 = .ok (.invokevirtual 294, 3) := by decide +kernel
theorem dL_law_2024 : decode cL_law 2024 = .ok (.if_icmp .eq 961, 3) := by decide +kernel
theorem dL_law_2027 : decode cL_law 2027 = .ok (.iconst 0, 1) := by decide +kernel
theorem dL_law_2028 : decode cL_law 2028 = .ok (.ireturn, 1) := by decide +kernel
theorem dL_law_2029 : decode cL_law 2029 = .ok (.aload_n 1, 1) := by decide +kernel
theorem dL_law_2030 : decode cL_law 2030 = .ok (.aload_n 3, 1) := by decide +kernel
theorem dL_law_2031 : decode cL_law 2031 = .ok (.invokestatic 295, 3) := by decide +kernel
theorem dL_law_2034 : decode cL_law 2034 = .ok (.istore 6, 2) := by decide +kernel
theorem dL_law_2036 : decode cL_law 2036 = .ok (.aload_n 2, 1) := by decide +kernel
theorem dL_law_2037 : decode cL_law 2037 = .ok (.invokevirtual 297, 3) := by decide +kernel
theorem dL_law_2040 : decode cL_law 2040 = .ok (.istore 7, 2) := by decide +kernel
theorem dL_law_2042 : decode cL_law 2042 = .ok (.aload_n 2, 1) := by decide +kernel
theorem dL_law_2043 : decode cL_law 2043 = .ok (.invokevirtual 166, 3) := by decide +kernel
theorem dL_law_2046 : decode cL_law 2046 = .ok (.iload 6, 2) := by decide +kernel
theorem dL_law_2048 : decode cL_law 2048 = .ok (.if_icmp .eq 5, 3) := by decide +kernel
theorem dL_law_2051 : decode cL_law 2051 = .ok (.iconst 0, 1) := by decide +kernel
theorem dL_law_2052 : decode cL_law 2052 = .ok (.ireturn, 1) := by decide +kernel
theorem dL_law_2053 : decode cL_law 2053 = .ok (.iload 6, 2) := by decide +kernel
theorem dL_law_2055 : decode cL_law 2055 = .ok (.ifCond .ne 15, 3) := by decide +kernel
theorem dL_law_2058 : decode cL_law 2058 = .ok (.aload_n 3, 1) := by decide +kernel
theorem dL_law_2059 : decode cL_law 2059 = .ok (.iconst 0, 1) := by decide +kernel
theorem dL_law_2060 : decode cL_law 2060 = .ok (.laload, 1) := by decide +kernel
theorem dL_law_2061 : decode cL_law 2061 = .ok (.iload 7, 2) := by decide +kernel
theorem dL_law_2063 : decode cL_law 2063 = .ok (.i2l, 1) := by decide +kernel
theorem dL_law_2064 : decode cL_law 2064 = .ok (.lcmp, 1) := by decide +kernel
theorem dL_law_2065 : decode cL_law 2065 = .ok (.ifCond .eq 5, 3) := by decide +kernel
theorem dL_law_2068 : decode cL_law 2068 = .ok (.iconst 0, 1) := by decide +kernel
theorem dL_law_2069 : decode cL_law 2069 = .ok (.ireturn, 1) := by decide +kernel
theorem dL_law_2070 : decode cL_law 2070 = .ok (.goto 915, 3) := by decide +kernel
theorem dL_law_2073 : decode cL_law 2073 = .ok (.aload_n 1, 1) := by decide +kernel
theorem dL_law_2074 : decode cL_law 2074 = .ok (.aload_n 0, 1) := by decide +kernel
theorem dL_law_2075 : decode cL_law 2075 = .ok (.iload 5, 2) := by decide +kernel
theorem dL_law_2077 : decode cL_law 2077 = .ok (.iconst 1, 1) := by decide +kernel
theorem dL_law_2078 : decode cL_law 2078 = .ok (.iadd, 1) := by decide +kernel
theorem dL_law_2079 : decode cL_law 2079 = .ok (.iaload, 1) := by decide +kernel
theorem dL_law_2080 : decode cL_law 2080 = .ok (.aload_n 0, 1) := by decide +kernel
theorem dL_law_2081 : decode cL_law 2081 = .ok (.iload 5, 2) := by decide +kernel
theorem dL_law_2083 : decode cL_law 2083 = .ok (.iconst 2, 1) := by decide +kernel
theorem dL_law_2084 : decode cL_law 2084 = .ok (.iadd, 1) := by decide +kernel
theorem dL_law_2085 : decode cL_law 2085 = .ok (.iaload, 1) := by decide +kernel
theorem dL_law_2086 : decode cL_law 2086 = .ok (.aload_n 3, 1) := by decide +kernel
theorem dL_law_2087 : decode cL_law 2087 = .ok (.invokestatic 298, 3) := by decide +kernel
theorem dL_law_2090 : decode cL_law 2090 = .ok (.istore 6, 2) := by decide +kernel
theorem dL_law_2092 : decode cL_law 2092 = .ok (.aload_n 2, 1) := by decide +kernel
theorem dL_law_2093 : decode cL_law 2093 = .ok (.aload_n 0, 1) := by decide +kernel
theorem dL_law_2094 : decode cL_law 2094 = .ok (.iload 5, 2) := by decide +kernel
theorem dL_law_2096 : decode cL_law 2096 = .ok (.iconst 1, 1) := by decide +kernel
theorem dL_law_2097 : decode cL_law 2097 = .ok (.iadd, 1) := by decide +kernel
theorem dL_law_2098 : decode cL_law 2098 = .ok (.iaload, 1) := by decide +kernel
theorem dL_law_2099 : decode cL_law 2099 = .ok (.aload_n 0, 1) := by decide +kernel
theorem dL_law_2100 : decode cL_law 2100 = .ok (.iload 5, 2) := by decide +kernel
theorem dL_law_2102 : decode cL_law 2102 = .ok (.iconst 2, 1) := by decide +kernel
theorem dL_law_2103 : decode cL_law 2103 = .ok (.iadd, 1) := by decide +kernel
theorem dL_law_2104 : decode cL_law 2104 = .ok (.iaload, 1) := by decide +kernel
theorem dL_law_2105 : decode cL_law 2105 = .ok (.invokevirtual 300, 3) := by decide +kernel
theorem dL_law_2108 : decode cL_law 2108 = .ok (.istore 7, 2) := by decide +kernel
theorem dL_law_2110 : decode cL_law 2110 = .ok (.aload_n 2, 1) := by decide +kernel
theorem dL_law_2111 : decode cL_law 2111 = .ok (.invokevirtual 166, 3) := by decide +kernel
theorem dL_law_2114 : decode cL_law 2114 = .ok (.iload 6, 2) := by decide +kernel
theorem dL_law_2116 : decode cL_law 2116 = .ok (.if_icmp .eq 5, 3) := by decide +kernel
theorem dL_law_2119 : decode cL_law 2119 = .ok (.iconst 0, 1) := by decide +kernel
theorem dL_law_2120 : decode cL_law 2120 = .ok (.ireturn, 1) := by decide +kernel
theorem dL_law_2121 : decode cL_law 2121 = .ok (.iload 6, 2) := by decide +kernel
theorem dL_law_2123 : decode cL_law 2123 = .ok (.ifCond .ne 15, 3) := by decide +kernel
theorem dL_law_2126 : decode cL_law 2126 = .ok (.aload_n 3, 1) := by decide +kernel
theorem dL_law_2127 : decode cL_law 2127 = .ok (.iconst 0, 1) := by decide +kernel
theorem dL_law_2128 : decode cL_law 2128 = .ok (.laload, 1) := by decide +kernel
theorem dL_law_2129 : decode cL_law 2129 = .ok (.iload 7, 2) := by decide +kernel
theorem dL_law_2131 : decode cL_law 2131 = .ok (.i2l, 1) := by decide +kernel
theorem dL_law_2132 : decode cL_law 2132 = .ok (.lcmp, 1) := by decide +kernel
theorem dL_law_2133 : decode cL_law 2133 = .ok (.ifCond .eq 5, 3) := by decide +kernel
theorem dL_law_2136 : decode cL_law 2136 = .ok (.iconst 0, 1) := by decide +kernel
theorem dL_law_2137 : decode cL_law 2137 = .ok (.ireturn, 1) := by decide +kernel
theorem dL_law_2138 : decode cL_law 2138 = .ok (.goto 847, 3) := by decide +kernel
theorem dL_law_2141 : decode cL_law 2141 = .ok (.aload_n 1, 1) := by decide +kernel
theorem dL_law_2142 : decode cL_law 2142 = .ok (.aload_n 0, 1) := by decide +kernel
theorem dL_law_2143 : decode cL_law 2143 = .ok (.iload 5, 2) := by decide +kernel
theorem dL_law_2145 : decode cL_law 2145 = .ok (.iconst 1, 1) := by decide +kernel
theorem dL_law_2146 : decode cL_law 2146 = .ok (.iadd, 1) := by decide +kernel
theorem dL_law_2147 : decode cL_law 2147 = .ok (.iaload, 1) := by decide +kernel
theorem dL_law_2148 : decode cL_law 2148 = .ok (.aload_n 3, 1) := by decide +kernel
theorem dL_law_2149 : decode cL_law 2149 = .ok (.invokestatic 301, 3) := by decide +kernel
theorem dL_law_2152 : decode cL_law 2152 = .ok (.istore 6, 2) := by decide +kernel
theorem dL_law_2154 : decode cL_law 2154 = .ok (.aload_n 2, 1) := by decide +kernel
theorem dL_law_2155 : decode cL_law 2155 = .ok (.aload_n 0, 1) := by decide +kernel
theorem dL_law_2156 : decode cL_law 2156 = .ok (.iload 5, 2) := by decide +kernel
theorem dL_law_2158 : decode cL_law 2158 = .ok (.iconst 1, 1) := by decide +kernel
theorem dL_law_2159 : decode cL_law 2159 = .ok (.iadd, 1) := by decide +kernel
theorem dL_law_2160 : decode cL_law 2160 = .ok (.iaload, 1) := by decide +kernel
theorem dL_law_2161 : decode cL_law 2161 = .ok (.invokevirtual 303, 3) := by decide +kernel
theorem dL_law_2164 : decode cL_law 2164 = .ok (.istore 7, 2) := by decide +kernel
theorem dL_law_2166 : decode cL_law 2166 = .ok (.aload_n 2, 1) := by decide +kernel
theorem dL_law_2167 : decode cL_law 2167 = .ok (.invokevirtual 166, 3) := by decide +kernel
theorem dL_law_2170 : decode cL_law 2170 = .ok (.iload 6, 2) := by decide +kernel
theorem dL_law_2172 : decode cL_law 2172 = .ok (.if_icmp .eq 5, 3) := by decide +kernel
theorem dL_law_2175 : decode cL_law 2175 = .ok (.iconst 0, 1) := by decide +kernel
theorem dL_law_2176 : decode cL_law 2176 = .ok (.ireturn, 1) := by decide +kernel
theorem dL_law_2177 : decode cL_law 2177 = .ok (.iload 6, 2) := by decide +kernel
theorem dL_law_2179 : decode cL_law 2179 = .ok (.ifCond .ne 15, 3) := by decide +kernel
theorem dL_law_2182 : decode cL_law 2182 = .ok (.aload_n 3, 1) := by decide +kernel
theorem dL_law_2183 : decode cL_law 2183 = .ok (.iconst 0, 1) := by decide +kernel
theorem dL_law_2184 : decode cL_law 2184 = .ok (.laload, 1) := by decide +kernel
theorem dL_law_2185 : decode cL_law 2185 = .ok (.iload 7, 2) := by decide +kernel
theorem dL_law_2187 : decode cL_law 2187 = .ok (.i2l, 1) := by decide +kernel
theorem dL_law_2188 : decode cL_law 2188 = .ok (.lcmp, 1) := by decide +kernel
theorem dL_law_2189 : decode cL_law 2189 = .ok (.ifCond .eq 5, 3) := by decide +kernel
theorem dL_law_2192 : decode cL_law 2192 = .ok (.iconst 0, 1) := by decide +kernel
theorem dL_law_2193 : decode cL_law 2193 = .ok (.ireturn, 1) := by decide +kernel
theorem dL_law_2194 : decode cL_law 2194 = .ok (.goto 791, 3) := by decide +kernel
theorem dL_law_2197 : decode cL_law 2197 = .ok (.aload_n 1, 1) := by decide +kernel
theorem dL_law_2198 : decode cL_law 2198 = .ok (.invokevirtual 304, 3) := by decide +kernel
theorem dL_law_2201 : decode cL_law 2201 = .ok (.aload_n 2, 1) := by decide +kernel
theorem dL_law_2202 : decode cL_law 2202 = .ok (.invokevirtual 307, 3) := by decide +kernel
theorem dL_law_2205 : decode cL_law 2205 = .ok (.if_icmp .eq 780, 3) := by decide +kernel
theorem dL_law_2208 : decode cL_law 2208 = .ok (.iconst 0, 1) := by decide +kernel
theorem dL_law_2209 : decode cL_law 2209 = .ok (.ireturn, 1) := by decide +kernel
theorem dL_law_2210 : decode cL_law 2210 = .ok (.aload_n 1, 1) := by decide +kernel
theorem dL_law_2211 : decode cL_law 2211 = .ok (.invokevirtual 308, 3) := by decide +kernel
theorem dL_law_2214 : decode cL_law 2214 = .ok (.aload_n 2, 1) := by decide +kernel
theorem dL_law_2215 : decode cL_law 2215 = .ok (.invokevirtual 311, 3) := by decide +kernel
theorem dL_law_2218 : decode cL_law 2218 = .ok (.if_icmp .eq 767, 3) := by decide +kernel
theorem dL_law_2221 : decode cL_law 2221 = .ok (.iconst 0, 1) := by decide +kernel
theorem dL_law_2222 : decode cL_law 2222 = .ok (.ireturn, 1) := by decide +kernel
theorem dL_law_2223 : decode cL_law 2223 = .ok (.aload_n 1, 1) := by decide +kernel
theorem dL_law_2224 : decode cL_law 2224 = .ok (.aload_n 0, 1) := by decide +kernel
theorem dL_law_2225 : decode cL_law 2225 = .ok (.iload 5, 2) := by decide +kernel
theorem dL_law_2227 : decode cL_law 2227 = .ok (.iconst 1, 1) := by decide +kernel
theorem dL_law_2228 : decode cL_law 2228 = .ok (.iadd, 1) := by decide +kernel
theorem dL_law_2229 : decode cL_law 2229 = .ok (.iaload, 1) := by decide +kernel
theorem dL_law_2230 : decode cL_law 2230 = .ok (.aload_n 3, 1) := by decide +kernel
theorem dL_law_2231 : decode cL_law 2231 = .ok (.invokestatic 312, 3) := by decide +kernel
theorem dL_law_2234 : decode cL_law 2234 = .ok (.istore 6, 2) := by decide +kernel
theorem dL_law_2236 : decode cL_law 2236 = .ok (.aload_n 2, 1) := by decide +kernel
theorem dL_law_2237 : decode cL_law 2237 = .ok (.aload_n 0, 1) := by decide +kernel
theorem dL_law_2238 : decode cL_law 2238 = .ok (.iload 5, 2) := by decide +kernel
theorem dL_law_2240 : decode cL_law 2240 = .ok (.iconst 1, 1) := by decide +kernel
theorem dL_law_2241 : decode cL_law 2241 = .ok (.iadd, 1) := by decide +kernel
theorem dL_law_2242 : decode cL_law 2242 = .ok (.iaload, 1) := by decide +kernel
theorem dL_law_2243 : decode cL_law 2243 = .ok (.invokevirtual 314, 3) := by decide +kernel
theorem dL_law_2246 : decode cL_law 2246 = .ok (.istore 7, 2) := by decide +kernel
theorem dL_law_2248 : decode cL_law 2248 = .ok (.aload_n 2, 1) := by decide +kernel
theorem dL_law_2249 : decode cL_law 2249 = .ok (.invokevirtual 166, 3) := by decide +kernel
theorem dL_law_2252 : decode cL_law 2252 = .ok (.iload 6, 2) := by decide +kernel
theorem dL_law_2254 : decode cL_law 2254 = .ok (.if_icmp .eq 5, 3) := by decide +kernel
theorem dL_law_2257 : decode cL_law 2257 = .ok (.iconst 0, 1) := by decide +kernel
theorem dL_law_2258 : decode cL_law 2258 = .ok (.ireturn, 1) := by decide +kernel
theorem dL_law_2259 : decode cL_law 2259 = .ok (.iload 6, 2) := by decide +kernel
theorem dL_law_2261 : decode cL_law 2261 = .ok (.ifCond .ne 15, 3) := by decide +kernel
theorem dL_law_2264 : decode cL_law 2264 = .ok (.aload_n 3, 1) := by decide +kernel
theorem dL_law_2265 : decode cL_law 2265 = .ok (.iconst 0, 1) := by decide +kernel
theorem dL_law_2266 : decode cL_law 2266 = .ok (.laload, 1) := by decide +kernel
theorem dL_law_2267 : decode cL_law 2267 = .ok (.iload 7, 2) := by decide +kernel
theorem dL_law_2269 : decode cL_law 2269 = .ok (.i2l, 1) := by decide +kernel
theorem dL_law_2270 : decode cL_law 2270 = .ok (.lcmp, 1) := by decide +kernel
theorem dL_law_2271 : decode cL_law 2271 = .ok (.ifCond .eq 5, 3) := by decide +kernel
theorem dL_law_2274 : decode cL_law 2274 = .ok (.iconst 0, 1) := by decide +kernel
theorem dL_law_2275 : decode cL_law 2275 = .ok (.ireturn, 1) := by decide +kernel
theorem dL_law_2276 : decode cL_law 2276 = .ok (.goto 709, 3) := by decide +kernel
theorem dL_law_2279 : decode cL_law 2279 = .ok (.aload_n 1, 1) := by decide +kernel
theorem dL_law_2280 : decode cL_law 2280 = .ok (.aload_n 0, 1) := by decide +kernel
theorem dL_law_2281 : decode cL_law 2281 = .ok (.iload 5, 2) := by decide +kernel
theorem dL_law_2283 : decode cL_law 2283 = .ok (.iconst 1, 1) := by decide +kernel
theorem dL_law_2284 : decode cL_law 2284 = .ok (.iadd, 1) := by decide +kernel
theorem dL_law_2285 : decode cL_law 2285 = .ok (.iaload, 1) := by decide +kernel
theorem dL_law_2286 : decode cL_law 2286 = .ok (.aload_n 3, 1) := by decide +kernel
theorem dL_law_2287 : decode cL_law 2287 = .ok (.invokestatic 315, 3) := by decide +kernel
theorem dL_law_2290 : decode cL_law 2290 = .ok (.istore 6, 2) := by decide +kernel
theorem dL_law_2292 : decode cL_law 2292 = .ok (.aload_n 2, 1) := by decide +kernel
theorem dL_law_2293 : decode cL_law 2293 = .ok (.aload_n 0, 1) := by decide +kernel
theorem dL_law_2294 : decode cL_law 2294 = .ok (.iload 5, 2) := by decide +kernel
theorem dL_law_2296 : decode cL_law 2296 = .ok (.iconst 1, 1) := by decide +kernel
theorem dL_law_2297 : decode cL_law 2297 = .ok (.iadd, 1) := by decide +kernel
theorem dL_law_2298 : decode cL_law 2298 = .ok (.iaload, 1) := by decide +kernel
theorem dL_law_2299 : decode cL_law 2299 = .ok (.invokevirtual 317, 3) := by decide +kernel
theorem dL_law_2302 : decode cL_law 2302 = .ok (.istore 7, 2) := by decide +kernel
theorem dL_law_2304 : decode cL_law 2304 = .ok (.aload_n 2, 1) := by decide +kernel
theorem dL_law_2305 : decode cL_law 2305 = .ok (.invokevirtual 166, 3) := by decide +kernel
theorem dL_law_2308 : decode cL_law 2308 = .ok (.iload 6, 2) := by decide +kernel
theorem dL_law_2310 : decode cL_law 2310 = .ok (.if_icmp .eq 5, 3) := by decide +kernel
theorem dL_law_2313 : decode cL_law 2313 = .ok (.iconst 0, 1) := by decide +kernel
theorem dL_law_2314 : decode cL_law 2314 = .ok (.ireturn, 1) := by decide +kernel
theorem dL_law_2315 : decode cL_law 2315 = .ok (.iload 6, 2) := by decide +kernel
theorem dL_law_2317 : decode cL_law 2317 = .ok (.ifCond .ne 22, 3) := by decide +kernel
theorem dL_law_2320 : decode cL_law 2320 = .ok (.aload_n 3, 1) := by decide +kernel
theorem dL_law_2321 : decode cL_law 2321 = .ok (.iconst 0, 1) := by decide +kernel
theorem dL_law_2322 : decode cL_law 2322 = .ok (.laload, 1) := by decide +kernel
theorem dL_law_2323 : decode cL_law 2323 = .ok (.iload 7, 2) := by decide +kernel
theorem dL_law_2325 : decode cL_law 2325 = .ok (.ifCond .eq 7, 3) := by decide +kernel
theorem dL_law_2328 : decode cL_law 2328 = .ok (.lconst 1, 1) := by decide +kernel
theorem dL_law_2329 : decode cL_law 2329 = .ok (.goto 4, 3) := by decide +kernel
theorem dL_law_2332 : decode cL_law 2332 = .ok (.lconst 0, 1) := by decide +kernel
theorem dL_law_2333 : decode cL_law 2333 = .ok (.lcmp, 1) := by decide +kernel
theorem dL_law_2334 : decode cL_law 2334 = .ok (.ifCond .eq 5, 3) := by decide +kernel
theorem dL_law_2337 : decode cL_law 2337 = .ok (.iconst 0, 1) := by decide +kernel
theorem dL_law_2338 : decode cL_law 2338 = .ok (.ireturn, 1) := by decide +kernel
theorem dL_law_2339 : decode cL_law 2339 = .ok (.goto 646, 3) := by decide +kernel
theorem dL_law_2342 : decode cL_law 2342 = .ok (.aload_n 1, 1) := by decide +kernel
theorem dL_law_2343 : decode cL_law 2343 = .ok (.invokevirtual 318, 3) := by decide +kernel
theorem dL_law_2346 : decode cL_law 2346 = .ok (.aload_n 2, 1) := by decide +kernel
theorem dL_law_2347 : decode cL_law 2347 = .ok (.invokevirtual 321, 3) := by decide +kernel
theorem dL_law_2350 : decode cL_law 2350 = .ok (.if_icmp .eq 635, 3) := by decide +kernel
theorem dL_law_2353 : decode cL_law 2353 = .ok (.iconst 0, 1) := by decide +kernel
theorem dL_law_2354 : decode cL_law 2354 = .ok (.ireturn, 1) := by decide +kernel
theorem dL_law_2355 : decode cL_law 2355 = .ok (.aload_n 1, 1) := by decide +kernel
theorem dL_law_2356 : decode cL_law 2356 = .ok (.invokevirtual 322, 3) := by decide +kernel
theorem dL_law_2359 : decode cL_law 2359 = .ok (.aload_n 2, 1) := by decide +kernel
theorem dL_law_2360 : decode cL_law 2360 = .ok (.invokevirtual 325, 3) := by decide +kernel
theorem dL_law_2363 : decode cL_law 2363 = .ok (.if_icmp .eq 622, 3) := by decide +kernel
theorem dL_law_2366 : decode cL_law 2366 = .ok (.iconst 0, 1) := by decide +kernel
theorem dL_law_2367 : decode cL_law 2367 = .ok (.ireturn, 1) := by decide +kernel
theorem dL_law_2368 : decode cL_law 2368 = .ok (.aload_n 1, 1) := by decide +kernel
theorem dL_law_2369 : decode cL_law 2369 = .ok (.invokevirtual 326, 3) := by decide +kernel
theorem dL_law_2372 : decode cL_law 2372 = .ok (.aload_n 2, 1) := by decide +kernel
theorem dL_law_2373 : decode cL_law 2373 = .ok (.invokevirtual 329, 3) := by decide +kernel
theorem dL_law_2376 : decode cL_law 2376 = .ok (.if_icmp .eq 609, 3) := by decide +kernel
theorem dL_law_2379 : decode cL_law 2379 = .ok (.iconst 0, 1) := by decide +kernel
theorem dL_law_2380 : decode cL_law 2380 = .ok (.ireturn, 1) := by decide +kernel
theorem dL_law_2381 : decode cL_law 2381 = .ok (.aload_n 1, 1) := by decide +kernel
theorem dL_law_2382 : decode cL_law 2382 = .ok (.aload 4, 2) := by decide +kernel
theorem dL_law_2384 : decode cL_law 2384 = .ok (.invokestatic 330, 3) := by decide +kernel
theorem dL_law_2387 : decode cL_law 2387 = .ok (.istore 6, 2) := by decide +kernel
theorem dL_law_2389 : decode cL_law 2389 = .ok (.aload_n 2, 1) := by decide +kernel
theorem dL_law_2390 : decode cL_law 2390 = .ok (.invokevirtual 333, 3) := by decide +kernel
theorem dL_law_2393 : decode cL_law 2393 = .ok (.dstore 7, 2) := by decide +kernel
theorem dL_law_2395 : decode cL_law 2395 = .ok (.aload_n 2, 1) := by decide +kernel
theorem dL_law_2396 : decode cL_law 2396 = .ok (.invokevirtual 166, 3) := by decide +kernel
theorem dL_law_2399 : decode cL_law 2399 = .ok (.iload 6, 2) := by decide +kernel
theorem dL_law_2401 : decode cL_law 2401 = .ok (.if_icmp .eq 5, 3) := by decide +kernel
theorem dL_law_2404 : decode cL_law 2404 = .ok (.iconst 0, 1) := by decide +kernel
theorem dL_law_2405 : decode cL_law 2405 = .ok (.ireturn, 1) := by decide +kernel
theorem dL_law_2406 : decode cL_law 2406 = .ok (.iload 6, 2) := by decide +kernel
theorem dL_law_2408 : decode cL_law 2408 = .ok (.ifCond .ne 35, 3) := by decide +kernel
theorem dL_law_2411 : decode cL_law 2411 = .ok (.aload 4, 2) := by decide +kernel
theorem dL_law_2413 : decode cL_law 2413 = .ok (.iconst 0, 1) := by decide +kernel
theorem dL_law_2414 : decode cL_law 2414 = .ok (.daload, 1) := by decide +kernel
theorem dL_law_2415 : decode cL_law 2415 = .ok (.dload 7, 2) := by decide +kernel
theorem dL_law_2417 : decode cL_law 2417 = .ok (.dcmp .l, 1) := by decide +kernel
theorem dL_law_2418 : decode cL_law 2418 = .ok (.ifCond .eq 25, 3) := by decide +kernel
theorem dL_law_2421 : decode cL_law 2421 = .ok (.aload 4, 2) := by decide +kernel
theorem dL_law_2423 : decode cL_law 2423 = .ok (.iconst 0, 1) := by decide +kernel
theorem dL_law_2424 : decode cL_law 2424 = .ok (.daload, 1) := by decide +kernel
theorem dL_law_2425 : decode cL_law 2425 = .ok (.aload 4, 2) := by decide +kernel
theorem dL_law_2427 : decode cL_law 2427 = .ok (.iconst 0, 1) := by decide +kernel
theorem dL_law_2428 : decode cL_law 2428 = .ok (.daload, 1) := by decide +kernel
theorem dL_law_2429 : decode cL_law 2429 = .ok (.dcmp .l, 1) := by decide +kernel
theorem dL_law_2430 : decode cL_law 2430 = .ok (.ifCond .eq 11, 3) := by decide +kernel
theorem dL_law_2433 : decode cL_law 2433 = .ok (.dload 7, 2) := by decide +kernel
theorem dL_law_2435 : decode cL_law 2435 = .ok (.dload 7, 2) := by decide +kernel
theorem dL_law_2437 : decode cL_law 2437 = .ok (.dcmp .l, 1) := by decide +kernel
theorem dL_law_2438 : decode cL_law 2438 = .ok (.ifCond .ne 5, 3) := by decide +kernel
theorem dL_law_2441 : decode cL_law 2441 = .ok (.iconst 0, 1) := by decide +kernel
theorem dL_law_2442 : decode cL_law 2442 = .ok (.ireturn, 1) := by decide +kernel
theorem dL_law_2443 : decode cL_law 2443 = .ok (.goto 542, 3) := by decide +kernel
theorem dL_law_2446 : decode cL_law 2446 = .ok (.aload_n 1, 1) := by decide +kernel
theorem dL_law_2447 : decode cL_law 2447 = .ok (.aload 4, 2) := by decide +kernel
theorem dL_law_2449 : decode cL_law 2449 = .ok (.invokestatic 334, 3) := by decide +kernel
theorem dL_law_2452 : decode cL_law 2452 = .ok (.istore 6, 2) := by decide +kernel
theorem dL_law_2454 : decode cL_law 2454 = .ok (.aload_n 2, 1) := by decide +kernel
theorem dL_law_2455 : decode cL_law 2455 = .ok (.invokevirtual 336, 3) := by decide +kernel
theorem dL_law_2458 : decode cL_law 2458 = .ok (.fstore 7, 2) := by decide +kernel
theorem dL_law_2460 : decode cL_law 2460 = .ok (.aload_n 2, 1) := by decide +kernel
theorem dL_law_2461 : decode cL_law 2461 = .ok (.invokevirtual 166, 3) := by decide +kernel
theorem dL_law_2464 : decode cL_law 2464 = .ok (.iload 6, 2) := by decide +kernel
theorem dL_law_2466 : decode cL_law 2466 = .ok (.if_icmp .eq 5, 3) := by decide +kernel
theorem dL_law_2469 : decode cL_law 2469 = .ok (.iconst 0, 1) := by decide +kernel
theorem dL_law_2470 : decode cL_law 2470 = .ok (.ireturn, 1) := by decide +kernel
theorem dL_law_2471 : decode cL_law 2471 = .ok (.iload 6, 2) := by decide +kernel
theorem dL_law_2473 : decode cL_law 2473 = .ok (.ifCond .ne 36, 3) := by decide +kernel
theorem dL_law_2476 : decode cL_law 2476 = .ok (.aload 4, 2) := by decide +kernel
theorem dL_law_2478 : decode cL_law 2478 = .ok (.iconst 0, 1) := by decide +kernel
theorem dL_law_2479 : decode cL_law 2479 = .ok (.daload, 1) := by decide +kernel
theorem dL_law_2480 : decode cL_law 2480 = .ok (.fload 7, 2) := by decide +kernel
theorem dL_law_2482 : decode cL_law 2482 = .ok (.f2d, 1) := by decide +kernel
theorem dL_law_2483 : decode cL_law 2483 = .ok (.dcmp .l, 1) := by decide +kernel
theorem dL_law_2484 : decode cL_law 2484 = .ok (.ifCond .eq 25, 3) := by decide +kernel
theorem dL_law_2487 : decode cL_law 2487 = .ok (.aload 4, 2) := by decide +kernel
theorem dL_law_2489 : decode cL_law 2489 = .ok (.iconst 0, 1) := by decide +kernel
theorem dL_law_2490 : decode cL_law 2490 = .ok (.daload, 1) := by decide +kernel
theorem dL_law_2491 : decode cL_law 2491 = .ok (.aload 4, 2) := by decide +kernel
theorem dL_law_2493 : decode cL_law 2493 = .ok (.iconst 0, 1) := by decide +kernel
theorem dL_law_2494 : decode cL_law 2494 = .ok (.daload, 1) := by decide +kernel
theorem dL_law_2495 : decode cL_law 2495 = .ok (.dcmp .l, 1) := by decide +kernel
theorem dL_law_2496 : decode cL_law 2496 = .ok (.ifCond .eq 11, 3) := by decide +kernel
theorem dL_law_2499 : decode cL_law 2499 = .ok (.fload 7, 2) := by decide +kernel
theorem dL_law_2501 : decode cL_law 2501 = .ok (.fload 7, 2) := by decide +kernel
theorem dL_law_2503 : decode cL_law 2503 = .ok (.fcmp .l, 1) := by decide +kernel
theorem dL_law_2504 : decode cL_law 2504 = .ok (.ifCond .ne 5, 3) := by decide +kernel
theorem dL_law_2507 : decode cL_law 2507 = .ok (.iconst 0, 1) := by decide +kernel
theorem dL_law_2508 : decode cL_law 2508 = .ok (.ireturn, 1) := by decide +kernel
theorem dL_law_2509 : decode cL_law 2509 = .ok (.goto 476, 3) := by decide +kernel
theorem dL_law_2512 : decode cL_law 2512 = .ok (.aload_n 1, 1) := by decide +kernel
theorem dL_law_2513 : decode cL_law 2513 = .ok (.invokevirtual 337, 3) := by decide +kernel
theorem dL_law_2516 : decode cL_law 2516 = .ok (.aload_n 2, 1) := by decide +kernel
theorem dL_law_2517 : decode cL_law 2517 = .ok (.invokevirtual 340, 3) := by decide +kernel
theorem dL_law_2520 : decode cL_law 2520 = .ok (.if_icmp .eq 465, 3) := by decide +kernel
theorem dL_law_2523 : decode cL_law 2523 = .ok (.iconst 0, 1) := by decide +kernel
theorem dL_law_2524 : decode cL_law 2524 = .ok (.ireturn, 1) := by decide +kernel
theorem dL_law_2525 : decode cL_law 2525 = .ok (.aload_n 1, 1) := by decide +kernel
theorem dL_law_2526 : decode cL_law 2526 = .ok (.aload_n 0, 1) := by decide +kernel
theorem dL_law_2527 : decode cL_law 2527 = .ok (.iload 5, 2) := by decide +kernel
theorem dL_law_2529 : decode cL_law 2529 = .ok (.iconst 1, 1) := by decide +kernel
theorem dL_law_2530 : decode cL_law 2530 = .ok (.iadd, 1) := by decide +kernel
theorem dL_law_2531 : decode cL_law 2531 = .ok (.iaload, 1) := by decide +kernel
theorem dL_law_2532 : decode cL_law 2532 = .ok (.aload_n 3, 1) := by decide +kernel
theorem dL_law_2533 : decode cL_law 2533 = .ok (.invokestatic 341, 3) := by decide +kernel
theorem dL_law_2536 : decode cL_law 2536 = .ok (.istore 6, 2) := by decide +kernel
theorem dL_law_2538 : decode cL_law 2538 = .ok (.aload_n 2, 1) := by decide +kernel
theorem dL_law_2539 : decode cL_law 2539 = .ok (.aload_n 0, 1) := by decide +kernel
theorem dL_law_2540 : decode cL_law 2540 = .ok (.iload 5, 2) := by decide +kernel
theorem dL_law_2542 : decode cL_law 2542 = .ok (.iconst 1, 1) := by decide +kernel
theorem dL_law_2543 : decode cL_law 2543 = .ok (.iadd, 1) := by decide +kernel
theorem dL_law_2544 : decode cL_law 2544 = .ok (.iaload, 1) := by decide +kernel
theorem dL_law_2545 : decode cL_law 2545 = .ok (.invokevirtual 343, 3) := by decide +kernel
theorem dL_law_2548 : decode cL_law 2548 = .ok (.istore 7, 2) := by decide +kernel
theorem dL_law_2550 : decode cL_law 2550 = .ok (.aload_n 2, 1) := by decide +kernel
theorem dL_law_2551 : decode cL_law 2551 = .ok (.invokevirtual 166, 3) := by decide +kernel
theorem dL_law_2554 : decode cL_law 2554 = .ok (.iload 6, 2) := by decide +kernel
theorem dL_law_2556 : decode cL_law 2556 = .ok (.if_icmp .eq 5, 3) := by decide +kernel
theorem dL_law_2559 : decode cL_law 2559 = .ok (.iconst 0, 1) := by decide +kernel
theorem dL_law_2560 : decode cL_law 2560 = .ok (.ireturn, 1) := by decide +kernel
theorem dL_law_2561 : decode cL_law 2561 = .ok (.iload 6, 2) := by decide +kernel
theorem dL_law_2563 : decode cL_law 2563 = .ok (.ifCond .ne 15, 3) := by decide +kernel
theorem dL_law_2566 : decode cL_law 2566 = .ok (.aload_n 3, 1) := by decide +kernel
theorem dL_law_2567 : decode cL_law 2567 = .ok (.iconst 0, 1) := by decide +kernel
theorem dL_law_2568 : decode cL_law 2568 = .ok (.laload, 1) := by decide +kernel
theorem dL_law_2569 : decode cL_law 2569 = .ok (.iload 7, 2) := by decide +kernel
theorem dL_law_2571 : decode cL_law 2571 = .ok (.i2l, 1) := by decide +kernel
theorem dL_law_2572 : decode cL_law 2572 = .ok (.lcmp, 1) := by decide +kernel
theorem dL_law_2573 : decode cL_law 2573 = .ok (.ifCond .eq 5, 3) := by decide +kernel
theorem dL_law_2576 : decode cL_law 2576 = .ok (.iconst 0, 1) := by decide +kernel
theorem dL_law_2577 : decode cL_law 2577 = .ok (.ireturn, 1) := by decide +kernel
theorem dL_law_2578 : decode cL_law 2578 = .ok (.goto 407, 3) := by decide +kernel
theorem dL_law_2581 : decode cL_law 2581 = .ok (.aload_n 1, 1) := by decide +kernel
theorem dL_law_2582 : decode cL_law 2582 = .ok (.aload_n 3, 1) := by decide +kernel
theorem dL_law_2583 : decode cL_law 2583 = .ok (.invokestatic 344, 3) := by decide +kernel
theorem dL_law_2586 : decode cL_law 2586 = .ok (.istore 6, 2) := by decide +kernel
theorem dL_law_2588 : decode cL_law 2588 = .ok (.aload_n 2, 1) := by decide +kernel
theorem dL_law_2589 : decode cL_law 2589 = .ok (.invokevirtual 346, 3) := by decide +kernel
theorem dL_law_2592 : decode cL_law 2592 = .ok (.istore 7, 2) := by decide +kernel
theorem dL_law_2594 : decode cL_law 2594 = .ok (.aload_n 2, 1) := by decide +kernel
theorem dL_law_2595 : decode cL_law 2595 = .ok (.invokevirtual 166, 3) := by decide +kernel
theorem dL_law_2598 : decode cL_law 2598 = .ok (.iload 6, 2) := by decide +kernel
theorem dL_law_2600 : decode cL_law 2600 = .ok (.if_icmp .eq 5, 3) := by decide +kernel
theorem dL_law_2603 : decode cL_law 2603 = .ok (.iconst 0, 1) := by decide +kernel
theorem dL_law_2604 : decode cL_law 2604 = .ok (.ireturn, 1) := by decide +kernel
theorem dL_law_2605 : decode cL_law 2605 = .ok (.iload 6, 2) := by decide +kernel
theorem dL_law_2607 : decode cL_law 2607 = .ok (.ifCond .ne 15, 3) := by decide +kernel
theorem dL_law_2610 : decode cL_law 2610 = .ok (.aload_n 3, 1) := by decide +kernel
theorem dL_law_2611 : decode cL_law 2611 = .ok (.iconst 0, 1) := by decide +kernel
theorem dL_law_2612 : decode cL_law 2612 = .ok (.laload, 1) := by decide +kernel
theorem dL_law_2613 : decode cL_law 2613 = .ok (.iload 7, 2) := by decide +kernel
theorem dL_law_2615 : decode cL_law 2615 = .ok (.i2l, 1) := by decide +kernel
theorem dL_law_2616 : decode cL_law 2616 = .ok (.lcmp, 1) := by decide +kernel
theorem dL_law_2617 : decode cL_law 2617 = .ok (.ifCond .eq 5, 3) := by decide +kernel
theorem dL_law_2620 : decode cL_law 2620 = .ok (.iconst 0, 1) := by decide +kernel
theorem dL_law_2621 : decode cL_law 2621 = .ok (.ireturn, 1) := by decide +kernel
theorem dL_law_2622 : decode cL_law 2622 = .ok (.goto 363, 3) := by decide +kernel
theorem dL_law_2625 : decode cL_law 2625 = .ok (.aload_n 1, 1) := by decide +kernel
theorem dL_law_2626 : decode cL_law 2626 = .ok (.aload_n 0, 1) := by decide +kernel
theorem dL_law_2627 : decode cL_law 2627 = .ok (.iload 5, 2) := by decide +kernel
theorem dL_law_2629 : decode cL_law 2629 = .ok (.iconst 1, 1) := by decide +kernel
theorem dL_law_2630 : decode cL_law 2630 = .ok (.iadd, 1) := by decide +kernel
theorem dL_law_2631 : decode cL_law 2631 = .ok (.iaload, 1) := by decide +kernel
theorem dL_law_2632 : decode cL_law 2632 = .ok (.aload_n 3, 1) := by decide +kernel
theorem dL_law_2633 : decode cL_law 2633 = .ok (.invokestatic 347, 3) := by decide +kernel
theorem dL_law_2636 : decode cL_law 2636 = .ok (.istore 6, 2) := by decide +kernel
theorem dL_law_2638 : decode cL_law 2638 = .ok (.aload_n 2, 1) := by decide +kernel
theorem dL_law_2639 : decode cL_law 2639 = .ok (.aload_n 0, 1) := by decide +kernel
theorem dL_law_2640 : decode cL_law 2640 = .ok (.iload 5, 2) := by decide +kernel
theorem dL_law_2642 : decode cL_law 2642 = .ok (.iconst 1, 1) := by decide +kernel
theorem dL_law_2643 : decode cL_law 2643 = .ok (.iadd, 1) := by decide +kernel
theorem dL_law_2644 : decode cL_law 2644 = .ok (.iaload, 1) := by decide +kernel
theorem dL_law_2645 : decode cL_law 2645 = .ok (.invokevirtual 349, 3) := by decide +kernel
theorem dL_law_2648 : decode cL_law 2648 = .ok (.istore 7, 2) := by decide +kernel
theorem dL_law_2650 : decode cL_law 2650 = .ok (.aload_n 2, 1) := by decide +kernel
theorem dL_law_2651 : decode cL_law 2651 = .ok (.invokevirtual 166, 3) := by decide +kernel
theorem dL_law_2654 : decode cL_law 2654 = .ok (.iload 6, 2) := by decide +kernel
theorem dL_law_2656 : decode cL_law 2656 = .ok (.if_icmp .eq 5, 3) := by decide +kernel
theorem dL_law_2659 : decode cL_law 2659 = .ok (.iconst 0, 1) := by decide +kernel
theorem dL_law_2660 : decode cL_law 2660 = .ok (.ireturn, 1) := by decide +kernel
theorem dL_law_2661 : decode cL_law 2661 = .ok (.iload 6, 2) := by decide +kernel
theorem dL_law_2663 : decode cL_law 2663 = .ok (.ifCond .ne 15, 3) := by decide +kernel
theorem dL_law_2666 : decode cL_law 2666 = .ok (.aload_n 3, 1) := by decide +kernel
theorem dL_law_2667 : decode cL_law 2667 = .ok (.iconst 0, 1) := by decide +kernel
theorem dL_law_2668 : decode cL_law 2668 = .ok (.laload, 1) := by decide +kernel
theorem dL_law_2669 : decode cL_law 2669 = .ok (.iload 7, 2) := by decide +kernel
theorem dL_law_2671 : decode cL_law 2671 = .ok (.i2l, 1) := by decide +kernel
theorem dL_law_2672 : decode cL_law 2672 = .ok (.lcmp, 1) := by decide +kernel
theorem dL_law_2673 : decode cL_law 2673 = .ok (.ifCond .eq 5, 3) := by decide +kernel
theorem dL_law_2676 : decode cL_law 2676 = .ok (.iconst 0, 1) := by decide +kernel
theorem dL_law_2677 : decode cL_law 2677 = .ok (.ireturn, 1) := by decide +kernel
theorem dL_law_2678 : decode cL_law 2678 = .ok (.goto 307, 3) := by decide +kernel
theorem dL_law_2681 : decode cL_law 2681 = .ok (.aload_n 1, 1) := by decide +kernel
theorem dL_law_2682 : decode cL_law 2682 = .ok (.aload_n 0, 1) := by decide +kernel
theorem dL_law_2683 : decode cL_law 2683 = .ok (.iload 5, 2) := by decide +kernel
theorem dL_law_2685 : decode cL_law 2685 = .ok (.iconst 1, 1) := by decide +kernel
theorem dL_law_2686 : decode cL_law 2686 = .ok (.iadd, 1) := by decide +kernel
theorem dL_law_2687 : decode cL_law 2687 = .ok (.iaload, 1) := by decide +kernel
theorem dL_law_2688 : decode cL_law 2688 = .ok (.i2c, 1) := by decide +kernel
theorem dL_law_2689 : decode cL_law 2689 = .ok (.aload_n 3, 1) := by decide +kernel
theorem dL_law_2690 : decode cL_law 2690 = .ok (.invokestatic 350, 3) := by decide +kernel
theorem dL_law_2693 : decode cL_law 2693 = .ok (.istore 6, 2) := by decide +kernel
theorem dL_law_2695 : decode cL_law 2695 = .ok (.aload_n 2, 1) := by decide +kernel
theorem dL_law_2696 : decode cL_law 2696 = .ok (.aload_n 0, 1) := by decide +kernel
theorem dL_law_2697 : decode cL_law 2697 = .ok (.iload 5, 2) := by decide +kernel
theorem dL_law_2699 : decode cL_law 2699 = .ok (.iconst 1, 1) := by decide +kernel
theorem dL_law_2700 : decode cL_law 2700 = .ok (.iadd, 1) := by decide +kernel
theorem dL_law_2701 : decode cL_law 2701 = .ok (.iaload, 1) := by decide +kernel
theorem dL_law_2702 : decode cL_law 2702 = .ok (.i2c, 1) := by decide +kernel
theorem dL_law_2703 : decode cL_law 2703 = .ok (.invokevirtual 353, 3) := by decide +kernel
theorem dL_law_2706 : decode cL_law 2706 = .ok (.istore 7, 2) := by decide +kernel
theorem dL_law_2708 : decode cL_law 2708 = .ok (.aload_n 2, 1) := by decide +kernel
theorem dL_law_2709 : decode cL_law 2709 = .ok (.invokevirtual 166, 3) := by decide +kernel
theorem dL_law_2712 : decode cL_law 2712 = .ok (.iload 6, 2) := by decide +kernel
theorem dL_law_2714 : decode cL_law 2714 = .ok (.if_icmp .eq 5, 3) := by decide +kernel
theorem dL_law_2717 : decode cL_law 2717 = .ok (.iconst 0, 1) := by decide +kernel
theorem dL_law_2718 : decode cL_law 2718 = .ok (.ireturn, 1) := by decide +kernel
theorem dL_law_2719 : decode cL_law 2719 = .ok (.iload 6, 2) := by decide +kernel
theorem dL_law_2721 : decode cL_law 2721 = .ok (.ifCond .ne 15, 3) := by decide +kernel
theorem dL_law_2724 : decode cL_law 2724 = .ok (.aload_n 3, 1) := by decide +kernel
theorem dL_law_2725 : decode cL_law 2725 = .ok (.iconst 0, 1) := by decide +kernel
theorem dL_law_2726 : decode cL_law 2726 = .ok (.laload, 1) := by decide +kernel
theorem dL_law_2727 : decode cL_law 2727 = .ok (.iload 7, 2) := by decide +kernel
theorem dL_law_2729 : decode cL_law 2729 = .ok (.i2l, 1) := by decide +kernel
theorem dL_law_2730 : decode cL_law 2730 = .ok (.lcmp, 1) := by decide +kernel
theorem dL_law_2731 : decode cL_law 2731 = .ok (.ifCond .eq 5, 3) := by decide +kernel
theorem dL_law_2734 : decode cL_law 2734 = .ok (.iconst 0, 1) := by decide +kernel
theorem dL_law_2735 : decode cL_law 2735 = .ok (.ireturn, 1) := by decide +kernel
theorem dL_law_2736 : decode cL_law 2736 = .ok (.goto 249, 3) := by decide +kernel
theorem dL_law_2739 : decode cL_law 2739 = .ok (.aload_n 1, 1) := by decide +kernel
theorem dL_law_2740 : decode cL_law 2740 = .ok (.aload_n 3, 1) := by decide +kernel
theorem dL_law_2741 : decode cL_law 2741 = .ok (.invokestatic 354, 3) := by decide +kernel
theorem dL_law_2744 : decode cL_law 2744 = .ok (.istore 6, 2) := by decide +kernel
theorem dL_law_2746 : decode cL_law 2746 = .ok (.aload_n 2, 1) := by decide +kernel
theorem dL_law_2747 : decode cL_law 2747 = .ok (.invokevirtual 356, 3) := by decide +kernel
theorem dL_law_2750 : decode cL_law 2750 = .ok (.istore 7, 2) := by decide +kernel
theorem dL_law_2752 : decode cL_law 2752 = .ok (.aload_n 2, 1) := by decide +kernel
theorem dL_law_2753 : decode cL_law 2753 = .ok (.invokevirtual 166, 3) := by decide +kernel
theorem dL_law_2756 : decode cL_law 2756 = .ok (.iload 6, 2) := by decide +kernel
theorem dL_law_2758 : decode cL_law 2758 = .ok (.if_icmp .eq 5, 3) := by decide +kernel
theorem dL_law_2761 : decode cL_law 2761 = .ok (.iconst 0, 1) := by decide +kernel
theorem dL_law_2762 : decode cL_law 2762 = .ok (.ireturn, 1) := by decide +kernel
theorem dL_law_2763 : decode cL_law 2763 = .ok (.iload 6, 2) := by decide +kernel
theorem dL_law_2765 : decode cL_law 2765 = .ok (.ifCond .ne 15, 3) := by decide +kernel
theorem dL_law_2768 : decode cL_law 2768 = .ok (.aload_n 3, 1) := by decide +kernel
theorem dL_law_2769 : decode cL_law 2769 = .ok (.iconst 0, 1) := by decide +kernel
theorem dL_law_2770 : decode cL_law 2770 = .ok (.laload, 1) := by decide +kernel
theorem dL_law_2771 : decode cL_law 2771 = .ok (.iload 7, 2) := by decide +kernel
theorem dL_law_2773 : decode cL_law 2773 = .ok (.i2l, 1) := by decide +kernel
theorem dL_law_2774 : decode cL_law 2774 = .ok (.lcmp, 1) := by decide +kernel
theorem dL_law_2775 : decode cL_law 2775 = .ok (.ifCond .eq 5, 3) := by decide +kernel
theorem dL_law_2778 : decode cL_law 2778 = .ok (.iconst 0, 1) := by decide +kernel
theorem dL_law_2779 : decode cL_law 2779 = .ok (.ireturn, 1) := by decide +kernel
theorem dL_law_2780 : decode cL_law 2780 = .ok (.goto 205, 3) := by decide +kernel
theorem dL_law_2783 : decode cL_law 2783 = .ok (.aload_n 1, 1) := by decide +kernel
theorem dL_law_2784 : decode cL_law 2784 = .ok (.aload_n 3, 1) := by decide +kernel
theorem dL_law_2785 : decode cL_law 2785 = .ok (.invokestatic 357, 3) := by decide +kernel
theorem dL_law_2788 : decode cL_law 2788 = .ok (.istore 6, 2) := by decide +kernel
theorem dL_law_2790 : decode cL_law 2790 = .ok (.aload_n 2, 1) := by decide +kernel
theorem dL_law_2791 : decode cL_law 2791 = .ok (.invokevirtual 359, 3) := by decide +kernel
theorem dL_law_2794 : decode cL_law 2794 = .ok (.istore 7, 2) := by decide +kernel
theorem dL_law_2796 : decode cL_law 2796 = .ok (.aload_n 2, 1) := by decide +kernel
theorem dL_law_2797 : decode cL_law 2797 = .ok (.invokevirtual 166, 3) := by decide +kernel
theorem dL_law_2800 : decode cL_law 2800 = .ok (.iload 6, 2) := by decide +kernel
theorem dL_law_2802 : decode cL_law 2802 = .ok (.if_icmp .eq 5, 3) := by decide +kernel
theorem dL_law_2805 : decode cL_law 2805 = .ok (.iconst 0, 1) := by decide +kernel
theorem dL_law_2806 : decode cL_law 2806 = .ok (.ireturn, 1) := by decide +kernel
theorem dL_law_2807 : decode cL_law 2807 = .ok (.iload 6, 2) := by decide +kernel
theorem dL_law_2809 : decode cL_law 2809 = .ok (.ifCond .ne 15, 3) := by decide +kernel
theorem dL_law_2812 : decode cL_law 2812 = .ok (.aload_n 3, 1) := by decide +kernel
theorem dL_law_2813 : decode cL_law 2813 = .ok (.iconst 0, 1) := by decide +kernel
theorem dL_law_2814 : decode cL_law 2814 = .ok (.laload, 1) := by decide +kernel
theorem dL_law_2815 : decode cL_law 2815 = .ok (.iload 7, 2) := by decide +kernel
theorem dL_law_2817 : decode cL_law 2817 = .ok (.i2l, 1) := by decide +kernel
theorem dL_law_2818 : decode cL_law 2818 = .ok (.lcmp, 1) := by decide +kernel
theorem dL_law_2819 : decode cL_law 2819 = .ok (.ifCond .eq 5, 3) := by decide +kernel
theorem dL_law_2822 : decode cL_law 2822 = .ok (.iconst 0, 1) := by decide +kernel
theorem dL_law_2823 : decode cL_law 2823 = .ok (.ireturn, 1) := by decide +kernel
theorem dL_law_2824 : decode cL_law 2824 = .ok (.goto 161, 3) := by decide +kernel
theorem dL_law_2827 : decode cL_law 2827 = .ok (.aload_n 1, 1) := by decide +kernel
theorem dL_law_2828 : decode cL_law 2828 = .ok (.aload_n 3, 1) := by decide +kernel
theorem dL_law_2829 : decode cL_law 2829 = .ok (.invokestatic 360, 3) := by decide +kernel
theorem dL_law_2832 : decode cL_law 2832 = .ok (.istore 6, 2) := by decide +kernel
theorem dL_law_2834 : decode cL_law 2834 = .ok (.aload_n 2, 1) := by decide +kernel
theorem dL_law_2835 : decode cL_law 2835 = .ok (.invokevirtual 362, 3) := by decide +kernel
theorem dL_law_2838 : decode cL_law 2838 = .ok (.istore 7, 2) := by decide +kernel
theorem dL_law_2840 : decode cL_law 2840 = .ok (.aload_n 2, 1) := by decide +kernel
theorem dL_law_2841 : decode cL_law 2841 = .ok (.invokevirtual 166, 3) := by decide +kernel
theorem dL_law_2844 : decode cL_law 2844 = .ok (.iload 6, 2) := by decide +kernel
theorem dL_law_2846 : decode cL_law 2846 = .ok (.if_icmp .eq 5, 3) := by decide +kernel
theorem dL_law_2849 : decode cL_law 2849 = .ok (.iconst 0, 1) := by decide +kernel
theorem dL_law_2850 : decode cL_law 2850 = .ok (.ireturn, 1) := by decide +kernel
theorem dL_law_2851 : decode cL_law 2851 = .ok (.iload 6, 2) := by decide +kernel
theorem dL_law_2853 : decode cL_law 2853 = .ok (.ifCond .ne 15, 3) := by decide +kernel
theorem dL_law_2856 : decode cL_law 2856 = .ok (.aload_n 3, 1) := by decide +kernel
theorem dL_law_2857 : decode cL_law 2857 = .ok (.iconst 0, 1) := by decide +kernel
theorem dL_law_2858 : decode cL_law 2858 = .ok (.laload, 1) := by decide +kernel
theorem dL_law_2859 : decode cL_law 2859 = .ok (.iload 7, 2) := by decide +kernel
theorem dL_law_2861 : decode cL_law 2861 = .ok (.i2l, 1) := by decide +kernel
theorem dL_law_2862 : decode cL_law 2862 = .ok (.lcmp, 1) := by decide +kernel
theorem dL_law_2863 : decode cL_law 2863 = .ok (.ifCond .eq 5, 3) := by decide +kernel
theorem dL_law_2866 : decode cL_law 2866 = .ok (.iconst 0, 1) := by decide +kernel
theorem dL_law_2867 : decode cL_law 2867 = .ok (.ireturn, 1) := by decide +kernel
theorem dL_law_2868 : decode cL_law 2868 = .ok (.goto 117, 3) := by decide +kernel
theorem dL_law_2871 : decode cL_law 2871 = .ok (.aload_n 1, 1) := by decide +kernel
theorem dL_law_2872 : decode cL_law 2872 = .ok (.invokevirtual 363, 3) := by decide +kernel
theorem dL_law_2875 : decode cL_law 2875 = .ok (.aload_n 2, 1) := by decide +kernel
theorem dL_law_2876 : decode cL_law 2876 = .ok (.invokevirtual 366, 3) := by decide +kernel
theorem dL_law_2879 : decode cL_law 2879 = .ok (.if_icmp .eq 106, 3) := by decide +kernel
theorem dL_law_2882 : decode cL_law 2882 = .ok (.iconst 0, 1) := by decide +kernel
theorem dL_law_2883 : decode cL_law 2883 = .ok (.ireturn, 1) := by decide +kernel
theorem dL_law_2884 : decode cL_law 2884 = .ok (.aload_n 1, 1) := by decide +kernel
theorem dL_law_2885 : decode cL_law 2885 = .ok (.aload_n 3, 1) := by decide +kernel
theorem dL_law_2886 : decode cL_law 2886 = .ok (.invokestatic 367, 3) := by decide +kernel
theorem dL_law_2889 : decode cL_law 2889 = .ok (.istore 6, 2) := by decide +kernel
theorem dL_law_2891 : decode cL_law 2891 = .ok (.aload_n 2, 1) := by decide +kernel
theorem dL_law_2892 : decode cL_law 2892 = .ok (.invokevirtual 369, 3) := by decide +kernel
theorem dL_law_2895 : decode cL_law 2895 = .ok (.istore 7, 2) := by decide +kernel
theorem dL_law_2897 : decode cL_law 2897 = .ok (.aload_n 2, 1) := by decide +kernel
theorem dL_law_2898 : decode cL_law 2898 = .ok (.invokevirtual 166, 3) := by decide +kernel
theorem dL_law_2901 : decode cL_law 2901 = .ok (.iload 6, 2) := by decide +kernel
theorem dL_law_2903 : decode cL_law 2903 = .ok (.if_icmp .eq 5, 3) := by decide +kernel
theorem dL_law_2906 : decode cL_law 2906 = .ok (.iconst 0, 1) := by decide +kernel
theorem dL_law_2907 : decode cL_law 2907 = .ok (.ireturn, 1) := by decide +kernel
theorem dL_law_2908 : decode cL_law 2908 = .ok (.iload 6, 2) := by decide +kernel
theorem dL_law_2910 : decode cL_law 2910 = .ok (.ifCond .ne 15, 3) := by decide +kernel
theorem dL_law_2913 : decode cL_law 2913 = .ok (.aload_n 3, 1) := by decide +kernel
theorem dL_law_2914 : decode cL_law 2914 = .ok (.iconst 0, 1) := by decide +kernel
theorem dL_law_2915 : decode cL_law 2915 = .ok (.laload, 1) := by decide +kernel
theorem dL_law_2916 : decode cL_law 2916 = .ok (.iload 7, 2) := by decide +kernel
theorem dL_law_2918 : decode cL_law 2918 = .ok (.i2l, 1) := by decide +kernel
theorem dL_law_2919 : decode cL_law 2919 = .ok (.lcmp, 1) := by decide +kernel
theorem dL_law_2920 : decode cL_law 2920 = .ok (.ifCond .eq 5, 3) := by decide +kernel
theorem dL_law_2923 : decode cL_law 2923 = .ok (.iconst 0, 1) := by decide +kernel
theorem dL_law_2924 : decode cL_law 2924 = .ok (.ireturn, 1) := by decide +kernel
theorem dL_law_2925 : decode cL_law 2925 = .ok (.goto 60, 3) := by decide +kernel
theorem dL_law_2928 : decode cL_law 2928 = .ok (.aload_n 1, 1) := by decide +kernel
theorem dL_law_2929 : decode cL_law 2929 = .ok (.invokevirtual 370, 3) := by decide +kernel
theorem dL_law_2932 : decode cL_law 2932 = .ok (.aload_n 2, 1) := by decide +kernel
theorem dL_law_2933 : decode cL_law 2933 = .ok (.invokevirtual 373, 3) := by decide +kernel
theorem dL_law_2936 : decode cL_law 2936 = .ok (.if_icmp .eq 49, 3) := by decide +kernel
theorem dL_law_2939 : decode cL_law 2939 = .ok (.iconst 0, 1) := by decide +kernel
theorem dL_law_2940 : decode cL_law 2940 = .ok (.ireturn, 1) := by decide +kernel
theorem dL_law_2941 : decode cL_law 2941 = .ok (.aload_n 1, 1) := by decide +kernel
theorem dL_law_2942 : decode cL_law 2942 = .ok (.aload_n 3, 1) := by decide +kernel
theorem dL_law_2943 : decode cL_law 2943 = .ok (.invokestatic 374, 3) := by decide +kernel
theorem dL_law_2946 : decode cL_law 2946 = .ok (.istore 6, 2) := by decide +kernel
theorem dL_law_2948 : decode cL_law 2948 = .ok (.aload_n 2, 1) := by decide +kernel
theorem dL_law_2949 : decode cL_law 2949 = .ok (.invokevirtual 376, 3) := by decide +kernel
theorem dL_law_2952 : decode cL_law 2952 = .ok (.istore 7, 2) := by decide +kernel
theorem dL_law_2954 : decode cL_law 2954 = .ok (.aload_n 2, 1) := by decide +kernel
theorem dL_law_2955 : decode cL_law 2955 = .ok (.invokevirtual 166, 3) := by decide +kernel
theorem dL_law_2958 : decode cL_law 2958 = .ok (.iload 6, 2) := by decide +kernel
theorem dL_law_2960 : decode cL_law 2960 = .ok (.if_icmp .eq 5, 3) := by decide +kernel
theorem dL_law_2963 : decode cL_law 2963 = .ok (.iconst 0, 1) := by decide +kernel
theorem dL_law_2964 : decode cL_law 2964 = .ok (.ireturn, 1) := by decide +kernel
theorem dL_law_2965 : decode cL_law 2965 = .ok (.iload 6, 2) := by decide +kernel
theorem dL_law_2967 : decode cL_law 2967 = .ok (.ifCond .ne 15, 3) := by decide +kernel
theorem dL_law_2970 : decode cL_law 2970 = .ok (.aload_n 3, 1) := by decide +kernel
theorem dL_law_2971 : decode cL_law 2971 = .ok (.iconst 0, 1) := by decide +kernel
theorem dL_law_2972 : decode cL_law 2972 = .ok (.laload, 1) := by decide +kernel
theorem dL_law_2973 : decode cL_law 2973 = .ok (.iload 7, 2) := by decide +kernel
theorem dL_law_2975 : decode cL_law 2975 = .ok (.i2l, 1) := by decide +kernel
theorem dL_law_2976 : decode cL_law 2976 = .ok (.lcmp, 1) := by decide +kernel
theorem dL_law_2977 : decode cL_law 2977 = .ok (.ifCond .eq 5, 3) := by decide +kernel
theorem dL_law_2980 : decode cL_law 2980 = .ok (.iconst 0, 1) := by decide +kernel
theorem dL_law_2981 : decode cL_law 2981 = .ok (.ireturn, 1) := by decide +kernel
theorem dL_law_2982 : decode cL_law 2982 = .ok (.goto 3, 3) := by decide +kernel
theorem dL_law_2985 : decode cL_law 2985 = .ok (.iinc 5 3, 3) := by decide +kernel
theorem dL_law_2988 : decode cL_law 2988 = .ok (.goto (-2960), 3) := by decide +kernel
theorem dL_law_2991 : decode cL_law 2991 = .ok (.iconst 1, 1) := by decide +kernel
theorem dL_law_2992 : decode cL_law 2992 = .ok (.ireturn, 1) := by decide +kernel
