theorem dX0_init_0 : decode cX0_init 0 = .ok (.aload_n 0, 1) := by decide +kernel
theorem dX0_init_1 : decode cX0_init 1 = .ok (.invokespecial 3, 3) := by decide +kernel
theorem dX0_init_4 : decode cX0_init 4 = .ok (.aload_n 0, 1) := by decide +kernel
theorem dX0_init_5 : decode cX0_init 5 = .ok (.iconst 0, 1) := by decide +kernel
theorem dX0_init_6 : decode cX0_init 6 = .ok (.putfield 9, 3) := by decide +kernel
theorem dX0_init_9 : decode cX0_init 9 = .ok (.return_, 1) := by decide +kernel
theorem dX0_drawOf_0 : decode cX0_drawOf 0 = .ok (.aload_n 0, 1) := by decide +kernel
theorem dX0_drawOf_1 : decode cX0_drawOf 1 = .ok (.aload_n 0, 1) := by decide +kernel
theorem dX0_drawOf_2 : decode cX0_drawOf 2 = .ok (.getfield 9, 3) := by decide +kernel
theorem dX0_drawOf_5 : decode cX0_drawOf 5 = .ok (.ldc 15, 2) := by decide +kernel
theorem dX0_drawOf_7 : decode cX0_drawOf 7 = .ok (.imul, 1) := by decide +kernel
theorem dX0_drawOf_8 : decode cX0_drawOf 8 = .ok (.sipush 12345, 3) := by decide +kernel
theorem dX0_drawOf_11 : decode cX0_drawOf 11 = .ok (.iadd, 1) := by decide +kernel
theorem dX0_drawOf_12 : decode cX0_drawOf 12 = .ok (.ldc 16, 2) := by decide +kernel
theorem dX0_drawOf_14 : decode cX0_drawOf 14 = .ok (.iand, 1) := by decide +kernel
theorem dX0_drawOf_15 : decode cX0_drawOf 15 = .ok (.putfield 9, 3) := by decide +kernel
theorem dX0_drawOf_18 : decode cX0_drawOf 18 = .ok (.iload_n 1, 1) := by decide +kernel
theorem dX0_drawOf_19 : decode cX0_drawOf 19 = .ok (.ifCond .le 15, 3) := by decide +kernel
theorem dX0_drawOf_22 : decode cX0_drawOf 22 = .ok (.aload_n 0, 1) := by decide +kernel
theorem dX0_drawOf_23 : decode cX0_drawOf 23 = .ok (.getfield 9, 3) := by decide +kernel
theorem dX0_drawOf_26 : decode cX0_drawOf 26 = .ok (.ldc 17, 2) := by decide +kernel
theorem dX0_drawOf_28 : decode cX0_drawOf 28 = .ok (.idiv, 1) := by decide +kernel
theorem dX0_drawOf_29 : decode cX0_drawOf 29 = .ok (.iload_n 1, 1) := by decide +kernel
theorem dX0_drawOf_30 : decode cX0_drawOf 30 = .ok (.irem, 1) := by decide +kernel
theorem dX0_drawOf_31 : decode cX0_drawOf 31 = .ok (.goto 4, 3) := by decide +kernel
theorem dX0_drawOf_34 : decode cX0_drawOf 34 = .ok (.iconst 0, 1) := by decide +kernel
theorem dX0_drawOf_35 : decode cX0_drawOf 35 = .ok (.ireturn, 1) := by decide +kernel
theorem dX1_init_0 : decode cX1_init 0 = .ok (.aload_n 0, 1) := by decide +kernel
theorem dX1_init_1 : decode cX1_init 1 = .ok (.invokespecial 3, 3) := by decide +kernel
theorem dX1_init_4 : decode cX1_init 4 = .ok (.aload_n 0, 1) := by decide +kernel
theorem dX1_init_5 : decode cX1_init 5 = .ok (.iconst 0, 1) := by decide +kernel
theorem dX1_init_6 : decode cX1_init 6 = .ok (.putfield 9, 3) := by decide +kernel
theorem dX1_init_9 : decode cX1_init 9 = .ok (.aload_n 0, 1) := by decide +kernel
theorem dX1_init_10 : decode cX1_init 10 = .ok (.iload_n 1, 1) := by decide +kernel
theorem dX1_init_11 : decode cX1_init 11 = .ok (.iconst 0, 1) := by decide +kernel
theorem dX1_init_12 : decode cX1_init 12 = .ok (.invokestatic 15, 3) := by decide +kernel
theorem dX1_init_15 : decode cX1_init 15 = .ok (.putfield 21, 3) := by decide +kernel
theorem dX1_init_18 : decode cX1_init 18 = .ok (.aload_n 0, 1) := by decide +kernel
theorem dX1_init_19 : decode cX1_init 19 = .ok (.aload_n 0, 1) := by decide +kernel
theorem dX1_init_20 : decode cX1_init 20 = .ok (.getfield 21, 3) := by decide +kernel
theorem dX1_init_23 : decode cX1_init 23 = .ok (.newarray .int, 2) := by decide +kernel
theorem dX1_init_25 : decode cX1_init 25 = .ok (.putfield 24, 3) := by decide +kernel
theorem dX1_init_28 : decode cX1_init 28 = .ok (.aload_n 0, 1) := by decide +kernel
theorem dX1_init_29 : decode cX1_init 29 = .ok (.aload_n 0, 1) := by decide +kernel
theorem dX1_init_30 : decode cX1_init 30 = .ok (.getfield 21, 3) := by decide +kernel
theorem dX1_init_33 : decode cX1_init 33 = .ok (.newarray .int, 2) := by decide +kernel
theorem dX1_init_35 : decode cX1_init 35 = .ok (.putfield 28, 3) := by decide +kernel
theorem dX1_init_38 : decode cX1_init 38 = .ok (.aload_n 0, 1) := by decide +kernel
theorem dX1_init_39 : decode cX1_init 39 = .ok (.aload_n 0, 1) := by decide +kernel
theorem dX1_init_40 : decode cX1_init 40 = .ok (.getfield 21, 3) := by decide +kernel
theorem dX1_init_43 : decode cX1_init 43 = .ok (.newarray .int, 2) := by decide +kernel
theorem dX1_init_45 : decode cX1_init 45 = .ok (.putfield 31, 3) := by decide +kernel
theorem dX1_init_48 : decode cX1_init 48 = .ok (.return_, 1) := by decide +kernel
theorem dX1_add_0 : decode cX1_add 0 = .ok (.aload_n 0, 1) := by decide +kernel
theorem dX1_add_1 : decode cX1_add 1 = .ok (.getfield 9, 3) := by decide +kernel
theorem dX1_add_4 : decode cX1_add 4 = .ok (.aload_n 0, 1) := by decide +kernel
theorem dX1_add_5 : decode cX1_add 5 = .ok (.getfield 21, 3) := by decide +kernel
theorem dX1_add_8 : decode cX1_add 8 = .ok (.if_icmp .lt 6, 3) := by decide +kernel
theorem dX1_add_11 : decode cX1_add 11 = .ok (.ldc 34, 2) := by decide +kernel
theorem dX1_add_13 : decode cX1_add 13 = .ok (.ireturn, 1) := by decide +kernel
theorem dX1_add_14 : decode cX1_add 14 = .ok (.aload_n 0, 1) := by decide +kernel
theorem dX1_add_15 : decode cX1_add 15 = .ok (.getfield 24, 3) := by decide +kernel
theorem dX1_add_18 : decode cX1_add 18 = .ok (.aload_n 0, 1) := by decide +kernel
theorem dX1_add_19 : decode cX1_add 19 = .ok (.getfield 9, 3) := by decide +kernel
theorem dX1_add_22 : decode cX1_add 22 = .ok (.iload_n 1, 1) := by decide +kernel
theorem dX1_add_23 : decode cX1_add 23 = .ok (.iastore, 1) := by decide +kernel
theorem dX1_add_24 : decode cX1_add 24 = .ok (.aload_n 0, 1) := by decide +kernel
theorem dX1_add_25 : decode cX1_add 25 = .ok (.getfield 28, 3) := by decide +kernel
theorem dX1_add_28 : decode cX1_add 28 = .ok (.aload_n 0, 1) := by decide +kernel
theorem dX1_add_29 : decode cX1_add 29 = .ok (.getfield 9, 3) := by decide +kernel
theorem dX1_add_32 : decode cX1_add 32 = .ok (.iload_n 2, 1) := by decide +kernel
theorem dX1_add_33 : decode cX1_add 33 = .ok (.iastore, 1) := by decide +kernel
theorem dX1_add_34 : decode cX1_add 34 = .ok (.aload_n 0, 1) := by decide +kernel
theorem dX1_add_35 : decode cX1_add 35 = .ok (.getfield 31, 3) := by decide +kernel
theorem dX1_add_38 : decode cX1_add 38 = .ok (.aload_n 0, 1) := by decide +kernel
theorem dX1_add_39 : decode cX1_add 39 = .ok (.getfield 9, 3) := by decide +kernel
theorem dX1_add_42 : decode cX1_add 42 = .ok (.iload_n 3, 1) := by decide +kernel
theorem dX1_add_43 : decode cX1_add 43 = .ok (.iastore, 1) := by decide +kernel
theorem dX1_add_44 : decode cX1_add 44 = .ok (.aload_n 0, 1) := by decide +kernel
theorem dX1_add_45 : decode cX1_add 45 = .ok (.dup, 1) := by decide +kernel
theorem dX1_add_46 : decode cX1_add 46 = .ok (.getfield 9, 3) := by decide +kernel
theorem dX1_add_49 : decode cX1_add 49 = .ok (.iconst 1, 1) := by decide +kernel
theorem dX1_add_50 : decode cX1_add 50 = .ok (.iadd, 1) := by decide +kernel
theorem dX1_add_51 : decode cX1_add 51 = .ok (.putfield 9, 3) := by decide +kernel
theorem dX1_add_54 : decode cX1_add 54 = .ok (.aload_n 0, 1) := by decide +kernel
theorem dX1_add_55 : decode cX1_add 55 = .ok (.getfield 9, 3) := by decide +kernel
theorem dX1_add_58 : decode cX1_add 58 = .ok (.ireturn, 1) := by decide +kernel
theorem dX2_count_0 : decode cX2_count 0 = .ok (.iconst 1, 1) := by decide +kernel
theorem dX2_count_1 : decode cX2_count 1 = .ok (.istore_n 1, 1) := by decide +kernel
theorem dX2_count_2 : decode cX2_count 2 = .ok (.iload_n 1, 1) := by decide +kernel
theorem dX2_count_3 : decode cX2_count 3 = .ok (.bipush 6, 2) := by decide +kernel
theorem dX2_count_5 : decode cX2_count 5 = .ok (.if_icmp .ge 18, 3) := by decide +kernel
theorem dX2_count_8 : decode cX2_count 8 = .ok (.iload_n 0, 1) := by decide +kernel
theorem dX2_count_9 : decode cX2_count 9 = .ok (.getstatic 9, 3) := by decide +kernel
theorem dX2_count_12 : decode cX2_count 12 = .ok (.iload_n 1, 1) := by decide +kernel
theorem dX2_count_13 : decode cX2_count 13 = .ok (.iaload, 1) := by decide +kernel
theorem dX2_count_14 : decode cX2_count 14 = .ok (.if_icmp .lt 9, 3) := by decide +kernel
theorem dX2_count_17 : decode cX2_count 17 = .ok (.iinc 1 1, 3) := by decide +kernel
theorem dX2_count_20 : decode cX2_count 20 = .ok (.goto (-18), 3) := by decide +kernel
theorem dX2_count_23 : decode cX2_count 23 = .ok (.iload_n 1, 1) := by decide +kernel
theorem dX2_count_24 : decode cX2_count 24 = .ok (.ireturn, 1) := by decide +kernel
theorem dX2_at_0 : decode cX2_at 0 = .ok (.iload_n 0, 1) := by decide +kernel
theorem dX2_at_1 : decode cX2_at 1 = .ok (.invokestatic 13, 3) := by decide +kernel
theorem dX2_at_4 : decode cX2_at 4 = .ok (.iconst 1, 1) := by decide +kernel
theorem dX2_at_5 : decode cX2_at 5 = .ok (.isub, 1) := by decide +kernel
theorem dX2_at_6 : decode cX2_at 6 = .ok (.iload_n 1, 1) := by decide +kernel
theorem dX2_at_7 : decode cX2_at 7 = .ok (.isub, 1) := by decide +kernel
theorem dX2_at_8 : decode cX2_at 8 = .ok (.istore_n 2, 1) := by decide +kernel
theorem dX2_at_9 : decode cX2_at 9 = .ok (.iload_n 2, 1) := by decide +kernel
theorem dX2_at_10 : decode cX2_at 10 = .ok (.ifCond .lt 22, 3) := by decide +kernel
theorem dX2_at_13 : decode cX2_at 13 = .ok (.iload_n 2, 1) := by decide +kernel
theorem dX2_at_14 : decode cX2_at 14 = .ok (.bipush 6, 2) := by decide +kernel
theorem dX2_at_16 : decode cX2_at 16 = .ok (.if_icmp .ge 16, 3) := by decide +kernel
theorem dX2_at_19 : decode cX2_at 19 = .ok (.iload_n 0, 1) := by decide +kernel
theorem dX2_at_20 : decode cX2_at 20 = .ok (.getstatic 9, 3) := by decide +kernel
theorem dX2_at_23 : decode cX2_at 23 = .ok (.iload_n 2, 1) := by decide +kernel
theorem dX2_at_24 : decode cX2_at 24 = .ok (.iaload, 1) := by decide +kernel
theorem dX2_at_25 : decode cX2_at 25 = .ok (.idiv, 1) := by decide +kernel
theorem dX2_at_26 : decode cX2_at 26 = .ok (.bipush 10, 2) := by decide +kernel
theorem dX2_at_28 : decode cX2_at 28 = .ok (.irem, 1) := by decide +kernel
theorem dX2_at_29 : decode cX2_at 29 = .ok (.goto 4, 3) := by decide +kernel
theorem dX2_at_32 : decode cX2_at 32 = .ok (.iconst 0, 1) := by decide +kernel
theorem dX2_at_33 : decode cX2_at 33 = .ok (.ireturn, 1) := by decide +kernel
theorem dX2_reversed_0 : decode cX2_reversed 0 = .ok (.iconst 0, 1) := by decide +kernel
theorem dX2_reversed_1 : decode cX2_reversed 1 = .ok (.istore_n 1, 1) := by decide +kernel
theorem dX2_reversed_2 : decode cX2_reversed 2 = .ok (.iload_n 0, 1) := by decide +kernel
theorem dX2_reversed_3 : decode cX2_reversed 3 = .ok (.invokestatic 13, 3) := by decide +kernel
theorem dX2_reversed_6 : decode cX2_reversed 6 = .ok (.iconst 1, 1) := by decide +kernel
theorem dX2_reversed_7 : decode cX2_reversed 7 = .ok (.isub, 1) := by decide +kernel
theorem dX2_reversed_8 : decode cX2_reversed 8 = .ok (.istore_n 2, 1) := by decide +kernel
theorem dX2_reversed_9 : decode cX2_reversed 9 = .ok (.iload_n 2, 1) := by decide +kernel
theorem dX2_reversed_10 : decode cX2_reversed 10 = .ok (.ifCond .lt 20, 3) := by decide +kernel
theorem dX2_reversed_13 : decode cX2_reversed 13 = .ok (.iload_n 1, 1) := by decide +kernel
theorem dX2_reversed_14 : decode cX2_reversed 14 = .ok (.bipush 10, 2) := by decide +kernel
theorem dX2_reversed_16 : decode cX2_reversed 16 = .ok (.imul, 1) := by decide +kernel
theorem dX2_reversed_17 : decode cX2_reversed 17 = .ok (.iload_n 0, 1) := by decide +kernel
theorem dX2_reversed_18 : decode cX2_reversed 18 = .ok (.iload_n 2, 1) := by decide +kernel
theorem dX2_reversed_19 : decode cX2_reversed 19 = .ok (.invokestatic 19, 3) := by decide +kernel
theorem dX2_reversed_22 : decode cX2_reversed 22 = .ok (.iadd, 1) := by decide +kernel
theorem dX2_reversed_23 : decode cX2_reversed 23 = .ok (.istore_n 1, 1) := by decide +kernel
theorem dX2_reversed_24 : decode cX2_reversed 24 = .ok (.iinc 2 (-1), 3) := by decide +kernel
theorem dX2_reversed_27 : decode cX2_reversed 27 = .ok (.goto (-18), 3) := by decide +kernel
theorem dX2_reversed_30 : decode cX2_reversed 30 = .ok (.iload_n 1, 1) := by decide +kernel
theorem dX2_reversed_31 : decode cX2_reversed 31 = .ok (.ireturn, 1) := by decide +kernel
theorem dX2_areAllUpTo_0 : decode cX2_areAllUpTo 0 = .ok (.iload_n 0, 1) := by decide +kernel
theorem dX2_areAllUpTo_1 : decode cX2_areAllUpTo 1 = .ok (.invokestatic 13, 3) := by decide +kernel
theorem dX2_areAllUpTo_4 : decode cX2_areAllUpTo 4 = .ok (.iconst 1, 1) := by decide +kernel
theorem dX2_areAllUpTo_5 : decode cX2_areAllUpTo 5 = .ok (.isub, 1) := by decide +kernel
theorem dX2_areAllUpTo_6 : decode cX2_areAllUpTo 6 = .ok (.istore_n 2, 1) := by decide +kernel
theorem dX2_areAllUpTo_7 : decode cX2_areAllUpTo 7 = .ok (.iload_n 2, 1) := by decide +kernel
theorem dX2_areAllUpTo_8 : decode cX2_areAllUpTo 8 = .ok (.ifCond .lt 27, 3) := by decide +kernel
theorem dX2_areAllUpTo_11 : decode cX2_areAllUpTo 11 = .ok (.iload_n 0, 1) := by decide +kernel
theorem dX2_areAllUpTo_12 : decode cX2_areAllUpTo 12 = .ok (.iload_n 2, 1) := by decide +kernel
theorem dX2_areAllUpTo_13 : decode cX2_areAllUpTo 13 = .ok (.invokestatic 19, 3) := by decide +kernel
theorem dX2_areAllUpTo_16 : decode cX2_areAllUpTo 16 = .ok (.istore_n 3, 1) := by decide +kernel
theorem dX2_areAllUpTo_17 : decode cX2_areAllUpTo 17 = .ok (.iload_n 3, 1) := by decide +kernel
theorem dX2_areAllUpTo_18 : decode cX2_areAllUpTo 18 = .ok (.iconst 1, 1) := by decide +kernel
theorem dX2_areAllUpTo_19 : decode cX2_areAllUpTo 19 = .ok (.if_icmp .lt 8, 3) := by decide +kernel
theorem dX2_areAllUpTo_22 : decode cX2_areAllUpTo 22 = .ok (.iload_n 3, 1) := by decide +kernel
theorem dX2_areAllUpTo_23 : decode cX2_areAllUpTo 23 = .ok (.iload_n 1, 1) := by decide +kernel
theorem dX2_areAllUpTo_24 : decode cX2_areAllUpTo 24 = .ok (.if_icmp .le 5, 3) := by decide +kernel
theorem dX2_areAllUpTo_27 : decode cX2_areAllUpTo 27 = .ok (.iconst 0, 1) := by decide +kernel
theorem dX2_areAllUpTo_28 : decode cX2_areAllUpTo 28 = .ok (.ireturn, 1) := by decide +kernel
theorem dX2_areAllUpTo_29 : decode cX2_areAllUpTo 29 = .ok (.iinc 2 (-1), 3) := by decide +kernel
theorem dX2_areAllUpTo_32 : decode cX2_areAllUpTo 32 = .ok (.goto (-25), 3) := by decide +kernel
theorem dX2_areAllUpTo_35 : decode cX2_areAllUpTo 35 = .ok (.iconst 1, 1) := by decide +kernel
theorem dX2_areAllUpTo_36 : decode cX2_areAllUpTo 36 = .ok (.ireturn, 1) := by decide +kernel
theorem dX3_init_0 : decode cX3_init 0 = .ok (.aload_n 0, 1) := by decide +kernel
theorem dX3_init_1 : decode cX3_init 1 = .ok (.invokespecial 3, 3) := by decide +kernel
theorem dX3_init_4 : decode cX3_init 4 = .ok (.aload_n 0, 1) := by decide +kernel
theorem dX3_init_5 : decode cX3_init 5 = .ok (.bipush 8, 2) := by decide +kernel
theorem dX3_init_7 : decode cX3_init 7 = .ok (.bipush 31, 2) := by decide +kernel
theorem dX3_init_9 : decode cX3_init 9 = .ok (.multianewarray 9 2, 4) := by decide +kernel
theorem dX3_init_13 : decode cX3_init 13 = .ok (.putfield 11, 3) := by decide +kernel
theorem dX3_init_16 : decode cX3_init 16 = .ok (.aload_n 0, 1) := by decide +kernel
theorem dX3_init_17 : decode cX3_init 17 = .ok (.new 16, 3) := by decide +kernel
theorem dX3_init_20 : decode cX3_init 20 = .ok (.dup, 1) := by decide +kernel
theorem dX3_init_21 : decode cX3_init 21 = .ok (.invokespecial 18, 3) := by decide +kernel
theorem dX3_init_24 : decode cX3_init 24 = .ok (.putfield 19, 3) := by decide +kernel
theorem dX3_init_27 : decode cX3_init 27 = .ok (.aload_n 0, 1) := by decide +kernel
theorem dX3_init_28 : decode cX3_init 28 = .ok (.iconst 0, 1) := by decide +kernel
theorem dX3_init_29 : decode cX3_init 29 = .ok (.putfield 23, 3) := by decide +kernel
theorem dX3_init_32 : decode cX3_init 32 = .ok (.return_, 1) := by decide +kernel
theorem dX3_weigh_0 : decode cX3_weigh 0 = .ok (.aload_n 0, 1) := by decide +kernel
theorem dX3_weigh_1 : decode cX3_weigh 1 = .ok (.iconst 0, 1) := by decide +kernel
theorem dX3_weigh_2 : decode cX3_weigh 2 = .ok (.putfield 23, 3) := by decide +kernel
theorem dX3_weigh_5 : decode cX3_weigh 5 = .ok (.iconst 0, 1) := by decide +kernel
theorem dX3_weigh_6 : decode cX3_weigh 6 = .ok (.istore 4, 2) := by decide +kernel
theorem dX3_weigh_8 : decode cX3_weigh 8 = .ok (.iload 4, 2) := by decide +kernel
theorem dX3_weigh_10 : decode cX3_weigh 10 = .ok (.aload_n 1, 1) := by decide +kernel
theorem dX3_weigh_11 : decode cX3_weigh 11 = .ok (.getfield 27, 3) := by decide +kernel
theorem dX3_weigh_14 : decode cX3_weigh 14 = .ok (.if_icmp .ge 65, 3) := by decide +kernel
theorem dX3_weigh_17 : decode cX3_weigh 17 = .ok (.iload 4, 2) := by decide +kernel
theorem dX3_weigh_19 : decode cX3_weigh 19 = .ok (.iload_n 2, 1) := by decide +kernel
theorem dX3_weigh_20 : decode cX3_weigh 20 = .ok (.if_icmp .eq 53, 3) := by decide +kernel
theorem dX3_weigh_23 : decode cX3_weigh 23 = .ok (.aload_n 0, 1) := by decide +kernel
theorem dX3_weigh_24 : decode cX3_weigh 24 = .ok (.getfield 19, 3) := by decide +kernel
theorem dX3_weigh_27 : decode cX3_weigh 27 = .ok (.aload_n 1, 1) := by decide +kernel
theorem dX3_weigh_28 : decode cX3_weigh 28 = .ok (.invokevirtual 30, 3) := by decide +kernel
theorem dX3_weigh_31 : decode cX3_weigh 31 = .ok (.aload_n 0, 1) := by decide +kernel
theorem dX3_weigh_32 : decode cX3_weigh 32 = .ok (.getfield 19, 3) := by decide +kernel
theorem dX3_weigh_35 : decode cX3_weigh 35 = .ok (.getfield 34, 3) := by decide +kernel
theorem dX3_weigh_38 : decode cX3_weigh 38 = .ok (.iload_n 2, 1) := by decide +kernel
theorem dX3_weigh_39 : decode cX3_weigh 39 = .ok (.iload 4, 2) := by decide +kernel
theorem dX3_weigh_41 : decode cX3_weigh 41 = .ok (.iastore, 1) := by decide +kernel
theorem dX3_weigh_42 : decode cX3_weigh 42 = .ok (.aload_n 0, 1) := by decide +kernel
theorem dX3_weigh_43 : decode cX3_weigh 43 = .ok (.iload_n 2, 1) := by decide +kernel
theorem dX3_weigh_44 : decode cX3_weigh 44 = .ok (.iload 4, 2) := by decide +kernel
theorem dX3_weigh_46 : decode cX3_weigh 46 = .ok (.invokevirtual 38, 3) := by decide +kernel
theorem dX3_weigh_49 : decode cX3_weigh 49 = .ok (.aload_n 0, 1) := by decide +kernel
theorem dX3_weigh_50 : decode cX3_weigh 50 = .ok (.iload_n 2, 1) := by decide +kernel
theorem dX3_weigh_51 : decode cX3_weigh 51 = .ok (.iload 4, 2) := by decide +kernel
theorem dX3_weigh_53 : decode cX3_weigh 53 = .ok (.aload_n 3, 1) := by decide +kernel
theorem dX3_weigh_54 : decode cX3_weigh 54 = .ok (.invokevirtual 42, 3) := by decide +kernel
theorem dX3_weigh_57 : decode cX3_weigh 57 = .ok (.ifCond .eq 16, 3) := by decide +kernel
theorem dX3_weigh_60 : decode cX3_weigh 60 = .ok (.aload_n 0, 1) := by decide +kernel
theorem dX3_weigh_61 : decode cX3_weigh 61 = .ok (.dup, 1) := by decide +kernel
theorem dX3_weigh_62 : decode cX3_weigh 62 = .ok (.getfield 23, 3) := by decide +kernel
theorem dX3_weigh_65 : decode cX3_weigh 65 = .ok (.iconst 1, 1) := by decide +kernel
theorem dX3_weigh_66 : decode cX3_weigh 66 = .ok (.iload 4, 2) := by decide +kernel
theorem dX3_weigh_68 : decode cX3_weigh 68 = .ok (.ishl, 1) := by decide +kernel
theorem dX3_weigh_69 : decode cX3_weigh 69 = .ok (.ior, 1) := by decide +kernel
theorem dX3_weigh_70 : decode cX3_weigh 70 = .ok (.putfield 23, 3) := by decide +kernel
theorem dX3_weigh_73 : decode cX3_weigh 73 = .ok (.iinc 4 1, 3) := by decide +kernel
theorem dX3_weigh_76 : decode cX3_weigh 76 = .ok (.goto (-68), 3) := by decide +kernel
theorem dX3_weigh_79 : decode cX3_weigh 79 = .ok (.return_, 1) := by decide +kernel
theorem dX3_recordTrack_0 : decode cX3_recordTrack 0 = .ok (.iconst 1, 1) := by decide +kernel
theorem dX3_recordTrack_1 : decode cX3_recordTrack 1 = .ok (.istore_n 3, 1) := by decide +kernel
theorem dX3_recordTrack_2 : decode cX3_recordTrack 2 = .ok (.iload_n 3, 1) := by decide +kernel
theorem dX3_recordTrack_3 : decode cX3_recordTrack 3 = .ok (.bipush 30, 2) := by decide +kernel
theorem dX3_recordTrack_5 : decode cX3_recordTrack 5 = .ok (.if_icmp .gt 33, 3) := by decide +kernel
theorem dX3_recordTrack_8 : decode cX3_recordTrack 8 = .ok (.aload_n 0, 1) := by decide +kernel
theorem dX3_recordTrack_9 : decode cX3_recordTrack 9 = .ok (.getfield 19, 3) := by decide +kernel
theorem dX3_recordTrack_12 : decode cX3_recordTrack 12 = .ok (.invokevirtual 46, 3) := by decide +kernel
theorem dX3_recordTrack_15 : decode cX3_recordTrack 15 = .ok (.aload_n 0, 1) := by decide +kernel
theorem dX3_recordTrack_16 : decode cX3_recordTrack 16 = .ok (.getfield 11, 3) := by decide +kernel
theorem dX3_recordTrack_19 : decode cX3_recordTrack 19 = .ok (.iload_n 2, 1) := by decide +kernel
theorem dX3_recordTrack_20 : decode cX3_recordTrack 20 = .ok (.aaload, 1) := by decide +kernel
theorem dX3_recordTrack_21 : decode cX3_recordTrack 21 = .ok (.iload_n 3, 1) := by decide +kernel
theorem dX3_recordTrack_22 : decode cX3_recordTrack 22 = .ok (.aload_n 0, 1) := by decide +kernel
theorem dX3_recordTrack_23 : decode cX3_recordTrack 23 = .ok (.getfield 19, 3) := by decide +kernel
theorem dX3_recordTrack_26 : decode cX3_recordTrack 26 = .ok (.getfield 49, 3) := by decide +kernel
theorem dX3_recordTrack_29 : decode cX3_recordTrack 29 = .ok (.iload_n 1, 1) := by decide +kernel
theorem dX3_recordTrack_30 : decode cX3_recordTrack 30 = .ok (.iaload, 1) := by decide +kernel
theorem dX3_recordTrack_31 : decode cX3_recordTrack 31 = .ok (.iastore, 1) := by decide +kernel
theorem dX3_recordTrack_32 : decode cX3_recordTrack 32 = .ok (.iinc 3 1, 3) := by decide +kernel
theorem dX3_recordTrack_35 : decode cX3_recordTrack 35 = .ok (.goto (-33), 3) := by decide +kernel
theorem dX3_recordTrack_38 : decode cX3_recordTrack 38 = .ok (.return_, 1) := by decide +kernel
theorem dX3_fits_0 : decode cX3_fits 0 = .ok (.iconst 0, 1) := by decide +kernel
theorem dX3_fits_1 : decode cX3_fits 1 = .ok (.istore 4, 2) := by decide +kernel
theorem dX3_fits_3 : decode cX3_fits 3 = .ok (.iload 4, 2) := by decide +kernel
theorem dX3_fits_5 : decode cX3_fits 5 = .ok (.aload_n 3, 1) := by decide +kernel
theorem dX3_fits_6 : decode cX3_fits 6 = .ok (.getfield 52, 3) := by decide +kernel
theorem dX3_fits_9 : decode cX3_fits 9 = .ok (.if_icmp .ge 46, 3) := by decide +kernel
theorem dX3_fits_12 : decode cX3_fits 12 = .ok (.aload_n 3, 1) := by decide +kernel
theorem dX3_fits_13 : decode cX3_fits 13 = .ok (.getfield 57, 3) := by decide +kernel
theorem dX3_fits_16 : decode cX3_fits 16 = .ok (.iload 4, 2) := by decide +kernel
theorem dX3_fits_18 : decode cX3_fits 18 = .ok (.iaload, 1) := by decide +kernel
theorem dX3_fits_19 : decode cX3_fits 19 = .ok (.iload_n 1, 1) := by decide +kernel
theorem dX3_fits_20 : decode cX3_fits 20 = .ok (.if_icmp .ne 29, 3) := by decide +kernel
theorem dX3_fits_23 : decode cX3_fits 23 = .ok (.aload_n 0, 1) := by decide +kernel
theorem dX3_fits_24 : decode cX3_fits 24 = .ok (.getfield 11, 3) := by decide +kernel
theorem dX3_fits_27 : decode cX3_fits 27 = .ok (.iload_n 2, 1) := by decide +kernel
theorem dX3_fits_28 : decode cX3_fits 28 = .ok (.aaload, 1) := by decide +kernel
theorem dX3_fits_29 : decode cX3_fits 29 = .ok (.aload_n 3, 1) := by decide +kernel
theorem dX3_fits_30 : decode cX3_fits 30 = .ok (.getfield 60, 3) := by decide +kernel
theorem dX3_fits_33 : decode cX3_fits 33 = .ok (.iload 4, 2) := by decide +kernel
theorem dX3_fits_35 : decode cX3_fits 35 = .ok (.iaload, 1) := by decide +kernel
theorem dX3_fits_36 : decode cX3_fits 36 = .ok (.iaload, 1) := by decide +kernel
theorem dX3_fits_37 : decode cX3_fits 37 = .ok (.aload_n 3, 1) := by decide +kernel
theorem dX3_fits_38 : decode cX3_fits 38 = .ok (.getfield 63, 3) := by decide +kernel
theorem dX3_fits_41 : decode cX3_fits 41 = .ok (.iload 4, 2) := by decide +kernel
theorem dX3_fits_43 : decode cX3_fits 43 = .ok (.iaload, 1) := by decide +kernel
theorem dX3_fits_44 : decode cX3_fits 44 = .ok (.if_icmp .eq 5, 3) := by decide +kernel
theorem dX3_fits_47 : decode cX3_fits 47 = .ok (.iconst 0, 1) := by decide +kernel
theorem dX3_fits_48 : decode cX3_fits 48 = .ok (.ireturn, 1) := by decide +kernel
theorem dX3_fits_49 : decode cX3_fits 49 = .ok (.iinc 4 1, 3) := by decide +kernel
theorem dX3_fits_52 : decode cX3_fits 52 = .ok (.goto (-49), 3) := by decide +kernel
theorem dX3_fits_55 : decode cX3_fits 55 = .ok (.iconst 1, 1) := by decide +kernel
theorem dX3_fits_56 : decode cX3_fits 56 = .ok (.ireturn, 1) := by decide +kernel
theorem dX3_bestLook_0 : decode cX3_bestLook 0 = .ok (.iconst (-1), 1) := by decide +kernel
theorem dX3_bestLook_1 : decode cX3_bestLook 1 = .ok (.istore_n 1, 1) := by decide +kernel
theorem dX3_bestLook_2 : decode cX3_bestLook 2 = .ok (.aload_n 0, 1) := by decide +kernel
theorem dX3_bestLook_3 : decode cX3_bestLook 3 = .ok (.getfield 23, 3) := by decide +kernel
theorem dX3_bestLook_6 : decode cX3_bestLook 6 = .ok (.invokestatic 64, 3) := by decide +kernel
theorem dX3_bestLook_9 : decode cX3_bestLook 9 = .ok (.istore_n 2, 1) := by decide +kernel
theorem dX3_bestLook_10 : decode cX3_bestLook 10 = .ok (.iconst 1, 1) := by decide +kernel
theorem dX3_bestLook_11 : decode cX3_bestLook 11 = .ok (.istore_n 3, 1) := by decide +kernel
theorem dX3_bestLook_12 : decode cX3_bestLook 12 = .ok (.iload_n 3, 1) := by decide +kernel
theorem dX3_bestLook_13 : decode cX3_bestLook 13 = .ok (.bipush 30, 2) := by decide +kernel
theorem dX3_bestLook_15 : decode cX3_bestLook 15 = .ok (.if_icmp .gt 27, 3) := by decide +kernel
theorem dX3_bestLook_18 : decode cX3_bestLook 18 = .ok (.aload_n 0, 1) := by decide +kernel
theorem dX3_bestLook_19 : decode cX3_bestLook 19 = .ok (.iload_n 3, 1) := by decide +kernel
theorem dX3_bestLook_20 : decode cX3_bestLook 20 = .ok (.invokevirtual 70, 3) := by decide +kernel
theorem dX3_bestLook_23 : decode cX3_bestLook 23 = .ok (.istore 4, 2) := by decide +kernel
theorem dX3_bestLook_25 : decode cX3_bestLook 25 = .ok (.iload 4, 2) := by decide +kernel
theorem dX3_bestLook_27 : decode cX3_bestLook 27 = .ok (.iload_n 2, 1) := by decide +kernel
theorem dX3_bestLook_28 : decode cX3_bestLook 28 = .ok (.if_icmp .ge 8, 3) := by decide +kernel
theorem dX3_bestLook_31 : decode cX3_bestLook 31 = .ok (.iload 4, 2) := by decide +kernel
theorem dX3_bestLook_33 : decode cX3_bestLook 33 = .ok (.istore_n 2, 1) := by decide +kernel
theorem dX3_bestLook_34 : decode cX3_bestLook 34 = .ok (.iload_n 3, 1) := by decide +kernel
theorem dX3_bestLook_35 : decode cX3_bestLook 35 = .ok (.istore_n 1, 1) := by decide +kernel
theorem dX3_bestLook_36 : decode cX3_bestLook 36 = .ok (.iinc 3 1, 3) := by decide +kernel
theorem dX3_bestLook_39 : decode cX3_bestLook 39 = .ok (.goto (-27), 3) := by decide +kernel
theorem dX3_bestLook_42 : decode cX3_bestLook 42 = .ok (.iload_n 1, 1) := by decide +kernel
theorem dX3_bestLook_43 : decode cX3_bestLook 43 = .ok (.ireturn, 1) := by decide +kernel
theorem dX3_greatestPart_0 : decode cX3_greatestPart 0 = .ok (.iconst 0, 1) := by decide +kernel
theorem dX3_greatestPart_1 : decode cX3_greatestPart 1 = .ok (.istore_n 2, 1) := by decide +kernel
theorem dX3_greatestPart_2 : decode cX3_greatestPart 2 = .ok (.iconst 0, 1) := by decide +kernel
theorem dX3_greatestPart_3 : decode cX3_greatestPart 3 = .ok (.istore_n 3, 1) := by decide +kernel
theorem dX3_greatestPart_4 : decode cX3_greatestPart 4 = .ok (.iload_n 3, 1) := by decide +kernel
theorem dX3_greatestPart_5 : decode cX3_greatestPart 5 = .ok (.bipush 8, 2) := by decide +kernel
theorem dX3_greatestPart_7 : decode cX3_greatestPart 7 = .ok (.if_icmp .ge 31, 3) := by decide +kernel
theorem dX3_greatestPart_10 : decode cX3_greatestPart 10 = .ok (.aload_n 0, 1) := by decide +kernel
theorem dX3_greatestPart_11 : decode cX3_greatestPart 11 = .ok (.getfield 23, 3) := by decide +kernel
theorem dX3_greatestPart_14 : decode cX3_greatestPart 14 = .ok (.iload_n 3, 1) := by decide +kernel
theorem dX3_greatestPart_15 : decode cX3_greatestPart 15 = .ok (.invokestatic 73, 3) := by decide +kernel
theorem dX3_greatestPart_18 : decode cX3_greatestPart 18 = .ok (.ifCond .eq 14, 3) := by decide +kernel
theorem dX3_greatestPart_21 : decode cX3_greatestPart 21 = .ok (.iload_n 2, 1) := by decide +kernel
theorem dX3_greatestPart_22 : decode cX3_greatestPart 22 = .ok (.aload_n 0, 1) := by decide +kernel
theorem dX3_greatestPart_23 : decode cX3_greatestPart 23 = .ok (.iload_n 3, 1) := by decide +kernel
theorem dX3_greatestPart_24 : decode cX3_greatestPart 24 = .ok (.iload_n 1, 1) := by decide +kernel
theorem dX3_greatestPart_25 : decode cX3_greatestPart 25 = .ok (.invokevirtual 77, 3) := by decide +kernel
theorem dX3_greatestPart_28 : decode cX3_greatestPart 28 = .ok (.invokestatic 81, 3) := by decide +kernel
theorem dX3_greatestPart_31 : decode cX3_greatestPart 31 = .ok (.istore_n 2, 1) := by decide +kernel
theorem dX3_greatestPart_32 : decode cX3_greatestPart 32 = .ok (.iinc 3 1, 3) := by decide +kernel
theorem dX3_greatestPart_35 : decode cX3_greatestPart 35 = .ok (.goto (-31), 3) := by decide +kernel
theorem dX3_greatestPart_38 : decode cX3_greatestPart 38 = .ok (.iload_n 2, 1) := by decide +kernel
theorem dX3_greatestPart_39 : decode cX3_greatestPart 39 = .ok (.ireturn, 1) := by decide +kernel
theorem dX3_partAlike_0 : decode cX3_partAlike 0 = .ok (.iconst 0, 1) := by decide +kernel
theorem dX3_partAlike_1 : decode cX3_partAlike 1 = .ok (.istore_n 3, 1) := by decide +kernel
theorem dX3_partAlike_2 : decode cX3_partAlike 2 = .ok (.iconst 0, 1) := by decide +kernel
theorem dX3_partAlike_3 : decode cX3_partAlike 3 = .ok (.istore 4, 2) := by decide +kernel
theorem dX3_partAlike_5 : decode cX3_partAlike 5 = .ok (.iload 4, 2) := by decide +kernel
theorem dX3_partAlike_7 : decode cX3_partAlike 7 = .ok (.bipush 8, 2) := by decide +kernel
theorem dX3_partAlike_9 : decode cX3_partAlike 9 = .ok (.if_icmp .ge 44, 3) := by decide +kernel
theorem dX3_partAlike_12 : decode cX3_partAlike 12 = .ok (.aload_n 0, 1) := by decide +kernel
theorem dX3_partAlike_13 : decode cX3_partAlike 13 = .ok (.getfield 23, 3) := by decide +kernel
theorem dX3_partAlike_16 : decode cX3_partAlike 16 = .ok (.iload 4, 2) := by decide +kernel
theorem dX3_partAlike_18 : decode cX3_partAlike 18 = .ok (.invokestatic 73, 3) := by decide +kernel
theorem dX3_partAlike_21 : decode cX3_partAlike 21 = .ok (.ifCond .eq 26, 3) := by decide +kernel
theorem dX3_partAlike_24 : decode cX3_partAlike 24 = .ok (.aload_n 0, 1) := by decide +kernel
theorem dX3_partAlike_25 : decode cX3_partAlike 25 = .ok (.getfield 11, 3) := by decide +kernel
theorem dX3_partAlike_28 : decode cX3_partAlike 28 = .ok (.iload 4, 2) := by decide +kernel
theorem dX3_partAlike_30 : decode cX3_partAlike 30 = .ok (.aaload, 1) := by decide +kernel
theorem dX3_partAlike_31 : decode cX3_partAlike 31 = .ok (.iload_n 2, 1) := by decide +kernel
theorem dX3_partAlike_32 : decode cX3_partAlike 32 = .ok (.iaload, 1) := by decide +kernel
theorem dX3_partAlike_33 : decode cX3_partAlike 33 = .ok (.aload_n 0, 1) := by decide +kernel
theorem dX3_partAlike_34 : decode cX3_partAlike 34 = .ok (.getfield 11, 3) := by decide +kernel
theorem dX3_partAlike_37 : decode cX3_partAlike 37 = .ok (.iload_n 1, 1) := by decide +kernel
theorem dX3_partAlike_38 : decode cX3_partAlike 38 = .ok (.aaload, 1) := by decide +kernel
theorem dX3_partAlike_39 : decode cX3_partAlike 39 = .ok (.iload_n 2, 1) := by decide +kernel
theorem dX3_partAlike_40 : decode cX3_partAlike 40 = .ok (.iaload, 1) := by decide +kernel
theorem dX3_partAlike_41 : decode cX3_partAlike 41 = .ok (.if_icmp .ne 6, 3) := by decide +kernel
theorem dX3_partAlike_44 : decode cX3_partAlike 44 = .ok (.iinc 3 1, 3) := by decide +kernel
theorem dX3_partAlike_47 : decode cX3_partAlike 47 = .ok (.iinc 4 1, 3) := by decide +kernel
theorem dX3_partAlike_50 : decode cX3_partAlike 50 = .ok (.goto (-45), 3) := by decide +kernel
theorem dX3_partAlike_53 : decode cX3_partAlike 53 = .ok (.iload_n 3, 1) := by decide +kernel
theorem dX3_partAlike_54 : decode cX3_partAlike 54 = .ok (.ireturn, 1) := by decide +kernel
theorem dX4_init_0 : decode cX4_init 0 = .ok (.aload_n 0, 1) := by decide +kernel
theorem dX4_init_1 : decode cX4_init 1 = .ok (.invokespecial 3, 3) := by decide +kernel
theorem dX4_init_4 : decode cX4_init 4 = .ok (.aload_n 0, 1) := by decide +kernel
theorem dX4_init_5 : decode cX4_init 5 = .ok (.bipush 20, 2) := by decide +kernel
theorem dX4_init_7 : decode cX4_init 7 = .ok (.anewarray 9, 3) := by decide +kernel
theorem dX4_init_10 : decode cX4_init 10 = .ok (.putfield 11, 3) := by decide +kernel
theorem dX4_init_13 : decode cX4_init 13 = .ok (.aload_n 0, 1) := by decide +kernel
theorem dX4_init_14 : decode cX4_init 14 = .ok (.iconst 0, 1) := by decide +kernel
theorem dX4_init_15 : decode cX4_init 15 = .ok (.putfield 17, 3) := by decide +kernel
theorem dX4_init_18 : decode cX4_init 18 = .ok (.aload_n 0, 1) := by decide +kernel
theorem dX4_init_19 : decode cX4_init 19 = .ok (.iconst 0, 1) := by decide +kernel
theorem dX4_init_20 : decode cX4_init 20 = .ok (.putfield 21, 3) := by decide +kernel
theorem dX4_init_23 : decode cX4_init 23 = .ok (.iconst 0, 1) := by decide +kernel
theorem dX4_init_24 : decode cX4_init 24 = .ok (.istore_n 1, 1) := by decide +kernel
theorem dX4_init_25 : decode cX4_init 25 = .ok (.iload_n 1, 1) := by decide +kernel
theorem dX4_init_26 : decode cX4_init 26 = .ok (.bipush 20, 2) := by decide +kernel
theorem dX4_init_28 : decode cX4_init 28 = .ok (.if_icmp .ge 22, 3) := by decide +kernel
theorem dX4_init_31 : decode cX4_init 31 = .ok (.aload_n 0, 1) := by decide +kernel
theorem dX4_init_32 : decode cX4_init 32 = .ok (.getfield 11, 3) := by decide +kernel
theorem dX4_init_35 : decode cX4_init 35 = .ok (.iload_n 1, 1) := by decide +kernel
theorem dX4_init_36 : decode cX4_init 36 = .ok (.new 9, 3) := by decide +kernel
theorem dX4_init_39 : decode cX4_init 39 = .ok (.dup, 1) := by decide +kernel
theorem dX4_init_40 : decode cX4_init 40 = .ok (.invokespecial 24, 3) := by decide +kernel
theorem dX4_init_43 : decode cX4_init 43 = .ok (.aastore, 1) := by decide +kernel
theorem dX4_init_44 : decode cX4_init 44 = .ok (.iinc 1 1, 3) := by decide +kernel
theorem dX4_init_47 : decode cX4_init 47 = .ok (.goto (-22), 3) := by decide +kernel
theorem dX4_init_50 : decode cX4_init 50 = .ok (.return_, 1) := by decide +kernel
theorem dX4_push_0 : decode cX4_push 0 = .ok (.aload_n 0, 1) := by decide +kernel
theorem dX4_push_1 : decode cX4_push 1 = .ok (.getfield 11, 3) := by decide +kernel
theorem dX4_push_4 : decode cX4_push 4 = .ok (.aload_n 0, 1) := by decide +kernel
theorem dX4_push_5 : decode cX4_push 5 = .ok (.getfield 17, 3) := by decide +kernel
theorem dX4_push_8 : decode cX4_push 8 = .ok (.aaload, 1) := by decide +kernel
theorem dX4_push_9 : decode cX4_push 9 = .ok (.aload_n 1, 1) := by decide +kernel
theorem dX4_push_10 : decode cX4_push 10 = .ok (.invokevirtual 25, 3) := by decide +kernel
theorem dX4_push_13 : decode cX4_push 13 = .ok (.aload_n 0, 1) := by decide +kernel
theorem dX4_push_14 : decode cX4_push 14 = .ok (.aload_n 0, 1) := by decide +kernel
theorem dX4_push_15 : decode cX4_push 15 = .ok (.getfield 17, 3) := by decide +kernel
theorem dX4_push_18 : decode cX4_push 18 = .ok (.iconst 1, 1) := by decide +kernel
theorem dX4_push_19 : decode cX4_push 19 = .ok (.iadd, 1) := by decide +kernel
theorem dX4_push_20 : decode cX4_push 20 = .ok (.bipush 20, 2) := by decide +kernel
theorem dX4_push_22 : decode cX4_push 22 = .ok (.irem, 1) := by decide +kernel
theorem dX4_push_23 : decode cX4_push 23 = .ok (.putfield 17, 3) := by decide +kernel
theorem dX4_push_26 : decode cX4_push 26 = .ok (.aload_n 0, 1) := by decide +kernel
theorem dX4_push_27 : decode cX4_push 27 = .ok (.aload_n 0, 1) := by decide +kernel
theorem dX4_push_28 : decode cX4_push 28 = .ok (.getfield 21, 3) := by decide +kernel
theorem dX4_push_31 : decode cX4_push 31 = .ok (.iconst 1, 1) := by decide +kernel
theorem dX4_push_32 : decode cX4_push 32 = .ok (.iadd, 1) := by decide +kernel
theorem dX4_push_33 : decode cX4_push 33 = .ok (.bipush 20, 2) := by decide +kernel
theorem dX4_push_35 : decode cX4_push 35 = .ok (.invokestatic 29, 3) := by decide +kernel
theorem dX4_push_38 : decode cX4_push 38 = .ok (.putfield 21, 3) := by decide +kernel
theorem dX4_push_41 : decode cX4_push 41 = .ok (.return_, 1) := by decide +kernel
theorem dX4_pop_0 : decode cX4_pop 0 = .ok (.aload_n 0, 1) := by decide +kernel
theorem dX4_pop_1 : decode cX4_pop 1 = .ok (.getfield 21, 3) := by decide +kernel
theorem dX4_pop_4 : decode cX4_pop 4 = .ok (.ifCond .le 42, 3) := by decide +kernel
theorem dX4_pop_7 : decode cX4_pop 7 = .ok (.aload_n 0, 1) := by decide +kernel
theorem dX4_pop_8 : decode cX4_pop 8 = .ok (.aload_n 0, 1) := by decide +kernel
theorem dX4_pop_9 : decode cX4_pop 9 = .ok (.getfield 17, 3) := by decide +kernel
theorem dX4_pop_12 : decode cX4_pop 12 = .ok (.bipush 20, 2) := by decide +kernel
theorem dX4_pop_14 : decode cX4_pop 14 = .ok (.iadd, 1) := by decide +kernel
theorem dX4_pop_15 : decode cX4_pop 15 = .ok (.iconst 1, 1) := by decide +kernel
theorem dX4_pop_16 : decode cX4_pop 16 = .ok (.isub, 1) := by decide +kernel
theorem dX4_pop_17 : decode cX4_pop 17 = .ok (.bipush 20, 2) := by decide +kernel
theorem dX4_pop_19 : decode cX4_pop 19 = .ok (.irem, 1) := by decide +kernel
theorem dX4_pop_20 : decode cX4_pop 20 = .ok (.putfield 17, 3) := by decide +kernel
theorem dX4_pop_23 : decode cX4_pop 23 = .ok (.aload_n 1, 1) := by decide +kernel
theorem dX4_pop_24 : decode cX4_pop 24 = .ok (.aload_n 0, 1) := by decide +kernel
theorem dX4_pop_25 : decode cX4_pop 25 = .ok (.getfield 11, 3) := by decide +kernel
theorem dX4_pop_28 : decode cX4_pop 28 = .ok (.aload_n 0, 1) := by decide +kernel
theorem dX4_pop_29 : decode cX4_pop 29 = .ok (.getfield 17, 3) := by decide +kernel
theorem dX4_pop_32 : decode cX4_pop 32 = .ok (.aaload, 1) := by decide +kernel
theorem dX4_pop_33 : decode cX4_pop 33 = .ok (.invokevirtual 25, 3) := by decide +kernel
theorem dX4_pop_36 : decode cX4_pop 36 = .ok (.aload_n 0, 1) := by decide +kernel
theorem dX4_pop_37 : decode cX4_pop 37 = .ok (.dup, 1) := by decide +kernel
theorem dX4_pop_38 : decode cX4_pop 38 = .ok (.getfield 21, 3) := by decide +kernel
theorem dX4_pop_41 : decode cX4_pop 41 = .ok (.iconst 1, 1) := by decide +kernel
theorem dX4_pop_42 : decode cX4_pop 42 = .ok (.isub, 1) := by decide +kernel
theorem dX4_pop_43 : decode cX4_pop 43 = .ok (.putfield 21, 3) := by decide +kernel
theorem dX4_pop_46 : decode cX4_pop 46 = .ok (.return_, 1) := by decide +kernel
theorem dX4_forget_0 : decode cX4_forget 0 = .ok (.aload_n 0, 1) := by decide +kernel
theorem dX4_forget_1 : decode cX4_forget 1 = .ok (.iconst 0, 1) := by decide +kernel
theorem dX4_forget_2 : decode cX4_forget 2 = .ok (.putfield 21, 3) := by decide +kernel
theorem dX4_forget_5 : decode cX4_forget 5 = .ok (.return_, 1) := by decide +kernel
theorem dX5_init_0 : decode cX5_init 0 = .ok (.aload_n 0, 1) := by decide +kernel
theorem dX5_init_1 : decode cX5_init 1 = .ok (.invokespecial 3, 3) := by decide +kernel
theorem dX5_init_4 : decode cX5_init 4 = .ok (.aload_n 0, 1) := by decide +kernel
theorem dX5_init_5 : decode cX5_init 5 = .ok (.iconst 2, 1) := by decide +kernel
theorem dX5_init_6 : decode cX5_init 6 = .ok (.anewarray 9, 3) := by decide +kernel
theorem dX5_init_9 : decode cX5_init 9 = .ok (.putfield 11, 3) := by decide +kernel
theorem dX5_init_12 : decode cX5_init 12 = .ok (.aload_n 0, 1) := by decide +kernel
theorem dX5_init_13 : decode cX5_init 13 = .ok (.iconst 2, 1) := by decide +kernel
theorem dX5_init_14 : decode cX5_init 14 = .ok (.newarray .int, 2) := by decide +kernel
theorem dX5_init_16 : decode cX5_init 16 = .ok (.putfield 17, 3) := by decide +kernel
theorem dX5_init_19 : decode cX5_init 19 = .ok (.aload_n 0, 1) := by decide +kernel
theorem dX5_init_20 : decode cX5_init 20 = .ok (.iconst 2, 1) := by decide +kernel
theorem dX5_init_21 : decode cX5_init 21 = .ok (.newarray .boolean, 2) := by decide +kernel
theorem dX5_init_23 : decode cX5_init 23 = .ok (.putfield 21, 3) := by decide +kernel
theorem dX5_init_26 : decode cX5_init 26 = .ok (.iconst 0, 1) := by decide +kernel
theorem dX5_init_27 : decode cX5_init 27 = .ok (.istore_n 1, 1) := by decide +kernel
theorem dX5_init_28 : decode cX5_init 28 = .ok (.iload_n 1, 1) := by decide +kernel
theorem dX5_init_29 : decode cX5_init 29 = .ok (.iconst 2, 1) := by decide +kernel
theorem dX5_init_30 : decode cX5_init 30 = .ok (.if_icmp .ge 22, 3) := by decide +kernel
theorem dX5_init_33 : decode cX5_init 33 = .ok (.aload_n 0, 1) := by decide +kernel
theorem dX5_init_34 : decode cX5_init 34 = .ok (.getfield 11, 3) := by decide +kernel
theorem dX5_init_37 : decode cX5_init 37 = .ok (.iload_n 1, 1) := by decide +kernel
theorem dX5_init_38 : decode cX5_init 38 = .ok (.new 9, 3) := by decide +kernel
theorem dX5_init_41 : decode cX5_init 41 = .ok (.dup, 1) := by decide +kernel
theorem dX5_init_42 : decode cX5_init 42 = .ok (.invokespecial 25, 3) := by decide +kernel
theorem dX5_init_45 : decode cX5_init 45 = .ok (.aastore, 1) := by decide +kernel
theorem dX5_init_46 : decode cX5_init 46 = .ok (.iinc 1 1, 3) := by decide +kernel
theorem dX5_init_49 : decode cX5_init 49 = .ok (.goto (-21), 3) := by decide +kernel
theorem dX5_init_52 : decode cX5_init 52 = .ok (.return_, 1) := by decide +kernel
theorem dX5_put_0 : decode cX5_put 0 = .ok (.aload_n 0, 1) := by decide +kernel
theorem dX5_put_1 : decode cX5_put 1 = .ok (.getfield 11, 3) := by decide +kernel
theorem dX5_put_4 : decode cX5_put 4 = .ok (.iload_n 1, 1) := by decide +kernel
theorem dX5_put_5 : decode cX5_put 5 = .ok (.aaload, 1) := by decide +kernel
theorem dX5_put_6 : decode cX5_put 6 = .ok (.aload_n 2, 1) := by decide +kernel
theorem dX5_put_7 : decode cX5_put 7 = .ok (.invokevirtual 26, 3) := by decide +kernel
theorem dX5_put_10 : decode cX5_put 10 = .ok (.aload_n 0, 1) := by decide +kernel
theorem dX5_put_11 : decode cX5_put 11 = .ok (.getfield 17, 3) := by decide +kernel
theorem dX5_put_14 : decode cX5_put 14 = .ok (.iload_n 1, 1) := by decide +kernel
theorem dX5_put_15 : decode cX5_put 15 = .ok (.iload_n 3, 1) := by decide +kernel
theorem dX5_put_16 : decode cX5_put 16 = .ok (.iastore, 1) := by decide +kernel
theorem dX5_put_17 : decode cX5_put 17 = .ok (.aload_n 0, 1) := by decide +kernel
theorem dX5_put_18 : decode cX5_put 18 = .ok (.getfield 21, 3) := by decide +kernel
theorem dX5_put_21 : decode cX5_put 21 = .ok (.iload_n 1, 1) := by decide +kernel
theorem dX5_put_22 : decode cX5_put 22 = .ok (.iconst 1, 1) := by decide +kernel
theorem dX5_put_23 : decode cX5_put 23 = .ok (.bastore, 1) := by decide +kernel
theorem dX5_put_24 : decode cX5_put 24 = .ok (.return_, 1) := by decide +kernel
theorem dX5_forget_0 : decode cX5_forget 0 = .ok (.iconst 0, 1) := by decide +kernel
theorem dX5_forget_1 : decode cX5_forget 1 = .ok (.istore_n 1, 1) := by decide +kernel
theorem dX5_forget_2 : decode cX5_forget 2 = .ok (.iload_n 1, 1) := by decide +kernel
theorem dX5_forget_3 : decode cX5_forget 3 = .ok (.iconst 2, 1) := by decide +kernel
theorem dX5_forget_4 : decode cX5_forget 4 = .ok (.if_icmp .ge 16, 3) := by decide +kernel
theorem dX5_forget_7 : decode cX5_forget 7 = .ok (.aload_n 0, 1) := by decide +kernel
theorem dX5_forget_8 : decode cX5_forget 8 = .ok (.getfield 21, 3) := by decide +kernel
theorem dX5_forget_11 : decode cX5_forget 11 = .ok (.iload_n 1, 1) := by decide +kernel
theorem dX5_forget_12 : decode cX5_forget 12 = .ok (.iconst 0, 1) := by decide +kernel
theorem dX5_forget_13 : decode cX5_forget 13 = .ok (.bastore, 1) := by decide +kernel
theorem dX5_forget_14 : decode cX5_forget 14 = .ok (.iinc 1 1, 3) := by decide +kernel
theorem dX5_forget_17 : decode cX5_forget 17 = .ok (.goto (-15), 3) := by decide +kernel
theorem dX5_forget_20 : decode cX5_forget 20 = .ok (.return_, 1) := by decide +kernel
theorem dX6_init_0 : decode cX6_init 0 = .ok (.aload_n 0, 1) := by decide +kernel
theorem dX6_init_1 : decode cX6_init 1 = .ok (.invokespecial 3, 3) := by decide +kernel
theorem dX6_init_4 : decode cX6_init 4 = .ok (.aload_n 0, 1) := by decide +kernel
theorem dX6_init_5 : decode cX6_init 5 = .ok (.new 9, 3) := by decide +kernel
theorem dX6_init_8 : decode cX6_init 8 = .ok (.dup, 1) := by decide +kernel
theorem dX6_init_9 : decode cX6_init 9 = .ok (.invokespecial 11, 3) := by decide +kernel
theorem dX6_init_12 : decode cX6_init 12 = .ok (.putfield 12, 3) := by decide +kernel
theorem dX6_init_15 : decode cX6_init 15 = .ok (.aload_n 0, 1) := by decide +kernel
theorem dX6_init_16 : decode cX6_init 16 = .ok (.iconst 0, 1) := by decide +kernel
theorem dX6_init_17 : decode cX6_init 17 = .ok (.putfield 18, 3) := by decide +kernel
theorem dX6_init_20 : decode cX6_init 20 = .ok (.aload_n 0, 1) := by decide +kernel
theorem dX6_init_21 : decode cX6_init 21 = .ok (.iconst 0, 1) := by decide +kernel
theorem dX6_init_22 : decode cX6_init 22 = .ok (.putfield 22, 3) := by decide +kernel
theorem dX6_init_25 : decode cX6_init 25 = .ok (.aload_n 0, 1) := by decide +kernel
theorem dX6_init_26 : decode cX6_init 26 = .ok (.iconst 0, 1) := by decide +kernel
theorem dX6_init_27 : decode cX6_init 27 = .ok (.putfield 25, 3) := by decide +kernel
theorem dX6_init_30 : decode cX6_init 30 = .ok (.aload_n 0, 1) := by decide +kernel
theorem dX6_init_31 : decode cX6_init 31 = .ok (.iconst (-1), 1) := by decide +kernel
theorem dX6_init_32 : decode cX6_init 32 = .ok (.putfield 28, 3) := by decide +kernel
theorem dX6_init_35 : decode cX6_init 35 = .ok (.aload_n 0, 1) := by decide +kernel
theorem dX6_init_36 : decode cX6_init 36 = .ok (.iconst 0, 1) := by decide +kernel
theorem dX6_init_37 : decode cX6_init 37 = .ok (.putfield 31, 3) := by decide +kernel
theorem dX6_init_40 : decode cX6_init 40 = .ok (.aload_n 0, 1) := by decide +kernel
theorem dX6_init_41 : decode cX6_init 41 = .ok (.iconst 0, 1) := by decide +kernel
theorem dX6_init_42 : decode cX6_init 42 = .ok (.putfield 34, 3) := by decide +kernel
theorem dX6_init_45 : decode cX6_init 45 = .ok (.aload_n 0, 1) := by decide +kernel
theorem dX6_init_46 : decode cX6_init 46 = .ok (.aload_n 1, 1) := by decide +kernel
theorem dX6_init_47 : decode cX6_init 47 = .ok (.putfield 37, 3) := by decide +kernel
theorem dX6_init_50 : decode cX6_init 50 = .ok (.return_, 1) := by decide +kernel
theorem dX6_readAll_0 : decode cX6_readAll 0 = .ok (.aload_n 0, 1) := by decide +kernel
theorem dX6_readAll_1 : decode cX6_readAll 1 = .ok (.getfield 12, 3) := by decide +kernel
theorem dX6_readAll_4 : decode cX6_readAll 4 = .ok (.invokevirtual 41, 3) := by decide +kernel
theorem dX6_readAll_7 : decode cX6_readAll 7 = .ok (.aload_n 0, 1) := by decide +kernel
theorem dX6_readAll_8 : decode cX6_readAll 8 = .ok (.iconst 0, 1) := by decide +kernel
theorem dX6_readAll_9 : decode cX6_readAll 9 = .ok (.putfield 18, 3) := by decide +kernel
theorem dX6_readAll_12 : decode cX6_readAll 12 = .ok (.aload_n 0, 1) := by decide +kernel
theorem dX6_readAll_13 : decode cX6_readAll 13 = .ok (.iconst 0, 1) := by decide +kernel
theorem dX6_readAll_14 : decode cX6_readAll 14 = .ok (.putfield 22, 3) := by decide +kernel
theorem dX6_readAll_17 : decode cX6_readAll 17 = .ok (.aload_n 0, 1) := by decide +kernel
theorem dX6_readAll_18 : decode cX6_readAll 18 = .ok (.iconst 0, 1) := by decide +kernel
theorem dX6_readAll_19 : decode cX6_readAll 19 = .ok (.putfield 25, 3) := by decide +kernel
theorem dX6_readAll_22 : decode cX6_readAll 22 = .ok (.aload_n 0, 1) := by decide +kernel
theorem dX6_readAll_23 : decode cX6_readAll 23 = .ok (.iconst (-1), 1) := by decide +kernel
theorem dX6_readAll_24 : decode cX6_readAll 24 = .ok (.putfield 28, 3) := by decide +kernel
theorem dX6_readAll_27 : decode cX6_readAll 27 = .ok (.aload_n 0, 1) := by decide +kernel
theorem dX6_readAll_28 : decode cX6_readAll 28 = .ok (.iconst 0, 1) := by decide +kernel
theorem dX6_readAll_29 : decode cX6_readAll 29 = .ok (.putfield 31, 3) := by decide +kernel
theorem dX6_readAll_32 : decode cX6_readAll 32 = .ok (.aload_n 0, 1) := by decide +kernel
theorem dX6_readAll_33 : decode cX6_readAll 33 = .ok (.invokevirtual 44, 3) := by decide +kernel
theorem dX6_readAll_36 : decode cX6_readAll 36 = .ok (.iconst 0, 1) := by decide +kernel
theorem dX6_readAll_37 : decode cX6_readAll 37 = .ok (.istore_n 1, 1) := by decide +kernel
theorem dX6_readAll_38 : decode cX6_readAll 38 = .ok (.iload_n 1, 1) := by decide +kernel
theorem dX6_readAll_39 : decode cX6_readAll 39 = .ok (.sipush 240, 3) := by decide +kernel
theorem dX6_readAll_42 : decode cX6_readAll 42 = .ok (.if_icmp .gt 38, 3) := by decide +kernel
theorem dX6_readAll_45 : decode cX6_readAll 45 = .ok (.aload_n 0, 1) := by decide +kernel
theorem dX6_readAll_46 : decode cX6_readAll 46 = .ok (.getfield 25, 3) := by decide +kernel
theorem dX6_readAll_49 : decode cX6_readAll 49 = .ok (.ifCond .ne 31, 3) := by decide +kernel
theorem dX6_readAll_52 : decode cX6_readAll 52 = .ok (.aload_n 0, 1) := by decide +kernel
theorem dX6_readAll_53 : decode cX6_readAll 53 = .ok (.getfield 31, 3) := by decide +kernel
theorem dX6_readAll_56 : decode cX6_readAll 56 = .ok (.aload_n 0, 1) := by decide +kernel
theorem dX6_readAll_57 : decode cX6_readAll 57 = .ok (.getfield 37, 3) := by decide +kernel
theorem dX6_readAll_60 : decode cX6_readAll 60 = .ok (.getfield 47, 3) := by decide +kernel
theorem dX6_readAll_63 : decode cX6_readAll 63 = .ok (.if_icmp .ge 17, 3) := by decide +kernel
theorem dX6_readAll_66 : decode cX6_readAll 66 = .ok (.aload_n 0, 1) := by decide +kernel
theorem dX6_readAll_67 : decode cX6_readAll 67 = .ok (.invokevirtual 52, 3) := by decide +kernel
theorem dX6_readAll_70 : decode cX6_readAll 70 = .ok (.aload_n 0, 1) := by decide +kernel
theorem dX6_readAll_71 : decode cX6_readAll 71 = .ok (.invokevirtual 44, 3) := by decide +kernel
theorem dX6_readAll_74 : decode cX6_readAll 74 = .ok (.iinc 1 1, 3) := by decide +kernel
theorem dX6_readAll_77 : decode cX6_readAll 77 = .ok (.goto (-39), 3) := by decide +kernel
theorem dX6_readAll_80 : decode cX6_readAll 80 = .ok (.return_, 1) := by decide +kernel
theorem dX6_letter_0 : decode cX6_letter 0 = .ok (.aload_n 0, 1) := by decide +kernel
theorem dX6_letter_1 : decode cX6_letter 1 = .ok (.getfield 37, 3) := by decide +kernel
theorem dX6_letter_4 : decode cX6_letter 4 = .ok (.aload_n 0, 1) := by decide +kernel
theorem dX6_letter_5 : decode cX6_letter 5 = .ok (.getfield 31, 3) := by decide +kernel
theorem dX6_letter_8 : decode cX6_letter 8 = .ok (.invokevirtual 55, 3) := by decide +kernel
theorem dX6_letter_11 : decode cX6_letter 11 = .ok (.ireturn, 1) := by decide +kernel
theorem dX6_isFigure_0 : decode cX6_isFigure 0 = .ok (.aload_n 0, 1) := by decide +kernel
theorem dX6_isFigure_1 : decode cX6_isFigure 1 = .ok (.invokevirtual 59, 3) := by decide +kernel
theorem dX6_isFigure_4 : decode cX6_isFigure 4 = .ok (.istore_n 1, 1) := by decide +kernel
theorem dX6_isFigure_5 : decode cX6_isFigure 5 = .ok (.iload_n 1, 1) := by decide +kernel
theorem dX6_isFigure_6 : decode cX6_isFigure 6 = .ok (.bipush 48, 2) := by decide +kernel
theorem dX6_isFigure_8 : decode cX6_isFigure 8 = .ok (.if_icmp .lt 13, 3) := by decide +kernel
theorem dX6_isFigure_11 : decode cX6_isFigure 11 = .ok (.iload_n 1, 1) := by decide +kernel
theorem dX6_isFigure_12 : decode cX6_isFigure 12 = .ok (.bipush 57, 2) := by decide +kernel
theorem dX6_isFigure_14 : decode cX6_isFigure 14 = .ok (.if_icmp .gt 7, 3) := by decide +kernel
theorem dX6_isFigure_17 : decode cX6_isFigure 17 = .ok (.iconst 1, 1) := by decide +kernel
theorem dX6_isFigure_18 : decode cX6_isFigure 18 = .ok (.goto 4, 3) := by decide +kernel
theorem dX6_isFigure_21 : decode cX6_isFigure 21 = .ok (.iconst 0, 1) := by decide +kernel
theorem dX6_isFigure_22 : decode cX6_isFigure 22 = .ok (.ireturn, 1) := by decide +kernel
theorem dX6_skipBlanks_0 : decode cX6_skipBlanks 0 = .ok (.iconst 0, 1) := by decide +kernel
theorem dX6_skipBlanks_1 : decode cX6_skipBlanks 1 = .ok (.istore_n 1, 1) := by decide +kernel
theorem dX6_skipBlanks_2 : decode cX6_skipBlanks 2 = .ok (.iload_n 1, 1) := by decide +kernel
theorem dX6_skipBlanks_3 : decode cX6_skipBlanks 3 = .ok (.sipush 240, 3) := by decide +kernel
theorem dX6_skipBlanks_6 : decode cX6_skipBlanks 6 = .ok (.if_icmp .ge 28, 3) := by decide +kernel
theorem dX6_skipBlanks_9 : decode cX6_skipBlanks 9 = .ok (.aload_n 0, 1) := by decide +kernel
theorem dX6_skipBlanks_10 : decode cX6_skipBlanks 10 = .ok (.invokevirtual 59, 3) := by decide +kernel
theorem dX6_skipBlanks_13 : decode cX6_skipBlanks 13 = .ok (.bipush 32, 2) := by decide +kernel
theorem dX6_skipBlanks_15 : decode cX6_skipBlanks 15 = .ok (.if_icmp .ne 19, 3) := by decide +kernel
theorem dX6_skipBlanks_18 : decode cX6_skipBlanks 18 = .ok (.aload_n 0, 1) := by decide +kernel
theorem dX6_skipBlanks_19 : decode cX6_skipBlanks 19 = .ok (.dup, 1) := by decide +kernel
theorem dX6_skipBlanks_20 : decode cX6_skipBlanks 20 = .ok (.getfield 31, 3) := by decide +kernel
theorem dX6_skipBlanks_23 : decode cX6_skipBlanks 23 = .ok (.iconst 1, 1) := by decide +kernel
theorem dX6_skipBlanks_24 : decode cX6_skipBlanks 24 = .ok (.iadd, 1) := by decide +kernel
theorem dX6_skipBlanks_25 : decode cX6_skipBlanks 25 = .ok (.putfield 31, 3) := by decide +kernel
theorem dX6_skipBlanks_28 : decode cX6_skipBlanks 28 = .ok (.iinc 1 1, 3) := by decide +kernel
theorem dX6_skipBlanks_31 : decode cX6_skipBlanks 31 = .ok (.goto (-29), 3) := by decide +kernel
theorem dX6_skipBlanks_34 : decode cX6_skipBlanks 34 = .ok (.return_, 1) := by decide +kernel
theorem dX6_blame_0 : decode cX6_blame 0 = .ok (.aload_n 0, 1) := by decide +kernel
theorem dX6_blame_1 : decode cX6_blame 1 = .ok (.getfield 25, 3) := by decide +kernel
theorem dX6_blame_4 : decode cX6_blame 4 = .ok (.ifCond .ne 13, 3) := by decide +kernel
theorem dX6_blame_7 : decode cX6_blame 7 = .ok (.aload_n 0, 1) := by decide +kernel
theorem dX6_blame_8 : decode cX6_blame 8 = .ok (.iload_n 1, 1) := by decide +kernel
theorem dX6_blame_9 : decode cX6_blame 9 = .ok (.putfield 25, 3) := by decide +kernel
theorem dX6_blame_12 : decode cX6_blame 12 = .ok (.aload_n 0, 1) := by decide +kernel
theorem dX6_blame_13 : decode cX6_blame 13 = .ok (.iload_n 2, 1) := by decide +kernel
theorem dX6_blame_14 : decode cX6_blame 14 = .ok (.putfield 28, 3) := by decide +kernel
theorem dX6_blame_17 : decode cX6_blame 17 = .ok (.return_, 1) := by decide +kernel
theorem dX6_readClause_0 : decode cX6_readClause 0 = .ok (.aload_n 0, 1) := by decide +kernel
theorem dX6_readClause_1 : decode cX6_readClause 1 = .ok (.invokevirtual 59, 3) := by decide +kernel
theorem dX6_readClause_4 : decode cX6_readClause 4 = .ok (.istore_n 1, 1) := by decide +kernel
theorem dX6_readClause_5 : decode cX6_readClause 5 = .ok (.iload_n 1, 1) := by decide +kernel
theorem dX6_readClause_6 : decode cX6_readClause 6 = .ok (.bipush 116, 2) := by decide +kernel
theorem dX6_readClause_8 : decode cX6_readClause 8 = .ok (.if_icmp .eq 32, 3) := by decide +kernel
theorem dX6_readClause_11 : decode cX6_readClause 11 = .ok (.iload_n 1, 1) := by decide +kernel
theorem dX6_readClause_12 : decode cX6_readClause 12 = .ok (.bipush 99, 2) := by decide +kernel
theorem dX6_readClause_14 : decode cX6_readClause 14 = .ok (.if_icmp .eq 9, 3) := by decide +kernel
theorem dX6_readClause_17 : decode cX6_readClause 17 = .ok (.iload_n 1, 1) := by decide +kernel
theorem dX6_readClause_18 : decode cX6_readClause 18 = .ok (.bipush 102, 2) := by decide +kernel
theorem dX6_readClause_20 : decode cX6_readClause 20 = .ok (.if_icmp .ne 10, 3) := by decide +kernel
theorem dX6_readClause_23 : decode cX6_readClause 23 = .ok (.aload_n 0, 1) := by decide +kernel
theorem dX6_readClause_24 : decode cX6_readClause 24 = .ok (.getfield 18, 3) := by decide +kernel
theorem dX6_readClause_27 : decode cX6_readClause 27 = .ok (.ifCond .ne 13, 3) := by decide +kernel
theorem dX6_readClause_30 : decode cX6_readClause 30 = .ok (.aload_n 0, 1) := by decide +kernel
theorem dX6_readClause_31 : decode cX6_readClause 31 = .ok (.iconst 1, 1) := by decide +kernel
theorem dX6_readClause_32 : decode cX6_readClause 32 = .ok (.aload_n 0, 1) := by decide +kernel
theorem dX6_readClause_33 : decode cX6_readClause 33 = .ok (.getfield 31, 3) := by decide +kernel
theorem dX6_readClause_36 : decode cX6_readClause 36 = .ok (.invokevirtual 63, 3) := by decide +kernel
theorem dX6_readClause_39 : decode cX6_readClause 39 = .ok (.return_, 1) := by decide +kernel
theorem dX6_readClause_40 : decode cX6_readClause 40 = .ok (.iload_n 1, 1) := by decide +kernel
theorem dX6_readClause_41 : decode cX6_readClause 41 = .ok (.bipush 116, 2) := by decide +kernel
theorem dX6_readClause_43 : decode cX6_readClause 43 = .ok (.if_icmp .ne 10, 3) := by decide +kernel
theorem dX6_readClause_46 : decode cX6_readClause 46 = .ok (.aload_n 0, 1) := by decide +kernel
theorem dX6_readClause_47 : decode cX6_readClause 47 = .ok (.getfield 18, 3) := by decide +kernel
theorem dX6_readClause_50 : decode cX6_readClause 50 = .ok (.ifCond .ne 21, 3) := by decide +kernel
theorem dX6_readClause_53 : decode cX6_readClause 53 = .ok (.iload_n 1, 1) := by decide +kernel
theorem dX6_readClause_54 : decode cX6_readClause 54 = .ok (.bipush 99, 2) := by decide +kernel
theorem dX6_readClause_56 : decode cX6_readClause 56 = .ok (.if_icmp .ne 25, 3) := by decide +kernel
theorem dX6_readClause_59 : decode cX6_readClause 59 = .ok (.aload_n 0, 1) := by decide +kernel
theorem dX6_readClause_60 : decode cX6_readClause 60 = .ok (.getfield 12, 3) := by decide +kernel
theorem dX6_readClause_63 : decode cX6_readClause 63 = .ok (.getfield 67, 3) := by decide +kernel
theorem dX6_readClause_66 : decode cX6_readClause 66 = .ok (.bipush 8, 2) := by decide +kernel
theorem dX6_readClause_68 : decode cX6_readClause 68 = .ok (.if_icmp .lt 13, 3) := by decide +kernel
theorem dX6_readClause_71 : decode cX6_readClause 71 = .ok (.aload_n 0, 1) := by decide +kernel
theorem dX6_readClause_72 : decode cX6_readClause 72 = .ok (.iconst 3, 1) := by decide +kernel
theorem dX6_readClause_73 : decode cX6_readClause 73 = .ok (.aload_n 0, 1) := by decide +kernel
theorem dX6_readClause_74 : decode cX6_readClause 74 = .ok (.getfield 31, 3) := by decide +kernel
theorem dX6_readClause_77 : decode cX6_readClause 77 = .ok (.invokevirtual 63, 3) := by decide +kernel
theorem dX6_readClause_80 : decode cX6_readClause 80 = .ok (.return_, 1) := by decide +kernel
theorem dX6_readClause_81 : decode cX6_readClause 81 = .ok (.aload_n 0, 1) := by decide +kernel
theorem dX6_readClause_82 : decode cX6_readClause 82 = .ok (.dup, 1) := by decide +kernel
theorem dX6_readClause_83 : decode cX6_readClause 83 = .ok (.getfield 31, 3) := by decide +kernel
theorem dX6_readClause_86 : decode cX6_readClause 86 = .ok (.iconst 1, 1) := by decide +kernel
theorem dX6_readClause_87 : decode cX6_readClause 87 = .ok (.iadd, 1) := by decide +kernel
theorem dX6_readClause_88 : decode cX6_readClause 88 = .ok (.putfield 31, 3) := by decide +kernel
theorem dX6_readClause_91 : decode cX6_readClause 91 = .ok (.iload_n 1, 1) := by decide +kernel
theorem dX6_readClause_92 : decode cX6_readClause 92 = .ok (.bipush 116, 2) := by decide +kernel
theorem dX6_readClause_94 : decode cX6_readClause 94 = .ok (.if_icmp .ne 10, 3) := by decide +kernel
theorem dX6_readClause_97 : decode cX6_readClause 97 = .ok (.aload_n 0, 1) := by decide +kernel
theorem dX6_readClause_98 : decode cX6_readClause 98 = .ok (.invokevirtual 70, 3) := by decide +kernel
theorem dX6_readClause_101 : decode cX6_readClause 101 = .ok (.goto 20, 3) := by decide +kernel
theorem dX6_readClause_104 : decode cX6_readClause 104 = .ok (.iload_n 1, 1) := by decide +kernel
theorem dX6_readClause_105 : decode cX6_readClause 105 = .ok (.bipush 99, 2) := by decide +kernel
theorem dX6_readClause_107 : decode cX6_readClause 107 = .ok (.if_icmp .ne 10, 3) := by decide +kernel
theorem dX6_readClause_110 : decode cX6_readClause 110 = .ok (.aload_n 0, 1) := by decide +kernel
theorem dX6_readClause_111 : decode cX6_readClause 111 = .ok (.invokevirtual 73, 3) := by decide +kernel
theorem dX6_readClause_114 : decode cX6_readClause 114 = .ok (.goto 7, 3) := by decide +kernel
theorem dX6_readClause_117 : decode cX6_readClause 117 = .ok (.aload_n 0, 1) := by decide +kernel
theorem dX6_readClause_118 : decode cX6_readClause 118 = .ok (.invokevirtual 76, 3) := by decide +kernel
theorem dX6_readClause_121 : decode cX6_readClause 121 = .ok (.aload_n 0, 1) := by decide +kernel
theorem dX6_readClause_122 : decode cX6_readClause 122 = .ok (.invokevirtual 79, 3) := by decide +kernel
theorem dX6_readClause_125 : decode cX6_readClause 125 = .ok (.return_, 1) := by decide +kernel
theorem dX6_readTown_0 : decode cX6_readTown 0 = .ok (.aload_n 0, 1) := by decide +kernel
theorem dX6_readTown_1 : decode cX6_readTown 1 = .ok (.iconst 1, 1) := by decide +kernel
theorem dX6_readTown_2 : decode cX6_readTown 2 = .ok (.bipush 9, 2) := by decide +kernel
theorem dX6_readTown_4 : decode cX6_readTown 4 = .ok (.invokevirtual 82, 3) := by decide +kernel
theorem dX6_readTown_7 : decode cX6_readTown 7 = .ok (.istore_n 1, 1) := by decide +kernel
theorem dX6_readTown_8 : decode cX6_readTown 8 = .ok (.aload_n 0, 1) := by decide +kernel
theorem dX6_readTown_9 : decode cX6_readTown 9 = .ok (.iconst 0, 1) := by decide +kernel
theorem dX6_readTown_10 : decode cX6_readTown 10 = .ok (.bipush 100, 2) := by decide +kernel
theorem dX6_readTown_12 : decode cX6_readTown 12 = .ok (.invokevirtual 82, 3) := by decide +kernel
theorem dX6_readTown_15 : decode cX6_readTown 15 = .ok (.istore_n 2, 1) := by decide +kernel
theorem dX6_readTown_16 : decode cX6_readTown 16 = .ok (.aload_n 0, 1) := by decide +kernel
theorem dX6_readTown_17 : decode cX6_readTown 17 = .ok (.getfield 25, 3) := by decide +kernel
theorem dX6_readTown_20 : decode cX6_readTown 20 = .ok (.ifCond .ne 13, 3) := by decide +kernel
theorem dX6_readTown_23 : decode cX6_readTown 23 = .ok (.aload_n 0, 1) := by decide +kernel
theorem dX6_readTown_24 : decode cX6_readTown 24 = .ok (.iload_n 1, 1) := by decide +kernel
theorem dX6_readTown_25 : decode cX6_readTown 25 = .ok (.putfield 18, 3) := by decide +kernel
theorem dX6_readTown_28 : decode cX6_readTown 28 = .ok (.aload_n 0, 1) := by decide +kernel
theorem dX6_readTown_29 : decode cX6_readTown 29 = .ok (.iload_n 2, 1) := by decide +kernel
theorem dX6_readTown_30 : decode cX6_readTown 30 = .ok (.putfield 22, 3) := by decide +kernel
theorem dX6_readTown_33 : decode cX6_readTown 33 = .ok (.return_, 1) := by decide +kernel
theorem dX6_readCar_0 : decode cX6_readCar 0 = .ok (.aload_n 0, 1) := by decide +kernel
theorem dX6_readCar_1 : decode cX6_readCar 1 = .ok (.iconst 0, 1) := by decide +kernel
theorem dX6_readCar_2 : decode cX6_readCar 2 = .ok (.aload_n 0, 1) := by decide +kernel
theorem dX6_readCar_3 : decode cX6_readCar 3 = .ok (.getfield 18, 3) := by decide +kernel
theorem dX6_readCar_6 : decode cX6_readCar 6 = .ok (.iconst 1, 1) := by decide +kernel
theorem dX6_readCar_7 : decode cX6_readCar 7 = .ok (.isub, 1) := by decide +kernel
theorem dX6_readCar_8 : decode cX6_readCar 8 = .ok (.invokevirtual 82, 3) := by decide +kernel
theorem dX6_readCar_11 : decode cX6_readCar 11 = .ok (.istore_n 1, 1) := by decide +kernel
theorem dX6_readCar_12 : decode cX6_readCar 12 = .ok (.aload_n 0, 1) := by decide +kernel
theorem dX6_readCar_13 : decode cX6_readCar 13 = .ok (.iconst 1, 1) := by decide +kernel
theorem dX6_readCar_14 : decode cX6_readCar 14 = .ok (.ldc 86, 2) := by decide +kernel
theorem dX6_readCar_16 : decode cX6_readCar 16 = .ok (.invokevirtual 82, 3) := by decide +kernel
theorem dX6_readCar_19 : decode cX6_readCar 19 = .ok (.istore_n 2, 1) := by decide +kernel
theorem dX6_readCar_20 : decode cX6_readCar 20 = .ok (.aload_n 0, 1) := by decide +kernel
theorem dX6_readCar_21 : decode cX6_readCar 21 = .ok (.getfield 25, 3) := by decide +kernel
theorem dX6_readCar_24 : decode cX6_readCar 24 = .ok (.ifCond .ne 20, 3) := by decide +kernel
theorem dX6_readCar_27 : decode cX6_readCar 27 = .ok (.aload_n 0, 1) := by decide +kernel
theorem dX6_readCar_28 : decode cX6_readCar 28 = .ok (.iload_n 2, 1) := by decide +kernel
theorem dX6_readCar_29 : decode cX6_readCar 29 = .ok (.invokevirtual 87, 3) := by decide +kernel
theorem dX6_readCar_32 : decode cX6_readCar 32 = .ok (.ifCond .ne 12, 3) := by decide +kernel
theorem dX6_readCar_35 : decode cX6_readCar 35 = .ok (.aload_n 0, 1) := by decide +kernel
theorem dX6_readCar_36 : decode cX6_readCar 36 = .ok (.iconst 2, 1) := by decide +kernel
theorem dX6_readCar_37 : decode cX6_readCar 37 = .ok (.aload_n 0, 1) := by decide +kernel
theorem dX6_readCar_38 : decode cX6_readCar 38 = .ok (.getfield 34, 3) := by decide +kernel
theorem dX6_readCar_41 : decode cX6_readCar 41 = .ok (.invokevirtual 63, 3) := by decide +kernel
theorem dX6_readCar_44 : decode cX6_readCar 44 = .ok (.aload_n 0, 1) := by decide +kernel
theorem dX6_readCar_45 : decode cX6_readCar 45 = .ok (.getfield 25, 3) := by decide +kernel
theorem dX6_readCar_48 : decode cX6_readCar 48 = .ok (.ifCond .ne 12, 3) := by decide +kernel
theorem dX6_readCar_51 : decode cX6_readCar 51 = .ok (.aload_n 0, 1) := by decide +kernel
theorem dX6_readCar_52 : decode cX6_readCar 52 = .ok (.getfield 12, 3) := by decide +kernel
theorem dX6_readCar_55 : decode cX6_readCar 55 = .ok (.iload_n 1, 1) := by decide +kernel
theorem dX6_readCar_56 : decode cX6_readCar 56 = .ok (.iload_n 2, 1) := by decide +kernel
theorem dX6_readCar_57 : decode cX6_readCar 57 = .ok (.invokevirtual 91, 3) := by decide +kernel
theorem dX6_readCar_60 : decode cX6_readCar 60 = .ok (.return_, 1) := by decide +kernel
theorem dX6_isRound_0 : decode cX6_isRound 0 = .ok (.aload_n 0, 1) := by decide +kernel
theorem dX6_isRound_1 : decode cX6_isRound 1 = .ok (.getfield 37, 3) := by decide +kernel
theorem dX6_isRound_4 : decode cX6_isRound 4 = .ok (.aload_n 0, 1) := by decide +kernel
theorem dX6_isRound_5 : decode cX6_isRound 5 = .ok (.getfield 34, 3) := by decide +kernel
theorem dX6_isRound_8 : decode cX6_isRound 8 = .ok (.invokevirtual 55, 3) := by decide +kernel
theorem dX6_isRound_11 : decode cX6_isRound 11 = .ok (.bipush 48, 2) := by decide +kernel
theorem dX6_isRound_13 : decode cX6_isRound 13 = .ok (.if_icmp .eq 18, 3) := by decide +kernel
theorem dX6_isRound_16 : decode cX6_isRound 16 = .ok (.iload_n 1, 1) := by decide +kernel
theorem dX6_isRound_17 : decode cX6_isRound 17 = .ok (.aload_n 0, 1) := by decide +kernel
theorem dX6_isRound_18 : decode cX6_isRound 18 = .ok (.getfield 18, 3) := by decide +kernel
theorem dX6_isRound_21 : decode cX6_isRound 21 = .ok (.invokestatic 94, 3) := by decide +kernel
theorem dX6_isRound_24 : decode cX6_isRound 24 = .ok (.ifCond .eq 7, 3) := by decide +kernel
theorem dX6_isRound_27 : decode cX6_isRound 27 = .ok (.iconst 1, 1) := by decide +kernel
theorem dX6_isRound_28 : decode cX6_isRound 28 = .ok (.goto 4, 3) := by decide +kernel
theorem dX6_isRound_31 : decode cX6_isRound 31 = .ok (.iconst 0, 1) := by decide +kernel
theorem dX6_isRound_32 : decode cX6_isRound 32 = .ok (.ireturn, 1) := by decide +kernel
theorem dX6_readFollowing_0 : decode cX6_readFollowing 0 = .ok (.aload_n 0, 1) := by decide +kernel
theorem dX6_readFollowing_1 : decode cX6_readFollowing 1 = .ok (.iconst 0, 1) := by decide +kernel
theorem dX6_readFollowing_2 : decode cX6_readFollowing 2 = .ok (.aload_n 0, 1) := by decide +kernel
theorem dX6_readFollowing_3 : decode cX6_readFollowing 3 = .ok (.getfield 12, 3) := by decide +kernel
theorem dX6_readFollowing_6 : decode cX6_readFollowing 6 = .ok (.getfield 67, 3) := by decide +kernel
theorem dX6_readFollowing_9 : decode cX6_readFollowing 9 = .ok (.iconst 1, 1) := by decide +kernel
theorem dX6_readFollowing_10 : decode cX6_readFollowing 10 = .ok (.isub, 1) := by decide +kernel
theorem dX6_readFollowing_11 : decode cX6_readFollowing 11 = .ok (.invokevirtual 82, 3) := by decide +kernel
theorem dX6_readFollowing_14 : decode cX6_readFollowing 14 = .ok (.istore_n 1, 1) := by decide +kernel
theorem dX6_readFollowing_15 : decode cX6_readFollowing 15 = .ok (.aload_n 0, 1) := by decide +kernel
theorem dX6_readFollowing_16 : decode cX6_readFollowing 16 = .ok (.getfield 25, 3) := by decide +kernel
theorem dX6_readFollowing_19 : decode cX6_readFollowing 19 = .ok (.ifCond .ne 25, 3) := by decide +kernel
theorem dX6_readFollowing_22 : decode cX6_readFollowing 22 = .ok (.aload_n 0, 1) := by decide +kernel
theorem dX6_readFollowing_23 : decode cX6_readFollowing 23 = .ok (.getfield 12, 3) := by decide +kernel
theorem dX6_readFollowing_26 : decode cX6_readFollowing 26 = .ok (.getfield 100, 3) := by decide +kernel
theorem dX6_readFollowing_29 : decode cX6_readFollowing 29 = .ok (.iload_n 1, 1) := by decide +kernel
theorem dX6_readFollowing_30 : decode cX6_readFollowing 30 = .ok (.iaload, 1) := by decide +kernel
theorem dX6_readFollowing_31 : decode cX6_readFollowing 31 = .ok (.iconst (-1), 1) := by decide +kernel
theorem dX6_readFollowing_32 : decode cX6_readFollowing 32 = .ok (.if_icmp .eq 12, 3) := by decide +kernel
theorem dX6_readFollowing_35 : decode cX6_readFollowing 35 = .ok (.aload_n 0, 1) := by decide +kernel
theorem dX6_readFollowing_36 : decode cX6_readFollowing 36 = .ok (.iconst 4, 1) := by decide +kernel
theorem dX6_readFollowing_37 : decode cX6_readFollowing 37 = .ok (.aload_n 0, 1) := by decide +kernel
theorem dX6_readFollowing_38 : decode cX6_readFollowing 38 = .ok (.getfield 34, 3) := by decide +kernel
theorem dX6_readFollowing_41 : decode cX6_readFollowing 41 = .ok (.invokevirtual 63, 3) := by decide +kernel
theorem dX6_readFollowing_44 : decode cX6_readFollowing 44 = .ok (.aload_n 0, 1) := by decide +kernel
theorem dX6_readFollowing_45 : decode cX6_readFollowing 45 = .ok (.iconst 0, 1) := by decide +kernel
theorem dX6_readFollowing_46 : decode cX6_readFollowing 46 = .ok (.aload_n 0, 1) := by decide +kernel
theorem dX6_readFollowing_47 : decode cX6_readFollowing 47 = .ok (.getfield 12, 3) := by decide +kernel
theorem dX6_readFollowing_50 : decode cX6_readFollowing 50 = .ok (.getfield 67, 3) := by decide +kernel
theorem dX6_readFollowing_53 : decode cX6_readFollowing 53 = .ok (.iconst 1, 1) := by decide +kernel
theorem dX6_readFollowing_54 : decode cX6_readFollowing 54 = .ok (.isub, 1) := by decide +kernel
theorem dX6_readFollowing_55 : decode cX6_readFollowing 55 = .ok (.invokevirtual 82, 3) := by decide +kernel
theorem dX6_readFollowing_58 : decode cX6_readFollowing 58 = .ok (.istore_n 2, 1) := by decide +kernel
theorem dX6_readFollowing_59 : decode cX6_readFollowing 59 = .ok (.aload_n 0, 1) := by decide +kernel
theorem dX6_readFollowing_60 : decode cX6_readFollowing 60 = .ok (.getfield 25, 3) := by decide +kernel
theorem dX6_readFollowing_63 : decode cX6_readFollowing 63 = .ok (.ifCond .ne 17, 3) := by decide +kernel
theorem dX6_readFollowing_66 : decode cX6_readFollowing 66 = .ok (.iload_n 1, 1) := by decide +kernel
theorem dX6_readFollowing_67 : decode cX6_readFollowing 67 = .ok (.iload_n 2, 1) := by decide +kernel
theorem dX6_readFollowing_68 : decode cX6_readFollowing 68 = .ok (.if_icmp .ne 12, 3) := by decide +kernel
theorem dX6_readFollowing_71 : decode cX6_readFollowing 71 = .ok (.aload_n 0, 1) := by decide +kernel
theorem dX6_readFollowing_72 : decode cX6_readFollowing 72 = .ok (.iconst 4, 1) := by decide +kernel
theorem dX6_readFollowing_73 : decode cX6_readFollowing 73 = .ok (.aload_n 0, 1) := by decide +kernel
theorem dX6_readFollowing_74 : decode cX6_readFollowing 74 = .ok (.getfield 34, 3) := by decide +kernel
theorem dX6_readFollowing_77 : decode cX6_readFollowing 77 = .ok (.invokevirtual 63, 3) := by decide +kernel
theorem dX6_readFollowing_80 : decode cX6_readFollowing 80 = .ok (.aload_n 0, 1) := by decide +kernel
theorem dX6_readFollowing_81 : decode cX6_readFollowing 81 = .ok (.getfield 25, 3) := by decide +kernel
theorem dX6_readFollowing_84 : decode cX6_readFollowing 84 = .ok (.ifCond .ne 13, 3) := by decide +kernel
theorem dX6_readFollowing_87 : decode cX6_readFollowing 87 = .ok (.aload_n 0, 1) := by decide +kernel
theorem dX6_readFollowing_88 : decode cX6_readFollowing 88 = .ok (.getfield 12, 3) := by decide +kernel
theorem dX6_readFollowing_91 : decode cX6_readFollowing 91 = .ok (.getfield 100, 3) := by decide +kernel
theorem dX6_readFollowing_94 : decode cX6_readFollowing 94 = .ok (.iload_n 1, 1) := by decide +kernel
theorem dX6_readFollowing_95 : decode cX6_readFollowing 95 = .ok (.iload_n 2, 1) := by decide +kernel
theorem dX6_readFollowing_96 : decode cX6_readFollowing 96 = .ok (.iastore, 1) := by decide +kernel
theorem dX6_readFollowing_97 : decode cX6_readFollowing 97 = .ok (.return_, 1) := by decide +kernel
theorem dX6_readSemicolon_0 : decode cX6_readSemicolon 0 = .ok (.aload_n 0, 1) := by decide +kernel
theorem dX6_readSemicolon_1 : decode cX6_readSemicolon 1 = .ok (.invokevirtual 44, 3) := by decide +kernel
theorem dX6_readSemicolon_4 : decode cX6_readSemicolon 4 = .ok (.aload_n 0, 1) := by decide +kernel
theorem dX6_readSemicolon_5 : decode cX6_readSemicolon 5 = .ok (.invokevirtual 59, 3) := by decide +kernel
theorem dX6_readSemicolon_8 : decode cX6_readSemicolon 8 = .ok (.bipush 59, 2) := by decide +kernel
theorem dX6_readSemicolon_10 : decode cX6_readSemicolon 10 = .ok (.if_icmp .eq 12, 3) := by decide +kernel
theorem dX6_readSemicolon_13 : decode cX6_readSemicolon 13 = .ok (.aload_n 0, 1) := by decide +kernel
theorem dX6_readSemicolon_14 : decode cX6_readSemicolon 14 = .ok (.iconst 1, 1) := by decide +kernel
theorem dX6_readSemicolon_15 : decode cX6_readSemicolon 15 = .ok (.aload_n 0, 1) := by decide +kernel
theorem dX6_readSemicolon_16 : decode cX6_readSemicolon 16 = .ok (.getfield 31, 3) := by decide +kernel
theorem dX6_readSemicolon_19 : decode cX6_readSemicolon 19 = .ok (.invokevirtual 63, 3) := by decide +kernel
theorem dX6_readSemicolon_22 : decode cX6_readSemicolon 22 = .ok (.aload_n 0, 1) := by decide +kernel
theorem dX6_readSemicolon_23 : decode cX6_readSemicolon 23 = .ok (.dup, 1) := by decide +kernel
theorem dX6_readSemicolon_24 : decode cX6_readSemicolon 24 = .ok (.getfield 31, 3) := by decide +kernel
theorem dX6_readSemicolon_27 : decode cX6_readSemicolon 27 = .ok (.iconst 1, 1) := by decide +kernel
theorem dX6_readSemicolon_28 : decode cX6_readSemicolon 28 = .ok (.iadd, 1) := by decide +kernel
theorem dX6_readSemicolon_29 : decode cX6_readSemicolon 29 = .ok (.putfield 31, 3) := by decide +kernel
theorem dX6_readSemicolon_32 : decode cX6_readSemicolon 32 = .ok (.return_, 1) := by decide +kernel
theorem dX6_readNumber_0 : decode cX6_readNumber 0 = .ok (.aload_n 0, 1) := by decide +kernel
theorem dX6_readNumber_1 : decode cX6_readNumber 1 = .ok (.getfield 25, 3) := by decide +kernel
theorem dX6_readNumber_4 : decode cX6_readNumber 4 = .ok (.ifCond .eq 5, 3) := by decide +kernel
theorem dX6_readNumber_7 : decode cX6_readNumber 7 = .ok (.iconst (-1), 1) := by decide +kernel
theorem dX6_readNumber_8 : decode cX6_readNumber 8 = .ok (.ireturn, 1) := by decide +kernel
theorem dX6_readNumber_9 : decode cX6_readNumber 9 = .ok (.aload_n 0, 1) := by decide +kernel
theorem dX6_readNumber_10 : decode cX6_readNumber 10 = .ok (.invokevirtual 44, 3) := by decide +kernel
theorem dX6_readNumber_13 : decode cX6_readNumber 13 = .ok (.aload_n 0, 1) := by decide +kernel
theorem dX6_readNumber_14 : decode cX6_readNumber 14 = .ok (.invokevirtual 104, 3) := by decide +kernel
theorem dX6_readNumber_17 : decode cX6_readNumber 17 = .ok (.ifCond .ne 14, 3) := by decide +kernel
theorem dX6_readNumber_20 : decode cX6_readNumber 20 = .ok (.aload_n 0, 1) := by decide +kernel
theorem dX6_readNumber_21 : decode cX6_readNumber 21 = .ok (.iconst 1, 1) := by decide +kernel
theorem dX6_readNumber_22 : decode cX6_readNumber 22 = .ok (.aload_n 0, 1) := by decide +kernel
theorem dX6_readNumber_23 : decode cX6_readNumber 23 = .ok (.getfield 31, 3) := by decide +kernel
theorem dX6_readNumber_26 : decode cX6_readNumber 26 = .ok (.invokevirtual 63, 3) := by decide +kernel
theorem dX6_readNumber_29 : decode cX6_readNumber 29 = .ok (.iconst (-1), 1) := by decide +kernel
theorem dX6_readNumber_30 : decode cX6_readNumber 30 = .ok (.ireturn, 1) := by decide +kernel
theorem dX6_readNumber_31 : decode cX6_readNumber 31 = .ok (.aload_n 0, 1) := by decide +kernel
theorem dX6_readNumber_32 : decode cX6_readNumber 32 = .ok (.aload_n 0, 1) := by decide +kernel
theorem dX6_readNumber_33 : decode cX6_readNumber 33 = .ok (.getfield 31, 3) := by decide +kernel
theorem dX6_readNumber_36 : decode cX6_readNumber 36 = .ok (.putfield 34, 3) := by decide +kernel
theorem dX6_readNumber_39 : decode cX6_readNumber 39 = .ok (.iconst 0, 1) := by decide +kernel
theorem dX6_readNumber_40 : decode cX6_readNumber 40 = .ok (.istore_n 3, 1) := by decide +kernel
theorem dX6_readNumber_41 : decode cX6_readNumber 41 = .ok (.iconst 0, 1) := by decide +kernel
theorem dX6_readNumber_42 : decode cX6_readNumber 42 = .ok (.istore 4, 2) := by decide +kernel
theorem dX6_readNumber_44 : decode cX6_readNumber 44 = .ok (.iload 4, 2) := by decide +kernel
theorem dX6_readNumber_46 : decode cX6_readNumber 46 = .ok (.sipush 240, 3) := by decide +kernel
theorem dX6_readNumber_49 : decode cX6_readNumber 49 = .ok (.if_icmp .ge 44, 3) := by decide +kernel
theorem dX6_readNumber_52 : decode cX6_readNumber 52 = .ok (.aload_n 0, 1) := by decide +kernel
theorem dX6_readNumber_53 : decode cX6_readNumber 53 = .ok (.invokevirtual 104, 3) := by decide +kernel
theorem dX6_readNumber_56 : decode cX6_readNumber 56 = .ok (.ifCond .eq 37, 3) := by decide +kernel
theorem dX6_readNumber_59 : decode cX6_readNumber 59 = .ok (.iload_n 3, 1) := by decide +kernel
theorem dX6_readNumber_60 : decode cX6_readNumber 60 = .ok (.bipush 10, 2) := by decide +kernel
theorem dX6_readNumber_62 : decode cX6_readNumber 62 = .ok (.imul, 1) := by decide +kernel
theorem dX6_readNumber_63 : decode cX6_readNumber 63 = .ok (.aload_n 0, 1) := by decide +kernel
theorem dX6_readNumber_64 : decode cX6_readNumber 64 = .ok (.invokevirtual 59, 3) := by decide +kernel
theorem dX6_readNumber_67 : decode cX6_readNumber 67 = .ok (.iadd, 1) := by decide +kernel
theorem dX6_readNumber_68 : decode cX6_readNumber 68 = .ok (.bipush 48, 2) := by decide +kernel
theorem dX6_readNumber_70 : decode cX6_readNumber 70 = .ok (.isub, 1) := by decide +kernel
theorem dX6_readNumber_71 : decode cX6_readNumber 71 = .ok (.ldc 108, 2) := by decide +kernel
theorem dX6_readNumber_73 : decode cX6_readNumber 73 = .ok (.invokestatic 109, 3) := by decide +kernel
theorem dX6_readNumber_76 : decode cX6_readNumber 76 = .ok (.istore_n 3, 1) := by decide +kernel
theorem dX6_readNumber_77 : decode cX6_readNumber 77 = .ok (.aload_n 0, 1) := by decide +kernel
theorem dX6_readNumber_78 : decode cX6_readNumber 78 = .ok (.dup, 1) := by decide +kernel
theorem dX6_readNumber_79 : decode cX6_readNumber 79 = .ok (.getfield 31, 3) := by decide +kernel
theorem dX6_readNumber_82 : decode cX6_readNumber 82 = .ok (.iconst 1, 1) := by decide +kernel
theorem dX6_readNumber_83 : decode cX6_readNumber 83 = .ok (.iadd, 1) := by decide +kernel
theorem dX6_readNumber_84 : decode cX6_readNumber 84 = .ok (.putfield 31, 3) := by decide +kernel
theorem dX6_readNumber_87 : decode cX6_readNumber 87 = .ok (.iinc 4 1, 3) := by decide +kernel
theorem dX6_readNumber_90 : decode cX6_readNumber 90 = .ok (.goto (-46), 3) := by decide +kernel
theorem dX6_readNumber_93 : decode cX6_readNumber 93 = .ok (.aload_n 0, 1) := by decide +kernel
theorem dX6_readNumber_94 : decode cX6_readNumber 94 = .ok (.getfield 31, 3) := by decide +kernel
theorem dX6_readNumber_97 : decode cX6_readNumber 97 = .ok (.aload_n 0, 1) := by decide +kernel
theorem dX6_readNumber_98 : decode cX6_readNumber 98 = .ok (.getfield 34, 3) := by decide +kernel
theorem dX6_readNumber_101 : decode cX6_readNumber 101 = .ok (.isub, 1) := by decide +kernel
theorem dX6_readNumber_102 : decode cX6_readNumber 102 = .ok (.bipush 6, 2) := by decide +kernel
theorem dX6_readNumber_104 : decode cX6_readNumber 104 = .ok (.if_icmp .gt 13, 3) := by decide +kernel
theorem dX6_readNumber_107 : decode cX6_readNumber 107 = .ok (.iload_n 3, 1) := by decide +kernel
theorem dX6_readNumber_108 : decode cX6_readNumber 108 = .ok (.iload_n 1, 1) := by decide +kernel
theorem dX6_readNumber_109 : decode cX6_readNumber 109 = .ok (.if_icmp .lt 8, 3) := by decide +kernel
theorem dX6_readNumber_112 : decode cX6_readNumber 112 = .ok (.iload_n 3, 1) := by decide +kernel
theorem dX6_readNumber_113 : decode cX6_readNumber 113 = .ok (.iload_n 2, 1) := by decide +kernel
theorem dX6_readNumber_114 : decode cX6_readNumber 114 = .ok (.if_icmp .le 14, 3) := by decide +kernel
theorem dX6_readNumber_117 : decode cX6_readNumber 117 = .ok (.aload_n 0, 1) := by decide +kernel
theorem dX6_readNumber_118 : decode cX6_readNumber 118 = .ok (.iconst 2, 1) := by decide +kernel
theorem dX6_readNumber_119 : decode cX6_readNumber 119 = .ok (.aload_n 0, 1) := by decide +kernel
theorem dX6_readNumber_120 : decode cX6_readNumber 120 = .ok (.getfield 34, 3) := by decide +kernel
theorem dX6_readNumber_123 : decode cX6_readNumber 123 = .ok (.invokevirtual 63, 3) := by decide +kernel
theorem dX6_readNumber_126 : decode cX6_readNumber 126 = .ok (.iconst (-1), 1) := by decide +kernel
theorem dX6_readNumber_127 : decode cX6_readNumber 127 = .ok (.ireturn, 1) := by decide +kernel
theorem dX6_readNumber_128 : decode cX6_readNumber 128 = .ok (.iload_n 3, 1) := by decide +kernel
theorem dX6_readNumber_129 : decode cX6_readNumber 129 = .ok (.ireturn, 1) := by decide +kernel
theorem dX7_init_0 : decode cX7_init 0 = .ok (.aload_n 0, 1) := by decide +kernel
theorem dX7_init_1 : decode cX7_init 1 = .ok (.invokespecial 3, 3) := by decide +kernel
theorem dX7_init_4 : decode cX7_init 4 = .ok (.aload_n 0, 1) := by decide +kernel
theorem dX7_init_5 : decode cX7_init 5 = .ok (.iconst 0, 1) := by decide +kernel
theorem dX7_init_6 : decode cX7_init 6 = .ok (.putfield 9, 3) := by decide +kernel
theorem dX7_init_9 : decode cX7_init 9 = .ok (.aload_n 0, 1) := by decide +kernel
theorem dX7_init_10 : decode cX7_init 10 = .ok (.iconst 0, 1) := by decide +kernel
theorem dX7_init_11 : decode cX7_init 11 = .ok (.putfield 15, 3) := by decide +kernel
theorem dX7_init_14 : decode cX7_init 14 = .ok (.aload_n 0, 1) := by decide +kernel
theorem dX7_init_15 : decode cX7_init 15 = .ok (.bipush 8, 2) := by decide +kernel
theorem dX7_init_17 : decode cX7_init 17 = .ok (.newarray .int, 2) := by decide +kernel
theorem dX7_init_19 : decode cX7_init 19 = .ok (.putfield 18, 3) := by decide +kernel
theorem dX7_init_22 : decode cX7_init 22 = .ok (.aload_n 0, 1) := by decide +kernel
theorem dX7_init_23 : decode cX7_init 23 = .ok (.bipush 8, 2) := by decide +kernel
theorem dX7_init_25 : decode cX7_init 25 = .ok (.newarray .int, 2) := by decide +kernel
theorem dX7_init_27 : decode cX7_init 27 = .ok (.putfield 22, 3) := by decide +kernel
theorem dX7_init_30 : decode cX7_init 30 = .ok (.aload_n 0, 1) := by decide +kernel
theorem dX7_init_31 : decode cX7_init 31 = .ok (.bipush 8, 2) := by decide +kernel
theorem dX7_init_33 : decode cX7_init 33 = .ok (.newarray .int, 2) := by decide +kernel
theorem dX7_init_35 : decode cX7_init 35 = .ok (.putfield 25, 3) := by decide +kernel
theorem dX7_init_38 : decode cX7_init 38 = .ok (.aload_n 0, 1) := by decide +kernel
theorem dX7_init_39 : decode cX7_init 39 = .ok (.bipush 8, 2) := by decide +kernel
theorem dX7_init_41 : decode cX7_init 41 = .ok (.newarray .int, 2) := by decide +kernel
theorem dX7_init_43 : decode cX7_init 43 = .ok (.putfield 28, 3) := by decide +kernel
theorem dX7_init_46 : decode cX7_init 46 = .ok (.aload_n 0, 1) := by decide +kernel
theorem dX7_init_47 : decode cX7_init 47 = .ok (.bipush 8, 2) := by decide +kernel
theorem dX7_init_49 : decode cX7_init 49 = .ok (.newarray .int, 2) := by decide +kernel
theorem dX7_init_51 : decode cX7_init 51 = .ok (.putfield 31, 3) := by decide +kernel
theorem dX7_init_54 : decode cX7_init 54 = .ok (.aload_n 0, 1) := by decide +kernel
theorem dX7_init_55 : decode cX7_init 55 = .ok (.bipush 8, 2) := by decide +kernel
theorem dX7_init_57 : decode cX7_init 57 = .ok (.newarray .int, 2) := by decide +kernel
theorem dX7_init_59 : decode cX7_init 59 = .ok (.putfield 34, 3) := by decide +kernel
theorem dX7_init_62 : decode cX7_init 62 = .ok (.return_, 1) := by decide +kernel
theorem dX7_copyFrom_0 : decode cX7_copyFrom 0 = .ok (.aload_n 0, 1) := by decide +kernel
theorem dX7_copyFrom_1 : decode cX7_copyFrom 1 = .ok (.aload_n 1, 1) := by decide +kernel
theorem dX7_copyFrom_2 : decode cX7_copyFrom 2 = .ok (.getfield 9, 3) := by decide +kernel
theorem dX7_copyFrom_5 : decode cX7_copyFrom 5 = .ok (.putfield 9, 3) := by decide +kernel
theorem dX7_copyFrom_8 : decode cX7_copyFrom 8 = .ok (.aload_n 0, 1) := by decide +kernel
theorem dX7_copyFrom_9 : decode cX7_copyFrom 9 = .ok (.aload_n 1, 1) := by decide +kernel
theorem dX7_copyFrom_10 : decode cX7_copyFrom 10 = .ok (.getfield 15, 3) := by decide +kernel
theorem dX7_copyFrom_13 : decode cX7_copyFrom 13 = .ok (.putfield 15, 3) := by decide +kernel
theorem dX7_copyFrom_16 : decode cX7_copyFrom 16 = .ok (.aload_n 1, 1) := by decide +kernel
theorem dX7_copyFrom_17 : decode cX7_copyFrom 17 = .ok (.getfield 18, 3) := by decide +kernel
theorem dX7_copyFrom_20 : decode cX7_copyFrom 20 = .ok (.iconst 0, 1) := by decide +kernel
theorem dX7_copyFrom_21 : decode cX7_copyFrom 21 = .ok (.aload_n 0, 1) := by decide +kernel
theorem dX7_copyFrom_22 : decode cX7_copyFrom 22 = .ok (.getfield 18, 3) := by decide +kernel
theorem dX7_copyFrom_25 : decode cX7_copyFrom 25 = .ok (.iconst 0, 1) := by decide +kernel
theorem dX7_copyFrom_26 : decode cX7_copyFrom 26 = .ok (.bipush 8, 2) := by decide +kernel
theorem dX7_copyFrom_28 : decode cX7_copyFrom 28 = .ok (.invokestatic 37, 3) := by decide +kernel
theorem dX7_copyFrom_31 : decode cX7_copyFrom 31 = .ok (.aload_n 1, 1) := by decide +kernel
theorem dX7_copyFrom_32 : decode cX7_copyFrom 32 = .ok (.getfield 22, 3) := by decide +kernel
theorem dX7_copyFrom_35 : decode cX7_copyFrom 35 = .ok (.iconst 0, 1) := by decide +kernel
theorem dX7_copyFrom_36 : decode cX7_copyFrom 36 = .ok (.aload_n 0, 1) := by decide +kernel
theorem dX7_copyFrom_37 : decode cX7_copyFrom 37 = .ok (.getfield 22, 3) := by decide +kernel
theorem dX7_copyFrom_40 : decode cX7_copyFrom 40 = .ok (.iconst 0, 1) := by decide +kernel
theorem dX7_copyFrom_41 : decode cX7_copyFrom 41 = .ok (.bipush 8, 2) := by decide +kernel
theorem dX7_copyFrom_43 : decode cX7_copyFrom 43 = .ok (.invokestatic 37, 3) := by decide +kernel
theorem dX7_copyFrom_46 : decode cX7_copyFrom 46 = .ok (.aload_n 1, 1) := by decide +kernel
theorem dX7_copyFrom_47 : decode cX7_copyFrom 47 = .ok (.getfield 25, 3) := by decide +kernel
theorem dX7_copyFrom_50 : decode cX7_copyFrom 50 = .ok (.iconst 0, 1) := by decide +kernel
theorem dX7_copyFrom_51 : decode cX7_copyFrom 51 = .ok (.aload_n 0, 1) := by decide +kernel
theorem dX7_copyFrom_52 : decode cX7_copyFrom 52 = .ok (.getfield 25, 3) := by decide +kernel
theorem dX7_copyFrom_55 : decode cX7_copyFrom 55 = .ok (.iconst 0, 1) := by decide +kernel
theorem dX7_copyFrom_56 : decode cX7_copyFrom 56 = .ok (.bipush 8, 2) := by decide +kernel
theorem dX7_copyFrom_58 : decode cX7_copyFrom 58 = .ok (.invokestatic 37, 3) := by decide +kernel
theorem dX7_copyFrom_61 : decode cX7_copyFrom 61 = .ok (.aload_n 1, 1) := by decide +kernel
theorem dX7_copyFrom_62 : decode cX7_copyFrom 62 = .ok (.getfield 28, 3) := by decide +kernel
theorem dX7_copyFrom_65 : decode cX7_copyFrom 65 = .ok (.iconst 0, 1) := by decide +kernel
theorem dX7_copyFrom_66 : decode cX7_copyFrom 66 = .ok (.aload_n 0, 1) := by decide +kernel
theorem dX7_copyFrom_67 : decode cX7_copyFrom 67 = .ok (.getfield 28, 3) := by decide +kernel
theorem dX7_copyFrom_70 : decode cX7_copyFrom 70 = .ok (.iconst 0, 1) := by decide +kernel
theorem dX7_copyFrom_71 : decode cX7_copyFrom 71 = .ok (.bipush 8, 2) := by decide +kernel
theorem dX7_copyFrom_73 : decode cX7_copyFrom 73 = .ok (.invokestatic 37, 3) := by decide +kernel
theorem dX7_copyFrom_76 : decode cX7_copyFrom 76 = .ok (.aload_n 1, 1) := by decide +kernel
theorem dX7_copyFrom_77 : decode cX7_copyFrom 77 = .ok (.getfield 31, 3) := by decide +kernel
theorem dX7_copyFrom_80 : decode cX7_copyFrom 80 = .ok (.iconst 0, 1) := by decide +kernel
theorem dX7_copyFrom_81 : decode cX7_copyFrom 81 = .ok (.aload_n 0, 1) := by decide +kernel
theorem dX7_copyFrom_82 : decode cX7_copyFrom 82 = .ok (.getfield 31, 3) := by decide +kernel
theorem dX7_copyFrom_85 : decode cX7_copyFrom 85 = .ok (.iconst 0, 1) := by decide +kernel
theorem dX7_copyFrom_86 : decode cX7_copyFrom 86 = .ok (.bipush 8, 2) := by decide +kernel
theorem dX7_copyFrom_88 : decode cX7_copyFrom 88 = .ok (.invokestatic 37, 3) := by decide +kernel
theorem dX7_copyFrom_91 : decode cX7_copyFrom 91 = .ok (.return_, 1) := by decide +kernel
theorem dX7_clear_0 : decode cX7_clear 0 = .ok (.aload_n 0, 1) := by decide +kernel
theorem dX7_clear_1 : decode cX7_clear 1 = .ok (.iconst 0, 1) := by decide +kernel
theorem dX7_clear_2 : decode cX7_clear 2 = .ok (.putfield 9, 3) := by decide +kernel
theorem dX7_clear_5 : decode cX7_clear 5 = .ok (.aload_n 0, 1) := by decide +kernel
theorem dX7_clear_6 : decode cX7_clear 6 = .ok (.iconst 0, 1) := by decide +kernel
theorem dX7_clear_7 : decode cX7_clear 7 = .ok (.putfield 15, 3) := by decide +kernel
theorem dX7_clear_10 : decode cX7_clear 10 = .ok (.return_, 1) := by decide +kernel
theorem dX7_addCar_0 : decode cX7_addCar 0 = .ok (.aload_n 0, 1) := by decide +kernel
theorem dX7_addCar_1 : decode cX7_addCar 1 = .ok (.getfield 9, 3) := by decide +kernel
theorem dX7_addCar_4 : decode cX7_addCar 4 = .ok (.bipush 8, 2) := by decide +kernel
theorem dX7_addCar_6 : decode cX7_addCar 6 = .ok (.if_icmp .ge 63, 3) := by decide +kernel
theorem dX7_addCar_9 : decode cX7_addCar 9 = .ok (.aload_n 0, 1) := by decide +kernel
theorem dX7_addCar_10 : decode cX7_addCar 10 = .ok (.getfield 18, 3) := by decide +kernel
theorem dX7_addCar_13 : decode cX7_addCar 13 = .ok (.aload_n 0, 1) := by decide +kernel
theorem dX7_addCar_14 : decode cX7_addCar 14 = .ok (.getfield 9, 3) := by decide +kernel
theorem dX7_addCar_17 : decode cX7_addCar 17 = .ok (.iload_n 1, 1) := by decide +kernel
theorem dX7_addCar_18 : decode cX7_addCar 18 = .ok (.iastore, 1) := by decide +kernel
theorem dX7_addCar_19 : decode cX7_addCar 19 = .ok (.aload_n 0, 1) := by decide +kernel
theorem dX7_addCar_20 : decode cX7_addCar 20 = .ok (.getfield 22, 3) := by decide +kernel
theorem dX7_addCar_23 : decode cX7_addCar 23 = .ok (.aload_n 0, 1) := by decide +kernel
theorem dX7_addCar_24 : decode cX7_addCar 24 = .ok (.getfield 9, 3) := by decide +kernel
theorem dX7_addCar_27 : decode cX7_addCar 27 = .ok (.iconst (-1), 1) := by decide +kernel
theorem dX7_addCar_28 : decode cX7_addCar 28 = .ok (.iastore, 1) := by decide +kernel
theorem dX7_addCar_29 : decode cX7_addCar 29 = .ok (.aload_n 0, 1) := by decide +kernel
theorem dX7_addCar_30 : decode cX7_addCar 30 = .ok (.getfield 25, 3) := by decide +kernel
theorem dX7_addCar_33 : decode cX7_addCar 33 = .ok (.aload_n 0, 1) := by decide +kernel
theorem dX7_addCar_34 : decode cX7_addCar 34 = .ok (.getfield 9, 3) := by decide +kernel
theorem dX7_addCar_37 : decode cX7_addCar 37 = .ok (.iload_n 2, 1) := by decide +kernel
theorem dX7_addCar_38 : decode cX7_addCar 38 = .ok (.iastore, 1) := by decide +kernel
theorem dX7_addCar_39 : decode cX7_addCar 39 = .ok (.aload_n 0, 1) := by decide +kernel
theorem dX7_addCar_40 : decode cX7_addCar 40 = .ok (.getfield 28, 3) := by decide +kernel
theorem dX7_addCar_43 : decode cX7_addCar 43 = .ok (.aload_n 0, 1) := by decide +kernel
theorem dX7_addCar_44 : decode cX7_addCar 44 = .ok (.getfield 9, 3) := by decide +kernel
theorem dX7_addCar_47 : decode cX7_addCar 47 = .ok (.iconst 0, 1) := by decide +kernel
theorem dX7_addCar_48 : decode cX7_addCar 48 = .ok (.iastore, 1) := by decide +kernel
theorem dX7_addCar_49 : decode cX7_addCar 49 = .ok (.aload_n 0, 1) := by decide +kernel
theorem dX7_addCar_50 : decode cX7_addCar 50 = .ok (.getfield 31, 3) := by decide +kernel
theorem dX7_addCar_53 : decode cX7_addCar 53 = .ok (.aload_n 0, 1) := by decide +kernel
theorem dX7_addCar_54 : decode cX7_addCar 54 = .ok (.getfield 9, 3) := by decide +kernel
theorem dX7_addCar_57 : decode cX7_addCar 57 = .ok (.iconst 0, 1) := by decide +kernel
theorem dX7_addCar_58 : decode cX7_addCar 58 = .ok (.iastore, 1) := by decide +kernel
theorem dX7_addCar_59 : decode cX7_addCar 59 = .ok (.aload_n 0, 1) := by decide +kernel
theorem dX7_addCar_60 : decode cX7_addCar 60 = .ok (.dup, 1) := by decide +kernel
theorem dX7_addCar_61 : decode cX7_addCar 61 = .ok (.getfield 9, 3) := by decide +kernel
theorem dX7_addCar_64 : decode cX7_addCar 64 = .ok (.iconst 1, 1) := by decide +kernel
theorem dX7_addCar_65 : decode cX7_addCar 65 = .ok (.iadd, 1) := by decide +kernel
theorem dX7_addCar_66 : decode cX7_addCar 66 = .ok (.putfield 9, 3) := by decide +kernel
theorem dX7_addCar_69 : decode cX7_addCar 69 = .ok (.return_, 1) := by decide +kernel
theorem dX7_moveTimes_0 : decode cX7_moveTimes 0 = .ok (.iconst 0, 1) := by decide +kernel
theorem dX7_moveTimes_1 : decode cX7_moveTimes 1 = .ok (.istore_n 2, 1) := by decide +kernel
theorem dX7_moveTimes_2 : decode cX7_moveTimes 2 = .ok (.iload_n 2, 1) := by decide +kernel
theorem dX7_moveTimes_3 : decode cX7_moveTimes 3 = .ok (.iload_n 1, 1) := by decide +kernel
theorem dX7_moveTimes_4 : decode cX7_moveTimes 4 = .ok (.if_icmp .ge 13, 3) := by decide +kernel
theorem dX7_moveTimes_7 : decode cX7_moveTimes 7 = .ok (.aload_n 0, 1) := by decide +kernel
theorem dX7_moveTimes_8 : decode cX7_moveTimes 8 = .ok (.invokevirtual 43, 3) := by decide +kernel
theorem dX7_moveTimes_11 : decode cX7_moveTimes 11 = .ok (.iinc 2 1, 3) := by decide +kernel
theorem dX7_moveTimes_14 : decode cX7_moveTimes 14 = .ok (.goto (-12), 3) := by decide +kernel
theorem dX7_moveTimes_17 : decode cX7_moveTimes 17 = .ok (.return_, 1) := by decide +kernel
theorem dX7_move_0 : decode cX7_move 0 = .ok (.aload_n 0, 1) := by decide +kernel
theorem dX7_move_1 : decode cX7_move 1 = .ok (.getfield 18, 3) := by decide +kernel
theorem dX7_move_4 : decode cX7_move 4 = .ok (.iconst 0, 1) := by decide +kernel
theorem dX7_move_5 : decode cX7_move 5 = .ok (.aload_n 0, 1) := by decide +kernel
theorem dX7_move_6 : decode cX7_move 6 = .ok (.getfield 34, 3) := by decide +kernel
theorem dX7_move_9 : decode cX7_move 9 = .ok (.iconst 0, 1) := by decide +kernel
theorem dX7_move_10 : decode cX7_move 10 = .ok (.bipush 8, 2) := by decide +kernel
theorem dX7_move_12 : decode cX7_move 12 = .ok (.invokestatic 37, 3) := by decide +kernel
theorem dX7_move_15 : decode cX7_move 15 = .ok (.iconst 0, 1) := by decide +kernel
theorem dX7_move_16 : decode cX7_move 16 = .ok (.istore_n 1, 1) := by decide +kernel
theorem dX7_move_17 : decode cX7_move 17 = .ok (.iload_n 1, 1) := by decide +kernel
theorem dX7_move_18 : decode cX7_move 18 = .ok (.aload_n 0, 1) := by decide +kernel
theorem dX7_move_19 : decode cX7_move 19 = .ok (.getfield 9, 3) := by decide +kernel
theorem dX7_move_22 : decode cX7_move 22 = .ok (.if_icmp .ge 69, 3) := by decide +kernel
theorem dX7_move_25 : decode cX7_move 25 = .ok (.aload_n 0, 1) := by decide +kernel
theorem dX7_move_26 : decode cX7_move 26 = .ok (.getfield 18, 3) := by decide +kernel
theorem dX7_move_29 : decode cX7_move 29 = .ok (.iload_n 1, 1) := by decide +kernel
theorem dX7_move_30 : decode cX7_move 30 = .ok (.aload_n 0, 1) := by decide +kernel
theorem dX7_move_31 : decode cX7_move 31 = .ok (.getfield 22, 3) := by decide +kernel
theorem dX7_move_34 : decode cX7_move 34 = .ok (.iload_n 1, 1) := by decide +kernel
theorem dX7_move_35 : decode cX7_move 35 = .ok (.iaload, 1) := by decide +kernel
theorem dX7_move_36 : decode cX7_move 36 = .ok (.iconst (-1), 1) := by decide +kernel
theorem dX7_move_37 : decode cX7_move 37 = .ok (.if_icmp .ne 11, 3) := by decide +kernel
theorem dX7_move_40 : decode cX7_move 40 = .ok (.aload_n 0, 1) := by decide +kernel
theorem dX7_move_41 : decode cX7_move 41 = .ok (.iload_n 1, 1) := by decide +kernel
theorem dX7_move_42 : decode cX7_move 42 = .ok (.invokevirtual 46, 3) := by decide +kernel
theorem dX7_move_45 : decode cX7_move 45 = .ok (.goto 14, 3) := by decide +kernel
theorem dX7_move_48 : decode cX7_move 48 = .ok (.aload_n 0, 1) := by decide +kernel
theorem dX7_move_49 : decode cX7_move 49 = .ok (.getfield 34, 3) := by decide +kernel
theorem dX7_move_52 : decode cX7_move 52 = .ok (.aload_n 0, 1) := by decide +kernel
theorem dX7_move_53 : decode cX7_move 53 = .ok (.getfield 22, 3) := by decide +kernel
theorem dX7_move_56 : decode cX7_move 56 = .ok (.iload_n 1, 1) := by decide +kernel
theorem dX7_move_57 : decode cX7_move 57 = .ok (.iaload, 1) := by decide +kernel
theorem dX7_move_58 : decode cX7_move 58 = .ok (.iaload, 1) := by decide +kernel
theorem dX7_move_59 : decode cX7_move 59 = .ok (.iastore, 1) := by decide +kernel
theorem dX7_move_60 : decode cX7_move 60 = .ok (.aload_n 0, 1) := by decide +kernel
theorem dX7_move_61 : decode cX7_move 61 = .ok (.getfield 18, 3) := by decide +kernel
theorem dX7_move_64 : decode cX7_move 64 = .ok (.iload_n 1, 1) := by decide +kernel
theorem dX7_move_65 : decode cX7_move 65 = .ok (.iaload, 1) := by decide +kernel
theorem dX7_move_66 : decode cX7_move 66 = .ok (.aload_n 0, 1) := by decide +kernel
theorem dX7_move_67 : decode cX7_move 67 = .ok (.getfield 34, 3) := by decide +kernel
theorem dX7_move_70 : decode cX7_move 70 = .ok (.iload_n 1, 1) := by decide +kernel
theorem dX7_move_71 : decode cX7_move 71 = .ok (.iaload, 1) := by decide +kernel
theorem dX7_move_72 : decode cX7_move 72 = .ok (.if_icmp .eq 13, 3) := by decide +kernel
theorem dX7_move_75 : decode cX7_move 75 = .ok (.aload_n 0, 1) := by decide +kernel
theorem dX7_move_76 : decode cX7_move 76 = .ok (.getfield 31, 3) := by decide +kernel
theorem dX7_move_79 : decode cX7_move 79 = .ok (.iload_n 1, 1) := by decide +kernel
theorem dX7_move_80 : decode cX7_move 80 = .ok (.dup2, 1) := by decide +kernel
theorem dX7_move_81 : decode cX7_move 81 = .ok (.iaload, 1) := by decide +kernel
theorem dX7_move_82 : decode cX7_move 82 = .ok (.iconst 1, 1) := by decide +kernel
theorem dX7_move_83 : decode cX7_move 83 = .ok (.iadd, 1) := by decide +kernel
theorem dX7_move_84 : decode cX7_move 84 = .ok (.iastore, 1) := by decide +kernel
theorem dX7_move_85 : decode cX7_move 85 = .ok (.iinc 1 1, 3) := by decide +kernel
theorem dX7_move_88 : decode cX7_move 88 = .ok (.goto (-71), 3) := by decide +kernel
theorem dX7_move_91 : decode cX7_move 91 = .ok (.aload_n 0, 1) := by decide +kernel
theorem dX7_move_92 : decode cX7_move 92 = .ok (.dup, 1) := by decide +kernel
theorem dX7_move_93 : decode cX7_move 93 = .ok (.getfield 15, 3) := by decide +kernel
theorem dX7_move_96 : decode cX7_move 96 = .ok (.iconst 1, 1) := by decide +kernel
theorem dX7_move_97 : decode cX7_move 97 = .ok (.iadd, 1) := by decide +kernel
theorem dX7_move_98 : decode cX7_move 98 = .ok (.putfield 15, 3) := by decide +kernel
theorem dX7_move_101 : decode cX7_move 101 = .ok (.return_, 1) := by decide +kernel
theorem dX7_goRound_0 : decode cX7_goRound 0 = .ok (.aload_n 0, 1) := by decide +kernel
theorem dX7_goRound_1 : decode cX7_goRound 1 = .ok (.getfield 25, 3) := by decide +kernel
theorem dX7_goRound_4 : decode cX7_goRound 4 = .ok (.iload_n 1, 1) := by decide +kernel
theorem dX7_goRound_5 : decode cX7_goRound 5 = .ok (.iaload, 1) := by decide +kernel
theorem dX7_goRound_6 : decode cX7_goRound 6 = .ok (.invokestatic 50, 3) := by decide +kernel
theorem dX7_goRound_9 : decode cX7_goRound 9 = .ok (.istore_n 2, 1) := by decide +kernel
theorem dX7_goRound_10 : decode cX7_goRound 10 = .ok (.aload_n 0, 1) := by decide +kernel
theorem dX7_goRound_11 : decode cX7_goRound 11 = .ok (.getfield 25, 3) := by decide +kernel
theorem dX7_goRound_14 : decode cX7_goRound 14 = .ok (.iload_n 1, 1) := by decide +kernel
theorem dX7_goRound_15 : decode cX7_goRound 15 = .ok (.iaload, 1) := by decide +kernel
theorem dX7_goRound_16 : decode cX7_goRound 16 = .ok (.aload_n 0, 1) := by decide +kernel
theorem dX7_goRound_17 : decode cX7_goRound 17 = .ok (.getfield 28, 3) := by decide +kernel
theorem dX7_goRound_20 : decode cX7_goRound 20 = .ok (.iload_n 1, 1) := by decide +kernel
theorem dX7_goRound_21 : decode cX7_goRound 21 = .ok (.iaload, 1) := by decide +kernel
theorem dX7_goRound_22 : decode cX7_goRound 22 = .ok (.invokestatic 55, 3) := by decide +kernel
theorem dX7_goRound_25 : decode cX7_goRound 25 = .ok (.istore_n 3, 1) := by decide +kernel
theorem dX7_goRound_26 : decode cX7_goRound 26 = .ok (.aload_n 0, 1) := by decide +kernel
theorem dX7_goRound_27 : decode cX7_goRound 27 = .ok (.getfield 28, 3) := by decide +kernel
theorem dX7_goRound_30 : decode cX7_goRound 30 = .ok (.iload_n 1, 1) := by decide +kernel
theorem dX7_goRound_31 : decode cX7_goRound 31 = .ok (.aload_n 0, 1) := by decide +kernel
theorem dX7_goRound_32 : decode cX7_goRound 32 = .ok (.getfield 28, 3) := by decide +kernel
theorem dX7_goRound_35 : decode cX7_goRound 35 = .ok (.iload_n 1, 1) := by decide +kernel
theorem dX7_goRound_36 : decode cX7_goRound 36 = .ok (.iaload, 1) := by decide +kernel
theorem dX7_goRound_37 : decode cX7_goRound 37 = .ok (.iconst 1, 1) := by decide +kernel
theorem dX7_goRound_38 : decode cX7_goRound 38 = .ok (.iadd, 1) := by decide +kernel
theorem dX7_goRound_39 : decode cX7_goRound 39 = .ok (.iload_n 2, 1) := by decide +kernel
theorem dX7_goRound_40 : decode cX7_goRound 40 = .ok (.if_icmp .ge 14, 3) := by decide +kernel
theorem dX7_goRound_43 : decode cX7_goRound 43 = .ok (.aload_n 0, 1) := by decide +kernel
theorem dX7_goRound_44 : decode cX7_goRound 44 = .ok (.getfield 28, 3) := by decide +kernel
theorem dX7_goRound_47 : decode cX7_goRound 47 = .ok (.iload_n 1, 1) := by decide +kernel
theorem dX7_goRound_48 : decode cX7_goRound 48 = .ok (.iaload, 1) := by decide +kernel
theorem dX7_goRound_49 : decode cX7_goRound 49 = .ok (.iconst 1, 1) := by decide +kernel
theorem dX7_goRound_50 : decode cX7_goRound 50 = .ok (.iadd, 1) := by decide +kernel
theorem dX7_goRound_51 : decode cX7_goRound 51 = .ok (.goto 4, 3) := by decide +kernel
theorem dX7_goRound_54 : decode cX7_goRound 54 = .ok (.iconst 0, 1) := by decide +kernel
theorem dX7_goRound_55 : decode cX7_goRound 55 = .ok (.iastore, 1) := by decide +kernel
theorem dX7_goRound_56 : decode cX7_goRound 56 = .ok (.iload_n 3, 1) := by decide +kernel
theorem dX7_goRound_57 : decode cX7_goRound 57 = .ok (.iconst 1, 1) := by decide +kernel
theorem dX7_goRound_58 : decode cX7_goRound 58 = .ok (.isub, 1) := by decide +kernel
theorem dX7_goRound_59 : decode cX7_goRound 59 = .ok (.ireturn, 1) := by decide +kernel
theorem dX7_reverseRound_0 : decode cX7_reverseRound 0 = .ok (.aload_n 0, 1) := by decide +kernel
theorem dX7_reverseRound_1 : decode cX7_reverseRound 1 = .ok (.getfield 25, 3) := by decide +kernel
theorem dX7_reverseRound_4 : decode cX7_reverseRound 4 = .ok (.iload_n 1, 1) := by decide +kernel
theorem dX7_reverseRound_5 : decode cX7_reverseRound 5 = .ok (.aload_n 0, 1) := by decide +kernel
theorem dX7_reverseRound_6 : decode cX7_reverseRound 6 = .ok (.getfield 25, 3) := by decide +kernel
theorem dX7_reverseRound_9 : decode cX7_reverseRound 9 = .ok (.iload_n 1, 1) := by decide +kernel
theorem dX7_reverseRound_10 : decode cX7_reverseRound 10 = .ok (.iaload, 1) := by decide +kernel
theorem dX7_reverseRound_11 : decode cX7_reverseRound 11 = .ok (.invokestatic 59, 3) := by decide +kernel
theorem dX7_reverseRound_14 : decode cX7_reverseRound 14 = .ok (.iastore, 1) := by decide +kernel
theorem dX7_reverseRound_15 : decode cX7_reverseRound 15 = .ok (.aload_n 0, 1) := by decide +kernel
theorem dX7_reverseRound_16 : decode cX7_reverseRound 16 = .ok (.getfield 28, 3) := by decide +kernel
theorem dX7_reverseRound_19 : decode cX7_reverseRound 19 = .ok (.iload_n 1, 1) := by decide +kernel
theorem dX7_reverseRound_20 : decode cX7_reverseRound 20 = .ok (.iconst 0, 1) := by decide +kernel
theorem dX7_reverseRound_21 : decode cX7_reverseRound 21 = .ok (.iastore, 1) := by decide +kernel
theorem dX7_reverseRound_22 : decode cX7_reverseRound 22 = .ok (.return_, 1) := by decide +kernel
theorem dX7_carsAt_0 : decode cX7_carsAt 0 = .ok (.iconst 0, 1) := by decide +kernel
theorem dX7_carsAt_1 : decode cX7_carsAt 1 = .ok (.istore_n 2, 1) := by decide +kernel
theorem dX7_carsAt_2 : decode cX7_carsAt 2 = .ok (.iconst 0, 1) := by decide +kernel
theorem dX7_carsAt_3 : decode cX7_carsAt 3 = .ok (.istore_n 3, 1) := by decide +kernel
theorem dX7_carsAt_4 : decode cX7_carsAt 4 = .ok (.iload_n 3, 1) := by decide +kernel
theorem dX7_carsAt_5 : decode cX7_carsAt 5 = .ok (.aload_n 0, 1) := by decide +kernel
theorem dX7_carsAt_6 : decode cX7_carsAt 6 = .ok (.getfield 9, 3) := by decide +kernel
theorem dX7_carsAt_9 : decode cX7_carsAt 9 = .ok (.if_icmp .ge 22, 3) := by decide +kernel
theorem dX7_carsAt_12 : decode cX7_carsAt 12 = .ok (.aload_n 0, 1) := by decide +kernel
theorem dX7_carsAt_13 : decode cX7_carsAt 13 = .ok (.getfield 18, 3) := by decide +kernel
theorem dX7_carsAt_16 : decode cX7_carsAt 16 = .ok (.iload_n 3, 1) := by decide +kernel
theorem dX7_carsAt_17 : decode cX7_carsAt 17 = .ok (.iaload, 1) := by decide +kernel
theorem dX7_carsAt_18 : decode cX7_carsAt 18 = .ok (.iload_n 1, 1) := by decide +kernel
theorem dX7_carsAt_19 : decode cX7_carsAt 19 = .ok (.if_icmp .ne 6, 3) := by decide +kernel
theorem dX7_carsAt_22 : decode cX7_carsAt 22 = .ok (.iinc 2 1, 3) := by decide +kernel
theorem dX7_carsAt_25 : decode cX7_carsAt 25 = .ok (.iinc 3 1, 3) := by decide +kernel
theorem dX7_carsAt_28 : decode cX7_carsAt 28 = .ok (.goto (-24), 3) := by decide +kernel
theorem dX7_carsAt_31 : decode cX7_carsAt 31 = .ok (.iload_n 2, 1) := by decide +kernel
theorem dX7_carsAt_32 : decode cX7_carsAt 32 = .ok (.ireturn, 1) := by decide +kernel
theorem dX7_takenCorners_0 : decode cX7_takenCorners 0 = .ok (.iconst 0, 1) := by decide +kernel
theorem dX7_takenCorners_1 : decode cX7_takenCorners 1 = .ok (.istore_n 1, 1) := by decide +kernel
theorem dX7_takenCorners_2 : decode cX7_takenCorners 2 = .ok (.iconst 0, 1) := by decide +kernel
theorem dX7_takenCorners_3 : decode cX7_takenCorners 3 = .ok (.istore_n 2, 1) := by decide +kernel
theorem dX7_takenCorners_4 : decode cX7_takenCorners 4 = .ok (.iload_n 2, 1) := by decide +kernel
theorem dX7_takenCorners_5 : decode cX7_takenCorners 5 = .ok (.aload_n 0, 1) := by decide +kernel
theorem dX7_takenCorners_6 : decode cX7_takenCorners 6 = .ok (.getfield 9, 3) := by decide +kernel
theorem dX7_takenCorners_9 : decode cX7_takenCorners 9 = .ok (.if_icmp .ge 20, 3) := by decide +kernel
theorem dX7_takenCorners_12 : decode cX7_takenCorners 12 = .ok (.iload_n 1, 1) := by decide +kernel
theorem dX7_takenCorners_13 : decode cX7_takenCorners 13 = .ok (.iconst 1, 1) := by decide +kernel
theorem dX7_takenCorners_14 : decode cX7_takenCorners 14 = .ok (.aload_n 0, 1) := by decide +kernel
theorem dX7_takenCorners_15 : decode cX7_takenCorners 15 = .ok (.getfield 18, 3) := by decide +kernel
theorem dX7_takenCorners_18 : decode cX7_takenCorners 18 = .ok (.iload_n 2, 1) := by decide +kernel
theorem dX7_takenCorners_19 : decode cX7_takenCorners 19 = .ok (.iaload, 1) := by decide +kernel
theorem dX7_takenCorners_20 : decode cX7_takenCorners 20 = .ok (.ishl, 1) := by decide +kernel
theorem dX7_takenCorners_21 : decode cX7_takenCorners 21 = .ok (.ior, 1) := by decide +kernel
theorem dX7_takenCorners_22 : decode cX7_takenCorners 22 = .ok (.istore_n 1, 1) := by decide +kernel
theorem dX7_takenCorners_23 : decode cX7_takenCorners 23 = .ok (.iinc 2 1, 3) := by decide +kernel
theorem dX7_takenCorners_26 : decode cX7_takenCorners 26 = .ok (.goto (-22), 3) := by decide +kernel
theorem dX7_takenCorners_29 : decode cX7_takenCorners 29 = .ok (.iload_n 1, 1) := by decide +kernel
theorem dX7_takenCorners_30 : decode cX7_takenCorners 30 = .ok (.ireturn, 1) := by decide +kernel
theorem dX7_allBeside_0 : decode cX7_allBeside 0 = .ok (.iconst 0, 1) := by decide +kernel
theorem dX7_allBeside_1 : decode cX7_allBeside 1 = .ok (.istore_n 2, 1) := by decide +kernel
theorem dX7_allBeside_2 : decode cX7_allBeside 2 = .ok (.iconst 0, 1) := by decide +kernel
theorem dX7_allBeside_3 : decode cX7_allBeside 3 = .ok (.istore_n 3, 1) := by decide +kernel
theorem dX7_allBeside_4 : decode cX7_allBeside 4 = .ok (.iload_n 3, 1) := by decide +kernel
theorem dX7_allBeside_5 : decode cX7_allBeside 5 = .ok (.aload_n 0, 1) := by decide +kernel
theorem dX7_allBeside_6 : decode cX7_allBeside 6 = .ok (.getfield 9, 3) := by decide +kernel
theorem dX7_allBeside_9 : decode cX7_allBeside 9 = .ok (.if_icmp .ge 28, 3) := by decide +kernel
theorem dX7_allBeside_12 : decode cX7_allBeside 12 = .ok (.iload_n 1, 1) := by decide +kernel
theorem dX7_allBeside_13 : decode cX7_allBeside 13 = .ok (.iload_n 3, 1) := by decide +kernel
theorem dX7_allBeside_14 : decode cX7_allBeside 14 = .ok (.invokestatic 62, 3) := by decide +kernel
theorem dX7_allBeside_17 : decode cX7_allBeside 17 = .ok (.ifCond .eq 14, 3) := by decide +kernel
theorem dX7_allBeside_20 : decode cX7_allBeside 20 = .ok (.iload_n 2, 1) := by decide +kernel
theorem dX7_allBeside_21 : decode cX7_allBeside 21 = .ok (.iconst 1, 1) := by decide +kernel
theorem dX7_allBeside_22 : decode cX7_allBeside 22 = .ok (.aload_n 0, 1) := by decide +kernel
theorem dX7_allBeside_23 : decode cX7_allBeside 23 = .ok (.getfield 18, 3) := by decide +kernel
theorem dX7_allBeside_26 : decode cX7_allBeside 26 = .ok (.iload_n 3, 1) := by decide +kernel
theorem dX7_allBeside_27 : decode cX7_allBeside 27 = .ok (.iaload, 1) := by decide +kernel
theorem dX7_allBeside_28 : decode cX7_allBeside 28 = .ok (.ishl, 1) := by decide +kernel
theorem dX7_allBeside_29 : decode cX7_allBeside 29 = .ok (.ior, 1) := by decide +kernel
theorem dX7_allBeside_30 : decode cX7_allBeside 30 = .ok (.istore_n 2, 1) := by decide +kernel
theorem dX7_allBeside_31 : decode cX7_allBeside 31 = .ok (.iinc 3 1, 3) := by decide +kernel
theorem dX7_allBeside_34 : decode cX7_allBeside 34 = .ok (.goto (-30), 3) := by decide +kernel
theorem dX7_allBeside_37 : decode cX7_allBeside 37 = .ok (.iconst 0, 1) := by decide +kernel
theorem dX7_allBeside_38 : decode cX7_allBeside 38 = .ok (.istore_n 3, 1) := by decide +kernel
theorem dX7_allBeside_39 : decode cX7_allBeside 39 = .ok (.iconst 0, 1) := by decide +kernel
theorem dX7_allBeside_40 : decode cX7_allBeside 40 = .ok (.istore 4, 2) := by decide +kernel
theorem dX7_allBeside_42 : decode cX7_allBeside 42 = .ok (.iload 4, 2) := by decide +kernel
theorem dX7_allBeside_44 : decode cX7_allBeside 44 = .ok (.aload_n 0, 1) := by decide +kernel
theorem dX7_allBeside_45 : decode cX7_allBeside 45 = .ok (.getfield 9, 3) := by decide +kernel
theorem dX7_allBeside_48 : decode cX7_allBeside 48 = .ok (.if_icmp .ge 30, 3) := by decide +kernel
theorem dX7_allBeside_51 : decode cX7_allBeside 51 = .ok (.iload_n 2, 1) := by decide +kernel
theorem dX7_allBeside_52 : decode cX7_allBeside 52 = .ok (.aload_n 0, 1) := by decide +kernel
theorem dX7_allBeside_53 : decode cX7_allBeside 53 = .ok (.getfield 18, 3) := by decide +kernel
theorem dX7_allBeside_56 : decode cX7_allBeside 56 = .ok (.iload 4, 2) := by decide +kernel
theorem dX7_allBeside_58 : decode cX7_allBeside 58 = .ok (.iaload, 1) := by decide +kernel
theorem dX7_allBeside_59 : decode cX7_allBeside 59 = .ok (.invokestatic 62, 3) := by decide +kernel
theorem dX7_allBeside_62 : decode cX7_allBeside 62 = .ok (.ifCond .eq 10, 3) := by decide +kernel
theorem dX7_allBeside_65 : decode cX7_allBeside 65 = .ok (.iload_n 3, 1) := by decide +kernel
theorem dX7_allBeside_66 : decode cX7_allBeside 66 = .ok (.iconst 1, 1) := by decide +kernel
theorem dX7_allBeside_67 : decode cX7_allBeside 67 = .ok (.iload 4, 2) := by decide +kernel
theorem dX7_allBeside_69 : decode cX7_allBeside 69 = .ok (.ishl, 1) := by decide +kernel
theorem dX7_allBeside_70 : decode cX7_allBeside 70 = .ok (.ior, 1) := by decide +kernel
theorem dX7_allBeside_71 : decode cX7_allBeside 71 = .ok (.istore_n 3, 1) := by decide +kernel
theorem dX7_allBeside_72 : decode cX7_allBeside 72 = .ok (.iinc 4 1, 3) := by decide +kernel
theorem dX7_allBeside_75 : decode cX7_allBeside 75 = .ok (.goto (-33), 3) := by decide +kernel
theorem dX7_allBeside_78 : decode cX7_allBeside 78 = .ok (.iload_n 3, 1) := by decide +kernel
theorem dX7_allBeside_79 : decode cX7_allBeside 79 = .ok (.ireturn, 1) := by decide +kernel
theorem dX7_allFollowers_0 : decode cX7_allFollowers 0 = .ok (.iconst 0, 1) := by decide +kernel
theorem dX7_allFollowers_1 : decode cX7_allFollowers 1 = .ok (.istore_n 1, 1) := by decide +kernel
theorem dX7_allFollowers_2 : decode cX7_allFollowers 2 = .ok (.iconst 0, 1) := by decide +kernel
theorem dX7_allFollowers_3 : decode cX7_allFollowers 3 = .ok (.istore_n 2, 1) := by decide +kernel
theorem dX7_allFollowers_4 : decode cX7_allFollowers 4 = .ok (.iload_n 2, 1) := by decide +kernel
theorem dX7_allFollowers_5 : decode cX7_allFollowers 5 = .ok (.aload_n 0, 1) := by decide +kernel
theorem dX7_allFollowers_6 : decode cX7_allFollowers 6 = .ok (.getfield 9, 3) := by decide +kernel
theorem dX7_allFollowers_9 : decode cX7_allFollowers 9 = .ok (.if_icmp .ge 25, 3) := by decide +kernel
theorem dX7_allFollowers_12 : decode cX7_allFollowers 12 = .ok (.aload_n 0, 1) := by decide +kernel
theorem dX7_allFollowers_13 : decode cX7_allFollowers 13 = .ok (.getfield 22, 3) := by decide +kernel
theorem dX7_allFollowers_16 : decode cX7_allFollowers 16 = .ok (.iload_n 2, 1) := by decide +kernel
theorem dX7_allFollowers_17 : decode cX7_allFollowers 17 = .ok (.iaload, 1) := by decide +kernel
theorem dX7_allFollowers_18 : decode cX7_allFollowers 18 = .ok (.iconst (-1), 1) := by decide +kernel
theorem dX7_allFollowers_19 : decode cX7_allFollowers 19 = .ok (.if_icmp .eq 9, 3) := by decide +kernel
theorem dX7_allFollowers_22 : decode cX7_allFollowers 22 = .ok (.iload_n 1, 1) := by decide +kernel
theorem dX7_allFollowers_23 : decode cX7_allFollowers 23 = .ok (.iconst 1, 1) := by decide +kernel
theorem dX7_allFollowers_24 : decode cX7_allFollowers 24 = .ok (.iload_n 2, 1) := by decide +kernel
theorem dX7_allFollowers_25 : decode cX7_allFollowers 25 = .ok (.ishl, 1) := by decide +kernel
theorem dX7_allFollowers_26 : decode cX7_allFollowers 26 = .ok (.ior, 1) := by decide +kernel
theorem dX7_allFollowers_27 : decode cX7_allFollowers 27 = .ok (.istore_n 1, 1) := by decide +kernel
theorem dX7_allFollowers_28 : decode cX7_allFollowers 28 = .ok (.iinc 2 1, 3) := by decide +kernel
theorem dX7_allFollowers_31 : decode cX7_allFollowers 31 = .ok (.goto (-27), 3) := by decide +kernel
theorem dX7_allFollowers_34 : decode cX7_allFollowers 34 = .ok (.iload_n 1, 1) := by decide +kernel
theorem dX7_allFollowers_35 : decode cX7_allFollowers 35 = .ok (.ireturn, 1) := by decide +kernel
theorem dX7_leadersOf_0 : decode cX7_leadersOf 0 = .ok (.iconst 0, 1) := by decide +kernel
theorem dX7_leadersOf_1 : decode cX7_leadersOf 1 = .ok (.istore_n 2, 1) := by decide +kernel
theorem dX7_leadersOf_2 : decode cX7_leadersOf 2 = .ok (.aload_n 0, 1) := by decide +kernel
theorem dX7_leadersOf_3 : decode cX7_leadersOf 3 = .ok (.getfield 22, 3) := by decide +kernel
theorem dX7_leadersOf_6 : decode cX7_leadersOf 6 = .ok (.iload_n 1, 1) := by decide +kernel
theorem dX7_leadersOf_7 : decode cX7_leadersOf 7 = .ok (.iaload, 1) := by decide +kernel
theorem dX7_leadersOf_8 : decode cX7_leadersOf 8 = .ok (.istore_n 3, 1) := by decide +kernel
theorem dX7_leadersOf_9 : decode cX7_leadersOf 9 = .ok (.iconst 0, 1) := by decide +kernel
theorem dX7_leadersOf_10 : decode cX7_leadersOf 10 = .ok (.istore 4, 2) := by decide +kernel
theorem dX7_leadersOf_12 : decode cX7_leadersOf 12 = .ok (.iload 4, 2) := by decide +kernel
theorem dX7_leadersOf_14 : decode cX7_leadersOf 14 = .ok (.aload_n 0, 1) := by decide +kernel
theorem dX7_leadersOf_15 : decode cX7_leadersOf 15 = .ok (.getfield 9, 3) := by decide +kernel
theorem dX7_leadersOf_18 : decode cX7_leadersOf 18 = .ok (.if_icmp .ge 27, 3) := by decide +kernel
theorem dX7_leadersOf_21 : decode cX7_leadersOf 21 = .ok (.iload_n 3, 1) := by decide +kernel
theorem dX7_leadersOf_22 : decode cX7_leadersOf 22 = .ok (.iconst (-1), 1) := by decide +kernel
theorem dX7_leadersOf_23 : decode cX7_leadersOf 23 = .ok (.if_icmp .eq 22, 3) := by decide +kernel
theorem dX7_leadersOf_26 : decode cX7_leadersOf 26 = .ok (.iload_n 2, 1) := by decide +kernel
theorem dX7_leadersOf_27 : decode cX7_leadersOf 27 = .ok (.iconst 1, 1) := by decide +kernel
theorem dX7_leadersOf_28 : decode cX7_leadersOf 28 = .ok (.iload_n 3, 1) := by decide +kernel
theorem dX7_leadersOf_29 : decode cX7_leadersOf 29 = .ok (.ishl, 1) := by decide +kernel
theorem dX7_leadersOf_30 : decode cX7_leadersOf 30 = .ok (.ior, 1) := by decide +kernel
theorem dX7_leadersOf_31 : decode cX7_leadersOf 31 = .ok (.istore_n 2, 1) := by decide +kernel
theorem dX7_leadersOf_32 : decode cX7_leadersOf 32 = .ok (.aload_n 0, 1) := by decide +kernel
theorem dX7_leadersOf_33 : decode cX7_leadersOf 33 = .ok (.getfield 22, 3) := by decide +kernel
theorem dX7_leadersOf_36 : decode cX7_leadersOf 36 = .ok (.iload_n 3, 1) := by decide +kernel
theorem dX7_leadersOf_37 : decode cX7_leadersOf 37 = .ok (.iaload, 1) := by decide +kernel
theorem dX7_leadersOf_38 : decode cX7_leadersOf 38 = .ok (.istore_n 3, 1) := by decide +kernel
theorem dX7_leadersOf_39 : decode cX7_leadersOf 39 = .ok (.iinc 4 1, 3) := by decide +kernel
theorem dX7_leadersOf_42 : decode cX7_leadersOf 42 = .ok (.goto (-30), 3) := by decide +kernel
theorem dX7_leadersOf_45 : decode cX7_leadersOf 45 = .ok (.iload_n 2, 1) := by decide +kernel
theorem dX7_leadersOf_46 : decode cX7_leadersOf 46 = .ok (.ireturn, 1) := by decide +kernel
theorem dX7_trailOf_0 : decode cX7_trailOf 0 = .ok (.iconst 0, 1) := by decide +kernel
theorem dX7_trailOf_1 : decode cX7_trailOf 1 = .ok (.istore_n 2, 1) := by decide +kernel
theorem dX7_trailOf_2 : decode cX7_trailOf 2 = .ok (.iconst 0, 1) := by decide +kernel
theorem dX7_trailOf_3 : decode cX7_trailOf 3 = .ok (.istore_n 3, 1) := by decide +kernel
theorem dX7_trailOf_4 : decode cX7_trailOf 4 = .ok (.iload_n 3, 1) := by decide +kernel
theorem dX7_trailOf_5 : decode cX7_trailOf 5 = .ok (.aload_n 0, 1) := by decide +kernel
theorem dX7_trailOf_6 : decode cX7_trailOf 6 = .ok (.getfield 9, 3) := by decide +kernel
theorem dX7_trailOf_9 : decode cX7_trailOf 9 = .ok (.if_icmp .ge 27, 3) := by decide +kernel
theorem dX7_trailOf_12 : decode cX7_trailOf 12 = .ok (.aload_n 0, 1) := by decide +kernel
theorem dX7_trailOf_13 : decode cX7_trailOf 13 = .ok (.iload_n 3, 1) := by decide +kernel
theorem dX7_trailOf_14 : decode cX7_trailOf 14 = .ok (.invokevirtual 66, 3) := by decide +kernel
theorem dX7_trailOf_17 : decode cX7_trailOf 17 = .ok (.iload_n 1, 1) := by decide +kernel
theorem dX7_trailOf_18 : decode cX7_trailOf 18 = .ok (.invokestatic 62, 3) := by decide +kernel
theorem dX7_trailOf_21 : decode cX7_trailOf 21 = .ok (.ifCond .eq 9, 3) := by decide +kernel
theorem dX7_trailOf_24 : decode cX7_trailOf 24 = .ok (.iload_n 2, 1) := by decide +kernel
theorem dX7_trailOf_25 : decode cX7_trailOf 25 = .ok (.iconst 1, 1) := by decide +kernel
theorem dX7_trailOf_26 : decode cX7_trailOf 26 = .ok (.iload_n 3, 1) := by decide +kernel
theorem dX7_trailOf_27 : decode cX7_trailOf 27 = .ok (.ishl, 1) := by decide +kernel
theorem dX7_trailOf_28 : decode cX7_trailOf 28 = .ok (.ior, 1) := by decide +kernel
theorem dX7_trailOf_29 : decode cX7_trailOf 29 = .ok (.istore_n 2, 1) := by decide +kernel
theorem dX7_trailOf_30 : decode cX7_trailOf 30 = .ok (.iinc 3 1, 3) := by decide +kernel
theorem dX7_trailOf_33 : decode cX7_trailOf 33 = .ok (.goto (-29), 3) := by decide +kernel
theorem dX7_trailOf_36 : decode cX7_trailOf 36 = .ok (.iload_n 2, 1) := by decide +kernel
theorem dX7_trailOf_37 : decode cX7_trailOf 37 = .ok (.ireturn, 1) := by decide +kernel
theorem dX7_ringOf_0 : decode cX7_ringOf 0 = .ok (.aload_n 0, 1) := by decide +kernel
theorem dX7_ringOf_1 : decode cX7_ringOf 1 = .ok (.iload_n 1, 1) := by decide +kernel
theorem dX7_ringOf_2 : decode cX7_ringOf 2 = .ok (.invokevirtual 66, 3) := by decide +kernel
theorem dX7_ringOf_5 : decode cX7_ringOf 5 = .ok (.istore_n 2, 1) := by decide +kernel
theorem dX7_ringOf_6 : decode cX7_ringOf 6 = .ok (.iload_n 2, 1) := by decide +kernel
theorem dX7_ringOf_7 : decode cX7_ringOf 7 = .ok (.iload_n 1, 1) := by decide +kernel
theorem dX7_ringOf_8 : decode cX7_ringOf 8 = .ok (.invokestatic 62, 3) := by decide +kernel
theorem dX7_ringOf_11 : decode cX7_ringOf 11 = .ok (.ifCond .eq 7, 3) := by decide +kernel
theorem dX7_ringOf_14 : decode cX7_ringOf 14 = .ok (.iload_n 2, 1) := by decide +kernel
theorem dX7_ringOf_15 : decode cX7_ringOf 15 = .ok (.goto 4, 3) := by decide +kernel
theorem dX7_ringOf_18 : decode cX7_ringOf 18 = .ok (.iconst 0, 1) := by decide +kernel
theorem dX7_ringOf_19 : decode cX7_ringOf 19 = .ok (.ireturn, 1) := by decide +kernel
theorem dX7_leastOfRings_0 : decode cX7_leastOfRings 0 = .ok (.iconst 0, 1) := by decide +kernel
theorem dX7_leastOfRings_1 : decode cX7_leastOfRings 1 = .ok (.istore_n 1, 1) := by decide +kernel
theorem dX7_leastOfRings_2 : decode cX7_leastOfRings 2 = .ok (.iconst 0, 1) := by decide +kernel
theorem dX7_leastOfRings_3 : decode cX7_leastOfRings 3 = .ok (.istore_n 2, 1) := by decide +kernel
theorem dX7_leastOfRings_4 : decode cX7_leastOfRings 4 = .ok (.iload_n 2, 1) := by decide +kernel
theorem dX7_leastOfRings_5 : decode cX7_leastOfRings 5 = .ok (.aload_n 0, 1) := by decide +kernel
theorem dX7_leastOfRings_6 : decode cX7_leastOfRings 6 = .ok (.getfield 9, 3) := by decide +kernel
theorem dX7_leastOfRings_9 : decode cX7_leastOfRings 9 = .ok (.if_icmp .ge 22, 3) := by decide +kernel
theorem dX7_leastOfRings_12 : decode cX7_leastOfRings 12 = .ok (.aload_n 0, 1) := by decide +kernel
theorem dX7_leastOfRings_13 : decode cX7_leastOfRings 13 = .ok (.iload_n 2, 1) := by decide +kernel
theorem dX7_leastOfRings_14 : decode cX7_leastOfRings 14 = .ok (.invokevirtual 69, 3) := by decide +kernel
theorem dX7_leastOfRings_17 : decode cX7_leastOfRings 17 = .ok (.istore_n 3, 1) := by decide +kernel
theorem dX7_leastOfRings_18 : decode cX7_leastOfRings 18 = .ok (.iload_n 1, 1) := by decide +kernel
theorem dX7_leastOfRings_19 : decode cX7_leastOfRings 19 = .ok (.iload_n 3, 1) := by decide +kernel
theorem dX7_leastOfRings_20 : decode cX7_leastOfRings 20 = .ok (.iload_n 3, 1) := by decide +kernel
theorem dX7_leastOfRings_21 : decode cX7_leastOfRings 21 = .ok (.ineg, 1) := by decide +kernel
theorem dX7_leastOfRings_22 : decode cX7_leastOfRings 22 = .ok (.iand, 1) := by decide +kernel
theorem dX7_leastOfRings_23 : decode cX7_leastOfRings 23 = .ok (.ior, 1) := by decide +kernel
theorem dX7_leastOfRings_24 : decode cX7_leastOfRings 24 = .ok (.istore_n 1, 1) := by decide +kernel
theorem dX7_leastOfRings_25 : decode cX7_leastOfRings 25 = .ok (.iinc 2 1, 3) := by decide +kernel
theorem dX7_leastOfRings_28 : decode cX7_leastOfRings 28 = .ok (.goto (-24), 3) := by decide +kernel
theorem dX7_leastOfRings_31 : decode cX7_leastOfRings 31 = .ok (.iload_n 1, 1) := by decide +kernel
theorem dX7_leastOfRings_32 : decode cX7_leastOfRings 32 = .ok (.ireturn, 1) := by decide +kernel
theorem dX7_ringCount_0 : decode cX7_ringCount 0 = .ok (.aload_n 0, 1) := by decide +kernel
theorem dX7_ringCount_1 : decode cX7_ringCount 1 = .ok (.invokevirtual 72, 3) := by decide +kernel
theorem dX7_ringCount_4 : decode cX7_ringCount 4 = .ok (.invokestatic 76, 3) := by decide +kernel
theorem dX7_ringCount_7 : decode cX7_ringCount 7 = .ok (.ireturn, 1) := by decide +kernel
theorem dX7_ringNumber_0 : decode cX7_ringNumber 0 = .ok (.aload_n 0, 1) := by decide +kernel
theorem dX7_ringNumber_1 : decode cX7_ringNumber 1 = .ok (.invokevirtual 72, 3) := by decide +kernel
theorem dX7_ringNumber_4 : decode cX7_ringNumber 4 = .ok (.istore_n 2, 1) := by decide +kernel
theorem dX7_ringNumber_5 : decode cX7_ringNumber 5 = .ok (.iconst 0, 1) := by decide +kernel
theorem dX7_ringNumber_6 : decode cX7_ringNumber 6 = .ok (.istore_n 3, 1) := by decide +kernel
theorem dX7_ringNumber_7 : decode cX7_ringNumber 7 = .ok (.iconst 0, 1) := by decide +kernel
theorem dX7_ringNumber_8 : decode cX7_ringNumber 8 = .ok (.istore 4, 2) := by decide +kernel
theorem dX7_ringNumber_10 : decode cX7_ringNumber 10 = .ok (.iload 4, 2) := by decide +kernel
theorem dX7_ringNumber_12 : decode cX7_ringNumber 12 = .ok (.aload_n 0, 1) := by decide +kernel
theorem dX7_ringNumber_13 : decode cX7_ringNumber 13 = .ok (.getfield 9, 3) := by decide +kernel
theorem dX7_ringNumber_16 : decode cX7_ringNumber 16 = .ok (.if_icmp .ge 33, 3) := by decide +kernel
theorem dX7_ringNumber_19 : decode cX7_ringNumber 19 = .ok (.iload_n 2, 1) := by decide +kernel
theorem dX7_ringNumber_20 : decode cX7_ringNumber 20 = .ok (.iload 4, 2) := by decide +kernel
theorem dX7_ringNumber_22 : decode cX7_ringNumber 22 = .ok (.invokestatic 62, 3) := by decide +kernel
theorem dX7_ringNumber_25 : decode cX7_ringNumber 25 = .ok (.ifCond .eq 18, 3) := by decide +kernel
theorem dX7_ringNumber_28 : decode cX7_ringNumber 28 = .ok (.iload_n 3, 1) := by decide +kernel
theorem dX7_ringNumber_29 : decode cX7_ringNumber 29 = .ok (.iload_n 1, 1) := by decide +kernel
theorem dX7_ringNumber_30 : decode cX7_ringNumber 30 = .ok (.if_icmp .ne 10, 3) := by decide +kernel
theorem dX7_ringNumber_33 : decode cX7_ringNumber 33 = .ok (.aload_n 0, 1) := by decide +kernel
theorem dX7_ringNumber_34 : decode cX7_ringNumber 34 = .ok (.iload 4, 2) := by decide +kernel
theorem dX7_ringNumber_36 : decode cX7_ringNumber 36 = .ok (.invokevirtual 69, 3) := by decide +kernel
theorem dX7_ringNumber_39 : decode cX7_ringNumber 39 = .ok (.ireturn, 1) := by decide +kernel
theorem dX7_ringNumber_40 : decode cX7_ringNumber 40 = .ok (.iinc 3 1, 3) := by decide +kernel
theorem dX7_ringNumber_43 : decode cX7_ringNumber 43 = .ok (.iinc 4 1, 3) := by decide +kernel
theorem dX7_ringNumber_46 : decode cX7_ringNumber 46 = .ok (.goto (-36), 3) := by decide +kernel
theorem dX7_ringNumber_49 : decode cX7_ringNumber 49 = .ok (.iconst (-1), 1) := by decide +kernel
theorem dX7_ringNumber_50 : decode cX7_ringNumber 50 = .ok (.ireturn, 1) := by decide +kernel
theorem dX7_isAnEnd_0 : decode cX7_isAnEnd 0 = .ok (.aload_n 0, 1) := by decide +kernel
theorem dX7_isAnEnd_1 : decode cX7_isAnEnd 1 = .ok (.getfield 22, 3) := by decide +kernel
theorem dX7_isAnEnd_4 : decode cX7_isAnEnd 4 = .ok (.iload_n 1, 1) := by decide +kernel
theorem dX7_isAnEnd_5 : decode cX7_isAnEnd 5 = .ok (.iaload, 1) := by decide +kernel
theorem dX7_isAnEnd_6 : decode cX7_isAnEnd 6 = .ok (.iconst (-1), 1) := by decide +kernel
theorem dX7_isAnEnd_7 : decode cX7_isAnEnd 7 = .ok (.if_icmp .eq 11, 3) := by decide +kernel
theorem dX7_isAnEnd_10 : decode cX7_isAnEnd 10 = .ok (.aload_n 0, 1) := by decide +kernel
theorem dX7_isAnEnd_11 : decode cX7_isAnEnd 11 = .ok (.iload_n 1, 1) := by decide +kernel
theorem dX7_isAnEnd_12 : decode cX7_isAnEnd 12 = .ok (.invokevirtual 69, 3) := by decide +kernel
theorem dX7_isAnEnd_15 : decode cX7_isAnEnd 15 = .ok (.ifCond .eq 7, 3) := by decide +kernel
theorem dX7_isAnEnd_18 : decode cX7_isAnEnd 18 = .ok (.iconst 1, 1) := by decide +kernel
theorem dX7_isAnEnd_19 : decode cX7_isAnEnd 19 = .ok (.goto 4, 3) := by decide +kernel
theorem dX7_isAnEnd_22 : decode cX7_isAnEnd 22 = .ok (.iconst 0, 1) := by decide +kernel
theorem dX7_isAnEnd_23 : decode cX7_isAnEnd 23 = .ok (.ireturn, 1) := by decide +kernel
theorem dX7_timesToEnd_0 : decode cX7_timesToEnd 0 = .ok (.iconst 0, 1) := by decide +kernel
theorem dX7_timesToEnd_1 : decode cX7_timesToEnd 1 = .ok (.istore_n 2, 1) := by decide +kernel
