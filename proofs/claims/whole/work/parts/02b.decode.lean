theorem dX7_timesToEnd_2 : decode cX7_timesToEnd 2 = .ok (.iload_n 1, 1) := by decide +kernel
theorem dX7_timesToEnd_3 : decode cX7_timesToEnd 3 = .ok (.istore_n 3, 1) := by decide +kernel
theorem dX7_timesToEnd_4 : decode cX7_timesToEnd 4 = .ok (.iload_n 2, 1) := by decide +kernel
theorem dX7_timesToEnd_5 : decode cX7_timesToEnd 5 = .ok (.bipush 8, 2) := by decide +kernel
theorem dX7_timesToEnd_7 : decode cX7_timesToEnd 7 = .ok (.if_icmp .ge 24, 3) := by decide +kernel
theorem dX7_timesToEnd_10 : decode cX7_timesToEnd 10 = .ok (.aload_n 0, 1) := by decide +kernel
theorem dX7_timesToEnd_11 : decode cX7_timesToEnd 11 = .ok (.iload_n 3, 1) := by decide +kernel
theorem dX7_timesToEnd_12 : decode cX7_timesToEnd 12 = .ok (.invokevirtual 81, 3) := by decide +kernel
theorem dX7_timesToEnd_15 : decode cX7_timesToEnd 15 = .ok (.ifCond .ne 16, 3) := by decide +kernel
theorem dX7_timesToEnd_18 : decode cX7_timesToEnd 18 = .ok (.aload_n 0, 1) := by decide +kernel
theorem dX7_timesToEnd_19 : decode cX7_timesToEnd 19 = .ok (.getfield 22, 3) := by decide +kernel
theorem dX7_timesToEnd_22 : decode cX7_timesToEnd 22 = .ok (.iload_n 3, 1) := by decide +kernel
theorem dX7_timesToEnd_23 : decode cX7_timesToEnd 23 = .ok (.iaload, 1) := by decide +kernel
theorem dX7_timesToEnd_24 : decode cX7_timesToEnd 24 = .ok (.istore_n 3, 1) := by decide +kernel
theorem dX7_timesToEnd_25 : decode cX7_timesToEnd 25 = .ok (.iinc 2 1, 3) := by decide +kernel
theorem dX7_timesToEnd_28 : decode cX7_timesToEnd 28 = .ok (.goto (-24), 3) := by decide +kernel
theorem dX7_timesToEnd_31 : decode cX7_timesToEnd 31 = .ok (.iload_n 2, 1) := by decide +kernel
theorem dX7_timesToEnd_32 : decode cX7_timesToEnd 32 = .ok (.ireturn, 1) := by decide +kernel
theorem dX7_endOf_0 : decode cX7_endOf 0 = .ok (.iload_n 1, 1) := by decide +kernel
theorem dX7_endOf_1 : decode cX7_endOf 1 = .ok (.istore_n 2, 1) := by decide +kernel
theorem dX7_endOf_2 : decode cX7_endOf 2 = .ok (.aload_n 0, 1) := by decide +kernel
theorem dX7_endOf_3 : decode cX7_endOf 3 = .ok (.iload_n 1, 1) := by decide +kernel
theorem dX7_endOf_4 : decode cX7_endOf 4 = .ok (.invokevirtual 85, 3) := by decide +kernel
theorem dX7_endOf_7 : decode cX7_endOf 7 = .ok (.istore_n 3, 1) := by decide +kernel
theorem dX7_endOf_8 : decode cX7_endOf 8 = .ok (.iload_n 3, 1) := by decide +kernel
theorem dX7_endOf_9 : decode cX7_endOf 9 = .ok (.ifCond .le 16, 3) := by decide +kernel
theorem dX7_endOf_12 : decode cX7_endOf 12 = .ok (.aload_n 0, 1) := by decide +kernel
theorem dX7_endOf_13 : decode cX7_endOf 13 = .ok (.getfield 22, 3) := by decide +kernel
theorem dX7_endOf_16 : decode cX7_endOf 16 = .ok (.iload_n 2, 1) := by decide +kernel
theorem dX7_endOf_17 : decode cX7_endOf 17 = .ok (.iaload, 1) := by decide +kernel
theorem dX7_endOf_18 : decode cX7_endOf 18 = .ok (.istore_n 2, 1) := by decide +kernel
theorem dX7_endOf_19 : decode cX7_endOf 19 = .ok (.iinc 3 (-1), 3) := by decide +kernel
theorem dX7_endOf_22 : decode cX7_endOf 22 = .ok (.goto (-14), 3) := by decide +kernel
theorem dX7_endOf_25 : decode cX7_endOf 25 = .ok (.aload_n 0, 1) := by decide +kernel
theorem dX7_endOf_26 : decode cX7_endOf 26 = .ok (.iload_n 2, 1) := by decide +kernel
theorem dX7_endOf_27 : decode cX7_endOf 27 = .ok (.invokevirtual 69, 3) := by decide +kernel
theorem dX7_endOf_30 : decode cX7_endOf 30 = .ok (.istore_n 3, 1) := by decide +kernel
theorem dX7_endOf_31 : decode cX7_endOf 31 = .ok (.iload_n 3, 1) := by decide +kernel
theorem dX7_endOf_32 : decode cX7_endOf 32 = .ok (.ifCond .ne 7, 3) := by decide +kernel
theorem dX7_endOf_35 : decode cX7_endOf 35 = .ok (.iload_n 2, 1) := by decide +kernel
theorem dX7_endOf_36 : decode cX7_endOf 36 = .ok (.goto 7, 3) := by decide +kernel
theorem dX7_endOf_39 : decode cX7_endOf 39 = .ok (.iload_n 3, 1) := by decide +kernel
theorem dX7_endOf_40 : decode cX7_endOf 40 = .ok (.invokestatic 88, 3) := by decide +kernel
theorem dX7_endOf_43 : decode cX7_endOf 43 = .ok (.ireturn, 1) := by decide +kernel
theorem dX7_heads_0 : decode cX7_heads 0 = .ok (.iconst 0, 1) := by decide +kernel
theorem dX7_heads_1 : decode cX7_heads 1 = .ok (.istore_n 1, 1) := by decide +kernel
theorem dX7_heads_2 : decode cX7_heads 2 = .ok (.iconst 0, 1) := by decide +kernel
theorem dX7_heads_3 : decode cX7_heads 3 = .ok (.istore_n 2, 1) := by decide +kernel
theorem dX7_heads_4 : decode cX7_heads 4 = .ok (.iload_n 2, 1) := by decide +kernel
theorem dX7_heads_5 : decode cX7_heads 5 = .ok (.aload_n 0, 1) := by decide +kernel
theorem dX7_heads_6 : decode cX7_heads 6 = .ok (.getfield 9, 3) := by decide +kernel
theorem dX7_heads_9 : decode cX7_heads 9 = .ok (.if_icmp .ge 39, 3) := by decide +kernel
theorem dX7_heads_12 : decode cX7_heads 12 = .ok (.aload_n 0, 1) := by decide +kernel
theorem dX7_heads_13 : decode cX7_heads 13 = .ok (.iconst 1, 1) := by decide +kernel
theorem dX7_heads_14 : decode cX7_heads 14 = .ok (.iload_n 2, 1) := by decide +kernel
theorem dX7_heads_15 : decode cX7_heads 15 = .ok (.ishl, 1) := by decide +kernel
theorem dX7_heads_16 : decode cX7_heads 16 = .ok (.invokevirtual 91, 3) := by decide +kernel
theorem dX7_heads_19 : decode cX7_heads 19 = .ok (.iconst 1, 1) := by decide +kernel
theorem dX7_heads_20 : decode cX7_heads 20 = .ok (.iload_n 2, 1) := by decide +kernel
theorem dX7_heads_21 : decode cX7_heads 21 = .ok (.ishl, 1) := by decide +kernel
theorem dX7_heads_22 : decode cX7_heads 22 = .ok (.iconst (-1), 1) := by decide +kernel
theorem dX7_heads_23 : decode cX7_heads 23 = .ok (.ixor, 1) := by decide +kernel
theorem dX7_heads_24 : decode cX7_heads 24 = .ok (.iand, 1) := by decide +kernel
theorem dX7_heads_25 : decode cX7_heads 25 = .ok (.istore_n 3, 1) := by decide +kernel
theorem dX7_heads_26 : decode cX7_heads 26 = .ok (.iload_n 3, 1) := by decide +kernel
theorem dX7_heads_27 : decode cX7_heads 27 = .ok (.aload_n 0, 1) := by decide +kernel
theorem dX7_heads_28 : decode cX7_heads 28 = .ok (.iload_n 2, 1) := by decide +kernel
theorem dX7_heads_29 : decode cX7_heads 29 = .ok (.invokevirtual 94, 3) := by decide +kernel
theorem dX7_heads_32 : decode cX7_heads 32 = .ok (.iand, 1) := by decide +kernel
theorem dX7_heads_33 : decode cX7_heads 33 = .ok (.ifCond .eq 9, 3) := by decide +kernel
theorem dX7_heads_36 : decode cX7_heads 36 = .ok (.iload_n 1, 1) := by decide +kernel
theorem dX7_heads_37 : decode cX7_heads 37 = .ok (.iconst 1, 1) := by decide +kernel
theorem dX7_heads_38 : decode cX7_heads 38 = .ok (.iload_n 2, 1) := by decide +kernel
theorem dX7_heads_39 : decode cX7_heads 39 = .ok (.ishl, 1) := by decide +kernel
theorem dX7_heads_40 : decode cX7_heads 40 = .ok (.ior, 1) := by decide +kernel
theorem dX7_heads_41 : decode cX7_heads 41 = .ok (.istore_n 1, 1) := by decide +kernel
theorem dX7_heads_42 : decode cX7_heads 42 = .ok (.iinc 2 1, 3) := by decide +kernel
theorem dX7_heads_45 : decode cX7_heads 45 = .ok (.goto (-41), 3) := by decide +kernel
theorem dX7_heads_48 : decode cX7_heads 48 = .ok (.iload_n 1, 1) := by decide +kernel
theorem dX7_heads_49 : decode cX7_heads 49 = .ok (.ireturn, 1) := by decide +kernel
theorem dX8_init_0 : decode cX8_init 0 = .ok (.aload_n 0, 1) := by decide +kernel
theorem dX8_init_1 : decode cX8_init 1 = .ok (.invokespecial 3, 3) := by decide +kernel
theorem dX8_init_4 : decode cX8_init 4 = .ok (.aload_n 0, 1) := by decide +kernel
theorem dX8_init_5 : decode cX8_init 5 = .ok (.sipush 240, 3) := by decide +kernel
theorem dX8_init_8 : decode cX8_init 8 = .ok (.newarray .int, 2) := by decide +kernel
theorem dX8_init_10 : decode cX8_init 10 = .ok (.putfield 9, 3) := by decide +kernel
theorem dX8_init_13 : decode cX8_init 13 = .ok (.aload_n 0, 1) := by decide +kernel
theorem dX8_init_14 : decode cX8_init 14 = .ok (.iconst 0, 1) := by decide +kernel
theorem dX8_init_15 : decode cX8_init 15 = .ok (.putfield 15, 3) := by decide +kernel
theorem dX8_init_18 : decode cX8_init 18 = .ok (.return_, 1) := by decide +kernel
theorem dX8_add_0 : decode cX8_add 0 = .ok (.aload_n 0, 1) := by decide +kernel
theorem dX8_add_1 : decode cX8_add 1 = .ok (.getfield 15, 3) := by decide +kernel
theorem dX8_add_4 : decode cX8_add 4 = .ok (.sipush 240, 3) := by decide +kernel
theorem dX8_add_7 : decode cX8_add 7 = .ok (.if_icmp .ge 23, 3) := by decide +kernel
theorem dX8_add_10 : decode cX8_add 10 = .ok (.aload_n 0, 1) := by decide +kernel
theorem dX8_add_11 : decode cX8_add 11 = .ok (.getfield 9, 3) := by decide +kernel
theorem dX8_add_14 : decode cX8_add 14 = .ok (.aload_n 0, 1) := by decide +kernel
theorem dX8_add_15 : decode cX8_add 15 = .ok (.getfield 15, 3) := by decide +kernel
theorem dX8_add_18 : decode cX8_add 18 = .ok (.iload_n 1, 1) := by decide +kernel
theorem dX8_add_19 : decode cX8_add 19 = .ok (.iastore, 1) := by decide +kernel
theorem dX8_add_20 : decode cX8_add 20 = .ok (.aload_n 0, 1) := by decide +kernel
theorem dX8_add_21 : decode cX8_add 21 = .ok (.dup, 1) := by decide +kernel
theorem dX8_add_22 : decode cX8_add 22 = .ok (.getfield 15, 3) := by decide +kernel
theorem dX8_add_25 : decode cX8_add 25 = .ok (.iconst 1, 1) := by decide +kernel
theorem dX8_add_26 : decode cX8_add 26 = .ok (.iadd, 1) := by decide +kernel
theorem dX8_add_27 : decode cX8_add 27 = .ok (.putfield 15, 3) := by decide +kernel
theorem dX8_add_30 : decode cX8_add 30 = .ok (.return_, 1) := by decide +kernel
theorem dX8_at_0 : decode cX8_at 0 = .ok (.iload_n 1, 1) := by decide +kernel
theorem dX8_at_1 : decode cX8_at 1 = .ok (.ifCond .lt 20, 3) := by decide +kernel
theorem dX8_at_4 : decode cX8_at 4 = .ok (.iload_n 1, 1) := by decide +kernel
theorem dX8_at_5 : decode cX8_at 5 = .ok (.aload_n 0, 1) := by decide +kernel
theorem dX8_at_6 : decode cX8_at 6 = .ok (.getfield 15, 3) := by decide +kernel
theorem dX8_at_9 : decode cX8_at 9 = .ok (.if_icmp .ge 12, 3) := by decide +kernel
theorem dX8_at_12 : decode cX8_at 12 = .ok (.aload_n 0, 1) := by decide +kernel
theorem dX8_at_13 : decode cX8_at 13 = .ok (.getfield 9, 3) := by decide +kernel
theorem dX8_at_16 : decode cX8_at 16 = .ok (.iload_n 1, 1) := by decide +kernel
theorem dX8_at_17 : decode cX8_at 17 = .ok (.iaload, 1) := by decide +kernel
theorem dX8_at_18 : decode cX8_at 18 = .ok (.goto 4, 3) := by decide +kernel
theorem dX8_at_21 : decode cX8_at 21 = .ok (.iconst (-1), 1) := by decide +kernel
theorem dX8_at_22 : decode cX8_at 22 = .ok (.ireturn, 1) := by decide +kernel
theorem dX9_init_0 : decode cX9_init 0 = .ok (.aload_n 0, 1) := by decide +kernel
theorem dX9_init_1 : decode cX9_init 1 = .ok (.invokespecial 1, 3) := by decide +kernel
theorem dX9_init_4 : decode cX9_init 4 = .ok (.aload_n 0, 1) := by decide +kernel
theorem dX9_init_5 : decode cX9_init 5 = .ok (.new 7, 3) := by decide +kernel
theorem dX9_init_8 : decode cX9_init 8 = .ok (.dup, 1) := by decide +kernel
theorem dX9_init_9 : decode cX9_init 9 = .ok (.invokespecial 9, 3) := by decide +kernel
theorem dX9_init_12 : decode cX9_init 12 = .ok (.putfield 10, 3) := by decide +kernel
theorem dX9_init_15 : decode cX9_init 15 = .ok (.aload_n 0, 1) := by decide +kernel
theorem dX9_init_16 : decode cX9_init 16 = .ok (.new 16, 3) := by decide +kernel
theorem dX9_init_19 : decode cX9_init 19 = .ok (.dup, 1) := by decide +kernel
theorem dX9_init_20 : decode cX9_init 20 = .ok (.aload_n 0, 1) := by decide +kernel
theorem dX9_init_21 : decode cX9_init 21 = .ok (.getfield 10, 3) := by decide +kernel
theorem dX9_init_24 : decode cX9_init 24 = .ok (.invokespecial 18, 3) := by decide +kernel
theorem dX9_init_27 : decode cX9_init 27 = .ok (.putfield 21, 3) := by decide +kernel
theorem dX9_init_30 : decode cX9_init 30 = .ok (.aload_n 0, 1) := by decide +kernel
theorem dX9_init_31 : decode cX9_init 31 = .ok (.new 25, 3) := by decide +kernel
theorem dX9_init_34 : decode cX9_init 34 = .ok (.dup, 1) := by decide +kernel
theorem dX9_init_35 : decode cX9_init 35 = .ok (.invokespecial 27, 3) := by decide +kernel
theorem dX9_init_38 : decode cX9_init 38 = .ok (.putfield 28, 3) := by decide +kernel
theorem dX9_init_41 : decode cX9_init 41 = .ok (.aload_n 0, 1) := by decide +kernel
theorem dX9_init_42 : decode cX9_init 42 = .ok (.new 25, 3) := by decide +kernel
theorem dX9_init_45 : decode cX9_init 45 = .ok (.dup, 1) := by decide +kernel
theorem dX9_init_46 : decode cX9_init 46 = .ok (.invokespecial 27, 3) := by decide +kernel
theorem dX9_init_49 : decode cX9_init 49 = .ok (.putfield 32, 3) := by decide +kernel
theorem dX9_init_52 : decode cX9_init 52 = .ok (.aload_n 0, 1) := by decide +kernel
theorem dX9_init_53 : decode cX9_init 53 = .ok (.new 35, 3) := by decide +kernel
theorem dX9_init_56 : decode cX9_init 56 = .ok (.dup, 1) := by decide +kernel
theorem dX9_init_57 : decode cX9_init 57 = .ok (.invokespecial 37, 3) := by decide +kernel
theorem dX9_init_60 : decode cX9_init 60 = .ok (.putfield 38, 3) := by decide +kernel
theorem dX9_init_63 : decode cX9_init 63 = .ok (.aload_n 0, 1) := by decide +kernel
theorem dX9_init_64 : decode cX9_init 64 = .ok (.new 42, 3) := by decide +kernel
theorem dX9_init_67 : decode cX9_init 67 = .ok (.dup, 1) := by decide +kernel
theorem dX9_init_68 : decode cX9_init 68 = .ok (.invokespecial 44, 3) := by decide +kernel
theorem dX9_init_71 : decode cX9_init 71 = .ok (.putfield 45, 3) := by decide +kernel
theorem dX9_init_74 : decode cX9_init 74 = .ok (.aload_n 0, 1) := by decide +kernel
theorem dX9_init_75 : decode cX9_init 75 = .ok (.new 49, 3) := by decide +kernel
theorem dX9_init_78 : decode cX9_init 78 = .ok (.dup, 1) := by decide +kernel
theorem dX9_init_79 : decode cX9_init 79 = .ok (.bipush 6, 2) := by decide +kernel
theorem dX9_init_81 : decode cX9_init 81 = .ok (.invokespecial 51, 3) := by decide +kernel
theorem dX9_init_84 : decode cX9_init 84 = .ok (.putfield 54, 3) := by decide +kernel
theorem dX9_init_87 : decode cX9_init 87 = .ok (.aload_n 0, 1) := by decide +kernel
theorem dX9_init_88 : decode cX9_init 88 = .ok (.new 49, 3) := by decide +kernel
theorem dX9_init_91 : decode cX9_init 91 = .ok (.dup, 1) := by decide +kernel
theorem dX9_init_92 : decode cX9_init 92 = .ok (.bipush 15, 2) := by decide +kernel
theorem dX9_init_94 : decode cX9_init 94 = .ok (.invokespecial 51, 3) := by decide +kernel
theorem dX9_init_97 : decode cX9_init 97 = .ok (.putfield 58, 3) := by decide +kernel
theorem dX9_init_100 : decode cX9_init 100 = .ok (.aload_n 0, 1) := by decide +kernel
theorem dX9_init_101 : decode cX9_init 101 = .ok (.new 61, 3) := by decide +kernel
theorem dX9_init_104 : decode cX9_init 104 = .ok (.dup, 1) := by decide +kernel
theorem dX9_init_105 : decode cX9_init 105 = .ok (.invokespecial 63, 3) := by decide +kernel
theorem dX9_init_108 : decode cX9_init 108 = .ok (.putfield 64, 3) := by decide +kernel
theorem dX9_init_111 : decode cX9_init 111 = .ok (.aload_n 0, 1) := by decide +kernel
theorem dX9_init_112 : decode cX9_init 112 = .ok (.new 68, 3) := by decide +kernel
theorem dX9_init_115 : decode cX9_init 115 = .ok (.dup, 1) := by decide +kernel
theorem dX9_init_116 : decode cX9_init 116 = .ok (.invokespecial 70, 3) := by decide +kernel
theorem dX9_init_119 : decode cX9_init 119 = .ok (.putfield 71, 3) := by decide +kernel
theorem dX9_init_122 : decode cX9_init 122 = .ok (.aload_n 0, 1) := by decide +kernel
theorem dX9_init_123 : decode cX9_init 123 = .ok (.iconst 0, 1) := by decide +kernel
theorem dX9_init_124 : decode cX9_init 124 = .ok (.putfield 75, 3) := by decide +kernel
theorem dX9_init_127 : decode cX9_init 127 = .ok (.aload_n 0, 1) := by decide +kernel
theorem dX9_init_128 : decode cX9_init 128 = .ok (.iconst 0, 1) := by decide +kernel
theorem dX9_init_129 : decode cX9_init 129 = .ok (.putfield 79, 3) := by decide +kernel
theorem dX9_init_132 : decode cX9_init 132 = .ok (.aload_n 0, 1) := by decide +kernel
theorem dX9_init_133 : decode cX9_init 133 = .ok (.iconst (-1), 1) := by decide +kernel
theorem dX9_init_134 : decode cX9_init 134 = .ok (.putfield 82, 3) := by decide +kernel
theorem dX9_init_137 : decode cX9_init 137 = .ok (.return_, 1) := by decide +kernel
theorem dX9_feed_0 : decode cX9_feed 0 = .ok (.iload_n 1, 1) := by decide +kernel
theorem dX9_feed_1 : decode cX9_feed 1 = .ok (.ifCond .lt 10, 3) := by decide +kernel
theorem dX9_feed_4 : decode cX9_feed 4 = .ok (.iload_n 1, 1) := by decide +kernel
theorem dX9_feed_5 : decode cX9_feed 5 = .ok (.sipush 255, 3) := by decide +kernel
theorem dX9_feed_8 : decode cX9_feed 8 = .ok (.if_icmp .le 6, 3) := by decide +kernel
theorem dX9_feed_11 : decode cX9_feed 11 = .ok (.ldc 85, 2) := by decide +kernel
theorem dX9_feed_13 : decode cX9_feed 13 = .ok (.ireturn, 1) := by decide +kernel
theorem dX9_feed_14 : decode cX9_feed 14 = .ok (.aload_n 0, 1) := by decide +kernel
theorem dX9_feed_15 : decode cX9_feed 15 = .ok (.getfield 10, 3) := by decide +kernel
theorem dX9_feed_18 : decode cX9_feed 18 = .ok (.getfield 86, 3) := by decide +kernel
theorem dX9_feed_21 : decode cX9_feed 21 = .ok (.sipush 240, 3) := by decide +kernel
theorem dX9_feed_24 : decode cX9_feed 24 = .ok (.if_icmp .lt 6, 3) := by decide +kernel
theorem dX9_feed_27 : decode cX9_feed 27 = .ok (.ldc 89, 2) := by decide +kernel
theorem dX9_feed_29 : decode cX9_feed 29 = .ok (.ireturn, 1) := by decide +kernel
theorem dX9_feed_30 : decode cX9_feed 30 = .ok (.aload_n 0, 1) := by decide +kernel
theorem dX9_feed_31 : decode cX9_feed 31 = .ok (.getfield 10, 3) := by decide +kernel
theorem dX9_feed_34 : decode cX9_feed 34 = .ok (.iload_n 1, 1) := by decide +kernel
theorem dX9_feed_35 : decode cX9_feed 35 = .ok (.invokevirtual 90, 3) := by decide +kernel
theorem dX9_feed_38 : decode cX9_feed 38 = .ok (.aload_n 0, 1) := by decide +kernel
theorem dX9_feed_39 : decode cX9_feed 39 = .ok (.getfield 10, 3) := by decide +kernel
theorem dX9_feed_42 : decode cX9_feed 42 = .ok (.getfield 86, 3) := by decide +kernel
theorem dX9_feed_45 : decode cX9_feed 45 = .ok (.ireturn, 1) := by decide +kernel
theorem dX9_town_0 : decode cX9_town 0 = .ok (.aload_n 0, 1) := by decide +kernel
theorem dX9_town_1 : decode cX9_town 1 = .ok (.getfield 21, 3) := by decide +kernel
theorem dX9_town_4 : decode cX9_town 4 = .ok (.invokevirtual 93, 3) := by decide +kernel
theorem dX9_town_7 : decode cX9_town 7 = .ok (.aload_n 0, 1) := by decide +kernel
theorem dX9_town_8 : decode cX9_town 8 = .ok (.getfield 10, 3) := by decide +kernel
theorem dX9_town_11 : decode cX9_town 11 = .ok (.iconst 0, 1) := by decide +kernel
theorem dX9_town_12 : decode cX9_town 12 = .ok (.putfield 86, 3) := by decide +kernel
theorem dX9_town_15 : decode cX9_town 15 = .ok (.aload_n 0, 1) := by decide +kernel
theorem dX9_town_16 : decode cX9_town 16 = .ok (.aload_n 0, 1) := by decide +kernel
theorem dX9_town_17 : decode cX9_town 17 = .ok (.getfield 21, 3) := by decide +kernel
theorem dX9_town_20 : decode cX9_town 20 = .ok (.getfield 96, 3) := by decide +kernel
theorem dX9_town_23 : decode cX9_town 23 = .ok (.putfield 82, 3) := by decide +kernel
theorem dX9_town_26 : decode cX9_town 26 = .ok (.aload_n 0, 1) := by decide +kernel
theorem dX9_town_27 : decode cX9_town 27 = .ok (.getfield 21, 3) := by decide +kernel
theorem dX9_town_30 : decode cX9_town 30 = .ok (.getfield 97, 3) := by decide +kernel
theorem dX9_town_33 : decode cX9_town 33 = .ok (.ifCond .eq 14, 3) := by decide +kernel
theorem dX9_town_36 : decode cX9_town 36 = .ok (.bipush (-10), 2) := by decide +kernel
theorem dX9_town_38 : decode cX9_town 38 = .ok (.aload_n 0, 1) := by decide +kernel
theorem dX9_town_39 : decode cX9_town 39 = .ok (.getfield 21, 3) := by decide +kernel
theorem dX9_town_42 : decode cX9_town 42 = .ok (.getfield 97, 3) := by decide +kernel
theorem dX9_town_45 : decode cX9_town 45 = .ok (.isub, 1) := by decide +kernel
theorem dX9_town_46 : decode cX9_town 46 = .ok (.ireturn, 1) := by decide +kernel
theorem dX9_town_47 : decode cX9_town 47 = .ok (.aload_n 0, 1) := by decide +kernel
theorem dX9_town_48 : decode cX9_town 48 = .ok (.aload_n 0, 1) := by decide +kernel
theorem dX9_town_49 : decode cX9_town 49 = .ok (.getfield 21, 3) := by decide +kernel
theorem dX9_town_52 : decode cX9_town 52 = .ok (.getfield 100, 3) := by decide +kernel
theorem dX9_town_55 : decode cX9_town 55 = .ok (.putfield 75, 3) := by decide +kernel
theorem dX9_town_58 : decode cX9_town 58 = .ok (.aload_n 0, 1) := by decide +kernel
theorem dX9_town_59 : decode cX9_town 59 = .ok (.aload_n 0, 1) := by decide +kernel
theorem dX9_town_60 : decode cX9_town 60 = .ok (.getfield 21, 3) := by decide +kernel
theorem dX9_town_63 : decode cX9_town 63 = .ok (.getfield 101, 3) := by decide +kernel
theorem dX9_town_66 : decode cX9_town 66 = .ok (.putfield 79, 3) := by decide +kernel
theorem dX9_town_69 : decode cX9_town 69 = .ok (.aload_n 0, 1) := by decide +kernel
theorem dX9_town_70 : decode cX9_town 70 = .ok (.getfield 28, 3) := by decide +kernel
theorem dX9_town_73 : decode cX9_town 73 = .ok (.aload_n 0, 1) := by decide +kernel
theorem dX9_town_74 : decode cX9_town 74 = .ok (.getfield 21, 3) := by decide +kernel
theorem dX9_town_77 : decode cX9_town 77 = .ok (.getfield 102, 3) := by decide +kernel
theorem dX9_town_80 : decode cX9_town 80 = .ok (.invokevirtual 105, 3) := by decide +kernel
theorem dX9_town_83 : decode cX9_town 83 = .ok (.aload_n 0, 1) := by decide +kernel
theorem dX9_town_84 : decode cX9_town 84 = .ok (.getfield 54, 3) := by decide +kernel
theorem dX9_town_87 : decode cX9_town 87 = .ok (.iconst 0, 1) := by decide +kernel
theorem dX9_town_88 : decode cX9_town 88 = .ok (.putfield 109, 3) := by decide +kernel
theorem dX9_town_91 : decode cX9_town 91 = .ok (.aload_n 0, 1) := by decide +kernel
theorem dX9_town_92 : decode cX9_town 92 = .ok (.getfield 58, 3) := by decide +kernel
theorem dX9_town_95 : decode cX9_town 95 = .ok (.iconst 0, 1) := by decide +kernel
theorem dX9_town_96 : decode cX9_town 96 = .ok (.putfield 109, 3) := by decide +kernel
theorem dX9_town_99 : decode cX9_town 99 = .ok (.aload_n 0, 1) := by decide +kernel
theorem dX9_town_100 : decode cX9_town 100 = .ok (.getfield 45, 3) := by decide +kernel
theorem dX9_town_103 : decode cX9_town 103 = .ok (.invokevirtual 112, 3) := by decide +kernel
theorem dX9_town_106 : decode cX9_town 106 = .ok (.aload_n 0, 1) := by decide +kernel
theorem dX9_town_107 : decode cX9_town 107 = .ok (.getfield 38, 3) := by decide +kernel
theorem dX9_town_110 : decode cX9_town 110 = .ok (.invokevirtual 115, 3) := by decide +kernel
theorem dX9_town_113 : decode cX9_town 113 = .ok (.aload_n 0, 1) := by decide +kernel
theorem dX9_town_114 : decode cX9_town 114 = .ok (.getfield 28, 3) := by decide +kernel
theorem dX9_town_117 : decode cX9_town 117 = .ok (.getfield 116, 3) := by decide +kernel
theorem dX9_town_120 : decode cX9_town 120 = .ok (.ireturn, 1) := by decide +kernel
theorem dX9_fault_0 : decode cX9_fault 0 = .ok (.aload_n 0, 1) := by decide +kernel
theorem dX9_fault_1 : decode cX9_fault 1 = .ok (.getfield 82, 3) := by decide +kernel
theorem dX9_fault_4 : decode cX9_fault 4 = .ok (.ireturn, 1) := by decide +kernel
theorem dX9_told_0 : decode cX9_told 0 = .ok (.iload_n 1, 1) := by decide +kernel
theorem dX9_told_1 : decode cX9_told 1 = .ok (.tableswitch 153 0 11 #[63, 68, 73, 81, 89, 97, 105, 113, 121, 129, 137, 145], 63) := by decide +kernel
theorem dX9_told_64 : decode cX9_told 64 = .ok (.aload_n 0, 1) := by decide +kernel
theorem dX9_told_65 : decode cX9_told 65 = .ok (.getfield 75, 3) := by decide +kernel
theorem dX9_told_68 : decode cX9_told 68 = .ok (.ireturn, 1) := by decide +kernel
theorem dX9_told_69 : decode cX9_told 69 = .ok (.aload_n 0, 1) := by decide +kernel
theorem dX9_told_70 : decode cX9_told 70 = .ok (.getfield 79, 3) := by decide +kernel
theorem dX9_told_73 : decode cX9_told 73 = .ok (.ireturn, 1) := by decide +kernel
theorem dX9_told_74 : decode cX9_told 74 = .ok (.aload_n 0, 1) := by decide +kernel
theorem dX9_told_75 : decode cX9_told 75 = .ok (.getfield 28, 3) := by decide +kernel
theorem dX9_told_78 : decode cX9_told 78 = .ok (.getfield 116, 3) := by decide +kernel
theorem dX9_told_81 : decode cX9_told 81 = .ok (.ireturn, 1) := by decide +kernel
theorem dX9_told_82 : decode cX9_told 82 = .ok (.aload_n 0, 1) := by decide +kernel
theorem dX9_told_83 : decode cX9_told 83 = .ok (.getfield 10, 3) := by decide +kernel
theorem dX9_told_86 : decode cX9_told 86 = .ok (.getfield 86, 3) := by decide +kernel
theorem dX9_told_89 : decode cX9_told 89 = .ok (.ireturn, 1) := by decide +kernel
theorem dX9_told_90 : decode cX9_told 90 = .ok (.aload_n 0, 1) := by decide +kernel
theorem dX9_told_91 : decode cX9_told 91 = .ok (.getfield 28, 3) := by decide +kernel
theorem dX9_told_94 : decode cX9_told 94 = .ok (.getfield 119, 3) := by decide +kernel
theorem dX9_told_97 : decode cX9_told 97 = .ok (.ireturn, 1) := by decide +kernel
theorem dX9_told_98 : decode cX9_told 98 = .ok (.aload_n 0, 1) := by decide +kernel
theorem dX9_told_99 : decode cX9_told 99 = .ok (.getfield 28, 3) := by decide +kernel
theorem dX9_told_102 : decode cX9_told 102 = .ok (.invokevirtual 122, 3) := by decide +kernel
theorem dX9_told_105 : decode cX9_told 105 = .ok (.ireturn, 1) := by decide +kernel
theorem dX9_told_106 : decode cX9_told 106 = .ok (.aload_n 0, 1) := by decide +kernel
theorem dX9_told_107 : decode cX9_told 107 = .ok (.getfield 28, 3) := by decide +kernel
theorem dX9_told_110 : decode cX9_told 110 = .ok (.invokevirtual 126, 3) := by decide +kernel
theorem dX9_told_113 : decode cX9_told 113 = .ok (.ireturn, 1) := by decide +kernel
theorem dX9_told_114 : decode cX9_told 114 = .ok (.aload_n 0, 1) := by decide +kernel
theorem dX9_told_115 : decode cX9_told 115 = .ok (.getfield 28, 3) := by decide +kernel
theorem dX9_told_118 : decode cX9_told 118 = .ok (.invokevirtual 129, 3) := by decide +kernel
theorem dX9_told_121 : decode cX9_told 121 = .ok (.ireturn, 1) := by decide +kernel
theorem dX9_told_122 : decode cX9_told 122 = .ok (.aload_n 0, 1) := by decide +kernel
theorem dX9_told_123 : decode cX9_told 123 = .ok (.getfield 28, 3) := by decide +kernel
theorem dX9_told_126 : decode cX9_told 126 = .ok (.invokevirtual 132, 3) := by decide +kernel
theorem dX9_told_129 : decode cX9_told 129 = .ok (.ireturn, 1) := by decide +kernel
theorem dX9_told_130 : decode cX9_told 130 = .ok (.aload_n 0, 1) := by decide +kernel
theorem dX9_told_131 : decode cX9_told 131 = .ok (.getfield 54, 3) := by decide +kernel
theorem dX9_told_134 : decode cX9_told 134 = .ok (.getfield 109, 3) := by decide +kernel
theorem dX9_told_137 : decode cX9_told 137 = .ok (.ireturn, 1) := by decide +kernel
theorem dX9_told_138 : decode cX9_told 138 = .ok (.aload_n 0, 1) := by decide +kernel
theorem dX9_told_139 : decode cX9_told 139 = .ok (.getfield 58, 3) := by decide +kernel
theorem dX9_told_142 : decode cX9_told 142 = .ok (.getfield 109, 3) := by decide +kernel
theorem dX9_told_145 : decode cX9_told 145 = .ok (.ireturn, 1) := by decide +kernel
theorem dX9_told_146 : decode cX9_told 146 = .ok (.aload_n 0, 1) := by decide +kernel
theorem dX9_told_147 : decode cX9_told 147 = .ok (.getfield 38, 3) := by decide +kernel
theorem dX9_told_150 : decode cX9_told 150 = .ok (.getfield 135, 3) := by decide +kernel
theorem dX9_told_153 : decode cX9_told 153 = .ok (.ireturn, 1) := by decide +kernel
theorem dX9_told_154 : decode cX9_told 154 = .ok (.ldc 85, 2) := by decide +kernel
theorem dX9_told_156 : decode cX9_told 156 = .ok (.ireturn, 1) := by decide +kernel
theorem dX9_car_0 : decode cX9_car 0 = .ok (.aload_n 0, 1) := by decide +kernel
theorem dX9_car_1 : decode cX9_car 1 = .ok (.iload_n 1, 1) := by decide +kernel
theorem dX9_car_2 : decode cX9_car 2 = .ok (.invokevirtual 136, 3) := by decide +kernel
theorem dX9_car_5 : decode cX9_car 5 = .ok (.ifCond .ne 6, 3) := by decide +kernel
theorem dX9_car_8 : decode cX9_car 8 = .ok (.ldc 140, 2) := by decide +kernel
theorem dX9_car_10 : decode cX9_car 10 = .ok (.ireturn, 1) := by decide +kernel
theorem dX9_car_11 : decode cX9_car 11 = .ok (.iload_n 2, 1) := by decide +kernel
theorem dX9_car_12 : decode cX9_car 12 = .ok (.tableswitch 86 0 4 #[36, 46, 56, 66, 76], 36) := by decide +kernel
theorem dX9_car_48 : decode cX9_car 48 = .ok (.aload_n 0, 1) := by decide +kernel
theorem dX9_car_49 : decode cX9_car 49 = .ok (.getfield 28, 3) := by decide +kernel
theorem dX9_car_52 : decode cX9_car 52 = .ok (.getfield 141, 3) := by decide +kernel
theorem dX9_car_55 : decode cX9_car 55 = .ok (.iload_n 1, 1) := by decide +kernel
theorem dX9_car_56 : decode cX9_car 56 = .ok (.iaload, 1) := by decide +kernel
theorem dX9_car_57 : decode cX9_car 57 = .ok (.ireturn, 1) := by decide +kernel
theorem dX9_car_58 : decode cX9_car 58 = .ok (.aload_n 0, 1) := by decide +kernel
theorem dX9_car_59 : decode cX9_car 59 = .ok (.getfield 28, 3) := by decide +kernel
theorem dX9_car_62 : decode cX9_car 62 = .ok (.getfield 145, 3) := by decide +kernel
theorem dX9_car_65 : decode cX9_car 65 = .ok (.iload_n 1, 1) := by decide +kernel
theorem dX9_car_66 : decode cX9_car 66 = .ok (.iaload, 1) := by decide +kernel
theorem dX9_car_67 : decode cX9_car 67 = .ok (.ireturn, 1) := by decide +kernel
theorem dX9_car_68 : decode cX9_car 68 = .ok (.aload_n 0, 1) := by decide +kernel
theorem dX9_car_69 : decode cX9_car 69 = .ok (.getfield 28, 3) := by decide +kernel
theorem dX9_car_72 : decode cX9_car 72 = .ok (.getfield 148, 3) := by decide +kernel
theorem dX9_car_75 : decode cX9_car 75 = .ok (.iload_n 1, 1) := by decide +kernel
theorem dX9_car_76 : decode cX9_car 76 = .ok (.iaload, 1) := by decide +kernel
theorem dX9_car_77 : decode cX9_car 77 = .ok (.ireturn, 1) := by decide +kernel
theorem dX9_car_78 : decode cX9_car 78 = .ok (.aload_n 0, 1) := by decide +kernel
theorem dX9_car_79 : decode cX9_car 79 = .ok (.getfield 28, 3) := by decide +kernel
theorem dX9_car_82 : decode cX9_car 82 = .ok (.getfield 151, 3) := by decide +kernel
theorem dX9_car_85 : decode cX9_car 85 = .ok (.iload_n 1, 1) := by decide +kernel
theorem dX9_car_86 : decode cX9_car 86 = .ok (.iaload, 1) := by decide +kernel
theorem dX9_car_87 : decode cX9_car 87 = .ok (.ireturn, 1) := by decide +kernel
theorem dX9_car_88 : decode cX9_car 88 = .ok (.aload_n 0, 1) := by decide +kernel
theorem dX9_car_89 : decode cX9_car 89 = .ok (.getfield 28, 3) := by decide +kernel
theorem dX9_car_92 : decode cX9_car 92 = .ok (.getfield 154, 3) := by decide +kernel
theorem dX9_car_95 : decode cX9_car 95 = .ok (.iload_n 1, 1) := by decide +kernel
theorem dX9_car_96 : decode cX9_car 96 = .ok (.iaload, 1) := by decide +kernel
theorem dX9_car_97 : decode cX9_car 97 = .ok (.ireturn, 1) := by decide +kernel
theorem dX9_car_98 : decode cX9_car 98 = .ok (.ldc 85, 2) := by decide +kernel
theorem dX9_car_100 : decode cX9_car 100 = .ok (.ireturn, 1) := by decide +kernel
theorem dX9_step_0 : decode cX9_step 0 = .ok (.aload_n 0, 1) := by decide +kernel
theorem dX9_step_1 : decode cX9_step 1 = .ok (.iload_n 1, 1) := by decide +kernel
theorem dX9_step_2 : decode cX9_step 2 = .ok (.invokevirtual 157, 3) := by decide +kernel
theorem dX9_step_5 : decode cX9_step 5 = .ok (.istore_n 2, 1) := by decide +kernel
theorem dX9_step_6 : decode cX9_step 6 = .ok (.iload_n 2, 1) := by decide +kernel
theorem dX9_step_7 : decode cX9_step 7 = .ok (.ifCond .eq 5, 3) := by decide +kernel
theorem dX9_step_10 : decode cX9_step 10 = .ok (.iload_n 2, 1) := by decide +kernel
theorem dX9_step_11 : decode cX9_step 11 = .ok (.ireturn, 1) := by decide +kernel
theorem dX9_step_12 : decode cX9_step 12 = .ok (.aload_n 0, 1) := by decide +kernel
theorem dX9_step_13 : decode cX9_step 13 = .ok (.getfield 38, 3) := by decide +kernel
theorem dX9_step_16 : decode cX9_step 16 = .ok (.aload_n 0, 1) := by decide +kernel
theorem dX9_step_17 : decode cX9_step 17 = .ok (.getfield 28, 3) := by decide +kernel
theorem dX9_step_20 : decode cX9_step 20 = .ok (.invokevirtual 161, 3) := by decide +kernel
theorem dX9_step_23 : decode cX9_step 23 = .ok (.aload_n 0, 1) := by decide +kernel
theorem dX9_step_24 : decode cX9_step 24 = .ok (.getfield 28, 3) := by decide +kernel
theorem dX9_step_27 : decode cX9_step 27 = .ok (.iload_n 1, 1) := by decide +kernel
theorem dX9_step_28 : decode cX9_step 28 = .ok (.invokevirtual 164, 3) := by decide +kernel
theorem dX9_step_31 : decode cX9_step 31 = .ok (.aload_n 0, 1) := by decide +kernel
theorem dX9_step_32 : decode cX9_step 32 = .ok (.getfield 28, 3) := by decide +kernel
theorem dX9_step_35 : decode cX9_step 35 = .ok (.getfield 119, 3) := by decide +kernel
theorem dX9_step_38 : decode cX9_step 38 = .ok (.ireturn, 1) := by decide +kernel
theorem dX9_follow_0 : decode cX9_follow 0 = .ok (.aload_n 0, 1) := by decide +kernel
theorem dX9_follow_1 : decode cX9_follow 1 = .ok (.iload_n 1, 1) := by decide +kernel
theorem dX9_follow_2 : decode cX9_follow 2 = .ok (.iload_n 2, 1) := by decide +kernel
theorem dX9_follow_3 : decode cX9_follow 3 = .ok (.invokevirtual 167, 3) := by decide +kernel
theorem dX9_follow_6 : decode cX9_follow 6 = .ok (.ifCond .ne 6, 3) := by decide +kernel
theorem dX9_follow_9 : decode cX9_follow 9 = .ok (.ldc 140, 2) := by decide +kernel
theorem dX9_follow_11 : decode cX9_follow 11 = .ok (.ireturn, 1) := by decide +kernel
theorem dX9_follow_12 : decode cX9_follow 12 = .ok (.aload_n 0, 1) := by decide +kernel
theorem dX9_follow_13 : decode cX9_follow 13 = .ok (.getfield 38, 3) := by decide +kernel
theorem dX9_follow_16 : decode cX9_follow 16 = .ok (.aload_n 0, 1) := by decide +kernel
theorem dX9_follow_17 : decode cX9_follow 17 = .ok (.getfield 28, 3) := by decide +kernel
theorem dX9_follow_20 : decode cX9_follow 20 = .ok (.invokevirtual 161, 3) := by decide +kernel
theorem dX9_follow_23 : decode cX9_follow 23 = .ok (.aload_n 0, 1) := by decide +kernel
theorem dX9_follow_24 : decode cX9_follow 24 = .ok (.getfield 28, 3) := by decide +kernel
theorem dX9_follow_27 : decode cX9_follow 27 = .ok (.getfield 145, 3) := by decide +kernel
theorem dX9_follow_30 : decode cX9_follow 30 = .ok (.iload_n 1, 1) := by decide +kernel
theorem dX9_follow_31 : decode cX9_follow 31 = .ok (.iaload, 1) := by decide +kernel
theorem dX9_follow_32 : decode cX9_follow 32 = .ok (.istore_n 3, 1) := by decide +kernel
theorem dX9_follow_33 : decode cX9_follow 33 = .ok (.aload_n 0, 1) := by decide +kernel
theorem dX9_follow_34 : decode cX9_follow 34 = .ok (.getfield 28, 3) := by decide +kernel
theorem dX9_follow_37 : decode cX9_follow 37 = .ok (.getfield 145, 3) := by decide +kernel
theorem dX9_follow_40 : decode cX9_follow 40 = .ok (.iload_n 1, 1) := by decide +kernel
theorem dX9_follow_41 : decode cX9_follow 41 = .ok (.iload_n 2, 1) := by decide +kernel
theorem dX9_follow_42 : decode cX9_follow 42 = .ok (.iastore, 1) := by decide +kernel
theorem dX9_follow_43 : decode cX9_follow 43 = .ok (.iload_n 3, 1) := by decide +kernel
theorem dX9_follow_44 : decode cX9_follow 44 = .ok (.ireturn, 1) := by decide +kernel
theorem dX9_letOff_0 : decode cX9_letOff 0 = .ok (.aload_n 0, 1) := by decide +kernel
theorem dX9_letOff_1 : decode cX9_letOff 1 = .ok (.iload_n 1, 1) := by decide +kernel
theorem dX9_letOff_2 : decode cX9_letOff 2 = .ok (.invokevirtual 136, 3) := by decide +kernel
theorem dX9_letOff_5 : decode cX9_letOff 5 = .ok (.ifCond .ne 6, 3) := by decide +kernel
theorem dX9_letOff_8 : decode cX9_letOff 8 = .ok (.ldc 140, 2) := by decide +kernel
theorem dX9_letOff_10 : decode cX9_letOff 10 = .ok (.ireturn, 1) := by decide +kernel
theorem dX9_letOff_11 : decode cX9_letOff 11 = .ok (.aload_n 0, 1) := by decide +kernel
theorem dX9_letOff_12 : decode cX9_letOff 12 = .ok (.getfield 28, 3) := by decide +kernel
theorem dX9_letOff_15 : decode cX9_letOff 15 = .ok (.getfield 145, 3) := by decide +kernel
theorem dX9_letOff_18 : decode cX9_letOff 18 = .ok (.iload_n 1, 1) := by decide +kernel
theorem dX9_letOff_19 : decode cX9_letOff 19 = .ok (.iaload, 1) := by decide +kernel
theorem dX9_letOff_20 : decode cX9_letOff 20 = .ok (.istore_n 2, 1) := by decide +kernel
theorem dX9_letOff_21 : decode cX9_letOff 21 = .ok (.iload_n 2, 1) := by decide +kernel
theorem dX9_letOff_22 : decode cX9_letOff 22 = .ok (.iconst (-1), 1) := by decide +kernel
theorem dX9_letOff_23 : decode cX9_letOff 23 = .ok (.if_icmp .ne 6, 3) := by decide +kernel
theorem dX9_letOff_26 : decode cX9_letOff 26 = .ok (.ldc 171, 2) := by decide +kernel
theorem dX9_letOff_28 : decode cX9_letOff 28 = .ok (.ireturn, 1) := by decide +kernel
theorem dX9_letOff_29 : decode cX9_letOff 29 = .ok (.aload_n 0, 1) := by decide +kernel
theorem dX9_letOff_30 : decode cX9_letOff 30 = .ok (.getfield 38, 3) := by decide +kernel
theorem dX9_letOff_33 : decode cX9_letOff 33 = .ok (.aload_n 0, 1) := by decide +kernel
theorem dX9_letOff_34 : decode cX9_letOff 34 = .ok (.getfield 28, 3) := by decide +kernel
theorem dX9_letOff_37 : decode cX9_letOff 37 = .ok (.invokevirtual 161, 3) := by decide +kernel
theorem dX9_letOff_40 : decode cX9_letOff 40 = .ok (.aload_n 0, 1) := by decide +kernel
theorem dX9_letOff_41 : decode cX9_letOff 41 = .ok (.getfield 28, 3) := by decide +kernel
theorem dX9_letOff_44 : decode cX9_letOff 44 = .ok (.getfield 145, 3) := by decide +kernel
theorem dX9_letOff_47 : decode cX9_letOff 47 = .ok (.iload_n 1, 1) := by decide +kernel
theorem dX9_letOff_48 : decode cX9_letOff 48 = .ok (.iconst (-1), 1) := by decide +kernel
theorem dX9_letOff_49 : decode cX9_letOff 49 = .ok (.iastore, 1) := by decide +kernel
theorem dX9_letOff_50 : decode cX9_letOff 50 = .ok (.iload_n 2, 1) := by decide +kernel
theorem dX9_letOff_51 : decode cX9_letOff 51 = .ok (.ireturn, 1) := by decide +kernel
theorem dX9_turn_0 : decode cX9_turn 0 = .ok (.aload_n 0, 1) := by decide +kernel
theorem dX9_turn_1 : decode cX9_turn 1 = .ok (.iload_n 1, 1) := by decide +kernel
theorem dX9_turn_2 : decode cX9_turn 2 = .ok (.invokevirtual 136, 3) := by decide +kernel
theorem dX9_turn_5 : decode cX9_turn 5 = .ok (.ifCond .ne 6, 3) := by decide +kernel
theorem dX9_turn_8 : decode cX9_turn 8 = .ok (.ldc 140, 2) := by decide +kernel
theorem dX9_turn_10 : decode cX9_turn 10 = .ok (.ireturn, 1) := by decide +kernel
theorem dX9_turn_11 : decode cX9_turn 11 = .ok (.aload_n 0, 1) := by decide +kernel
theorem dX9_turn_12 : decode cX9_turn 12 = .ok (.getfield 38, 3) := by decide +kernel
theorem dX9_turn_15 : decode cX9_turn 15 = .ok (.aload_n 0, 1) := by decide +kernel
theorem dX9_turn_16 : decode cX9_turn 16 = .ok (.getfield 28, 3) := by decide +kernel
theorem dX9_turn_19 : decode cX9_turn 19 = .ok (.invokevirtual 161, 3) := by decide +kernel
theorem dX9_turn_22 : decode cX9_turn 22 = .ok (.aload_n 0, 1) := by decide +kernel
theorem dX9_turn_23 : decode cX9_turn 23 = .ok (.getfield 28, 3) := by decide +kernel
theorem dX9_turn_26 : decode cX9_turn 26 = .ok (.iload_n 1, 1) := by decide +kernel
theorem dX9_turn_27 : decode cX9_turn 27 = .ok (.invokevirtual 172, 3) := by decide +kernel
theorem dX9_turn_30 : decode cX9_turn 30 = .ok (.aload_n 0, 1) := by decide +kernel
theorem dX9_turn_31 : decode cX9_turn 31 = .ok (.getfield 28, 3) := by decide +kernel
theorem dX9_turn_34 : decode cX9_turn 34 = .ok (.getfield 148, 3) := by decide +kernel
theorem dX9_turn_37 : decode cX9_turn 37 = .ok (.iload_n 1, 1) := by decide +kernel
theorem dX9_turn_38 : decode cX9_turn 38 = .ok (.iaload, 1) := by decide +kernel
theorem dX9_turn_39 : decode cX9_turn 39 = .ok (.ireturn, 1) := by decide +kernel
theorem dX9_drift_0 : decode cX9_drift 0 = .ok (.aload_n 0, 1) := by decide +kernel
theorem dX9_drift_1 : decode cX9_drift 1 = .ok (.iload_n 1, 1) := by decide +kernel
theorem dX9_drift_2 : decode cX9_drift 2 = .ok (.invokevirtual 157, 3) := by decide +kernel
theorem dX9_drift_5 : decode cX9_drift 5 = .ok (.istore_n 2, 1) := by decide +kernel
theorem dX9_drift_6 : decode cX9_drift 6 = .ok (.iload_n 2, 1) := by decide +kernel
theorem dX9_drift_7 : decode cX9_drift 7 = .ok (.ifCond .eq 5, 3) := by decide +kernel
theorem dX9_drift_10 : decode cX9_drift 10 = .ok (.iload_n 2, 1) := by decide +kernel
theorem dX9_drift_11 : decode cX9_drift 11 = .ok (.ireturn, 1) := by decide +kernel
theorem dX9_drift_12 : decode cX9_drift 12 = .ok (.aload_n 0, 1) := by decide +kernel
theorem dX9_drift_13 : decode cX9_drift 13 = .ok (.getfield 38, 3) := by decide +kernel
theorem dX9_drift_16 : decode cX9_drift 16 = .ok (.aload_n 0, 1) := by decide +kernel
theorem dX9_drift_17 : decode cX9_drift 17 = .ok (.getfield 28, 3) := by decide +kernel
theorem dX9_drift_20 : decode cX9_drift 20 = .ok (.invokevirtual 161, 3) := by decide +kernel
theorem dX9_drift_23 : decode cX9_drift 23 = .ok (.iconst 0, 1) := by decide +kernel
theorem dX9_drift_24 : decode cX9_drift 24 = .ok (.istore_n 3, 1) := by decide +kernel
theorem dX9_drift_25 : decode cX9_drift 25 = .ok (.iload_n 3, 1) := by decide +kernel
theorem dX9_drift_26 : decode cX9_drift 26 = .ok (.iload_n 1, 1) := by decide +kernel
theorem dX9_drift_27 : decode cX9_drift 27 = .ok (.if_icmp .ge 20, 3) := by decide +kernel
theorem dX9_drift_30 : decode cX9_drift 30 = .ok (.aload_n 0, 1) := by decide +kernel
theorem dX9_drift_31 : decode cX9_drift 31 = .ok (.invokevirtual 175, 3) := by decide +kernel
theorem dX9_drift_34 : decode cX9_drift 34 = .ok (.aload_n 0, 1) := by decide +kernel
theorem dX9_drift_35 : decode cX9_drift 35 = .ok (.getfield 28, 3) := by decide +kernel
theorem dX9_drift_38 : decode cX9_drift 38 = .ok (.invokevirtual 178, 3) := by decide +kernel
theorem dX9_drift_41 : decode cX9_drift 41 = .ok (.iinc 3 1, 3) := by decide +kernel
theorem dX9_drift_44 : decode cX9_drift 44 = .ok (.goto (-19), 3) := by decide +kernel
theorem dX9_drift_47 : decode cX9_drift 47 = .ok (.aload_n 0, 1) := by decide +kernel
theorem dX9_drift_48 : decode cX9_drift 48 = .ok (.getfield 28, 3) := by decide +kernel
theorem dX9_drift_51 : decode cX9_drift 51 = .ok (.getfield 119, 3) := by decide +kernel
theorem dX9_drift_54 : decode cX9_drift 54 = .ok (.ireturn, 1) := by decide +kernel
theorem dX9_undo_0 : decode cX9_undo 0 = .ok (.aload_n 0, 1) := by decide +kernel
theorem dX9_undo_1 : decode cX9_undo 1 = .ok (.getfield 38, 3) := by decide +kernel
theorem dX9_undo_4 : decode cX9_undo 4 = .ok (.getfield 135, 3) := by decide +kernel
theorem dX9_undo_7 : decode cX9_undo 7 = .ok (.ifCond .ne 6, 3) := by decide +kernel
theorem dX9_undo_10 : decode cX9_undo 10 = .ok (.ldc 171, 2) := by decide +kernel
theorem dX9_undo_12 : decode cX9_undo 12 = .ok (.ireturn, 1) := by decide +kernel
theorem dX9_undo_13 : decode cX9_undo 13 = .ok (.aload_n 0, 1) := by decide +kernel
theorem dX9_undo_14 : decode cX9_undo 14 = .ok (.getfield 38, 3) := by decide +kernel
theorem dX9_undo_17 : decode cX9_undo 17 = .ok (.aload_n 0, 1) := by decide +kernel
theorem dX9_undo_18 : decode cX9_undo 18 = .ok (.getfield 28, 3) := by decide +kernel
theorem dX9_undo_21 : decode cX9_undo 21 = .ok (.invokevirtual 181, 3) := by decide +kernel
theorem dX9_undo_24 : decode cX9_undo 24 = .ok (.aload_n 0, 1) := by decide +kernel
theorem dX9_undo_25 : decode cX9_undo 25 = .ok (.getfield 38, 3) := by decide +kernel
theorem dX9_undo_28 : decode cX9_undo 28 = .ok (.getfield 135, 3) := by decide +kernel
theorem dX9_undo_31 : decode cX9_undo 31 = .ok (.ireturn, 1) := by decide +kernel
theorem dX9_where_0 : decode cX9_where 0 = .ok (.aload_n 0, 1) := by decide +kernel
theorem dX9_where_1 : decode cX9_where 1 = .ok (.iload_n 1, 1) := by decide +kernel
theorem dX9_where_2 : decode cX9_where 2 = .ok (.invokevirtual 136, 3) := by decide +kernel
theorem dX9_where_5 : decode cX9_where 5 = .ok (.ifCond .ne 6, 3) := by decide +kernel
theorem dX9_where_8 : decode cX9_where 8 = .ok (.ldc 140, 2) := by decide +kernel
theorem dX9_where_10 : decode cX9_where 10 = .ok (.ireturn, 1) := by decide +kernel
theorem dX9_where_11 : decode cX9_where 11 = .ok (.iload_n 2, 1) := by decide +kernel
theorem dX9_where_12 : decode cX9_where 12 = .ok (.ifCond .lt 10, 3) := by decide +kernel
theorem dX9_where_15 : decode cX9_where 15 = .ok (.iload_n 2, 1) := by decide +kernel
theorem dX9_where_16 : decode cX9_where 16 = .ok (.sipush 200, 3) := by decide +kernel
theorem dX9_where_19 : decode cX9_where 19 = .ok (.if_icmp .le 6, 3) := by decide +kernel
theorem dX9_where_22 : decode cX9_where 22 = .ok (.ldc 85, 2) := by decide +kernel
theorem dX9_where_24 : decode cX9_where 24 = .ok (.ireturn, 1) := by decide +kernel
theorem dX9_where_25 : decode cX9_where 25 = .ok (.aload_n 0, 1) := by decide +kernel
theorem dX9_where_26 : decode cX9_where 26 = .ok (.getfield 32, 3) := by decide +kernel
theorem dX9_where_29 : decode cX9_where 29 = .ok (.aload_n 0, 1) := by decide +kernel
theorem dX9_where_30 : decode cX9_where 30 = .ok (.getfield 28, 3) := by decide +kernel
theorem dX9_where_33 : decode cX9_where 33 = .ok (.invokevirtual 105, 3) := by decide +kernel
theorem dX9_where_36 : decode cX9_where 36 = .ok (.aload_n 0, 1) := by decide +kernel
theorem dX9_where_37 : decode cX9_where 37 = .ok (.getfield 32, 3) := by decide +kernel
theorem dX9_where_40 : decode cX9_where 40 = .ok (.iload_n 2, 1) := by decide +kernel
theorem dX9_where_41 : decode cX9_where 41 = .ok (.invokevirtual 164, 3) := by decide +kernel
theorem dX9_where_44 : decode cX9_where 44 = .ok (.aload_n 0, 1) := by decide +kernel
theorem dX9_where_45 : decode cX9_where 45 = .ok (.getfield 32, 3) := by decide +kernel
theorem dX9_where_48 : decode cX9_where 48 = .ok (.getfield 141, 3) := by decide +kernel
theorem dX9_where_51 : decode cX9_where 51 = .ok (.iload_n 1, 1) := by decide +kernel
theorem dX9_where_52 : decode cX9_where 52 = .ok (.iaload, 1) := by decide +kernel
theorem dX9_where_53 : decode cX9_where 53 = .ok (.ireturn, 1) := by decide +kernel
theorem dX9_sees_0 : decode cX9_sees 0 = .ok (.aload_n 0, 1) := by decide +kernel
theorem dX9_sees_1 : decode cX9_sees 1 = .ok (.iload_n 1, 1) := by decide +kernel
theorem dX9_sees_2 : decode cX9_sees 2 = .ok (.iload_n 2, 1) := by decide +kernel
theorem dX9_sees_3 : decode cX9_sees 3 = .ok (.invokevirtual 167, 3) := by decide +kernel
theorem dX9_sees_6 : decode cX9_sees 6 = .ok (.ifCond .ne 6, 3) := by decide +kernel
theorem dX9_sees_9 : decode cX9_sees 9 = .ok (.ldc 140, 2) := by decide +kernel
theorem dX9_sees_11 : decode cX9_sees 11 = .ok (.ireturn, 1) := by decide +kernel
theorem dX9_sees_12 : decode cX9_sees 12 = .ok (.aload_n 0, 1) := by decide +kernel
theorem dX9_sees_13 : decode cX9_sees 13 = .ok (.getfield 32, 3) := by decide +kernel
theorem dX9_sees_16 : decode cX9_sees 16 = .ok (.aload_n 0, 1) := by decide +kernel
theorem dX9_sees_17 : decode cX9_sees 17 = .ok (.getfield 28, 3) := by decide +kernel
theorem dX9_sees_20 : decode cX9_sees 20 = .ok (.invokevirtual 105, 3) := by decide +kernel
theorem dX9_sees_23 : decode cX9_sees 23 = .ok (.iconst 0, 1) := by decide +kernel
theorem dX9_sees_24 : decode cX9_sees 24 = .ok (.istore_n 3, 1) := by decide +kernel
theorem dX9_sees_25 : decode cX9_sees 25 = .ok (.iload_n 3, 1) := by decide +kernel
theorem dX9_sees_26 : decode cX9_sees 26 = .ok (.sipush 200, 3) := by decide +kernel
theorem dX9_sees_29 : decode cX9_sees 29 = .ok (.if_icmp .gt 39, 3) := by decide +kernel
theorem dX9_sees_32 : decode cX9_sees 32 = .ok (.aload_n 0, 1) := by decide +kernel
theorem dX9_sees_33 : decode cX9_sees 33 = .ok (.getfield 32, 3) := by decide +kernel
theorem dX9_sees_36 : decode cX9_sees 36 = .ok (.getfield 141, 3) := by decide +kernel
theorem dX9_sees_39 : decode cX9_sees 39 = .ok (.iload_n 1, 1) := by decide +kernel
theorem dX9_sees_40 : decode cX9_sees 40 = .ok (.iaload, 1) := by decide +kernel
theorem dX9_sees_41 : decode cX9_sees 41 = .ok (.aload_n 0, 1) := by decide +kernel
theorem dX9_sees_42 : decode cX9_sees 42 = .ok (.getfield 32, 3) := by decide +kernel
theorem dX9_sees_45 : decode cX9_sees 45 = .ok (.getfield 141, 3) := by decide +kernel
theorem dX9_sees_48 : decode cX9_sees 48 = .ok (.iload_n 2, 1) := by decide +kernel
theorem dX9_sees_49 : decode cX9_sees 49 = .ok (.iaload, 1) := by decide +kernel
theorem dX9_sees_50 : decode cX9_sees 50 = .ok (.if_icmp .ne 5, 3) := by decide +kernel
theorem dX9_sees_53 : decode cX9_sees 53 = .ok (.iload_n 3, 1) := by decide +kernel
theorem dX9_sees_54 : decode cX9_sees 54 = .ok (.ireturn, 1) := by decide +kernel
theorem dX9_sees_55 : decode cX9_sees 55 = .ok (.aload_n 0, 1) := by decide +kernel
theorem dX9_sees_56 : decode cX9_sees 56 = .ok (.getfield 32, 3) := by decide +kernel
theorem dX9_sees_59 : decode cX9_sees 59 = .ok (.invokevirtual 178, 3) := by decide +kernel
theorem dX9_sees_62 : decode cX9_sees 62 = .ok (.iinc 3 1, 3) := by decide +kernel
theorem dX9_sees_65 : decode cX9_sees 65 = .ok (.goto (-40), 3) := by decide +kernel
theorem dX9_sees_68 : decode cX9_sees 68 = .ok (.iconst (-1), 1) := by decide +kernel
theorem dX9_sees_69 : decode cX9_sees 69 = .ok (.ireturn, 1) := by decide +kernel
theorem dX9_rings_0 : decode cX9_rings 0 = .ok (.iload_n 1, 1) := by decide +kernel
theorem dX9_rings_1 : decode cX9_rings 1 = .ok (.iconst (-1), 1) := by decide +kernel
theorem dX9_rings_2 : decode cX9_rings 2 = .ok (.if_icmp .ne 13, 3) := by decide +kernel
theorem dX9_rings_5 : decode cX9_rings 5 = .ok (.aload_n 0, 1) := by decide +kernel
theorem dX9_rings_6 : decode cX9_rings 6 = .ok (.getfield 28, 3) := by decide +kernel
theorem dX9_rings_9 : decode cX9_rings 9 = .ok (.invokevirtual 129, 3) := by decide +kernel
theorem dX9_rings_12 : decode cX9_rings 12 = .ok (.goto 11, 3) := by decide +kernel
theorem dX9_rings_15 : decode cX9_rings 15 = .ok (.aload_n 0, 1) := by decide +kernel
theorem dX9_rings_16 : decode cX9_rings 16 = .ok (.getfield 28, 3) := by decide +kernel
theorem dX9_rings_19 : decode cX9_rings 19 = .ok (.iload_n 1, 1) := by decide +kernel
theorem dX9_rings_20 : decode cX9_rings 20 = .ok (.invokevirtual 184, 3) := by decide +kernel
theorem dX9_rings_23 : decode cX9_rings 23 = .ok (.ireturn, 1) := by decide +kernel
theorem dX9_end_0 : decode cX9_end 0 = .ok (.aload_n 0, 1) := by decide +kernel
theorem dX9_end_1 : decode cX9_end 1 = .ok (.iload_n 1, 1) := by decide +kernel
theorem dX9_end_2 : decode cX9_end 2 = .ok (.invokevirtual 136, 3) := by decide +kernel
theorem dX9_end_5 : decode cX9_end 5 = .ok (.ifCond .ne 6, 3) := by decide +kernel
theorem dX9_end_8 : decode cX9_end 8 = .ok (.ldc 140, 2) := by decide +kernel
theorem dX9_end_10 : decode cX9_end 10 = .ok (.ireturn, 1) := by decide +kernel
theorem dX9_end_11 : decode cX9_end 11 = .ok (.iload_n 2, 1) := by decide +kernel
theorem dX9_end_12 : decode cX9_end 12 = .ok (.lookupswitch 46 #[(0, 28), (1, 37)], 28) := by decide +kernel
theorem dX9_end_40 : decode cX9_end 40 = .ok (.aload_n 0, 1) := by decide +kernel
theorem dX9_end_41 : decode cX9_end 41 = .ok (.getfield 28, 3) := by decide +kernel
theorem dX9_end_44 : decode cX9_end 44 = .ok (.iload_n 1, 1) := by decide +kernel
theorem dX9_end_45 : decode cX9_end 45 = .ok (.invokevirtual 187, 3) := by decide +kernel
theorem dX9_end_48 : decode cX9_end 48 = .ok (.ireturn, 1) := by decide +kernel
theorem dX9_end_49 : decode cX9_end 49 = .ok (.aload_n 0, 1) := by decide +kernel
theorem dX9_end_50 : decode cX9_end 50 = .ok (.getfield 28, 3) := by decide +kernel
theorem dX9_end_53 : decode cX9_end 53 = .ok (.iload_n 1, 1) := by decide +kernel
theorem dX9_end_54 : decode cX9_end 54 = .ok (.invokevirtual 190, 3) := by decide +kernel
theorem dX9_end_57 : decode cX9_end 57 = .ok (.ireturn, 1) := by decide +kernel
theorem dX9_end_58 : decode cX9_end 58 = .ok (.ldc 85, 2) := by decide +kernel
theorem dX9_end_60 : decode cX9_end 60 = .ok (.ireturn, 1) := by decide +kernel
theorem dX9_behind_0 : decode cX9_behind 0 = .ok (.aload_n 0, 1) := by decide +kernel
theorem dX9_behind_1 : decode cX9_behind 1 = .ok (.iload_n 1, 1) := by decide +kernel
theorem dX9_behind_2 : decode cX9_behind 2 = .ok (.invokevirtual 136, 3) := by decide +kernel
theorem dX9_behind_5 : decode cX9_behind 5 = .ok (.ifCond .eq 14, 3) := by decide +kernel
theorem dX9_behind_8 : decode cX9_behind 8 = .ok (.aload_n 0, 1) := by decide +kernel
theorem dX9_behind_9 : decode cX9_behind 9 = .ok (.getfield 28, 3) := by decide +kernel
theorem dX9_behind_12 : decode cX9_behind 12 = .ok (.iload_n 1, 1) := by decide +kernel
theorem dX9_behind_13 : decode cX9_behind 13 = .ok (.invokevirtual 193, 3) := by decide +kernel
theorem dX9_behind_16 : decode cX9_behind 16 = .ok (.goto 5, 3) := by decide +kernel
theorem dX9_behind_19 : decode cX9_behind 19 = .ok (.ldc 140, 2) := by decide +kernel
theorem dX9_behind_21 : decode cX9_behind 21 = .ok (.ireturn, 1) := by decide +kernel
theorem dX9_stop_0 : decode cX9_stop 0 = .ok (.aload_n 0, 1) := by decide +kernel
theorem dX9_stop_1 : decode cX9_stop 1 = .ok (.getfield 28, 3) := by decide +kernel
theorem dX9_stop_4 : decode cX9_stop 4 = .ok (.invokevirtual 196, 3) := by decide +kernel
theorem dX9_stop_7 : decode cX9_stop 7 = .ok (.ireturn, 1) := by decide +kernel
theorem dX9_cross_0 : decode cX9_cross 0 = .ok (.aload_n 0, 1) := by decide +kernel
theorem dX9_cross_1 : decode cX9_cross 1 = .ok (.iload_n 1, 1) := by decide +kernel
theorem dX9_cross_2 : decode cX9_cross 2 = .ok (.invokevirtual 199, 3) := by decide +kernel
theorem dX9_cross_5 : decode cX9_cross 5 = .ok (.ifCond .ne 6, 3) := by decide +kernel
theorem dX9_cross_8 : decode cX9_cross 8 = .ok (.ldc 140, 2) := by decide +kernel
theorem dX9_cross_10 : decode cX9_cross 10 = .ok (.ireturn, 1) := by decide +kernel
theorem dX9_cross_11 : decode cX9_cross 11 = .ok (.iload_n 2, 1) := by decide +kernel
theorem dX9_cross_12 : decode cX9_cross 12 = .ok (.iconst 1, 1) := by decide +kernel
theorem dX9_cross_13 : decode cX9_cross 13 = .ok (.if_icmp .lt 9, 3) := by decide +kernel
theorem dX9_cross_16 : decode cX9_cross 16 = .ok (.iload_n 2, 1) := by decide +kernel
theorem dX9_cross_17 : decode cX9_cross 17 = .ok (.bipush 9, 2) := by decide +kernel
theorem dX9_cross_19 : decode cX9_cross 19 = .ok (.if_icmp .le 6, 3) := by decide +kernel
theorem dX9_cross_22 : decode cX9_cross 22 = .ok (.ldc 85, 2) := by decide +kernel
theorem dX9_cross_24 : decode cX9_cross 24 = .ok (.ireturn, 1) := by decide +kernel
theorem dX9_cross_25 : decode cX9_cross 25 = .ok (.aload_n 0, 1) := by decide +kernel
theorem dX9_cross_26 : decode cX9_cross 26 = .ok (.getfield 32, 3) := by decide +kernel
theorem dX9_cross_29 : decode cX9_cross 29 = .ok (.aload_n 0, 1) := by decide +kernel
theorem dX9_cross_30 : decode cX9_cross 30 = .ok (.getfield 28, 3) := by decide +kernel
theorem dX9_cross_33 : decode cX9_cross 33 = .ok (.invokevirtual 105, 3) := by decide +kernel
theorem dX9_cross_36 : decode cX9_cross 36 = .ok (.iconst 0, 1) := by decide +kernel
theorem dX9_cross_37 : decode cX9_cross 37 = .ok (.istore_n 3, 1) := by decide +kernel
theorem dX9_cross_38 : decode cX9_cross 38 = .ok (.iconst 0, 1) := by decide +kernel
theorem dX9_cross_39 : decode cX9_cross 39 = .ok (.istore 4, 2) := by decide +kernel
theorem dX9_cross_41 : decode cX9_cross 41 = .ok (.iload 4, 2) := by decide +kernel
theorem dX9_cross_43 : decode cX9_cross 43 = .ok (.sipush 200, 3) := by decide +kernel
theorem dX9_cross_46 : decode cX9_cross 46 = .ok (.iload_n 2, 1) := by decide +kernel
theorem dX9_cross_47 : decode cX9_cross 47 = .ok (.iadd, 1) := by decide +kernel
theorem dX9_cross_48 : decode cX9_cross 48 = .ok (.if_icmp .ge 47, 3) := by decide +kernel
theorem dX9_cross_51 : decode cX9_cross 51 = .ok (.aload_n 0, 1) := by decide +kernel
theorem dX9_cross_52 : decode cX9_cross 52 = .ok (.getfield 32, 3) := by decide +kernel
theorem dX9_cross_55 : decode cX9_cross 55 = .ok (.iload_n 1, 1) := by decide +kernel
theorem dX9_cross_56 : decode cX9_cross 56 = .ok (.invokevirtual 202, 3) := by decide +kernel
theorem dX9_cross_59 : decode cX9_cross 59 = .ok (.ifCond .ne 9, 3) := by decide +kernel
theorem dX9_cross_62 : decode cX9_cross 62 = .ok (.iload_n 3, 1) := by decide +kernel
theorem dX9_cross_63 : decode cX9_cross 63 = .ok (.iconst 1, 1) := by decide +kernel
theorem dX9_cross_64 : decode cX9_cross 64 = .ok (.iadd, 1) := by decide +kernel
theorem dX9_cross_65 : decode cX9_cross 65 = .ok (.goto 4, 3) := by decide +kernel
theorem dX9_cross_68 : decode cX9_cross 68 = .ok (.iconst 0, 1) := by decide +kernel
theorem dX9_cross_69 : decode cX9_cross 69 = .ok (.istore_n 3, 1) := by decide +kernel
theorem dX9_cross_70 : decode cX9_cross 70 = .ok (.iload_n 3, 1) := by decide +kernel
theorem dX9_cross_71 : decode cX9_cross 71 = .ok (.iload_n 2, 1) := by decide +kernel
theorem dX9_cross_72 : decode cX9_cross 72 = .ok (.if_icmp .ne 10, 3) := by decide +kernel
theorem dX9_cross_75 : decode cX9_cross 75 = .ok (.iload 4, 2) := by decide +kernel
theorem dX9_cross_77 : decode cX9_cross 77 = .ok (.iload_n 2, 1) := by decide +kernel
theorem dX9_cross_78 : decode cX9_cross 78 = .ok (.isub, 1) := by decide +kernel
theorem dX9_cross_79 : decode cX9_cross 79 = .ok (.iconst 1, 1) := by decide +kernel
theorem dX9_cross_80 : decode cX9_cross 80 = .ok (.iadd, 1) := by decide +kernel
theorem dX9_cross_81 : decode cX9_cross 81 = .ok (.ireturn, 1) := by decide +kernel
theorem dX9_cross_82 : decode cX9_cross 82 = .ok (.aload_n 0, 1) := by decide +kernel
theorem dX9_cross_83 : decode cX9_cross 83 = .ok (.getfield 32, 3) := by decide +kernel
theorem dX9_cross_86 : decode cX9_cross 86 = .ok (.invokevirtual 178, 3) := by decide +kernel
theorem dX9_cross_89 : decode cX9_cross 89 = .ok (.iinc 4 1, 3) := by decide +kernel
theorem dX9_cross_92 : decode cX9_cross 92 = .ok (.goto (-51), 3) := by decide +kernel
theorem dX9_cross_95 : decode cX9_cross 95 = .ok (.iconst (-1), 1) := by decide +kernel
theorem dX9_cross_96 : decode cX9_cross 96 = .ok (.ireturn, 1) := by decide +kernel
theorem dX9_handed_0 : decode cX9_handed 0 = .ok (.aload_n 0, 1) := by decide +kernel
theorem dX9_handed_1 : decode cX9_handed 1 = .ok (.iload_n 1, 1) := by decide +kernel
theorem dX9_handed_2 : decode cX9_handed 2 = .ok (.iload_n 2, 1) := by decide +kernel
theorem dX9_handed_3 : decode cX9_handed 3 = .ok (.invokevirtual 167, 3) := by decide +kernel
theorem dX9_handed_6 : decode cX9_handed 6 = .ok (.ifCond .ne 6, 3) := by decide +kernel
theorem dX9_handed_9 : decode cX9_handed 9 = .ok (.ldc 140, 2) := by decide +kernel
theorem dX9_handed_11 : decode cX9_handed 11 = .ok (.ireturn, 1) := by decide +kernel
theorem dX9_handed_12 : decode cX9_handed 12 = .ok (.aload_n 0, 1) := by decide +kernel
theorem dX9_handed_13 : decode cX9_handed 13 = .ok (.getfield 32, 3) := by decide +kernel
theorem dX9_handed_16 : decode cX9_handed 16 = .ok (.aload_n 0, 1) := by decide +kernel
theorem dX9_handed_17 : decode cX9_handed 17 = .ok (.getfield 28, 3) := by decide +kernel
theorem dX9_handed_20 : decode cX9_handed 20 = .ok (.invokevirtual 105, 3) := by decide +kernel
theorem dX9_handed_23 : decode cX9_handed 23 = .ok (.iconst 1, 1) := by decide +kernel
theorem dX9_handed_24 : decode cX9_handed 24 = .ok (.iload_n 1, 1) := by decide +kernel
theorem dX9_handed_25 : decode cX9_handed 25 = .ok (.ishl, 1) := by decide +kernel
theorem dX9_handed_26 : decode cX9_handed 26 = .ok (.istore_n 3, 1) := by decide +kernel
theorem dX9_handed_27 : decode cX9_handed 27 = .ok (.iconst 0, 1) := by decide +kernel
theorem dX9_handed_28 : decode cX9_handed 28 = .ok (.istore 4, 2) := by decide +kernel
theorem dX9_handed_30 : decode cX9_handed 30 = .ok (.iload 4, 2) := by decide +kernel
theorem dX9_handed_32 : decode cX9_handed 32 = .ok (.sipush 200, 3) := by decide +kernel
theorem dX9_handed_35 : decode cX9_handed 35 = .ok (.if_icmp .gt 36, 3) := by decide +kernel
theorem dX9_handed_38 : decode cX9_handed 38 = .ok (.aload_n 0, 1) := by decide +kernel
theorem dX9_handed_39 : decode cX9_handed 39 = .ok (.getfield 32, 3) := by decide +kernel
theorem dX9_handed_42 : decode cX9_handed 42 = .ok (.iload_n 3, 1) := by decide +kernel
theorem dX9_handed_43 : decode cX9_handed 43 = .ok (.invokevirtual 205, 3) := by decide +kernel
theorem dX9_handed_46 : decode cX9_handed 46 = .ok (.istore_n 3, 1) := by decide +kernel
theorem dX9_handed_47 : decode cX9_handed 47 = .ok (.iload_n 3, 1) := by decide +kernel
theorem dX9_handed_48 : decode cX9_handed 48 = .ok (.iload_n 2, 1) := by decide +kernel
theorem dX9_handed_49 : decode cX9_handed 49 = .ok (.invokestatic 208, 3) := by decide +kernel
theorem dX9_handed_52 : decode cX9_handed 52 = .ok (.ifCond .eq 6, 3) := by decide +kernel
theorem dX9_handed_55 : decode cX9_handed 55 = .ok (.iload 4, 2) := by decide +kernel
theorem dX9_handed_57 : decode cX9_handed 57 = .ok (.ireturn, 1) := by decide +kernel
theorem dX9_handed_58 : decode cX9_handed 58 = .ok (.aload_n 0, 1) := by decide +kernel
theorem dX9_handed_59 : decode cX9_handed 59 = .ok (.getfield 32, 3) := by decide +kernel
theorem dX9_handed_62 : decode cX9_handed 62 = .ok (.invokevirtual 178, 3) := by decide +kernel
theorem dX9_handed_65 : decode cX9_handed 65 = .ok (.iinc 4 1, 3) := by decide +kernel
theorem dX9_handed_68 : decode cX9_handed 68 = .ok (.goto (-38), 3) := by decide +kernel
theorem dX9_handed_71 : decode cX9_handed 71 = .ok (.iconst (-1), 1) := by decide +kernel
theorem dX9_handed_72 : decode cX9_handed 72 = .ok (.ireturn, 1) := by decide +kernel
theorem dX9_meets_0 : decode cX9_meets 0 = .ok (.iload_n 1, 1) := by decide +kernel
theorem dX9_meets_1 : decode cX9_meets 1 = .ok (.ifCond .lt 10, 3) := by decide +kernel
theorem dX9_meets_4 : decode cX9_meets 4 = .ok (.iload_n 1, 1) := by decide +kernel
theorem dX9_meets_5 : decode cX9_meets 5 = .ok (.sipush 200, 3) := by decide +kernel
theorem dX9_meets_8 : decode cX9_meets 8 = .ok (.if_icmp .le 6, 3) := by decide +kernel
theorem dX9_meets_11 : decode cX9_meets 11 = .ok (.ldc 85, 2) := by decide +kernel
theorem dX9_meets_13 : decode cX9_meets 13 = .ok (.ireturn, 1) := by decide +kernel
theorem dX9_meets_14 : decode cX9_meets 14 = .ok (.aload_n 0, 1) := by decide +kernel
theorem dX9_meets_15 : decode cX9_meets 15 = .ok (.getfield 32, 3) := by decide +kernel
theorem dX9_meets_18 : decode cX9_meets 18 = .ok (.aload_n 0, 1) := by decide +kernel
theorem dX9_meets_19 : decode cX9_meets 19 = .ok (.getfield 28, 3) := by decide +kernel
theorem dX9_meets_22 : decode cX9_meets 22 = .ok (.invokevirtual 105, 3) := by decide +kernel
theorem dX9_meets_25 : decode cX9_meets 25 = .ok (.aload_n 0, 1) := by decide +kernel
theorem dX9_meets_26 : decode cX9_meets 26 = .ok (.getfield 32, 3) := by decide +kernel
theorem dX9_meets_29 : decode cX9_meets 29 = .ok (.iload_n 1, 1) := by decide +kernel
theorem dX9_meets_30 : decode cX9_meets 30 = .ok (.invokevirtual 164, 3) := by decide +kernel
theorem dX9_meets_33 : decode cX9_meets 33 = .ok (.iconst 0, 1) := by decide +kernel
theorem dX9_meets_34 : decode cX9_meets 34 = .ok (.istore_n 2, 1) := by decide +kernel
theorem dX9_meets_35 : decode cX9_meets 35 = .ok (.iconst 0, 1) := by decide +kernel
theorem dX9_meets_36 : decode cX9_meets 36 = .ok (.istore_n 3, 1) := by decide +kernel
theorem dX9_meets_37 : decode cX9_meets 37 = .ok (.iload_n 3, 1) := by decide +kernel
theorem dX9_meets_38 : decode cX9_meets 38 = .ok (.aload_n 0, 1) := by decide +kernel
theorem dX9_meets_39 : decode cX9_meets 39 = .ok (.getfield 75, 3) := by decide +kernel
theorem dX9_meets_42 : decode cX9_meets 42 = .ok (.if_icmp .ge 22, 3) := by decide +kernel
theorem dX9_meets_45 : decode cX9_meets 45 = .ok (.iload_n 2, 1) := by decide +kernel
theorem dX9_meets_46 : decode cX9_meets 46 = .ok (.aload_n 0, 1) := by decide +kernel
theorem dX9_meets_47 : decode cX9_meets 47 = .ok (.getfield 32, 3) := by decide +kernel
theorem dX9_meets_50 : decode cX9_meets 50 = .ok (.iload_n 3, 1) := by decide +kernel
theorem dX9_meets_51 : decode cX9_meets 51 = .ok (.invokevirtual 202, 3) := by decide +kernel
theorem dX9_meets_54 : decode cX9_meets 54 = .ok (.invokestatic 211, 3) := by decide +kernel
theorem dX9_meets_57 : decode cX9_meets 57 = .ok (.istore_n 2, 1) := by decide +kernel
theorem dX9_meets_58 : decode cX9_meets 58 = .ok (.iinc 3 1, 3) := by decide +kernel
theorem dX9_meets_61 : decode cX9_meets 61 = .ok (.goto (-24), 3) := by decide +kernel
theorem dX9_meets_64 : decode cX9_meets 64 = .ok (.iload_n 2, 1) := by decide +kernel
theorem dX9_meets_65 : decode cX9_meets 65 = .ok (.ireturn, 1) := by decide +kernel
theorem dX9_asked_0 : decode cX9_asked 0 = .ok (.iload_n 1, 1) := by decide +kernel
theorem dX9_asked_1 : decode cX9_asked 1 = .ok (.ifCond .lt 9, 3) := by decide +kernel
theorem dX9_asked_4 : decode cX9_asked 4 = .ok (.iload_n 1, 1) := by decide +kernel
theorem dX9_asked_5 : decode cX9_asked 5 = .ok (.bipush 60, 2) := by decide +kernel
theorem dX9_asked_7 : decode cX9_asked 7 = .ok (.if_icmp .le 6, 3) := by decide +kernel
theorem dX9_asked_10 : decode cX9_asked 10 = .ok (.ldc 85, 2) := by decide +kernel
theorem dX9_asked_12 : decode cX9_asked 12 = .ok (.ireturn, 1) := by decide +kernel
theorem dX9_asked_13 : decode cX9_asked 13 = .ok (.ldc2_w 217, 3) := by decide +kernel
theorem dX9_asked_16 : decode cX9_asked 16 = .ok (.lstore_n 2, 1) := by decide +kernel
theorem dX9_asked_17 : decode cX9_asked 17 = .ok (.iconst 0, 1) := by decide +kernel
theorem dX9_asked_18 : decode cX9_asked 18 = .ok (.istore 4, 2) := by decide +kernel
theorem dX9_asked_20 : decode cX9_asked 20 = .ok (.iload 4, 2) := by decide +kernel
theorem dX9_asked_22 : decode cX9_asked 22 = .ok (.iload_n 1, 1) := by decide +kernel
theorem dX9_asked_23 : decode cX9_asked 23 = .ok (.if_icmp .ge 24, 3) := by decide +kernel
theorem dX9_asked_26 : decode cX9_asked 26 = .ok (.lload_n 2, 1) := by decide +kernel
theorem dX9_asked_27 : decode cX9_asked 27 = .ok (.bipush 100, 2) := by decide +kernel
theorem dX9_asked_29 : decode cX9_asked 29 = .ok (.aload_n 0, 1) := by decide +kernel
theorem dX9_asked_30 : decode cX9_asked 30 = .ok (.getfield 79, 3) := by decide +kernel
theorem dX9_asked_33 : decode cX9_asked 33 = .ok (.isub, 1) := by decide +kernel
theorem dX9_asked_34 : decode cX9_asked 34 = .ok (.i2l, 1) := by decide +kernel
theorem dX9_asked_35 : decode cX9_asked 35 = .ok (.lmul, 1) := by decide +kernel
theorem dX9_asked_36 : decode cX9_asked 36 = .ok (.ldc2_w 219, 3) := by decide +kernel
theorem dX9_asked_39 : decode cX9_asked 39 = .ok (.ldiv, 1) := by decide +kernel
theorem dX9_asked_40 : decode cX9_asked 40 = .ok (.lstore_n 2, 1) := by decide +kernel
theorem dX9_asked_41 : decode cX9_asked 41 = .ok (.iinc 4 1, 3) := by decide +kernel
theorem dX9_asked_44 : decode cX9_asked 44 = .ok (.goto (-24), 3) := by decide +kernel
theorem dX9_asked_47 : decode cX9_asked 47 = .ok (.lload_n 2, 1) := by decide +kernel
theorem dX9_asked_48 : decode cX9_asked 48 = .ok (.l2i, 1) := by decide +kernel
theorem dX9_asked_49 : decode cX9_asked 49 = .ok (.ireturn, 1) := by decide +kernel
theorem dX9_see_0 : decode cX9_see 0 = .ok (.aload_n 0, 1) := by decide +kernel
theorem dX9_see_1 : decode cX9_see 1 = .ok (.iload_n 1, 1) := by decide +kernel
theorem dX9_see_2 : decode cX9_see 2 = .ok (.invokevirtual 136, 3) := by decide +kernel
theorem dX9_see_5 : decode cX9_see 5 = .ok (.ifCond .eq 11, 3) := by decide +kernel
theorem dX9_see_8 : decode cX9_see 8 = .ok (.aload_n 0, 1) := by decide +kernel
theorem dX9_see_9 : decode cX9_see 9 = .ok (.iload_n 3, 1) := by decide +kernel
theorem dX9_see_10 : decode cX9_see 10 = .ok (.invokevirtual 199, 3) := by decide +kernel
theorem dX9_see_13 : decode cX9_see 13 = .ok (.ifCond .ne 6, 3) := by decide +kernel
theorem dX9_see_16 : decode cX9_see 16 = .ok (.ldc 140, 2) := by decide +kernel
theorem dX9_see_18 : decode cX9_see 18 = .ok (.ireturn, 1) := by decide +kernel
theorem dX9_see_19 : decode cX9_see 19 = .ok (.iload_n 2, 1) := by decide +kernel
theorem dX9_see_20 : decode cX9_see 20 = .ok (.iconst 1, 1) := by decide +kernel
theorem dX9_see_21 : decode cX9_see 21 = .ok (.if_icmp .lt 9, 3) := by decide +kernel
theorem dX9_see_24 : decode cX9_see 24 = .ok (.iload_n 2, 1) := by decide +kernel
theorem dX9_see_25 : decode cX9_see 25 = .ok (.bipush 30, 2) := by decide +kernel
theorem dX9_see_27 : decode cX9_see 27 = .ok (.if_icmp .le 6, 3) := by decide +kernel
theorem dX9_see_30 : decode cX9_see 30 = .ok (.ldc 85, 2) := by decide +kernel
theorem dX9_see_32 : decode cX9_see 32 = .ok (.ireturn, 1) := by decide +kernel
theorem dX9_see_33 : decode cX9_see 33 = .ok (.aload_n 0, 1) := by decide +kernel
theorem dX9_see_34 : decode cX9_see 34 = .ok (.getfield 54, 3) := by decide +kernel
theorem dX9_see_37 : decode cX9_see 37 = .ok (.iload_n 1, 1) := by decide +kernel
theorem dX9_see_38 : decode cX9_see 38 = .ok (.iload_n 2, 1) := by decide +kernel
theorem dX9_see_39 : decode cX9_see 39 = .ok (.iload_n 3, 1) := by decide +kernel
theorem dX9_see_40 : decode cX9_see 40 = .ok (.invokevirtual 221, 3) := by decide +kernel
theorem dX9_see_43 : decode cX9_see 43 = .ok (.ireturn, 1) := by decide +kernel
theorem dX9_whom_0 : decode cX9_whom 0 = .ok (.aload_n 0, 1) := by decide +kernel
theorem dX9_whom_1 : decode cX9_whom 1 = .ok (.iload_n 1, 1) := by decide +kernel
theorem dX9_whom_2 : decode cX9_whom 2 = .ok (.invokevirtual 136, 3) := by decide +kernel
theorem dX9_whom_5 : decode cX9_whom 5 = .ok (.ifCond .ne 6, 3) := by decide +kernel
theorem dX9_whom_8 : decode cX9_whom 8 = .ok (.ldc 140, 2) := by decide +kernel
theorem dX9_whom_10 : decode cX9_whom 10 = .ok (.ireturn, 1) := by decide +kernel
theorem dX9_whom_11 : decode cX9_whom 11 = .ok (.aload_n 0, 1) := by decide +kernel
theorem dX9_whom_12 : decode cX9_whom 12 = .ok (.getfield 64, 3) := by decide +kernel
theorem dX9_whom_15 : decode cX9_whom 15 = .ok (.aload_n 0, 1) := by decide +kernel
theorem dX9_whom_16 : decode cX9_whom 16 = .ok (.getfield 28, 3) := by decide +kernel
theorem dX9_whom_19 : decode cX9_whom 19 = .ok (.iload_n 1, 1) := by decide +kernel
theorem dX9_whom_20 : decode cX9_whom 20 = .ok (.aload_n 0, 1) := by decide +kernel
theorem dX9_whom_21 : decode cX9_whom 21 = .ok (.getfield 54, 3) := by decide +kernel
theorem dX9_whom_24 : decode cX9_whom 24 = .ok (.invokevirtual 224, 3) := by decide +kernel
theorem dX9_whom_27 : decode cX9_whom 27 = .ok (.aload_n 0, 1) := by decide +kernel
theorem dX9_whom_28 : decode cX9_whom 28 = .ok (.getfield 64, 3) := by decide +kernel
theorem dX9_whom_31 : decode cX9_whom 31 = .ok (.getfield 228, 3) := by decide +kernel
theorem dX9_whom_34 : decode cX9_whom 34 = .ok (.ireturn, 1) := by decide +kernel
theorem dX9_look_0 : decode cX9_look 0 = .ok (.aload_n 0, 1) := by decide +kernel
theorem dX9_look_1 : decode cX9_look 1 = .ok (.iload_n 1, 1) := by decide +kernel
theorem dX9_look_2 : decode cX9_look 2 = .ok (.invokevirtual 136, 3) := by decide +kernel
theorem dX9_look_5 : decode cX9_look 5 = .ok (.ifCond .ne 6, 3) := by decide +kernel
theorem dX9_look_8 : decode cX9_look 8 = .ok (.ldc 140, 2) := by decide +kernel
theorem dX9_look_10 : decode cX9_look 10 = .ok (.ireturn, 1) := by decide +kernel
theorem dX9_look_11 : decode cX9_look 11 = .ok (.aload_n 0, 1) := by decide +kernel
theorem dX9_look_12 : decode cX9_look 12 = .ok (.getfield 64, 3) := by decide +kernel
theorem dX9_look_15 : decode cX9_look 15 = .ok (.aload_n 0, 1) := by decide +kernel
theorem dX9_look_16 : decode cX9_look 16 = .ok (.getfield 28, 3) := by decide +kernel
theorem dX9_look_19 : decode cX9_look 19 = .ok (.iload_n 1, 1) := by decide +kernel
theorem dX9_look_20 : decode cX9_look 20 = .ok (.aload_n 0, 1) := by decide +kernel
theorem dX9_look_21 : decode cX9_look 21 = .ok (.getfield 54, 3) := by decide +kernel
theorem dX9_look_24 : decode cX9_look 24 = .ok (.invokevirtual 224, 3) := by decide +kernel
theorem dX9_look_27 : decode cX9_look 27 = .ok (.aload_n 0, 1) := by decide +kernel
theorem dX9_look_28 : decode cX9_look 28 = .ok (.getfield 64, 3) := by decide +kernel
theorem dX9_look_31 : decode cX9_look 31 = .ok (.invokevirtual 231, 3) := by decide +kernel
theorem dX9_look_34 : decode cX9_look 34 = .ok (.ireturn, 1) := by decide +kernel
theorem dX9_write_0 : decode cX9_write 0 = .ok (.aload_n 0, 1) := by decide +kernel
theorem dX9_write_1 : decode cX9_write 1 = .ok (.iload_n 1, 1) := by decide +kernel
theorem dX9_write_2 : decode cX9_write 2 = .ok (.invokevirtual 136, 3) := by decide +kernel
theorem dX9_write_5 : decode cX9_write 5 = .ok (.ifCond .eq 11, 3) := by decide +kernel
theorem dX9_write_8 : decode cX9_write 8 = .ok (.aload_n 0, 1) := by decide +kernel
theorem dX9_write_9 : decode cX9_write 9 = .ok (.iload_n 2, 1) := by decide +kernel
theorem dX9_write_10 : decode cX9_write 10 = .ok (.invokevirtual 199, 3) := by decide +kernel
theorem dX9_write_13 : decode cX9_write 13 = .ok (.ifCond .ne 6, 3) := by decide +kernel
theorem dX9_write_16 : decode cX9_write 16 = .ok (.ldc 140, 2) := by decide +kernel
theorem dX9_write_18 : decode cX9_write 18 = .ok (.ireturn, 1) := by decide +kernel
theorem dX9_write_19 : decode cX9_write 19 = .ok (.aload_n 0, 1) := by decide +kernel
theorem dX9_write_20 : decode cX9_write 20 = .ok (.getfield 58, 3) := by decide +kernel
theorem dX9_write_23 : decode cX9_write 23 = .ok (.iload_n 1, 1) := by decide +kernel
theorem dX9_write_24 : decode cX9_write 24 = .ok (.iconst 0, 1) := by decide +kernel
theorem dX9_write_25 : decode cX9_write 25 = .ok (.iload_n 2, 1) := by decide +kernel
theorem dX9_write_26 : decode cX9_write 26 = .ok (.invokevirtual 221, 3) := by decide +kernel
theorem dX9_write_29 : decode cX9_write 29 = .ok (.ireturn, 1) := by decide +kernel
theorem dX9_tear_0 : decode cX9_tear 0 = .ok (.aload_n 0, 1) := by decide +kernel
theorem dX9_tear_1 : decode cX9_tear 1 = .ok (.getfield 54, 3) := by decide +kernel
theorem dX9_tear_4 : decode cX9_tear 4 = .ok (.getfield 109, 3) := by decide +kernel
theorem dX9_tear_7 : decode cX9_tear 7 = .ok (.aload_n 0, 1) := by decide +kernel
theorem dX9_tear_8 : decode cX9_tear 8 = .ok (.getfield 58, 3) := by decide +kernel
theorem dX9_tear_11 : decode cX9_tear 11 = .ok (.getfield 109, 3) := by decide +kernel
theorem dX9_tear_14 : decode cX9_tear 14 = .ok (.iadd, 1) := by decide +kernel
theorem dX9_tear_15 : decode cX9_tear 15 = .ok (.istore_n 1, 1) := by decide +kernel
theorem dX9_tear_16 : decode cX9_tear 16 = .ok (.aload_n 0, 1) := by decide +kernel
theorem dX9_tear_17 : decode cX9_tear 17 = .ok (.getfield 54, 3) := by decide +kernel
theorem dX9_tear_20 : decode cX9_tear 20 = .ok (.iconst 0, 1) := by decide +kernel
theorem dX9_tear_21 : decode cX9_tear 21 = .ok (.putfield 109, 3) := by decide +kernel
theorem dX9_tear_24 : decode cX9_tear 24 = .ok (.aload_n 0, 1) := by decide +kernel
theorem dX9_tear_25 : decode cX9_tear 25 = .ok (.getfield 58, 3) := by decide +kernel
theorem dX9_tear_28 : decode cX9_tear 28 = .ok (.iconst 0, 1) := by decide +kernel
theorem dX9_tear_29 : decode cX9_tear 29 = .ok (.putfield 109, 3) := by decide +kernel
theorem dX9_tear_32 : decode cX9_tear 32 = .ok (.iload_n 1, 1) := by decide +kernel
theorem dX9_tear_33 : decode cX9_tear 33 = .ok (.ireturn, 1) := by decide +kernel
theorem dX9_judge_0 : decode cX9_judge 0 = .ok (.iconst 0, 1) := by decide +kernel
theorem dX9_judge_1 : decode cX9_judge 1 = .ok (.istore_n 1, 1) := by decide +kernel
theorem dX9_judge_2 : decode cX9_judge 2 = .ok (.iload_n 1, 1) := by decide +kernel
theorem dX9_judge_3 : decode cX9_judge 3 = .ok (.aload_n 0, 1) := by decide +kernel
theorem dX9_judge_4 : decode cX9_judge 4 = .ok (.getfield 58, 3) := by decide +kernel
theorem dX9_judge_7 : decode cX9_judge 7 = .ok (.getfield 109, 3) := by decide +kernel
theorem dX9_judge_10 : decode cX9_judge 10 = .ok (.if_icmp .ge 40, 3) := by decide +kernel
theorem dX9_judge_13 : decode cX9_judge 13 = .ok (.aload_n 0, 1) := by decide +kernel
theorem dX9_judge_14 : decode cX9_judge 14 = .ok (.getfield 28, 3) := by decide +kernel
theorem dX9_judge_17 : decode cX9_judge 17 = .ok (.getfield 141, 3) := by decide +kernel
theorem dX9_judge_20 : decode cX9_judge 20 = .ok (.aload_n 0, 1) := by decide +kernel
theorem dX9_judge_21 : decode cX9_judge 21 = .ok (.getfield 58, 3) := by decide +kernel
theorem dX9_judge_24 : decode cX9_judge 24 = .ok (.getfield 234, 3) := by decide +kernel
theorem dX9_judge_27 : decode cX9_judge 27 = .ok (.iload_n 1, 1) := by decide +kernel
theorem dX9_judge_28 : decode cX9_judge 28 = .ok (.iaload, 1) := by decide +kernel
theorem dX9_judge_29 : decode cX9_judge 29 = .ok (.iaload, 1) := by decide +kernel
theorem dX9_judge_30 : decode cX9_judge 30 = .ok (.aload_n 0, 1) := by decide +kernel
theorem dX9_judge_31 : decode cX9_judge 31 = .ok (.getfield 58, 3) := by decide +kernel
theorem dX9_judge_34 : decode cX9_judge 34 = .ok (.getfield 237, 3) := by decide +kernel
theorem dX9_judge_37 : decode cX9_judge 37 = .ok (.iload_n 1, 1) := by decide +kernel
theorem dX9_judge_38 : decode cX9_judge 38 = .ok (.iaload, 1) := by decide +kernel
theorem dX9_judge_39 : decode cX9_judge 39 = .ok (.if_icmp .eq 5, 3) := by decide +kernel
theorem dX9_judge_42 : decode cX9_judge 42 = .ok (.iload_n 1, 1) := by decide +kernel
theorem dX9_judge_43 : decode cX9_judge 43 = .ok (.ireturn, 1) := by decide +kernel
theorem dX9_judge_44 : decode cX9_judge 44 = .ok (.iinc 1 1, 3) := by decide +kernel
theorem dX9_judge_47 : decode cX9_judge 47 = .ok (.goto (-45), 3) := by decide +kernel
theorem dX9_judge_50 : decode cX9_judge 50 = .ok (.iconst (-1), 1) := by decide +kernel
theorem dX9_judge_51 : decode cX9_judge 51 = .ok (.ireturn, 1) := by decide +kernel
theorem dX9_seed_0 : decode cX9_seed 0 = .ok (.iload_n 1, 1) := by decide +kernel
theorem dX9_seed_1 : decode cX9_seed 1 = .ok (.ifCond .ge 6, 3) := by decide +kernel
theorem dX9_seed_4 : decode cX9_seed 4 = .ok (.ldc 85, 2) := by decide +kernel
theorem dX9_seed_6 : decode cX9_seed 6 = .ok (.ireturn, 1) := by decide +kernel
theorem dX9_seed_7 : decode cX9_seed 7 = .ok (.aload_n 0, 1) := by decide +kernel
theorem dX9_seed_8 : decode cX9_seed 8 = .ok (.getfield 71, 3) := by decide +kernel
theorem dX9_seed_11 : decode cX9_seed 11 = .ok (.getfield 238, 3) := by decide +kernel
theorem dX9_seed_14 : decode cX9_seed 14 = .ok (.istore_n 2, 1) := by decide +kernel
theorem dX9_seed_15 : decode cX9_seed 15 = .ok (.aload_n 0, 1) := by decide +kernel
theorem dX9_seed_16 : decode cX9_seed 16 = .ok (.getfield 71, 3) := by decide +kernel
theorem dX9_seed_19 : decode cX9_seed 19 = .ok (.iload_n 1, 1) := by decide +kernel
theorem dX9_seed_20 : decode cX9_seed 20 = .ok (.putfield 238, 3) := by decide +kernel
theorem dX9_seed_23 : decode cX9_seed 23 = .ok (.iload_n 2, 1) := by decide +kernel
theorem dX9_seed_24 : decode cX9_seed 24 = .ok (.ireturn, 1) := by decide +kernel
theorem dX9_keep_0 : decode cX9_keep 0 = .ok (.iload_n 1, 1) := by decide +kernel
theorem dX9_keep_1 : decode cX9_keep 1 = .ok (.invokestatic 241, 3) := by decide +kernel
theorem dX9_keep_4 : decode cX9_keep 4 = .ok (.ifCond .ne 6, 3) := by decide +kernel
theorem dX9_keep_7 : decode cX9_keep 7 = .ok (.ldc 140, 2) := by decide +kernel
theorem dX9_keep_9 : decode cX9_keep 9 = .ok (.ireturn, 1) := by decide +kernel
theorem dX9_keep_10 : decode cX9_keep 10 = .ok (.aload_n 0, 1) := by decide +kernel
theorem dX9_keep_11 : decode cX9_keep 11 = .ok (.getfield 45, 3) := by decide +kernel
theorem dX9_keep_14 : decode cX9_keep 14 = .ok (.iload_n 1, 1) := by decide +kernel
theorem dX9_keep_15 : decode cX9_keep 15 = .ok (.aload_n 0, 1) := by decide +kernel
theorem dX9_keep_16 : decode cX9_keep 16 = .ok (.getfield 28, 3) := by decide +kernel
theorem dX9_keep_19 : decode cX9_keep 19 = .ok (.aload_n 0, 1) := by decide +kernel
theorem dX9_keep_20 : decode cX9_keep 20 = .ok (.getfield 71, 3) := by decide +kernel
theorem dX9_keep_23 : decode cX9_keep 23 = .ok (.getfield 238, 3) := by decide +kernel
theorem dX9_keep_26 : decode cX9_keep 26 = .ok (.invokevirtual 244, 3) := by decide +kernel
theorem dX9_keep_29 : decode cX9_keep 29 = .ok (.aload_n 0, 1) := by decide +kernel
theorem dX9_keep_30 : decode cX9_keep 30 = .ok (.getfield 38, 3) := by decide +kernel
theorem dX9_keep_33 : decode cX9_keep 33 = .ok (.invokevirtual 115, 3) := by decide +kernel
theorem dX9_keep_36 : decode cX9_keep 36 = .ok (.iconst 1, 1) := by decide +kernel
theorem dX9_keep_37 : decode cX9_keep 37 = .ok (.ireturn, 1) := by decide +kernel
theorem dX9_goBack_0 : decode cX9_goBack 0 = .ok (.iload_n 1, 1) := by decide +kernel
theorem dX9_goBack_1 : decode cX9_goBack 1 = .ok (.invokestatic 241, 3) := by decide +kernel
theorem dX9_goBack_4 : decode cX9_goBack 4 = .ok (.ifCond .ne 6, 3) := by decide +kernel
theorem dX9_goBack_7 : decode cX9_goBack 7 = .ok (.ldc 140, 2) := by decide +kernel
theorem dX9_goBack_9 : decode cX9_goBack 9 = .ok (.ireturn, 1) := by decide +kernel
theorem dX9_goBack_10 : decode cX9_goBack 10 = .ok (.aload_n 0, 1) := by decide +kernel
theorem dX9_goBack_11 : decode cX9_goBack 11 = .ok (.getfield 45, 3) := by decide +kernel
theorem dX9_goBack_14 : decode cX9_goBack 14 = .ok (.getfield 248, 3) := by decide +kernel
theorem dX9_goBack_17 : decode cX9_goBack 17 = .ok (.iload_n 1, 1) := by decide +kernel
theorem dX9_goBack_18 : decode cX9_goBack 18 = .ok (.baload, 1) := by decide +kernel
theorem dX9_goBack_19 : decode cX9_goBack 19 = .ok (.ifCond .ne 6, 3) := by decide +kernel
theorem dX9_goBack_22 : decode cX9_goBack 22 = .ok (.ldc 171, 2) := by decide +kernel
theorem dX9_goBack_24 : decode cX9_goBack 24 = .ok (.ireturn, 1) := by decide +kernel
theorem dX9_goBack_25 : decode cX9_goBack 25 = .ok (.aload_n 0, 1) := by decide +kernel
theorem dX9_goBack_26 : decode cX9_goBack 26 = .ok (.getfield 28, 3) := by decide +kernel
theorem dX9_goBack_29 : decode cX9_goBack 29 = .ok (.aload_n 0, 1) := by decide +kernel
theorem dX9_goBack_30 : decode cX9_goBack 30 = .ok (.getfield 45, 3) := by decide +kernel
theorem dX9_goBack_33 : decode cX9_goBack 33 = .ok (.getfield 252, 3) := by decide +kernel
theorem dX9_goBack_36 : decode cX9_goBack 36 = .ok (.iload_n 1, 1) := by decide +kernel
theorem dX9_goBack_37 : decode cX9_goBack 37 = .ok (.aaload, 1) := by decide +kernel
theorem dX9_goBack_38 : decode cX9_goBack 38 = .ok (.invokevirtual 105, 3) := by decide +kernel
theorem dX9_goBack_41 : decode cX9_goBack 41 = .ok (.aload_n 0, 1) := by decide +kernel
theorem dX9_goBack_42 : decode cX9_goBack 42 = .ok (.getfield 71, 3) := by decide +kernel
theorem dX9_goBack_45 : decode cX9_goBack 45 = .ok (.aload_n 0, 1) := by decide +kernel
theorem dX9_goBack_46 : decode cX9_goBack 46 = .ok (.getfield 45, 3) := by decide +kernel
theorem dX9_goBack_49 : decode cX9_goBack 49 = .ok (.getfield 255, 3) := by decide +kernel
theorem dX9_goBack_52 : decode cX9_goBack 52 = .ok (.iload_n 1, 1) := by decide +kernel
theorem dX9_goBack_53 : decode cX9_goBack 53 = .ok (.iaload, 1) := by decide +kernel
theorem dX9_goBack_54 : decode cX9_goBack 54 = .ok (.putfield 238, 3) := by decide +kernel
theorem dX9_goBack_57 : decode cX9_goBack 57 = .ok (.aload_n 0, 1) := by decide +kernel
theorem dX9_goBack_58 : decode cX9_goBack 58 = .ok (.getfield 38, 3) := by decide +kernel
theorem dX9_goBack_61 : decode cX9_goBack 61 = .ok (.invokevirtual 115, 3) := by decide +kernel
theorem dX9_goBack_64 : decode cX9_goBack 64 = .ok (.iconst 1, 1) := by decide +kernel
theorem dX9_goBack_65 : decode cX9_goBack 65 = .ok (.ireturn, 1) := by decide +kernel
theorem dX9_isCar_0 : decode cX9_isCar 0 = .ok (.iload_n 1, 1) := by decide +kernel
theorem dX9_isCar_1 : decode cX9_isCar 1 = .ok (.ifCond .lt 18, 3) := by decide +kernel
theorem dX9_isCar_4 : decode cX9_isCar 4 = .ok (.iload_n 1, 1) := by decide +kernel
theorem dX9_isCar_5 : decode cX9_isCar 5 = .ok (.aload_n 0, 1) := by decide +kernel
theorem dX9_isCar_6 : decode cX9_isCar 6 = .ok (.getfield 28, 3) := by decide +kernel
theorem dX9_isCar_9 : decode cX9_isCar 9 = .ok (.getfield 116, 3) := by decide +kernel
theorem dX9_isCar_12 : decode cX9_isCar 12 = .ok (.if_icmp .ge 7, 3) := by decide +kernel
theorem dX9_isCar_15 : decode cX9_isCar 15 = .ok (.iconst 1, 1) := by decide +kernel
theorem dX9_isCar_16 : decode cX9_isCar 16 = .ok (.goto 4, 3) := by decide +kernel
theorem dX9_isCar_19 : decode cX9_isCar 19 = .ok (.iconst 0, 1) := by decide +kernel
theorem dX9_isCar_20 : decode cX9_isCar 20 = .ok (.ireturn, 1) := by decide +kernel
theorem dX9_areTwoCars_0 : decode cX9_areTwoCars 0 = .ok (.aload_n 0, 1) := by decide +kernel
theorem dX9_areTwoCars_1 : decode cX9_areTwoCars 1 = .ok (.iload_n 1, 1) := by decide +kernel
theorem dX9_areTwoCars_2 : decode cX9_areTwoCars 2 = .ok (.invokevirtual 136, 3) := by decide +kernel
theorem dX9_areTwoCars_5 : decode cX9_areTwoCars 5 = .ok (.ifCond .eq 20, 3) := by decide +kernel
theorem dX9_areTwoCars_8 : decode cX9_areTwoCars 8 = .ok (.aload_n 0, 1) := by decide +kernel
theorem dX9_areTwoCars_9 : decode cX9_areTwoCars 9 = .ok (.iload_n 2, 1) := by decide +kernel
theorem dX9_areTwoCars_10 : decode cX9_areTwoCars 10 = .ok (.invokevirtual 136, 3) := by decide +kernel
theorem dX9_areTwoCars_13 : decode cX9_areTwoCars 13 = .ok (.ifCond .eq 12, 3) := by decide +kernel
theorem dX9_areTwoCars_16 : decode cX9_areTwoCars 16 = .ok (.iload_n 1, 1) := by decide +kernel
theorem dX9_areTwoCars_17 : decode cX9_areTwoCars 17 = .ok (.iload_n 2, 1) := by decide +kernel
theorem dX9_areTwoCars_18 : decode cX9_areTwoCars 18 = .ok (.if_icmp .eq 7, 3) := by decide +kernel
theorem dX9_areTwoCars_21 : decode cX9_areTwoCars 21 = .ok (.iconst 1, 1) := by decide +kernel
theorem dX9_areTwoCars_22 : decode cX9_areTwoCars 22 = .ok (.goto 4, 3) := by decide +kernel
theorem dX9_areTwoCars_25 : decode cX9_areTwoCars 25 = .ok (.iconst 0, 1) := by decide +kernel
theorem dX9_areTwoCars_26 : decode cX9_areTwoCars 26 = .ok (.ireturn, 1) := by decide +kernel
theorem dX9_isCorner_0 : decode cX9_isCorner 0 = .ok (.iload_n 1, 1) := by decide +kernel
theorem dX9_isCorner_1 : decode cX9_isCorner 1 = .ok (.ifCond .lt 15, 3) := by decide +kernel
theorem dX9_isCorner_4 : decode cX9_isCorner 4 = .ok (.iload_n 1, 1) := by decide +kernel
theorem dX9_isCorner_5 : decode cX9_isCorner 5 = .ok (.aload_n 0, 1) := by decide +kernel
theorem dX9_isCorner_6 : decode cX9_isCorner 6 = .ok (.getfield 75, 3) := by decide +kernel
theorem dX9_isCorner_9 : decode cX9_isCorner 9 = .ok (.if_icmp .ge 7, 3) := by decide +kernel
theorem dX9_isCorner_12 : decode cX9_isCorner 12 = .ok (.iconst 1, 1) := by decide +kernel
theorem dX9_isCorner_13 : decode cX9_isCorner 13 = .ok (.goto 4, 3) := by decide +kernel
theorem dX9_isCorner_16 : decode cX9_isCorner 16 = .ok (.iconst 0, 1) := by decide +kernel
theorem dX9_isCorner_17 : decode cX9_isCorner 17 = .ok (.ireturn, 1) := by decide +kernel
theorem dX9_isImage_0 : decode cX9_isImage 0 = .ok (.iload_n 0, 1) := by decide +kernel
theorem dX9_isImage_1 : decode cX9_isImage 1 = .ok (.ifCond .lt 12, 3) := by decide +kernel
theorem dX9_isImage_4 : decode cX9_isImage 4 = .ok (.iload_n 0, 1) := by decide +kernel
theorem dX9_isImage_5 : decode cX9_isImage 5 = .ok (.iconst 2, 1) := by decide +kernel
theorem dX9_isImage_6 : decode cX9_isImage 6 = .ok (.if_icmp .ge 7, 3) := by decide +kernel
theorem dX9_isImage_9 : decode cX9_isImage 9 = .ok (.iconst 1, 1) := by decide +kernel
theorem dX9_isImage_10 : decode cX9_isImage 10 = .ok (.goto 4, 3) := by decide +kernel
theorem dX9_isImage_13 : decode cX9_isImage 13 = .ok (.iconst 0, 1) := by decide +kernel
theorem dX9_isImage_14 : decode cX9_isImage 14 = .ok (.ireturn, 1) := by decide +kernel
theorem dX9_isIn_0 : decode cX9_isIn 0 = .ok (.iload_n 0, 1) := by decide +kernel
theorem dX9_isIn_1 : decode cX9_isIn 1 = .ok (.iload_n 1, 1) := by decide +kernel
theorem dX9_isIn_2 : decode cX9_isIn 2 = .ok (.ishr, 1) := by decide +kernel
theorem dX9_isIn_3 : decode cX9_isIn 3 = .ok (.iconst 1, 1) := by decide +kernel
theorem dX9_isIn_4 : decode cX9_isIn 4 = .ok (.iand, 1) := by decide +kernel
theorem dX9_isIn_5 : decode cX9_isIn 5 = .ok (.ifCond .eq 7, 3) := by decide +kernel
theorem dX9_isIn_8 : decode cX9_isIn 8 = .ok (.iconst 1, 1) := by decide +kernel
theorem dX9_isIn_9 : decode cX9_isIn 9 = .ok (.goto 4, 3) := by decide +kernel
theorem dX9_isIn_12 : decode cX9_isIn 12 = .ok (.iconst 0, 1) := by decide +kernel
theorem dX9_isIn_13 : decode cX9_isIn 13 = .ok (.ireturn, 1) := by decide +kernel
theorem dX9_leastOf_0 : decode cX9_leastOf 0 = .ok (.iconst 0, 1) := by decide +kernel
theorem dX9_leastOf_1 : decode cX9_leastOf 1 = .ok (.istore_n 1, 1) := by decide +kernel
theorem dX9_leastOf_2 : decode cX9_leastOf 2 = .ok (.iload_n 1, 1) := by decide +kernel
theorem dX9_leastOf_3 : decode cX9_leastOf 3 = .ok (.bipush 8, 2) := by decide +kernel
theorem dX9_leastOf_5 : decode cX9_leastOf 5 = .ok (.if_icmp .ge 19, 3) := by decide +kernel
theorem dX9_leastOf_8 : decode cX9_leastOf 8 = .ok (.iload_n 0, 1) := by decide +kernel
theorem dX9_leastOf_9 : decode cX9_leastOf 9 = .ok (.iload_n 1, 1) := by decide +kernel
theorem dX9_leastOf_10 : decode cX9_leastOf 10 = .ok (.invokestatic 208, 3) := by decide +kernel
theorem dX9_leastOf_13 : decode cX9_leastOf 13 = .ok (.ifCond .eq 5, 3) := by decide +kernel
theorem dX9_leastOf_16 : decode cX9_leastOf 16 = .ok (.iload_n 1, 1) := by decide +kernel
theorem dX9_leastOf_17 : decode cX9_leastOf 17 = .ok (.ireturn, 1) := by decide +kernel
theorem dX9_leastOf_18 : decode cX9_leastOf 18 = .ok (.iinc 1 1, 3) := by decide +kernel
theorem dX9_leastOf_21 : decode cX9_leastOf 21 = .ok (.goto (-19), 3) := by decide +kernel
theorem dX9_leastOf_24 : decode cX9_leastOf 24 = .ok (.iconst (-1), 1) := by decide +kernel
theorem dX9_leastOf_25 : decode cX9_leastOf 25 = .ok (.ireturn, 1) := by decide +kernel
theorem dX9_refusalOfSteps_0 : decode cX9_refusalOfSteps 0 = .ok (.iload_n 1, 1) := by decide +kernel
theorem dX9_refusalOfSteps_1 : decode cX9_refusalOfSteps 1 = .ok (.iconst 1, 1) := by decide +kernel
theorem dX9_refusalOfSteps_2 : decode cX9_refusalOfSteps 2 = .ok (.if_icmp .lt 9, 3) := by decide +kernel
theorem dX9_refusalOfSteps_5 : decode cX9_refusalOfSteps 5 = .ok (.iload_n 1, 1) := by decide +kernel
theorem dX9_refusalOfSteps_6 : decode cX9_refusalOfSteps 6 = .ok (.bipush 60, 2) := by decide +kernel
theorem dX9_refusalOfSteps_8 : decode cX9_refusalOfSteps 8 = .ok (.if_icmp .le 6, 3) := by decide +kernel
theorem dX9_refusalOfSteps_11 : decode cX9_refusalOfSteps 11 = .ok (.ldc 85, 2) := by decide +kernel
theorem dX9_refusalOfSteps_13 : decode cX9_refusalOfSteps 13 = .ok (.ireturn, 1) := by decide +kernel
theorem dX9_refusalOfSteps_14 : decode cX9_refusalOfSteps 14 = .ok (.aload_n 0, 1) := by decide +kernel
theorem dX9_refusalOfSteps_15 : decode cX9_refusalOfSteps 15 = .ok (.getfield 75, 3) := by decide +kernel
theorem dX9_refusalOfSteps_18 : decode cX9_refusalOfSteps 18 = .ok (.ifCond .ne 6, 3) := by decide +kernel
theorem dX9_refusalOfSteps_21 : decode cX9_refusalOfSteps 21 = .ok (.ldc 171, 2) := by decide +kernel
theorem dX9_refusalOfSteps_23 : decode cX9_refusalOfSteps 23 = .ok (.ireturn, 1) := by decide +kernel
theorem dX9_refusalOfSteps_24 : decode cX9_refusalOfSteps 24 = .ok (.aload_n 0, 1) := by decide +kernel
theorem dX9_refusalOfSteps_25 : decode cX9_refusalOfSteps 25 = .ok (.getfield 28, 3) := by decide +kernel
theorem dX9_refusalOfSteps_28 : decode cX9_refusalOfSteps 28 = .ok (.getfield 119, 3) := by decide +kernel
theorem dX9_refusalOfSteps_31 : decode cX9_refusalOfSteps 31 = .ok (.sipush 9000, 3) := by decide +kernel
theorem dX9_refusalOfSteps_34 : decode cX9_refusalOfSteps 34 = .ok (.if_icmp .le 8, 3) := by decide +kernel
theorem dX9_refusalOfSteps_37 : decode cX9_refusalOfSteps 37 = .ok (.ldc 89, 2) := by decide +kernel
theorem dX9_refusalOfSteps_39 : decode cX9_refusalOfSteps 39 = .ok (.goto 4, 3) := by decide +kernel
theorem dX9_refusalOfSteps_42 : decode cX9_refusalOfSteps 42 = .ok (.iconst 0, 1) := by decide +kernel
theorem dX9_refusalOfSteps_43 : decode cX9_refusalOfSteps 43 = .ok (.ireturn, 1) := by decide +kernel
theorem dX9_askByDraws_0 : decode cX9_askByDraws 0 = .ok (.aload_n 0, 1) := by decide +kernel
theorem dX9_askByDraws_1 : decode cX9_askByDraws 1 = .ok (.getfield 28, 3) := by decide +kernel
theorem dX9_askByDraws_4 : decode cX9_askByDraws 4 = .ok (.getfield 116, 3) := by decide +kernel
theorem dX9_askByDraws_7 : decode cX9_askByDraws 7 = .ok (.ifCond .ne 4, 3) := by decide +kernel
theorem dX9_askByDraws_10 : decode cX9_askByDraws 10 = .ok (.return_, 1) := by decide +kernel
theorem dX9_askByDraws_11 : decode cX9_askByDraws 11 = .ok (.aload_n 0, 1) := by decide +kernel
theorem dX9_askByDraws_12 : decode cX9_askByDraws 12 = .ok (.getfield 71, 3) := by decide +kernel
theorem dX9_askByDraws_15 : decode cX9_askByDraws 15 = .ok (.aload_n 0, 1) := by decide +kernel
theorem dX9_askByDraws_16 : decode cX9_askByDraws 16 = .ok (.getfield 28, 3) := by decide +kernel
theorem dX9_askByDraws_19 : decode cX9_askByDraws 19 = .ok (.getfield 116, 3) := by decide +kernel
theorem dX9_askByDraws_22 : decode cX9_askByDraws 22 = .ok (.invokevirtual 258, 3) := by decide +kernel
theorem dX9_askByDraws_25 : decode cX9_askByDraws 25 = .ok (.istore_n 1, 1) := by decide +kernel
theorem dX9_askByDraws_26 : decode cX9_askByDraws 26 = .ok (.aload_n 0, 1) := by decide +kernel
theorem dX9_askByDraws_27 : decode cX9_askByDraws 27 = .ok (.getfield 71, 3) := by decide +kernel
theorem dX9_askByDraws_30 : decode cX9_askByDraws 30 = .ok (.bipush 100, 2) := by decide +kernel
theorem dX9_askByDraws_32 : decode cX9_askByDraws 32 = .ok (.invokevirtual 258, 3) := by decide +kernel
theorem dX9_askByDraws_35 : decode cX9_askByDraws 35 = .ok (.aload_n 0, 1) := by decide +kernel
theorem dX9_askByDraws_36 : decode cX9_askByDraws 36 = .ok (.getfield 79, 3) := by decide +kernel
theorem dX9_askByDraws_39 : decode cX9_askByDraws 39 = .ok (.if_icmp .lt 4, 3) := by decide +kernel
theorem dX9_askByDraws_42 : decode cX9_askByDraws 42 = .ok (.return_, 1) := by decide +kernel
theorem dX9_askByDraws_43 : decode cX9_askByDraws 43 = .ok (.aload_n 0, 1) := by decide +kernel
theorem dX9_askByDraws_44 : decode cX9_askByDraws 44 = .ok (.getfield 71, 3) := by decide +kernel
theorem dX9_askByDraws_47 : decode cX9_askByDraws 47 = .ok (.aload_n 0, 1) := by decide +kernel
theorem dX9_askByDraws_48 : decode cX9_askByDraws 48 = .ok (.getfield 28, 3) := by decide +kernel
theorem dX9_askByDraws_51 : decode cX9_askByDraws 51 = .ok (.getfield 116, 3) := by decide +kernel
theorem dX9_askByDraws_54 : decode cX9_askByDraws 54 = .ok (.invokevirtual 258, 3) := by decide +kernel
theorem dX9_askByDraws_57 : decode cX9_askByDraws 57 = .ok (.istore_n 2, 1) := by decide +kernel
theorem dX9_askByDraws_58 : decode cX9_askByDraws 58 = .ok (.iload_n 1, 1) := by decide +kernel
theorem dX9_askByDraws_59 : decode cX9_askByDraws 59 = .ok (.iload_n 2, 1) := by decide +kernel
theorem dX9_askByDraws_60 : decode cX9_askByDraws 60 = .ok (.if_icmp .eq 13, 3) := by decide +kernel
theorem dX9_askByDraws_63 : decode cX9_askByDraws 63 = .ok (.aload_n 0, 1) := by decide +kernel
theorem dX9_askByDraws_64 : decode cX9_askByDraws 64 = .ok (.getfield 28, 3) := by decide +kernel
theorem dX9_askByDraws_67 : decode cX9_askByDraws 67 = .ok (.getfield 145, 3) := by decide +kernel
theorem dX9_askByDraws_70 : decode cX9_askByDraws 70 = .ok (.iload_n 1, 1) := by decide +kernel
theorem dX9_askByDraws_71 : decode cX9_askByDraws 71 = .ok (.iload_n 2, 1) := by decide +kernel
theorem dX9_askByDraws_72 : decode cX9_askByDraws 72 = .ok (.iastore, 1) := by decide +kernel
theorem dX9_askByDraws_73 : decode cX9_askByDraws 73 = .ok (.return_, 1) := by decide +kernel
theorem dX10_init_0 : decode cX10_init 0 = .ok (.aload_n 0, 1) := by decide +kernel
theorem dX10_init_1 : decode cX10_init 1 = .ok (.invokespecial 1, 3) := by decide +kernel
theorem dX10_init_4 : decode cX10_init 4 = .ok (.aload_n 0, 1) := by decide +kernel
theorem dX10_init_5 : decode cX10_init 5 = .ok (.bipush 48, 2) := by decide +kernel
theorem dX10_init_7 : decode cX10_init 7 = .ok (.newarray .int, 2) := by decide +kernel
theorem dX10_init_9 : decode cX10_init 9 = .ok (.putfield 7, 3) := by decide +kernel
theorem dX10_init_12 : decode cX10_init 12 = .ok (.aload_n 0, 1) := by decide +kernel
theorem dX10_init_13 : decode cX10_init 13 = .ok (.bipush 8, 2) := by decide +kernel
theorem dX10_init_15 : decode cX10_init 15 = .ok (.newarray .int, 2) := by decide +kernel
theorem dX10_init_17 : decode cX10_init 17 = .ok (.putfield 13, 3) := by decide +kernel
theorem dX10_init_20 : decode cX10_init 20 = .ok (.aload_n 0, 1) := by decide +kernel
theorem dX10_init_21 : decode cX10_init 21 = .ok (.bipush 41, 2) := by decide +kernel
theorem dX10_init_23 : decode cX10_init 23 = .ok (.newarray .int, 2) := by decide +kernel
theorem dX10_init_25 : decode cX10_init 25 = .ok (.putfield 16, 3) := by decide +kernel
theorem dX10_init_28 : decode cX10_init 28 = .ok (.aload_n 0, 1) := by decide +kernel
theorem dX10_init_29 : decode cX10_init 29 = .ok (.sipush 240, 3) := by decide +kernel
theorem dX10_init_32 : decode cX10_init 32 = .ok (.newarray .int, 2) := by decide +kernel
theorem dX10_init_34 : decode cX10_init 34 = .ok (.putfield 19, 3) := by decide +kernel
theorem dX10_init_37 : decode cX10_init 37 = .ok (.aload_n 0, 1) := by decide +kernel
theorem dX10_init_38 : decode cX10_init 38 = .ok (.iconst (-1), 1) := by decide +kernel
theorem dX10_init_39 : decode cX10_init 39 = .ok (.putfield 22, 3) := by decide +kernel
theorem dX10_init_42 : decode cX10_init 42 = .ok (.aload_n 0, 1) := by decide +kernel
theorem dX10_init_43 : decode cX10_init 43 = .ok (.iconst 2, 1) := by decide +kernel
theorem dX10_init_44 : decode cX10_init 44 = .ok (.newarray .int, 2) := by decide +kernel
theorem dX10_init_46 : decode cX10_init 46 = .ok (.putfield 26, 3) := by decide +kernel
theorem dX10_init_49 : decode cX10_init 49 = .ok (.aload_n 0, 1) := by decide +kernel
theorem dX10_init_50 : decode cX10_init 50 = .ok (.bipush 8, 2) := by decide +kernel
theorem dX10_init_52 : decode cX10_init 52 = .ok (.newarray .int, 2) := by decide +kernel
theorem dX10_init_54 : decode cX10_init 54 = .ok (.putfield 29, 3) := by decide +kernel
theorem dX10_init_57 : decode cX10_init 57 = .ok (.aload_n 0, 1) := by decide +kernel
theorem dX10_init_58 : decode cX10_init 58 = .ok (.bipush 48, 2) := by decide +kernel
theorem dX10_init_60 : decode cX10_init 60 = .ok (.newarray .int, 2) := by decide +kernel
theorem dX10_init_62 : decode cX10_init 62 = .ok (.putfield 32, 3) := by decide +kernel
theorem dX10_init_65 : decode cX10_init 65 = .ok (.aload_n 0, 1) := by decide +kernel
theorem dX10_init_66 : decode cX10_init 66 = .ok (.bipush 8, 2) := by decide +kernel
theorem dX10_init_68 : decode cX10_init 68 = .ok (.newarray .int, 2) := by decide +kernel
theorem dX10_init_70 : decode cX10_init 70 = .ok (.putfield 35, 3) := by decide +kernel
theorem dX10_init_73 : decode cX10_init 73 = .ok (.aload_n 0, 1) := by decide +kernel
theorem dX10_init_74 : decode cX10_init 74 = .ok (.bipush 8, 2) := by decide +kernel
theorem dX10_init_76 : decode cX10_init 76 = .ok (.newarray .int, 2) := by decide +kernel
theorem dX10_init_78 : decode cX10_init 78 = .ok (.putfield 38, 3) := by decide +kernel
theorem dX10_init_81 : decode cX10_init 81 = .ok (.aload_n 0, 1) := by decide +kernel
theorem dX10_init_82 : decode cX10_init 82 = .ok (.bipush 8, 2) := by decide +kernel
theorem dX10_init_84 : decode cX10_init 84 = .ok (.newarray .int, 2) := by decide +kernel
theorem dX10_init_86 : decode cX10_init 86 = .ok (.putfield 41, 3) := by decide +kernel
theorem dX10_init_89 : decode cX10_init 89 = .ok (.aload_n 0, 1) := by decide +kernel
theorem dX10_init_90 : decode cX10_init 90 = .ok (.sipush 820, 3) := by decide +kernel
theorem dX10_init_93 : decode cX10_init 93 = .ok (.newarray .int, 2) := by decide +kernel
theorem dX10_init_95 : decode cX10_init 95 = .ok (.putfield 44, 3) := by decide +kernel
theorem dX10_init_98 : decode cX10_init 98 = .ok (.aload_n 0, 1) := by decide +kernel
theorem dX10_init_99 : decode cX10_init 99 = .ok (.bipush 41, 2) := by decide +kernel
theorem dX10_init_101 : decode cX10_init 101 = .ok (.newarray .int, 2) := by decide +kernel
theorem dX10_init_103 : decode cX10_init 103 = .ok (.putfield 47, 3) := by decide +kernel
theorem dX10_init_106 : decode cX10_init 106 = .ok (.aload_n 0, 1) := by decide +kernel
theorem dX10_init_107 : decode cX10_init 107 = .ok (.bipush 6, 2) := by decide +kernel
theorem dX10_init_109 : decode cX10_init 109 = .ok (.newarray .int, 2) := by decide +kernel
theorem dX10_init_111 : decode cX10_init 111 = .ok (.putfield 50, 3) := by decide +kernel
theorem dX10_init_114 : decode cX10_init 114 = .ok (.aload_n 0, 1) := by decide +kernel
theorem dX10_init_115 : decode cX10_init 115 = .ok (.bipush 6, 2) := by decide +kernel
theorem dX10_init_117 : decode cX10_init 117 = .ok (.newarray .int, 2) := by decide +kernel
theorem dX10_init_119 : decode cX10_init 119 = .ok (.putfield 53, 3) := by decide +kernel
theorem dX10_init_122 : decode cX10_init 122 = .ok (.aload_n 0, 1) := by decide +kernel
theorem dX10_init_123 : decode cX10_init 123 = .ok (.bipush 6, 2) := by decide +kernel
theorem dX10_init_125 : decode cX10_init 125 = .ok (.newarray .int, 2) := by decide +kernel
theorem dX10_init_127 : decode cX10_init 127 = .ok (.putfield 56, 3) := by decide +kernel
theorem dX10_init_130 : decode cX10_init 130 = .ok (.aload_n 0, 1) := by decide +kernel
theorem dX10_init_131 : decode cX10_init 131 = .ok (.bipush 31, 2) := by decide +kernel
theorem dX10_init_133 : decode cX10_init 133 = .ok (.newarray .int, 2) := by decide +kernel
theorem dX10_init_135 : decode cX10_init 135 = .ok (.putfield 59, 3) := by decide +kernel
theorem dX10_init_138 : decode cX10_init 138 = .ok (.aload_n 0, 1) := by decide +kernel
theorem dX10_init_139 : decode cX10_init 139 = .ok (.sipush 279, 3) := by decide +kernel
theorem dX10_init_142 : decode cX10_init 142 = .ok (.newarray .int, 2) := by decide +kernel
theorem dX10_init_144 : decode cX10_init 144 = .ok (.putfield 62, 3) := by decide +kernel
theorem dX10_init_147 : decode cX10_init 147 = .ok (.aload_n 0, 1) := by decide +kernel
theorem dX10_init_148 : decode cX10_init 148 = .ok (.bipush 15, 2) := by decide +kernel
theorem dX10_init_150 : decode cX10_init 150 = .ok (.newarray .int, 2) := by decide +kernel
theorem dX10_init_152 : decode cX10_init 152 = .ok (.putfield 65, 3) := by decide +kernel
theorem dX10_init_155 : decode cX10_init 155 = .ok (.aload_n 0, 1) := by decide +kernel
theorem dX10_init_156 : decode cX10_init 156 = .ok (.bipush 15, 2) := by decide +kernel
theorem dX10_init_158 : decode cX10_init 158 = .ok (.newarray .int, 2) := by decide +kernel
theorem dX10_init_160 : decode cX10_init 160 = .ok (.putfield 68, 3) := by decide +kernel
theorem dX10_init_163 : decode cX10_init 163 = .ok (.aload_n 0, 1) := by decide +kernel
theorem dX10_init_164 : decode cX10_init 164 = .ok (.bipush 84, 2) := by decide +kernel
theorem dX10_init_166 : decode cX10_init 166 = .ok (.newarray .int, 2) := by decide +kernel
theorem dX10_init_168 : decode cX10_init 168 = .ok (.putfield 71, 3) := by decide +kernel
theorem dX10_init_171 : decode cX10_init 171 = .ok (.aload_n 0, 1) := by decide +kernel
theorem dX10_init_172 : decode cX10_init 172 = .ok (.iconst 2, 1) := by decide +kernel
theorem dX10_init_173 : decode cX10_init 173 = .ok (.newarray .boolean, 2) := by decide +kernel
theorem dX10_init_175 : decode cX10_init 175 = .ok (.putfield 74, 3) := by decide +kernel
theorem dX10_init_178 : decode cX10_init 178 = .ok (.aload_n 0, 1) := by decide +kernel
theorem dX10_init_179 : decode cX10_init 179 = .ok (.iconst 0, 1) := by decide +kernel
theorem dX10_init_180 : decode cX10_init 180 = .ok (.putfield 78, 3) := by decide +kernel
theorem dX10_init_183 : decode cX10_init 183 = .ok (.return_, 1) := by decide +kernel
theorem dX10_in_0 : decode cX10_in 0 = .ok (.lload_n 0, 1) := by decide +kernel
theorem dX10_in_1 : decode cX10_in 1 = .ok (.lload_n 2, 1) := by decide +kernel
theorem dX10_in_2 : decode cX10_in 2 = .ok (.lcmp, 1) := by decide +kernel
theorem dX10_in_3 : decode cX10_in 3 = .ok (.ifCond .lt 14, 3) := by decide +kernel
theorem dX10_in_6 : decode cX10_in 6 = .ok (.lload_n 0, 1) := by decide +kernel
theorem dX10_in_7 : decode cX10_in 7 = .ok (.lload 4, 2) := by decide +kernel
theorem dX10_in_9 : decode cX10_in 9 = .ok (.lcmp, 1) := by decide +kernel
theorem dX10_in_10 : decode cX10_in 10 = .ok (.ifCond .gt 7, 3) := by decide +kernel
theorem dX10_in_13 : decode cX10_in 13 = .ok (.iconst 1, 1) := by decide +kernel
theorem dX10_in_14 : decode cX10_in 14 = .ok (.goto 4, 3) := by decide +kernel
theorem dX10_in_17 : decode cX10_in 17 = .ok (.iconst 0, 1) := by decide +kernel
theorem dX10_in_18 : decode cX10_in 18 = .ok (.ireturn, 1) := by decide +kernel
theorem dX10_has_0 : decode cX10_has 0 = .ok (.iload_n 0, 1) := by decide +kernel
theorem dX10_has_1 : decode cX10_has 1 = .ok (.iload_n 1, 1) := by decide +kernel
theorem dX10_has_2 : decode cX10_has 2 = .ok (.ishr, 1) := by decide +kernel
theorem dX10_has_3 : decode cX10_has 3 = .ok (.iconst 1, 1) := by decide +kernel
theorem dX10_has_4 : decode cX10_has 4 = .ok (.iand, 1) := by decide +kernel
theorem dX10_has_5 : decode cX10_has 5 = .ok (.iconst 1, 1) := by decide +kernel
theorem dX10_has_6 : decode cX10_has 6 = .ok (.if_icmp .ne 7, 3) := by decide +kernel
theorem dX10_has_9 : decode cX10_has 9 = .ok (.iconst 1, 1) := by decide +kernel
theorem dX10_has_10 : decode cX10_has 10 = .ok (.goto 4, 3) := by decide +kernel
theorem dX10_has_13 : decode cX10_has 13 = .ok (.iconst 0, 1) := by decide +kernel
theorem dX10_has_14 : decode cX10_has 14 = .ok (.ireturn, 1) := by decide +kernel
theorem dX10_isCorner_0 : decode cX10_isCorner 0 = .ok (.iload_n 1, 1) := by decide +kernel
theorem dX10_isCorner_1 : decode cX10_isCorner 1 = .ok (.i2l, 1) := by decide +kernel
theorem dX10_isCorner_2 : decode cX10_isCorner 2 = .ok (.lconst 0, 1) := by decide +kernel
theorem dX10_isCorner_3 : decode cX10_isCorner 3 = .ok (.aload_n 0, 1) := by decide +kernel
theorem dX10_isCorner_4 : decode cX10_isCorner 4 = .ok (.getfield 78, 3) := by decide +kernel
theorem dX10_isCorner_7 : decode cX10_isCorner 7 = .ok (.iconst 1, 1) := by decide +kernel
theorem dX10_isCorner_8 : decode cX10_isCorner 8 = .ok (.isub, 1) := by decide +kernel
theorem dX10_isCorner_9 : decode cX10_isCorner 9 = .ok (.i2l, 1) := by decide +kernel
theorem dX10_isCorner_10 : decode cX10_isCorner 10 = .ok (.invokestatic 81, 3) := by decide +kernel
theorem dX10_isCorner_13 : decode cX10_isCorner 13 = .ok (.ireturn, 1) := by decide +kernel
theorem dX10_isCar_0 : decode cX10_isCar 0 = .ok (.iload_n 1, 1) := by decide +kernel
theorem dX10_isCar_1 : decode cX10_isCar 1 = .ok (.i2l, 1) := by decide +kernel
theorem dX10_isCar_2 : decode cX10_isCar 2 = .ok (.lconst 0, 1) := by decide +kernel
theorem dX10_isCar_3 : decode cX10_isCar 3 = .ok (.aload_n 0, 1) := by decide +kernel
theorem dX10_isCar_4 : decode cX10_isCar 4 = .ok (.getfield 85, 3) := by decide +kernel
theorem dX10_isCar_7 : decode cX10_isCar 7 = .ok (.iconst 1, 1) := by decide +kernel
theorem dX10_isCar_8 : decode cX10_isCar 8 = .ok (.isub, 1) := by decide +kernel
theorem dX10_isCar_9 : decode cX10_isCar 9 = .ok (.i2l, 1) := by decide +kernel
theorem dX10_isCar_10 : decode cX10_isCar 10 = .ok (.invokestatic 81, 3) := by decide +kernel
theorem dX10_isCar_13 : decode cX10_isCar 13 = .ok (.ireturn, 1) := by decide +kernel
theorem dX10_areTwo_0 : decode cX10_areTwo 0 = .ok (.aload_n 0, 1) := by decide +kernel
theorem dX10_areTwo_1 : decode cX10_areTwo 1 = .ok (.iload_n 1, 1) := by decide +kernel
theorem dX10_areTwo_2 : decode cX10_areTwo 2 = .ok (.invokevirtual 88, 3) := by decide +kernel
theorem dX10_areTwo_5 : decode cX10_areTwo 5 = .ok (.ifCond .eq 20, 3) := by decide +kernel
theorem dX10_areTwo_8 : decode cX10_areTwo 8 = .ok (.aload_n 0, 1) := by decide +kernel
theorem dX10_areTwo_9 : decode cX10_areTwo 9 = .ok (.iload_n 2, 1) := by decide +kernel
theorem dX10_areTwo_10 : decode cX10_areTwo 10 = .ok (.invokevirtual 88, 3) := by decide +kernel
theorem dX10_areTwo_13 : decode cX10_areTwo 13 = .ok (.ifCond .eq 12, 3) := by decide +kernel
theorem dX10_areTwo_16 : decode cX10_areTwo 16 = .ok (.iload_n 1, 1) := by decide +kernel
theorem dX10_areTwo_17 : decode cX10_areTwo 17 = .ok (.iload_n 2, 1) := by decide +kernel
theorem dX10_areTwo_18 : decode cX10_areTwo 18 = .ok (.if_icmp .eq 7, 3) := by decide +kernel
theorem dX10_areTwo_21 : decode cX10_areTwo 21 = .ok (.iconst 1, 1) := by decide +kernel
theorem dX10_areTwo_22 : decode cX10_areTwo 22 = .ok (.goto 4, 3) := by decide +kernel
theorem dX10_areTwo_25 : decode cX10_areTwo 25 = .ok (.iconst 0, 1) := by decide +kernel
theorem dX10_areTwo_26 : decode cX10_areTwo 26 = .ok (.ireturn, 1) := by decide +kernel
theorem dX10_feed_0 : decode cX10_feed 0 = .ok (.iload_n 1, 1) := by decide +kernel
theorem dX10_feed_1 : decode cX10_feed 1 = .ok (.i2l, 1) := by decide +kernel
theorem dX10_feed_2 : decode cX10_feed 2 = .ok (.lconst 0, 1) := by decide +kernel
theorem dX10_feed_3 : decode cX10_feed 3 = .ok (.ldc2_w 92, 3) := by decide +kernel
theorem dX10_feed_6 : decode cX10_feed 6 = .ok (.invokestatic 81, 3) := by decide +kernel
theorem dX10_feed_9 : decode cX10_feed 9 = .ok (.ifCond .ne 6, 3) := by decide +kernel
theorem dX10_feed_12 : decode cX10_feed 12 = .ok (.ldc 94, 2) := by decide +kernel
theorem dX10_feed_14 : decode cX10_feed 14 = .ok (.ireturn, 1) := by decide +kernel
theorem dX10_feed_15 : decode cX10_feed 15 = .ok (.aload_n 0, 1) := by decide +kernel
theorem dX10_feed_16 : decode cX10_feed 16 = .ok (.getfield 95, 3) := by decide +kernel
theorem dX10_feed_19 : decode cX10_feed 19 = .ok (.sipush 240, 3) := by decide +kernel
theorem dX10_feed_22 : decode cX10_feed 22 = .ok (.if_icmp .ne 6, 3) := by decide +kernel
theorem dX10_feed_25 : decode cX10_feed 25 = .ok (.ldc 98, 2) := by decide +kernel
theorem dX10_feed_27 : decode cX10_feed 27 = .ok (.ireturn, 1) := by decide +kernel
theorem dX10_feed_28 : decode cX10_feed 28 = .ok (.aload_n 0, 1) := by decide +kernel
theorem dX10_feed_29 : decode cX10_feed 29 = .ok (.getfield 19, 3) := by decide +kernel
theorem dX10_feed_32 : decode cX10_feed 32 = .ok (.aload_n 0, 1) := by decide +kernel
theorem dX10_feed_33 : decode cX10_feed 33 = .ok (.getfield 95, 3) := by decide +kernel
theorem dX10_feed_36 : decode cX10_feed 36 = .ok (.iload_n 1, 1) := by decide +kernel
theorem dX10_feed_37 : decode cX10_feed 37 = .ok (.iastore, 1) := by decide +kernel
theorem dX10_feed_38 : decode cX10_feed 38 = .ok (.aload_n 0, 1) := by decide +kernel
theorem dX10_feed_39 : decode cX10_feed 39 = .ok (.dup, 1) := by decide +kernel
theorem dX10_feed_40 : decode cX10_feed 40 = .ok (.getfield 95, 3) := by decide +kernel
theorem dX10_feed_43 : decode cX10_feed 43 = .ok (.iconst 1, 1) := by decide +kernel
theorem dX10_feed_44 : decode cX10_feed 44 = .ok (.iadd, 1) := by decide +kernel
theorem dX10_feed_45 : decode cX10_feed 45 = .ok (.putfield 95, 3) := by decide +kernel
theorem dX10_feed_48 : decode cX10_feed 48 = .ok (.aload_n 0, 1) := by decide +kernel
theorem dX10_feed_49 : decode cX10_feed 49 = .ok (.getfield 95, 3) := by decide +kernel
theorem dX10_feed_52 : decode cX10_feed 52 = .ok (.ireturn, 1) := by decide +kernel
theorem dX10_here_0 : decode cX10_here 0 = .ok (.aload_n 0, 1) := by decide +kernel
theorem dX10_here_1 : decode cX10_here 1 = .ok (.getfield 99, 3) := by decide +kernel
theorem dX10_here_4 : decode cX10_here 4 = .ok (.aload_n 0, 1) := by decide +kernel
theorem dX10_here_5 : decode cX10_here 5 = .ok (.getfield 95, 3) := by decide +kernel
theorem dX10_here_8 : decode cX10_here 8 = .ok (.if_icmp .ge 30, 3) := by decide +kernel
theorem dX10_here_11 : decode cX10_here 11 = .ok (.aload_n 0, 1) := by decide +kernel
theorem dX10_here_12 : decode cX10_here 12 = .ok (.getfield 19, 3) := by decide +kernel
theorem dX10_here_15 : decode cX10_here 15 = .ok (.aload_n 0, 1) := by decide +kernel
theorem dX10_here_16 : decode cX10_here 16 = .ok (.getfield 99, 3) := by decide +kernel
theorem dX10_here_19 : decode cX10_here 19 = .ok (.iaload, 1) := by decide +kernel
theorem dX10_here_20 : decode cX10_here 20 = .ok (.bipush 32, 2) := by decide +kernel
theorem dX10_here_22 : decode cX10_here 22 = .ok (.if_icmp .ne 16, 3) := by decide +kernel
theorem dX10_here_25 : decode cX10_here 25 = .ok (.aload_n 0, 1) := by decide +kernel
theorem dX10_here_26 : decode cX10_here 26 = .ok (.dup, 1) := by decide +kernel
theorem dX10_here_27 : decode cX10_here 27 = .ok (.getfield 99, 3) := by decide +kernel
theorem dX10_here_30 : decode cX10_here 30 = .ok (.iconst 1, 1) := by decide +kernel
theorem dX10_here_31 : decode cX10_here 31 = .ok (.iadd, 1) := by decide +kernel
theorem dX10_here_32 : decode cX10_here 32 = .ok (.putfield 99, 3) := by decide +kernel
theorem dX10_here_35 : decode cX10_here 35 = .ok (.goto (-35), 3) := by decide +kernel
theorem dX10_here_38 : decode cX10_here 38 = .ok (.aload_n 0, 1) := by decide +kernel
theorem dX10_here_39 : decode cX10_here 39 = .ok (.getfield 99, 3) := by decide +kernel
theorem dX10_here_42 : decode cX10_here 42 = .ok (.aload_n 0, 1) := by decide +kernel
theorem dX10_here_43 : decode cX10_here 43 = .ok (.getfield 95, 3) := by decide +kernel
theorem dX10_here_46 : decode cX10_here 46 = .ok (.if_icmp .ge 15, 3) := by decide +kernel
theorem dX10_here_49 : decode cX10_here 49 = .ok (.aload_n 0, 1) := by decide +kernel
theorem dX10_here_50 : decode cX10_here 50 = .ok (.getfield 19, 3) := by decide +kernel
theorem dX10_here_53 : decode cX10_here 53 = .ok (.aload_n 0, 1) := by decide +kernel
theorem dX10_here_54 : decode cX10_here 54 = .ok (.getfield 99, 3) := by decide +kernel
theorem dX10_here_57 : decode cX10_here 57 = .ok (.iaload, 1) := by decide +kernel
theorem dX10_here_58 : decode cX10_here 58 = .ok (.goto 4, 3) := by decide +kernel
theorem dX10_here_61 : decode cX10_here 61 = .ok (.iconst (-1), 1) := by decide +kernel
theorem dX10_here_62 : decode cX10_here 62 = .ok (.ireturn, 1) := by decide +kernel
theorem dX10_fails_0 : decode cX10_fails 0 = .ok (.aload_n 0, 1) := by decide +kernel
theorem dX10_fails_1 : decode cX10_fails 1 = .ok (.iload_n 2, 1) := by decide +kernel
theorem dX10_fails_2 : decode cX10_fails 2 = .ok (.putfield 22, 3) := by decide +kernel
theorem dX10_fails_5 : decode cX10_fails 5 = .ok (.iload_n 1, 1) := by decide +kernel
theorem dX10_fails_6 : decode cX10_fails 6 = .ok (.ireturn, 1) := by decide +kernel
theorem dX10_takeNumber_0 : decode cX10_takeNumber 0 = .ok (.aload_n 0, 1) := by decide +kernel
theorem dX10_takeNumber_1 : decode cX10_takeNumber 1 = .ok (.invokevirtual 102, 3) := by decide +kernel
theorem dX10_takeNumber_4 : decode cX10_takeNumber 4 = .ok (.istore_n 3, 1) := by decide +kernel
theorem dX10_takeNumber_5 : decode cX10_takeNumber 5 = .ok (.iload_n 3, 1) := by decide +kernel
theorem dX10_takeNumber_6 : decode cX10_takeNumber 6 = .ok (.i2l, 1) := by decide +kernel
theorem dX10_takeNumber_7 : decode cX10_takeNumber 7 = .ok (.ldc2_w 106, 3) := by decide +kernel
theorem dX10_takeNumber_10 : decode cX10_takeNumber 10 = .ok (.ldc2_w 108, 3) := by decide +kernel
theorem dX10_takeNumber_13 : decode cX10_takeNumber 13 = .ok (.invokestatic 81, 3) := by decide +kernel
theorem dX10_takeNumber_16 : decode cX10_takeNumber 16 = .ok (.ifCond .ne 13, 3) := by decide +kernel
theorem dX10_takeNumber_19 : decode cX10_takeNumber 19 = .ok (.aload_n 0, 1) := by decide +kernel
theorem dX10_takeNumber_20 : decode cX10_takeNumber 20 = .ok (.iconst 1, 1) := by decide +kernel
theorem dX10_takeNumber_21 : decode cX10_takeNumber 21 = .ok (.aload_n 0, 1) := by decide +kernel
theorem dX10_takeNumber_22 : decode cX10_takeNumber 22 = .ok (.getfield 99, 3) := by decide +kernel
theorem dX10_takeNumber_25 : decode cX10_takeNumber 25 = .ok (.invokevirtual 110, 3) := by decide +kernel
theorem dX10_takeNumber_28 : decode cX10_takeNumber 28 = .ok (.ireturn, 1) := by decide +kernel
theorem dX10_takeNumber_29 : decode cX10_takeNumber 29 = .ok (.aload_n 0, 1) := by decide +kernel
theorem dX10_takeNumber_30 : decode cX10_takeNumber 30 = .ok (.aload_n 0, 1) := by decide +kernel
theorem dX10_takeNumber_31 : decode cX10_takeNumber 31 = .ok (.getfield 99, 3) := by decide +kernel
theorem dX10_takeNumber_34 : decode cX10_takeNumber 34 = .ok (.putfield 114, 3) := by decide +kernel
theorem dX10_takeNumber_37 : decode cX10_takeNumber 37 = .ok (.aload_n 0, 1) := by decide +kernel
theorem dX10_takeNumber_38 : decode cX10_takeNumber 38 = .ok (.iconst 0, 1) := by decide +kernel
theorem dX10_takeNumber_39 : decode cX10_takeNumber 39 = .ok (.putfield 117, 3) := by decide +kernel
theorem dX10_takeNumber_42 : decode cX10_takeNumber 42 = .ok (.aload_n 0, 1) := by decide +kernel
theorem dX10_takeNumber_43 : decode cX10_takeNumber 43 = .ok (.getfield 99, 3) := by decide +kernel
theorem dX10_takeNumber_46 : decode cX10_takeNumber 46 = .ok (.aload_n 0, 1) := by decide +kernel
theorem dX10_takeNumber_47 : decode cX10_takeNumber 47 = .ok (.getfield 95, 3) := by decide +kernel
theorem dX10_takeNumber_50 : decode cX10_takeNumber 50 = .ok (.if_icmp .ge 78, 3) := by decide +kernel
theorem dX10_takeNumber_53 : decode cX10_takeNumber 53 = .ok (.aload_n 0, 1) := by decide +kernel
theorem dX10_takeNumber_54 : decode cX10_takeNumber 54 = .ok (.getfield 19, 3) := by decide +kernel
theorem dX10_takeNumber_57 : decode cX10_takeNumber 57 = .ok (.aload_n 0, 1) := by decide +kernel
theorem dX10_takeNumber_58 : decode cX10_takeNumber 58 = .ok (.getfield 99, 3) := by decide +kernel
theorem dX10_takeNumber_61 : decode cX10_takeNumber 61 = .ok (.iaload, 1) := by decide +kernel
theorem dX10_takeNumber_62 : decode cX10_takeNumber 62 = .ok (.i2l, 1) := by decide +kernel
theorem dX10_takeNumber_63 : decode cX10_takeNumber 63 = .ok (.ldc2_w 106, 3) := by decide +kernel
theorem dX10_takeNumber_66 : decode cX10_takeNumber 66 = .ok (.ldc2_w 108, 3) := by decide +kernel
theorem dX10_takeNumber_69 : decode cX10_takeNumber 69 = .ok (.invokestatic 81, 3) := by decide +kernel
theorem dX10_takeNumber_72 : decode cX10_takeNumber 72 = .ok (.ifCond .eq 56, 3) := by decide +kernel
theorem dX10_takeNumber_75 : decode cX10_takeNumber 75 = .ok (.aload_n 0, 1) := by decide +kernel
theorem dX10_takeNumber_76 : decode cX10_takeNumber 76 = .ok (.aload_n 0, 1) := by decide +kernel
theorem dX10_takeNumber_77 : decode cX10_takeNumber 77 = .ok (.getfield 117, 3) := by decide +kernel
theorem dX10_takeNumber_80 : decode cX10_takeNumber 80 = .ok (.ldc 120, 2) := by decide +kernel
theorem dX10_takeNumber_82 : decode cX10_takeNumber 82 = .ok (.if_icmp .le 10, 3) := by decide +kernel
theorem dX10_takeNumber_85 : decode cX10_takeNumber 85 = .ok (.aload_n 0, 1) := by decide +kernel
theorem dX10_takeNumber_86 : decode cX10_takeNumber 86 = .ok (.getfield 117, 3) := by decide +kernel
theorem dX10_takeNumber_89 : decode cX10_takeNumber 89 = .ok (.goto 23, 3) := by decide +kernel
theorem dX10_takeNumber_92 : decode cX10_takeNumber 92 = .ok (.bipush 10, 2) := by decide +kernel
theorem dX10_takeNumber_94 : decode cX10_takeNumber 94 = .ok (.aload_n 0, 1) := by decide +kernel
theorem dX10_takeNumber_95 : decode cX10_takeNumber 95 = .ok (.getfield 117, 3) := by decide +kernel
theorem dX10_takeNumber_98 : decode cX10_takeNumber 98 = .ok (.imul, 1) := by decide +kernel
theorem dX10_takeNumber_99 : decode cX10_takeNumber 99 = .ok (.aload_n 0, 1) := by decide +kernel
theorem dX10_takeNumber_100 : decode cX10_takeNumber 100 = .ok (.getfield 19, 3) := by decide +kernel
theorem dX10_takeNumber_103 : decode cX10_takeNumber 103 = .ok (.aload_n 0, 1) := by decide +kernel
theorem dX10_takeNumber_104 : decode cX10_takeNumber 104 = .ok (.getfield 99, 3) := by decide +kernel
theorem dX10_takeNumber_107 : decode cX10_takeNumber 107 = .ok (.iaload, 1) := by decide +kernel
theorem dX10_takeNumber_108 : decode cX10_takeNumber 108 = .ok (.iadd, 1) := by decide +kernel
theorem dX10_takeNumber_109 : decode cX10_takeNumber 109 = .ok (.bipush 48, 2) := by decide +kernel
theorem dX10_takeNumber_111 : decode cX10_takeNumber 111 = .ok (.isub, 1) := by decide +kernel
theorem dX10_takeNumber_112 : decode cX10_takeNumber 112 = .ok (.putfield 117, 3) := by decide +kernel
theorem dX10_takeNumber_115 : decode cX10_takeNumber 115 = .ok (.aload_n 0, 1) := by decide +kernel
theorem dX10_takeNumber_116 : decode cX10_takeNumber 116 = .ok (.dup, 1) := by decide +kernel
theorem dX10_takeNumber_117 : decode cX10_takeNumber 117 = .ok (.getfield 99, 3) := by decide +kernel
theorem dX10_takeNumber_120 : decode cX10_takeNumber 120 = .ok (.iconst 1, 1) := by decide +kernel
theorem dX10_takeNumber_121 : decode cX10_takeNumber 121 = .ok (.iadd, 1) := by decide +kernel
theorem dX10_takeNumber_122 : decode cX10_takeNumber 122 = .ok (.putfield 99, 3) := by decide +kernel
theorem dX10_takeNumber_125 : decode cX10_takeNumber 125 = .ok (.goto (-83), 3) := by decide +kernel
theorem dX10_takeNumber_128 : decode cX10_takeNumber 128 = .ok (.aload_n 0, 1) := by decide +kernel
theorem dX10_takeNumber_129 : decode cX10_takeNumber 129 = .ok (.getfield 99, 3) := by decide +kernel
theorem dX10_takeNumber_132 : decode cX10_takeNumber 132 = .ok (.aload_n 0, 1) := by decide +kernel
theorem dX10_takeNumber_133 : decode cX10_takeNumber 133 = .ok (.getfield 114, 3) := by decide +kernel
theorem dX10_takeNumber_136 : decode cX10_takeNumber 136 = .ok (.isub, 1) := by decide +kernel
theorem dX10_takeNumber_137 : decode cX10_takeNumber 137 = .ok (.bipush 6, 2) := by decide +kernel
theorem dX10_takeNumber_139 : decode cX10_takeNumber 139 = .ok (.if_icmp .gt 18, 3) := by decide +kernel
theorem dX10_takeNumber_142 : decode cX10_takeNumber 142 = .ok (.aload_n 0, 1) := by decide +kernel
theorem dX10_takeNumber_143 : decode cX10_takeNumber 143 = .ok (.getfield 117, 3) := by decide +kernel
theorem dX10_takeNumber_146 : decode cX10_takeNumber 146 = .ok (.i2l, 1) := by decide +kernel
theorem dX10_takeNumber_147 : decode cX10_takeNumber 147 = .ok (.iload_n 1, 1) := by decide +kernel
theorem dX10_takeNumber_148 : decode cX10_takeNumber 148 = .ok (.i2l, 1) := by decide +kernel
theorem dX10_takeNumber_149 : decode cX10_takeNumber 149 = .ok (.iload_n 2, 1) := by decide +kernel
theorem dX10_takeNumber_150 : decode cX10_takeNumber 150 = .ok (.i2l, 1) := by decide +kernel
theorem dX10_takeNumber_151 : decode cX10_takeNumber 151 = .ok (.invokestatic 81, 3) := by decide +kernel
theorem dX10_takeNumber_154 : decode cX10_takeNumber 154 = .ok (.ifCond .ne 15, 3) := by decide +kernel
theorem dX10_takeNumber_157 : decode cX10_takeNumber 157 = .ok (.aload_n 0, 1) := by decide +kernel
theorem dX10_takeNumber_158 : decode cX10_takeNumber 158 = .ok (.iconst 2, 1) := by decide +kernel
theorem dX10_takeNumber_159 : decode cX10_takeNumber 159 = .ok (.aload_n 0, 1) := by decide +kernel
theorem dX10_takeNumber_160 : decode cX10_takeNumber 160 = .ok (.getfield 114, 3) := by decide +kernel
theorem dX10_takeNumber_163 : decode cX10_takeNumber 163 = .ok (.invokevirtual 110, 3) := by decide +kernel
theorem dX10_takeNumber_166 : decode cX10_takeNumber 166 = .ok (.goto 4, 3) := by decide +kernel
theorem dX10_takeNumber_169 : decode cX10_takeNumber 169 = .ok (.iconst 0, 1) := by decide +kernel
theorem dX10_takeNumber_170 : decode cX10_takeNumber 170 = .ok (.ireturn, 1) := by decide +kernel
theorem dX10_into_0 : decode cX10_into 0 = .ok (.aload_n 0, 1) := by decide +kernel
theorem dX10_into_1 : decode cX10_into 1 = .ok (.iload_n 3, 1) := by decide +kernel
theorem dX10_into_2 : decode cX10_into 2 = .ok (.iload 4, 2) := by decide +kernel
theorem dX10_into_4 : decode cX10_into 4 = .ok (.invokevirtual 121, 3) := by decide +kernel
theorem dX10_into_7 : decode cX10_into 7 = .ok (.istore 5, 2) := by decide +kernel
