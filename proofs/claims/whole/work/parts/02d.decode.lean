theorem dX10_stop_1 : decode cX10_stop 1 = .ok (.istore_n 1, 1) := by decide +kernel
theorem dX10_stop_2 : decode cX10_stop 2 = .ok (.iconst 0, 1) := by decide +kernel
theorem dX10_stop_3 : decode cX10_stop 3 = .ok (.istore_n 2, 1) := by decide +kernel
theorem dX10_stop_4 : decode cX10_stop 4 = .ok (.iload_n 2, 1) := by decide +kernel
theorem dX10_stop_5 : decode cX10_stop 5 = .ok (.aload_n 0, 1) := by decide +kernel
theorem dX10_stop_6 : decode cX10_stop 6 = .ok (.getfield 85, 3) := by decide +kernel
theorem dX10_stop_9 : decode cX10_stop 9 = .ok (.if_icmp .ge 37, 3) := by decide +kernel
theorem dX10_stop_12 : decode cX10_stop 12 = .ok (.aload_n 0, 1) := by decide +kernel
theorem dX10_stop_13 : decode cX10_stop 13 = .ok (.iload_n 2, 1) := by decide +kernel
theorem dX10_stop_14 : decode cX10_stop 14 = .ok (.invokevirtual 166, 3) := by decide +kernel
theorem dX10_stop_17 : decode cX10_stop 17 = .ok (.istore_n 3, 1) := by decide +kernel
theorem dX10_stop_18 : decode cX10_stop 18 = .ok (.iload_n 1, 1) := by decide +kernel
theorem dX10_stop_19 : decode cX10_stop 19 = .ok (.iload_n 3, 1) := by decide +kernel
theorem dX10_stop_20 : decode cX10_stop 20 = .ok (.ifCond .eq 17, 3) := by decide +kernel
theorem dX10_stop_23 : decode cX10_stop 23 = .ok (.iload_n 3, 1) := by decide +kernel
theorem dX10_stop_24 : decode cX10_stop 24 = .ok (.invokestatic 170, 3) := by decide +kernel
theorem dX10_stop_27 : decode cX10_stop 27 = .ok (.iload_n 2, 1) := by decide +kernel
theorem dX10_stop_28 : decode cX10_stop 28 = .ok (.if_icmp .ne 9, 3) := by decide +kernel
theorem dX10_stop_31 : decode cX10_stop 31 = .ok (.iconst 1, 1) := by decide +kernel
theorem dX10_stop_32 : decode cX10_stop 32 = .ok (.iload_n 2, 1) := by decide +kernel
theorem dX10_stop_33 : decode cX10_stop 33 = .ok (.ishl, 1) := by decide +kernel
theorem dX10_stop_34 : decode cX10_stop 34 = .ok (.goto 4, 3) := by decide +kernel
theorem dX10_stop_37 : decode cX10_stop 37 = .ok (.iconst 0, 1) := by decide +kernel
theorem dX10_stop_38 : decode cX10_stop 38 = .ok (.ior, 1) := by decide +kernel
theorem dX10_stop_39 : decode cX10_stop 39 = .ok (.istore_n 1, 1) := by decide +kernel
theorem dX10_stop_40 : decode cX10_stop 40 = .ok (.iinc 2 1, 3) := by decide +kernel
theorem dX10_stop_43 : decode cX10_stop 43 = .ok (.goto (-39), 3) := by decide +kernel
theorem dX10_stop_46 : decode cX10_stop 46 = .ok (.iload_n 1, 1) := by decide +kernel
theorem dX10_stop_47 : decode cX10_stop 47 = .ok (.ireturn, 1) := by decide +kernel
theorem dX10_cross_0 : decode cX10_cross 0 = .ok (.aload_n 0, 1) := by decide +kernel
theorem dX10_cross_1 : decode cX10_cross 1 = .ok (.iload_n 1, 1) := by decide +kernel
theorem dX10_cross_2 : decode cX10_cross 2 = .ok (.invokevirtual 235, 3) := by decide +kernel
theorem dX10_cross_5 : decode cX10_cross 5 = .ok (.ifCond .ne 6, 3) := by decide +kernel
theorem dX10_cross_8 : decode cX10_cross 8 = .ok (.ldc 188, 2) := by decide +kernel
theorem dX10_cross_10 : decode cX10_cross 10 = .ok (.ireturn, 1) := by decide +kernel
theorem dX10_cross_11 : decode cX10_cross 11 = .ok (.iload_n 2, 1) := by decide +kernel
theorem dX10_cross_12 : decode cX10_cross 12 = .ok (.i2l, 1) := by decide +kernel
theorem dX10_cross_13 : decode cX10_cross 13 = .ok (.lconst 1, 1) := by decide +kernel
theorem dX10_cross_14 : decode cX10_cross 14 = .ok (.ldc2_w 238, 3) := by decide +kernel
theorem dX10_cross_17 : decode cX10_cross 17 = .ok (.invokestatic 81, 3) := by decide +kernel
theorem dX10_cross_20 : decode cX10_cross 20 = .ok (.ifCond .ne 6, 3) := by decide +kernel
theorem dX10_cross_23 : decode cX10_cross 23 = .ok (.ldc 94, 2) := by decide +kernel
theorem dX10_cross_25 : decode cX10_cross 25 = .ok (.ireturn, 1) := by decide +kernel
theorem dX10_cross_26 : decode cX10_cross 26 = .ok (.aload_n 0, 1) := by decide +kernel
theorem dX10_cross_27 : decode cX10_cross 27 = .ok (.invokevirtual 225, 3) := by decide +kernel
theorem dX10_cross_30 : decode cX10_cross 30 = .ok (.iconst 0, 1) := by decide +kernel
theorem dX10_cross_31 : decode cX10_cross 31 = .ok (.istore_n 3, 1) := by decide +kernel
theorem dX10_cross_32 : decode cX10_cross 32 = .ok (.iconst (-1), 1) := by decide +kernel
theorem dX10_cross_33 : decode cX10_cross 33 = .ok (.istore 4, 2) := by decide +kernel
theorem dX10_cross_35 : decode cX10_cross 35 = .ok (.iconst 0, 1) := by decide +kernel
theorem dX10_cross_36 : decode cX10_cross 36 = .ok (.istore 5, 2) := by decide +kernel
theorem dX10_cross_38 : decode cX10_cross 38 = .ok (.iload 5, 2) := by decide +kernel
theorem dX10_cross_40 : decode cX10_cross 40 = .ok (.sipush 200, 3) := by decide +kernel
theorem dX10_cross_43 : decode cX10_cross 43 = .ok (.iload_n 2, 1) := by decide +kernel
theorem dX10_cross_44 : decode cX10_cross 44 = .ok (.iadd, 1) := by decide +kernel
theorem dX10_cross_45 : decode cX10_cross 45 = .ok (.if_icmp .ge 54, 3) := by decide +kernel
theorem dX10_cross_48 : decode cX10_cross 48 = .ok (.iload 4, 2) := by decide +kernel
theorem dX10_cross_50 : decode cX10_cross 50 = .ok (.ifCond .ge 49, 3) := by decide +kernel
theorem dX10_cross_53 : decode cX10_cross 53 = .ok (.aload_n 0, 1) := by decide +kernel
theorem dX10_cross_54 : decode cX10_cross 54 = .ok (.invokevirtual 176, 3) := by decide +kernel
theorem dX10_cross_57 : decode cX10_cross 57 = .ok (.iload_n 1, 1) := by decide +kernel
theorem dX10_cross_58 : decode cX10_cross 58 = .ok (.invokestatic 162, 3) := by decide +kernel
theorem dX10_cross_61 : decode cX10_cross 61 = .ok (.ifCond .eq 7, 3) := by decide +kernel
theorem dX10_cross_64 : decode cX10_cross 64 = .ok (.iconst 0, 1) := by decide +kernel
theorem dX10_cross_65 : decode cX10_cross 65 = .ok (.goto 6, 3) := by decide +kernel
theorem dX10_cross_68 : decode cX10_cross 68 = .ok (.iload_n 3, 1) := by decide +kernel
theorem dX10_cross_69 : decode cX10_cross 69 = .ok (.iconst 1, 1) := by decide +kernel
theorem dX10_cross_70 : decode cX10_cross 70 = .ok (.iadd, 1) := by decide +kernel
theorem dX10_cross_71 : decode cX10_cross 71 = .ok (.istore_n 3, 1) := by decide +kernel
theorem dX10_cross_72 : decode cX10_cross 72 = .ok (.iload_n 3, 1) := by decide +kernel
theorem dX10_cross_73 : decode cX10_cross 73 = .ok (.iload_n 2, 1) := by decide +kernel
theorem dX10_cross_74 : decode cX10_cross 74 = .ok (.if_icmp .ne 12, 3) := by decide +kernel
theorem dX10_cross_77 : decode cX10_cross 77 = .ok (.iload 5, 2) := by decide +kernel
theorem dX10_cross_79 : decode cX10_cross 79 = .ok (.iload_n 2, 1) := by decide +kernel
theorem dX10_cross_80 : decode cX10_cross 80 = .ok (.isub, 1) := by decide +kernel
theorem dX10_cross_81 : decode cX10_cross 81 = .ok (.iconst 1, 1) := by decide +kernel
theorem dX10_cross_82 : decode cX10_cross 82 = .ok (.iadd, 1) := by decide +kernel
theorem dX10_cross_83 : decode cX10_cross 83 = .ok (.goto 4, 3) := by decide +kernel
theorem dX10_cross_86 : decode cX10_cross 86 = .ok (.iconst (-1), 1) := by decide +kernel
theorem dX10_cross_87 : decode cX10_cross 87 = .ok (.istore 4, 2) := by decide +kernel
theorem dX10_cross_89 : decode cX10_cross 89 = .ok (.aload_n 0, 1) := by decide +kernel
theorem dX10_cross_90 : decode cX10_cross 90 = .ok (.invokevirtual 201, 3) := by decide +kernel
theorem dX10_cross_93 : decode cX10_cross 93 = .ok (.iinc 5 1, 3) := by decide +kernel
theorem dX10_cross_96 : decode cX10_cross 96 = .ok (.goto (-58), 3) := by decide +kernel
theorem dX10_cross_99 : decode cX10_cross 99 = .ok (.aload_n 0, 1) := by decide +kernel
theorem dX10_cross_100 : decode cX10_cross 100 = .ok (.invokevirtual 232, 3) := by decide +kernel
theorem dX10_cross_103 : decode cX10_cross 103 = .ok (.iload 4, 2) := by decide +kernel
theorem dX10_cross_105 : decode cX10_cross 105 = .ok (.ireturn, 1) := by decide +kernel
theorem dX10_handedOn_0 : decode cX10_handedOn 0 = .ok (.iconst 0, 1) := by decide +kernel
theorem dX10_handedOn_1 : decode cX10_handedOn 1 = .ok (.istore_n 2, 1) := by decide +kernel
theorem dX10_handedOn_2 : decode cX10_handedOn 2 = .ok (.iconst 0, 1) := by decide +kernel
theorem dX10_handedOn_3 : decode cX10_handedOn 3 = .ok (.istore_n 3, 1) := by decide +kernel
theorem dX10_handedOn_4 : decode cX10_handedOn 4 = .ok (.iload_n 3, 1) := by decide +kernel
theorem dX10_handedOn_5 : decode cX10_handedOn 5 = .ok (.aload_n 0, 1) := by decide +kernel
theorem dX10_handedOn_6 : decode cX10_handedOn 6 = .ok (.getfield 85, 3) := by decide +kernel
theorem dX10_handedOn_9 : decode cX10_handedOn 9 = .ok (.if_icmp .ge 32, 3) := by decide +kernel
theorem dX10_handedOn_12 : decode cX10_handedOn 12 = .ok (.iload_n 2, 1) := by decide +kernel
theorem dX10_handedOn_13 : decode cX10_handedOn 13 = .ok (.iload_n 1, 1) := by decide +kernel
theorem dX10_handedOn_14 : decode cX10_handedOn 14 = .ok (.iload_n 3, 1) := by decide +kernel
theorem dX10_handedOn_15 : decode cX10_handedOn 15 = .ok (.invokestatic 162, 3) := by decide +kernel
theorem dX10_handedOn_18 : decode cX10_handedOn 18 = .ok (.ifCond .eq 14, 3) := by decide +kernel
theorem dX10_handedOn_21 : decode cX10_handedOn 21 = .ok (.iconst 1, 1) := by decide +kernel
theorem dX10_handedOn_22 : decode cX10_handedOn 22 = .ok (.aload_n 0, 1) := by decide +kernel
theorem dX10_handedOn_23 : decode cX10_handedOn 23 = .ok (.getfield 16, 3) := by decide +kernel
theorem dX10_handedOn_26 : decode cX10_handedOn 26 = .ok (.iload_n 3, 1) := by decide +kernel
theorem dX10_handedOn_27 : decode cX10_handedOn 27 = .ok (.iaload, 1) := by decide +kernel
theorem dX10_handedOn_28 : decode cX10_handedOn 28 = .ok (.ishl, 1) := by decide +kernel
theorem dX10_handedOn_29 : decode cX10_handedOn 29 = .ok (.goto 4, 3) := by decide +kernel
theorem dX10_handedOn_32 : decode cX10_handedOn 32 = .ok (.iconst 0, 1) := by decide +kernel
theorem dX10_handedOn_33 : decode cX10_handedOn 33 = .ok (.ior, 1) := by decide +kernel
theorem dX10_handedOn_34 : decode cX10_handedOn 34 = .ok (.istore_n 2, 1) := by decide +kernel
theorem dX10_handedOn_35 : decode cX10_handedOn 35 = .ok (.iinc 3 1, 3) := by decide +kernel
theorem dX10_handedOn_38 : decode cX10_handedOn 38 = .ok (.goto (-34), 3) := by decide +kernel
theorem dX10_handedOn_41 : decode cX10_handedOn 41 = .ok (.iconst 0, 1) := by decide +kernel
theorem dX10_handedOn_42 : decode cX10_handedOn 42 = .ok (.istore_n 3, 1) := by decide +kernel
theorem dX10_handedOn_43 : decode cX10_handedOn 43 = .ok (.iconst 0, 1) := by decide +kernel
theorem dX10_handedOn_44 : decode cX10_handedOn 44 = .ok (.istore 4, 2) := by decide +kernel
theorem dX10_handedOn_46 : decode cX10_handedOn 46 = .ok (.iload 4, 2) := by decide +kernel
theorem dX10_handedOn_48 : decode cX10_handedOn 48 = .ok (.aload_n 0, 1) := by decide +kernel
theorem dX10_handedOn_49 : decode cX10_handedOn 49 = .ok (.getfield 85, 3) := by decide +kernel
theorem dX10_handedOn_52 : decode cX10_handedOn 52 = .ok (.if_icmp .ge 34, 3) := by decide +kernel
theorem dX10_handedOn_55 : decode cX10_handedOn 55 = .ok (.iload_n 3, 1) := by decide +kernel
theorem dX10_handedOn_56 : decode cX10_handedOn 56 = .ok (.iload_n 2, 1) := by decide +kernel
theorem dX10_handedOn_57 : decode cX10_handedOn 57 = .ok (.aload_n 0, 1) := by decide +kernel
theorem dX10_handedOn_58 : decode cX10_handedOn 58 = .ok (.getfield 16, 3) := by decide +kernel
theorem dX10_handedOn_61 : decode cX10_handedOn 61 = .ok (.iload 4, 2) := by decide +kernel
theorem dX10_handedOn_63 : decode cX10_handedOn 63 = .ok (.iaload, 1) := by decide +kernel
theorem dX10_handedOn_64 : decode cX10_handedOn 64 = .ok (.invokestatic 162, 3) := by decide +kernel
theorem dX10_handedOn_67 : decode cX10_handedOn 67 = .ok (.ifCond .eq 10, 3) := by decide +kernel
theorem dX10_handedOn_70 : decode cX10_handedOn 70 = .ok (.iconst 1, 1) := by decide +kernel
theorem dX10_handedOn_71 : decode cX10_handedOn 71 = .ok (.iload 4, 2) := by decide +kernel
theorem dX10_handedOn_73 : decode cX10_handedOn 73 = .ok (.ishl, 1) := by decide +kernel
theorem dX10_handedOn_74 : decode cX10_handedOn 74 = .ok (.goto 4, 3) := by decide +kernel
theorem dX10_handedOn_77 : decode cX10_handedOn 77 = .ok (.iconst 0, 1) := by decide +kernel
theorem dX10_handedOn_78 : decode cX10_handedOn 78 = .ok (.ior, 1) := by decide +kernel
theorem dX10_handedOn_79 : decode cX10_handedOn 79 = .ok (.istore_n 3, 1) := by decide +kernel
theorem dX10_handedOn_80 : decode cX10_handedOn 80 = .ok (.iinc 4 1, 3) := by decide +kernel
theorem dX10_handedOn_83 : decode cX10_handedOn 83 = .ok (.goto (-37), 3) := by decide +kernel
theorem dX10_handedOn_86 : decode cX10_handedOn 86 = .ok (.iload_n 3, 1) := by decide +kernel
theorem dX10_handedOn_87 : decode cX10_handedOn 87 = .ok (.ireturn, 1) := by decide +kernel
theorem dX10_handed_0 : decode cX10_handed 0 = .ok (.aload_n 0, 1) := by decide +kernel
theorem dX10_handed_1 : decode cX10_handed 1 = .ok (.iload_n 1, 1) := by decide +kernel
theorem dX10_handed_2 : decode cX10_handed 2 = .ok (.iload_n 2, 1) := by decide +kernel
theorem dX10_handed_3 : decode cX10_handed 3 = .ok (.invokevirtual 204, 3) := by decide +kernel
theorem dX10_handed_6 : decode cX10_handed 6 = .ok (.ifCond .ne 6, 3) := by decide +kernel
theorem dX10_handed_9 : decode cX10_handed 9 = .ok (.ldc 188, 2) := by decide +kernel
theorem dX10_handed_11 : decode cX10_handed 11 = .ok (.ireturn, 1) := by decide +kernel
theorem dX10_handed_12 : decode cX10_handed 12 = .ok (.aload_n 0, 1) := by decide +kernel
theorem dX10_handed_13 : decode cX10_handed 13 = .ok (.invokevirtual 225, 3) := by decide +kernel
theorem dX10_handed_16 : decode cX10_handed 16 = .ok (.aload_n 0, 1) := by decide +kernel
theorem dX10_handed_17 : decode cX10_handed 17 = .ok (.iconst 1, 1) := by decide +kernel
theorem dX10_handed_18 : decode cX10_handed 18 = .ok (.iload_n 1, 1) := by decide +kernel
theorem dX10_handed_19 : decode cX10_handed 19 = .ok (.ishl, 1) := by decide +kernel
theorem dX10_handed_20 : decode cX10_handed 20 = .ok (.invokevirtual 240, 3) := by decide +kernel
theorem dX10_handed_23 : decode cX10_handed 23 = .ok (.istore_n 3, 1) := by decide +kernel
theorem dX10_handed_24 : decode cX10_handed 24 = .ok (.iconst 0, 1) := by decide +kernel
theorem dX10_handed_25 : decode cX10_handed 25 = .ok (.istore 4, 2) := by decide +kernel
theorem dX10_handed_27 : decode cX10_handed 27 = .ok (.iload_n 3, 1) := by decide +kernel
theorem dX10_handed_28 : decode cX10_handed 28 = .ok (.iload_n 2, 1) := by decide +kernel
theorem dX10_handed_29 : decode cX10_handed 29 = .ok (.invokestatic 162, 3) := by decide +kernel
theorem dX10_handed_32 : decode cX10_handed 32 = .ok (.ifCond .ne 27, 3) := by decide +kernel
theorem dX10_handed_35 : decode cX10_handed 35 = .ok (.iload 4, 2) := by decide +kernel
theorem dX10_handed_37 : decode cX10_handed 37 = .ok (.sipush 200, 3) := by decide +kernel
theorem dX10_handed_40 : decode cX10_handed 40 = .ok (.if_icmp .gt 19, 3) := by decide +kernel
theorem dX10_handed_43 : decode cX10_handed 43 = .ok (.aload_n 0, 1) := by decide +kernel
theorem dX10_handed_44 : decode cX10_handed 44 = .ok (.invokevirtual 201, 3) := by decide +kernel
theorem dX10_handed_47 : decode cX10_handed 47 = .ok (.aload_n 0, 1) := by decide +kernel
theorem dX10_handed_48 : decode cX10_handed 48 = .ok (.iload_n 3, 1) := by decide +kernel
theorem dX10_handed_49 : decode cX10_handed 49 = .ok (.invokevirtual 240, 3) := by decide +kernel
theorem dX10_handed_52 : decode cX10_handed 52 = .ok (.istore_n 3, 1) := by decide +kernel
theorem dX10_handed_53 : decode cX10_handed 53 = .ok (.iinc 4 1, 3) := by decide +kernel
theorem dX10_handed_56 : decode cX10_handed 56 = .ok (.goto (-29), 3) := by decide +kernel
theorem dX10_handed_59 : decode cX10_handed 59 = .ok (.aload_n 0, 1) := by decide +kernel
theorem dX10_handed_60 : decode cX10_handed 60 = .ok (.invokevirtual 232, 3) := by decide +kernel
theorem dX10_handed_63 : decode cX10_handed 63 = .ok (.iload 4, 2) := by decide +kernel
theorem dX10_handed_65 : decode cX10_handed 65 = .ok (.sipush 200, 3) := by decide +kernel
theorem dX10_handed_68 : decode cX10_handed 68 = .ok (.if_icmp .gt 8, 3) := by decide +kernel
theorem dX10_handed_71 : decode cX10_handed 71 = .ok (.iload 4, 2) := by decide +kernel
theorem dX10_handed_73 : decode cX10_handed 73 = .ok (.goto 4, 3) := by decide +kernel
theorem dX10_handed_76 : decode cX10_handed 76 = .ok (.iconst (-1), 1) := by decide +kernel
theorem dX10_handed_77 : decode cX10_handed 77 = .ok (.ireturn, 1) := by decide +kernel
theorem dX10_meets_0 : decode cX10_meets 0 = .ok (.iload_n 1, 1) := by decide +kernel
theorem dX10_meets_1 : decode cX10_meets 1 = .ok (.i2l, 1) := by decide +kernel
theorem dX10_meets_2 : decode cX10_meets 2 = .ok (.lconst 0, 1) := by decide +kernel
theorem dX10_meets_3 : decode cX10_meets 3 = .ok (.ldc2_w 223, 3) := by decide +kernel
theorem dX10_meets_6 : decode cX10_meets 6 = .ok (.invokestatic 81, 3) := by decide +kernel
theorem dX10_meets_9 : decode cX10_meets 9 = .ok (.ifCond .ne 6, 3) := by decide +kernel
theorem dX10_meets_12 : decode cX10_meets 12 = .ok (.ldc 94, 2) := by decide +kernel
theorem dX10_meets_14 : decode cX10_meets 14 = .ok (.ireturn, 1) := by decide +kernel
theorem dX10_meets_15 : decode cX10_meets 15 = .ok (.aload_n 0, 1) := by decide +kernel
theorem dX10_meets_16 : decode cX10_meets 16 = .ok (.invokevirtual 225, 3) := by decide +kernel
theorem dX10_meets_19 : decode cX10_meets 19 = .ok (.aload_n 0, 1) := by decide +kernel
theorem dX10_meets_20 : decode cX10_meets 20 = .ok (.iload_n 1, 1) := by decide +kernel
theorem dX10_meets_21 : decode cX10_meets 21 = .ok (.invokevirtual 228, 3) := by decide +kernel
theorem dX10_meets_24 : decode cX10_meets 24 = .ok (.iconst 0, 1) := by decide +kernel
theorem dX10_meets_25 : decode cX10_meets 25 = .ok (.istore_n 2, 1) := by decide +kernel
theorem dX10_meets_26 : decode cX10_meets 26 = .ok (.iconst 0, 1) := by decide +kernel
theorem dX10_meets_27 : decode cX10_meets 27 = .ok (.istore_n 3, 1) := by decide +kernel
theorem dX10_meets_28 : decode cX10_meets 28 = .ok (.iload_n 3, 1) := by decide +kernel
theorem dX10_meets_29 : decode cX10_meets 29 = .ok (.aload_n 0, 1) := by decide +kernel
theorem dX10_meets_30 : decode cX10_meets 30 = .ok (.getfield 78, 3) := by decide +kernel
theorem dX10_meets_33 : decode cX10_meets 33 = .ok (.if_icmp .ge 64, 3) := by decide +kernel
theorem dX10_meets_36 : decode cX10_meets 36 = .ok (.iconst 0, 1) := by decide +kernel
theorem dX10_meets_37 : decode cX10_meets 37 = .ok (.istore 4, 2) := by decide +kernel
theorem dX10_meets_39 : decode cX10_meets 39 = .ok (.iconst 0, 1) := by decide +kernel
theorem dX10_meets_40 : decode cX10_meets 40 = .ok (.istore 5, 2) := by decide +kernel
theorem dX10_meets_42 : decode cX10_meets 42 = .ok (.iload 5, 2) := by decide +kernel
theorem dX10_meets_44 : decode cX10_meets 44 = .ok (.aload_n 0, 1) := by decide +kernel
theorem dX10_meets_45 : decode cX10_meets 45 = .ok (.getfield 85, 3) := by decide +kernel
theorem dX10_meets_48 : decode cX10_meets 48 = .ok (.if_icmp .ge 30, 3) := by decide +kernel
theorem dX10_meets_51 : decode cX10_meets 51 = .ok (.iload 4, 2) := by decide +kernel
theorem dX10_meets_53 : decode cX10_meets 53 = .ok (.aload_n 0, 1) := by decide +kernel
theorem dX10_meets_54 : decode cX10_meets 54 = .ok (.getfield 16, 3) := by decide +kernel
theorem dX10_meets_57 : decode cX10_meets 57 = .ok (.iload 5, 2) := by decide +kernel
theorem dX10_meets_59 : decode cX10_meets 59 = .ok (.iaload, 1) := by decide +kernel
theorem dX10_meets_60 : decode cX10_meets 60 = .ok (.iload_n 3, 1) := by decide +kernel
theorem dX10_meets_61 : decode cX10_meets 61 = .ok (.if_icmp .ne 7, 3) := by decide +kernel
theorem dX10_meets_64 : decode cX10_meets 64 = .ok (.iconst 1, 1) := by decide +kernel
theorem dX10_meets_65 : decode cX10_meets 65 = .ok (.goto 4, 3) := by decide +kernel
theorem dX10_meets_68 : decode cX10_meets 68 = .ok (.iconst 0, 1) := by decide +kernel
theorem dX10_meets_69 : decode cX10_meets 69 = .ok (.iadd, 1) := by decide +kernel
theorem dX10_meets_70 : decode cX10_meets 70 = .ok (.istore 4, 2) := by decide +kernel
theorem dX10_meets_72 : decode cX10_meets 72 = .ok (.iinc 5 1, 3) := by decide +kernel
theorem dX10_meets_75 : decode cX10_meets 75 = .ok (.goto (-33), 3) := by decide +kernel
theorem dX10_meets_78 : decode cX10_meets 78 = .ok (.iload 4, 2) := by decide +kernel
theorem dX10_meets_80 : decode cX10_meets 80 = .ok (.iload_n 2, 1) := by decide +kernel
theorem dX10_meets_81 : decode cX10_meets 81 = .ok (.if_icmp .le 8, 3) := by decide +kernel
theorem dX10_meets_84 : decode cX10_meets 84 = .ok (.iload 4, 2) := by decide +kernel
theorem dX10_meets_86 : decode cX10_meets 86 = .ok (.goto 4, 3) := by decide +kernel
theorem dX10_meets_89 : decode cX10_meets 89 = .ok (.iload_n 2, 1) := by decide +kernel
theorem dX10_meets_90 : decode cX10_meets 90 = .ok (.istore_n 2, 1) := by decide +kernel
theorem dX10_meets_91 : decode cX10_meets 91 = .ok (.iinc 3 1, 3) := by decide +kernel
theorem dX10_meets_94 : decode cX10_meets 94 = .ok (.goto (-66), 3) := by decide +kernel
theorem dX10_meets_97 : decode cX10_meets 97 = .ok (.aload_n 0, 1) := by decide +kernel
theorem dX10_meets_98 : decode cX10_meets 98 = .ok (.invokevirtual 232, 3) := by decide +kernel
theorem dX10_meets_101 : decode cX10_meets 101 = .ok (.iload_n 2, 1) := by decide +kernel
theorem dX10_meets_102 : decode cX10_meets 102 = .ok (.ireturn, 1) := by decide +kernel
theorem dX10_asked_0 : decode cX10_asked 0 = .ok (.iload_n 1, 1) := by decide +kernel
theorem dX10_asked_1 : decode cX10_asked 1 = .ok (.i2l, 1) := by decide +kernel
theorem dX10_asked_2 : decode cX10_asked 2 = .ok (.lconst 0, 1) := by decide +kernel
theorem dX10_asked_3 : decode cX10_asked 3 = .ok (.ldc2_w 192, 3) := by decide +kernel
theorem dX10_asked_6 : decode cX10_asked 6 = .ok (.invokestatic 81, 3) := by decide +kernel
theorem dX10_asked_9 : decode cX10_asked 9 = .ok (.ifCond .ne 6, 3) := by decide +kernel
theorem dX10_asked_12 : decode cX10_asked 12 = .ok (.ldc 94, 2) := by decide +kernel
theorem dX10_asked_14 : decode cX10_asked 14 = .ok (.ireturn, 1) := by decide +kernel
theorem dX10_asked_15 : decode cX10_asked 15 = .ok (.ldc2_w 243, 3) := by decide +kernel
theorem dX10_asked_18 : decode cX10_asked 18 = .ok (.lstore_n 2, 1) := by decide +kernel
theorem dX10_asked_19 : decode cX10_asked 19 = .ok (.iconst 0, 1) := by decide +kernel
theorem dX10_asked_20 : decode cX10_asked 20 = .ok (.istore 4, 2) := by decide +kernel
theorem dX10_asked_22 : decode cX10_asked 22 = .ok (.iload 4, 2) := by decide +kernel
theorem dX10_asked_24 : decode cX10_asked 24 = .ok (.iload_n 1, 1) := by decide +kernel
theorem dX10_asked_25 : decode cX10_asked 25 = .ok (.if_icmp .ge 24, 3) := by decide +kernel
theorem dX10_asked_28 : decode cX10_asked 28 = .ok (.lload_n 2, 1) := by decide +kernel
theorem dX10_asked_29 : decode cX10_asked 29 = .ok (.bipush 100, 2) := by decide +kernel
theorem dX10_asked_31 : decode cX10_asked 31 = .ok (.aload_n 0, 1) := by decide +kernel
theorem dX10_asked_32 : decode cX10_asked 32 = .ok (.getfield 141, 3) := by decide +kernel
theorem dX10_asked_35 : decode cX10_asked 35 = .ok (.isub, 1) := by decide +kernel
theorem dX10_asked_36 : decode cX10_asked 36 = .ok (.i2l, 1) := by decide +kernel
theorem dX10_asked_37 : decode cX10_asked 37 = .ok (.lmul, 1) := by decide +kernel
theorem dX10_asked_38 : decode cX10_asked 38 = .ok (.ldc2_w 245, 3) := by decide +kernel
theorem dX10_asked_41 : decode cX10_asked 41 = .ok (.ldiv, 1) := by decide +kernel
theorem dX10_asked_42 : decode cX10_asked 42 = .ok (.lstore_n 2, 1) := by decide +kernel
theorem dX10_asked_43 : decode cX10_asked 43 = .ok (.iinc 4 1, 3) := by decide +kernel
theorem dX10_asked_46 : decode cX10_asked 46 = .ok (.goto (-24), 3) := by decide +kernel
theorem dX10_asked_49 : decode cX10_asked 49 = .ok (.lload_n 2, 1) := by decide +kernel
theorem dX10_asked_50 : decode cX10_asked 50 = .ok (.l2i, 1) := by decide +kernel
theorem dX10_asked_51 : decode cX10_asked 51 = .ok (.ireturn, 1) := by decide +kernel
theorem dX10_see_0 : decode cX10_see 0 = .ok (.aload_n 0, 1) := by decide +kernel
theorem dX10_see_1 : decode cX10_see 1 = .ok (.iload_n 1, 1) := by decide +kernel
theorem dX10_see_2 : decode cX10_see 2 = .ok (.invokevirtual 88, 3) := by decide +kernel
theorem dX10_see_5 : decode cX10_see 5 = .ok (.ifCond .eq 11, 3) := by decide +kernel
theorem dX10_see_8 : decode cX10_see 8 = .ok (.aload_n 0, 1) := by decide +kernel
theorem dX10_see_9 : decode cX10_see 9 = .ok (.iload_n 3, 1) := by decide +kernel
theorem dX10_see_10 : decode cX10_see 10 = .ok (.invokevirtual 235, 3) := by decide +kernel
theorem dX10_see_13 : decode cX10_see 13 = .ok (.ifCond .ne 6, 3) := by decide +kernel
theorem dX10_see_16 : decode cX10_see 16 = .ok (.ldc 188, 2) := by decide +kernel
theorem dX10_see_18 : decode cX10_see 18 = .ok (.ireturn, 1) := by decide +kernel
theorem dX10_see_19 : decode cX10_see 19 = .ok (.iload_n 2, 1) := by decide +kernel
theorem dX10_see_20 : decode cX10_see 20 = .ok (.i2l, 1) := by decide +kernel
theorem dX10_see_21 : decode cX10_see 21 = .ok (.lconst 1, 1) := by decide +kernel
theorem dX10_see_22 : decode cX10_see 22 = .ok (.ldc2_w 247, 3) := by decide +kernel
theorem dX10_see_25 : decode cX10_see 25 = .ok (.invokestatic 81, 3) := by decide +kernel
theorem dX10_see_28 : decode cX10_see 28 = .ok (.ifCond .ne 6, 3) := by decide +kernel
theorem dX10_see_31 : decode cX10_see 31 = .ok (.ldc 94, 2) := by decide +kernel
theorem dX10_see_33 : decode cX10_see 33 = .ok (.ireturn, 1) := by decide +kernel
theorem dX10_see_34 : decode cX10_see 34 = .ok (.aload_n 0, 1) := by decide +kernel
theorem dX10_see_35 : decode cX10_see 35 = .ok (.getfield 150, 3) := by decide +kernel
theorem dX10_see_38 : decode cX10_see 38 = .ok (.bipush 6, 2) := by decide +kernel
theorem dX10_see_40 : decode cX10_see 40 = .ok (.if_icmp .ne 6, 3) := by decide +kernel
theorem dX10_see_43 : decode cX10_see 43 = .ok (.ldc 98, 2) := by decide +kernel
theorem dX10_see_45 : decode cX10_see 45 = .ok (.ireturn, 1) := by decide +kernel
theorem dX10_see_46 : decode cX10_see 46 = .ok (.aload_n 0, 1) := by decide +kernel
theorem dX10_see_47 : decode cX10_see 47 = .ok (.getfield 50, 3) := by decide +kernel
theorem dX10_see_50 : decode cX10_see 50 = .ok (.aload_n 0, 1) := by decide +kernel
theorem dX10_see_51 : decode cX10_see 51 = .ok (.getfield 150, 3) := by decide +kernel
theorem dX10_see_54 : decode cX10_see 54 = .ok (.iload_n 1, 1) := by decide +kernel
theorem dX10_see_55 : decode cX10_see 55 = .ok (.iastore, 1) := by decide +kernel
theorem dX10_see_56 : decode cX10_see 56 = .ok (.aload_n 0, 1) := by decide +kernel
theorem dX10_see_57 : decode cX10_see 57 = .ok (.getfield 53, 3) := by decide +kernel
theorem dX10_see_60 : decode cX10_see 60 = .ok (.aload_n 0, 1) := by decide +kernel
theorem dX10_see_61 : decode cX10_see 61 = .ok (.getfield 150, 3) := by decide +kernel
theorem dX10_see_64 : decode cX10_see 64 = .ok (.iload_n 2, 1) := by decide +kernel
theorem dX10_see_65 : decode cX10_see 65 = .ok (.iastore, 1) := by decide +kernel
theorem dX10_see_66 : decode cX10_see 66 = .ok (.aload_n 0, 1) := by decide +kernel
theorem dX10_see_67 : decode cX10_see 67 = .ok (.getfield 56, 3) := by decide +kernel
theorem dX10_see_70 : decode cX10_see 70 = .ok (.aload_n 0, 1) := by decide +kernel
theorem dX10_see_71 : decode cX10_see 71 = .ok (.getfield 150, 3) := by decide +kernel
theorem dX10_see_74 : decode cX10_see 74 = .ok (.iload_n 3, 1) := by decide +kernel
theorem dX10_see_75 : decode cX10_see 75 = .ok (.iastore, 1) := by decide +kernel
theorem dX10_see_76 : decode cX10_see 76 = .ok (.aload_n 0, 1) := by decide +kernel
theorem dX10_see_77 : decode cX10_see 77 = .ok (.dup, 1) := by decide +kernel
theorem dX10_see_78 : decode cX10_see 78 = .ok (.getfield 150, 3) := by decide +kernel
theorem dX10_see_81 : decode cX10_see 81 = .ok (.iconst 1, 1) := by decide +kernel
theorem dX10_see_82 : decode cX10_see 82 = .ok (.iadd, 1) := by decide +kernel
theorem dX10_see_83 : decode cX10_see 83 = .ok (.putfield 150, 3) := by decide +kernel
theorem dX10_see_86 : decode cX10_see 86 = .ok (.aload_n 0, 1) := by decide +kernel
theorem dX10_see_87 : decode cX10_see 87 = .ok (.getfield 150, 3) := by decide +kernel
theorem dX10_see_90 : decode cX10_see 90 = .ok (.ireturn, 1) := by decide +kernel
theorem dX10_findWay_0 : decode cX10_findWay 0 = .ok (.aload_n 0, 1) := by decide +kernel
theorem dX10_findWay_1 : decode cX10_findWay 1 = .ok (.invokevirtual 225, 3) := by decide +kernel
theorem dX10_findWay_4 : decode cX10_findWay 4 = .ok (.aload_n 0, 1) := by decide +kernel
theorem dX10_findWay_5 : decode cX10_findWay 5 = .ok (.getfield 16, 3) := by decide +kernel
theorem dX10_findWay_8 : decode cX10_findWay 8 = .ok (.bipush 8, 2) := by decide +kernel
theorem dX10_findWay_10 : decode cX10_findWay 10 = .ok (.iload_n 1, 1) := by decide +kernel
theorem dX10_findWay_11 : decode cX10_findWay 11 = .ok (.iadd, 1) := by decide +kernel
theorem dX10_findWay_12 : decode cX10_findWay 12 = .ok (.iload_n 2, 1) := by decide +kernel
theorem dX10_findWay_13 : decode cX10_findWay 13 = .ok (.iastore, 1) := by decide +kernel
theorem dX10_findWay_14 : decode cX10_findWay 14 = .ok (.iconst 0, 1) := by decide +kernel
theorem dX10_findWay_15 : decode cX10_findWay 15 = .ok (.istore_n 3, 1) := by decide +kernel
theorem dX10_findWay_16 : decode cX10_findWay 16 = .ok (.iload_n 3, 1) := by decide +kernel
theorem dX10_findWay_17 : decode cX10_findWay 17 = .ok (.bipush 31, 2) := by decide +kernel
theorem dX10_findWay_19 : decode cX10_findWay 19 = .ok (.if_icmp .ge 25, 3) := by decide +kernel
theorem dX10_findWay_22 : decode cX10_findWay 22 = .ok (.aload_n 0, 1) := by decide +kernel
theorem dX10_findWay_23 : decode cX10_findWay 23 = .ok (.getfield 59, 3) := by decide +kernel
theorem dX10_findWay_26 : decode cX10_findWay 26 = .ok (.iload_n 3, 1) := by decide +kernel
theorem dX10_findWay_27 : decode cX10_findWay 27 = .ok (.aload_n 0, 1) := by decide +kernel
theorem dX10_findWay_28 : decode cX10_findWay 28 = .ok (.getfield 16, 3) := by decide +kernel
theorem dX10_findWay_31 : decode cX10_findWay 31 = .ok (.iload_n 1, 1) := by decide +kernel
theorem dX10_findWay_32 : decode cX10_findWay 32 = .ok (.iaload, 1) := by decide +kernel
theorem dX10_findWay_33 : decode cX10_findWay 33 = .ok (.iastore, 1) := by decide +kernel
theorem dX10_findWay_34 : decode cX10_findWay 34 = .ok (.aload_n 0, 1) := by decide +kernel
theorem dX10_findWay_35 : decode cX10_findWay 35 = .ok (.invokevirtual 201, 3) := by decide +kernel
theorem dX10_findWay_38 : decode cX10_findWay 38 = .ok (.iinc 3 1, 3) := by decide +kernel
theorem dX10_findWay_41 : decode cX10_findWay 41 = .ok (.goto (-25), 3) := by decide +kernel
theorem dX10_findWay_44 : decode cX10_findWay 44 = .ok (.aload_n 0, 1) := by decide +kernel
theorem dX10_findWay_45 : decode cX10_findWay 45 = .ok (.invokevirtual 232, 3) := by decide +kernel
theorem dX10_findWay_48 : decode cX10_findWay 48 = .ok (.return_, 1) := by decide +kernel
theorem dX10_couldFollow_0 : decode cX10_couldFollow 0 = .ok (.aload_n 0, 1) := by decide +kernel
theorem dX10_couldFollow_1 : decode cX10_couldFollow 1 = .ok (.iload_n 1, 1) := by decide +kernel
theorem dX10_couldFollow_2 : decode cX10_couldFollow 2 = .ok (.iload_n 2, 1) := by decide +kernel
theorem dX10_couldFollow_3 : decode cX10_couldFollow 3 = .ok (.invokevirtual 249, 3) := by decide +kernel
theorem dX10_couldFollow_6 : decode cX10_couldFollow 6 = .ok (.iconst 1, 1) := by decide +kernel
theorem dX10_couldFollow_7 : decode cX10_couldFollow 7 = .ok (.istore_n 3, 1) := by decide +kernel
theorem dX10_couldFollow_8 : decode cX10_couldFollow 8 = .ok (.iconst 0, 1) := by decide +kernel
theorem dX10_couldFollow_9 : decode cX10_couldFollow 9 = .ok (.istore 4, 2) := by decide +kernel
theorem dX10_couldFollow_11 : decode cX10_couldFollow 11 = .ok (.iload 4, 2) := by decide +kernel
theorem dX10_couldFollow_13 : decode cX10_couldFollow 13 = .ok (.aload_n 0, 1) := by decide +kernel
theorem dX10_couldFollow_14 : decode cX10_couldFollow 14 = .ok (.getfield 150, 3) := by decide +kernel
theorem dX10_couldFollow_17 : decode cX10_couldFollow 17 = .ok (.if_icmp .ge 52, 3) := by decide +kernel
theorem dX10_couldFollow_20 : decode cX10_couldFollow 20 = .ok (.iload_n 3, 1) := by decide +kernel
theorem dX10_couldFollow_21 : decode cX10_couldFollow 21 = .ok (.ifCond .eq 40, 3) := by decide +kernel
theorem dX10_couldFollow_24 : decode cX10_couldFollow 24 = .ok (.aload_n 0, 1) := by decide +kernel
theorem dX10_couldFollow_25 : decode cX10_couldFollow 25 = .ok (.getfield 50, 3) := by decide +kernel
theorem dX10_couldFollow_28 : decode cX10_couldFollow 28 = .ok (.iload 4, 2) := by decide +kernel
theorem dX10_couldFollow_30 : decode cX10_couldFollow 30 = .ok (.iaload, 1) := by decide +kernel
theorem dX10_couldFollow_31 : decode cX10_couldFollow 31 = .ok (.iload_n 1, 1) := by decide +kernel
theorem dX10_couldFollow_32 : decode cX10_couldFollow 32 = .ok (.if_icmp .ne 25, 3) := by decide +kernel
theorem dX10_couldFollow_35 : decode cX10_couldFollow 35 = .ok (.aload_n 0, 1) := by decide +kernel
theorem dX10_couldFollow_36 : decode cX10_couldFollow 36 = .ok (.getfield 59, 3) := by decide +kernel
theorem dX10_couldFollow_39 : decode cX10_couldFollow 39 = .ok (.aload_n 0, 1) := by decide +kernel
theorem dX10_couldFollow_40 : decode cX10_couldFollow 40 = .ok (.getfield 53, 3) := by decide +kernel
theorem dX10_couldFollow_43 : decode cX10_couldFollow 43 = .ok (.iload 4, 2) := by decide +kernel
theorem dX10_couldFollow_45 : decode cX10_couldFollow 45 = .ok (.iaload, 1) := by decide +kernel
theorem dX10_couldFollow_46 : decode cX10_couldFollow 46 = .ok (.iaload, 1) := by decide +kernel
theorem dX10_couldFollow_47 : decode cX10_couldFollow 47 = .ok (.aload_n 0, 1) := by decide +kernel
theorem dX10_couldFollow_48 : decode cX10_couldFollow 48 = .ok (.getfield 56, 3) := by decide +kernel
theorem dX10_couldFollow_51 : decode cX10_couldFollow 51 = .ok (.iload 4, 2) := by decide +kernel
theorem dX10_couldFollow_53 : decode cX10_couldFollow 53 = .ok (.iaload, 1) := by decide +kernel
theorem dX10_couldFollow_54 : decode cX10_couldFollow 54 = .ok (.if_icmp .ne 7, 3) := by decide +kernel
theorem dX10_couldFollow_57 : decode cX10_couldFollow 57 = .ok (.iconst 1, 1) := by decide +kernel
theorem dX10_couldFollow_58 : decode cX10_couldFollow 58 = .ok (.goto 4, 3) := by decide +kernel
theorem dX10_couldFollow_61 : decode cX10_couldFollow 61 = .ok (.iconst 0, 1) := by decide +kernel
theorem dX10_couldFollow_62 : decode cX10_couldFollow 62 = .ok (.istore_n 3, 1) := by decide +kernel
theorem dX10_couldFollow_63 : decode cX10_couldFollow 63 = .ok (.iinc 4 1, 3) := by decide +kernel
theorem dX10_couldFollow_66 : decode cX10_couldFollow 66 = .ok (.goto (-55), 3) := by decide +kernel
theorem dX10_couldFollow_69 : decode cX10_couldFollow 69 = .ok (.iload_n 3, 1) := by decide +kernel
theorem dX10_couldFollow_70 : decode cX10_couldFollow 70 = .ok (.ireturn, 1) := by decide +kernel
theorem dX10_whom_0 : decode cX10_whom 0 = .ok (.aload_n 0, 1) := by decide +kernel
theorem dX10_whom_1 : decode cX10_whom 1 = .ok (.iload_n 1, 1) := by decide +kernel
theorem dX10_whom_2 : decode cX10_whom 2 = .ok (.invokevirtual 88, 3) := by decide +kernel
theorem dX10_whom_5 : decode cX10_whom 5 = .ok (.ifCond .ne 6, 3) := by decide +kernel
theorem dX10_whom_8 : decode cX10_whom 8 = .ok (.ldc 188, 2) := by decide +kernel
theorem dX10_whom_10 : decode cX10_whom 10 = .ok (.ireturn, 1) := by decide +kernel
theorem dX10_whom_11 : decode cX10_whom 11 = .ok (.iconst 0, 1) := by decide +kernel
theorem dX10_whom_12 : decode cX10_whom 12 = .ok (.istore_n 2, 1) := by decide +kernel
theorem dX10_whom_13 : decode cX10_whom 13 = .ok (.iconst 0, 1) := by decide +kernel
theorem dX10_whom_14 : decode cX10_whom 14 = .ok (.istore_n 3, 1) := by decide +kernel
theorem dX10_whom_15 : decode cX10_whom 15 = .ok (.iload_n 3, 1) := by decide +kernel
theorem dX10_whom_16 : decode cX10_whom 16 = .ok (.aload_n 0, 1) := by decide +kernel
theorem dX10_whom_17 : decode cX10_whom 17 = .ok (.getfield 85, 3) := by decide +kernel
theorem dX10_whom_20 : decode cX10_whom 20 = .ok (.if_icmp .ge 33, 3) := by decide +kernel
theorem dX10_whom_23 : decode cX10_whom 23 = .ok (.iload_n 2, 1) := by decide +kernel
theorem dX10_whom_24 : decode cX10_whom 24 = .ok (.iload_n 3, 1) := by decide +kernel
theorem dX10_whom_25 : decode cX10_whom 25 = .ok (.iload_n 1, 1) := by decide +kernel
theorem dX10_whom_26 : decode cX10_whom 26 = .ok (.if_icmp .eq 18, 3) := by decide +kernel
theorem dX10_whom_29 : decode cX10_whom 29 = .ok (.aload_n 0, 1) := by decide +kernel
theorem dX10_whom_30 : decode cX10_whom 30 = .ok (.iload_n 1, 1) := by decide +kernel
theorem dX10_whom_31 : decode cX10_whom 31 = .ok (.iload_n 3, 1) := by decide +kernel
theorem dX10_whom_32 : decode cX10_whom 32 = .ok (.invokevirtual 253, 3) := by decide +kernel
theorem dX10_whom_35 : decode cX10_whom 35 = .ok (.ifCond .eq 9, 3) := by decide +kernel
theorem dX10_whom_38 : decode cX10_whom 38 = .ok (.iconst 1, 1) := by decide +kernel
theorem dX10_whom_39 : decode cX10_whom 39 = .ok (.iload_n 3, 1) := by decide +kernel
theorem dX10_whom_40 : decode cX10_whom 40 = .ok (.ishl, 1) := by decide +kernel
theorem dX10_whom_41 : decode cX10_whom 41 = .ok (.goto 4, 3) := by decide +kernel
theorem dX10_whom_44 : decode cX10_whom 44 = .ok (.iconst 0, 1) := by decide +kernel
theorem dX10_whom_45 : decode cX10_whom 45 = .ok (.ior, 1) := by decide +kernel
theorem dX10_whom_46 : decode cX10_whom 46 = .ok (.istore_n 2, 1) := by decide +kernel
theorem dX10_whom_47 : decode cX10_whom 47 = .ok (.iinc 3 1, 3) := by decide +kernel
theorem dX10_whom_50 : decode cX10_whom 50 = .ok (.goto (-35), 3) := by decide +kernel
theorem dX10_whom_53 : decode cX10_whom 53 = .ok (.iload_n 2, 1) := by decide +kernel
theorem dX10_whom_54 : decode cX10_whom 54 = .ok (.ireturn, 1) := by decide +kernel
theorem dX10_look_0 : decode cX10_look 0 = .ok (.aload_n 0, 1) := by decide +kernel
theorem dX10_look_1 : decode cX10_look 1 = .ok (.iload_n 1, 1) := by decide +kernel
theorem dX10_look_2 : decode cX10_look 2 = .ok (.invokevirtual 88, 3) := by decide +kernel
theorem dX10_look_5 : decode cX10_look 5 = .ok (.ifCond .ne 6, 3) := by decide +kernel
theorem dX10_look_8 : decode cX10_look 8 = .ok (.ldc 188, 2) := by decide +kernel
theorem dX10_look_10 : decode cX10_look 10 = .ok (.ireturn, 1) := by decide +kernel
theorem dX10_look_11 : decode cX10_look 11 = .ok (.iconst 0, 1) := by decide +kernel
theorem dX10_look_12 : decode cX10_look 12 = .ok (.istore_n 2, 1) := by decide +kernel
theorem dX10_look_13 : decode cX10_look 13 = .ok (.iload_n 2, 1) := by decide +kernel
theorem dX10_look_14 : decode cX10_look 14 = .ok (.sipush 279, 3) := by decide +kernel
theorem dX10_look_17 : decode cX10_look 17 = .ok (.if_icmp .ge 16, 3) := by decide +kernel
theorem dX10_look_20 : decode cX10_look 20 = .ok (.aload_n 0, 1) := by decide +kernel
theorem dX10_look_21 : decode cX10_look 21 = .ok (.getfield 62, 3) := by decide +kernel
theorem dX10_look_24 : decode cX10_look 24 = .ok (.iload_n 2, 1) := by decide +kernel
theorem dX10_look_25 : decode cX10_look 25 = .ok (.iconst 0, 1) := by decide +kernel
theorem dX10_look_26 : decode cX10_look 26 = .ok (.iastore, 1) := by decide +kernel
theorem dX10_look_27 : decode cX10_look 27 = .ok (.iinc 2 1, 3) := by decide +kernel
theorem dX10_look_30 : decode cX10_look 30 = .ok (.goto (-17), 3) := by decide +kernel
theorem dX10_look_33 : decode cX10_look 33 = .ok (.iconst 0, 1) := by decide +kernel
theorem dX10_look_34 : decode cX10_look 34 = .ok (.istore_n 2, 1) := by decide +kernel
theorem dX10_look_35 : decode cX10_look 35 = .ok (.iconst 0, 1) := by decide +kernel
theorem dX10_look_36 : decode cX10_look 36 = .ok (.istore_n 3, 1) := by decide +kernel
theorem dX10_look_37 : decode cX10_look 37 = .ok (.iload_n 3, 1) := by decide +kernel
theorem dX10_look_38 : decode cX10_look 38 = .ok (.aload_n 0, 1) := by decide +kernel
theorem dX10_look_39 : decode cX10_look 39 = .ok (.getfield 85, 3) := by decide +kernel
theorem dX10_look_42 : decode cX10_look 42 = .ok (.if_icmp .ge 64, 3) := by decide +kernel
theorem dX10_look_45 : decode cX10_look 45 = .ok (.iload_n 3, 1) := by decide +kernel
theorem dX10_look_46 : decode cX10_look 46 = .ok (.iload_n 1, 1) := by decide +kernel
theorem dX10_look_47 : decode cX10_look 47 = .ok (.if_icmp .eq 53, 3) := by decide +kernel
theorem dX10_look_50 : decode cX10_look 50 = .ok (.aload_n 0, 1) := by decide +kernel
theorem dX10_look_51 : decode cX10_look 51 = .ok (.iload_n 1, 1) := by decide +kernel
theorem dX10_look_52 : decode cX10_look 52 = .ok (.iload_n 3, 1) := by decide +kernel
theorem dX10_look_53 : decode cX10_look 53 = .ok (.invokevirtual 253, 3) := by decide +kernel
theorem dX10_look_56 : decode cX10_look 56 = .ok (.ifCond .eq 44, 3) := by decide +kernel
theorem dX10_look_59 : decode cX10_look 59 = .ok (.iinc 2 1, 3) := by decide +kernel
theorem dX10_look_62 : decode cX10_look 62 = .ok (.iconst 0, 1) := by decide +kernel
theorem dX10_look_63 : decode cX10_look 63 = .ok (.istore 4, 2) := by decide +kernel
theorem dX10_look_65 : decode cX10_look 65 = .ok (.iload 4, 2) := by decide +kernel
theorem dX10_look_67 : decode cX10_look 67 = .ok (.bipush 31, 2) := by decide +kernel
theorem dX10_look_69 : decode cX10_look 69 = .ok (.if_icmp .ge 31, 3) := by decide +kernel
theorem dX10_look_72 : decode cX10_look 72 = .ok (.aload_n 0, 1) := by decide +kernel
theorem dX10_look_73 : decode cX10_look 73 = .ok (.getfield 62, 3) := by decide +kernel
theorem dX10_look_76 : decode cX10_look 76 = .ok (.bipush 9, 2) := by decide +kernel
theorem dX10_look_78 : decode cX10_look 78 = .ok (.iload 4, 2) := by decide +kernel
theorem dX10_look_80 : decode cX10_look 80 = .ok (.imul, 1) := by decide +kernel
theorem dX10_look_81 : decode cX10_look 81 = .ok (.aload_n 0, 1) := by decide +kernel
theorem dX10_look_82 : decode cX10_look 82 = .ok (.getfield 59, 3) := by decide +kernel
theorem dX10_look_85 : decode cX10_look 85 = .ok (.iload 4, 2) := by decide +kernel
theorem dX10_look_87 : decode cX10_look 87 = .ok (.iaload, 1) := by decide +kernel
theorem dX10_look_88 : decode cX10_look 88 = .ok (.iadd, 1) := by decide +kernel
theorem dX10_look_89 : decode cX10_look 89 = .ok (.dup2, 1) := by decide +kernel
theorem dX10_look_90 : decode cX10_look 90 = .ok (.iaload, 1) := by decide +kernel
theorem dX10_look_91 : decode cX10_look 91 = .ok (.iconst 1, 1) := by decide +kernel
theorem dX10_look_92 : decode cX10_look 92 = .ok (.iadd, 1) := by decide +kernel
theorem dX10_look_93 : decode cX10_look 93 = .ok (.iastore, 1) := by decide +kernel
theorem dX10_look_94 : decode cX10_look 94 = .ok (.iinc 4 1, 3) := by decide +kernel
theorem dX10_look_97 : decode cX10_look 97 = .ok (.goto (-32), 3) := by decide +kernel
theorem dX10_look_100 : decode cX10_look 100 = .ok (.iinc 3 1, 3) := by decide +kernel
theorem dX10_look_103 : decode cX10_look 103 = .ok (.goto (-66), 3) := by decide +kernel
theorem dX10_look_106 : decode cX10_look 106 = .ok (.iconst (-1), 1) := by decide +kernel
theorem dX10_look_107 : decode cX10_look 107 = .ok (.istore_n 3, 1) := by decide +kernel
theorem dX10_look_108 : decode cX10_look 108 = .ok (.iload_n 2, 1) := by decide +kernel
theorem dX10_look_109 : decode cX10_look 109 = .ok (.istore 4, 2) := by decide +kernel
theorem dX10_look_111 : decode cX10_look 111 = .ok (.iconst 1, 1) := by decide +kernel
theorem dX10_look_112 : decode cX10_look 112 = .ok (.istore 5, 2) := by decide +kernel
theorem dX10_look_114 : decode cX10_look 114 = .ok (.iload 5, 2) := by decide +kernel
theorem dX10_look_116 : decode cX10_look 116 = .ok (.bipush 31, 2) := by decide +kernel
theorem dX10_look_118 : decode cX10_look 118 = .ok (.if_icmp .ge 96, 3) := by decide +kernel
theorem dX10_look_121 : decode cX10_look 121 = .ok (.iconst 0, 1) := by decide +kernel
theorem dX10_look_122 : decode cX10_look 122 = .ok (.istore 6, 2) := by decide +kernel
theorem dX10_look_124 : decode cX10_look 124 = .ok (.iconst 0, 1) := by decide +kernel
theorem dX10_look_125 : decode cX10_look 125 = .ok (.istore 7, 2) := by decide +kernel
theorem dX10_look_127 : decode cX10_look 127 = .ok (.iload 7, 2) := by decide +kernel
theorem dX10_look_129 : decode cX10_look 129 = .ok (.bipush 9, 2) := by decide +kernel
theorem dX10_look_131 : decode cX10_look 131 = .ok (.if_icmp .ge 47, 3) := by decide +kernel
theorem dX10_look_134 : decode cX10_look 134 = .ok (.aload_n 0, 1) := by decide +kernel
theorem dX10_look_135 : decode cX10_look 135 = .ok (.getfield 62, 3) := by decide +kernel
theorem dX10_look_138 : decode cX10_look 138 = .ok (.bipush 9, 2) := by decide +kernel
theorem dX10_look_140 : decode cX10_look 140 = .ok (.iload 5, 2) := by decide +kernel
theorem dX10_look_142 : decode cX10_look 142 = .ok (.imul, 1) := by decide +kernel
theorem dX10_look_143 : decode cX10_look 143 = .ok (.iload 7, 2) := by decide +kernel
theorem dX10_look_145 : decode cX10_look 145 = .ok (.iadd, 1) := by decide +kernel
theorem dX10_look_146 : decode cX10_look 146 = .ok (.iaload, 1) := by decide +kernel
theorem dX10_look_147 : decode cX10_look 147 = .ok (.iload 6, 2) := by decide +kernel
theorem dX10_look_149 : decode cX10_look 149 = .ok (.if_icmp .le 19, 3) := by decide +kernel
theorem dX10_look_152 : decode cX10_look 152 = .ok (.aload_n 0, 1) := by decide +kernel
theorem dX10_look_153 : decode cX10_look 153 = .ok (.getfield 62, 3) := by decide +kernel
theorem dX10_look_156 : decode cX10_look 156 = .ok (.bipush 9, 2) := by decide +kernel
theorem dX10_look_158 : decode cX10_look 158 = .ok (.iload 5, 2) := by decide +kernel
theorem dX10_look_160 : decode cX10_look 160 = .ok (.imul, 1) := by decide +kernel
theorem dX10_look_161 : decode cX10_look 161 = .ok (.iload 7, 2) := by decide +kernel
theorem dX10_look_163 : decode cX10_look 163 = .ok (.iadd, 1) := by decide +kernel
theorem dX10_look_164 : decode cX10_look 164 = .ok (.iaload, 1) := by decide +kernel
theorem dX10_look_165 : decode cX10_look 165 = .ok (.goto 5, 3) := by decide +kernel
theorem dX10_look_168 : decode cX10_look 168 = .ok (.iload 6, 2) := by decide +kernel
theorem dX10_look_170 : decode cX10_look 170 = .ok (.istore 6, 2) := by decide +kernel
theorem dX10_look_172 : decode cX10_look 172 = .ok (.iinc 7 1, 3) := by decide +kernel
theorem dX10_look_175 : decode cX10_look 175 = .ok (.goto (-48), 3) := by decide +kernel
theorem dX10_look_178 : decode cX10_look 178 = .ok (.iload 6, 2) := by decide +kernel
theorem dX10_look_180 : decode cX10_look 180 = .ok (.iload 4, 2) := by decide +kernel
theorem dX10_look_182 : decode cX10_look 182 = .ok (.if_icmp .ge 8, 3) := by decide +kernel
theorem dX10_look_185 : decode cX10_look 185 = .ok (.iload 5, 2) := by decide +kernel
theorem dX10_look_187 : decode cX10_look 187 = .ok (.goto 4, 3) := by decide +kernel
theorem dX10_look_190 : decode cX10_look 190 = .ok (.iload_n 3, 1) := by decide +kernel
theorem dX10_look_191 : decode cX10_look 191 = .ok (.istore_n 3, 1) := by decide +kernel
theorem dX10_look_192 : decode cX10_look 192 = .ok (.iload 6, 2) := by decide +kernel
theorem dX10_look_194 : decode cX10_look 194 = .ok (.iload 4, 2) := by decide +kernel
theorem dX10_look_196 : decode cX10_look 196 = .ok (.if_icmp .ge 8, 3) := by decide +kernel
theorem dX10_look_199 : decode cX10_look 199 = .ok (.iload 6, 2) := by decide +kernel
theorem dX10_look_201 : decode cX10_look 201 = .ok (.goto 5, 3) := by decide +kernel
theorem dX10_look_204 : decode cX10_look 204 = .ok (.iload 4, 2) := by decide +kernel
theorem dX10_look_206 : decode cX10_look 206 = .ok (.istore 4, 2) := by decide +kernel
theorem dX10_look_208 : decode cX10_look 208 = .ok (.iinc 5 1, 3) := by decide +kernel
theorem dX10_look_211 : decode cX10_look 211 = .ok (.goto (-97), 3) := by decide +kernel
theorem dX10_look_214 : decode cX10_look 214 = .ok (.iload_n 3, 1) := by decide +kernel
theorem dX10_look_215 : decode cX10_look 215 = .ok (.ireturn, 1) := by decide +kernel
theorem dX10_write_0 : decode cX10_write 0 = .ok (.aload_n 0, 1) := by decide +kernel
theorem dX10_write_1 : decode cX10_write 1 = .ok (.iload_n 1, 1) := by decide +kernel
theorem dX10_write_2 : decode cX10_write 2 = .ok (.invokevirtual 88, 3) := by decide +kernel
theorem dX10_write_5 : decode cX10_write 5 = .ok (.ifCond .eq 11, 3) := by decide +kernel
theorem dX10_write_8 : decode cX10_write 8 = .ok (.aload_n 0, 1) := by decide +kernel
theorem dX10_write_9 : decode cX10_write 9 = .ok (.iload_n 2, 1) := by decide +kernel
theorem dX10_write_10 : decode cX10_write 10 = .ok (.invokevirtual 235, 3) := by decide +kernel
theorem dX10_write_13 : decode cX10_write 13 = .ok (.ifCond .ne 6, 3) := by decide +kernel
theorem dX10_write_16 : decode cX10_write 16 = .ok (.ldc 188, 2) := by decide +kernel
theorem dX10_write_18 : decode cX10_write 18 = .ok (.ireturn, 1) := by decide +kernel
theorem dX10_write_19 : decode cX10_write 19 = .ok (.aload_n 0, 1) := by decide +kernel
theorem dX10_write_20 : decode cX10_write 20 = .ok (.getfield 153, 3) := by decide +kernel
theorem dX10_write_23 : decode cX10_write 23 = .ok (.bipush 15, 2) := by decide +kernel
theorem dX10_write_25 : decode cX10_write 25 = .ok (.if_icmp .ne 6, 3) := by decide +kernel
theorem dX10_write_28 : decode cX10_write 28 = .ok (.ldc 98, 2) := by decide +kernel
theorem dX10_write_30 : decode cX10_write 30 = .ok (.ireturn, 1) := by decide +kernel
theorem dX10_write_31 : decode cX10_write 31 = .ok (.aload_n 0, 1) := by decide +kernel
theorem dX10_write_32 : decode cX10_write 32 = .ok (.getfield 65, 3) := by decide +kernel
theorem dX10_write_35 : decode cX10_write 35 = .ok (.aload_n 0, 1) := by decide +kernel
theorem dX10_write_36 : decode cX10_write 36 = .ok (.getfield 153, 3) := by decide +kernel
theorem dX10_write_39 : decode cX10_write 39 = .ok (.iload_n 1, 1) := by decide +kernel
theorem dX10_write_40 : decode cX10_write 40 = .ok (.iastore, 1) := by decide +kernel
theorem dX10_write_41 : decode cX10_write 41 = .ok (.aload_n 0, 1) := by decide +kernel
theorem dX10_write_42 : decode cX10_write 42 = .ok (.getfield 68, 3) := by decide +kernel
theorem dX10_write_45 : decode cX10_write 45 = .ok (.aload_n 0, 1) := by decide +kernel
theorem dX10_write_46 : decode cX10_write 46 = .ok (.getfield 153, 3) := by decide +kernel
theorem dX10_write_49 : decode cX10_write 49 = .ok (.iload_n 2, 1) := by decide +kernel
theorem dX10_write_50 : decode cX10_write 50 = .ok (.iastore, 1) := by decide +kernel
theorem dX10_write_51 : decode cX10_write 51 = .ok (.aload_n 0, 1) := by decide +kernel
theorem dX10_write_52 : decode cX10_write 52 = .ok (.dup, 1) := by decide +kernel
theorem dX10_write_53 : decode cX10_write 53 = .ok (.getfield 153, 3) := by decide +kernel
theorem dX10_write_56 : decode cX10_write 56 = .ok (.iconst 1, 1) := by decide +kernel
theorem dX10_write_57 : decode cX10_write 57 = .ok (.iadd, 1) := by decide +kernel
theorem dX10_write_58 : decode cX10_write 58 = .ok (.putfield 153, 3) := by decide +kernel
theorem dX10_write_61 : decode cX10_write 61 = .ok (.aload_n 0, 1) := by decide +kernel
theorem dX10_write_62 : decode cX10_write 62 = .ok (.getfield 153, 3) := by decide +kernel
theorem dX10_write_65 : decode cX10_write 65 = .ok (.ireturn, 1) := by decide +kernel
theorem dX10_tear_0 : decode cX10_tear 0 = .ok (.aload_n 0, 1) := by decide +kernel
theorem dX10_tear_1 : decode cX10_tear 1 = .ok (.getfield 150, 3) := by decide +kernel
theorem dX10_tear_4 : decode cX10_tear 4 = .ok (.aload_n 0, 1) := by decide +kernel
theorem dX10_tear_5 : decode cX10_tear 5 = .ok (.getfield 153, 3) := by decide +kernel
theorem dX10_tear_8 : decode cX10_tear 8 = .ok (.iadd, 1) := by decide +kernel
theorem dX10_tear_9 : decode cX10_tear 9 = .ok (.istore_n 1, 1) := by decide +kernel
theorem dX10_tear_10 : decode cX10_tear 10 = .ok (.aload_n 0, 1) := by decide +kernel
theorem dX10_tear_11 : decode cX10_tear 11 = .ok (.iconst 0, 1) := by decide +kernel
theorem dX10_tear_12 : decode cX10_tear 12 = .ok (.putfield 150, 3) := by decide +kernel
theorem dX10_tear_15 : decode cX10_tear 15 = .ok (.aload_n 0, 1) := by decide +kernel
theorem dX10_tear_16 : decode cX10_tear 16 = .ok (.iconst 0, 1) := by decide +kernel
theorem dX10_tear_17 : decode cX10_tear 17 = .ok (.putfield 153, 3) := by decide +kernel
theorem dX10_tear_20 : decode cX10_tear 20 = .ok (.iload_n 1, 1) := by decide +kernel
theorem dX10_tear_21 : decode cX10_tear 21 = .ok (.ireturn, 1) := by decide +kernel
theorem dX10_judge_0 : decode cX10_judge 0 = .ok (.iconst 0, 1) := by decide +kernel
theorem dX10_judge_1 : decode cX10_judge 1 = .ok (.istore_n 1, 1) := by decide +kernel
theorem dX10_judge_2 : decode cX10_judge 2 = .ok (.iload_n 1, 1) := by decide +kernel
theorem dX10_judge_3 : decode cX10_judge 3 = .ok (.aload_n 0, 1) := by decide +kernel
theorem dX10_judge_4 : decode cX10_judge 4 = .ok (.getfield 153, 3) := by decide +kernel
theorem dX10_judge_7 : decode cX10_judge 7 = .ok (.if_icmp .ge 31, 3) := by decide +kernel
theorem dX10_judge_10 : decode cX10_judge 10 = .ok (.aload_n 0, 1) := by decide +kernel
theorem dX10_judge_11 : decode cX10_judge 11 = .ok (.getfield 16, 3) := by decide +kernel
theorem dX10_judge_14 : decode cX10_judge 14 = .ok (.aload_n 0, 1) := by decide +kernel
theorem dX10_judge_15 : decode cX10_judge 15 = .ok (.getfield 65, 3) := by decide +kernel
theorem dX10_judge_18 : decode cX10_judge 18 = .ok (.iload_n 1, 1) := by decide +kernel
theorem dX10_judge_19 : decode cX10_judge 19 = .ok (.iaload, 1) := by decide +kernel
theorem dX10_judge_20 : decode cX10_judge 20 = .ok (.iaload, 1) := by decide +kernel
theorem dX10_judge_21 : decode cX10_judge 21 = .ok (.aload_n 0, 1) := by decide +kernel
theorem dX10_judge_22 : decode cX10_judge 22 = .ok (.getfield 68, 3) := by decide +kernel
theorem dX10_judge_25 : decode cX10_judge 25 = .ok (.iload_n 1, 1) := by decide +kernel
theorem dX10_judge_26 : decode cX10_judge 26 = .ok (.iaload, 1) := by decide +kernel
theorem dX10_judge_27 : decode cX10_judge 27 = .ok (.if_icmp .eq 5, 3) := by decide +kernel
theorem dX10_judge_30 : decode cX10_judge 30 = .ok (.iload_n 1, 1) := by decide +kernel
theorem dX10_judge_31 : decode cX10_judge 31 = .ok (.ireturn, 1) := by decide +kernel
theorem dX10_judge_32 : decode cX10_judge 32 = .ok (.iinc 1 1, 3) := by decide +kernel
theorem dX10_judge_35 : decode cX10_judge 35 = .ok (.goto (-33), 3) := by decide +kernel
theorem dX10_judge_38 : decode cX10_judge 38 = .ok (.iconst (-1), 1) := by decide +kernel
theorem dX10_judge_39 : decode cX10_judge 39 = .ok (.ireturn, 1) := by decide +kernel
theorem dX10_seed_0 : decode cX10_seed 0 = .ok (.iload_n 1, 1) := by decide +kernel
theorem dX10_seed_1 : decode cX10_seed 1 = .ok (.ifCond .ge 6, 3) := by decide +kernel
theorem dX10_seed_4 : decode cX10_seed 4 = .ok (.ldc 94, 2) := by decide +kernel
theorem dX10_seed_6 : decode cX10_seed 6 = .ok (.ireturn, 1) := by decide +kernel
theorem dX10_seed_7 : decode cX10_seed 7 = .ok (.aload_n 0, 1) := by decide +kernel
theorem dX10_seed_8 : decode cX10_seed 8 = .ok (.getfield 207, 3) := by decide +kernel
theorem dX10_seed_11 : decode cX10_seed 11 = .ok (.istore_n 2, 1) := by decide +kernel
theorem dX10_seed_12 : decode cX10_seed 12 = .ok (.aload_n 0, 1) := by decide +kernel
theorem dX10_seed_13 : decode cX10_seed 13 = .ok (.iload_n 1, 1) := by decide +kernel
theorem dX10_seed_14 : decode cX10_seed 14 = .ok (.putfield 207, 3) := by decide +kernel
theorem dX10_seed_17 : decode cX10_seed 17 = .ok (.iload_n 2, 1) := by decide +kernel
theorem dX10_seed_18 : decode cX10_seed 18 = .ok (.ireturn, 1) := by decide +kernel
theorem dX10_keep_0 : decode cX10_keep 0 = .ok (.iload_n 1, 1) := by decide +kernel
theorem dX10_keep_1 : decode cX10_keep 1 = .ok (.i2l, 1) := by decide +kernel
theorem dX10_keep_2 : decode cX10_keep 2 = .ok (.lconst 0, 1) := by decide +kernel
theorem dX10_keep_3 : decode cX10_keep 3 = .ok (.lconst 1, 1) := by decide +kernel
theorem dX10_keep_4 : decode cX10_keep 4 = .ok (.invokestatic 81, 3) := by decide +kernel
theorem dX10_keep_7 : decode cX10_keep 7 = .ok (.ifCond .ne 6, 3) := by decide +kernel
theorem dX10_keep_10 : decode cX10_keep 10 = .ok (.ldc 188, 2) := by decide +kernel
theorem dX10_keep_12 : decode cX10_keep 12 = .ok (.ireturn, 1) := by decide +kernel
theorem dX10_keep_13 : decode cX10_keep 13 = .ok (.iconst 0, 1) := by decide +kernel
theorem dX10_keep_14 : decode cX10_keep 14 = .ok (.istore_n 2, 1) := by decide +kernel
theorem dX10_keep_15 : decode cX10_keep 15 = .ok (.iload_n 2, 1) := by decide +kernel
theorem dX10_keep_16 : decode cX10_keep 16 = .ok (.bipush 41, 2) := by decide +kernel
theorem dX10_keep_18 : decode cX10_keep 18 = .ok (.if_icmp .ge 26, 3) := by decide +kernel
theorem dX10_keep_21 : decode cX10_keep 21 = .ok (.aload_n 0, 1) := by decide +kernel
theorem dX10_keep_22 : decode cX10_keep 22 = .ok (.getfield 71, 3) := by decide +kernel
theorem dX10_keep_25 : decode cX10_keep 25 = .ok (.bipush 42, 2) := by decide +kernel
theorem dX10_keep_27 : decode cX10_keep 27 = .ok (.iload_n 1, 1) := by decide +kernel
theorem dX10_keep_28 : decode cX10_keep 28 = .ok (.imul, 1) := by decide +kernel
theorem dX10_keep_29 : decode cX10_keep 29 = .ok (.iload_n 2, 1) := by decide +kernel
theorem dX10_keep_30 : decode cX10_keep 30 = .ok (.iadd, 1) := by decide +kernel
theorem dX10_keep_31 : decode cX10_keep 31 = .ok (.aload_n 0, 1) := by decide +kernel
theorem dX10_keep_32 : decode cX10_keep 32 = .ok (.getfield 16, 3) := by decide +kernel
theorem dX10_keep_35 : decode cX10_keep 35 = .ok (.iload_n 2, 1) := by decide +kernel
theorem dX10_keep_36 : decode cX10_keep 36 = .ok (.iaload, 1) := by decide +kernel
theorem dX10_keep_37 : decode cX10_keep 37 = .ok (.iastore, 1) := by decide +kernel
theorem dX10_keep_38 : decode cX10_keep 38 = .ok (.iinc 2 1, 3) := by decide +kernel
theorem dX10_keep_41 : decode cX10_keep 41 = .ok (.goto (-26), 3) := by decide +kernel
theorem dX10_keep_44 : decode cX10_keep 44 = .ok (.aload_n 0, 1) := by decide +kernel
theorem dX10_keep_45 : decode cX10_keep 45 = .ok (.getfield 71, 3) := by decide +kernel
theorem dX10_keep_48 : decode cX10_keep 48 = .ok (.bipush 42, 2) := by decide +kernel
theorem dX10_keep_50 : decode cX10_keep 50 = .ok (.iload_n 1, 1) := by decide +kernel
theorem dX10_keep_51 : decode cX10_keep 51 = .ok (.imul, 1) := by decide +kernel
theorem dX10_keep_52 : decode cX10_keep 52 = .ok (.bipush 41, 2) := by decide +kernel
theorem dX10_keep_54 : decode cX10_keep 54 = .ok (.iadd, 1) := by decide +kernel
theorem dX10_keep_55 : decode cX10_keep 55 = .ok (.aload_n 0, 1) := by decide +kernel
theorem dX10_keep_56 : decode cX10_keep 56 = .ok (.getfield 207, 3) := by decide +kernel
theorem dX10_keep_59 : decode cX10_keep 59 = .ok (.iastore, 1) := by decide +kernel
theorem dX10_keep_60 : decode cX10_keep 60 = .ok (.aload_n 0, 1) := by decide +kernel
theorem dX10_keep_61 : decode cX10_keep 61 = .ok (.getfield 74, 3) := by decide +kernel
theorem dX10_keep_64 : decode cX10_keep 64 = .ok (.iload_n 1, 1) := by decide +kernel
theorem dX10_keep_65 : decode cX10_keep 65 = .ok (.iconst 1, 1) := by decide +kernel
theorem dX10_keep_66 : decode cX10_keep 66 = .ok (.bastore, 1) := by decide +kernel
theorem dX10_keep_67 : decode cX10_keep 67 = .ok (.aload_n 0, 1) := by decide +kernel
theorem dX10_keep_68 : decode cX10_keep 68 = .ok (.iconst 0, 1) := by decide +kernel
theorem dX10_keep_69 : decode cX10_keep 69 = .ok (.putfield 156, 3) := by decide +kernel
theorem dX10_keep_72 : decode cX10_keep 72 = .ok (.iconst 1, 1) := by decide +kernel
theorem dX10_keep_73 : decode cX10_keep 73 = .ok (.ireturn, 1) := by decide +kernel
theorem dX10_goBack_0 : decode cX10_goBack 0 = .ok (.iload_n 1, 1) := by decide +kernel
theorem dX10_goBack_1 : decode cX10_goBack 1 = .ok (.i2l, 1) := by decide +kernel
theorem dX10_goBack_2 : decode cX10_goBack 2 = .ok (.lconst 0, 1) := by decide +kernel
theorem dX10_goBack_3 : decode cX10_goBack 3 = .ok (.lconst 1, 1) := by decide +kernel
theorem dX10_goBack_4 : decode cX10_goBack 4 = .ok (.invokestatic 81, 3) := by decide +kernel
theorem dX10_goBack_7 : decode cX10_goBack 7 = .ok (.ifCond .ne 6, 3) := by decide +kernel
theorem dX10_goBack_10 : decode cX10_goBack 10 = .ok (.ldc 188, 2) := by decide +kernel
theorem dX10_goBack_12 : decode cX10_goBack 12 = .ok (.ireturn, 1) := by decide +kernel
theorem dX10_goBack_13 : decode cX10_goBack 13 = .ok (.aload_n 0, 1) := by decide +kernel
theorem dX10_goBack_14 : decode cX10_goBack 14 = .ok (.getfield 74, 3) := by decide +kernel
theorem dX10_goBack_17 : decode cX10_goBack 17 = .ok (.iload_n 1, 1) := by decide +kernel
theorem dX10_goBack_18 : decode cX10_goBack 18 = .ok (.baload, 1) := by decide +kernel
theorem dX10_goBack_19 : decode cX10_goBack 19 = .ok (.ifCond .ne 6, 3) := by decide +kernel
theorem dX10_goBack_22 : decode cX10_goBack 22 = .ok (.ldc 194, 2) := by decide +kernel
theorem dX10_goBack_24 : decode cX10_goBack 24 = .ok (.ireturn, 1) := by decide +kernel
theorem dX10_goBack_25 : decode cX10_goBack 25 = .ok (.iconst 0, 1) := by decide +kernel
theorem dX10_goBack_26 : decode cX10_goBack 26 = .ok (.istore_n 2, 1) := by decide +kernel
theorem dX10_goBack_27 : decode cX10_goBack 27 = .ok (.iload_n 2, 1) := by decide +kernel
theorem dX10_goBack_28 : decode cX10_goBack 28 = .ok (.bipush 41, 2) := by decide +kernel
theorem dX10_goBack_30 : decode cX10_goBack 30 = .ok (.if_icmp .ge 26, 3) := by decide +kernel
theorem dX10_goBack_33 : decode cX10_goBack 33 = .ok (.aload_n 0, 1) := by decide +kernel
theorem dX10_goBack_34 : decode cX10_goBack 34 = .ok (.getfield 16, 3) := by decide +kernel
theorem dX10_goBack_37 : decode cX10_goBack 37 = .ok (.iload_n 2, 1) := by decide +kernel
theorem dX10_goBack_38 : decode cX10_goBack 38 = .ok (.aload_n 0, 1) := by decide +kernel
theorem dX10_goBack_39 : decode cX10_goBack 39 = .ok (.getfield 71, 3) := by decide +kernel
theorem dX10_goBack_42 : decode cX10_goBack 42 = .ok (.bipush 42, 2) := by decide +kernel
theorem dX10_goBack_44 : decode cX10_goBack 44 = .ok (.iload_n 1, 1) := by decide +kernel
theorem dX10_goBack_45 : decode cX10_goBack 45 = .ok (.imul, 1) := by decide +kernel
theorem dX10_goBack_46 : decode cX10_goBack 46 = .ok (.iload_n 2, 1) := by decide +kernel
theorem dX10_goBack_47 : decode cX10_goBack 47 = .ok (.iadd, 1) := by decide +kernel
theorem dX10_goBack_48 : decode cX10_goBack 48 = .ok (.iaload, 1) := by decide +kernel
theorem dX10_goBack_49 : decode cX10_goBack 49 = .ok (.iastore, 1) := by decide +kernel
theorem dX10_goBack_50 : decode cX10_goBack 50 = .ok (.iinc 2 1, 3) := by decide +kernel
theorem dX10_goBack_53 : decode cX10_goBack 53 = .ok (.goto (-26), 3) := by decide +kernel
theorem dX10_goBack_56 : decode cX10_goBack 56 = .ok (.aload_n 0, 1) := by decide +kernel
theorem dX10_goBack_57 : decode cX10_goBack 57 = .ok (.aload_n 0, 1) := by decide +kernel
theorem dX10_goBack_58 : decode cX10_goBack 58 = .ok (.getfield 71, 3) := by decide +kernel
theorem dX10_goBack_61 : decode cX10_goBack 61 = .ok (.bipush 42, 2) := by decide +kernel
theorem dX10_goBack_63 : decode cX10_goBack 63 = .ok (.iload_n 1, 1) := by decide +kernel
theorem dX10_goBack_64 : decode cX10_goBack 64 = .ok (.imul, 1) := by decide +kernel
theorem dX10_goBack_65 : decode cX10_goBack 65 = .ok (.bipush 41, 2) := by decide +kernel
theorem dX10_goBack_67 : decode cX10_goBack 67 = .ok (.iadd, 1) := by decide +kernel
theorem dX10_goBack_68 : decode cX10_goBack 68 = .ok (.iaload, 1) := by decide +kernel
theorem dX10_goBack_69 : decode cX10_goBack 69 = .ok (.putfield 207, 3) := by decide +kernel
theorem dX10_goBack_72 : decode cX10_goBack 72 = .ok (.aload_n 0, 1) := by decide +kernel
theorem dX10_goBack_73 : decode cX10_goBack 73 = .ok (.iconst 0, 1) := by decide +kernel
theorem dX10_goBack_74 : decode cX10_goBack 74 = .ok (.putfield 156, 3) := by decide +kernel
theorem dX10_goBack_77 : decode cX10_goBack 77 = .ok (.iconst 1, 1) := by decide +kernel
theorem dX10_goBack_78 : decode cX10_goBack 78 = .ok (.ireturn, 1) := by decide +kernel
theorem dJ6_bitCount_0f7a4_0 : decode cJ6_bitCount_0f7a4 0 = .ok (.iload_n 0, 1) := by decide +kernel
theorem dJ6_bitCount_0f7a4_1 : decode cJ6_bitCount_0f7a4 1 = .ok (.iload_n 0, 1) := by decide +kernel
theorem dJ6_bitCount_0f7a4_2 : decode cJ6_bitCount_0f7a4 2 = .ok (.iconst 1, 1) := by decide +kernel
theorem dJ6_bitCount_0f7a4_3 : decode cJ6_bitCount_0f7a4 3 = .ok (.iushr, 1) := by decide +kernel
theorem dJ6_bitCount_0f7a4_4 : decode cJ6_bitCount_0f7a4 4 = .ok (.ldc_w 265, 3) := by decide +kernel
theorem dJ6_bitCount_0f7a4_7 : decode cJ6_bitCount_0f7a4 7 = .ok (.iand, 1) := by decide +kernel
theorem dJ6_bitCount_0f7a4_8 : decode cJ6_bitCount_0f7a4 8 = .ok (.isub, 1) := by decide +kernel
theorem dJ6_bitCount_0f7a4_9 : decode cJ6_bitCount_0f7a4 9 = .ok (.istore_n 0, 1) := by decide +kernel
theorem dJ6_bitCount_0f7a4_10 : decode cJ6_bitCount_0f7a4 10 = .ok (.iload_n 0, 1) := by decide +kernel
theorem dJ6_bitCount_0f7a4_11 : decode cJ6_bitCount_0f7a4 11 = .ok (.ldc_w 266, 3) := by decide +kernel
theorem dJ6_bitCount_0f7a4_14 : decode cJ6_bitCount_0f7a4 14 = .ok (.iand, 1) := by decide +kernel
theorem dJ6_bitCount_0f7a4_15 : decode cJ6_bitCount_0f7a4 15 = .ok (.iload_n 0, 1) := by decide +kernel
theorem dJ6_bitCount_0f7a4_16 : decode cJ6_bitCount_0f7a4 16 = .ok (.iconst 2, 1) := by decide +kernel
theorem dJ6_bitCount_0f7a4_17 : decode cJ6_bitCount_0f7a4 17 = .ok (.iushr, 1) := by decide +kernel
theorem dJ6_bitCount_0f7a4_18 : decode cJ6_bitCount_0f7a4 18 = .ok (.ldc_w 266, 3) := by decide +kernel
theorem dJ6_bitCount_0f7a4_21 : decode cJ6_bitCount_0f7a4 21 = .ok (.iand, 1) := by decide +kernel
theorem dJ6_bitCount_0f7a4_22 : decode cJ6_bitCount_0f7a4 22 = .ok (.iadd, 1) := by decide +kernel
theorem dJ6_bitCount_0f7a4_23 : decode cJ6_bitCount_0f7a4 23 = .ok (.istore_n 0, 1) := by decide +kernel
theorem dJ6_bitCount_0f7a4_24 : decode cJ6_bitCount_0f7a4 24 = .ok (.iload_n 0, 1) := by decide +kernel
theorem dJ6_bitCount_0f7a4_25 : decode cJ6_bitCount_0f7a4 25 = .ok (.iload_n 0, 1) := by decide +kernel
theorem dJ6_bitCount_0f7a4_26 : decode cJ6_bitCount_0f7a4 26 = .ok (.iconst 4, 1) := by decide +kernel
theorem dJ6_bitCount_0f7a4_27 : decode cJ6_bitCount_0f7a4 27 = .ok (.iushr, 1) := by decide +kernel
theorem dJ6_bitCount_0f7a4_28 : decode cJ6_bitCount_0f7a4 28 = .ok (.iadd, 1) := by decide +kernel
theorem dJ6_bitCount_0f7a4_29 : decode cJ6_bitCount_0f7a4 29 = .ok (.ldc_w 267, 3) := by decide +kernel
theorem dJ6_bitCount_0f7a4_32 : decode cJ6_bitCount_0f7a4 32 = .ok (.iand, 1) := by decide +kernel
theorem dJ6_bitCount_0f7a4_33 : decode cJ6_bitCount_0f7a4 33 = .ok (.istore_n 0, 1) := by decide +kernel
theorem dJ6_bitCount_0f7a4_34 : decode cJ6_bitCount_0f7a4 34 = .ok (.iload_n 0, 1) := by decide +kernel
theorem dJ6_bitCount_0f7a4_35 : decode cJ6_bitCount_0f7a4 35 = .ok (.iload_n 0, 1) := by decide +kernel
theorem dJ6_bitCount_0f7a4_36 : decode cJ6_bitCount_0f7a4 36 = .ok (.bipush 8, 2) := by decide +kernel
theorem dJ6_bitCount_0f7a4_38 : decode cJ6_bitCount_0f7a4 38 = .ok (.iushr, 1) := by decide +kernel
theorem dJ6_bitCount_0f7a4_39 : decode cJ6_bitCount_0f7a4 39 = .ok (.iadd, 1) := by decide +kernel
theorem dJ6_bitCount_0f7a4_40 : decode cJ6_bitCount_0f7a4 40 = .ok (.istore_n 0, 1) := by decide +kernel
theorem dJ6_bitCount_0f7a4_41 : decode cJ6_bitCount_0f7a4 41 = .ok (.iload_n 0, 1) := by decide +kernel
theorem dJ6_bitCount_0f7a4_42 : decode cJ6_bitCount_0f7a4 42 = .ok (.iload_n 0, 1) := by decide +kernel
theorem dJ6_bitCount_0f7a4_43 : decode cJ6_bitCount_0f7a4 43 = .ok (.bipush 16, 2) := by decide +kernel
theorem dJ6_bitCount_0f7a4_45 : decode cJ6_bitCount_0f7a4 45 = .ok (.iushr, 1) := by decide +kernel
theorem dJ6_bitCount_0f7a4_46 : decode cJ6_bitCount_0f7a4 46 = .ok (.iadd, 1) := by decide +kernel
theorem dJ6_bitCount_0f7a4_47 : decode cJ6_bitCount_0f7a4 47 = .ok (.istore_n 0, 1) := by decide +kernel
theorem dJ6_bitCount_0f7a4_48 : decode cJ6_bitCount_0f7a4 48 = .ok (.iload_n 0, 1) := by decide +kernel
theorem dJ6_bitCount_0f7a4_49 : decode cJ6_bitCount_0f7a4 49 = .ok (.bipush 63, 2) := by decide +kernel
theorem dJ6_bitCount_0f7a4_51 : decode cJ6_bitCount_0f7a4 51 = .ok (.iand, 1) := by decide +kernel
theorem dJ6_bitCount_0f7a4_52 : decode cJ6_bitCount_0f7a4 52 = .ok (.ireturn, 1) := by decide +kernel
theorem dJ9_max_7cf53_0 : decode cJ9_max_7cf53 0 = .ok (.iload_n 0, 1) := by decide +kernel
theorem dJ9_max_7cf53_1 : decode cJ9_max_7cf53 1 = .ok (.iload_n 1, 1) := by decide +kernel
theorem dJ9_max_7cf53_2 : decode cJ9_max_7cf53 2 = .ok (.if_icmp .lt 7, 3) := by decide +kernel
theorem dJ9_max_7cf53_5 : decode cJ9_max_7cf53 5 = .ok (.iload_n 0, 1) := by decide +kernel
theorem dJ9_max_7cf53_6 : decode cJ9_max_7cf53 6 = .ok (.goto 4, 3) := by decide +kernel
theorem dJ9_max_7cf53_9 : decode cJ9_max_7cf53 9 = .ok (.iload_n 1, 1) := by decide +kernel
theorem dJ9_max_7cf53_10 : decode cJ9_max_7cf53 10 = .ok (.ireturn, 1) := by decide +kernel
theorem dJ9_min_7cf53_0 : decode cJ9_min_7cf53 0 = .ok (.iload_n 0, 1) := by decide +kernel
theorem dJ9_min_7cf53_1 : decode cJ9_min_7cf53 1 = .ok (.iload_n 1, 1) := by decide +kernel
theorem dJ9_min_7cf53_2 : decode cJ9_min_7cf53 2 = .ok (.if_icmp .gt 7, 3) := by decide +kernel
theorem dJ9_min_7cf53_5 : decode cJ9_min_7cf53 5 = .ok (.iload_n 0, 1) := by decide +kernel
theorem dJ9_min_7cf53_6 : decode cJ9_min_7cf53 6 = .ok (.goto 4, 3) := by decide +kernel
theorem dJ9_min_7cf53_9 : decode cJ9_min_7cf53 9 = .ok (.iload_n 1, 1) := by decide +kernel
theorem dJ9_min_7cf53_10 : decode cJ9_min_7cf53 10 = .ok (.ireturn, 1) := by decide +kernel
theorem dL_law_0 : decode cL_law 0 = .ok (.new 7, 3) := by decide +kernel
theorem dL_law_3 : decode cL_law 3 = .ok (.dup, 1) := by decide +kernel
theorem dL_law_4 : decode cL_law 4 = .ok (.invokespecial 9, 3) := by decide +kernel
theorem dL_law_7 : decode cL_law 7 = .ok (.astore_n 1, 1) := by decide +kernel
theorem dL_law_8 : decode cL_law 8 = .ok (.new 10, 3) := by decide +kernel
theorem dL_law_11 : decode cL_law 11 = .ok (.dup, 1) := by decide +kernel
theorem dL_law_12 : decode cL_law 12 = .ok (.invokespecial 12, 3) := by decide +kernel
theorem dL_law_15 : decode cL_law 15 = .ok (.astore_n 2, 1) := by decide +kernel
theorem dL_law_16 : decode cL_law 16 = .ok (.iconst 0, 1) := by decide +kernel
theorem dL_law_17 : decode cL_law 17 = .ok (.istore_n 3, 1) := by decide +kernel
theorem dL_law_18 : decode cL_law 18 = .ok (.iload_n 3, 1) := by decide +kernel
theorem dL_law_19 : decode cL_law 19 = .ok (.aload_n 0, 1) := by decide +kernel
theorem dL_law_20 : decode cL_law 20 = .ok (.arraylength, 1) := by decide +kernel
theorem dL_law_21 : decode cL_law 21 = .ok (.iconst 4, 1) := by decide +kernel
theorem dL_law_22 : decode cL_law 22 = .ok (.isub, 1) := by decide +kernel
theorem dL_law_23 : decode cL_law 23 = .ok (.if_icmp .gt 881, 3) := by decide +kernel
theorem dL_law_26 : decode cL_law 26 = .ok (.aload_n 0, 1) := by decide +kernel
theorem dL_law_27 : decode cL_law 27 = .ok (.iload_n 3, 1) := by decide +kernel
theorem dL_law_28 : decode cL_law 28 = .ok (.iaload, 1) := by decide +kernel
theorem dL_law_29 : decode cL_law 29 = .ok (.bipush 31, 2) := by decide +kernel
theorem dL_law_31 : decode cL_law 31 = .ok (.iand, 1) := by decide +kernel
theorem dL_law_32 : decode cL_law 32 = .ok (.tableswitch 866 0 29 #[136, 159, 172, 185, 208, 241, 264, 297, 320, 343, 366, 379, 412, 445, 468, 501, 524, 537, 570, 603, 626, 649, 692, 715, 738, 771, 784, 797, 820, 843], 136) := by decide +kernel
theorem dL_law_168 : decode cL_law 168 = .ok (.aload_n 1, 1) := by decide +kernel
theorem dL_law_169 : decode cL_law 169 = .ok (.aload_n 0, 1) := by decide +kernel
theorem dL_law_170 : decode cL_law 170 = .ok (.iload_n 3, 1) := by decide +kernel
theorem dL_law_171 : decode cL_law 171 = .ok (.iconst 1, 1) := by decide +kernel
theorem dL_law_172 : decode cL_law 172 = .ok (.iadd, 1) := by decide +kernel
theorem dL_law_173 : decode cL_law 173 = .ok (.iaload, 1) := by decide +kernel
theorem dL_law_174 : decode cL_law 174 = .ok (.invokevirtual 13, 3) := by decide +kernel
theorem dL_law_177 : decode cL_law 177 = .ok (.aload_n 2, 1) := by decide +kernel
theorem dL_law_178 : decode cL_law 178 = .ok (.aload_n 0, 1) := by decide +kernel
theorem dL_law_179 : decode cL_law 179 = .ok (.iload_n 3, 1) := by decide +kernel
theorem dL_law_180 : decode cL_law 180 = .ok (.iconst 1, 1) := by decide +kernel
theorem dL_law_181 : decode cL_law 181 = .ok (.iadd, 1) := by decide +kernel
theorem dL_law_182 : decode cL_law 182 = .ok (.iaload, 1) := by decide +kernel
theorem dL_law_183 : decode cL_law 183 = .ok (.invokevirtual 17, 3) := by decide +kernel
theorem dL_law_186 : decode cL_law 186 = .ok (.if_icmp .eq 712, 3) := by decide +kernel
theorem dL_law_189 : decode cL_law 189 = .ok (.iconst 0, 1) := by decide +kernel
theorem dL_law_190 : decode cL_law 190 = .ok (.ireturn, 1) := by decide +kernel
theorem dL_law_191 : decode cL_law 191 = .ok (.aload_n 1, 1) := by decide +kernel
theorem dL_law_192 : decode cL_law 192 = .ok (.invokevirtual 18, 3) := by decide +kernel
theorem dL_law_195 : decode cL_law 195 = .ok (.aload_n 2, 1) := by decide +kernel
theorem dL_law_196 : decode cL_law 196 = .ok (.invokevirtual 22, 3) := by decide +kernel
theorem dL_law_199 : decode cL_law 199 = .ok (.if_icmp .eq 699, 3) := by decide +kernel
theorem dL_law_202 : decode cL_law 202 = .ok (.iconst 0, 1) := by decide +kernel
theorem dL_law_203 : decode cL_law 203 = .ok (.ireturn, 1) := by decide +kernel
theorem dL_law_204 : decode cL_law 204 = .ok (.aload_n 1, 1) := by decide +kernel
theorem dL_law_205 : decode cL_law 205 = .ok (.invokevirtual 23, 3) := by decide +kernel
theorem dL_law_208 : decode cL_law 208 = .ok (.aload_n 2, 1) := by decide +kernel
theorem dL_law_209 : decode cL_law 209 = .ok (.invokevirtual 26, 3) := by decide +kernel
theorem dL_law_212 : decode cL_law 212 = .ok (.if_icmp .eq 686, 3) := by decide +kernel
theorem dL_law_215 : decode cL_law 215 = .ok (.iconst 0, 1) := by decide +kernel
theorem dL_law_216 : decode cL_law 216 = .ok (.ireturn, 1) := by decide +kernel
theorem dL_law_217 : decode cL_law 217 = .ok (.aload_n 1, 1) := by decide +kernel
theorem dL_law_218 : decode cL_law 218 = .ok (.aload_n 0, 1) := by decide +kernel
theorem dL_law_219 : decode cL_law 219 = .ok (.iload_n 3, 1) := by decide +kernel
theorem dL_law_220 : decode cL_law 220 = .ok (.iconst 1, 1) := by decide +kernel
theorem dL_law_221 : decode cL_law 221 = .ok (.iadd, 1) := by decide +kernel
theorem dL_law_222 : decode cL_law 222 = .ok (.iaload, 1) := by decide +kernel
theorem dL_law_223 : decode cL_law 223 = .ok (.invokevirtual 27, 3) := by decide +kernel
theorem dL_law_226 : decode cL_law 226 = .ok (.aload_n 2, 1) := by decide +kernel
theorem dL_law_227 : decode cL_law 227 = .ok (.aload_n 0, 1) := by decide +kernel
theorem dL_law_228 : decode cL_law 228 = .ok (.iload_n 3, 1) := by decide +kernel
theorem dL_law_229 : decode cL_law 229 = .ok (.iconst 1, 1) := by decide +kernel
theorem dL_law_230 : decode cL_law 230 = .ok (.iadd, 1) := by decide +kernel
theorem dL_law_231 : decode cL_law 231 = .ok (.iaload, 1) := by decide +kernel
theorem dL_law_232 : decode cL_law 232 = .ok (.invokevirtual 30, 3) := by decide +kernel
theorem dL_law_235 : decode cL_law 235 = .ok (.if_icmp .eq 663, 3) := by decide +kernel
theorem dL_law_238 : decode cL_law 238 = .ok (.iconst 0, 1) := by decide +kernel
theorem dL_law_239 : decode cL_law 239 = .ok (.ireturn, 1) := by decide +kernel
theorem dL_law_240 : decode cL_law 240 = .ok (.aload_n 1, 1) := by decide +kernel
theorem dL_law_241 : decode cL_law 241 = .ok (.aload_n 0, 1) := by decide +kernel
theorem dL_law_242 : decode cL_law 242 = .ok (.iload_n 3, 1) := by decide +kernel
theorem dL_law_243 : decode cL_law 243 = .ok (.iconst 1, 1) := by decide +kernel
theorem dL_law_244 : decode cL_law 244 = .ok (.iadd, 1) := by decide +kernel
theorem dL_law_245 : decode cL_law 245 = .ok (.iaload, 1) := by decide +kernel
theorem dL_law_246 : decode cL_law 246 = .ok (.aload_n 0, 1) := by decide +kernel
theorem dL_law_247 : decode cL_law 247 = .ok (.iload_n 3, 1) := by decide +kernel
theorem dL_law_248 : decode cL_law 248 = .ok (.iconst 2, 1) := by decide +kernel
theorem dL_law_249 : decode cL_law 249 = .ok (.iadd, 1) := by decide +kernel
theorem dL_law_250 : decode cL_law 250 = .ok (.iaload, 1) := by decide +kernel
theorem dL_law_251 : decode cL_law 251 = .ok (.invokevirtual 31, 3) := by decide +kernel
theorem dL_law_254 : decode cL_law 254 = .ok (.aload_n 2, 1) := by decide +kernel
theorem dL_law_255 : decode cL_law 255 = .ok (.aload_n 0, 1) := by decide +kernel
theorem dL_law_256 : decode cL_law 256 = .ok (.iload_n 3, 1) := by decide +kernel
theorem dL_law_257 : decode cL_law 257 = .ok (.iconst 1, 1) := by decide +kernel
theorem dL_law_258 : decode cL_law 258 = .ok (.iadd, 1) := by decide +kernel
theorem dL_law_259 : decode cL_law 259 = .ok (.iaload, 1) := by decide +kernel
theorem dL_law_260 : decode cL_law 260 = .ok (.aload_n 0, 1) := by decide +kernel
theorem dL_law_261 : decode cL_law 261 = .ok (.iload_n 3, 1) := by decide +kernel
theorem dL_law_262 : decode cL_law 262 = .ok (.iconst 2, 1) := by decide +kernel
theorem dL_law_263 : decode cL_law 263 = .ok (.iadd, 1) := by decide +kernel
theorem dL_law_264 : decode cL_law 264 = .ok (.iaload, 1) := by decide +kernel
theorem dL_law_265 : decode cL_law 265 = .ok (.invokevirtual 35, 3) := by decide +kernel
theorem dL_law_268 : decode cL_law 268 = .ok (.if_icmp .eq 630, 3) := by decide +kernel
theorem dL_law_271 : decode cL_law 271 = .ok (.iconst 0, 1) := by decide +kernel
theorem dL_law_272 : decode cL_law 272 = .ok (.ireturn, 1) := by decide +kernel
theorem dL_law_273 : decode cL_law 273 = .ok (.aload_n 1, 1) := by decide +kernel
theorem dL_law_274 : decode cL_law 274 = .ok (.aload_n 0, 1) := by decide +kernel
theorem dL_law_275 : decode cL_law 275 = .ok (.iload_n 3, 1) := by decide +kernel
theorem dL_law_276 : decode cL_law 276 = .ok (.iconst 1, 1) := by decide +kernel
theorem dL_law_277 : decode cL_law 277 = .ok (.iadd, 1) := by decide +kernel
theorem dL_law_278 : decode cL_law 278 = .ok (.iaload, 1) := by decide +kernel
theorem dL_law_279 : decode cL_law 279 = .ok (.invokevirtual 36, 3) := by decide +kernel
theorem dL_law_282 : decode cL_law 282 = .ok (.aload_n 2, 1) := by decide +kernel
theorem dL_law_283 : decode cL_law 283 = .ok (.aload_n 0, 1) := by decide +kernel
theorem dL_law_284 : decode cL_law 284 = .ok (.iload_n 3, 1) := by decide +kernel
theorem dL_law_285 : decode cL_law 285 = .ok (.iconst 1, 1) := by decide +kernel
theorem dL_law_286 : decode cL_law 286 = .ok (.iadd, 1) := by decide +kernel
theorem dL_law_287 : decode cL_law 287 = .ok (.iaload, 1) := by decide +kernel
theorem dL_law_288 : decode cL_law 288 = .ok (.invokevirtual 39, 3) := by decide +kernel
theorem dL_law_291 : decode cL_law 291 = .ok (.if_icmp .eq 607, 3) := by decide +kernel
theorem dL_law_294 : decode cL_law 294 = .ok (.iconst 0, 1) := by decide +kernel
theorem dL_law_295 : decode cL_law 295 = .ok (.ireturn, 1) := by decide +kernel
theorem dL_law_296 : decode cL_law 296 = .ok (.aload_n 1, 1) := by decide +kernel
theorem dL_law_297 : decode cL_law 297 = .ok (.aload_n 0, 1) := by decide +kernel
theorem dL_law_298 : decode cL_law 298 = .ok (.iload_n 3, 1) := by decide +kernel
theorem dL_law_299 : decode cL_law 299 = .ok (.iconst 1, 1) := by decide +kernel
theorem dL_law_300 : decode cL_law 300 = .ok (.iadd, 1) := by decide +kernel
theorem dL_law_301 : decode cL_law 301 = .ok (.iaload, 1) := by decide +kernel
theorem dL_law_302 : decode cL_law 302 = .ok (.aload_n 0, 1) := by decide +kernel
theorem dL_law_303 : decode cL_law 303 = .ok (.iload_n 3, 1) := by decide +kernel
theorem dL_law_304 : decode cL_law 304 = .ok (.iconst 2, 1) := by decide +kernel
theorem dL_law_305 : decode cL_law 305 = .ok (.iadd, 1) := by decide +kernel
theorem dL_law_306 : decode cL_law 306 = .ok (.iaload, 1) := by decide +kernel
theorem dL_law_307 : decode cL_law 307 = .ok (.invokevirtual 40, 3) := by decide +kernel
theorem dL_law_310 : decode cL_law 310 = .ok (.aload_n 2, 1) := by decide +kernel
theorem dL_law_311 : decode cL_law 311 = .ok (.aload_n 0, 1) := by decide +kernel
theorem dL_law_312 : decode cL_law 312 = .ok (.iload_n 3, 1) := by decide +kernel
theorem dL_law_313 : decode cL_law 313 = .ok (.iconst 1, 1) := by decide +kernel
theorem dL_law_314 : decode cL_law 314 = .ok (.iadd, 1) := by decide +kernel
theorem dL_law_315 : decode cL_law 315 = .ok (.iaload, 1) := by decide +kernel
theorem dL_law_316 : decode cL_law 316 = .ok (.aload_n 0, 1) := by decide +kernel
theorem dL_law_317 : decode cL_law 317 = .ok (.iload_n 3, 1) := by decide +kernel
theorem dL_law_318 : decode cL_law 318 = .ok (.iconst 2, 1) := by decide +kernel
theorem dL_law_319 : decode cL_law 319 = .ok (.iadd, 1) := by decide +kernel
theorem dL_law_320 : decode cL_law 320 = .ok (.iaload, 1) := by decide +kernel
theorem dL_law_321 : decode cL_law 321 = .ok (.invokevirtual 43, 3) := by decide +kernel
theorem dL_law_324 : decode cL_law 324 = .ok (.if_icmp .eq 574, 3) := by decide +kernel
theorem dL_law_327 : decode cL_law 327 = .ok (.iconst 0, 1) := by decide +kernel
theorem dL_law_328 : decode cL_law 328 = .ok (.ireturn, 1) := by decide +kernel
theorem dL_law_329 : decode cL_law 329 = .ok (.aload_n 1, 1) := by decide +kernel
theorem dL_law_330 : decode cL_law 330 = .ok (.aload_n 0, 1) := by decide +kernel
theorem dL_law_331 : decode cL_law 331 = .ok (.iload_n 3, 1) := by decide +kernel
theorem dL_law_332 : decode cL_law 332 = .ok (.iconst 1, 1) := by decide +kernel
theorem dL_law_333 : decode cL_law 333 = .ok (.iadd, 1) := by decide +kernel
theorem dL_law_334 : decode cL_law 334 = .ok (.iaload, 1) := by decide +kernel
theorem dL_law_335 : decode cL_law 335 = .ok (.invokevirtual 44, 3) := by decide +kernel
theorem dL_law_338 : decode cL_law 338 = .ok (.aload_n 2, 1) := by decide +kernel
theorem dL_law_339 : decode cL_law 339 = .ok (.aload_n 0, 1) := by decide +kernel
theorem dL_law_340 : decode cL_law 340 = .ok (.iload_n 3, 1) := by decide +kernel
theorem dL_law_341 : decode cL_law 341 = .ok (.iconst 1, 1) := by decide +kernel
theorem dL_law_342 : decode cL_law 342 = .ok (.iadd, 1) := by decide +kernel
theorem dL_law_343 : decode cL_law 343 = .ok (.iaload, 1) := by decide +kernel
theorem dL_law_344 : decode cL_law 344 = .ok (.invokevirtual 47, 3) := by decide +kernel
theorem dL_law_347 : decode cL_law 347 = .ok (.if_icmp .eq 551, 3) := by decide +kernel
theorem dL_law_350 : decode cL_law 350 = .ok (.iconst 0, 1) := by decide +kernel
theorem dL_law_351 : decode cL_law 351 = .ok (.ireturn, 1) := by decide +kernel
theorem dL_law_352 : decode cL_law 352 = .ok (.aload_n 1, 1) := by decide +kernel
theorem dL_law_353 : decode cL_law 353 = .ok (.aload_n 0, 1) := by decide +kernel
theorem dL_law_354 : decode cL_law 354 = .ok (.iload_n 3, 1) := by decide +kernel
theorem dL_law_355 : decode cL_law 355 = .ok (.iconst 1, 1) := by decide +kernel
theorem dL_law_356 : decode cL_law 356 = .ok (.iadd, 1) := by decide +kernel
theorem dL_law_357 : decode cL_law 357 = .ok (.iaload, 1) := by decide +kernel
theorem dL_law_358 : decode cL_law 358 = .ok (.invokevirtual 48, 3) := by decide +kernel
theorem dL_law_361 : decode cL_law 361 = .ok (.aload_n 2, 1) := by decide +kernel
theorem dL_law_362 : decode cL_law 362 = .ok (.aload_n 0, 1) := by decide +kernel
theorem dL_law_363 : decode cL_law 363 = .ok (.iload_n 3, 1) := by decide +kernel
theorem dL_law_364 : decode cL_law 364 = .ok (.iconst 1, 1) := by decide +kernel
theorem dL_law_365 : decode cL_law 365 = .ok (.iadd, 1) := by decide +kernel
theorem dL_law_366 : decode cL_law 366 = .ok (.iaload, 1) := by decide +kernel
theorem dL_law_367 : decode cL_law 367 = .ok (.invokevirtual 51, 3) := by decide +kernel
theorem dL_law_370 : decode cL_law 370 = .ok (.if_icmp .eq 528, 3) := by decide +kernel
theorem dL_law_373 : decode cL_law 373 = .ok (.iconst 0, 1) := by decide +kernel
theorem dL_law_374 : decode cL_law 374 = .ok (.ireturn, 1) := by decide +kernel
theorem dL_law_375 : decode cL_law 375 = .ok (.aload_n 1, 1) := by decide +kernel
theorem dL_law_376 : decode cL_law 376 = .ok (.aload_n 0, 1) := by decide +kernel
theorem dL_law_377 : decode cL_law 377 = .ok (.iload_n 3, 1) := by decide +kernel
theorem dL_law_378 : decode cL_law 378 = .ok (.iconst 1, 1) := by decide +kernel
theorem dL_law_379 : decode cL_law 379 = .ok (.iadd, 1) := by decide +kernel
theorem dL_law_380 : decode cL_law 380 = .ok (.iaload, 1) := by decide +kernel
theorem dL_law_381 : decode cL_law 381 = .ok (.invokevirtual 52, 3) := by decide +kernel
theorem dL_law_384 : decode cL_law 384 = .ok (.aload_n 2, 1) := by decide +kernel
theorem dL_law_385 : decode cL_law 385 = .ok (.aload_n 0, 1) := by decide +kernel
theorem dL_law_386 : decode cL_law 386 = .ok (.iload_n 3, 1) := by decide +kernel
theorem dL_law_387 : decode cL_law 387 = .ok (.iconst 1, 1) := by decide +kernel
theorem dL_law_388 : decode cL_law 388 = .ok (.iadd, 1) := by decide +kernel
theorem dL_law_389 : decode cL_law 389 = .ok (.iaload, 1) := by decide +kernel
theorem dL_law_390 : decode cL_law 390 = .ok (.invokevirtual 55, 3) := by decide +kernel
theorem dL_law_393 : decode cL_law 393 = .ok (.if_icmp .eq 505, 3) := by decide +kernel
theorem dL_law_396 : decode cL_law 396 = .ok (.iconst 0, 1) := by decide +kernel
theorem dL_law_397 : decode cL_law 397 = .ok (.ireturn, 1) := by decide +kernel
theorem dL_law_398 : decode cL_law 398 = .ok (.aload_n 1, 1) := by decide +kernel
theorem dL_law_399 : decode cL_law 399 = .ok (.invokevirtual 56, 3) := by decide +kernel
theorem dL_law_402 : decode cL_law 402 = .ok (.aload_n 2, 1) := by decide +kernel
theorem dL_law_403 : decode cL_law 403 = .ok (.invokevirtual 59, 3) := by decide +kernel
theorem dL_law_406 : decode cL_law 406 = .ok (.if_icmp .eq 492, 3) := by decide +kernel
theorem dL_law_409 : decode cL_law 409 = .ok (.iconst 0, 1) := by decide +kernel
theorem dL_law_410 : decode cL_law 410 = .ok (.ireturn, 1) := by decide +kernel
theorem dL_law_411 : decode cL_law 411 = .ok (.aload_n 1, 1) := by decide +kernel
theorem dL_law_412 : decode cL_law 412 = .ok (.aload_n 0, 1) := by decide +kernel
theorem dL_law_413 : decode cL_law 413 = .ok (.iload_n 3, 1) := by decide +kernel
theorem dL_law_414 : decode cL_law 414 = .ok (.iconst 1, 1) := by decide +kernel
theorem dL_law_415 : decode cL_law 415 = .ok (.iadd, 1) := by decide +kernel
theorem dL_law_416 : decode cL_law 416 = .ok (.iaload, 1) := by decide +kernel
theorem dL_law_417 : decode cL_law 417 = .ok (.aload_n 0, 1) := by decide +kernel
theorem dL_law_418 : decode cL_law 418 = .ok (.iload_n 3, 1) := by decide +kernel
theorem dL_law_419 : decode cL_law 419 = .ok (.iconst 2, 1) := by decide +kernel
theorem dL_law_420 : decode cL_law 420 = .ok (.iadd, 1) := by decide +kernel
theorem dL_law_421 : decode cL_law 421 = .ok (.iaload, 1) := by decide +kernel
theorem dL_law_422 : decode cL_law 422 = .ok (.invokevirtual 60, 3) := by decide +kernel
theorem dL_law_425 : decode cL_law 425 = .ok (.aload_n 2, 1) := by decide +kernel
theorem dL_law_426 : decode cL_law 426 = .ok (.aload_n 0, 1) := by decide +kernel
theorem dL_law_427 : decode cL_law 427 = .ok (.iload_n 3, 1) := by decide +kernel
theorem dL_law_428 : decode cL_law 428 = .ok (.iconst 1, 1) := by decide +kernel
theorem dL_law_429 : decode cL_law 429 = .ok (.iadd, 1) := by decide +kernel
theorem dL_law_430 : decode cL_law 430 = .ok (.iaload, 1) := by decide +kernel
theorem dL_law_431 : decode cL_law 431 = .ok (.aload_n 0, 1) := by decide +kernel
theorem dL_law_432 : decode cL_law 432 = .ok (.iload_n 3, 1) := by decide +kernel
theorem dL_law_433 : decode cL_law 433 = .ok (.iconst 2, 1) := by decide +kernel
theorem dL_law_434 : decode cL_law 434 = .ok (.iadd, 1) := by decide +kernel
theorem dL_law_435 : decode cL_law 435 = .ok (.iaload, 1) := by decide +kernel
theorem dL_law_436 : decode cL_law 436 = .ok (.invokevirtual 63, 3) := by decide +kernel
theorem dL_law_439 : decode cL_law 439 = .ok (.if_icmp .eq 459, 3) := by decide +kernel
theorem dL_law_442 : decode cL_law 442 = .ok (.iconst 0, 1) := by decide +kernel
theorem dL_law_443 : decode cL_law 443 = .ok (.ireturn, 1) := by decide +kernel
theorem dL_law_444 : decode cL_law 444 = .ok (.aload_n 1, 1) := by decide +kernel
theorem dL_law_445 : decode cL_law 445 = .ok (.aload_n 0, 1) := by decide +kernel
theorem dL_law_446 : decode cL_law 446 = .ok (.iload_n 3, 1) := by decide +kernel
theorem dL_law_447 : decode cL_law 447 = .ok (.iconst 1, 1) := by decide +kernel
theorem dL_law_448 : decode cL_law 448 = .ok (.iadd, 1) := by decide +kernel
theorem dL_law_449 : decode cL_law 449 = .ok (.iaload, 1) := by decide +kernel
theorem dL_law_450 : decode cL_law 450 = .ok (.aload_n 0, 1) := by decide +kernel
theorem dL_law_451 : decode cL_law 451 = .ok (.iload_n 3, 1) := by decide +kernel
theorem dL_law_452 : decode cL_law 452 = .ok (.iconst 2, 1) := by decide +kernel
theorem dL_law_453 : decode cL_law 453 = .ok (.iadd, 1) := by decide +kernel
theorem dL_law_454 : decode cL_law 454 = .ok (.iaload, 1) := by decide +kernel
theorem dL_law_455 : decode cL_law 455 = .ok (.invokevirtual 64, 3) := by decide +kernel
theorem dL_law_458 : decode cL_law 458 = .ok (.aload_n 2, 1) := by decide +kernel
theorem dL_law_459 : decode cL_law 459 = .ok (.aload_n 0, 1) := by decide +kernel
theorem dL_law_460 : decode cL_law 460 = .ok (.iload_n 3, 1) := by decide +kernel
theorem dL_law_461 : decode cL_law 461 = .ok (.iconst 1, 1) := by decide +kernel
theorem dL_law_462 : decode cL_law 462 = .ok (.iadd, 1) := by decide +kernel
theorem dL_law_463 : decode cL_law 463 = .ok (.iaload, 1) := by decide +kernel
theorem dL_law_464 : decode cL_law 464 = .ok (.aload_n 0, 1) := by decide +kernel
theorem dL_law_465 : decode cL_law 465 = .ok (.iload_n 3, 1) := by decide +kernel
theorem dL_law_466 : decode cL_law 466 = .ok (.iconst 2, 1) := by decide +kernel
theorem dL_law_467 : decode cL_law 467 = .ok (.iadd, 1) := by decide +kernel
theorem dL_law_468 : decode cL_law 468 = .ok (.iaload, 1) := by decide +kernel
theorem dL_law_469 : decode cL_law 469 = .ok (.invokevirtual 67, 3) := by decide +kernel
theorem dL_law_472 : decode cL_law 472 = .ok (.if_icmp .eq 426, 3) := by decide +kernel
theorem dL_law_475 : decode cL_law 475 = .ok (.iconst 0, 1) := by decide +kernel
theorem dL_law_476 : decode cL_law 476 = .ok (.ireturn, 1) := by decide +kernel
theorem dL_law_477 : decode cL_law 477 = .ok (.aload_n 1, 1) := by decide +kernel
theorem dL_law_478 : decode cL_law 478 = .ok (.aload_n 0, 1) := by decide +kernel
theorem dL_law_479 : decode cL_law 479 = .ok (.iload_n 3, 1) := by decide +kernel
theorem dL_law_480 : decode cL_law 480 = .ok (.iconst 1, 1) := by decide +kernel
theorem dL_law_481 : decode cL_law 481 = .ok (.iadd, 1) := by decide +kernel
theorem dL_law_482 : decode cL_law 482 = .ok (.iaload, 1) := by decide +kernel
theorem dL_law_483 : decode cL_law 483 = .ok (.invokevirtual 68, 3) := by decide +kernel
theorem dL_law_486 : decode cL_law 486 = .ok (.aload_n 2, 1) := by decide +kernel
theorem dL_law_487 : decode cL_law 487 = .ok (.aload_n 0, 1) := by decide +kernel
theorem dL_law_488 : decode cL_law 488 = .ok (.iload_n 3, 1) := by decide +kernel
theorem dL_law_489 : decode cL_law 489 = .ok (.iconst 1, 1) := by decide +kernel
theorem dL_law_490 : decode cL_law 490 = .ok (.iadd, 1) := by decide +kernel
theorem dL_law_491 : decode cL_law 491 = .ok (.iaload, 1) := by decide +kernel
theorem dL_law_492 : decode cL_law 492 = .ok (.invokevirtual 71, 3) := by decide +kernel
theorem dL_law_495 : decode cL_law 495 = .ok (.if_icmp .eq 403, 3) := by decide +kernel
theorem dL_law_498 : decode cL_law 498 = .ok (.iconst 0, 1) := by decide +kernel
theorem dL_law_499 : decode cL_law 499 = .ok (.ireturn, 1) := by decide +kernel
theorem dL_law_500 : decode cL_law 500 = .ok (.aload_n 1, 1) := by decide +kernel
theorem dL_law_501 : decode cL_law 501 = .ok (.aload_n 0, 1) := by decide +kernel
theorem dL_law_502 : decode cL_law 502 = .ok (.iload_n 3, 1) := by decide +kernel
theorem dL_law_503 : decode cL_law 503 = .ok (.iconst 1, 1) := by decide +kernel
theorem dL_law_504 : decode cL_law 504 = .ok (.iadd, 1) := by decide +kernel
theorem dL_law_505 : decode cL_law 505 = .ok (.iaload, 1) := by decide +kernel
theorem dL_law_506 : decode cL_law 506 = .ok (.aload_n 0, 1) := by decide +kernel
theorem dL_law_507 : decode cL_law 507 = .ok (.iload_n 3, 1) := by decide +kernel
theorem dL_law_508 : decode cL_law 508 = .ok (.iconst 2, 1) := by decide +kernel
theorem dL_law_509 : decode cL_law 509 = .ok (.iadd, 1) := by decide +kernel
theorem dL_law_510 : decode cL_law 510 = .ok (.iaload, 1) := by decide +kernel
theorem dL_law_511 : decode cL_law 511 = .ok (.invokevirtual 72, 3) := by decide +kernel
theorem dL_law_514 : decode cL_law 514 = .ok (.aload_n 2, 1) := by decide +kernel
theorem dL_law_515 : decode cL_law 515 = .ok (.aload_n 0, 1) := by decide +kernel
theorem dL_law_516 : decode cL_law 516 = .ok (.iload_n 3, 1) := by decide +kernel
theorem dL_law_517 : decode cL_law 517 = .ok (.iconst 1, 1) := by decide +kernel
theorem dL_law_518 : decode cL_law 518 = .ok (.iadd, 1) := by decide +kernel
theorem dL_law_519 : decode cL_law 519 = .ok (.iaload, 1) := by decide +kernel
theorem dL_law_520 : decode cL_law 520 = .ok (.aload_n 0, 1) := by decide +kernel
theorem dL_law_521 : decode cL_law 521 = .ok (.iload_n 3, 1) := by decide +kernel
theorem dL_law_522 : decode cL_law 522 = .ok (.iconst 2, 1) := by decide +kernel
theorem dL_law_523 : decode cL_law 523 = .ok (.iadd, 1) := by decide +kernel
theorem dL_law_524 : decode cL_law 524 = .ok (.iaload, 1) := by decide +kernel
theorem dL_law_525 : decode cL_law 525 = .ok (.invokevirtual 75, 3) := by decide +kernel
theorem dL_law_528 : decode cL_law 528 = .ok (.if_icmp .eq 370, 3) := by decide +kernel
theorem dL_law_531 : decode cL_law 531 = .ok (.iconst 0, 1) := by decide +kernel
theorem dL_law_532 : decode cL_law 532 = .ok (.ireturn, 1) := by decide +kernel
theorem dL_law_533 : decode cL_law 533 = .ok (.aload_n 1, 1) := by decide +kernel
theorem dL_law_534 : decode cL_law 534 = .ok (.aload_n 0, 1) := by decide +kernel
theorem dL_law_535 : decode cL_law 535 = .ok (.iload_n 3, 1) := by decide +kernel
theorem dL_law_536 : decode cL_law 536 = .ok (.iconst 1, 1) := by decide +kernel
theorem dL_law_537 : decode cL_law 537 = .ok (.iadd, 1) := by decide +kernel
theorem dL_law_538 : decode cL_law 538 = .ok (.iaload, 1) := by decide +kernel
theorem dL_law_539 : decode cL_law 539 = .ok (.invokevirtual 76, 3) := by decide +kernel
theorem dL_law_542 : decode cL_law 542 = .ok (.aload_n 2, 1) := by decide +kernel
theorem dL_law_543 : decode cL_law 543 = .ok (.aload_n 0, 1) := by decide +kernel
theorem dL_law_544 : decode cL_law 544 = .ok (.iload_n 3, 1) := by decide +kernel
theorem dL_law_545 : decode cL_law 545 = .ok (.iconst 1, 1) := by decide +kernel
theorem dL_law_546 : decode cL_law 546 = .ok (.iadd, 1) := by decide +kernel
theorem dL_law_547 : decode cL_law 547 = .ok (.iaload, 1) := by decide +kernel
theorem dL_law_548 : decode cL_law 548 = .ok (.invokevirtual 79, 3) := by decide +kernel
theorem dL_law_551 : decode cL_law 551 = .ok (.if_icmp .eq 347, 3) := by decide +kernel
theorem dL_law_554 : decode cL_law 554 = .ok (.iconst 0, 1) := by decide +kernel
theorem dL_law_555 : decode cL_law 555 = .ok (.ireturn, 1) := by decide +kernel
theorem dL_law_556 : decode cL_law 556 = .ok (.aload_n 1, 1) := by decide +kernel
theorem dL_law_557 : decode cL_law 557 = .ok (.invokevirtual 80, 3) := by decide +kernel
theorem dL_law_560 : decode cL_law 560 = .ok (.aload_n 2, 1) := by decide +kernel
theorem dL_law_561 : decode cL_law 561 = .ok (.invokevirtual 83, 3) := by decide +kernel
theorem dL_law_564 : decode cL_law 564 = .ok (.if_icmp .eq 334, 3) := by decide +kernel
theorem dL_law_567 : decode cL_law 567 = .ok (.iconst 0, 1) := by decide +kernel
theorem dL_law_568 : decode cL_law 568 = .ok (.ireturn, 1) := by decide +kernel
theorem dL_law_569 : decode cL_law 569 = .ok (.aload_n 1, 1) := by decide +kernel
theorem dL_law_570 : decode cL_law 570 = .ok (.aload_n 0, 1) := by decide +kernel
theorem dL_law_571 : decode cL_law 571 = .ok (.iload_n 3, 1) := by decide +kernel
theorem dL_law_572 : decode cL_law 572 = .ok (.iconst 1, 1) := by decide +kernel
theorem dL_law_573 : decode cL_law 573 = .ok (.iadd, 1) := by decide +kernel
theorem dL_law_574 : decode cL_law 574 = .ok (.iaload, 1) := by decide +kernel
theorem dL_law_575 : decode cL_law 575 = .ok (.aload_n 0, 1) := by decide +kernel
theorem dL_law_576 : decode cL_law 576 = .ok (.iload_n 3, 1) := by decide +kernel
theorem dL_law_577 : decode cL_law 577 = .ok (.iconst 2, 1) := by decide +kernel
theorem dL_law_578 : decode cL_law 578 = .ok (.iadd, 1) := by decide +kernel
theorem dL_law_579 : decode cL_law 579 = .ok (.iaload, 1) := by decide +kernel
theorem dL_law_580 : decode cL_law 580 = .ok (.invokevirtual 84, 3) := by decide +kernel
theorem dL_law_583 : decode cL_law 583 = .ok (.aload_n 2, 1) := by decide +kernel
theorem dL_law_584 : decode cL_law 584 = .ok (.aload_n 0, 1) := by decide +kernel
theorem dL_law_585 : decode cL_law 585 = .ok (.iload_n 3, 1) := by decide +kernel
theorem dL_law_586 : decode cL_law 586 = .ok (.iconst 1, 1) := by decide +kernel
theorem dL_law_587 : decode cL_law 587 = .ok (.iadd, 1) := by decide +kernel
theorem dL_law_588 : decode cL_law 588 = .ok (.iaload, 1) := by decide +kernel
theorem dL_law_589 : decode cL_law 589 = .ok (.aload_n 0, 1) := by decide +kernel
theorem dL_law_590 : decode cL_law 590 = .ok (.iload_n 3, 1) := by decide +kernel
theorem dL_law_591 : decode cL_law 591 = .ok (.iconst 2, 1) := by decide +kernel
theorem dL_law_592 : decode cL_law 592 = .ok (.iadd, 1) := by decide +kernel
theorem dL_law_593 : decode cL_law 593 = .ok (.iaload, 1) := by decide +kernel
theorem dL_law_594 : decode cL_law 594 = .ok (.invokevirtual 87, 3) := by decide +kernel
theorem dL_law_597 : decode cL_law 597 = .ok (.if_icmp .eq 301, 3) := by decide +kernel
theorem dL_law_600 : decode cL_law 600 = .ok (.iconst 0, 1) := by decide +kernel
theorem dL_law_601 : decode cL_law 601 = .ok (.ireturn, 1) := by decide +kernel
theorem dL_law_602 : decode cL_law 602 = .ok (.aload_n 1, 1) := by decide +kernel
theorem dL_law_603 : decode cL_law 603 = .ok (.aload_n 0, 1) := by decide +kernel
theorem dL_law_604 : decode cL_law 604 = .ok (.iload_n 3, 1) := by decide +kernel
theorem dL_law_605 : decode cL_law 605 = .ok (.iconst 1, 1) := by decide +kernel
theorem dL_law_606 : decode cL_law 606 = .ok (.iadd, 1) := by decide +kernel
theorem dL_law_607 : decode cL_law 607 = .ok (.iaload, 1) := by decide +kernel
theorem dL_law_608 : decode cL_law 608 = .ok (.aload_n 0, 1) := by decide +kernel
theorem dL_law_609 : decode cL_law 609 = .ok (.iload_n 3, 1) := by decide +kernel
theorem dL_law_610 : decode cL_law 610 = .ok (.iconst 2, 1) := by decide +kernel
theorem dL_law_611 : decode cL_law 611 = .ok (.iadd, 1) := by decide +kernel
theorem dL_law_612 : decode cL_law 612 = .ok (.iaload, 1) := by decide +kernel
theorem dL_law_613 : decode cL_law 613 = .ok (.invokevirtual 88, 3) := by decide +kernel
theorem dL_law_616 : decode cL_law 616 = .ok (.aload_n 2, 1) := by decide +kernel
theorem dL_law_617 : decode cL_law 617 = .ok (.aload_n 0, 1) := by decide +kernel
theorem dL_law_618 : decode cL_law 618 = .ok (.iload_n 3, 1) := by decide +kernel
theorem dL_law_619 : decode cL_law 619 = .ok (.iconst 1, 1) := by decide +kernel
theorem dL_law_620 : decode cL_law 620 = .ok (.iadd, 1) := by decide +kernel
theorem dL_law_621 : decode cL_law 621 = .ok (.iaload, 1) := by decide +kernel
theorem dL_law_622 : decode cL_law 622 = .ok (.aload_n 0, 1) := by decide +kernel
theorem dL_law_623 : decode cL_law 623 = .ok (.iload_n 3, 1) := by decide +kernel
theorem dL_law_624 : decode cL_law 624 = .ok (.iconst 2, 1) := by decide +kernel
theorem dL_law_625 : decode cL_law 625 = .ok (.iadd, 1) := by decide +kernel
theorem dL_law_626 : decode cL_law 626 = .ok (.iaload, 1) := by decide +kernel
theorem dL_law_627 : decode cL_law 627 = .ok (.invokevirtual 91, 3) := by decide +kernel
theorem dL_law_630 : decode cL_law 630 = .ok (.if_icmp .eq 268, 3) := by decide +kernel
theorem dL_law_633 : decode cL_law 633 = .ok (.iconst 0, 1) := by decide +kernel
theorem dL_law_634 : decode cL_law 634 = .ok (.ireturn, 1) := by decide +kernel
theorem dL_law_635 : decode cL_law 635 = .ok (.aload_n 1, 1) := by decide +kernel
theorem dL_law_636 : decode cL_law 636 = .ok (.aload_n 0, 1) := by decide +kernel
theorem dL_law_637 : decode cL_law 637 = .ok (.iload_n 3, 1) := by decide +kernel
theorem dL_law_638 : decode cL_law 638 = .ok (.iconst 1, 1) := by decide +kernel
theorem dL_law_639 : decode cL_law 639 = .ok (.iadd, 1) := by decide +kernel
theorem dL_law_640 : decode cL_law 640 = .ok (.iaload, 1) := by decide +kernel
theorem dL_law_641 : decode cL_law 641 = .ok (.invokevirtual 92, 3) := by decide +kernel
theorem dL_law_644 : decode cL_law 644 = .ok (.aload_n 2, 1) := by decide +kernel
theorem dL_law_645 : decode cL_law 645 = .ok (.aload_n 0, 1) := by decide +kernel
theorem dL_law_646 : decode cL_law 646 = .ok (.iload_n 3, 1) := by decide +kernel
theorem dL_law_647 : decode cL_law 647 = .ok (.iconst 1, 1) := by decide +kernel
theorem dL_law_648 : decode cL_law 648 = .ok (.iadd, 1) := by decide +kernel
theorem dL_law_649 : decode cL_law 649 = .ok (.iaload, 1) := by decide +kernel
theorem dL_law_650 : decode cL_law 650 = .ok (.invokevirtual 95, 3) := by decide +kernel
theorem dL_law_653 : decode cL_law 653 = .ok (.if_icmp .eq 245, 3) := by decide +kernel
theorem dL_law_656 : decode cL_law 656 = .ok (.iconst 0, 1) := by decide +kernel
theorem dL_law_657 : decode cL_law 657 = .ok (.ireturn, 1) := by decide +kernel
theorem dL_law_658 : decode cL_law 658 = .ok (.aload_n 1, 1) := by decide +kernel
theorem dL_law_659 : decode cL_law 659 = .ok (.aload_n 0, 1) := by decide +kernel
theorem dL_law_660 : decode cL_law 660 = .ok (.iload_n 3, 1) := by decide +kernel
theorem dL_law_661 : decode cL_law 661 = .ok (.iconst 1, 1) := by decide +kernel
theorem dL_law_662 : decode cL_law 662 = .ok (.iadd, 1) := by decide +kernel
theorem dL_law_663 : decode cL_law 663 = .ok (.iaload, 1) := by decide +kernel
theorem dL_law_664 : decode cL_law 664 = .ok (.invokevirtual 96, 3) := by decide +kernel
theorem dL_law_667 : decode cL_law 667 = .ok (.aload_n 2, 1) := by decide +kernel
theorem dL_law_668 : decode cL_law 668 = .ok (.aload_n 0, 1) := by decide +kernel
theorem dL_law_669 : decode cL_law 669 = .ok (.iload_n 3, 1) := by decide +kernel
theorem dL_law_670 : decode cL_law 670 = .ok (.iconst 1, 1) := by decide +kernel
theorem dL_law_671 : decode cL_law 671 = .ok (.iadd, 1) := by decide +kernel
theorem dL_law_672 : decode cL_law 672 = .ok (.iaload, 1) := by decide +kernel
theorem dL_law_673 : decode cL_law 673 = .ok (.invokevirtual 99, 3) := by decide +kernel
theorem dL_law_676 : decode cL_law 676 = .ok (.if_icmp .eq 222, 3) := by decide +kernel
theorem dL_law_679 : decode cL_law 679 = .ok (.iconst 0, 1) := by decide +kernel
theorem dL_law_680 : decode cL_law 680 = .ok (.ireturn, 1) := by decide +kernel
theorem dL_law_681 : decode cL_law 681 = .ok (.aload_n 1, 1) := by decide +kernel
theorem dL_law_682 : decode cL_law 682 = .ok (.aload_n 0, 1) := by decide +kernel
theorem dL_law_683 : decode cL_law 683 = .ok (.iload_n 3, 1) := by decide +kernel
theorem dL_law_684 : decode cL_law 684 = .ok (.iconst 1, 1) := by decide +kernel
theorem dL_law_685 : decode cL_law 685 = .ok (.iadd, 1) := by decide +kernel
theorem dL_law_686 : decode cL_law 686 = .ok (.iaload, 1) := by decide +kernel
theorem dL_law_687 : decode cL_law 687 = .ok (.aload_n 0, 1) := by decide +kernel
theorem dL_law_688 : decode cL_law 688 = .ok (.iload_n 3, 1) := by decide +kernel
theorem dL_law_689 : decode cL_law 689 = .ok (.iconst 2, 1) := by decide +kernel
theorem dL_law_690 : decode cL_law 690 = .ok (.iadd, 1) := by decide +kernel
theorem dL_law_691 : decode cL_law 691 = .ok (.iaload, 1) := by decide +kernel
theorem dL_law_692 : decode cL_law 692 = .ok (.aload_n 0, 1) := by decide +kernel
theorem dL_law_693 : decode cL_law 693 = .ok (.iload_n 3, 1) := by decide +kernel
theorem dL_law_694 : decode cL_law 694 = .ok (.iconst 3, 1) := by decide +kernel
theorem dL_law_695 : decode cL_law 695 = .ok (.iadd, 1) := by decide +kernel
theorem dL_law_696 : decode cL_law 696 = .ok (.iaload, 1) := by decide +kernel
theorem dL_law_697 : decode cL_law 697 = .ok (.invokevirtual 100, 3) := by decide +kernel
theorem dL_law_700 : decode cL_law 700 = .ok (.aload_n 2, 1) := by decide +kernel
theorem dL_law_701 : decode cL_law 701 = .ok (.aload_n 0, 1) := by decide +kernel
theorem dL_law_702 : decode cL_law 702 = .ok (.iload_n 3, 1) := by decide +kernel
theorem dL_law_703 : decode cL_law 703 = .ok (.iconst 1, 1) := by decide +kernel
theorem dL_law_704 : decode cL_law 704 = .ok (.iadd, 1) := by decide +kernel
theorem dL_law_705 : decode cL_law 705 = .ok (.iaload, 1) := by decide +kernel
theorem dL_law_706 : decode cL_law 706 = .ok (.aload_n 0, 1) := by decide +kernel
theorem dL_law_707 : decode cL_law 707 = .ok (.iload_n 3, 1) := by decide +kernel
theorem dL_law_708 : decode cL_law 708 = .ok (.iconst 2, 1) := by decide +kernel
theorem dL_law_709 : decode cL_law 709 = .ok (.iadd, 1) := by decide +kernel
theorem dL_law_710 : decode cL_law 710 = .ok (.iaload, 1) := by decide +kernel
theorem dL_law_711 : decode cL_law 711 = .ok (.aload_n 0, 1) := by decide +kernel
theorem dL_law_712 : decode cL_law 712 = .ok (.iload_n 3, 1) := by decide +kernel
theorem dL_law_713 : decode cL_law 713 = .ok (.iconst 3, 1) := by decide +kernel
theorem dL_law_714 : decode cL_law 714 = .ok (.iadd, 1) := by decide +kernel
theorem dL_law_715 : decode cL_law 715 = .ok (.iaload, 1) := by decide +kernel
theorem dL_law_716 : decode cL_law 716 = .ok (.invokevirtual 104, 3) := by decide +kernel
theorem dL_law_719 : decode cL_law 719 = .ok (.if_icmp .eq 179, 3) := by decide +kernel
theorem dL_law_722 : decode cL_law 722 = .ok (.iconst 0, 1) := by decide +kernel
theorem dL_law_723 : decode cL_law 723 = .ok (.ireturn, 1) := by decide +kernel
theorem dL_law_724 : decode cL_law 724 = .ok (.aload_n 1, 1) := by decide +kernel
theorem dL_law_725 : decode cL_law 725 = .ok (.aload_n 0, 1) := by decide +kernel
theorem dL_law_726 : decode cL_law 726 = .ok (.iload_n 3, 1) := by decide +kernel
theorem dL_law_727 : decode cL_law 727 = .ok (.iconst 1, 1) := by decide +kernel
theorem dL_law_728 : decode cL_law 728 = .ok (.iadd, 1) := by decide +kernel
theorem dL_law_729 : decode cL_law 729 = .ok (.iaload, 1) := by decide +kernel
theorem dL_law_730 : decode cL_law 730 = .ok (.invokevirtual 105, 3) := by decide +kernel
theorem dL_law_733 : decode cL_law 733 = .ok (.aload_n 2, 1) := by decide +kernel
theorem dL_law_734 : decode cL_law 734 = .ok (.aload_n 0, 1) := by decide +kernel
theorem dL_law_735 : decode cL_law 735 = .ok (.iload_n 3, 1) := by decide +kernel
theorem dL_law_736 : decode cL_law 736 = .ok (.iconst 1, 1) := by decide +kernel
theorem dL_law_737 : decode cL_law 737 = .ok (.iadd, 1) := by decide +kernel
theorem dL_law_738 : decode cL_law 738 = .ok (.iaload, 1) := by decide +kernel
theorem dL_law_739 : decode cL_law 739 = .ok (.invokevirtual 108, 3) := by decide +kernel
theorem dL_law_742 : decode cL_law 742 = .ok (.if_icmp .eq 156, 3) := by decide +kernel
theorem dL_law_745 : decode cL_law 745 = .ok (.iconst 0, 1) := by decide +kernel
theorem dL_law_746 : decode cL_law 746 = .ok (.ireturn, 1) := by decide +kernel
theorem dL_law_747 : decode cL_law 747 = .ok (.aload_n 1, 1) := by decide +kernel
theorem dL_law_748 : decode cL_law 748 = .ok (.aload_n 0, 1) := by decide +kernel
theorem dL_law_749 : decode cL_law 749 = .ok (.iload_n 3, 1) := by decide +kernel
theorem dL_law_750 : decode cL_law 750 = .ok (.iconst 1, 1) := by decide +kernel
theorem dL_law_751 : decode cL_law 751 = .ok (.iadd, 1) := by decide +kernel
theorem dL_law_752 : decode cL_law 752 = .ok (.iaload, 1) := by decide +kernel
theorem dL_law_753 : decode cL_law 753 = .ok (.invokevirtual 109, 3) := by decide +kernel
theorem dL_law_756 : decode cL_law 756 = .ok (.aload_n 2, 1) := by decide +kernel
theorem dL_law_757 : decode cL_law 757 = .ok (.aload_n 0, 1) := by decide +kernel
theorem dL_law_758 : decode cL_law 758 = .ok (.iload_n 3, 1) := by decide +kernel
theorem dL_law_759 : decode cL_law 759 = .ok (.iconst 1, 1) := by decide +kernel
theorem dL_law_760 : decode cL_law 760 = .ok (.iadd, 1) := by decide +kernel
theorem dL_law_761 : decode cL_law 761 = .ok (.iaload, 1) := by decide +kernel
theorem dL_law_762 : decode cL_law 762 = .ok (.invokevirtual 112, 3) := by decide +kernel
theorem dL_law_765 : decode cL_law 765 = .ok (.if_icmp .eq 133, 3) := by decide +kernel
theorem dL_law_768 : decode cL_law 768 = .ok (.iconst 0, 1) := by decide +kernel
theorem dL_law_769 : decode cL_law 769 = .ok (.ireturn, 1) := by decide +kernel
theorem dL_law_770 : decode cL_law 770 = .ok (.aload_n 1, 1) := by decide +kernel
theorem dL_law_771 : decode cL_law 771 = .ok (.aload_n 0, 1) := by decide +kernel
theorem dL_law_772 : decode cL_law 772 = .ok (.iload_n 3, 1) := by decide +kernel
theorem dL_law_773 : decode cL_law 773 = .ok (.iconst 1, 1) := by decide +kernel
theorem dL_law_774 : decode cL_law 774 = .ok (.iadd, 1) := by decide +kernel
theorem dL_law_775 : decode cL_law 775 = .ok (.iaload, 1) := by decide +kernel
theorem dL_law_776 : decode cL_law 776 = .ok (.aload_n 0, 1) := by decide +kernel
theorem dL_law_777 : decode cL_law 777 = .ok (.iload_n 3, 1) := by decide +kernel
theorem dL_law_778 : decode cL_law 778 = .ok (.iconst 2, 1) := by decide +kernel
theorem dL_law_779 : decode cL_law 779 = .ok (.iadd, 1) := by decide +kernel
theorem dL_law_780 : decode cL_law 780 = .ok (.iaload, 1) := by decide +kernel
theorem dL_law_781 : decode cL_law 781 = .ok (.invokevirtual 113, 3) := by decide +kernel
theorem dL_law_784 : decode cL_law 784 = .ok (.aload_n 2, 1) := by decide +kernel
theorem dL_law_785 : decode cL_law 785 = .ok (.aload_n 0, 1) := by decide +kernel
theorem dL_law_786 : decode cL_law 786 = .ok (.iload_n 3, 1) := by decide +kernel
theorem dL_law_787 : decode cL_law 787 = .ok (.iconst 1, 1) := by decide +kernel
theorem dL_law_788 : decode cL_law 788 = .ok (.iadd, 1) := by decide +kernel
theorem dL_law_789 : decode cL_law 789 = .ok (.iaload, 1) := by decide +kernel
theorem dL_law_790 : decode cL_law 790 = .ok (.aload_n 0, 1) := by decide +kernel
theorem dL_law_791 : decode cL_law 791 = .ok (.iload_n 3, 1) := by decide +kernel
theorem dL_law_792 : decode cL_law 792 = .ok (.iconst 2, 1) := by decide +kernel
theorem dL_law_793 : decode cL_law 793 = .ok (.iadd, 1) := by decide +kernel
theorem dL_law_794 : decode cL_law 794 = .ok (.iaload, 1) := by decide +kernel
theorem dL_law_795 : decode cL_law 795 = .ok (.invokevirtual 116, 3) := by decide +kernel
theorem dL_law_798 : decode cL_law 798 = .ok (.if_icmp .eq 100, 3) := by decide +kernel
theorem dL_law_801 : decode cL_law 801 = .ok (.iconst 0, 1) := by decide +kernel
theorem dL_law_802 : decode cL_law 802 = .ok (.ireturn, 1) := by decide +kernel
theorem dL_law_803 : decode cL_law 803 = .ok (.aload_n 1, 1) := by decide +kernel
theorem dL_law_804 : decode cL_law 804 = .ok (.invokevirtual 117, 3) := by decide +kernel
theorem dL_law_807 : decode cL_law 807 = .ok (.aload_n 2, 1) := by decide +kernel
theorem dL_law_808 : decode cL_law 808 = .ok (.invokevirtual 120, 3) := by decide +kernel
theorem dL_law_811 : decode cL_law 811 = .ok (.if_icmp .eq 87, 3) := by decide +kernel
theorem dL_law_814 : decode cL_law 814 = .ok (.iconst 0, 1) := by decide +kernel
theorem dL_law_815 : decode cL_law 815 = .ok (.ireturn, 1) := by decide +kernel
theorem dL_law_816 : decode cL_law 816 = .ok (.aload_n 1, 1) := by decide +kernel
theorem dL_law_817 : decode cL_law 817 = .ok (.invokevirtual 121, 3) := by decide +kernel
theorem dL_law_820 : decode cL_law 820 = .ok (.aload_n 2, 1) := by decide +kernel
theorem dL_law_821 : decode cL_law 821 = .ok (.invokevirtual 124, 3) := by decide +kernel
theorem dL_law_824 : decode cL_law 824 = .ok (.if_icmp .eq 74, 3) := by decide +kernel
theorem dL_law_827 : decode cL_law 827 = .ok (.iconst 0, 1) := by decide +kernel
theorem dL_law_828 : decode cL_law 828 = .ok (.ireturn, 1) := by decide +kernel
theorem dL_law_829 : decode cL_law 829 = .ok (.aload_n 1, 1) := by decide +kernel
theorem dL_law_830 : decode cL_law 830 = .ok (.aload_n 0, 1) := by decide +kernel
theorem dL_law_831 : decode cL_law 831 = .ok (.iload_n 3, 1) := by decide +kernel
theorem dL_law_832 : decode cL_law 832 = .ok (.iconst 1, 1) := by decide +kernel
theorem dL_law_833 : decode cL_law 833 = .ok (.iadd, 1) := by decide +kernel
theorem dL_law_834 : decode cL_law 834 = .ok (.iaload, 1) := by decide +kernel
theorem dL_law_835 : decode cL_law 835 = .ok (.invokevirtual 125, 3) := by decide +kernel
theorem dL_law_838 : decode cL_law 838 = .ok (.aload_n 2, 1) := by decide +kernel
theorem dL_law_839 : decode cL_law 839 = .ok (.aload_n 0, 1) := by decide +kernel
theorem dL_law_840 : decode cL_law 840 = .ok (.iload_n 3, 1) := by decide +kernel
theorem dL_law_841 : decode cL_law 841 = .ok (.iconst 1, 1) := by decide +kernel
theorem dL_law_842 : decode cL_law 842 = .ok (.iadd, 1) := by decide +kernel
theorem dL_law_843 : decode cL_law 843 = .ok (.iaload, 1) := by decide +kernel
theorem dL_law_844 : decode cL_law 844 = .ok (.invokevirtual 128, 3) := by decide +kernel
theorem dL_law_847 : decode cL_law 847 = .ok (.if_icmp .eq 51, 3) := by decide +kernel
theorem dL_law_850 : decode cL_law 850 = .ok (.iconst 0, 1) := by decide +kernel
theorem dL_law_851 : decode cL_law 851 = .ok (.ireturn, 1) := by decide +kernel
theorem dL_law_852 : decode cL_law 852 = .ok (.aload_n 1, 1) := by decide +kernel
theorem dL_law_853 : decode cL_law 853 = .ok (.aload_n 0, 1) := by decide +kernel
theorem dL_law_854 : decode cL_law 854 = .ok (.iload_n 3, 1) := by decide +kernel
theorem dL_law_855 : decode cL_law 855 = .ok (.iconst 1, 1) := by decide +kernel
theorem dL_law_856 : decode cL_law 856 = .ok (.iadd, 1) := by decide +kernel
theorem dL_law_857 : decode cL_law 857 = .ok (.iaload, 1) := by decide +kernel
theorem dL_law_858 : decode cL_law 858 = .ok (.invokevirtual 129, 3) := by decide +kernel
theorem dL_law_861 : decode cL_law 861 = .ok (.aload_n 2, 1) := by decide +kernel
theorem dL_law_862 : decode cL_law 862 = .ok (.aload_n 0, 1) := by decide +kernel
theorem dL_law_863 : decode cL_law 863 = .ok (.iload_n 3, 1) := by decide +kernel
theorem dL_law_864 : decode cL_law 864 = .ok (.iconst 1, 1) := by decide +kernel
theorem dL_law_865 : decode cL_law 865 = .ok (.iadd, 1) := by decide +kernel
theorem dL_law_866 : decode cL_law 866 = .ok (.iaload, 1) := by decide +kernel
theorem dL_law_867 : decode cL_law 867 = .ok (.invokevirtual 132, 3) := by decide +kernel
theorem dL_law_870 : decode cL_law 870 = .ok (.if_icmp .eq 28, 3) := by decide +kernel
theorem dL_law_873 : decode cL_law 873 = .ok (.iconst 0, 1) := by decide +kernel
theorem dL_law_874 : decode cL_law 874 = .ok (.ireturn, 1) := by decide +kernel
theorem dL_law_875 : decode cL_law 875 = .ok (.aload_n 1, 1) := by decide +kernel
theorem dL_law_876 : decode cL_law 876 = .ok (.aload_n 0, 1) := by decide +kernel
theorem dL_law_877 : decode cL_law 877 = .ok (.iload_n 3, 1) := by decide +kernel
theorem dL_law_878 : decode cL_law 878 = .ok (.iconst 1, 1) := by decide +kernel
theorem dL_law_879 : decode cL_law 879 = .ok (.iadd, 1) := by decide +kernel
theorem dL_law_880 : decode cL_law 880 = .ok (.iaload, 1) := by decide +kernel
theorem dL_law_881 : decode cL_law 881 = .ok (.invokevirtual 133, 3) := by decide +kernel
theorem dL_law_884 : decode cL_law 884 = .ok (.aload_n 2, 1) := by decide +kernel
theorem dL_law_885 : decode cL_law 885 = .ok (.aload_n 0, 1) := by decide +kernel
theorem dL_law_886 : decode cL_law 886 = .ok (.iload_n 3, 1) := by decide +kernel
theorem dL_law_887 : decode cL_law 887 = .ok (.iconst 1, 1) := by decide +kernel
theorem dL_law_888 : decode cL_law 888 = .ok (.iadd, 1) := by decide +kernel
theorem dL_law_889 : decode cL_law 889 = .ok (.iaload, 1) := by decide +kernel
theorem dL_law_890 : decode cL_law 890 = .ok (.invokevirtual 136, 3) := by decide +kernel
theorem dL_law_893 : decode cL_law 893 = .ok (.if_icmp .eq 5, 3) := by decide +kernel
theorem dL_law_896 : decode cL_law 896 = .ok (.iconst 0, 1) := by decide +kernel
theorem dL_law_897 : decode cL_law 897 = .ok (.ireturn, 1) := by decide +kernel
theorem dL_law_898 : decode cL_law 898 = .ok (.iinc 3 4, 3) := by decide +kernel
theorem dL_law_901 : decode cL_law 901 = .ok (.goto (-883), 3) := by decide +kernel
theorem dL_law_904 : decode cL_law 904 = .ok (.iconst 1, 1) := by decide +kernel
theorem dL_law_905 : decode cL_law 905 = .ok (.ireturn, 1) := by decide +kernel
