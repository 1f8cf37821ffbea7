theorem dX7_secondsTo_9 : decode cX7_secondsTo 9 = .ok (.aload_n 1, 1) := by decide +kernel
theorem dX7_secondsTo_10 : decode cX7_secondsTo 10 = .ok (.getfield 57, 3) := by decide +kernel
theorem dX7_secondsTo_13 : decode cX7_secondsTo 13 = .ok (.iconst 1, 1) := by decide +kernel
theorem dX7_secondsTo_14 : decode cX7_secondsTo 14 = .ok (.if_icmp .ge 7, 3) := by decide +kernel
theorem dX7_secondsTo_17 : decode cX7_secondsTo 17 = .ok (.iconst 0, 1) := by decide +kernel
theorem dX7_secondsTo_18 : decode cX7_secondsTo 18 = .ok (.goto 17, 3) := by decide +kernel
theorem dX7_secondsTo_21 : decode cX7_secondsTo 21 = .ok (.iload 4, 2) := by decide +kernel
theorem dX7_secondsTo_23 : decode cX7_secondsTo 23 = .ok (.aload_n 1, 1) := by decide +kernel
theorem dX7_secondsTo_24 : decode cX7_secondsTo 24 = .ok (.getfield 57, 3) := by decide +kernel
theorem dX7_secondsTo_27 : decode cX7_secondsTo 27 = .ok (.iadd, 1) := by decide +kernel
theorem dX7_secondsTo_28 : decode cX7_secondsTo 28 = .ok (.iconst 1, 1) := by decide +kernel
theorem dX7_secondsTo_29 : decode cX7_secondsTo 29 = .ok (.isub, 1) := by decide +kernel
theorem dX7_secondsTo_30 : decode cX7_secondsTo 30 = .ok (.aload_n 1, 1) := by decide +kernel
theorem dX7_secondsTo_31 : decode cX7_secondsTo 31 = .ok (.getfield 57, 3) := by decide +kernel
theorem dX7_secondsTo_34 : decode cX7_secondsTo 34 = .ok (.idiv, 1) := by decide +kernel
theorem dX7_secondsTo_35 : decode cX7_secondsTo 35 = .ok (.ireturn, 1) := by decide +kernel
theorem dX7_waitAt_0 : decode cX7_waitAt 0 = .ok (.aload_n 1, 1) := by decide +kernel
theorem dX7_waitAt_1 : decode cX7_waitAt 1 = .ok (.getfield 21, 3) := by decide +kernel
theorem dX7_waitAt_4 : decode cX7_waitAt 4 = .ok (.iload_n 2, 1) := by decide +kernel
theorem dX7_waitAt_5 : decode cX7_waitAt 5 = .ok (.aaload, 1) := by decide +kernel
theorem dX7_waitAt_6 : decode cX7_waitAt 6 = .ok (.astore 5, 2) := by decide +kernel
theorem dX7_waitAt_8 : decode cX7_waitAt 8 = .ok (.aload 5, 2) := by decide +kernel
theorem dX7_waitAt_10 : decode cX7_waitAt 10 = .ok (.iload 4, 2) := by decide +kernel
theorem dX7_waitAt_12 : decode cX7_waitAt 12 = .ok (.aload_n 1, 1) := by decide +kernel
theorem dX7_waitAt_13 : decode cX7_waitAt 13 = .ok (.getfield 60, 3) := by decide +kernel
theorem dX7_waitAt_16 : decode cX7_waitAt 16 = .ok (.invokevirtual 63, 3) := by decide +kernel
theorem dX7_waitAt_19 : decode cX7_waitAt 19 = .ok (.istore 6, 2) := by decide +kernel
theorem dX7_waitAt_21 : decode cX7_waitAt 21 = .ok (.aload 5, 2) := by decide +kernel
theorem dX7_waitAt_23 : decode cX7_waitAt 23 = .ok (.aload 5, 2) := by decide +kernel
theorem dX7_waitAt_25 : decode cX7_waitAt 25 = .ok (.getfield 31, 3) := by decide +kernel
theorem dX7_waitAt_28 : decode cX7_waitAt 28 = .ok (.aload 5, 2) := by decide +kernel
theorem dX7_waitAt_30 : decode cX7_waitAt 30 = .ok (.getfield 34, 3) := by decide +kernel
theorem dX7_waitAt_33 : decode cX7_waitAt 33 = .ok (.iload_n 3, 1) := by decide +kernel
theorem dX7_waitAt_34 : decode cX7_waitAt 34 = .ok (.iaload, 1) := by decide +kernel
theorem dX7_waitAt_35 : decode cX7_waitAt 35 = .ok (.iload 6, 2) := by decide +kernel
theorem dX7_waitAt_37 : decode cX7_waitAt 37 = .ok (.aload_n 1, 1) := by decide +kernel
theorem dX7_waitAt_38 : decode cX7_waitAt 38 = .ok (.getfield 60, 3) := by decide +kernel
theorem dX7_waitAt_41 : decode cX7_waitAt 41 = .ok (.invokevirtual 67, 3) := by decide +kernel
theorem dX7_waitAt_44 : decode cX7_waitAt 44 = .ok (.ireturn, 1) := by decide +kernel
theorem dX7_numberOf_0 : decode cX7_numberOf 0 = .ok (.iload_n 3, 1) := by decide +kernel
theorem dX7_numberOf_1 : decode cX7_numberOf 1 = .ok (.istore 5, 2) := by decide +kernel
theorem dX7_numberOf_3 : decode cX7_numberOf 3 = .ok (.iconst 0, 1) := by decide +kernel
theorem dX7_numberOf_4 : decode cX7_numberOf 4 = .ok (.istore 6, 2) := by decide +kernel
theorem dX7_numberOf_6 : decode cX7_numberOf 6 = .ok (.iconst 0, 1) := by decide +kernel
theorem dX7_numberOf_7 : decode cX7_numberOf 7 = .ok (.istore 7, 2) := by decide +kernel
theorem dX7_numberOf_9 : decode cX7_numberOf 9 = .ok (.iconst 0, 1) := by decide +kernel
theorem dX7_numberOf_10 : decode cX7_numberOf 10 = .ok (.istore 8, 2) := by decide +kernel
theorem dX7_numberOf_12 : decode cX7_numberOf 12 = .ok (.iload 8, 2) := by decide +kernel
theorem dX7_numberOf_14 : decode cX7_numberOf 14 = .ok (.aload_n 1, 1) := by decide +kernel
theorem dX7_numberOf_15 : decode cX7_numberOf 15 = .ok (.getfield 15, 3) := by decide +kernel
theorem dX7_numberOf_18 : decode cX7_numberOf 18 = .ok (.if_icmp .ge 69, 3) := by decide +kernel
theorem dX7_numberOf_21 : decode cX7_numberOf 21 = .ok (.iload 5, 2) := by decide +kernel
theorem dX7_numberOf_23 : decode cX7_numberOf 23 = .ok (.aload_n 0, 1) := by decide +kernel
theorem dX7_numberOf_24 : decode cX7_numberOf 24 = .ok (.aload_n 1, 1) := by decide +kernel
theorem dX7_numberOf_25 : decode cX7_numberOf 25 = .ok (.iload_n 2, 1) := by decide +kernel
theorem dX7_numberOf_26 : decode cX7_numberOf 26 = .ok (.iload 8, 2) := by decide +kernel
theorem dX7_numberOf_28 : decode cX7_numberOf 28 = .ok (.invokevirtual 71, 3) := by decide +kernel
theorem dX7_numberOf_31 : decode cX7_numberOf 31 = .ok (.iadd, 1) := by decide +kernel
theorem dX7_numberOf_32 : decode cX7_numberOf 32 = .ok (.istore 5, 2) := by decide +kernel
theorem dX7_numberOf_34 : decode cX7_numberOf 34 = .ok (.aload_n 0, 1) := by decide +kernel
theorem dX7_numberOf_35 : decode cX7_numberOf 35 = .ok (.aload_n 1, 1) := by decide +kernel
theorem dX7_numberOf_36 : decode cX7_numberOf 36 = .ok (.aload_n 0, 1) := by decide +kernel
theorem dX7_numberOf_37 : decode cX7_numberOf 37 = .ok (.aload_n 1, 1) := by decide +kernel
theorem dX7_numberOf_38 : decode cX7_numberOf 38 = .ok (.iload_n 2, 1) := by decide +kernel
theorem dX7_numberOf_39 : decode cX7_numberOf 39 = .ok (.iload 8, 2) := by decide +kernel
theorem dX7_numberOf_41 : decode cX7_numberOf 41 = .ok (.invokevirtual 41, 3) := by decide +kernel
theorem dX7_numberOf_44 : decode cX7_numberOf 44 = .ok (.iload_n 2, 1) := by decide +kernel
theorem dX7_numberOf_45 : decode cX7_numberOf 45 = .ok (.iload 5, 2) := by decide +kernel
theorem dX7_numberOf_47 : decode cX7_numberOf 47 = .ok (.invokevirtual 74, 3) := by decide +kernel
theorem dX7_numberOf_50 : decode cX7_numberOf 50 = .ok (.istore 9, 2) := by decide +kernel
theorem dX7_numberOf_52 : decode cX7_numberOf 52 = .ok (.iload 5, 2) := by decide +kernel
theorem dX7_numberOf_54 : decode cX7_numberOf 54 = .ok (.iload 9, 2) := by decide +kernel
theorem dX7_numberOf_56 : decode cX7_numberOf 56 = .ok (.iadd, 1) := by decide +kernel
theorem dX7_numberOf_57 : decode cX7_numberOf 57 = .ok (.istore 5, 2) := by decide +kernel
theorem dX7_numberOf_59 : decode cX7_numberOf 59 = .ok (.iload 7, 2) := by decide +kernel
theorem dX7_numberOf_61 : decode cX7_numberOf 61 = .ok (.iload 9, 2) := by decide +kernel
theorem dX7_numberOf_63 : decode cX7_numberOf 63 = .ok (.iadd, 1) := by decide +kernel
theorem dX7_numberOf_64 : decode cX7_numberOf 64 = .ok (.istore 7, 2) := by decide +kernel
theorem dX7_numberOf_66 : decode cX7_numberOf 66 = .ok (.iload 6, 2) := by decide +kernel
theorem dX7_numberOf_68 : decode cX7_numberOf 68 = .ok (.iload 9, 2) := by decide +kernel
theorem dX7_numberOf_70 : decode cX7_numberOf 70 = .ok (.ifCond .le 7, 3) := by decide +kernel
theorem dX7_numberOf_73 : decode cX7_numberOf 73 = .ok (.iconst 1, 1) := by decide +kernel
theorem dX7_numberOf_74 : decode cX7_numberOf 74 = .ok (.goto 4, 3) := by decide +kernel
theorem dX7_numberOf_77 : decode cX7_numberOf 77 = .ok (.iconst 0, 1) := by decide +kernel
theorem dX7_numberOf_78 : decode cX7_numberOf 78 = .ok (.iadd, 1) := by decide +kernel
theorem dX7_numberOf_79 : decode cX7_numberOf 79 = .ok (.istore 6, 2) := by decide +kernel
theorem dX7_numberOf_81 : decode cX7_numberOf 81 = .ok (.iinc 8 1, 3) := by decide +kernel
theorem dX7_numberOf_84 : decode cX7_numberOf 84 = .ok (.goto (-72), 3) := by decide +kernel
theorem dX7_numberOf_87 : decode cX7_numberOf 87 = .ok (.iload 4, 2) := by decide +kernel
theorem dX7_numberOf_89 : decode cX7_numberOf 89 = .ok (.lookupswitch 35 #[(0, 27), (1, 32)], 27) := by decide +kernel
theorem dX7_numberOf_116 : decode cX7_numberOf 116 = .ok (.iload 5, 2) := by decide +kernel
theorem dX7_numberOf_118 : decode cX7_numberOf 118 = .ok (.iload_n 3, 1) := by decide +kernel
theorem dX7_numberOf_119 : decode cX7_numberOf 119 = .ok (.isub, 1) := by decide +kernel
theorem dX7_numberOf_120 : decode cX7_numberOf 120 = .ok (.ireturn, 1) := by decide +kernel
theorem dX7_numberOf_121 : decode cX7_numberOf 121 = .ok (.iload 6, 2) := by decide +kernel
theorem dX7_numberOf_123 : decode cX7_numberOf 123 = .ok (.ireturn, 1) := by decide +kernel
theorem dX7_numberOf_124 : decode cX7_numberOf 124 = .ok (.iload 7, 2) := by decide +kernel
theorem dX7_numberOf_126 : decode cX7_numberOf 126 = .ok (.ireturn, 1) := by decide +kernel
theorem dX7_secondsStepByStep_0 : decode cX7_secondsStepByStep 0 = .ok (.iconst 0, 1) := by decide +kernel
theorem dX7_secondsStepByStep_1 : decode cX7_secondsStepByStep 1 = .ok (.istore 4, 2) := by decide +kernel
theorem dX7_secondsStepByStep_3 : decode cX7_secondsStepByStep 3 = .ok (.iconst 0, 1) := by decide +kernel
theorem dX7_secondsStepByStep_4 : decode cX7_secondsStepByStep 4 = .ok (.istore 5, 2) := by decide +kernel
theorem dX7_secondsStepByStep_6 : decode cX7_secondsStepByStep 6 = .ok (.iconst 0, 1) := by decide +kernel
theorem dX7_secondsStepByStep_7 : decode cX7_secondsStepByStep 7 = .ok (.istore 6, 2) := by decide +kernel
theorem dX7_secondsStepByStep_9 : decode cX7_secondsStepByStep 9 = .ok (.iload 6, 2) := by decide +kernel
theorem dX7_secondsStepByStep_11 : decode cX7_secondsStepByStep 11 = .ok (.sipush 10000, 3) := by decide +kernel
theorem dX7_secondsStepByStep_14 : decode cX7_secondsStepByStep 14 = .ok (.if_icmp .ge 84, 3) := by decide +kernel
theorem dX7_secondsStepByStep_17 : decode cX7_secondsStepByStep 17 = .ok (.iload 5, 2) := by decide +kernel
theorem dX7_secondsStepByStep_19 : decode cX7_secondsStepByStep 19 = .ok (.aload_n 0, 1) := by decide +kernel
theorem dX7_secondsStepByStep_20 : decode cX7_secondsStepByStep 20 = .ok (.aload_n 1, 1) := by decide +kernel
theorem dX7_secondsStepByStep_21 : decode cX7_secondsStepByStep 21 = .ok (.iload_n 2, 1) := by decide +kernel
theorem dX7_secondsStepByStep_22 : decode cX7_secondsStepByStep 22 = .ok (.iload 4, 2) := by decide +kernel
theorem dX7_secondsStepByStep_24 : decode cX7_secondsStepByStep 24 = .ok (.invokevirtual 54, 3) := by decide +kernel
theorem dX7_secondsStepByStep_27 : decode cX7_secondsStepByStep 27 = .ok (.if_icmp .lt 7, 3) := by decide +kernel
theorem dX7_secondsStepByStep_30 : decode cX7_secondsStepByStep 30 = .ok (.iconst 1, 1) := by decide +kernel
theorem dX7_secondsStepByStep_31 : decode cX7_secondsStepByStep 31 = .ok (.goto 4, 3) := by decide +kernel
theorem dX7_secondsStepByStep_34 : decode cX7_secondsStepByStep 34 = .ok (.iconst 0, 1) := by decide +kernel
theorem dX7_secondsStepByStep_35 : decode cX7_secondsStepByStep 35 = .ok (.istore 7, 2) := by decide +kernel
theorem dX7_secondsStepByStep_37 : decode cX7_secondsStepByStep 37 = .ok (.iload 7, 2) := by decide +kernel
theorem dX7_secondsStepByStep_39 : decode cX7_secondsStepByStep 39 = .ok (.ifCond .eq 44, 3) := by decide +kernel
theorem dX7_secondsStepByStep_42 : decode cX7_secondsStepByStep 42 = .ok (.aload_n 0, 1) := by decide +kernel
theorem dX7_secondsStepByStep_43 : decode cX7_secondsStepByStep 43 = .ok (.aload_n 1, 1) := by decide +kernel
theorem dX7_secondsStepByStep_44 : decode cX7_secondsStepByStep 44 = .ok (.aload_n 0, 1) := by decide +kernel
theorem dX7_secondsStepByStep_45 : decode cX7_secondsStepByStep 45 = .ok (.aload_n 1, 1) := by decide +kernel
theorem dX7_secondsStepByStep_46 : decode cX7_secondsStepByStep 46 = .ok (.iload_n 2, 1) := by decide +kernel
theorem dX7_secondsStepByStep_47 : decode cX7_secondsStepByStep 47 = .ok (.iload 4, 2) := by decide +kernel
theorem dX7_secondsStepByStep_49 : decode cX7_secondsStepByStep 49 = .ok (.invokevirtual 41, 3) := by decide +kernel
theorem dX7_secondsStepByStep_52 : decode cX7_secondsStepByStep 52 = .ok (.iload_n 2, 1) := by decide +kernel
theorem dX7_secondsStepByStep_53 : decode cX7_secondsStepByStep 53 = .ok (.iload_n 3, 1) := by decide +kernel
theorem dX7_secondsStepByStep_54 : decode cX7_secondsStepByStep 54 = .ok (.iload 6, 2) := by decide +kernel
theorem dX7_secondsStepByStep_56 : decode cX7_secondsStepByStep 56 = .ok (.iadd, 1) := by decide +kernel
theorem dX7_secondsStepByStep_57 : decode cX7_secondsStepByStep 57 = .ok (.invokevirtual 74, 3) := by decide +kernel
theorem dX7_secondsStepByStep_60 : decode cX7_secondsStepByStep 60 = .ok (.ifCond .ne 23, 3) := by decide +kernel
theorem dX7_secondsStepByStep_63 : decode cX7_secondsStepByStep 63 = .ok (.iload 4, 2) := by decide +kernel
theorem dX7_secondsStepByStep_65 : decode cX7_secondsStepByStep 65 = .ok (.iconst 1, 1) := by decide +kernel
theorem dX7_secondsStepByStep_66 : decode cX7_secondsStepByStep 66 = .ok (.iadd, 1) := by decide +kernel
theorem dX7_secondsStepByStep_67 : decode cX7_secondsStepByStep 67 = .ok (.aload_n 1, 1) := by decide +kernel
theorem dX7_secondsStepByStep_68 : decode cX7_secondsStepByStep 68 = .ok (.getfield 15, 3) := by decide +kernel
theorem dX7_secondsStepByStep_71 : decode cX7_secondsStepByStep 71 = .ok (.if_icmp .lt 6, 3) := by decide +kernel
theorem dX7_secondsStepByStep_74 : decode cX7_secondsStepByStep 74 = .ok (.iload 6, 2) := by decide +kernel
theorem dX7_secondsStepByStep_76 : decode cX7_secondsStepByStep 76 = .ok (.ireturn, 1) := by decide +kernel
theorem dX7_secondsStepByStep_77 : decode cX7_secondsStepByStep 77 = .ok (.iinc 4 1, 3) := by decide +kernel
theorem dX7_secondsStepByStep_80 : decode cX7_secondsStepByStep 80 = .ok (.iconst 0, 1) := by decide +kernel
theorem dX7_secondsStepByStep_81 : decode cX7_secondsStepByStep 81 = .ok (.istore 5, 2) := by decide +kernel
theorem dX7_secondsStepByStep_83 : decode cX7_secondsStepByStep 83 = .ok (.iload 5, 2) := by decide +kernel
theorem dX7_secondsStepByStep_85 : decode cX7_secondsStepByStep 85 = .ok (.aload_n 1, 1) := by decide +kernel
theorem dX7_secondsStepByStep_86 : decode cX7_secondsStepByStep 86 = .ok (.getfield 57, 3) := by decide +kernel
theorem dX7_secondsStepByStep_89 : decode cX7_secondsStepByStep 89 = .ok (.iadd, 1) := by decide +kernel
theorem dX7_secondsStepByStep_90 : decode cX7_secondsStepByStep 90 = .ok (.istore 5, 2) := by decide +kernel
theorem dX7_secondsStepByStep_92 : decode cX7_secondsStepByStep 92 = .ok (.iinc 6 1, 3) := by decide +kernel
theorem dX7_secondsStepByStep_95 : decode cX7_secondsStepByStep 95 = .ok (.goto (-86), 3) := by decide +kernel
theorem dX7_secondsStepByStep_98 : decode cX7_secondsStepByStep 98 = .ok (.sipush 10000, 3) := by decide +kernel
theorem dX7_secondsStepByStep_101 : decode cX7_secondsStepByStep 101 = .ok (.ireturn, 1) := by decide +kernel
theorem dX7_bandOf_0 : decode cX7_bandOf 0 = .ok (.iconst 0, 1) := by decide +kernel
theorem dX7_bandOf_1 : decode cX7_bandOf 1 = .ok (.istore_n 3, 1) := by decide +kernel
theorem dX7_bandOf_2 : decode cX7_bandOf 2 = .ok (.iconst 0, 1) := by decide +kernel
theorem dX7_bandOf_3 : decode cX7_bandOf 3 = .ok (.istore 4, 2) := by decide +kernel
theorem dX7_bandOf_5 : decode cX7_bandOf 5 = .ok (.iload 4, 2) := by decide +kernel
theorem dX7_bandOf_7 : decode cX7_bandOf 7 = .ok (.aload_n 1, 1) := by decide +kernel
theorem dX7_bandOf_8 : decode cX7_bandOf 8 = .ok (.getfield 60, 3) := by decide +kernel
theorem dX7_bandOf_11 : decode cX7_bandOf 11 = .ok (.if_icmp .ge 29, 3) := by decide +kernel
theorem dX7_bandOf_14 : decode cX7_bandOf 14 = .ok (.iload_n 3, 1) := by decide +kernel
theorem dX7_bandOf_15 : decode cX7_bandOf 15 = .ok (.aload_n 0, 1) := by decide +kernel
theorem dX7_bandOf_16 : decode cX7_bandOf 16 = .ok (.aload_n 1, 1) := by decide +kernel
theorem dX7_bandOf_17 : decode cX7_bandOf 17 = .ok (.iload_n 2, 1) := by decide +kernel
theorem dX7_bandOf_18 : decode cX7_bandOf 18 = .ok (.iload 4, 2) := by decide +kernel
theorem dX7_bandOf_20 : decode cX7_bandOf 20 = .ok (.iconst (-1), 1) := by decide +kernel
theorem dX7_bandOf_21 : decode cX7_bandOf 21 = .ok (.invokevirtual 78, 3) := by decide +kernel
theorem dX7_bandOf_24 : decode cX7_bandOf 24 = .ok (.ifCond .eq 7, 3) := by decide +kernel
theorem dX7_bandOf_27 : decode cX7_bandOf 27 = .ok (.iconst 1, 1) := by decide +kernel
theorem dX7_bandOf_28 : decode cX7_bandOf 28 = .ok (.goto 4, 3) := by decide +kernel
theorem dX7_bandOf_31 : decode cX7_bandOf 31 = .ok (.iconst 0, 1) := by decide +kernel
theorem dX7_bandOf_32 : decode cX7_bandOf 32 = .ok (.iadd, 1) := by decide +kernel
theorem dX7_bandOf_33 : decode cX7_bandOf 33 = .ok (.istore_n 3, 1) := by decide +kernel
theorem dX7_bandOf_34 : decode cX7_bandOf 34 = .ok (.iinc 4 1, 3) := by decide +kernel
theorem dX7_bandOf_37 : decode cX7_bandOf 37 = .ok (.goto (-32), 3) := by decide +kernel
theorem dX7_bandOf_40 : decode cX7_bandOf 40 = .ok (.iload_n 3, 1) := by decide +kernel
theorem dX7_bandOf_41 : decode cX7_bandOf 41 = .ok (.ireturn, 1) := by decide +kernel
theorem dX7_isFree_0 : decode cX7_isFree 0 = .ok (.iload_n 3, 1) := by decide +kernel
theorem dX7_isFree_1 : decode cX7_isFree 1 = .ok (.istore 5, 2) := by decide +kernel
theorem dX7_isFree_3 : decode cX7_isFree 3 = .ok (.iconst 0, 1) := by decide +kernel
theorem dX7_isFree_4 : decode cX7_isFree 4 = .ok (.istore 6, 2) := by decide +kernel
theorem dX7_isFree_6 : decode cX7_isFree 6 = .ok (.iload 6, 2) := by decide +kernel
theorem dX7_isFree_8 : decode cX7_isFree 8 = .ok (.aload_n 1, 1) := by decide +kernel
theorem dX7_isFree_9 : decode cX7_isFree 9 = .ok (.getfield 15, 3) := by decide +kernel
theorem dX7_isFree_12 : decode cX7_isFree 12 = .ok (.if_icmp .ge 54, 3) := by decide +kernel
theorem dX7_isFree_15 : decode cX7_isFree 15 = .ok (.iload 5, 2) := by decide +kernel
theorem dX7_isFree_17 : decode cX7_isFree 17 = .ok (.aload_n 0, 1) := by decide +kernel
theorem dX7_isFree_18 : decode cX7_isFree 18 = .ok (.aload_n 1, 1) := by decide +kernel
theorem dX7_isFree_19 : decode cX7_isFree 19 = .ok (.iload_n 2, 1) := by decide +kernel
theorem dX7_isFree_20 : decode cX7_isFree 20 = .ok (.iload 6, 2) := by decide +kernel
theorem dX7_isFree_22 : decode cX7_isFree 22 = .ok (.invokevirtual 71, 3) := by decide +kernel
theorem dX7_isFree_25 : decode cX7_isFree 25 = .ok (.iadd, 1) := by decide +kernel
theorem dX7_isFree_26 : decode cX7_isFree 26 = .ok (.istore 5, 2) := by decide +kernel
theorem dX7_isFree_28 : decode cX7_isFree 28 = .ok (.aload_n 0, 1) := by decide +kernel
theorem dX7_isFree_29 : decode cX7_isFree 29 = .ok (.aload_n 1, 1) := by decide +kernel
theorem dX7_isFree_30 : decode cX7_isFree 30 = .ok (.iload_n 2, 1) := by decide +kernel
theorem dX7_isFree_31 : decode cX7_isFree 31 = .ok (.iload 6, 2) := by decide +kernel
theorem dX7_isFree_33 : decode cX7_isFree 33 = .ok (.invokevirtual 41, 3) := by decide +kernel
theorem dX7_isFree_36 : decode cX7_isFree 36 = .ok (.istore 7, 2) := by decide +kernel
theorem dX7_isFree_38 : decode cX7_isFree 38 = .ok (.iload 7, 2) := by decide +kernel
theorem dX7_isFree_40 : decode cX7_isFree 40 = .ok (.iload 4, 2) := by decide +kernel
theorem dX7_isFree_42 : decode cX7_isFree 42 = .ok (.if_icmp .eq 18, 3) := by decide +kernel
theorem dX7_isFree_45 : decode cX7_isFree 45 = .ok (.aload_n 0, 1) := by decide +kernel
theorem dX7_isFree_46 : decode cX7_isFree 46 = .ok (.aload_n 1, 1) := by decide +kernel
theorem dX7_isFree_47 : decode cX7_isFree 47 = .ok (.iload 7, 2) := by decide +kernel
theorem dX7_isFree_49 : decode cX7_isFree 49 = .ok (.iload_n 2, 1) := by decide +kernel
theorem dX7_isFree_50 : decode cX7_isFree 50 = .ok (.iload 5, 2) := by decide +kernel
theorem dX7_isFree_52 : decode cX7_isFree 52 = .ok (.invokevirtual 74, 3) := by decide +kernel
theorem dX7_isFree_55 : decode cX7_isFree 55 = .ok (.ifCond .le 5, 3) := by decide +kernel
theorem dX7_isFree_58 : decode cX7_isFree 58 = .ok (.iconst 0, 1) := by decide +kernel
theorem dX7_isFree_59 : decode cX7_isFree 59 = .ok (.ireturn, 1) := by decide +kernel
theorem dX7_isFree_60 : decode cX7_isFree 60 = .ok (.iinc 6 1, 3) := by decide +kernel
theorem dX7_isFree_63 : decode cX7_isFree 63 = .ok (.goto (-57), 3) := by decide +kernel
theorem dX7_isFree_66 : decode cX7_isFree 66 = .ok (.iconst 1, 1) := by decide +kernel
theorem dX7_isFree_67 : decode cX7_isFree 67 = .ok (.ireturn, 1) := by decide +kernel
theorem dX7_bestOffsetFor_0 : decode cX7_bestOffsetFor 0 = .ok (.iconst 0, 1) := by decide +kernel
theorem dX7_bestOffsetFor_1 : decode cX7_bestOffsetFor 1 = .ok (.istore 4, 2) := by decide +kernel
theorem dX7_bestOffsetFor_3 : decode cX7_bestOffsetFor 3 = .ok (.iconst 0, 1) := by decide +kernel
theorem dX7_bestOffsetFor_4 : decode cX7_bestOffsetFor 4 = .ok (.istore 5, 2) := by decide +kernel
theorem dX7_bestOffsetFor_6 : decode cX7_bestOffsetFor 6 = .ok (.iload 5, 2) := by decide +kernel
theorem dX7_bestOffsetFor_8 : decode cX7_bestOffsetFor 8 = .ok (.aload_n 1, 1) := by decide +kernel
theorem dX7_bestOffsetFor_9 : decode cX7_bestOffsetFor 9 = .ok (.getfield 60, 3) := by decide +kernel
theorem dX7_bestOffsetFor_12 : decode cX7_bestOffsetFor 12 = .ok (.if_icmp .ge 40, 3) := by decide +kernel
theorem dX7_bestOffsetFor_15 : decode cX7_bestOffsetFor 15 = .ok (.iload 5, 2) := by decide +kernel
theorem dX7_bestOffsetFor_17 : decode cX7_bestOffsetFor 17 = .ok (.bipush 120, 2) := by decide +kernel
theorem dX7_bestOffsetFor_19 : decode cX7_bestOffsetFor 19 = .ok (.if_icmp .ge 33, 3) := by decide +kernel
theorem dX7_bestOffsetFor_22 : decode cX7_bestOffsetFor 22 = .ok (.aload_n 0, 1) := by decide +kernel
theorem dX7_bestOffsetFor_23 : decode cX7_bestOffsetFor 23 = .ok (.aload_n 1, 1) := by decide +kernel
theorem dX7_bestOffsetFor_24 : decode cX7_bestOffsetFor 24 = .ok (.iload_n 3, 1) := by decide +kernel
theorem dX7_bestOffsetFor_25 : decode cX7_bestOffsetFor 25 = .ok (.iload 5, 2) := by decide +kernel
theorem dX7_bestOffsetFor_27 : decode cX7_bestOffsetFor 27 = .ok (.iload_n 2, 1) := by decide +kernel
theorem dX7_bestOffsetFor_28 : decode cX7_bestOffsetFor 28 = .ok (.invokevirtual 78, 3) := by decide +kernel
theorem dX7_bestOffsetFor_31 : decode cX7_bestOffsetFor 31 = .ok (.ifCond .eq 15, 3) := by decide +kernel
theorem dX7_bestOffsetFor_34 : decode cX7_bestOffsetFor 34 = .ok (.aload_n 0, 1) := by decide +kernel
theorem dX7_bestOffsetFor_35 : decode cX7_bestOffsetFor 35 = .ok (.getfield 9, 3) := by decide +kernel
theorem dX7_bestOffsetFor_38 : decode cX7_bestOffsetFor 38 = .ok (.iload 4, 2) := by decide +kernel
theorem dX7_bestOffsetFor_40 : decode cX7_bestOffsetFor 40 = .ok (.iload 5, 2) := by decide +kernel
theorem dX7_bestOffsetFor_42 : decode cX7_bestOffsetFor 42 = .ok (.iastore, 1) := by decide +kernel
theorem dX7_bestOffsetFor_43 : decode cX7_bestOffsetFor 43 = .ok (.iinc 4 1, 3) := by decide +kernel
theorem dX7_bestOffsetFor_46 : decode cX7_bestOffsetFor 46 = .ok (.iinc 5 1, 3) := by decide +kernel
theorem dX7_bestOffsetFor_49 : decode cX7_bestOffsetFor 49 = .ok (.goto (-43), 3) := by decide +kernel
theorem dX7_bestOffsetFor_52 : decode cX7_bestOffsetFor 52 = .ok (.aload_n 0, 1) := by decide +kernel
theorem dX7_bestOffsetFor_53 : decode cX7_bestOffsetFor 53 = .ok (.aload_n 1, 1) := by decide +kernel
theorem dX7_bestOffsetFor_54 : decode cX7_bestOffsetFor 54 = .ok (.iload_n 2, 1) := by decide +kernel
theorem dX7_bestOffsetFor_55 : decode cX7_bestOffsetFor 55 = .ok (.iload_n 3, 1) := by decide +kernel
theorem dX7_bestOffsetFor_56 : decode cX7_bestOffsetFor 56 = .ok (.invokevirtual 82, 3) := by decide +kernel
theorem dX7_bestOffsetFor_59 : decode cX7_bestOffsetFor 59 = .ok (.istore 5, 2) := by decide +kernel
theorem dX7_bestOffsetFor_61 : decode cX7_bestOffsetFor 61 = .ok (.iconst 0, 1) := by decide +kernel
theorem dX7_bestOffsetFor_62 : decode cX7_bestOffsetFor 62 = .ok (.istore 6, 2) := by decide +kernel
theorem dX7_bestOffsetFor_64 : decode cX7_bestOffsetFor 64 = .ok (.iconst 0, 1) := by decide +kernel
theorem dX7_bestOffsetFor_65 : decode cX7_bestOffsetFor 65 = .ok (.istore 7, 2) := by decide +kernel
theorem dX7_bestOffsetFor_67 : decode cX7_bestOffsetFor 67 = .ok (.iconst 0, 1) := by decide +kernel
theorem dX7_bestOffsetFor_68 : decode cX7_bestOffsetFor 68 = .ok (.istore 8, 2) := by decide +kernel
theorem dX7_bestOffsetFor_70 : decode cX7_bestOffsetFor 70 = .ok (.iload 8, 2) := by decide +kernel
theorem dX7_bestOffsetFor_72 : decode cX7_bestOffsetFor 72 = .ok (.aload_n 1, 1) := by decide +kernel
theorem dX7_bestOffsetFor_73 : decode cX7_bestOffsetFor 73 = .ok (.getfield 60, 3) := by decide +kernel
theorem dX7_bestOffsetFor_76 : decode cX7_bestOffsetFor 76 = .ok (.if_icmp .ge 40, 3) := by decide +kernel
theorem dX7_bestOffsetFor_79 : decode cX7_bestOffsetFor 79 = .ok (.aload_n 0, 1) := by decide +kernel
theorem dX7_bestOffsetFor_80 : decode cX7_bestOffsetFor 80 = .ok (.aload_n 1, 1) := by decide +kernel
theorem dX7_bestOffsetFor_81 : decode cX7_bestOffsetFor 81 = .ok (.iload_n 2, 1) := by decide +kernel
theorem dX7_bestOffsetFor_82 : decode cX7_bestOffsetFor 82 = .ok (.iload_n 3, 1) := by decide +kernel
theorem dX7_bestOffsetFor_83 : decode cX7_bestOffsetFor 83 = .ok (.iload 5, 2) := by decide +kernel
theorem dX7_bestOffsetFor_85 : decode cX7_bestOffsetFor 85 = .ok (.iload 8, 2) := by decide +kernel
theorem dX7_bestOffsetFor_87 : decode cX7_bestOffsetFor 87 = .ok (.isub, 1) := by decide +kernel
theorem dX7_bestOffsetFor_88 : decode cX7_bestOffsetFor 88 = .ok (.iload 4, 2) := by decide +kernel
theorem dX7_bestOffsetFor_90 : decode cX7_bestOffsetFor 90 = .ok (.invokevirtual 85, 3) := by decide +kernel
theorem dX7_bestOffsetFor_93 : decode cX7_bestOffsetFor 93 = .ok (.istore 9, 2) := by decide +kernel
theorem dX7_bestOffsetFor_95 : decode cX7_bestOffsetFor 95 = .ok (.iload 9, 2) := by decide +kernel
theorem dX7_bestOffsetFor_97 : decode cX7_bestOffsetFor 97 = .ok (.iload 7, 2) := by decide +kernel
theorem dX7_bestOffsetFor_99 : decode cX7_bestOffsetFor 99 = .ok (.if_icmp .le 11, 3) := by decide +kernel
theorem dX7_bestOffsetFor_102 : decode cX7_bestOffsetFor 102 = .ok (.iload 9, 2) := by decide +kernel
theorem dX7_bestOffsetFor_104 : decode cX7_bestOffsetFor 104 = .ok (.istore 7, 2) := by decide +kernel
theorem dX7_bestOffsetFor_106 : decode cX7_bestOffsetFor 106 = .ok (.iload 8, 2) := by decide +kernel
theorem dX7_bestOffsetFor_108 : decode cX7_bestOffsetFor 108 = .ok (.istore 6, 2) := by decide +kernel
theorem dX7_bestOffsetFor_110 : decode cX7_bestOffsetFor 110 = .ok (.iinc 8 1, 3) := by decide +kernel
theorem dX7_bestOffsetFor_113 : decode cX7_bestOffsetFor 113 = .ok (.goto (-43), 3) := by decide +kernel
theorem dX7_bestOffsetFor_116 : decode cX7_bestOffsetFor 116 = .ok (.iload 6, 2) := by decide +kernel
theorem dX7_bestOffsetFor_118 : decode cX7_bestOffsetFor 118 = .ok (.ireturn, 1) := by decide +kernel
theorem dX7_secondsBefore_0 : decode cX7_secondsBefore 0 = .ok (.iconst 0, 1) := by decide +kernel
theorem dX7_secondsBefore_1 : decode cX7_secondsBefore 1 = .ok (.istore 4, 2) := by decide +kernel
theorem dX7_secondsBefore_3 : decode cX7_secondsBefore 3 = .ok (.iconst 0, 1) := by decide +kernel
theorem dX7_secondsBefore_4 : decode cX7_secondsBefore 4 = .ok (.istore 5, 2) := by decide +kernel
theorem dX7_secondsBefore_6 : decode cX7_secondsBefore 6 = .ok (.iload 5, 2) := by decide +kernel
theorem dX7_secondsBefore_8 : decode cX7_secondsBefore 8 = .ok (.aload_n 1, 1) := by decide +kernel
theorem dX7_secondsBefore_9 : decode cX7_secondsBefore 9 = .ok (.getfield 15, 3) := by decide +kernel
theorem dX7_secondsBefore_12 : decode cX7_secondsBefore 12 = .ok (.if_icmp .ge 37, 3) := by decide +kernel
theorem dX7_secondsBefore_15 : decode cX7_secondsBefore 15 = .ok (.iload 4, 2) := by decide +kernel
theorem dX7_secondsBefore_17 : decode cX7_secondsBefore 17 = .ok (.aload_n 0, 1) := by decide +kernel
theorem dX7_secondsBefore_18 : decode cX7_secondsBefore 18 = .ok (.aload_n 1, 1) := by decide +kernel
theorem dX7_secondsBefore_19 : decode cX7_secondsBefore 19 = .ok (.iload_n 3, 1) := by decide +kernel
theorem dX7_secondsBefore_20 : decode cX7_secondsBefore 20 = .ok (.iload 5, 2) := by decide +kernel
theorem dX7_secondsBefore_22 : decode cX7_secondsBefore 22 = .ok (.invokevirtual 71, 3) := by decide +kernel
theorem dX7_secondsBefore_25 : decode cX7_secondsBefore 25 = .ok (.iadd, 1) := by decide +kernel
theorem dX7_secondsBefore_26 : decode cX7_secondsBefore 26 = .ok (.istore 4, 2) := by decide +kernel
theorem dX7_secondsBefore_28 : decode cX7_secondsBefore 28 = .ok (.aload_n 0, 1) := by decide +kernel
theorem dX7_secondsBefore_29 : decode cX7_secondsBefore 29 = .ok (.aload_n 1, 1) := by decide +kernel
theorem dX7_secondsBefore_30 : decode cX7_secondsBefore 30 = .ok (.iload_n 3, 1) := by decide +kernel
theorem dX7_secondsBefore_31 : decode cX7_secondsBefore 31 = .ok (.iload 5, 2) := by decide +kernel
theorem dX7_secondsBefore_33 : decode cX7_secondsBefore 33 = .ok (.invokevirtual 41, 3) := by decide +kernel
theorem dX7_secondsBefore_36 : decode cX7_secondsBefore 36 = .ok (.iload_n 2, 1) := by decide +kernel
theorem dX7_secondsBefore_37 : decode cX7_secondsBefore 37 = .ok (.if_icmp .ne 6, 3) := by decide +kernel
theorem dX7_secondsBefore_40 : decode cX7_secondsBefore 40 = .ok (.iload 4, 2) := by decide +kernel
theorem dX7_secondsBefore_42 : decode cX7_secondsBefore 42 = .ok (.ireturn, 1) := by decide +kernel
theorem dX7_secondsBefore_43 : decode cX7_secondsBefore 43 = .ok (.iinc 5 1, 3) := by decide +kernel
theorem dX7_secondsBefore_46 : decode cX7_secondsBefore 46 = .ok (.goto (-40), 3) := by decide +kernel
theorem dX7_secondsBefore_49 : decode cX7_secondsBefore 49 = .ok (.iload 4, 2) := by decide +kernel
theorem dX7_secondsBefore_51 : decode cX7_secondsBefore 51 = .ok (.ireturn, 1) := by decide +kernel
theorem dX7_bandWith_0 : decode cX7_bandWith 0 = .ok (.aload_n 1, 1) := by decide +kernel
theorem dX7_bandWith_1 : decode cX7_bandWith 1 = .ok (.getfield 21, 3) := by decide +kernel
theorem dX7_bandWith_4 : decode cX7_bandWith 4 = .ok (.iload_n 2, 1) := by decide +kernel
theorem dX7_bandWith_5 : decode cX7_bandWith 5 = .ok (.aaload, 1) := by decide +kernel
theorem dX7_bandWith_6 : decode cX7_bandWith 6 = .ok (.astore 6, 2) := by decide +kernel
theorem dX7_bandWith_8 : decode cX7_bandWith 8 = .ok (.aload 6, 2) := by decide +kernel
theorem dX7_bandWith_10 : decode cX7_bandWith 10 = .ok (.getfield 34, 3) := by decide +kernel
theorem dX7_bandWith_13 : decode cX7_bandWith 13 = .ok (.iload_n 3, 1) := by decide +kernel
theorem dX7_bandWith_14 : decode cX7_bandWith 14 = .ok (.iaload, 1) := by decide +kernel
theorem dX7_bandWith_15 : decode cX7_bandWith 15 = .ok (.istore 7, 2) := by decide +kernel
theorem dX7_bandWith_17 : decode cX7_bandWith 17 = .ok (.iconst 0, 1) := by decide +kernel
theorem dX7_bandWith_18 : decode cX7_bandWith 18 = .ok (.istore 8, 2) := by decide +kernel
theorem dX7_bandWith_20 : decode cX7_bandWith 20 = .ok (.iconst 0, 1) := by decide +kernel
theorem dX7_bandWith_21 : decode cX7_bandWith 21 = .ok (.istore 9, 2) := by decide +kernel
theorem dX7_bandWith_23 : decode cX7_bandWith 23 = .ok (.iload 9, 2) := by decide +kernel
theorem dX7_bandWith_25 : decode cX7_bandWith 25 = .ok (.iload 5, 2) := by decide +kernel
theorem dX7_bandWith_27 : decode cX7_bandWith 27 = .ok (.if_icmp .ge 55, 3) := by decide +kernel
theorem dX7_bandWith_30 : decode cX7_bandWith 30 = .ok (.iload 9, 2) := by decide +kernel
theorem dX7_bandWith_32 : decode cX7_bandWith 32 = .ok (.bipush 120, 2) := by decide +kernel
theorem dX7_bandWith_34 : decode cX7_bandWith 34 = .ok (.if_icmp .ge 48, 3) := by decide +kernel
theorem dX7_bandWith_37 : decode cX7_bandWith 37 = .ok (.iload 8, 2) := by decide +kernel
theorem dX7_bandWith_39 : decode cX7_bandWith 39 = .ok (.aload 6, 2) := by decide +kernel
theorem dX7_bandWith_41 : decode cX7_bandWith 41 = .ok (.aload 6, 2) := by decide +kernel
theorem dX7_bandWith_43 : decode cX7_bandWith 43 = .ok (.getfield 31, 3) := by decide +kernel
theorem dX7_bandWith_46 : decode cX7_bandWith 46 = .ok (.iload 7, 2) := by decide +kernel
theorem dX7_bandWith_48 : decode cX7_bandWith 48 = .ok (.aload_n 0, 1) := by decide +kernel
theorem dX7_bandWith_49 : decode cX7_bandWith 49 = .ok (.getfield 9, 3) := by decide +kernel
theorem dX7_bandWith_52 : decode cX7_bandWith 52 = .ok (.iload 9, 2) := by decide +kernel
theorem dX7_bandWith_54 : decode cX7_bandWith 54 = .ok (.iaload, 1) := by decide +kernel
theorem dX7_bandWith_55 : decode cX7_bandWith 55 = .ok (.iload 4, 2) := by decide +kernel
theorem dX7_bandWith_57 : decode cX7_bandWith 57 = .ok (.iadd, 1) := by decide +kernel
theorem dX7_bandWith_58 : decode cX7_bandWith 58 = .ok (.aload_n 1, 1) := by decide +kernel
theorem dX7_bandWith_59 : decode cX7_bandWith 59 = .ok (.getfield 60, 3) := by decide +kernel
theorem dX7_bandWith_62 : decode cX7_bandWith 62 = .ok (.invokevirtual 89, 3) := by decide +kernel
theorem dX7_bandWith_65 : decode cX7_bandWith 65 = .ok (.ifCond .eq 7, 3) := by decide +kernel
theorem dX7_bandWith_68 : decode cX7_bandWith 68 = .ok (.iconst 1, 1) := by decide +kernel
theorem dX7_bandWith_69 : decode cX7_bandWith 69 = .ok (.goto 4, 3) := by decide +kernel
theorem dX7_bandWith_72 : decode cX7_bandWith 72 = .ok (.iconst 0, 1) := by decide +kernel
theorem dX7_bandWith_73 : decode cX7_bandWith 73 = .ok (.iadd, 1) := by decide +kernel
theorem dX7_bandWith_74 : decode cX7_bandWith 74 = .ok (.istore 8, 2) := by decide +kernel
theorem dX7_bandWith_76 : decode cX7_bandWith 76 = .ok (.iinc 9 1, 3) := by decide +kernel
theorem dX7_bandWith_79 : decode cX7_bandWith 79 = .ok (.goto (-56), 3) := by decide +kernel
theorem dX7_bandWith_82 : decode cX7_bandWith 82 = .ok (.iload 8, 2) := by decide +kernel
theorem dX7_bandWith_84 : decode cX7_bandWith 84 = .ok (.ireturn, 1) := by decide +kernel
theorem dX9_init_0 : decode cX9_init 0 = .ok (.aload_n 0, 1) := by decide +kernel
theorem dX9_init_1 : decode cX9_init 1 = .ok (.invokespecial 3, 3) := by decide +kernel
theorem dX9_init_4 : decode cX9_init 4 = .ok (.aload_n 0, 1) := by decide +kernel
theorem dX9_init_5 : decode cX9_init 5 = .ok (.new 9, 3) := by decide +kernel
theorem dX9_init_8 : decode cX9_init 8 = .ok (.dup, 1) := by decide +kernel
theorem dX9_init_9 : decode cX9_init 9 = .ok (.invokespecial 11, 3) := by decide +kernel
theorem dX9_init_12 : decode cX9_init 12 = .ok (.putfield 12, 3) := by decide +kernel
theorem dX9_init_15 : decode cX9_init 15 = .ok (.aload_n 0, 1) := by decide +kernel
theorem dX9_init_16 : decode cX9_init 16 = .ok (.new 9, 3) := by decide +kernel
theorem dX9_init_19 : decode cX9_init 19 = .ok (.dup, 1) := by decide +kernel
theorem dX9_init_20 : decode cX9_init 20 = .ok (.invokespecial 11, 3) := by decide +kernel
theorem dX9_init_23 : decode cX9_init 23 = .ok (.putfield 16, 3) := by decide +kernel
theorem dX9_init_26 : decode cX9_init 26 = .ok (.aload_n 0, 1) := by decide +kernel
theorem dX9_init_27 : decode cX9_init 27 = .ok (.new 9, 3) := by decide +kernel
theorem dX9_init_30 : decode cX9_init 30 = .ok (.dup, 1) := by decide +kernel
theorem dX9_init_31 : decode cX9_init 31 = .ok (.invokespecial 11, 3) := by decide +kernel
theorem dX9_init_34 : decode cX9_init 34 = .ok (.putfield 19, 3) := by decide +kernel
theorem dX9_init_37 : decode cX9_init 37 = .ok (.aload_n 0, 1) := by decide +kernel
theorem dX9_init_38 : decode cX9_init 38 = .ok (.new 22, 3) := by decide +kernel
theorem dX9_init_41 : decode cX9_init 41 = .ok (.dup, 1) := by decide +kernel
theorem dX9_init_42 : decode cX9_init 42 = .ok (.invokespecial 24, 3) := by decide +kernel
theorem dX9_init_45 : decode cX9_init 45 = .ok (.putfield 25, 3) := by decide +kernel
theorem dX9_init_48 : decode cX9_init 48 = .ok (.aload_n 0, 1) := by decide +kernel
theorem dX9_init_49 : decode cX9_init 49 = .ok (.new 29, 3) := by decide +kernel
theorem dX9_init_52 : decode cX9_init 52 = .ok (.dup, 1) := by decide +kernel
theorem dX9_init_53 : decode cX9_init 53 = .ok (.invokespecial 31, 3) := by decide +kernel
theorem dX9_init_56 : decode cX9_init 56 = .ok (.putfield 32, 3) := by decide +kernel
theorem dX9_init_59 : decode cX9_init 59 = .ok (.aload_n 0, 1) := by decide +kernel
theorem dX9_init_60 : decode cX9_init 60 = .ok (.new 36, 3) := by decide +kernel
theorem dX9_init_63 : decode cX9_init 63 = .ok (.dup, 1) := by decide +kernel
theorem dX9_init_64 : decode cX9_init 64 = .ok (.invokespecial 38, 3) := by decide +kernel
theorem dX9_init_67 : decode cX9_init 67 = .ok (.putfield 39, 3) := by decide +kernel
theorem dX9_init_70 : decode cX9_init 70 = .ok (.aload_n 0, 1) := by decide +kernel
theorem dX9_init_71 : decode cX9_init 71 = .ok (.new 43, 3) := by decide +kernel
theorem dX9_init_74 : decode cX9_init 74 = .ok (.dup, 1) := by decide +kernel
theorem dX9_init_75 : decode cX9_init 75 = .ok (.invokespecial 45, 3) := by decide +kernel
theorem dX9_init_78 : decode cX9_init 78 = .ok (.putfield 46, 3) := by decide +kernel
theorem dX9_init_81 : decode cX9_init 81 = .ok (.aload_n 0, 1) := by decide +kernel
theorem dX9_init_82 : decode cX9_init 82 = .ok (.new 50, 3) := by decide +kernel
theorem dX9_init_85 : decode cX9_init 85 = .ok (.dup, 1) := by decide +kernel
theorem dX9_init_86 : decode cX9_init 86 = .ok (.invokespecial 52, 3) := by decide +kernel
theorem dX9_init_89 : decode cX9_init 89 = .ok (.putfield 53, 3) := by decide +kernel
theorem dX9_init_92 : decode cX9_init 92 = .ok (.aload_n 0, 1) := by decide +kernel
theorem dX9_init_93 : decode cX9_init 93 = .ok (.iconst 0, 1) := by decide +kernel
theorem dX9_init_94 : decode cX9_init 94 = .ok (.putfield 57, 3) := by decide +kernel
theorem dX9_init_97 : decode cX9_init 97 = .ok (.aload_n 0, 1) := by decide +kernel
theorem dX9_init_98 : decode cX9_init 98 = .ok (.iconst (-1), 1) := by decide +kernel
theorem dX9_init_99 : decode cX9_init 99 = .ok (.putfield 61, 3) := by decide +kernel
theorem dX9_init_102 : decode cX9_init 102 = .ok (.return_, 1) := by decide +kernel
theorem dX9_cycle_0 : decode cX9_cycle 0 = .ok (.iload_n 1, 1) := by decide +kernel
theorem dX9_cycle_1 : decode cX9_cycle 1 = .ok (.bipush 30, 2) := by decide +kernel
theorem dX9_cycle_3 : decode cX9_cycle 3 = .ok (.bipush 120, 2) := by decide +kernel
theorem dX9_cycle_5 : decode cX9_cycle 5 = .ok (.invokestatic 64, 3) := by decide +kernel
theorem dX9_cycle_8 : decode cX9_cycle 8 = .ok (.iconst 2, 1) := by decide +kernel
theorem dX9_cycle_9 : decode cX9_cycle 9 = .ok (.invokestatic 68, 3) := by decide +kernel
theorem dX9_cycle_12 : decode cX9_cycle 12 = .ok (.aload_n 0, 1) := by decide +kernel
theorem dX9_cycle_13 : decode cX9_cycle 13 = .ok (.getfield 12, 3) := by decide +kernel
theorem dX9_cycle_16 : decode cX9_cycle 16 = .ok (.iload_n 1, 1) := by decide +kernel
theorem dX9_cycle_17 : decode cX9_cycle 17 = .ok (.invokevirtual 72, 3) := by decide +kernel
theorem dX9_cycle_20 : decode cX9_cycle 20 = .ok (.iconst 3, 1) := by decide +kernel
theorem dX9_cycle_21 : decode cX9_cycle 21 = .ok (.invokestatic 68, 3) := by decide +kernel
theorem dX9_cycle_24 : decode cX9_cycle 24 = .ok (.aload_n 0, 1) := by decide +kernel
theorem dX9_cycle_25 : decode cX9_cycle 25 = .ok (.getfield 25, 3) := by decide +kernel
theorem dX9_cycle_28 : decode cX9_cycle 28 = .ok (.aload_n 0, 1) := by decide +kernel
theorem dX9_cycle_29 : decode cX9_cycle 29 = .ok (.getfield 12, 3) := by decide +kernel
theorem dX9_cycle_32 : decode cX9_cycle 32 = .ok (.invokevirtual 76, 3) := by decide +kernel
theorem dX9_cycle_35 : decode cX9_cycle 35 = .ok (.aload_n 0, 1) := by decide +kernel
theorem dX9_cycle_36 : decode cX9_cycle 36 = .ok (.getfield 12, 3) := by decide +kernel
theorem dX9_cycle_39 : decode cX9_cycle 39 = .ok (.getfield 80, 3) := by decide +kernel
theorem dX9_cycle_42 : decode cX9_cycle 42 = .ok (.istore_n 2, 1) := by decide +kernel
theorem dX9_cycle_43 : decode cX9_cycle 43 = .ok (.aload_n 0, 1) := by decide +kernel
theorem dX9_cycle_44 : decode cX9_cycle 44 = .ok (.getfield 12, 3) := by decide +kernel
theorem dX9_cycle_47 : decode cX9_cycle 47 = .ok (.iload_n 1, 1) := by decide +kernel
theorem dX9_cycle_48 : decode cX9_cycle 48 = .ok (.putfield 80, 3) := by decide +kernel
theorem dX9_cycle_51 : decode cX9_cycle 51 = .ok (.iload_n 2, 1) := by decide +kernel
theorem dX9_cycle_52 : decode cX9_cycle 52 = .ok (.ireturn, 1) := by decide +kernel
theorem dX9_speed_0 : decode cX9_speed 0 = .ok (.iload_n 1, 1) := by decide +kernel
theorem dX9_speed_1 : decode cX9_speed 1 = .ok (.iconst 5, 1) := by decide +kernel
theorem dX9_speed_2 : decode cX9_speed 2 = .ok (.bipush 25, 2) := by decide +kernel
theorem dX9_speed_4 : decode cX9_speed 4 = .ok (.invokestatic 64, 3) := by decide +kernel
theorem dX9_speed_7 : decode cX9_speed 7 = .ok (.iconst 2, 1) := by decide +kernel
theorem dX9_speed_8 : decode cX9_speed 8 = .ok (.invokestatic 68, 3) := by decide +kernel
theorem dX9_speed_11 : decode cX9_speed 11 = .ok (.aload_n 0, 1) := by decide +kernel
theorem dX9_speed_12 : decode cX9_speed 12 = .ok (.getfield 25, 3) := by decide +kernel
theorem dX9_speed_15 : decode cX9_speed 15 = .ok (.aload_n 0, 1) := by decide +kernel
theorem dX9_speed_16 : decode cX9_speed 16 = .ok (.getfield 12, 3) := by decide +kernel
theorem dX9_speed_19 : decode cX9_speed 19 = .ok (.invokevirtual 76, 3) := by decide +kernel
theorem dX9_speed_22 : decode cX9_speed 22 = .ok (.aload_n 0, 1) := by decide +kernel
theorem dX9_speed_23 : decode cX9_speed 23 = .ok (.getfield 12, 3) := by decide +kernel
theorem dX9_speed_26 : decode cX9_speed 26 = .ok (.getfield 83, 3) := by decide +kernel
theorem dX9_speed_29 : decode cX9_speed 29 = .ok (.istore_n 2, 1) := by decide +kernel
theorem dX9_speed_30 : decode cX9_speed 30 = .ok (.aload_n 0, 1) := by decide +kernel
theorem dX9_speed_31 : decode cX9_speed 31 = .ok (.getfield 12, 3) := by decide +kernel
theorem dX9_speed_34 : decode cX9_speed 34 = .ok (.iload_n 1, 1) := by decide +kernel
theorem dX9_speed_35 : decode cX9_speed 35 = .ok (.putfield 83, 3) := by decide +kernel
theorem dX9_speed_38 : decode cX9_speed 38 = .ok (.iload_n 2, 1) := by decide +kernel
theorem dX9_speed_39 : decode cX9_speed 39 = .ok (.ireturn, 1) := by decide +kernel
theorem dX9_junction_0 : decode cX9_junction 0 = .ok (.iload_n 1, 1) := by decide +kernel
theorem dX9_junction_1 : decode cX9_junction 1 = .ok (.aload_n 0, 1) := by decide +kernel
theorem dX9_junction_2 : decode cX9_junction 2 = .ok (.getfield 12, 3) := by decide +kernel
theorem dX9_junction_5 : decode cX9_junction 5 = .ok (.invokevirtual 86, 3) := by decide +kernel
theorem dX9_junction_8 : decode cX9_junction 8 = .ok (.iconst 1, 1) := by decide +kernel
theorem dX9_junction_9 : decode cX9_junction 9 = .ok (.iadd, 1) := by decide +kernel
theorem dX9_junction_10 : decode cX9_junction 10 = .ok (.sipush 9999, 3) := by decide +kernel
theorem dX9_junction_13 : decode cX9_junction 13 = .ok (.invokestatic 64, 3) := by decide +kernel
theorem dX9_junction_16 : decode cX9_junction 16 = .ok (.iconst 2, 1) := by decide +kernel
theorem dX9_junction_17 : decode cX9_junction 17 = .ok (.invokestatic 68, 3) := by decide +kernel
theorem dX9_junction_20 : decode cX9_junction 20 = .ok (.aload_n 0, 1) := by decide +kernel
theorem dX9_junction_21 : decode cX9_junction 21 = .ok (.getfield 12, 3) := by decide +kernel
theorem dX9_junction_24 : decode cX9_junction 24 = .ok (.getfield 90, 3) := by decide +kernel
theorem dX9_junction_27 : decode cX9_junction 27 = .ok (.iconst 4, 1) := by decide +kernel
theorem dX9_junction_28 : decode cX9_junction 28 = .ok (.if_icmp .ge 7, 3) := by decide +kernel
theorem dX9_junction_31 : decode cX9_junction 31 = .ok (.iconst 1, 1) := by decide +kernel
theorem dX9_junction_32 : decode cX9_junction 32 = .ok (.goto 4, 3) := by decide +kernel
theorem dX9_junction_35 : decode cX9_junction 35 = .ok (.iconst 0, 1) := by decide +kernel
theorem dX9_junction_36 : decode cX9_junction 36 = .ok (.iconst 3, 1) := by decide +kernel
theorem dX9_junction_37 : decode cX9_junction 37 = .ok (.invokestatic 68, 3) := by decide +kernel
theorem dX9_junction_40 : decode cX9_junction 40 = .ok (.aload_n 0, 1) := by decide +kernel
theorem dX9_junction_41 : decode cX9_junction 41 = .ok (.getfield 25, 3) := by decide +kernel
theorem dX9_junction_44 : decode cX9_junction 44 = .ok (.aload_n 0, 1) := by decide +kernel
theorem dX9_junction_45 : decode cX9_junction 45 = .ok (.getfield 12, 3) := by decide +kernel
theorem dX9_junction_48 : decode cX9_junction 48 = .ok (.invokevirtual 76, 3) := by decide +kernel
theorem dX9_junction_51 : decode cX9_junction 51 = .ok (.aload_n 0, 1) := by decide +kernel
theorem dX9_junction_52 : decode cX9_junction 52 = .ok (.getfield 12, 3) := by decide +kernel
theorem dX9_junction_55 : decode cX9_junction 55 = .ok (.iload_n 1, 1) := by decide +kernel
theorem dX9_junction_56 : decode cX9_junction 56 = .ok (.invokevirtual 93, 3) := by decide +kernel
theorem dX9_junction_59 : decode cX9_junction 59 = .ok (.ireturn, 1) := by decide +kernel
theorem dX9_offset_0 : decode cX9_offset 0 = .ok (.aload_n 0, 1) := by decide +kernel
theorem dX9_offset_1 : decode cX9_offset 1 = .ok (.iload_n 1, 1) := by decide +kernel
theorem dX9_offset_2 : decode cX9_offset 2 = .ok (.iload_n 2, 1) := by decide +kernel
theorem dX9_offset_3 : decode cX9_offset 3 = .ok (.invokevirtual 97, 3) := by decide +kernel
theorem dX9_offset_6 : decode cX9_offset 6 = .ok (.invokestatic 101, 3) := by decide +kernel
theorem dX9_offset_9 : decode cX9_offset 9 = .ok (.aload_n 0, 1) := by decide +kernel
theorem dX9_offset_10 : decode cX9_offset 10 = .ok (.getfield 25, 3) := by decide +kernel
theorem dX9_offset_13 : decode cX9_offset 13 = .ok (.aload_n 0, 1) := by decide +kernel
theorem dX9_offset_14 : decode cX9_offset 14 = .ok (.getfield 12, 3) := by decide +kernel
theorem dX9_offset_17 : decode cX9_offset 17 = .ok (.invokevirtual 76, 3) := by decide +kernel
theorem dX9_offset_20 : decode cX9_offset 20 = .ok (.aload_n 0, 1) := by decide +kernel
theorem dX9_offset_21 : decode cX9_offset 21 = .ok (.iload_n 1, 1) := by decide +kernel
theorem dX9_offset_22 : decode cX9_offset 22 = .ok (.iload_n 2, 1) := by decide +kernel
theorem dX9_offset_23 : decode cX9_offset 23 = .ok (.invokevirtual 105, 3) := by decide +kernel
theorem dX9_offset_26 : decode cX9_offset 26 = .ok (.ireturn, 1) := by decide +kernel
theorem dX9_road_0 : decode cX9_road 0 = .ok (.aload_n 0, 1) := by decide +kernel
theorem dX9_road_1 : decode cX9_road 1 = .ok (.iload_n 1, 1) := by decide +kernel
theorem dX9_road_2 : decode cX9_road 2 = .ok (.iload_n 2, 1) := by decide +kernel
theorem dX9_road_3 : decode cX9_road 3 = .ok (.iload_n 3, 1) := by decide +kernel
theorem dX9_road_4 : decode cX9_road 4 = .ok (.invokevirtual 108, 3) := by decide +kernel
theorem dX9_road_7 : decode cX9_road 7 = .ok (.invokestatic 101, 3) := by decide +kernel
theorem dX9_road_10 : decode cX9_road 10 = .ok (.aload_n 0, 1) := by decide +kernel
theorem dX9_road_11 : decode cX9_road 11 = .ok (.getfield 25, 3) := by decide +kernel
theorem dX9_road_14 : decode cX9_road 14 = .ok (.aload_n 0, 1) := by decide +kernel
theorem dX9_road_15 : decode cX9_road 15 = .ok (.getfield 12, 3) := by decide +kernel
theorem dX9_road_18 : decode cX9_road 18 = .ok (.invokevirtual 76, 3) := by decide +kernel
theorem dX9_road_21 : decode cX9_road 21 = .ok (.aload_n 0, 1) := by decide +kernel
theorem dX9_road_22 : decode cX9_road 22 = .ok (.iload_n 1, 1) := by decide +kernel
theorem dX9_road_23 : decode cX9_road 23 = .ok (.iload_n 2, 1) := by decide +kernel
theorem dX9_road_24 : decode cX9_road 24 = .ok (.iload_n 3, 1) := by decide +kernel
theorem dX9_road_25 : decode cX9_road 25 = .ok (.invokevirtual 112, 3) := by decide +kernel
theorem dX9_road_28 : decode cX9_road 28 = .ok (.ireturn, 1) := by decide +kernel
theorem dX9_told_0 : decode cX9_told 0 = .ok (.aload_n 0, 1) := by decide +kernel
theorem dX9_told_1 : decode cX9_told 1 = .ok (.iload_n 1, 1) := by decide +kernel
theorem dX9_told_2 : decode cX9_told 2 = .ok (.invokevirtual 115, 3) := by decide +kernel
theorem dX9_told_5 : decode cX9_told 5 = .ok (.astore_n 3, 1) := by decide +kernel
theorem dX9_told_6 : decode cX9_told 6 = .ok (.iload_n 2, 1) := by decide +kernel
theorem dX9_told_7 : decode cX9_told 7 = .ok (.tableswitch 113 0 7 #[45, 50, 55, 60, 79, 84, 89, 94], 45) := by decide +kernel
theorem dX9_told_52 : decode cX9_told 52 = .ok (.aload_n 3, 1) := by decide +kernel
theorem dX9_told_53 : decode cX9_told 53 = .ok (.getfield 119, 3) := by decide +kernel
theorem dX9_told_56 : decode cX9_told 56 = .ok (.ireturn, 1) := by decide +kernel
theorem dX9_told_57 : decode cX9_told 57 = .ok (.aload_n 3, 1) := by decide +kernel
theorem dX9_told_58 : decode cX9_told 58 = .ok (.getfield 124, 3) := by decide +kernel
theorem dX9_told_61 : decode cX9_told 61 = .ok (.ireturn, 1) := by decide +kernel
theorem dX9_told_62 : decode cX9_told 62 = .ok (.aload_n 3, 1) := by decide +kernel
theorem dX9_told_63 : decode cX9_told 63 = .ok (.getfield 127, 3) := by decide +kernel
theorem dX9_told_66 : decode cX9_told 66 = .ok (.ireturn, 1) := by decide +kernel
theorem dX9_told_67 : decode cX9_told 67 = .ok (.aload_n 3, 1) := by decide +kernel
theorem dX9_told_68 : decode cX9_told 68 = .ok (.aload_n 0, 1) := by decide +kernel
theorem dX9_told_69 : decode cX9_told 69 = .ok (.getfield 12, 3) := by decide +kernel
theorem dX9_told_72 : decode cX9_told 72 = .ok (.getfield 130, 3) := by decide +kernel
theorem dX9_told_75 : decode cX9_told 75 = .ok (.aload_n 0, 1) := by decide +kernel
theorem dX9_told_76 : decode cX9_told 76 = .ok (.getfield 12, 3) := by decide +kernel
theorem dX9_told_79 : decode cX9_told 79 = .ok (.getfield 80, 3) := by decide +kernel
theorem dX9_told_82 : decode cX9_told 82 = .ok (.invokevirtual 133, 3) := by decide +kernel
theorem dX9_told_85 : decode cX9_told 85 = .ok (.ireturn, 1) := by decide +kernel
theorem dX9_told_86 : decode cX9_told 86 = .ok (.aload_n 3, 1) := by decide +kernel
theorem dX9_told_87 : decode cX9_told 87 = .ok (.getfield 136, 3) := by decide +kernel
theorem dX9_told_90 : decode cX9_told 90 = .ok (.ireturn, 1) := by decide +kernel
theorem dX9_told_91 : decode cX9_told 91 = .ok (.aload_n 3, 1) := by decide +kernel
theorem dX9_told_92 : decode cX9_told 92 = .ok (.getfield 139, 3) := by decide +kernel
theorem dX9_told_95 : decode cX9_told 95 = .ok (.ireturn, 1) := by decide +kernel
theorem dX9_told_96 : decode cX9_told 96 = .ok (.aload_n 3, 1) := by decide +kernel
theorem dX9_told_97 : decode cX9_told 97 = .ok (.invokevirtual 142, 3) := by decide +kernel
theorem dX9_told_100 : decode cX9_told 100 = .ok (.ireturn, 1) := by decide +kernel
theorem dX9_told_101 : decode cX9_told 101 = .ok (.aload_n 3, 1) := by decide +kernel
theorem dX9_told_102 : decode cX9_told 102 = .ok (.aload_n 0, 1) := by decide +kernel
theorem dX9_told_103 : decode cX9_told 103 = .ok (.getfield 12, 3) := by decide +kernel
theorem dX9_told_106 : decode cX9_told 106 = .ok (.getfield 130, 3) := by decide +kernel
theorem dX9_told_109 : decode cX9_told 109 = .ok (.aload_n 0, 1) := by decide +kernel
theorem dX9_told_110 : decode cX9_told 110 = .ok (.getfield 12, 3) := by decide +kernel
theorem dX9_told_113 : decode cX9_told 113 = .ok (.getfield 80, 3) := by decide +kernel
theorem dX9_told_116 : decode cX9_told 116 = .ok (.invokevirtual 145, 3) := by decide +kernel
theorem dX9_told_119 : decode cX9_told 119 = .ok (.ireturn, 1) := by decide +kernel
theorem dX9_told_120 : decode cX9_told 120 = .ok (.new 148, 3) := by decide +kernel
theorem dX9_told_123 : decode cX9_told 123 = .ok (.dup, 1) := by decide +kernel
theorem dX9_told_124 : decode cX9_told 124 = .ok (.ldc 150, 2) := by decide +kernel
theorem dX9_told_126 : decode cX9_told 126 = .ok (.invokespecial 152, 3) := by decide +kernel
theorem dX9_told_129 : decode cX9_told 129 = .ok (.athrow, 1) := by decide +kernel
theorem dX9_group_0 : decode cX9_group 0 = .ok (.aload_n 0, 1) := by decide +kernel
theorem dX9_group_1 : decode cX9_group 1 = .ok (.iload_n 1, 1) := by decide +kernel
theorem dX9_group_2 : decode cX9_group 2 = .ok (.invokevirtual 115, 3) := by decide +kernel
theorem dX9_group_5 : decode cX9_group 5 = .ok (.astore 5, 2) := by decide +kernel
theorem dX9_group_7 : decode cX9_group 7 = .ok (.iload_n 2, 1) := by decide +kernel
theorem dX9_group_8 : decode cX9_group 8 = .ok (.iconst 0, 1) := by decide +kernel
theorem dX9_group_9 : decode cX9_group 9 = .ok (.iconst 2, 1) := by decide +kernel
theorem dX9_group_10 : decode cX9_group 10 = .ok (.invokestatic 64, 3) := by decide +kernel
theorem dX9_group_13 : decode cX9_group 13 = .ok (.ifCond .eq 17, 3) := by decide +kernel
theorem dX9_group_16 : decode cX9_group 16 = .ok (.iload_n 3, 1) := by decide +kernel
theorem dX9_group_17 : decode cX9_group 17 = .ok (.iconst 4, 1) := by decide +kernel
theorem dX9_group_18 : decode cX9_group 18 = .ok (.bipush 30, 2) := by decide +kernel
theorem dX9_group_20 : decode cX9_group 20 = .ok (.invokestatic 64, 3) := by decide +kernel
theorem dX9_group_23 : decode cX9_group 23 = .ok (.ifCond .eq 7, 3) := by decide +kernel
theorem dX9_group_26 : decode cX9_group 26 = .ok (.iconst 1, 1) := by decide +kernel
theorem dX9_group_27 : decode cX9_group 27 = .ok (.goto 4, 3) := by decide +kernel
theorem dX9_group_30 : decode cX9_group 30 = .ok (.iconst 0, 1) := by decide +kernel
theorem dX9_group_31 : decode cX9_group 31 = .ok (.iconst 2, 1) := by decide +kernel
theorem dX9_group_32 : decode cX9_group 32 = .ok (.invokestatic 68, 3) := by decide +kernel
theorem dX9_group_35 : decode cX9_group 35 = .ok (.aload 5, 2) := by decide +kernel
theorem dX9_group_37 : decode cX9_group 37 = .ok (.getfield 127, 3) := by decide +kernel
theorem dX9_group_40 : decode cX9_group 40 = .ok (.bipush 6, 2) := by decide +kernel
theorem dX9_group_42 : decode cX9_group 42 = .ok (.if_icmp .ge 7, 3) := by decide +kernel
theorem dX9_group_45 : decode cX9_group 45 = .ok (.iconst 1, 1) := by decide +kernel
theorem dX9_group_46 : decode cX9_group 46 = .ok (.goto 4, 3) := by decide +kernel
theorem dX9_group_49 : decode cX9_group 49 = .ok (.iconst 0, 1) := by decide +kernel
theorem dX9_group_50 : decode cX9_group 50 = .ok (.iconst 3, 1) := by decide +kernel
theorem dX9_group_51 : decode cX9_group 51 = .ok (.invokestatic 68, 3) := by decide +kernel
theorem dX9_group_54 : decode cX9_group 54 = .ok (.aload_n 0, 1) := by decide +kernel
theorem dX9_group_55 : decode cX9_group 55 = .ok (.getfield 25, 3) := by decide +kernel
theorem dX9_group_58 : decode cX9_group 58 = .ok (.aload_n 0, 1) := by decide +kernel
theorem dX9_group_59 : decode cX9_group 59 = .ok (.getfield 12, 3) := by decide +kernel
theorem dX9_group_62 : decode cX9_group 62 = .ok (.invokevirtual 76, 3) := by decide +kernel
theorem dX9_group_65 : decode cX9_group 65 = .ok (.aload 5, 2) := by decide +kernel
theorem dX9_group_67 : decode cX9_group 67 = .ok (.iload_n 2, 1) := by decide +kernel
theorem dX9_group_68 : decode cX9_group 68 = .ok (.iload_n 3, 1) := by decide +kernel
theorem dX9_group_69 : decode cX9_group 69 = .ok (.iload 4, 2) := by decide +kernel
theorem dX9_group_71 : decode cX9_group 71 = .ok (.invokevirtual 155, 3) := by decide +kernel
theorem dX9_group_74 : decode cX9_group 74 = .ok (.ireturn, 1) := by decide +kernel
theorem dX9_groupTold_0 : decode cX9_groupTold 0 = .ok (.aload_n 0, 1) := by decide +kernel
theorem dX9_groupTold_1 : decode cX9_groupTold 1 = .ok (.iload_n 1, 1) := by decide +kernel
theorem dX9_groupTold_2 : decode cX9_groupTold 2 = .ok (.iload_n 2, 1) := by decide +kernel
theorem dX9_groupTold_3 : decode cX9_groupTold 3 = .ok (.invokevirtual 159, 3) := by decide +kernel
theorem dX9_groupTold_6 : decode cX9_groupTold 6 = .ok (.astore 4, 2) := by decide +kernel
theorem dX9_groupTold_8 : decode cX9_groupTold 8 = .ok (.iload_n 3, 1) := by decide +kernel
theorem dX9_groupTold_9 : decode cX9_groupTold 9 = .ok (.tableswitch 123 0 7 #[47, 55, 63, 78, 85, 93, 101, 116], 47) := by decide +kernel
theorem dX9_groupTold_56 : decode cX9_groupTold 56 = .ok (.aload 4, 2) := by decide +kernel
theorem dX9_groupTold_58 : decode cX9_groupTold 58 = .ok (.getfield 163, 3) := by decide +kernel
theorem dX9_groupTold_61 : decode cX9_groupTold 61 = .ok (.iload_n 2, 1) := by decide +kernel
theorem dX9_groupTold_62 : decode cX9_groupTold 62 = .ok (.iaload, 1) := by decide +kernel
theorem dX9_groupTold_63 : decode cX9_groupTold 63 = .ok (.ireturn, 1) := by decide +kernel
theorem dX9_groupTold_64 : decode cX9_groupTold 64 = .ok (.aload 4, 2) := by decide +kernel
theorem dX9_groupTold_66 : decode cX9_groupTold 66 = .ok (.getfield 167, 3) := by decide +kernel
theorem dX9_groupTold_69 : decode cX9_groupTold 69 = .ok (.iload_n 2, 1) := by decide +kernel
theorem dX9_groupTold_70 : decode cX9_groupTold 70 = .ok (.iaload, 1) := by decide +kernel
theorem dX9_groupTold_71 : decode cX9_groupTold 71 = .ok (.ireturn, 1) := by decide +kernel
theorem dX9_groupTold_72 : decode cX9_groupTold 72 = .ok (.aload 4, 2) := by decide +kernel
theorem dX9_groupTold_74 : decode cX9_groupTold 74 = .ok (.iload_n 2, 1) := by decide +kernel
theorem dX9_groupTold_75 : decode cX9_groupTold 75 = .ok (.invokevirtual 170, 3) := by decide +kernel
theorem dX9_groupTold_78 : decode cX9_groupTold 78 = .ok (.ifCond .eq 7, 3) := by decide +kernel
theorem dX9_groupTold_81 : decode cX9_groupTold 81 = .ok (.iconst 1, 1) := by decide +kernel
theorem dX9_groupTold_82 : decode cX9_groupTold 82 = .ok (.goto 4, 3) := by decide +kernel
theorem dX9_groupTold_85 : decode cX9_groupTold 85 = .ok (.iconst 0, 1) := by decide +kernel
theorem dX9_groupTold_86 : decode cX9_groupTold 86 = .ok (.ireturn, 1) := by decide +kernel
theorem dX9_groupTold_87 : decode cX9_groupTold 87 = .ok (.aload 4, 2) := by decide +kernel
theorem dX9_groupTold_89 : decode cX9_groupTold 89 = .ok (.iload_n 2, 1) := by decide +kernel
theorem dX9_groupTold_90 : decode cX9_groupTold 90 = .ok (.invokevirtual 173, 3) := by decide +kernel
theorem dX9_groupTold_93 : decode cX9_groupTold 93 = .ok (.ireturn, 1) := by decide +kernel
theorem dX9_groupTold_94 : decode cX9_groupTold 94 = .ok (.aload 4, 2) := by decide +kernel
theorem dX9_groupTold_96 : decode cX9_groupTold 96 = .ok (.getfield 176, 3) := by decide +kernel
theorem dX9_groupTold_99 : decode cX9_groupTold 99 = .ok (.iload_n 2, 1) := by decide +kernel
theorem dX9_groupTold_100 : decode cX9_groupTold 100 = .ok (.iaload, 1) := by decide +kernel
theorem dX9_groupTold_101 : decode cX9_groupTold 101 = .ok (.ireturn, 1) := by decide +kernel
theorem dX9_groupTold_102 : decode cX9_groupTold 102 = .ok (.aload 4, 2) := by decide +kernel
theorem dX9_groupTold_104 : decode cX9_groupTold 104 = .ok (.getfield 179, 3) := by decide +kernel
theorem dX9_groupTold_107 : decode cX9_groupTold 107 = .ok (.iload_n 2, 1) := by decide +kernel
theorem dX9_groupTold_108 : decode cX9_groupTold 108 = .ok (.iaload, 1) := by decide +kernel
theorem dX9_groupTold_109 : decode cX9_groupTold 109 = .ok (.ireturn, 1) := by decide +kernel
theorem dX9_groupTold_110 : decode cX9_groupTold 110 = .ok (.aload 4, 2) := by decide +kernel
theorem dX9_groupTold_112 : decode cX9_groupTold 112 = .ok (.iload_n 2, 1) := by decide +kernel
theorem dX9_groupTold_113 : decode cX9_groupTold 113 = .ok (.invokevirtual 182, 3) := by decide +kernel
theorem dX9_groupTold_116 : decode cX9_groupTold 116 = .ok (.ifCond .eq 7, 3) := by decide +kernel
theorem dX9_groupTold_119 : decode cX9_groupTold 119 = .ok (.iconst 1, 1) := by decide +kernel
theorem dX9_groupTold_120 : decode cX9_groupTold 120 = .ok (.goto 4, 3) := by decide +kernel
theorem dX9_groupTold_123 : decode cX9_groupTold 123 = .ok (.iconst 0, 1) := by decide +kernel
theorem dX9_groupTold_124 : decode cX9_groupTold 124 = .ok (.ireturn, 1) := by decide +kernel
theorem dX9_groupTold_125 : decode cX9_groupTold 125 = .ok (.aload 4, 2) := by decide +kernel
theorem dX9_groupTold_127 : decode cX9_groupTold 127 = .ok (.iload_n 2, 1) := by decide +kernel
theorem dX9_groupTold_128 : decode cX9_groupTold 128 = .ok (.invokevirtual 185, 3) := by decide +kernel
theorem dX9_groupTold_131 : decode cX9_groupTold 131 = .ok (.ireturn, 1) := by decide +kernel
theorem dX9_groupTold_132 : decode cX9_groupTold 132 = .ok (.new 148, 3) := by decide +kernel
theorem dX9_groupTold_135 : decode cX9_groupTold 135 = .ok (.dup, 1) := by decide +kernel
theorem dX9_groupTold_136 : decode cX9_groupTold 136 = .ok (.ldc 150, 2) := by decide +kernel
theorem dX9_groupTold_138 : decode cX9_groupTold 138 = .ok (.invokespecial 152, 3) := by decide +kernel
theorem dX9_groupTold_141 : decode cX9_groupTold 141 = .ok (.athrow, 1) := by decide +kernel
theorem dX9_conflict_0 : decode cX9_conflict 0 = .ok (.aload_n 0, 1) := by decide +kernel
theorem dX9_conflict_1 : decode cX9_conflict 1 = .ok (.iload_n 1, 1) := by decide +kernel
theorem dX9_conflict_2 : decode cX9_conflict 2 = .ok (.iload_n 2, 1) := by decide +kernel
theorem dX9_conflict_3 : decode cX9_conflict 3 = .ok (.invokevirtual 159, 3) := by decide +kernel
theorem dX9_conflict_6 : decode cX9_conflict 6 = .ok (.astore 6, 2) := by decide +kernel
theorem dX9_conflict_8 : decode cX9_conflict 8 = .ok (.aload 6, 2) := by decide +kernel
theorem dX9_conflict_10 : decode cX9_conflict 10 = .ok (.iload_n 3, 1) := by decide +kernel
theorem dX9_conflict_11 : decode cX9_conflict 11 = .ok (.invokevirtual 188, 3) := by decide +kernel
theorem dX9_conflict_14 : decode cX9_conflict 14 = .ok (.iconst 1, 1) := by decide +kernel
theorem dX9_conflict_15 : decode cX9_conflict 15 = .ok (.invokestatic 68, 3) := by decide +kernel
theorem dX9_conflict_18 : decode cX9_conflict 18 = .ok (.iload_n 2, 1) := by decide +kernel
theorem dX9_conflict_19 : decode cX9_conflict 19 = .ok (.iload_n 3, 1) := by decide +kernel
theorem dX9_conflict_20 : decode cX9_conflict 20 = .ok (.if_icmp .eq 23, 3) := by decide +kernel
theorem dX9_conflict_23 : decode cX9_conflict 23 = .ok (.iload 4, 2) := by decide +kernel
theorem dX9_conflict_25 : decode cX9_conflict 25 = .ok (.invokestatic 191, 3) := by decide +kernel
theorem dX9_conflict_28 : decode cX9_conflict 28 = .ok (.ifCond .eq 15, 3) := by decide +kernel
theorem dX9_conflict_31 : decode cX9_conflict 31 = .ok (.iload 5, 2) := by decide +kernel
theorem dX9_conflict_33 : decode cX9_conflict 33 = .ok (.invokestatic 191, 3) := by decide +kernel
theorem dX9_conflict_36 : decode cX9_conflict 36 = .ok (.ifCond .eq 7, 3) := by decide +kernel
theorem dX9_conflict_39 : decode cX9_conflict 39 = .ok (.iconst 1, 1) := by decide +kernel
theorem dX9_conflict_40 : decode cX9_conflict 40 = .ok (.goto 4, 3) := by decide +kernel
theorem dX9_conflict_43 : decode cX9_conflict 43 = .ok (.iconst 0, 1) := by decide +kernel
theorem dX9_conflict_44 : decode cX9_conflict 44 = .ok (.iconst 2, 1) := by decide +kernel
theorem dX9_conflict_45 : decode cX9_conflict 45 = .ok (.invokestatic 68, 3) := by decide +kernel
theorem dX9_conflict_48 : decode cX9_conflict 48 = .ok (.aload 6, 2) := by decide +kernel
theorem dX9_conflict_50 : decode cX9_conflict 50 = .ok (.invokevirtual 194, 3) := by decide +kernel
theorem dX9_conflict_53 : decode cX9_conflict 53 = .ok (.ifCond .ne 7, 3) := by decide +kernel
theorem dX9_conflict_56 : decode cX9_conflict 56 = .ok (.iconst 1, 1) := by decide +kernel
theorem dX9_conflict_57 : decode cX9_conflict 57 = .ok (.goto 4, 3) := by decide +kernel
theorem dX9_conflict_60 : decode cX9_conflict 60 = .ok (.iconst 0, 1) := by decide +kernel
theorem dX9_conflict_61 : decode cX9_conflict 61 = .ok (.iconst 3, 1) := by decide +kernel
theorem dX9_conflict_62 : decode cX9_conflict 62 = .ok (.invokestatic 68, 3) := by decide +kernel
theorem dX9_conflict_65 : decode cX9_conflict 65 = .ok (.aload_n 0, 1) := by decide +kernel
theorem dX9_conflict_66 : decode cX9_conflict 66 = .ok (.aload 6, 2) := by decide +kernel
theorem dX9_conflict_68 : decode cX9_conflict 68 = .ok (.iload_n 2, 1) := by decide +kernel
theorem dX9_conflict_69 : decode cX9_conflict 69 = .ok (.iload_n 3, 1) := by decide +kernel
theorem dX9_conflict_70 : decode cX9_conflict 70 = .ok (.iload 4, 2) := by decide +kernel
theorem dX9_conflict_72 : decode cX9_conflict 72 = .ok (.iload 5, 2) := by decide +kernel
theorem dX9_conflict_74 : decode cX9_conflict 74 = .ok (.aload_n 0, 1) := by decide +kernel
theorem dX9_conflict_75 : decode cX9_conflict 75 = .ok (.getfield 12, 3) := by decide +kernel
theorem dX9_conflict_78 : decode cX9_conflict 78 = .ok (.getfield 80, 3) := by decide +kernel
theorem dX9_conflict_81 : decode cX9_conflict 81 = .ok (.invokevirtual 198, 3) := by decide +kernel
theorem dX9_conflict_84 : decode cX9_conflict 84 = .ok (.invokevirtual 202, 3) := by decide +kernel
theorem dX9_conflict_87 : decode cX9_conflict 87 = .ok (.invokestatic 101, 3) := by decide +kernel
theorem dX9_conflict_90 : decode cX9_conflict 90 = .ok (.aload_n 0, 1) := by decide +kernel
theorem dX9_conflict_91 : decode cX9_conflict 91 = .ok (.getfield 25, 3) := by decide +kernel
theorem dX9_conflict_94 : decode cX9_conflict 94 = .ok (.aload_n 0, 1) := by decide +kernel
theorem dX9_conflict_95 : decode cX9_conflict 95 = .ok (.getfield 12, 3) := by decide +kernel
theorem dX9_conflict_98 : decode cX9_conflict 98 = .ok (.invokevirtual 76, 3) := by decide +kernel
theorem dX9_conflict_101 : decode cX9_conflict 101 = .ok (.aload 6, 2) := by decide +kernel
theorem dX9_conflict_103 : decode cX9_conflict 103 = .ok (.iload_n 2, 1) := by decide +kernel
theorem dX9_conflict_104 : decode cX9_conflict 104 = .ok (.iload_n 3, 1) := by decide +kernel
theorem dX9_conflict_105 : decode cX9_conflict 105 = .ok (.iload 4, 2) := by decide +kernel
theorem dX9_conflict_107 : decode cX9_conflict 107 = .ok (.iload 5, 2) := by decide +kernel
theorem dX9_conflict_109 : decode cX9_conflict 109 = .ok (.invokevirtual 205, 3) := by decide +kernel
theorem dX9_conflict_112 : decode cX9_conflict 112 = .ok (.aload 6, 2) := by decide +kernel
theorem dX9_conflict_114 : decode cX9_conflict 114 = .ok (.invokevirtual 142, 3) := by decide +kernel
theorem dX9_conflict_117 : decode cX9_conflict 117 = .ok (.ireturn, 1) := by decide +kernel
theorem dX9_peace_0 : decode cX9_peace 0 = .ok (.aload_n 0, 1) := by decide +kernel
theorem dX9_peace_1 : decode cX9_peace 1 = .ok (.iload_n 1, 1) := by decide +kernel
theorem dX9_peace_2 : decode cX9_peace 2 = .ok (.iload_n 2, 1) := by decide +kernel
theorem dX9_peace_3 : decode cX9_peace 3 = .ok (.invokevirtual 159, 3) := by decide +kernel
theorem dX9_peace_6 : decode cX9_peace 6 = .ok (.astore 4, 2) := by decide +kernel
theorem dX9_peace_8 : decode cX9_peace 8 = .ok (.aload 4, 2) := by decide +kernel
theorem dX9_peace_10 : decode cX9_peace 10 = .ok (.iload_n 3, 1) := by decide +kernel
theorem dX9_peace_11 : decode cX9_peace 11 = .ok (.invokevirtual 188, 3) := by decide +kernel
theorem dX9_peace_14 : decode cX9_peace 14 = .ok (.iconst 1, 1) := by decide +kernel
theorem dX9_peace_15 : decode cX9_peace 15 = .ok (.invokestatic 68, 3) := by decide +kernel
theorem dX9_peace_18 : decode cX9_peace 18 = .ok (.aload 4, 2) := by decide +kernel
theorem dX9_peace_20 : decode cX9_peace 20 = .ok (.iload_n 2, 1) := by decide +kernel
theorem dX9_peace_21 : decode cX9_peace 21 = .ok (.iload_n 3, 1) := by decide +kernel
theorem dX9_peace_22 : decode cX9_peace 22 = .ok (.invokevirtual 209, 3) := by decide +kernel
theorem dX9_peace_25 : decode cX9_peace 25 = .ok (.iconst 5, 1) := by decide +kernel
theorem dX9_peace_26 : decode cX9_peace 26 = .ok (.invokestatic 68, 3) := by decide +kernel
theorem dX9_peace_29 : decode cX9_peace 29 = .ok (.aload_n 0, 1) := by decide +kernel
theorem dX9_peace_30 : decode cX9_peace 30 = .ok (.getfield 25, 3) := by decide +kernel
theorem dX9_peace_33 : decode cX9_peace 33 = .ok (.aload_n 0, 1) := by decide +kernel
theorem dX9_peace_34 : decode cX9_peace 34 = .ok (.getfield 12, 3) := by decide +kernel
theorem dX9_peace_37 : decode cX9_peace 37 = .ok (.invokevirtual 76, 3) := by decide +kernel
theorem dX9_peace_40 : decode cX9_peace 40 = .ok (.bipush 100, 2) := by decide +kernel
theorem dX9_peace_42 : decode cX9_peace 42 = .ok (.aload 4, 2) := by decide +kernel
theorem dX9_peace_44 : decode cX9_peace 44 = .ok (.iload_n 2, 1) := by decide +kernel
theorem dX9_peace_45 : decode cX9_peace 45 = .ok (.iload_n 3, 1) := by decide +kernel
theorem dX9_peace_46 : decode cX9_peace 46 = .ok (.invokevirtual 213, 3) := by decide +kernel
theorem dX9_peace_49 : decode cX9_peace 49 = .ok (.imul, 1) := by decide +kernel
theorem dX9_peace_50 : decode cX9_peace 50 = .ok (.aload 4, 2) := by decide +kernel
theorem dX9_peace_52 : decode cX9_peace 52 = .ok (.iload_n 3, 1) := by decide +kernel
theorem dX9_peace_53 : decode cX9_peace 53 = .ok (.iload_n 2, 1) := by decide +kernel
theorem dX9_peace_54 : decode cX9_peace 54 = .ok (.invokevirtual 213, 3) := by decide +kernel
theorem dX9_peace_57 : decode cX9_peace 57 = .ok (.iadd, 1) := by decide +kernel
theorem dX9_peace_58 : decode cX9_peace 58 = .ok (.istore 5, 2) := by decide +kernel
theorem dX9_peace_60 : decode cX9_peace 60 = .ok (.aload 4, 2) := by decide +kernel
theorem dX9_peace_62 : decode cX9_peace 62 = .ok (.iload_n 2, 1) := by decide +kernel
theorem dX9_peace_63 : decode cX9_peace 63 = .ok (.iload_n 3, 1) := by decide +kernel
theorem dX9_peace_64 : decode cX9_peace 64 = .ok (.iconst (-1), 1) := by decide +kernel
theorem dX9_peace_65 : decode cX9_peace 65 = .ok (.iconst (-1), 1) := by decide +kernel
theorem dX9_peace_66 : decode cX9_peace 66 = .ok (.invokevirtual 205, 3) := by decide +kernel
theorem dX9_peace_69 : decode cX9_peace 69 = .ok (.iload 5, 2) := by decide +kernel
theorem dX9_peace_71 : decode cX9_peace 71 = .ok (.ireturn, 1) := by decide +kernel
theorem dX9_clearance_0 : decode cX9_clearance 0 = .ok (.aload_n 0, 1) := by decide +kernel
theorem dX9_clearance_1 : decode cX9_clearance 1 = .ok (.iload_n 1, 1) := by decide +kernel
theorem dX9_clearance_2 : decode cX9_clearance 2 = .ok (.iload_n 2, 1) := by decide +kernel
theorem dX9_clearance_3 : decode cX9_clearance 3 = .ok (.invokevirtual 159, 3) := by decide +kernel
theorem dX9_clearance_6 : decode cX9_clearance 6 = .ok (.astore 4, 2) := by decide +kernel
theorem dX9_clearance_8 : decode cX9_clearance 8 = .ok (.aload 4, 2) := by decide +kernel
theorem dX9_clearance_10 : decode cX9_clearance 10 = .ok (.iload_n 3, 1) := by decide +kernel
theorem dX9_clearance_11 : decode cX9_clearance 11 = .ok (.invokevirtual 188, 3) := by decide +kernel
theorem dX9_clearance_14 : decode cX9_clearance 14 = .ok (.iconst 1, 1) := by decide +kernel
theorem dX9_clearance_15 : decode cX9_clearance 15 = .ok (.invokestatic 68, 3) := by decide +kernel
theorem dX9_clearance_18 : decode cX9_clearance 18 = .ok (.aload 4, 2) := by decide +kernel
theorem dX9_clearance_20 : decode cX9_clearance 20 = .ok (.iload_n 2, 1) := by decide +kernel
theorem dX9_clearance_21 : decode cX9_clearance 21 = .ok (.iload_n 3, 1) := by decide +kernel
theorem dX9_clearance_22 : decode cX9_clearance 22 = .ok (.invokevirtual 213, 3) := by decide +kernel
theorem dX9_clearance_25 : decode cX9_clearance 25 = .ok (.ireturn, 1) := by decide +kernel
theorem dX9_green_0 : decode cX9_green 0 = .ok (.aload_n 0, 1) := by decide +kernel
theorem dX9_green_1 : decode cX9_green 1 = .ok (.iload_n 1, 1) := by decide +kernel
theorem dX9_green_2 : decode cX9_green 2 = .ok (.iload_n 2, 1) := by decide +kernel
theorem dX9_green_3 : decode cX9_green 3 = .ok (.iload_n 3, 1) := by decide +kernel
theorem dX9_green_4 : decode cX9_green 4 = .ok (.iload 4, 2) := by decide +kernel
theorem dX9_green_6 : decode cX9_green 6 = .ok (.iload 5, 2) := by decide +kernel
theorem dX9_green_8 : decode cX9_green 8 = .ok (.invokevirtual 216, 3) := by decide +kernel
theorem dX9_green_11 : decode cX9_green 11 = .ok (.invokestatic 101, 3) := by decide +kernel
theorem dX9_green_14 : decode cX9_green 14 = .ok (.aload_n 0, 1) := by decide +kernel
theorem dX9_green_15 : decode cX9_green 15 = .ok (.getfield 25, 3) := by decide +kernel
theorem dX9_green_18 : decode cX9_green 18 = .ok (.aload_n 0, 1) := by decide +kernel
theorem dX9_green_19 : decode cX9_green 19 = .ok (.getfield 12, 3) := by decide +kernel
theorem dX9_green_22 : decode cX9_green 22 = .ok (.invokevirtual 76, 3) := by decide +kernel
theorem dX9_green_25 : decode cX9_green 25 = .ok (.aload_n 0, 1) := by decide +kernel
theorem dX9_green_26 : decode cX9_green 26 = .ok (.iload_n 1, 1) := by decide +kernel
theorem dX9_green_27 : decode cX9_green 27 = .ok (.iload_n 2, 1) := by decide +kernel
theorem dX9_green_28 : decode cX9_green 28 = .ok (.iload_n 3, 1) := by decide +kernel
theorem dX9_green_29 : decode cX9_green 29 = .ok (.iload 4, 2) := by decide +kernel
theorem dX9_green_31 : decode cX9_green 31 = .ok (.iload 5, 2) := by decide +kernel
theorem dX9_green_33 : decode cX9_green 33 = .ok (.invokevirtual 219, 3) := by decide +kernel
theorem dX9_green_36 : decode cX9_green 36 = .ok (.ireturn, 1) := by decide +kernel
theorem dX9_hinders_0 : decode cX9_hinders 0 = .ok (.aload_n 0, 1) := by decide +kernel
theorem dX9_hinders_1 : decode cX9_hinders 1 = .ok (.iload_n 1, 1) := by decide +kernel
theorem dX9_hinders_2 : decode cX9_hinders 2 = .ok (.iload_n 3, 1) := by decide +kernel
theorem dX9_hinders_3 : decode cX9_hinders 3 = .ok (.invokevirtual 159, 3) := by decide +kernel
theorem dX9_hinders_6 : decode cX9_hinders 6 = .ok (.astore 6, 2) := by decide +kernel
theorem dX9_hinders_8 : decode cX9_hinders 8 = .ok (.iload_n 2, 1) := by decide +kernel
theorem dX9_hinders_9 : decode cX9_hinders 9 = .ok (.invokestatic 222, 3) := by decide +kernel
theorem dX9_hinders_12 : decode cX9_hinders 12 = .ok (.iconst 1, 1) := by decide +kernel
theorem dX9_hinders_13 : decode cX9_hinders 13 = .ok (.invokestatic 68, 3) := by decide +kernel
theorem dX9_hinders_16 : decode cX9_hinders 16 = .ok (.aload_n 0, 1) := by decide +kernel
theorem dX9_hinders_17 : decode cX9_hinders 17 = .ok (.iload 4, 2) := by decide +kernel
theorem dX9_hinders_19 : decode cX9_hinders 19 = .ok (.iload 5, 2) := by decide +kernel
theorem dX9_hinders_21 : decode cX9_hinders 21 = .ok (.invokevirtual 225, 3) := by decide +kernel
theorem dX9_hinders_24 : decode cX9_hinders 24 = .ok (.iconst 2, 1) := by decide +kernel
theorem dX9_hinders_25 : decode cX9_hinders 25 = .ok (.invokestatic 68, 3) := by decide +kernel
theorem dX9_hinders_28 : decode cX9_hinders 28 = .ok (.aload 6, 2) := by decide +kernel
theorem dX9_hinders_30 : decode cX9_hinders 30 = .ok (.iload_n 2, 1) := by decide +kernel
theorem dX9_hinders_31 : decode cX9_hinders 31 = .ok (.iload_n 3, 1) := by decide +kernel
theorem dX9_hinders_32 : decode cX9_hinders 32 = .ok (.iload 4, 2) := by decide +kernel
theorem dX9_hinders_34 : decode cX9_hinders 34 = .ok (.iload 5, 2) := by decide +kernel
theorem dX9_hinders_36 : decode cX9_hinders 36 = .ok (.aload_n 0, 1) := by decide +kernel
theorem dX9_hinders_37 : decode cX9_hinders 37 = .ok (.getfield 12, 3) := by decide +kernel
theorem dX9_hinders_40 : decode cX9_hinders 40 = .ok (.getfield 80, 3) := by decide +kernel
theorem dX9_hinders_43 : decode cX9_hinders 43 = .ok (.invokevirtual 228, 3) := by decide +kernel
theorem dX9_hinders_46 : decode cX9_hinders 46 = .ok (.ireturn, 1) := by decide +kernel
theorem dX9_dark_0 : decode cX9_dark 0 = .ok (.aload_n 0, 1) := by decide +kernel
theorem dX9_dark_1 : decode cX9_dark 1 = .ok (.iload_n 1, 1) := by decide +kernel
theorem dX9_dark_2 : decode cX9_dark 2 = .ok (.iload_n 3, 1) := by decide +kernel
theorem dX9_dark_3 : decode cX9_dark 3 = .ok (.invokevirtual 159, 3) := by decide +kernel
theorem dX9_dark_6 : decode cX9_dark 6 = .ok (.astore 4, 2) := by decide +kernel
theorem dX9_dark_8 : decode cX9_dark 8 = .ok (.iload_n 2, 1) := by decide +kernel
theorem dX9_dark_9 : decode cX9_dark 9 = .ok (.invokestatic 222, 3) := by decide +kernel
theorem dX9_dark_12 : decode cX9_dark 12 = .ok (.iconst 1, 1) := by decide +kernel
theorem dX9_dark_13 : decode cX9_dark 13 = .ok (.invokestatic 68, 3) := by decide +kernel
theorem dX9_dark_16 : decode cX9_dark 16 = .ok (.aload 4, 2) := by decide +kernel
theorem dX9_dark_18 : decode cX9_dark 18 = .ok (.invokevirtual 194, 3) := by decide +kernel
theorem dX9_dark_21 : decode cX9_dark 21 = .ok (.ifCond .ne 7, 3) := by decide +kernel
theorem dX9_dark_24 : decode cX9_dark 24 = .ok (.iconst 1, 1) := by decide +kernel
theorem dX9_dark_25 : decode cX9_dark 25 = .ok (.goto 4, 3) := by decide +kernel
theorem dX9_dark_28 : decode cX9_dark 28 = .ok (.iconst 0, 1) := by decide +kernel
theorem dX9_dark_29 : decode cX9_dark 29 = .ok (.iconst 3, 1) := by decide +kernel
theorem dX9_dark_30 : decode cX9_dark 30 = .ok (.invokestatic 68, 3) := by decide +kernel
theorem dX9_dark_33 : decode cX9_dark 33 = .ok (.aload_n 0, 1) := by decide +kernel
theorem dX9_dark_34 : decode cX9_dark 34 = .ok (.getfield 25, 3) := by decide +kernel
theorem dX9_dark_37 : decode cX9_dark 37 = .ok (.aload_n 0, 1) := by decide +kernel
theorem dX9_dark_38 : decode cX9_dark 38 = .ok (.getfield 12, 3) := by decide +kernel
theorem dX9_dark_41 : decode cX9_dark 41 = .ok (.invokevirtual 76, 3) := by decide +kernel
theorem dX9_dark_44 : decode cX9_dark 44 = .ok (.aload 4, 2) := by decide +kernel
theorem dX9_dark_46 : decode cX9_dark 46 = .ok (.iload_n 2, 1) := by decide +kernel
theorem dX9_dark_47 : decode cX9_dark 47 = .ok (.iload_n 3, 1) := by decide +kernel
theorem dX9_dark_48 : decode cX9_dark 48 = .ok (.invokevirtual 231, 3) := by decide +kernel
theorem dX9_dark_51 : decode cX9_dark 51 = .ok (.istore 5, 2) := by decide +kernel
theorem dX9_dark_53 : decode cX9_dark 53 = .ok (.aload 4, 2) := by decide +kernel
theorem dX9_dark_55 : decode cX9_dark 55 = .ok (.iload_n 2, 1) := by decide +kernel
theorem dX9_dark_56 : decode cX9_dark 56 = .ok (.iload_n 3, 1) := by decide +kernel
theorem dX9_dark_57 : decode cX9_dark 57 = .ok (.iconst 0, 1) := by decide +kernel
theorem dX9_dark_58 : decode cX9_dark 58 = .ok (.iconst 0, 1) := by decide +kernel
theorem dX9_dark_59 : decode cX9_dark 59 = .ok (.invokevirtual 234, 3) := by decide +kernel
theorem dX9_dark_62 : decode cX9_dark 62 = .ok (.iload 5, 2) := by decide +kernel
theorem dX9_dark_64 : decode cX9_dark 64 = .ok (.ireturn, 1) := by decide +kernel
theorem dX9_make_0 : decode cX9_make 0 = .ok (.aload_n 0, 1) := by decide +kernel
theorem dX9_make_1 : decode cX9_make 1 = .ok (.iload_n 1, 1) := by decide +kernel
theorem dX9_make_2 : decode cX9_make 2 = .ok (.invokevirtual 115, 3) := by decide +kernel
theorem dX9_make_5 : decode cX9_make 5 = .ok (.astore_n 3, 1) := by decide +kernel
theorem dX9_make_6 : decode cX9_make 6 = .ok (.iload_n 2, 1) := by decide +kernel
theorem dX9_make_7 : decode cX9_make 7 = .ok (.invokestatic 222, 3) := by decide +kernel
theorem dX9_make_10 : decode cX9_make 10 = .ok (.iconst 1, 1) := by decide +kernel
theorem dX9_make_11 : decode cX9_make 11 = .ok (.invokestatic 68, 3) := by decide +kernel
theorem dX9_make_14 : decode cX9_make 14 = .ok (.aload_n 3, 1) := by decide +kernel
theorem dX9_make_15 : decode cX9_make 15 = .ok (.getfield 127, 3) := by decide +kernel
theorem dX9_make_18 : decode cX9_make 18 = .ok (.ifCond .le 14, 3) := by decide +kernel
theorem dX9_make_21 : decode cX9_make 21 = .ok (.aload_n 3, 1) := by decide +kernel
theorem dX9_make_22 : decode cX9_make 22 = .ok (.invokevirtual 194, 3) := by decide +kernel
theorem dX9_make_25 : decode cX9_make 25 = .ok (.ifCond .ne 7, 3) := by decide +kernel
theorem dX9_make_28 : decode cX9_make 28 = .ok (.iconst 1, 1) := by decide +kernel
theorem dX9_make_29 : decode cX9_make 29 = .ok (.goto 4, 3) := by decide +kernel
theorem dX9_make_32 : decode cX9_make 32 = .ok (.iconst 0, 1) := by decide +kernel
theorem dX9_make_33 : decode cX9_make 33 = .ok (.iconst 3, 1) := by decide +kernel
theorem dX9_make_34 : decode cX9_make 34 = .ok (.invokestatic 68, 3) := by decide +kernel
theorem dX9_make_37 : decode cX9_make 37 = .ok (.aload_n 0, 1) := by decide +kernel
theorem dX9_make_38 : decode cX9_make 38 = .ok (.aload_n 0, 1) := by decide +kernel
theorem dX9_make_39 : decode cX9_make 39 = .ok (.getfield 32, 3) := by decide +kernel
theorem dX9_make_42 : decode cX9_make 42 = .ok (.aload_n 3, 1) := by decide +kernel
theorem dX9_make_43 : decode cX9_make 43 = .ok (.aload_n 0, 1) := by decide +kernel
theorem dX9_make_44 : decode cX9_make 44 = .ok (.getfield 12, 3) := by decide +kernel
theorem dX9_make_47 : decode cX9_make 47 = .ok (.getfield 80, 3) := by decide +kernel
theorem dX9_make_50 : decode cX9_make 50 = .ok (.invokevirtual 237, 3) := by decide +kernel
theorem dX9_make_53 : decode cX9_make 53 = .ok (.invokevirtual 202, 3) := by decide +kernel
theorem dX9_make_56 : decode cX9_make 56 = .ok (.invokestatic 101, 3) := by decide +kernel
theorem dX9_make_59 : decode cX9_make 59 = .ok (.aload_n 0, 1) := by decide +kernel
theorem dX9_make_60 : decode cX9_make 60 = .ok (.getfield 25, 3) := by decide +kernel
theorem dX9_make_63 : decode cX9_make 63 = .ok (.aload_n 0, 1) := by decide +kernel
theorem dX9_make_64 : decode cX9_make 64 = .ok (.getfield 12, 3) := by decide +kernel
theorem dX9_make_67 : decode cX9_make 67 = .ok (.invokevirtual 76, 3) := by decide +kernel
theorem dX9_make_70 : decode cX9_make 70 = .ok (.aload_n 0, 1) := by decide +kernel
theorem dX9_make_71 : decode cX9_make 71 = .ok (.getfield 32, 3) := by decide +kernel
theorem dX9_make_74 : decode cX9_make 74 = .ok (.aload_n 3, 1) := by decide +kernel
theorem dX9_make_75 : decode cX9_make 75 = .ok (.iload_n 2, 1) := by decide +kernel
theorem dX9_make_76 : decode cX9_make 76 = .ok (.invokevirtual 241, 3) := by decide +kernel
theorem dX9_make_79 : decode cX9_make 79 = .ok (.aload_n 0, 1) := by decide +kernel
theorem dX9_make_80 : decode cX9_make 80 = .ok (.getfield 32, 3) := by decide +kernel
theorem dX9_make_83 : decode cX9_make 83 = .ok (.getfield 245, 3) := by decide +kernel
theorem dX9_make_86 : decode cX9_make 86 = .ok (.ireturn, 1) := by decide +kernel
theorem dX9_phase_0 : decode cX9_phase 0 = .ok (.aload_n 0, 1) := by decide +kernel
theorem dX9_phase_1 : decode cX9_phase 1 = .ok (.iload_n 1, 1) := by decide +kernel
theorem dX9_phase_2 : decode cX9_phase 2 = .ok (.iload_n 2, 1) := by decide +kernel
theorem dX9_phase_3 : decode cX9_phase 3 = .ok (.invokevirtual 159, 3) := by decide +kernel
theorem dX9_phase_6 : decode cX9_phase 6 = .ok (.astore_n 3, 1) := by decide +kernel
theorem dX9_phase_7 : decode cX9_phase 7 = .ok (.aload_n 0, 1) := by decide +kernel
theorem dX9_phase_8 : decode cX9_phase 8 = .ok (.getfield 32, 3) := by decide +kernel
theorem dX9_phase_11 : decode cX9_phase 11 = .ok (.aload_n 3, 1) := by decide +kernel
theorem dX9_phase_12 : decode cX9_phase 12 = .ok (.invokevirtual 248, 3) := by decide +kernel
theorem dX9_phase_15 : decode cX9_phase 15 = .ok (.aload_n 0, 1) := by decide +kernel
theorem dX9_phase_16 : decode cX9_phase 16 = .ok (.getfield 32, 3) := by decide +kernel
theorem dX9_phase_19 : decode cX9_phase 19 = .ok (.getfield 252, 3) := by decide +kernel
theorem dX9_phase_22 : decode cX9_phase 22 = .ok (.iload_n 2, 1) := by decide +kernel
theorem dX9_phase_23 : decode cX9_phase 23 = .ok (.iaload, 1) := by decide +kernel
theorem dX9_phase_24 : decode cX9_phase 24 = .ok (.ireturn, 1) := by decide +kernel
theorem dX9_greenOf_0 : decode cX9_greenOf 0 = .ok (.aload_n 0, 1) := by decide +kernel
theorem dX9_greenOf_1 : decode cX9_greenOf 1 = .ok (.iload_n 1, 1) := by decide +kernel
theorem dX9_greenOf_2 : decode cX9_greenOf 2 = .ok (.iload_n 3, 1) := by decide +kernel
theorem dX9_greenOf_3 : decode cX9_greenOf 3 = .ok (.invokevirtual 159, 3) := by decide +kernel
theorem dX9_greenOf_6 : decode cX9_greenOf 6 = .ok (.astore 5, 2) := by decide +kernel
theorem dX9_greenOf_8 : decode cX9_greenOf 8 = .ok (.iload_n 2, 1) := by decide +kernel
theorem dX9_greenOf_9 : decode cX9_greenOf 9 = .ok (.invokestatic 222, 3) := by decide +kernel
theorem dX9_greenOf_12 : decode cX9_greenOf 12 = .ok (.iconst 1, 1) := by decide +kernel
theorem dX9_greenOf_13 : decode cX9_greenOf 13 = .ok (.invokestatic 68, 3) := by decide +kernel
theorem dX9_greenOf_16 : decode cX9_greenOf 16 = .ok (.aload 5, 2) := by decide +kernel
theorem dX9_greenOf_18 : decode cX9_greenOf 18 = .ok (.iload_n 2, 1) := by decide +kernel
theorem dX9_greenOf_19 : decode cX9_greenOf 19 = .ok (.iload_n 3, 1) := by decide +kernel
theorem dX9_greenOf_20 : decode cX9_greenOf 20 = .ok (.invokevirtual 255, 3) := by decide +kernel
theorem dX9_greenOf_23 : decode cX9_greenOf 23 = .ok (.iconst 5, 1) := by decide +kernel
theorem dX9_greenOf_24 : decode cX9_greenOf 24 = .ok (.invokestatic 68, 3) := by decide +kernel
theorem dX9_greenOf_27 : decode cX9_greenOf 27 = .ok (.iload 4, 2) := by decide +kernel
theorem dX9_greenOf_29 : decode cX9_greenOf 29 = .ok (.ifCond .eq 13, 3) := by decide +kernel
theorem dX9_greenOf_32 : decode cX9_greenOf 32 = .ok (.aload 5, 2) := by decide +kernel
theorem dX9_greenOf_34 : decode cX9_greenOf 34 = .ok (.iload_n 2, 1) := by decide +kernel
theorem dX9_greenOf_35 : decode cX9_greenOf 35 = .ok (.iload_n 3, 1) := by decide +kernel
theorem dX9_greenOf_36 : decode cX9_greenOf 36 = .ok (.invokevirtual 231, 3) := by decide +kernel
theorem dX9_greenOf_39 : decode cX9_greenOf 39 = .ok (.goto 10, 3) := by decide +kernel
theorem dX9_greenOf_42 : decode cX9_greenOf 42 = .ok (.aload 5, 2) := by decide +kernel
theorem dX9_greenOf_44 : decode cX9_greenOf 44 = .ok (.iload_n 2, 1) := by decide +kernel
theorem dX9_greenOf_45 : decode cX9_greenOf 45 = .ok (.iload_n 3, 1) := by decide +kernel
theorem dX9_greenOf_46 : decode cX9_greenOf 46 = .ok (.invokevirtual 258, 3) := by decide +kernel
theorem dX9_greenOf_49 : decode cX9_greenOf 49 = .ok (.ireturn, 1) := by decide +kernel
theorem dX9_shows_0 : decode cX9_shows 0 = .ok (.aload_n 0, 1) := by decide +kernel
theorem dX9_shows_1 : decode cX9_shows 1 = .ok (.iload_n 1, 1) := by decide +kernel
theorem dX9_shows_2 : decode cX9_shows 2 = .ok (.invokevirtual 115, 3) := by decide +kernel
theorem dX9_shows_5 : decode cX9_shows 5 = .ok (.astore 4, 2) := by decide +kernel
theorem dX9_shows_7 : decode cX9_shows 7 = .ok (.iload_n 2, 1) := by decide +kernel
theorem dX9_shows_8 : decode cX9_shows 8 = .ok (.invokestatic 222, 3) := by decide +kernel
theorem dX9_shows_11 : decode cX9_shows 11 = .ok (.iconst 1, 1) := by decide +kernel
theorem dX9_shows_12 : decode cX9_shows 12 = .ok (.invokestatic 68, 3) := by decide +kernel
theorem dX9_shows_15 : decode cX9_shows 15 = .ok (.iload_n 3, 1) := by decide +kernel
theorem dX9_shows_16 : decode cX9_shows 16 = .ok (.iconst 0, 1) := by decide +kernel
theorem dX9_shows_17 : decode cX9_shows 17 = .ok (.aload_n 0, 1) := by decide +kernel
theorem dX9_shows_18 : decode cX9_shows 18 = .ok (.getfield 12, 3) := by decide +kernel
theorem dX9_shows_21 : decode cX9_shows 21 = .ok (.getfield 80, 3) := by decide +kernel
theorem dX9_shows_24 : decode cX9_shows 24 = .ok (.iconst 1, 1) := by decide +kernel
theorem dX9_shows_25 : decode cX9_shows 25 = .ok (.isub, 1) := by decide +kernel
theorem dX9_shows_26 : decode cX9_shows 26 = .ok (.invokestatic 64, 3) := by decide +kernel
theorem dX9_shows_29 : decode cX9_shows 29 = .ok (.iconst 2, 1) := by decide +kernel
theorem dX9_shows_30 : decode cX9_shows 30 = .ok (.invokestatic 68, 3) := by decide +kernel
theorem dX9_shows_33 : decode cX9_shows 33 = .ok (.aload 4, 2) := by decide +kernel
theorem dX9_shows_35 : decode cX9_shows 35 = .ok (.iload_n 2, 1) := by decide +kernel
theorem dX9_shows_36 : decode cX9_shows 36 = .ok (.iload_n 3, 1) := by decide +kernel
theorem dX9_shows_37 : decode cX9_shows 37 = .ok (.aload_n 0, 1) := by decide +kernel
theorem dX9_shows_38 : decode cX9_shows 38 = .ok (.getfield 12, 3) := by decide +kernel
theorem dX9_shows_41 : decode cX9_shows 41 = .ok (.getfield 80, 3) := by decide +kernel
theorem dX9_shows_44 : decode cX9_shows 44 = .ok (.invokevirtual 261, 3) := by decide +kernel
theorem dX9_shows_47 : decode cX9_shows 47 = .ok (.ireturn, 1) := by decide +kernel
theorem dX9_picture_0 : decode cX9_picture 0 = .ok (.aload_n 0, 1) := by decide +kernel
theorem dX9_picture_1 : decode cX9_picture 1 = .ok (.iload_n 1, 1) := by decide +kernel
theorem dX9_picture_2 : decode cX9_picture 2 = .ok (.invokevirtual 115, 3) := by decide +kernel
theorem dX9_picture_5 : decode cX9_picture 5 = .ok (.astore 4, 2) := by decide +kernel
theorem dX9_picture_7 : decode cX9_picture 7 = .ok (.iload_n 2, 1) := by decide +kernel
theorem dX9_picture_8 : decode cX9_picture 8 = .ok (.invokestatic 222, 3) := by decide +kernel
theorem dX9_picture_11 : decode cX9_picture 11 = .ok (.iconst 1, 1) := by decide +kernel
theorem dX9_picture_12 : decode cX9_picture 12 = .ok (.invokestatic 68, 3) := by decide +kernel
theorem dX9_picture_15 : decode cX9_picture 15 = .ok (.aload 4, 2) := by decide +kernel
theorem dX9_picture_17 : decode cX9_picture 17 = .ok (.iload_n 2, 1) := by decide +kernel
theorem dX9_picture_18 : decode cX9_picture 18 = .ok (.iload_n 3, 1) := by decide +kernel
theorem dX9_picture_19 : decode cX9_picture 19 = .ok (.aload_n 0, 1) := by decide +kernel
theorem dX9_picture_20 : decode cX9_picture 20 = .ok (.getfield 12, 3) := by decide +kernel
theorem dX9_picture_23 : decode cX9_picture 23 = .ok (.getfield 80, 3) := by decide +kernel
theorem dX9_picture_26 : decode cX9_picture 26 = .ok (.invokevirtual 264, 3) := by decide +kernel
theorem dX9_picture_29 : decode cX9_picture 29 = .ok (.istore 5, 2) := by decide +kernel
theorem dX9_picture_31 : decode cX9_picture 31 = .ok (.iload 5, 2) := by decide +kernel
theorem dX9_picture_33 : decode cX9_picture 33 = .ok (.iconst (-1), 1) := by decide +kernel
theorem dX9_picture_34 : decode cX9_picture 34 = .ok (.if_icmp .eq 7, 3) := by decide +kernel
theorem dX9_picture_37 : decode cX9_picture 37 = .ok (.iconst 1, 1) := by decide +kernel
theorem dX9_picture_38 : decode cX9_picture 38 = .ok (.goto 4, 3) := by decide +kernel
theorem dX9_picture_41 : decode cX9_picture 41 = .ok (.iconst 0, 1) := by decide +kernel
theorem dX9_picture_42 : decode cX9_picture 42 = .ok (.iconst 5, 1) := by decide +kernel
theorem dX9_picture_43 : decode cX9_picture 43 = .ok (.invokestatic 68, 3) := by decide +kernel
theorem dX9_picture_46 : decode cX9_picture 46 = .ok (.iload 5, 2) := by decide +kernel
theorem dX9_picture_48 : decode cX9_picture 48 = .ok (.ireturn, 1) := by decide +kernel
theorem dX9_refusal_0 : decode cX9_refusal 0 = .ok (.aload_n 0, 1) := by decide +kernel
theorem dX9_refusal_1 : decode cX9_refusal 1 = .ok (.getfield 57, 3) := by decide +kernel
theorem dX9_refusal_4 : decode cX9_refusal 4 = .ok (.ifCond .eq 7, 3) := by decide +kernel
theorem dX9_refusal_7 : decode cX9_refusal 7 = .ok (.iconst 1, 1) := by decide +kernel
theorem dX9_refusal_8 : decode cX9_refusal 8 = .ok (.goto 4, 3) := by decide +kernel
theorem dX9_refusal_11 : decode cX9_refusal 11 = .ok (.iconst 0, 1) := by decide +kernel
theorem dX9_refusal_12 : decode cX9_refusal 12 = .ok (.iconst 5, 1) := by decide +kernel
theorem dX9_refusal_13 : decode cX9_refusal 13 = .ok (.invokestatic 68, 3) := by decide +kernel
theorem dX9_refusal_16 : decode cX9_refusal 16 = .ok (.aload_n 0, 1) := by decide +kernel
theorem dX9_refusal_17 : decode cX9_refusal 17 = .ok (.getfield 57, 3) := by decide +kernel
theorem dX9_refusal_20 : decode cX9_refusal 20 = .ok (.ireturn, 1) := by decide +kernel
theorem dX9_trip_0 : decode cX9_trip 0 = .ok (.iload_n 1, 1) := by decide +kernel
theorem dX9_trip_1 : decode cX9_trip 1 = .ok (.invokestatic 267, 3) := by decide +kernel
theorem dX9_trip_4 : decode cX9_trip 4 = .ok (.ifCond .eq 27, 3) := by decide +kernel
theorem dX9_trip_7 : decode cX9_trip 7 = .ok (.iload_n 2, 1) := by decide +kernel
theorem dX9_trip_8 : decode cX9_trip 8 = .ok (.iconst 0, 1) := by decide +kernel
theorem dX9_trip_9 : decode cX9_trip 9 = .ok (.ldc_w 270, 3) := by decide +kernel
theorem dX9_trip_12 : decode cX9_trip 12 = .ok (.invokestatic 64, 3) := by decide +kernel
theorem dX9_trip_15 : decode cX9_trip 15 = .ok (.ifCond .eq 16, 3) := by decide +kernel
theorem dX9_trip_18 : decode cX9_trip 18 = .ok (.iload_n 3, 1) := by decide +kernel
theorem dX9_trip_19 : decode cX9_trip 19 = .ok (.iconst 0, 1) := by decide +kernel
theorem dX9_trip_20 : decode cX9_trip 20 = .ok (.iconst 2, 1) := by decide +kernel
theorem dX9_trip_21 : decode cX9_trip 21 = .ok (.invokestatic 64, 3) := by decide +kernel
theorem dX9_trip_24 : decode cX9_trip 24 = .ok (.ifCond .eq 7, 3) := by decide +kernel
theorem dX9_trip_27 : decode cX9_trip 27 = .ok (.iconst 1, 1) := by decide +kernel
theorem dX9_trip_28 : decode cX9_trip 28 = .ok (.goto 4, 3) := by decide +kernel
theorem dX9_trip_31 : decode cX9_trip 31 = .ok (.iconst 0, 1) := by decide +kernel
theorem dX9_trip_32 : decode cX9_trip 32 = .ok (.iconst 2, 1) := by decide +kernel
theorem dX9_trip_33 : decode cX9_trip 33 = .ok (.invokestatic 68, 3) := by decide +kernel
theorem dX9_trip_36 : decode cX9_trip 36 = .ok (.aload_n 0, 1) := by decide +kernel
theorem dX9_trip_37 : decode cX9_trip 37 = .ok (.getfield 39, 3) := by decide +kernel
theorem dX9_trip_40 : decode cX9_trip 40 = .ok (.aload_n 0, 1) := by decide +kernel
theorem dX9_trip_41 : decode cX9_trip 41 = .ok (.getfield 12, 3) := by decide +kernel
theorem dX9_trip_44 : decode cX9_trip 44 = .ok (.iload_n 1, 1) := by decide +kernel
theorem dX9_trip_45 : decode cX9_trip 45 = .ok (.invokevirtual 271, 3) := by decide +kernel
theorem dX9_trip_48 : decode cX9_trip 48 = .ok (.iconst 5, 1) := by decide +kernel
theorem dX9_trip_49 : decode cX9_trip 49 = .ok (.invokestatic 68, 3) := by decide +kernel
theorem dX9_trip_52 : decode cX9_trip 52 = .ok (.aload_n 0, 1) := by decide +kernel
theorem dX9_trip_53 : decode cX9_trip 53 = .ok (.getfield 39, 3) := by decide +kernel
theorem dX9_trip_56 : decode cX9_trip 56 = .ok (.aload_n 0, 1) := by decide +kernel
theorem dX9_trip_57 : decode cX9_trip 57 = .ok (.getfield 12, 3) := by decide +kernel
theorem dX9_trip_60 : decode cX9_trip 60 = .ok (.iload_n 1, 1) := by decide +kernel
theorem dX9_trip_61 : decode cX9_trip 61 = .ok (.iload_n 2, 1) := by decide +kernel
theorem dX9_trip_62 : decode cX9_trip 62 = .ok (.iload_n 3, 1) := by decide +kernel
theorem dX9_trip_63 : decode cX9_trip 63 = .ok (.invokevirtual 275, 3) := by decide +kernel
theorem dX9_trip_66 : decode cX9_trip 66 = .ok (.ireturn, 1) := by decide +kernel
theorem dX9_tripAgain_0 : decode cX9_tripAgain 0 = .ok (.iload_n 1, 1) := by decide +kernel
theorem dX9_tripAgain_1 : decode cX9_tripAgain 1 = .ok (.invokestatic 267, 3) := by decide +kernel
theorem dX9_tripAgain_4 : decode cX9_tripAgain 4 = .ok (.ifCond .eq 18, 3) := by decide +kernel
theorem dX9_tripAgain_7 : decode cX9_tripAgain 7 = .ok (.iload_n 2, 1) := by decide +kernel
theorem dX9_tripAgain_8 : decode cX9_tripAgain 8 = .ok (.iconst 0, 1) := by decide +kernel
theorem dX9_tripAgain_9 : decode cX9_tripAgain 9 = .ok (.ldc_w 270, 3) := by decide +kernel
theorem dX9_tripAgain_12 : decode cX9_tripAgain 12 = .ok (.invokestatic 64, 3) := by decide +kernel
theorem dX9_tripAgain_15 : decode cX9_tripAgain 15 = .ok (.ifCond .eq 7, 3) := by decide +kernel
theorem dX9_tripAgain_18 : decode cX9_tripAgain 18 = .ok (.iconst 1, 1) := by decide +kernel
theorem dX9_tripAgain_19 : decode cX9_tripAgain 19 = .ok (.goto 4, 3) := by decide +kernel
theorem dX9_tripAgain_22 : decode cX9_tripAgain 22 = .ok (.iconst 0, 1) := by decide +kernel
theorem dX9_tripAgain_23 : decode cX9_tripAgain 23 = .ok (.iconst 2, 1) := by decide +kernel
theorem dX9_tripAgain_24 : decode cX9_tripAgain 24 = .ok (.invokestatic 68, 3) := by decide +kernel
theorem dX9_tripAgain_27 : decode cX9_tripAgain 27 = .ok (.aload_n 0, 1) := by decide +kernel
theorem dX9_tripAgain_28 : decode cX9_tripAgain 28 = .ok (.getfield 39, 3) := by decide +kernel
theorem dX9_tripAgain_31 : decode cX9_tripAgain 31 = .ok (.aload_n 0, 1) := by decide +kernel
theorem dX9_tripAgain_32 : decode cX9_tripAgain 32 = .ok (.getfield 12, 3) := by decide +kernel
theorem dX9_tripAgain_35 : decode cX9_tripAgain 35 = .ok (.iload_n 1, 1) := by decide +kernel
theorem dX9_tripAgain_36 : decode cX9_tripAgain 36 = .ok (.invokevirtual 271, 3) := by decide +kernel
theorem dX9_tripAgain_39 : decode cX9_tripAgain 39 = .ok (.iconst 5, 1) := by decide +kernel
theorem dX9_tripAgain_40 : decode cX9_tripAgain 40 = .ok (.invokestatic 68, 3) := by decide +kernel
theorem dX9_tripAgain_43 : decode cX9_tripAgain 43 = .ok (.aload_n 0, 1) := by decide +kernel
theorem dX9_tripAgain_44 : decode cX9_tripAgain 44 = .ok (.getfield 39, 3) := by decide +kernel
theorem dX9_tripAgain_47 : decode cX9_tripAgain 47 = .ok (.aload_n 0, 1) := by decide +kernel
theorem dX9_tripAgain_48 : decode cX9_tripAgain 48 = .ok (.getfield 12, 3) := by decide +kernel
theorem dX9_tripAgain_51 : decode cX9_tripAgain 51 = .ok (.iload_n 1, 1) := by decide +kernel
theorem dX9_tripAgain_52 : decode cX9_tripAgain 52 = .ok (.iload_n 2, 1) := by decide +kernel
theorem dX9_tripAgain_53 : decode cX9_tripAgain 53 = .ok (.invokevirtual 279, 3) := by decide +kernel
theorem dX9_tripAgain_56 : decode cX9_tripAgain 56 = .ok (.ireturn, 1) := by decide +kernel
theorem dX9_band_0 : decode cX9_band 0 = .ok (.iload_n 1, 1) := by decide +kernel
theorem dX9_band_1 : decode cX9_band 1 = .ok (.invokestatic 267, 3) := by decide +kernel
theorem dX9_band_4 : decode cX9_band 4 = .ok (.iconst 2, 1) := by decide +kernel
theorem dX9_band_5 : decode cX9_band 5 = .ok (.invokestatic 68, 3) := by decide +kernel
theorem dX9_band_8 : decode cX9_band 8 = .ok (.aload_n 0, 1) := by decide +kernel
theorem dX9_band_9 : decode cX9_band 9 = .ok (.getfield 39, 3) := by decide +kernel
theorem dX9_band_12 : decode cX9_band 12 = .ok (.aload_n 0, 1) := by decide +kernel
theorem dX9_band_13 : decode cX9_band 13 = .ok (.getfield 12, 3) := by decide +kernel
theorem dX9_band_16 : decode cX9_band 16 = .ok (.iload_n 1, 1) := by decide +kernel
theorem dX9_band_17 : decode cX9_band 17 = .ok (.invokevirtual 271, 3) := by decide +kernel
theorem dX9_band_20 : decode cX9_band 20 = .ok (.iconst 5, 1) := by decide +kernel
theorem dX9_band_21 : decode cX9_band 21 = .ok (.invokestatic 68, 3) := by decide +kernel
theorem dX9_band_24 : decode cX9_band 24 = .ok (.aload_n 0, 1) := by decide +kernel
theorem dX9_band_25 : decode cX9_band 25 = .ok (.getfield 39, 3) := by decide +kernel
theorem dX9_band_28 : decode cX9_band 28 = .ok (.aload_n 0, 1) := by decide +kernel
theorem dX9_band_29 : decode cX9_band 29 = .ok (.getfield 12, 3) := by decide +kernel
theorem dX9_band_32 : decode cX9_band 32 = .ok (.iload_n 1, 1) := by decide +kernel
theorem dX9_band_33 : decode cX9_band 33 = .ok (.invokevirtual 283, 3) := by decide +kernel
theorem dX9_band_36 : decode cX9_band 36 = .ok (.ireturn, 1) := by decide +kernel
theorem dX9_bestOffset_0 : decode cX9_bestOffset 0 = .ok (.aload_n 0, 1) := by decide +kernel
theorem dX9_bestOffset_1 : decode cX9_bestOffset 1 = .ok (.getfield 12, 3) := by decide +kernel
theorem dX9_bestOffset_4 : decode cX9_bestOffset 4 = .ok (.iload_n 1, 1) := by decide +kernel
theorem dX9_bestOffset_5 : decode cX9_bestOffset 5 = .ok (.invokevirtual 287, 3) := by decide +kernel
theorem dX9_bestOffset_8 : decode cX9_bestOffset 8 = .ok (.ifnull 7, 3) := by decide +kernel
theorem dX9_bestOffset_11 : decode cX9_bestOffset 11 = .ok (.iconst 1, 1) := by decide +kernel
theorem dX9_bestOffset_12 : decode cX9_bestOffset 12 = .ok (.goto 4, 3) := by decide +kernel
theorem dX9_bestOffset_15 : decode cX9_bestOffset 15 = .ok (.iconst 0, 1) := by decide +kernel
theorem dX9_bestOffset_16 : decode cX9_bestOffset 16 = .ok (.iconst 1, 1) := by decide +kernel
theorem dX9_bestOffset_17 : decode cX9_bestOffset 17 = .ok (.invokestatic 68, 3) := by decide +kernel
theorem dX9_bestOffset_20 : decode cX9_bestOffset 20 = .ok (.iload_n 2, 1) := by decide +kernel
theorem dX9_bestOffset_21 : decode cX9_bestOffset 21 = .ok (.invokestatic 267, 3) := by decide +kernel
theorem dX9_bestOffset_24 : decode cX9_bestOffset 24 = .ok (.iconst 2, 1) := by decide +kernel
theorem dX9_bestOffset_25 : decode cX9_bestOffset 25 = .ok (.invokestatic 68, 3) := by decide +kernel
theorem dX9_bestOffset_28 : decode cX9_bestOffset 28 = .ok (.aload_n 0, 1) := by decide +kernel
theorem dX9_bestOffset_29 : decode cX9_bestOffset 29 = .ok (.getfield 39, 3) := by decide +kernel
theorem dX9_bestOffset_32 : decode cX9_bestOffset 32 = .ok (.aload_n 0, 1) := by decide +kernel
theorem dX9_bestOffset_33 : decode cX9_bestOffset 33 = .ok (.getfield 12, 3) := by decide +kernel
theorem dX9_bestOffset_36 : decode cX9_bestOffset 36 = .ok (.iload_n 2, 1) := by decide +kernel
theorem dX9_bestOffset_37 : decode cX9_bestOffset 37 = .ok (.invokevirtual 271, 3) := by decide +kernel
theorem dX9_bestOffset_40 : decode cX9_bestOffset 40 = .ok (.iconst 5, 1) := by decide +kernel
theorem dX9_bestOffset_41 : decode cX9_bestOffset 41 = .ok (.invokestatic 68, 3) := by decide +kernel
theorem dX9_bestOffset_44 : decode cX9_bestOffset 44 = .ok (.aload_n 0, 1) := by decide +kernel
theorem dX9_bestOffset_45 : decode cX9_bestOffset 45 = .ok (.getfield 39, 3) := by decide +kernel
theorem dX9_bestOffset_48 : decode cX9_bestOffset 48 = .ok (.aload_n 0, 1) := by decide +kernel
theorem dX9_bestOffset_49 : decode cX9_bestOffset 49 = .ok (.getfield 12, 3) := by decide +kernel
theorem dX9_bestOffset_52 : decode cX9_bestOffset 52 = .ok (.iload_n 1, 1) := by decide +kernel
theorem dX9_bestOffset_53 : decode cX9_bestOffset 53 = .ok (.iload_n 2, 1) := by decide +kernel
theorem dX9_bestOffset_54 : decode cX9_bestOffset 54 = .ok (.invokevirtual 290, 3) := by decide +kernel
theorem dX9_bestOffset_57 : decode cX9_bestOffset 57 = .ok (.ireturn, 1) := by decide +kernel
theorem dX9_share_0 : decode cX9_share 0 = .ok (.iload_n 1, 1) := by decide +kernel
theorem dX9_share_1 : decode cX9_share 1 = .ok (.invokestatic 267, 3) := by decide +kernel
theorem dX9_share_4 : decode cX9_share 4 = .ok (.iconst 2, 1) := by decide +kernel
theorem dX9_share_5 : decode cX9_share 5 = .ok (.invokestatic 68, 3) := by decide +kernel
theorem dX9_share_8 : decode cX9_share 8 = .ok (.aload_n 0, 1) := by decide +kernel
theorem dX9_share_9 : decode cX9_share 9 = .ok (.getfield 39, 3) := by decide +kernel
theorem dX9_share_12 : decode cX9_share 12 = .ok (.aload_n 0, 1) := by decide +kernel
theorem dX9_share_13 : decode cX9_share 13 = .ok (.getfield 12, 3) := by decide +kernel
theorem dX9_share_16 : decode cX9_share 16 = .ok (.iload_n 1, 1) := by decide +kernel
theorem dX9_share_17 : decode cX9_share 17 = .ok (.invokevirtual 271, 3) := by decide +kernel
theorem dX9_share_20 : decode cX9_share 20 = .ok (.iconst 5, 1) := by decide +kernel
theorem dX9_share_21 : decode cX9_share 21 = .ok (.invokestatic 68, 3) := by decide +kernel
theorem dX9_share_24 : decode cX9_share 24 = .ok (.aload_n 0, 1) := by decide +kernel
theorem dX9_share_25 : decode cX9_share 25 = .ok (.getfield 39, 3) := by decide +kernel
theorem dX9_share_28 : decode cX9_share 28 = .ok (.aload_n 0, 1) := by decide +kernel
theorem dX9_share_29 : decode cX9_share 29 = .ok (.getfield 12, 3) := by decide +kernel
theorem dX9_share_32 : decode cX9_share 32 = .ok (.iload_n 1, 1) := by decide +kernel
theorem dX9_share_33 : decode cX9_share 33 = .ok (.invokevirtual 283, 3) := by decide +kernel
theorem dX9_share_36 : decode cX9_share 36 = .ok (.i2f, 1) := by decide +kernel
theorem dX9_share_37 : decode cX9_share 37 = .ok (.aload_n 0, 1) := by decide +kernel
theorem dX9_share_38 : decode cX9_share 38 = .ok (.getfield 12, 3) := by decide +kernel
theorem dX9_share_41 : decode cX9_share 41 = .ok (.getfield 80, 3) := by decide +kernel
theorem dX9_share_44 : decode cX9_share 44 = .ok (.i2f, 1) := by decide +kernel
theorem dX9_share_45 : decode cX9_share 45 = .ok (.fdiv, 1) := by decide +kernel
theorem dX9_share_46 : decode cX9_share 46 = .ok (.freturn, 1) := by decide +kernel
theorem dX9_press_0 : decode cX9_press 0 = .ok (.aload_n 0, 1) := by decide +kernel
theorem dX9_press_1 : decode cX9_press 1 = .ok (.iload_n 1, 1) := by decide +kernel
theorem dX9_press_2 : decode cX9_press 2 = .ok (.iload_n 2, 1) := by decide +kernel
theorem dX9_press_3 : decode cX9_press 3 = .ok (.invokevirtual 293, 3) := by decide +kernel
theorem dX9_press_6 : decode cX9_press 6 = .ok (.invokestatic 101, 3) := by decide +kernel
theorem dX9_press_9 : decode cX9_press 9 = .ok (.aload_n 0, 1) := by decide +kernel
theorem dX9_press_10 : decode cX9_press 10 = .ok (.getfield 25, 3) := by decide +kernel
theorem dX9_press_13 : decode cX9_press 13 = .ok (.aload_n 0, 1) := by decide +kernel
theorem dX9_press_14 : decode cX9_press 14 = .ok (.getfield 12, 3) := by decide +kernel
theorem dX9_press_17 : decode cX9_press 17 = .ok (.invokevirtual 76, 3) := by decide +kernel
theorem dX9_press_20 : decode cX9_press 20 = .ok (.aload_n 0, 1) := by decide +kernel
theorem dX9_press_21 : decode cX9_press 21 = .ok (.iload_n 1, 1) := by decide +kernel
theorem dX9_press_22 : decode cX9_press 22 = .ok (.iload_n 2, 1) := by decide +kernel
theorem dX9_press_23 : decode cX9_press 23 = .ok (.invokevirtual 296, 3) := by decide +kernel
theorem dX9_press_26 : decode cX9_press 26 = .ok (.ireturn, 1) := by decide +kernel
theorem dX9_run_0 : decode cX9_run 0 = .ok (.aload_n 0, 1) := by decide +kernel
theorem dX9_run_1 : decode cX9_run 1 = .ok (.iload_n 1, 1) := by decide +kernel
theorem dX9_run_2 : decode cX9_run 2 = .ok (.invokevirtual 299, 3) := by decide +kernel
theorem dX9_run_5 : decode cX9_run 5 = .ok (.invokestatic 101, 3) := by decide +kernel
theorem dX9_run_8 : decode cX9_run 8 = .ok (.aload_n 0, 1) := by decide +kernel
theorem dX9_run_9 : decode cX9_run 9 = .ok (.getfield 25, 3) := by decide +kernel
theorem dX9_run_12 : decode cX9_run 12 = .ok (.aload_n 0, 1) := by decide +kernel
theorem dX9_run_13 : decode cX9_run 13 = .ok (.getfield 12, 3) := by decide +kernel
theorem dX9_run_16 : decode cX9_run 16 = .ok (.invokevirtual 76, 3) := by decide +kernel
theorem dX9_run_19 : decode cX9_run 19 = .ok (.aload_n 0, 1) := by decide +kernel
theorem dX9_run_20 : decode cX9_run 20 = .ok (.getfield 12, 3) := by decide +kernel
theorem dX9_run_23 : decode cX9_run 23 = .ok (.iload_n 1, 1) := by decide +kernel
theorem dX9_run_24 : decode cX9_run 24 = .ok (.invokevirtual 302, 3) := by decide +kernel
theorem dX9_run_27 : decode cX9_run 27 = .ok (.ireturn, 1) := by decide +kernel
theorem dX9_soonest_0 : decode cX9_soonest 0 = .ok (.aload_n 0, 1) := by decide +kernel
theorem dX9_soonest_1 : decode cX9_soonest 1 = .ok (.iload_n 1, 1) := by decide +kernel
theorem dX9_soonest_2 : decode cX9_soonest 2 = .ok (.invokevirtual 115, 3) := by decide +kernel
theorem dX9_soonest_5 : decode cX9_soonest 5 = .ok (.astore_n 2, 1) := by decide +kernel
theorem dX9_soonest_6 : decode cX9_soonest 6 = .ok (.aload_n 2, 1) := by decide +kernel
theorem dX9_soonest_7 : decode cX9_soonest 7 = .ok (.aload_n 0, 1) := by decide +kernel
theorem dX9_soonest_8 : decode cX9_soonest 8 = .ok (.getfield 12, 3) := by decide +kernel
theorem dX9_soonest_11 : decode cX9_soonest 11 = .ok (.getfield 130, 3) := by decide +kernel
theorem dX9_soonest_14 : decode cX9_soonest 14 = .ok (.aload_n 0, 1) := by decide +kernel
theorem dX9_soonest_15 : decode cX9_soonest 15 = .ok (.getfield 12, 3) := by decide +kernel
theorem dX9_soonest_18 : decode cX9_soonest 18 = .ok (.getfield 80, 3) := by decide +kernel
theorem dX9_soonest_21 : decode cX9_soonest 21 = .ok (.invokevirtual 305, 3) := by decide +kernel
theorem dX9_soonest_24 : decode cX9_soonest 24 = .ok (.istore_n 3, 1) := by decide +kernel
theorem dX9_soonest_25 : decode cX9_soonest 25 = .ok (.iload_n 3, 1) := by decide +kernel
theorem dX9_soonest_26 : decode cX9_soonest 26 = .ok (.iconst (-1), 1) := by decide +kernel
theorem dX9_soonest_27 : decode cX9_soonest 27 = .ok (.if_icmp .eq 7, 3) := by decide +kernel
theorem dX9_soonest_30 : decode cX9_soonest 30 = .ok (.iconst 1, 1) := by decide +kernel
theorem dX9_soonest_31 : decode cX9_soonest 31 = .ok (.goto 4, 3) := by decide +kernel
theorem dX9_soonest_34 : decode cX9_soonest 34 = .ok (.iconst 0, 1) := by decide +kernel
theorem dX9_soonest_35 : decode cX9_soonest 35 = .ok (.iconst 5, 1) := by decide +kernel
theorem dX9_soonest_36 : decode cX9_soonest 36 = .ok (.invokestatic 68, 3) := by decide +kernel
theorem dX9_soonest_39 : decode cX9_soonest 39 = .ok (.iload_n 3, 1) := by decide +kernel
theorem dX9_soonest_40 : decode cX9_soonest 40 = .ok (.ireturn, 1) := by decide +kernel
theorem dX9_change_0 : decode cX9_change 0 = .ok (.aload_n 0, 1) := by decide +kernel
theorem dX9_change_1 : decode cX9_change 1 = .ok (.iload_n 1, 1) := by decide +kernel
theorem dX9_change_2 : decode cX9_change 2 = .ok (.invokevirtual 308, 3) := by decide +kernel
theorem dX9_change_5 : decode cX9_change 5 = .ok (.invokestatic 101, 3) := by decide +kernel
theorem dX9_change_8 : decode cX9_change 8 = .ok (.aload_n 0, 1) := by decide +kernel
theorem dX9_change_9 : decode cX9_change 9 = .ok (.getfield 25, 3) := by decide +kernel
theorem dX9_change_12 : decode cX9_change 12 = .ok (.aload_n 0, 1) := by decide +kernel
theorem dX9_change_13 : decode cX9_change 13 = .ok (.getfield 12, 3) := by decide +kernel
theorem dX9_change_16 : decode cX9_change 16 = .ok (.invokevirtual 76, 3) := by decide +kernel
theorem dX9_change_19 : decode cX9_change 19 = .ok (.aload_n 0, 1) := by decide +kernel
theorem dX9_change_20 : decode cX9_change 20 = .ok (.iload_n 1, 1) := by decide +kernel
theorem dX9_change_21 : decode cX9_change 21 = .ok (.invokevirtual 311, 3) := by decide +kernel
theorem dX9_change_24 : decode cX9_change 24 = .ok (.ireturn, 1) := by decide +kernel
theorem dX9_mount_0 : decode cX9_mount 0 = .ok (.aload_n 0, 1) := by decide +kernel
theorem dX9_mount_1 : decode cX9_mount 1 = .ok (.iload_n 1, 1) := by decide +kernel
theorem dX9_mount_2 : decode cX9_mount 2 = .ok (.iload_n 2, 1) := by decide +kernel
theorem dX9_mount_3 : decode cX9_mount 3 = .ok (.invokevirtual 159, 3) := by decide +kernel
theorem dX9_mount_6 : decode cX9_mount 6 = .ok (.astore 5, 2) := by decide +kernel
theorem dX9_mount_8 : decode cX9_mount 8 = .ok (.iload_n 3, 1) := by decide +kernel
theorem dX9_mount_9 : decode cX9_mount 9 = .ok (.iconst 0, 1) := by decide +kernel
theorem dX9_mount_10 : decode cX9_mount 10 = .ok (.iconst 2, 1) := by decide +kernel
theorem dX9_mount_11 : decode cX9_mount 11 = .ok (.invokestatic 64, 3) := by decide +kernel
theorem dX9_mount_14 : decode cX9_mount 14 = .ok (.iconst 1, 1) := by decide +kernel
theorem dX9_mount_15 : decode cX9_mount 15 = .ok (.invokestatic 68, 3) := by decide +kernel
theorem dX9_mount_18 : decode cX9_mount 18 = .ok (.iload 4, 2) := by decide +kernel
theorem dX9_mount_20 : decode cX9_mount 20 = .ok (.iconst 0, 1) := by decide +kernel
theorem dX9_mount_21 : decode cX9_mount 21 = .ok (.iconst 3, 1) := by decide +kernel
theorem dX9_mount_22 : decode cX9_mount 22 = .ok (.invokestatic 64, 3) := by decide +kernel
theorem dX9_mount_25 : decode cX9_mount 25 = .ok (.iconst 2, 1) := by decide +kernel
theorem dX9_mount_26 : decode cX9_mount 26 = .ok (.invokestatic 68, 3) := by decide +kernel
theorem dX9_mount_29 : decode cX9_mount 29 = .ok (.aload_n 0, 1) := by decide +kernel
theorem dX9_mount_30 : decode cX9_mount 30 = .ok (.aload 5, 2) := by decide +kernel
theorem dX9_mount_32 : decode cX9_mount 32 = .ok (.iload_n 2, 1) := by decide +kernel
theorem dX9_mount_33 : decode cX9_mount 33 = .ok (.iload 4, 2) := by decide +kernel
theorem dX9_mount_35 : decode cX9_mount 35 = .ok (.invokevirtual 314, 3) := by decide +kernel
theorem dX9_mount_38 : decode cX9_mount 38 = .ok (.ifCond .eq 7, 3) := by decide +kernel
theorem dX9_mount_41 : decode cX9_mount 41 = .ok (.iconst 0, 1) := by decide +kernel
theorem dX9_mount_42 : decode cX9_mount 42 = .ok (.goto 5, 3) := by decide +kernel
theorem dX9_mount_45 : decode cX9_mount 45 = .ok (.bipush 8, 2) := by decide +kernel
theorem dX9_mount_47 : decode cX9_mount 47 = .ok (.invokevirtual 202, 3) := by decide +kernel
theorem dX9_mount_50 : decode cX9_mount 50 = .ok (.invokestatic 101, 3) := by decide +kernel
theorem dX9_mount_53 : decode cX9_mount 53 = .ok (.aload_n 0, 1) := by decide +kernel
theorem dX9_mount_54 : decode cX9_mount 54 = .ok (.getfield 25, 3) := by decide +kernel
theorem dX9_mount_57 : decode cX9_mount 57 = .ok (.aload_n 0, 1) := by decide +kernel
theorem dX9_mount_58 : decode cX9_mount 58 = .ok (.getfield 12, 3) := by decide +kernel
theorem dX9_mount_61 : decode cX9_mount 61 = .ok (.invokevirtual 76, 3) := by decide +kernel
theorem dX9_mount_64 : decode cX9_mount 64 = .ok (.aload 5, 2) := by decide +kernel
theorem dX9_mount_66 : decode cX9_mount 66 = .ok (.getfield 317, 3) := by decide +kernel
theorem dX9_mount_69 : decode cX9_mount 69 = .ok (.iload_n 2, 1) := by decide +kernel
theorem dX9_mount_70 : decode cX9_mount 70 = .ok (.iconst 3, 1) := by decide +kernel
theorem dX9_mount_71 : decode cX9_mount 71 = .ok (.imul, 1) := by decide +kernel
theorem dX9_mount_72 : decode cX9_mount 72 = .ok (.iload_n 3, 1) := by decide +kernel
theorem dX9_mount_73 : decode cX9_mount 73 = .ok (.iadd, 1) := by decide +kernel
theorem dX9_mount_74 : decode cX9_mount 74 = .ok (.iload 4, 2) := by decide +kernel
theorem dX9_mount_76 : decode cX9_mount 76 = .ok (.iastore, 1) := by decide +kernel
theorem dX9_mount_77 : decode cX9_mount 77 = .ok (.aload 5, 2) := by decide +kernel
theorem dX9_mount_79 : decode cX9_mount 79 = .ok (.iload_n 2, 1) := by decide +kernel
theorem dX9_mount_80 : decode cX9_mount 80 = .ok (.invokevirtual 185, 3) := by decide +kernel
theorem dX9_mount_83 : decode cX9_mount 83 = .ok (.ireturn, 1) := by decide +kernel
theorem dX9_account_0 : decode cX9_account 0 = .ok (.iload_n 1, 1) := by decide +kernel
theorem dX9_account_1 : decode cX9_account 1 = .ok (.iconst 0, 1) := by decide +kernel
theorem dX9_account_2 : decode cX9_account 2 = .ok (.bipush 14, 2) := by decide +kernel
theorem dX9_account_4 : decode cX9_account 4 = .ok (.invokestatic 64, 3) := by decide +kernel
theorem dX9_account_7 : decode cX9_account 7 = .ok (.iconst 2, 1) := by decide +kernel
theorem dX9_account_8 : decode cX9_account 8 = .ok (.invokestatic 68, 3) := by decide +kernel
theorem dX9_account_11 : decode cX9_account 11 = .ok (.iload_n 1, 1) := by decide +kernel
theorem dX9_account_12 : decode cX9_account 12 = .ok (.tableswitch 124 0 14 #[76, 124, 124, 124, 84, 124, 124, 124, 124, 124, 124, 92, 100, 108, 116], 76) := by decide +kernel
theorem dX9_account_88 : decode cX9_account 88 = .ok (.aload_n 0, 1) := by decide +kernel
theorem dX9_account_89 : decode cX9_account 89 = .ok (.getfield 12, 3) := by decide +kernel
theorem dX9_account_92 : decode cX9_account 92 = .ok (.getfield 90, 3) := by decide +kernel
theorem dX9_account_95 : decode cX9_account 95 = .ok (.ireturn, 1) := by decide +kernel
theorem dX9_account_96 : decode cX9_account 96 = .ok (.aload_n 0, 1) := by decide +kernel
theorem dX9_account_97 : decode cX9_account 97 = .ok (.getfield 12, 3) := by decide +kernel
theorem dX9_account_100 : decode cX9_account 100 = .ok (.getfield 130, 3) := by decide +kernel
theorem dX9_account_103 : decode cX9_account 103 = .ok (.ireturn, 1) := by decide +kernel
theorem dX9_account_104 : decode cX9_account 104 = .ok (.aload_n 0, 1) := by decide +kernel
theorem dX9_account_105 : decode cX9_account 105 = .ok (.getfield 12, 3) := by decide +kernel
theorem dX9_account_108 : decode cX9_account 108 = .ok (.getfield 80, 3) := by decide +kernel
theorem dX9_account_111 : decode cX9_account 111 = .ok (.ireturn, 1) := by decide +kernel
theorem dX9_account_112 : decode cX9_account 112 = .ok (.aload_n 0, 1) := by decide +kernel
theorem dX9_account_113 : decode cX9_account 113 = .ok (.getfield 12, 3) := by decide +kernel
theorem dX9_account_116 : decode cX9_account 116 = .ok (.getfield 83, 3) := by decide +kernel
theorem dX9_account_119 : decode cX9_account 119 = .ok (.ireturn, 1) := by decide +kernel
theorem dX9_account_120 : decode cX9_account 120 = .ok (.aload_n 0, 1) := by decide +kernel
theorem dX9_account_121 : decode cX9_account 121 = .ok (.getfield 25, 3) := by decide +kernel
theorem dX9_account_124 : decode cX9_account 124 = .ok (.getfield 320, 3) := by decide +kernel
theorem dX9_account_127 : decode cX9_account 127 = .ok (.ireturn, 1) := by decide +kernel
theorem dX9_account_128 : decode cX9_account 128 = .ok (.aload_n 0, 1) := by decide +kernel
theorem dX9_account_129 : decode cX9_account 129 = .ok (.getfield 46, 3) := by decide +kernel
theorem dX9_account_132 : decode cX9_account 132 = .ok (.getfield 321, 3) := by decide +kernel
theorem dX9_account_135 : decode cX9_account 135 = .ok (.ireturn, 1) := by decide +kernel
theorem dX9_account_136 : decode cX9_account 136 = .ok (.aload_n 0, 1) := by decide +kernel
theorem dX9_account_137 : decode cX9_account 137 = .ok (.getfield 12, 3) := by decide +kernel
theorem dX9_account_140 : decode cX9_account 140 = .ok (.iload_n 1, 1) := by decide +kernel
theorem dX9_account_141 : decode cX9_account 141 = .ok (.invokevirtual 324, 3) := by decide +kernel
theorem dX9_account_144 : decode cX9_account 144 = .ok (.ireturn, 1) := by decide +kernel
theorem dX9_litShare_0 : decode cX9_litShare 0 = .ok (.aload_n 0, 1) := by decide +kernel
theorem dX9_litShare_1 : decode cX9_litShare 1 = .ok (.iload_n 1, 1) := by decide +kernel
theorem dX9_litShare_2 : decode cX9_litShare 2 = .ok (.iload_n 2, 1) := by decide +kernel
theorem dX9_litShare_3 : decode cX9_litShare 3 = .ok (.invokevirtual 159, 3) := by decide +kernel
theorem dX9_litShare_6 : decode cX9_litShare 6 = .ok (.astore_n 3, 1) := by decide +kernel
theorem dX9_litShare_7 : decode cX9_litShare 7 = .ok (.aload_n 0, 1) := by decide +kernel
theorem dX9_litShare_8 : decode cX9_litShare 8 = .ok (.getfield 12, 3) := by decide +kernel
theorem dX9_litShare_11 : decode cX9_litShare 11 = .ok (.getfield 130, 3) := by decide +kernel
theorem dX9_litShare_14 : decode cX9_litShare 14 = .ok (.iconst 1, 1) := by decide +kernel
theorem dX9_litShare_15 : decode cX9_litShare 15 = .ok (.if_icmp .ge 14, 3) := by decide +kernel
theorem dX9_litShare_18 : decode cX9_litShare 18 = .ok (.new 327, 3) := by decide +kernel
theorem dX9_litShare_21 : decode cX9_litShare 21 = .ok (.dup, 1) := by decide +kernel
theorem dX9_litShare_22 : decode cX9_litShare 22 = .ok (.ldc_w 329, 3) := by decide +kernel
theorem dX9_litShare_25 : decode cX9_litShare 25 = .ok (.invokespecial 331, 3) := by decide +kernel
theorem dX9_litShare_28 : decode cX9_litShare 28 = .ok (.athrow, 1) := by decide +kernel
theorem dX9_litShare_29 : decode cX9_litShare 29 = .ok (.aload_n 3, 1) := by decide +kernel
theorem dX9_litShare_30 : decode cX9_litShare 30 = .ok (.getfield 176, 3) := by decide +kernel
theorem dX9_litShare_33 : decode cX9_litShare 33 = .ok (.iload_n 2, 1) := by decide +kernel
theorem dX9_litShare_34 : decode cX9_litShare 34 = .ok (.iaload, 1) := by decide +kernel
theorem dX9_litShare_35 : decode cX9_litShare 35 = .ok (.i2f, 1) := by decide +kernel
theorem dX9_litShare_36 : decode cX9_litShare 36 = .ok (.aload_n 0, 1) := by decide +kernel
theorem dX9_litShare_37 : decode cX9_litShare 37 = .ok (.getfield 12, 3) := by decide +kernel
theorem dX9_litShare_40 : decode cX9_litShare 40 = .ok (.getfield 130, 3) := by decide +kernel
theorem dX9_litShare_43 : decode cX9_litShare 43 = .ok (.i2f, 1) := by decide +kernel
theorem dX9_litShare_44 : decode cX9_litShare 44 = .ok (.fdiv, 1) := by decide +kernel
theorem dX9_litShare_45 : decode cX9_litShare 45 = .ok (.invokestatic 332, 3) := by decide +kernel
theorem dX9_litShare_48 : decode cX9_litShare 48 = .ok (.ireturn, 1) := by decide +kernel
theorem dX9_meanWait_0 : decode cX9_meanWait 0 = .ok (.aload_n 0, 1) := by decide +kernel
theorem dX9_meanWait_1 : decode cX9_meanWait 1 = .ok (.getfield 12, 3) := by decide +kernel
theorem dX9_meanWait_4 : decode cX9_meanWait 4 = .ok (.bipush 6, 2) := by decide +kernel
theorem dX9_meanWait_6 : decode cX9_meanWait 6 = .ok (.invokevirtual 324, 3) := by decide +kernel
theorem dX9_meanWait_9 : decode cX9_meanWait 9 = .ok (.istore_n 1, 1) := by decide +kernel
theorem dX9_meanWait_10 : decode cX9_meanWait 10 = .ok (.iload_n 1, 1) := by decide +kernel
theorem dX9_meanWait_11 : decode cX9_meanWait 11 = .ok (.iconst 1, 1) := by decide +kernel
theorem dX9_meanWait_12 : decode cX9_meanWait 12 = .ok (.if_icmp .ge 14, 3) := by decide +kernel
theorem dX9_meanWait_15 : decode cX9_meanWait 15 = .ok (.new 327, 3) := by decide +kernel
theorem dX9_meanWait_18 : decode cX9_meanWait 18 = .ok (.dup, 1) := by decide +kernel
theorem dX9_meanWait_19 : decode cX9_meanWait 19 = .ok (.ldc_w 336, 3) := by decide +kernel
theorem dX9_meanWait_22 : decode cX9_meanWait 22 = .ok (.invokespecial 331, 3) := by decide +kernel
theorem dX9_meanWait_25 : decode cX9_meanWait 25 = .ok (.athrow, 1) := by decide +kernel
theorem dX9_meanWait_26 : decode cX9_meanWait 26 = .ok (.aload_n 0, 1) := by decide +kernel
theorem dX9_meanWait_27 : decode cX9_meanWait 27 = .ok (.getfield 12, 3) := by decide +kernel
theorem dX9_meanWait_30 : decode cX9_meanWait 30 = .ok (.bipush 8, 2) := by decide +kernel
theorem dX9_meanWait_32 : decode cX9_meanWait 32 = .ok (.invokevirtual 324, 3) := by decide +kernel
theorem dX9_meanWait_35 : decode cX9_meanWait 35 = .ok (.i2d, 1) := by decide +kernel
theorem dX9_meanWait_36 : decode cX9_meanWait 36 = .ok (.iload_n 1, 1) := by decide +kernel
theorem dX9_meanWait_37 : decode cX9_meanWait 37 = .ok (.i2d, 1) := by decide +kernel
theorem dX9_meanWait_38 : decode cX9_meanWait 38 = .ok (.ddiv, 1) := by decide +kernel
theorem dX9_meanWait_39 : decode cX9_meanWait 39 = .ok (.dreturn, 1) := by decide +kernel
theorem dX9_append_0 : decode cX9_append 0 = .ok (.iconst 0, 1) := by decide +kernel
theorem dX9_append_1 : decode cX9_append 1 = .ok (.istore_n 2, 1) := by decide +kernel
theorem dX9_append_2 : decode cX9_append 2 = .ok (.bipush 24, 2) := by decide +kernel
theorem dX9_append_4 : decode cX9_append 4 = .ok (.istore_n 3, 1) := by decide +kernel
theorem dX9_append_5 : decode cX9_append 5 = .ok (.iload_n 3, 1) := by decide +kernel
theorem dX9_append_6 : decode cX9_append 6 = .ok (.ifCond .lt 57, 3) := by decide +kernel
theorem dX9_append_9 : decode cX9_append 9 = .ok (.iload_n 1, 1) := by decide +kernel
theorem dX9_append_10 : decode cX9_append 10 = .ok (.iload_n 3, 1) := by decide +kernel
theorem dX9_append_11 : decode cX9_append 11 = .ok (.iushr, 1) := by decide +kernel
theorem dX9_append_12 : decode cX9_append 12 = .ok (.sipush 255, 3) := by decide +kernel
theorem dX9_append_15 : decode cX9_append 15 = .ok (.iand, 1) := by decide +kernel
theorem dX9_append_16 : decode cX9_append 16 = .ok (.istore 4, 2) := by decide +kernel
theorem dX9_append_18 : decode cX9_append 18 = .ok (.iload 4, 2) := by decide +kernel
theorem dX9_append_20 : decode cX9_append 20 = .ok (.ifCond .eq 15, 3) := by decide +kernel
theorem dX9_append_23 : decode cX9_append 23 = .ok (.iload 4, 2) := by decide +kernel
theorem dX9_append_25 : decode cX9_append 25 = .ok (.bipush 33, 2) := by decide +kernel
theorem dX9_append_27 : decode cX9_append 27 = .ok (.bipush 126, 2) := by decide +kernel
theorem dX9_append_29 : decode cX9_append 29 = .ok (.invokestatic 64, 3) := by decide +kernel
theorem dX9_append_32 : decode cX9_append 32 = .ok (.ifCond .eq 7, 3) := by decide +kernel
theorem dX9_append_35 : decode cX9_append 35 = .ok (.iconst 1, 1) := by decide +kernel
theorem dX9_append_36 : decode cX9_append 36 = .ok (.goto 4, 3) := by decide +kernel
theorem dX9_append_39 : decode cX9_append 39 = .ok (.iconst 0, 1) := by decide +kernel
theorem dX9_append_40 : decode cX9_append 40 = .ok (.iconst 2, 1) := by decide +kernel
theorem dX9_append_41 : decode cX9_append 41 = .ok (.invokestatic 68, 3) := by decide +kernel
theorem dX9_append_44 : decode cX9_append 44 = .ok (.iload_n 2, 1) := by decide +kernel
theorem dX9_append_45 : decode cX9_append 45 = .ok (.iload 4, 2) := by decide +kernel
theorem dX9_append_47 : decode cX9_append 47 = .ok (.ifCond .ne 7, 3) := by decide +kernel
theorem dX9_append_50 : decode cX9_append 50 = .ok (.iconst 0, 1) := by decide +kernel
theorem dX9_append_51 : decode cX9_append 51 = .ok (.goto 4, 3) := by decide +kernel
theorem dX9_append_54 : decode cX9_append 54 = .ok (.iconst 1, 1) := by decide +kernel
theorem dX9_append_55 : decode cX9_append 55 = .ok (.iadd, 1) := by decide +kernel
theorem dX9_append_56 : decode cX9_append 56 = .ok (.istore_n 2, 1) := by decide +kernel
theorem dX9_append_57 : decode cX9_append 57 = .ok (.iinc 3 (-8), 3) := by decide +kernel
theorem dX9_append_60 : decode cX9_append 60 = .ok (.goto (-55), 3) := by decide +kernel
theorem dX9_append_63 : decode cX9_append 63 = .ok (.aload_n 0, 1) := by decide +kernel
theorem dX9_append_64 : decode cX9_append 64 = .ok (.getfield 46, 3) := by decide +kernel
theorem dX9_append_67 : decode cX9_append 67 = .ok (.getfield 321, 3) := by decide +kernel
theorem dX9_append_70 : decode cX9_append 70 = .ok (.iload_n 2, 1) := by decide +kernel
theorem dX9_append_71 : decode cX9_append 71 = .ok (.iadd, 1) := by decide +kernel
theorem dX9_append_72 : decode cX9_append 72 = .ok (.bipush 60, 2) := by decide +kernel
theorem dX9_append_74 : decode cX9_append 74 = .ok (.if_icmp .gt 7, 3) := by decide +kernel
theorem dX9_append_77 : decode cX9_append 77 = .ok (.iconst 1, 1) := by decide +kernel
theorem dX9_append_78 : decode cX9_append 78 = .ok (.goto 4, 3) := by decide +kernel
theorem dX9_append_81 : decode cX9_append 81 = .ok (.iconst 0, 1) := by decide +kernel
theorem dX9_append_82 : decode cX9_append 82 = .ok (.iconst 3, 1) := by decide +kernel
theorem dX9_append_83 : decode cX9_append 83 = .ok (.invokestatic 68, 3) := by decide +kernel
theorem dX9_append_86 : decode cX9_append 86 = .ok (.bipush 24, 2) := by decide +kernel
theorem dX9_append_88 : decode cX9_append 88 = .ok (.istore_n 3, 1) := by decide +kernel
theorem dX9_append_89 : decode cX9_append 89 = .ok (.iload_n 3, 1) := by decide +kernel
theorem dX9_append_90 : decode cX9_append 90 = .ok (.ifCond .lt 24, 3) := by decide +kernel
theorem dX9_append_93 : decode cX9_append 93 = .ok (.aload_n 0, 1) := by decide +kernel
theorem dX9_append_94 : decode cX9_append 94 = .ok (.getfield 46, 3) := by decide +kernel
theorem dX9_append_97 : decode cX9_append 97 = .ok (.iload_n 1, 1) := by decide +kernel
theorem dX9_append_98 : decode cX9_append 98 = .ok (.iload_n 3, 1) := by decide +kernel
theorem dX9_append_99 : decode cX9_append 99 = .ok (.iushr, 1) := by decide +kernel
theorem dX9_append_100 : decode cX9_append 100 = .ok (.sipush 255, 3) := by decide +kernel
theorem dX9_append_103 : decode cX9_append 103 = .ok (.iand, 1) := by decide +kernel
theorem dX9_append_104 : decode cX9_append 104 = .ok (.i2c, 1) := by decide +kernel
theorem dX9_append_105 : decode cX9_append 105 = .ok (.invokevirtual 338, 3) := by decide +kernel
theorem dX9_append_108 : decode cX9_append 108 = .ok (.iinc 3 (-8), 3) := by decide +kernel
theorem dX9_append_111 : decode cX9_append 111 = .ok (.goto (-22), 3) := by decide +kernel
theorem dX9_append_114 : decode cX9_append 114 = .ok (.aload_n 0, 1) := by decide +kernel
theorem dX9_append_115 : decode cX9_append 115 = .ok (.getfield 46, 3) := by decide +kernel
theorem dX9_append_118 : decode cX9_append 118 = .ok (.getfield 321, 3) := by decide +kernel
theorem dX9_append_121 : decode cX9_append 121 = .ok (.ireturn, 1) := by decide +kernel
theorem dX9_text_0 : decode cX9_text 0 = .ok (.aload_n 0, 1) := by decide +kernel
theorem dX9_text_1 : decode cX9_text 1 = .ok (.aload_n 0, 1) := by decide +kernel
theorem dX9_text_2 : decode cX9_text 2 = .ok (.getfield 46, 3) := by decide +kernel
theorem dX9_text_5 : decode cX9_text 5 = .ok (.invokevirtual 342, 3) := by decide +kernel
theorem dX9_text_8 : decode cX9_text 8 = .ok (.putfield 61, 3) := by decide +kernel
theorem dX9_text_11 : decode cX9_text 11 = .ok (.aload_n 0, 1) := by decide +kernel
theorem dX9_text_12 : decode cX9_text 12 = .ok (.getfield 46, 3) := by decide +kernel
theorem dX9_text_15 : decode cX9_text 15 = .ok (.iconst 0, 1) := by decide +kernel
theorem dX9_text_16 : decode cX9_text 16 = .ok (.putfield 321, 3) := by decide +kernel
theorem dX9_text_19 : decode cX9_text 19 = .ok (.aload_n 0, 1) := by decide +kernel
theorem dX9_text_20 : decode cX9_text 20 = .ok (.getfield 61, 3) := by decide +kernel
theorem dX9_text_23 : decode cX9_text 23 = .ok (.iconst (-1), 1) := by decide +kernel
theorem dX9_text_24 : decode cX9_text 24 = .ok (.if_icmp .ne 7, 3) := by decide +kernel
theorem dX9_text_27 : decode cX9_text 27 = .ok (.iconst 1, 1) := by decide +kernel
theorem dX9_text_28 : decode cX9_text 28 = .ok (.goto 4, 3) := by decide +kernel
theorem dX9_text_31 : decode cX9_text 31 = .ok (.iconst 0, 1) := by decide +kernel
theorem dX9_text_32 : decode cX9_text 32 = .ok (.iconst 2, 1) := by decide +kernel
theorem dX9_text_33 : decode cX9_text 33 = .ok (.invokestatic 68, 3) := by decide +kernel
theorem dX9_text_36 : decode cX9_text 36 = .ok (.aload_n 0, 1) := by decide +kernel
theorem dX9_text_37 : decode cX9_text 37 = .ok (.getfield 16, 3) := by decide +kernel
theorem dX9_text_40 : decode cX9_text 40 = .ok (.aload_n 0, 1) := by decide +kernel
theorem dX9_text_41 : decode cX9_text 41 = .ok (.getfield 12, 3) := by decide +kernel
theorem dX9_text_44 : decode cX9_text 44 = .ok (.invokevirtual 345, 3) := by decide +kernel
theorem dX9_text_47 : decode cX9_text 47 = .ok (.iconst 0, 1) := by decide +kernel
theorem dX9_text_48 : decode cX9_text 48 = .ok (.istore_n 1, 1) := by decide +kernel
theorem dX9_text_49 : decode cX9_text 49 = .ok (.iload_n 1, 1) := by decide +kernel
theorem dX9_text_50 : decode cX9_text 50 = .ok (.aload_n 0, 1) := by decide +kernel
theorem dX9_text_51 : decode cX9_text 51 = .ok (.getfield 46, 3) := by decide +kernel
theorem dX9_text_54 : decode cX9_text 54 = .ok (.getfield 348, 3) := by decide +kernel
theorem dX9_text_57 : decode cX9_text 57 = .ok (.if_icmp .ge 57, 3) := by decide +kernel
theorem dX9_text_60 : decode cX9_text 60 = .ok (.aload_n 0, 1) := by decide +kernel
theorem dX9_text_61 : decode cX9_text 61 = .ok (.iload_n 1, 1) := by decide +kernel
theorem dX9_text_62 : decode cX9_text 62 = .ok (.invokevirtual 349, 3) := by decide +kernel
theorem dX9_text_65 : decode cX9_text 65 = .ok (.ifCond .eq 38, 3) := by decide +kernel
theorem dX9_text_68 : decode cX9_text 68 = .ok (.aload_n 0, 1) := by decide +kernel
theorem dX9_text_69 : decode cX9_text 69 = .ok (.aload_n 0, 1) := by decide +kernel
theorem dX9_text_70 : decode cX9_text 70 = .ok (.getfield 46, 3) := by decide +kernel
theorem dX9_text_73 : decode cX9_text 73 = .ok (.getfield 352, 3) := by decide +kernel
theorem dX9_text_76 : decode cX9_text 76 = .ok (.iload_n 1, 1) := by decide +kernel
theorem dX9_text_77 : decode cX9_text 77 = .ok (.iaload, 1) := by decide +kernel
theorem dX9_text_78 : decode cX9_text 78 = .ok (.putfield 61, 3) := by decide +kernel
theorem dX9_text_81 : decode cX9_text 81 = .ok (.aload_n 0, 1) := by decide +kernel
theorem dX9_text_82 : decode cX9_text 82 = .ok (.getfield 12, 3) := by decide +kernel
theorem dX9_text_85 : decode cX9_text 85 = .ok (.aload_n 0, 1) := by decide +kernel
theorem dX9_text_86 : decode cX9_text 86 = .ok (.getfield 16, 3) := by decide +kernel
theorem dX9_text_89 : decode cX9_text 89 = .ok (.invokevirtual 345, 3) := by decide +kernel
theorem dX9_text_92 : decode cX9_text 92 = .ok (.new 355, 3) := by decide +kernel
theorem dX9_text_95 : decode cX9_text 95 = .ok (.dup, 1) := by decide +kernel
theorem dX9_text_96 : decode cX9_text 96 = .ok (.ldc_w 357, 3) := by decide +kernel
theorem dX9_text_99 : decode cX9_text 99 = .ok (.invokespecial 359, 3) := by decide +kernel
theorem dX9_text_102 : decode cX9_text 102 = .ok (.athrow, 1) := by decide +kernel
theorem dX9_text_103 : decode cX9_text 103 = .ok (.aload_n 0, 1) := by decide +kernel
theorem dX9_text_104 : decode cX9_text 104 = .ok (.iload_n 1, 1) := by decide +kernel
theorem dX9_text_105 : decode cX9_text 105 = .ok (.invokevirtual 360, 3) := by decide +kernel
theorem dX9_text_108 : decode cX9_text 108 = .ok (.iinc 1 1, 3) := by decide +kernel
theorem dX9_text_111 : decode cX9_text 111 = .ok (.goto (-62), 3) := by decide +kernel
theorem dX9_text_114 : decode cX9_text 114 = .ok (.aload_n 0, 1) := by decide +kernel
theorem dX9_text_115 : decode cX9_text 115 = .ok (.getfield 25, 3) := by decide +kernel
theorem dX9_text_118 : decode cX9_text 118 = .ok (.aload_n 0, 1) := by decide +kernel
theorem dX9_text_119 : decode cX9_text 119 = .ok (.getfield 16, 3) := by decide +kernel
theorem dX9_text_122 : decode cX9_text 122 = .ok (.invokevirtual 76, 3) := by decide +kernel
theorem dX9_text_125 : decode cX9_text 125 = .ok (.aload_n 0, 1) := by decide +kernel
theorem dX9_text_126 : decode cX9_text 126 = .ok (.getfield 46, 3) := by decide +kernel
theorem dX9_text_129 : decode cX9_text 129 = .ok (.getfield 348, 3) := by decide +kernel
theorem dX9_text_132 : decode cX9_text 132 = .ok (.ireturn, 1) := by decide +kernel
theorem dX9_errorPosition_0 : decode cX9_errorPosition 0 = .ok (.aload_n 0, 1) := by decide +kernel
theorem dX9_errorPosition_1 : decode cX9_errorPosition 1 = .ok (.getfield 61, 3) := by decide +kernel
theorem dX9_errorPosition_4 : decode cX9_errorPosition 4 = .ok (.ireturn, 1) := by decide +kernel
theorem dX9_report_0 : decode cX9_report 0 = .ok (.aload_n 0, 1) := by decide +kernel
theorem dX9_report_1 : decode cX9_report 1 = .ok (.iload_n 1, 1) := by decide +kernel
theorem dX9_report_2 : decode cX9_report 2 = .ok (.invokevirtual 115, 3) := by decide +kernel
theorem dX9_report_5 : decode cX9_report 5 = .ok (.astore_n 2, 1) := by decide +kernel
theorem dX9_report_6 : decode cX9_report 6 = .ok (.aload_n 2, 1) := by decide +kernel
theorem dX9_report_7 : decode cX9_report 7 = .ok (.aload_n 0, 1) := by decide +kernel
theorem dX9_report_8 : decode cX9_report 8 = .ok (.getfield 12, 3) := by decide +kernel
theorem dX9_report_11 : decode cX9_report 11 = .ok (.getfield 130, 3) := by decide +kernel
theorem dX9_report_14 : decode cX9_report 14 = .ok (.aload_n 0, 1) := by decide +kernel
theorem dX9_report_15 : decode cX9_report 15 = .ok (.getfield 12, 3) := by decide +kernel
theorem dX9_report_18 : decode cX9_report 18 = .ok (.getfield 80, 3) := by decide +kernel
theorem dX9_report_21 : decode cX9_report 21 = .ok (.invokevirtual 133, 3) := by decide +kernel
theorem dX9_report_24 : decode cX9_report 24 = .ok (.istore_n 3, 1) := by decide +kernel
theorem dX9_report_25 : decode cX9_report 25 = .ok (.aload_n 0, 1) := by decide +kernel
theorem dX9_report_26 : decode cX9_report 26 = .ok (.getfield 53, 3) := by decide +kernel
theorem dX9_report_29 : decode cX9_report 29 = .ok (.iload_n 1, 1) := by decide +kernel
theorem dX9_report_30 : decode cX9_report 30 = .ok (.aload_n 2, 1) := by decide +kernel
theorem dX9_report_31 : decode cX9_report 31 = .ok (.iload_n 3, 1) := by decide +kernel
theorem dX9_report_32 : decode cX9_report 32 = .ok (.aload_n 2, 1) := by decide +kernel
theorem dX9_report_33 : decode cX9_report 33 = .ok (.aload_n 2, 1) := by decide +kernel
theorem dX9_report_34 : decode cX9_report 34 = .ok (.getfield 136, 3) := by decide +kernel
theorem dX9_report_37 : decode cX9_report 37 = .ok (.iload_n 3, 1) := by decide +kernel
theorem dX9_report_38 : decode cX9_report 38 = .ok (.aload_n 0, 1) := by decide +kernel
theorem dX9_report_39 : decode cX9_report 39 = .ok (.getfield 12, 3) := by decide +kernel
theorem dX9_report_42 : decode cX9_report 42 = .ok (.getfield 80, 3) := by decide +kernel
theorem dX9_report_45 : decode cX9_report 45 = .ok (.invokevirtual 261, 3) := by decide +kernel
theorem dX9_report_48 : decode cX9_report 48 = .ok (.invokevirtual 363, 3) := by decide +kernel
theorem dX9_report_51 : decode cX9_report 51 = .ok (.aload_n 0, 1) := by decide +kernel
theorem dX9_report_52 : decode cX9_report 52 = .ok (.getfield 53, 3) := by decide +kernel
theorem dX9_report_55 : decode cX9_report 55 = .ok (.getfield 367, 3) := by decide +kernel
theorem dX9_report_58 : decode cX9_report 58 = .ok (.ireturn, 1) := by decide +kernel
theorem dX9_character_0 : decode cX9_character 0 = .ok (.iload_n 1, 1) := by decide +kernel
theorem dX9_character_1 : decode cX9_character 1 = .ok (.iconst 0, 1) := by decide +kernel
theorem dX9_character_2 : decode cX9_character 2 = .ok (.aload_n 0, 1) := by decide +kernel
theorem dX9_character_3 : decode cX9_character 3 = .ok (.getfield 53, 3) := by decide +kernel
theorem dX9_character_6 : decode cX9_character 6 = .ok (.getfield 367, 3) := by decide +kernel
theorem dX9_character_9 : decode cX9_character 9 = .ok (.iconst 1, 1) := by decide +kernel
theorem dX9_character_10 : decode cX9_character 10 = .ok (.isub, 1) := by decide +kernel
theorem dX9_character_11 : decode cX9_character 11 = .ok (.invokestatic 64, 3) := by decide +kernel
theorem dX9_character_14 : decode cX9_character 14 = .ok (.iconst 1, 1) := by decide +kernel
theorem dX9_character_15 : decode cX9_character 15 = .ok (.invokestatic 68, 3) := by decide +kernel
theorem dX9_character_18 : decode cX9_character 18 = .ok (.aload_n 0, 1) := by decide +kernel
theorem dX9_character_19 : decode cX9_character 19 = .ok (.getfield 53, 3) := by decide +kernel
theorem dX9_character_22 : decode cX9_character 22 = .ok (.getfield 368, 3) := by decide +kernel
theorem dX9_character_25 : decode cX9_character 25 = .ok (.iload_n 1, 1) := by decide +kernel
theorem dX9_character_26 : decode cX9_character 26 = .ok (.caload, 1) := by decide +kernel
theorem dX9_character_27 : decode cX9_character 27 = .ok (.ireturn, 1) := by decide +kernel
theorem dX9_undo_0 : decode cX9_undo 0 = .ok (.aload_n 0, 1) := by decide +kernel
theorem dX9_undo_1 : decode cX9_undo 1 = .ok (.getfield 25, 3) := by decide +kernel
theorem dX9_undo_4 : decode cX9_undo 4 = .ok (.getfield 320, 3) := by decide +kernel
theorem dX9_undo_7 : decode cX9_undo 7 = .ok (.ifCond .le 7, 3) := by decide +kernel
theorem dX9_undo_10 : decode cX9_undo 10 = .ok (.iconst 1, 1) := by decide +kernel
theorem dX9_undo_11 : decode cX9_undo 11 = .ok (.goto 4, 3) := by decide +kernel
theorem dX9_undo_14 : decode cX9_undo 14 = .ok (.iconst 0, 1) := by decide +kernel
theorem dX9_undo_15 : decode cX9_undo 15 = .ok (.iconst 3, 1) := by decide +kernel
theorem dX9_undo_16 : decode cX9_undo 16 = .ok (.invokestatic 68, 3) := by decide +kernel
theorem dX9_undo_19 : decode cX9_undo 19 = .ok (.aload_n 0, 1) := by decide +kernel
theorem dX9_undo_20 : decode cX9_undo 20 = .ok (.getfield 25, 3) := by decide +kernel
theorem dX9_undo_23 : decode cX9_undo 23 = .ok (.aload_n 0, 1) := by decide +kernel
theorem dX9_undo_24 : decode cX9_undo 24 = .ok (.getfield 12, 3) := by decide +kernel
theorem dX9_undo_27 : decode cX9_undo 27 = .ok (.invokevirtual 372, 3) := by decide +kernel
theorem dX9_undo_30 : decode cX9_undo 30 = .ok (.aload_n 0, 1) := by decide +kernel
theorem dX9_undo_31 : decode cX9_undo 31 = .ok (.getfield 25, 3) := by decide +kernel
theorem dX9_undo_34 : decode cX9_undo 34 = .ok (.getfield 320, 3) := by decide +kernel
theorem dX9_undo_37 : decode cX9_undo 37 = .ok (.ireturn, 1) := by decide +kernel
theorem dX9_save_0 : decode cX9_save 0 = .ok (.aload_n 0, 1) := by decide +kernel
theorem dX9_save_1 : decode cX9_save 1 = .ok (.getfield 19, 3) := by decide +kernel
theorem dX9_save_4 : decode cX9_save 4 = .ok (.aload_n 0, 1) := by decide +kernel
theorem dX9_save_5 : decode cX9_save 5 = .ok (.getfield 12, 3) := by decide +kernel
theorem dX9_save_8 : decode cX9_save 8 = .ok (.invokevirtual 345, 3) := by decide +kernel
theorem dX9_save_11 : decode cX9_save 11 = .ok (.aload_n 0, 1) := by decide +kernel
theorem dX9_save_12 : decode cX9_save 12 = .ok (.iconst 1, 1) := by decide +kernel
theorem dX9_save_13 : decode cX9_save 13 = .ok (.putfield 375, 3) := by decide +kernel
theorem dX9_save_16 : decode cX9_save 16 = .ok (.aload_n 0, 1) := by decide +kernel
theorem dX9_save_17 : decode cX9_save 17 = .ok (.getfield 12, 3) := by decide +kernel
theorem dX9_save_20 : decode cX9_save 20 = .ok (.getfield 90, 3) := by decide +kernel
theorem dX9_save_23 : decode cX9_save 23 = .ok (.ireturn, 1) := by decide +kernel
theorem dX9_restore_0 : decode cX9_restore 0 = .ok (.aload_n 0, 1) := by decide +kernel
theorem dX9_restore_1 : decode cX9_restore 1 = .ok (.getfield 375, 3) := by decide +kernel
theorem dX9_restore_4 : decode cX9_restore 4 = .ok (.iconst 3, 1) := by decide +kernel
theorem dX9_restore_5 : decode cX9_restore 5 = .ok (.invokestatic 68, 3) := by decide +kernel
theorem dX9_restore_8 : decode cX9_restore 8 = .ok (.aload_n 0, 1) := by decide +kernel
theorem dX9_restore_9 : decode cX9_restore 9 = .ok (.getfield 12, 3) := by decide +kernel
theorem dX9_restore_12 : decode cX9_restore 12 = .ok (.aload_n 0, 1) := by decide +kernel
theorem dX9_restore_13 : decode cX9_restore 13 = .ok (.getfield 19, 3) := by decide +kernel
theorem dX9_restore_16 : decode cX9_restore 16 = .ok (.invokevirtual 345, 3) := by decide +kernel
theorem dX9_restore_19 : decode cX9_restore 19 = .ok (.aload_n 0, 1) := by decide +kernel
theorem dX9_restore_20 : decode cX9_restore 20 = .ok (.getfield 25, 3) := by decide +kernel
theorem dX9_restore_23 : decode cX9_restore 23 = .ok (.iconst 0, 1) := by decide +kernel
theorem dX9_restore_24 : decode cX9_restore 24 = .ok (.putfield 320, 3) := by decide +kernel
theorem dX9_restore_27 : decode cX9_restore 27 = .ok (.aload_n 0, 1) := by decide +kernel
theorem dX9_restore_28 : decode cX9_restore 28 = .ok (.getfield 12, 3) := by decide +kernel
theorem dX9_restore_31 : decode cX9_restore 31 = .ok (.getfield 90, 3) := by decide +kernel
theorem dX9_restore_34 : decode cX9_restore 34 = .ok (.ireturn, 1) := by decide +kernel
theorem dX9_offsetFault_0 : decode cX9_offsetFault 0 = .ok (.aload_n 0, 1) := by decide +kernel
theorem dX9_offsetFault_1 : decode cX9_offsetFault 1 = .ok (.getfield 12, 3) := by decide +kernel
theorem dX9_offsetFault_4 : decode cX9_offsetFault 4 = .ok (.iload_n 1, 1) := by decide +kernel
theorem dX9_offsetFault_5 : decode cX9_offsetFault 5 = .ok (.invokevirtual 287, 3) := by decide +kernel
theorem dX9_offsetFault_8 : decode cX9_offsetFault 8 = .ok (.astore_n 3, 1) := by decide +kernel
theorem dX9_offsetFault_9 : decode cX9_offsetFault 9 = .ok (.aload_n 3, 1) := by decide +kernel
theorem dX9_offsetFault_10 : decode cX9_offsetFault 10 = .ok (.ifnonnull 5, 3) := by decide +kernel
theorem dX9_offsetFault_13 : decode cX9_offsetFault 13 = .ok (.iconst 1, 1) := by decide +kernel
theorem dX9_offsetFault_14 : decode cX9_offsetFault 14 = .ok (.ireturn, 1) := by decide +kernel
theorem dX9_offsetFault_15 : decode cX9_offsetFault 15 = .ok (.iload_n 2, 1) := by decide +kernel
theorem dX9_offsetFault_16 : decode cX9_offsetFault 16 = .ok (.iconst 0, 1) := by decide +kernel
theorem dX9_offsetFault_17 : decode cX9_offsetFault 17 = .ok (.aload_n 0, 1) := by decide +kernel
theorem dX9_offsetFault_18 : decode cX9_offsetFault 18 = .ok (.getfield 12, 3) := by decide +kernel
theorem dX9_offsetFault_21 : decode cX9_offsetFault 21 = .ok (.getfield 80, 3) := by decide +kernel
theorem dX9_offsetFault_24 : decode cX9_offsetFault 24 = .ok (.iconst 1, 1) := by decide +kernel
theorem dX9_offsetFault_25 : decode cX9_offsetFault 25 = .ok (.isub, 1) := by decide +kernel
theorem dX9_offsetFault_26 : decode cX9_offsetFault 26 = .ok (.invokestatic 64, 3) := by decide +kernel
theorem dX9_offsetFault_29 : decode cX9_offsetFault 29 = .ok (.ifCond .ne 5, 3) := by decide +kernel
theorem dX9_offsetFault_32 : decode cX9_offsetFault 32 = .ok (.iconst 2, 1) := by decide +kernel
theorem dX9_offsetFault_33 : decode cX9_offsetFault 33 = .ok (.ireturn, 1) := by decide +kernel
theorem dX9_offsetFault_34 : decode cX9_offsetFault 34 = .ok (.aload_n 3, 1) := by decide +kernel
theorem dX9_offsetFault_35 : decode cX9_offsetFault 35 = .ok (.invokevirtual 194, 3) := by decide +kernel
theorem dX9_offsetFault_38 : decode cX9_offsetFault 38 = .ok (.ifCond .eq 7, 3) := by decide +kernel
theorem dX9_offsetFault_41 : decode cX9_offsetFault 41 = .ok (.iconst 3, 1) := by decide +kernel
theorem dX9_offsetFault_42 : decode cX9_offsetFault 42 = .ok (.goto 4, 3) := by decide +kernel
theorem dX9_offsetFault_45 : decode cX9_offsetFault 45 = .ok (.iconst 0, 1) := by decide +kernel
theorem dX9_offsetFault_46 : decode cX9_offsetFault 46 = .ok (.ireturn, 1) := by decide +kernel
theorem dX9_setOffset_0 : decode cX9_setOffset 0 = .ok (.aload_n 0, 1) := by decide +kernel
theorem dX9_setOffset_1 : decode cX9_setOffset 1 = .ok (.iload_n 1, 1) := by decide +kernel
theorem dX9_setOffset_2 : decode cX9_setOffset 2 = .ok (.invokevirtual 115, 3) := by decide +kernel
theorem dX9_setOffset_5 : decode cX9_setOffset 5 = .ok (.astore_n 3, 1) := by decide +kernel
theorem dX9_setOffset_6 : decode cX9_setOffset 6 = .ok (.aload_n 3, 1) := by decide +kernel
theorem dX9_setOffset_7 : decode cX9_setOffset 7 = .ok (.getfield 124, 3) := by decide +kernel
theorem dX9_setOffset_10 : decode cX9_setOffset 10 = .ok (.istore 4, 2) := by decide +kernel
theorem dX9_setOffset_12 : decode cX9_setOffset 12 = .ok (.aload_n 3, 1) := by decide +kernel
theorem dX9_setOffset_13 : decode cX9_setOffset 13 = .ok (.iload_n 2, 1) := by decide +kernel
theorem dX9_setOffset_14 : decode cX9_setOffset 14 = .ok (.putfield 124, 3) := by decide +kernel
theorem dX9_setOffset_17 : decode cX9_setOffset 17 = .ok (.iload 4, 2) := by decide +kernel
theorem dX9_setOffset_19 : decode cX9_setOffset 19 = .ok (.ireturn, 1) := by decide +kernel
theorem dX9_roadFault_0 : decode cX9_roadFault 0 = .ok (.aload_n 0, 1) := by decide +kernel
theorem dX9_roadFault_1 : decode cX9_roadFault 1 = .ok (.getfield 12, 3) := by decide +kernel
theorem dX9_roadFault_4 : decode cX9_roadFault 4 = .ok (.iload_n 1, 1) := by decide +kernel
theorem dX9_roadFault_5 : decode cX9_roadFault 5 = .ok (.invokevirtual 287, 3) := by decide +kernel
theorem dX9_roadFault_8 : decode cX9_roadFault 8 = .ok (.astore 4, 2) := by decide +kernel
theorem dX9_roadFault_10 : decode cX9_roadFault 10 = .ok (.aload 4, 2) := by decide +kernel
theorem dX9_roadFault_12 : decode cX9_roadFault 12 = .ok (.ifnull 25, 3) := by decide +kernel
theorem dX9_roadFault_15 : decode cX9_roadFault 15 = .ok (.aload 4, 2) := by decide +kernel
theorem dX9_roadFault_17 : decode cX9_roadFault 17 = .ok (.iload_n 2, 1) := by decide +kernel
theorem dX9_roadFault_18 : decode cX9_roadFault 18 = .ok (.invokevirtual 188, 3) := by decide +kernel
theorem dX9_roadFault_21 : decode cX9_roadFault 21 = .ok (.ifCond .eq 16, 3) := by decide +kernel
theorem dX9_roadFault_24 : decode cX9_roadFault 24 = .ok (.aload 4, 2) := by decide +kernel
theorem dX9_roadFault_26 : decode cX9_roadFault 26 = .ok (.iload_n 3, 1) := by decide +kernel
theorem dX9_roadFault_27 : decode cX9_roadFault 27 = .ok (.invokevirtual 188, 3) := by decide +kernel
theorem dX9_roadFault_30 : decode cX9_roadFault 30 = .ok (.ifCond .eq 7, 3) := by decide +kernel
theorem dX9_roadFault_33 : decode cX9_roadFault 33 = .ok (.iconst 1, 1) := by decide +kernel
theorem dX9_roadFault_34 : decode cX9_roadFault 34 = .ok (.goto 4, 3) := by decide +kernel
theorem dX9_roadFault_37 : decode cX9_roadFault 37 = .ok (.iconst 0, 1) := by decide +kernel
theorem dX9_roadFault_38 : decode cX9_roadFault 38 = .ok (.istore 5, 2) := by decide +kernel
theorem dX9_roadFault_40 : decode cX9_roadFault 40 = .ok (.iload 5, 2) := by decide +kernel
theorem dX9_roadFault_42 : decode cX9_roadFault 42 = .ok (.ifCond .eq 7, 3) := by decide +kernel
theorem dX9_roadFault_45 : decode cX9_roadFault 45 = .ok (.iconst 0, 1) := by decide +kernel
theorem dX9_roadFault_46 : decode cX9_roadFault 46 = .ok (.goto 4, 3) := by decide +kernel
theorem dX9_roadFault_49 : decode cX9_roadFault 49 = .ok (.iconst 1, 1) := by decide +kernel
theorem dX9_roadFault_50 : decode cX9_roadFault 50 = .ok (.ireturn, 1) := by decide +kernel
theorem dX9_setRoadGroups_0 : decode cX9_setRoadGroups 0 = .ok (.aload_n 0, 1) := by decide +kernel
theorem dX9_setRoadGroups_1 : decode cX9_setRoadGroups 1 = .ok (.iload_n 1, 1) := by decide +kernel
theorem dX9_setRoadGroups_2 : decode cX9_setRoadGroups 2 = .ok (.invokevirtual 115, 3) := by decide +kernel
theorem dX9_setRoadGroups_5 : decode cX9_setRoadGroups 5 = .ok (.astore 4, 2) := by decide +kernel
theorem dX9_setRoadGroups_7 : decode cX9_setRoadGroups 7 = .ok (.aload 4, 2) := by decide +kernel
theorem dX9_setRoadGroups_9 : decode cX9_setRoadGroups 9 = .ok (.iconst 0, 1) := by decide +kernel
theorem dX9_setRoadGroups_10 : decode cX9_setRoadGroups 10 = .ok (.invokevirtual 379, 3) := by decide +kernel
theorem dX9_setRoadGroups_13 : decode cX9_setRoadGroups 13 = .ok (.ifCond .eq 24, 3) := by decide +kernel
theorem dX9_setRoadGroups_16 : decode cX9_setRoadGroups 16 = .ok (.bipush 10, 2) := by decide +kernel
theorem dX9_setRoadGroups_18 : decode cX9_setRoadGroups 18 = .ok (.aload 4, 2) := by decide +kernel
theorem dX9_setRoadGroups_20 : decode cX9_setRoadGroups 20 = .ok (.getfield 382, 3) := by decide +kernel
theorem dX9_setRoadGroups_23 : decode cX9_setRoadGroups 23 = .ok (.iconst 0, 1) := by decide +kernel
theorem dX9_setRoadGroups_24 : decode cX9_setRoadGroups 24 = .ok (.iaload, 1) := by decide +kernel
theorem dX9_setRoadGroups_25 : decode cX9_setRoadGroups 25 = .ok (.imul, 1) := by decide +kernel
theorem dX9_setRoadGroups_26 : decode cX9_setRoadGroups 26 = .ok (.aload 4, 2) := by decide +kernel
theorem dX9_setRoadGroups_28 : decode cX9_setRoadGroups 28 = .ok (.getfield 382, 3) := by decide +kernel
theorem dX9_setRoadGroups_31 : decode cX9_setRoadGroups 31 = .ok (.iconst 1, 1) := by decide +kernel
theorem dX9_setRoadGroups_32 : decode cX9_setRoadGroups 32 = .ok (.iaload, 1) := by decide +kernel
theorem dX9_setRoadGroups_33 : decode cX9_setRoadGroups 33 = .ok (.iadd, 1) := by decide +kernel
theorem dX9_setRoadGroups_34 : decode cX9_setRoadGroups 34 = .ok (.goto 4, 3) := by decide +kernel
theorem dX9_setRoadGroups_37 : decode cX9_setRoadGroups 37 = .ok (.iconst (-1), 1) := by decide +kernel
theorem dX9_setRoadGroups_38 : decode cX9_setRoadGroups 38 = .ok (.istore 5, 2) := by decide +kernel
theorem dX9_setRoadGroups_40 : decode cX9_setRoadGroups 40 = .ok (.aload 4, 2) := by decide +kernel
theorem dX9_setRoadGroups_42 : decode cX9_setRoadGroups 42 = .ok (.getfield 382, 3) := by decide +kernel
theorem dX9_setRoadGroups_45 : decode cX9_setRoadGroups 45 = .ok (.iconst 0, 1) := by decide +kernel
theorem dX9_setRoadGroups_46 : decode cX9_setRoadGroups 46 = .ok (.iload_n 2, 1) := by decide +kernel
theorem dX9_setRoadGroups_47 : decode cX9_setRoadGroups 47 = .ok (.iastore, 1) := by decide +kernel
theorem dX9_setRoadGroups_48 : decode cX9_setRoadGroups 48 = .ok (.aload 4, 2) := by decide +kernel
theorem dX9_setRoadGroups_50 : decode cX9_setRoadGroups 50 = .ok (.getfield 382, 3) := by decide +kernel
theorem dX9_setRoadGroups_53 : decode cX9_setRoadGroups 53 = .ok (.iconst 1, 1) := by decide +kernel
theorem dX9_setRoadGroups_54 : decode cX9_setRoadGroups 54 = .ok (.iload_n 3, 1) := by decide +kernel
theorem dX9_setRoadGroups_55 : decode cX9_setRoadGroups 55 = .ok (.iastore, 1) := by decide +kernel
theorem dX9_setRoadGroups_56 : decode cX9_setRoadGroups 56 = .ok (.iload 5, 2) := by decide +kernel
theorem dX9_setRoadGroups_58 : decode cX9_setRoadGroups 58 = .ok (.ireturn, 1) := by decide +kernel
theorem dX9_greenFault_0 : decode cX9_greenFault 0 = .ok (.aload_n 0, 1) := by decide +kernel
theorem dX9_greenFault_1 : decode cX9_greenFault 1 = .ok (.getfield 12, 3) := by decide +kernel
theorem dX9_greenFault_4 : decode cX9_greenFault 4 = .ok (.iload_n 1, 1) := by decide +kernel
theorem dX9_greenFault_5 : decode cX9_greenFault 5 = .ok (.invokevirtual 287, 3) := by decide +kernel
theorem dX9_greenFault_8 : decode cX9_greenFault 8 = .ok (.astore 6, 2) := by decide +kernel
theorem dX9_greenFault_10 : decode cX9_greenFault 10 = .ok (.aload 6, 2) := by decide +kernel
theorem dX9_greenFault_12 : decode cX9_greenFault 12 = .ok (.ifnull 19, 3) := by decide +kernel
theorem dX9_greenFault_15 : decode cX9_greenFault 15 = .ok (.iload_n 2, 1) := by decide +kernel
theorem dX9_greenFault_16 : decode cX9_greenFault 16 = .ok (.invokestatic 222, 3) := by decide +kernel
theorem dX9_greenFault_19 : decode cX9_greenFault 19 = .ok (.ifCond .eq 12, 3) := by decide +kernel
theorem dX9_greenFault_22 : decode cX9_greenFault 22 = .ok (.aload 6, 2) := by decide +kernel
theorem dX9_greenFault_24 : decode cX9_greenFault 24 = .ok (.iload_n 3, 1) := by decide +kernel
theorem dX9_greenFault_25 : decode cX9_greenFault 25 = .ok (.invokevirtual 188, 3) := by decide +kernel
theorem dX9_greenFault_28 : decode cX9_greenFault 28 = .ok (.ifCond .ne 5, 3) := by decide +kernel
theorem dX9_greenFault_31 : decode cX9_greenFault 31 = .ok (.iconst 1, 1) := by decide +kernel
theorem dX9_greenFault_32 : decode cX9_greenFault 32 = .ok (.ireturn, 1) := by decide +kernel
theorem dX9_greenFault_33 : decode cX9_greenFault 33 = .ok (.aload_n 0, 1) := by decide +kernel
theorem dX9_greenFault_34 : decode cX9_greenFault 34 = .ok (.iload 4, 2) := by decide +kernel
theorem dX9_greenFault_36 : decode cX9_greenFault 36 = .ok (.iload 5, 2) := by decide +kernel
theorem dX9_greenFault_38 : decode cX9_greenFault 38 = .ok (.invokevirtual 225, 3) := by decide +kernel
theorem dX9_greenFault_41 : decode cX9_greenFault 41 = .ok (.ifCond .ne 5, 3) := by decide +kernel
theorem dX9_greenFault_44 : decode cX9_greenFault 44 = .ok (.iconst 2, 1) := by decide +kernel
theorem dX9_greenFault_45 : decode cX9_greenFault 45 = .ok (.ireturn, 1) := by decide +kernel
theorem dX9_greenFault_46 : decode cX9_greenFault 46 = .ok (.aload 6, 2) := by decide +kernel
theorem dX9_greenFault_48 : decode cX9_greenFault 48 = .ok (.invokevirtual 194, 3) := by decide +kernel
theorem dX9_greenFault_51 : decode cX9_greenFault 51 = .ok (.ifCond .eq 5, 3) := by decide +kernel
theorem dX9_greenFault_54 : decode cX9_greenFault 54 = .ok (.iconst 3, 1) := by decide +kernel
theorem dX9_greenFault_55 : decode cX9_greenFault 55 = .ok (.ireturn, 1) := by decide +kernel
theorem dX9_greenFault_56 : decode cX9_greenFault 56 = .ok (.aload_n 0, 1) := by decide +kernel
theorem dX9_greenFault_57 : decode cX9_greenFault 57 = .ok (.aload 6, 2) := by decide +kernel
theorem dX9_greenFault_59 : decode cX9_greenFault 59 = .ok (.iload_n 2, 1) := by decide +kernel
theorem dX9_greenFault_60 : decode cX9_greenFault 60 = .ok (.iload_n 3, 1) := by decide +kernel
theorem dX9_greenFault_61 : decode cX9_greenFault 61 = .ok (.iload 4, 2) := by decide +kernel
theorem dX9_greenFault_63 : decode cX9_greenFault 63 = .ok (.iload 5, 2) := by decide +kernel
theorem dX9_greenFault_65 : decode cX9_greenFault 65 = .ok (.aload_n 0, 1) := by decide +kernel
theorem dX9_greenFault_66 : decode cX9_greenFault 66 = .ok (.getfield 12, 3) := by decide +kernel
theorem dX9_greenFault_69 : decode cX9_greenFault 69 = .ok (.getfield 80, 3) := by decide +kernel
theorem dX9_greenFault_72 : decode cX9_greenFault 72 = .ok (.invokevirtual 228, 3) := by decide +kernel
theorem dX9_greenFault_75 : decode cX9_greenFault 75 = .ok (.invokevirtual 202, 3) := by decide +kernel
theorem dX9_greenFault_78 : decode cX9_greenFault 78 = .ok (.ireturn, 1) := by decide +kernel
theorem dX9_giveGreen_0 : decode cX9_giveGreen 0 = .ok (.aload_n 0, 1) := by decide +kernel
theorem dX9_giveGreen_1 : decode cX9_giveGreen 1 = .ok (.iload_n 1, 1) := by decide +kernel
theorem dX9_giveGreen_2 : decode cX9_giveGreen 2 = .ok (.invokevirtual 115, 3) := by decide +kernel
theorem dX9_giveGreen_5 : decode cX9_giveGreen 5 = .ok (.astore 6, 2) := by decide +kernel
theorem dX9_giveGreen_7 : decode cX9_giveGreen 7 = .ok (.aload 6, 2) := by decide +kernel
theorem dX9_giveGreen_9 : decode cX9_giveGreen 9 = .ok (.iload_n 2, 1) := by decide +kernel
theorem dX9_giveGreen_10 : decode cX9_giveGreen 10 = .ok (.iload_n 3, 1) := by decide +kernel
theorem dX9_giveGreen_11 : decode cX9_giveGreen 11 = .ok (.iload 4, 2) := by decide +kernel
theorem dX9_giveGreen_13 : decode cX9_giveGreen 13 = .ok (.iload 5, 2) := by decide +kernel
theorem dX9_giveGreen_15 : decode cX9_giveGreen 15 = .ok (.invokevirtual 234, 3) := by decide +kernel
theorem dX9_giveGreen_18 : decode cX9_giveGreen 18 = .ok (.aload 6, 2) := by decide +kernel
theorem dX9_giveGreen_20 : decode cX9_giveGreen 20 = .ok (.iload_n 2, 1) := by decide +kernel
theorem dX9_giveGreen_21 : decode cX9_giveGreen 21 = .ok (.invokevirtual 385, 3) := by decide +kernel
theorem dX9_giveGreen_24 : decode cX9_giveGreen 24 = .ok (.ireturn, 1) := by decide +kernel
theorem dX9_pressFault_0 : decode cX9_pressFault 0 = .ok (.aload_n 0, 1) := by decide +kernel
theorem dX9_pressFault_1 : decode cX9_pressFault 1 = .ok (.getfield 12, 3) := by decide +kernel
theorem dX9_pressFault_4 : decode cX9_pressFault 4 = .ok (.iload_n 1, 1) := by decide +kernel
theorem dX9_pressFault_5 : decode cX9_pressFault 5 = .ok (.invokevirtual 287, 3) := by decide +kernel
theorem dX9_pressFault_8 : decode cX9_pressFault 8 = .ok (.astore_n 3, 1) := by decide +kernel
theorem dX9_pressFault_9 : decode cX9_pressFault 9 = .ok (.aload_n 3, 1) := by decide +kernel
theorem dX9_pressFault_10 : decode cX9_pressFault 10 = .ok (.ifnull 11, 3) := by decide +kernel
theorem dX9_pressFault_13 : decode cX9_pressFault 13 = .ok (.aload_n 3, 1) := by decide +kernel
theorem dX9_pressFault_14 : decode cX9_pressFault 14 = .ok (.iload_n 2, 1) := by decide +kernel
theorem dX9_pressFault_15 : decode cX9_pressFault 15 = .ok (.invokevirtual 188, 3) := by decide +kernel
theorem dX9_pressFault_18 : decode cX9_pressFault 18 = .ok (.ifCond .ne 5, 3) := by decide +kernel
theorem dX9_pressFault_21 : decode cX9_pressFault 21 = .ok (.iconst 1, 1) := by decide +kernel
theorem dX9_pressFault_22 : decode cX9_pressFault 22 = .ok (.ireturn, 1) := by decide +kernel
theorem dX9_pressFault_23 : decode cX9_pressFault 23 = .ok (.aload_n 3, 1) := by decide +kernel
theorem dX9_pressFault_24 : decode cX9_pressFault 24 = .ok (.iload_n 2, 1) := by decide +kernel
theorem dX9_pressFault_25 : decode cX9_pressFault 25 = .ok (.invokevirtual 170, 3) := by decide +kernel
theorem dX9_pressFault_28 : decode cX9_pressFault 28 = .ok (.ifCond .eq 7, 3) := by decide +kernel
theorem dX9_pressFault_31 : decode cX9_pressFault 31 = .ok (.iconst 0, 1) := by decide +kernel
theorem dX9_pressFault_32 : decode cX9_pressFault 32 = .ok (.goto 4, 3) := by decide +kernel
theorem dX9_pressFault_35 : decode cX9_pressFault 35 = .ok (.iconst 3, 1) := by decide +kernel
theorem dX9_pressFault_36 : decode cX9_pressFault 36 = .ok (.ireturn, 1) := by decide +kernel
theorem dX9_makeRequest_0 : decode cX9_makeRequest 0 = .ok (.aload_n 0, 1) := by decide +kernel
theorem dX9_makeRequest_1 : decode cX9_makeRequest 1 = .ok (.iload_n 1, 1) := by decide +kernel
theorem dX9_makeRequest_2 : decode cX9_makeRequest 2 = .ok (.invokevirtual 115, 3) := by decide +kernel
theorem dX9_makeRequest_5 : decode cX9_makeRequest 5 = .ok (.astore_n 3, 1) := by decide +kernel
theorem dX9_makeRequest_6 : decode cX9_makeRequest 6 = .ok (.aload_n 3, 1) := by decide +kernel
theorem dX9_makeRequest_7 : decode cX9_makeRequest 7 = .ok (.iload_n 2, 1) := by decide +kernel
theorem dX9_makeRequest_8 : decode cX9_makeRequest 8 = .ok (.invokevirtual 388, 3) := by decide +kernel
theorem dX9_makeRequest_11 : decode cX9_makeRequest 11 = .ok (.ifCond .ne 16, 3) := by decide +kernel
theorem dX9_makeRequest_14 : decode cX9_makeRequest 14 = .ok (.aload_n 3, 1) := by decide +kernel
theorem dX9_makeRequest_15 : decode cX9_makeRequest 15 = .ok (.getfield 179, 3) := by decide +kernel
theorem dX9_makeRequest_18 : decode cX9_makeRequest 18 = .ok (.iload_n 2, 1) := by decide +kernel
theorem dX9_makeRequest_19 : decode cX9_makeRequest 19 = .ok (.aload_n 0, 1) := by decide +kernel
theorem dX9_makeRequest_20 : decode cX9_makeRequest 20 = .ok (.getfield 12, 3) := by decide +kernel
theorem dX9_makeRequest_23 : decode cX9_makeRequest 23 = .ok (.getfield 130, 3) := by decide +kernel
theorem dX9_makeRequest_26 : decode cX9_makeRequest 26 = .ok (.iastore, 1) := by decide +kernel
theorem dX9_makeRequest_27 : decode cX9_makeRequest 27 = .ok (.aload_n 3, 1) := by decide +kernel
theorem dX9_makeRequest_28 : decode cX9_makeRequest 28 = .ok (.invokevirtual 391, 3) := by decide +kernel
theorem dX9_makeRequest_31 : decode cX9_makeRequest 31 = .ok (.ireturn, 1) := by decide +kernel
theorem dX9_runFault_0 : decode cX9_runFault 0 = .ok (.iload_n 1, 1) := by decide +kernel
theorem dX9_runFault_1 : decode cX9_runFault 1 = .ok (.iconst 1, 1) := by decide +kernel
theorem dX9_runFault_2 : decode cX9_runFault 2 = .ok (.sipush 300, 3) := by decide +kernel
theorem dX9_runFault_5 : decode cX9_runFault 5 = .ok (.invokestatic 64, 3) := by decide +kernel
theorem dX9_runFault_8 : decode cX9_runFault 8 = .ok (.ifCond .ne 5, 3) := by decide +kernel
theorem dX9_runFault_11 : decode cX9_runFault 11 = .ok (.iconst 2, 1) := by decide +kernel
theorem dX9_runFault_12 : decode cX9_runFault 12 = .ok (.ireturn, 1) := by decide +kernel
theorem dX9_runFault_13 : decode cX9_runFault 13 = .ok (.aload_n 0, 1) := by decide +kernel
theorem dX9_runFault_14 : decode cX9_runFault 14 = .ok (.getfield 12, 3) := by decide +kernel
theorem dX9_runFault_17 : decode cX9_runFault 17 = .ok (.getfield 130, 3) := by decide +kernel
theorem dX9_runFault_20 : decode cX9_runFault 20 = .ok (.iload_n 1, 1) := by decide +kernel
theorem dX9_runFault_21 : decode cX9_runFault 21 = .ok (.iadd, 1) := by decide +kernel
theorem dX9_runFault_22 : decode cX9_runFault 22 = .ok (.ldc_w 270, 3) := by decide +kernel
theorem dX9_runFault_25 : decode cX9_runFault 25 = .ok (.if_icmp .le 7, 3) := by decide +kernel
theorem dX9_runFault_28 : decode cX9_runFault 28 = .ok (.iconst 3, 1) := by decide +kernel
theorem dX9_runFault_29 : decode cX9_runFault 29 = .ok (.goto 4, 3) := by decide +kernel
theorem dX9_runFault_32 : decode cX9_runFault 32 = .ok (.iconst 0, 1) := by decide +kernel
theorem dX9_runFault_33 : decode cX9_runFault 33 = .ok (.ireturn, 1) := by decide +kernel
theorem dX9_changeFault_0 : decode cX9_changeFault 0 = .ok (.aload_n 0, 1) := by decide +kernel
theorem dX9_changeFault_1 : decode cX9_changeFault 1 = .ok (.getfield 12, 3) := by decide +kernel
theorem dX9_changeFault_4 : decode cX9_changeFault 4 = .ok (.iload_n 1, 1) := by decide +kernel
theorem dX9_changeFault_5 : decode cX9_changeFault 5 = .ok (.invokevirtual 287, 3) := by decide +kernel
theorem dX9_changeFault_8 : decode cX9_changeFault 8 = .ok (.astore_n 2, 1) := by decide +kernel
theorem dX9_changeFault_9 : decode cX9_changeFault 9 = .ok (.aload_n 2, 1) := by decide +kernel
theorem dX9_changeFault_10 : decode cX9_changeFault 10 = .ok (.ifnonnull 5, 3) := by decide +kernel
theorem dX9_changeFault_13 : decode cX9_changeFault 13 = .ok (.iconst 1, 1) := by decide +kernel
theorem dX9_changeFault_14 : decode cX9_changeFault 14 = .ok (.ireturn, 1) := by decide +kernel
theorem dX9_changeFault_15 : decode cX9_changeFault 15 = .ok (.aload_n 2, 1) := by decide +kernel
theorem dX9_changeFault_16 : decode cX9_changeFault 16 = .ok (.invokevirtual 194, 3) := by decide +kernel
theorem dX9_changeFault_19 : decode cX9_changeFault 19 = .ok (.ifCond .eq 5, 3) := by decide +kernel
theorem dX9_changeFault_22 : decode cX9_changeFault 22 = .ok (.iconst 3, 1) := by decide +kernel
theorem dX9_changeFault_23 : decode cX9_changeFault 23 = .ok (.ireturn, 1) := by decide +kernel
theorem dX9_changeFault_24 : decode cX9_changeFault 24 = .ok (.aload_n 2, 1) := by decide +kernel
theorem dX9_changeFault_25 : decode cX9_changeFault 25 = .ok (.aload_n 0, 1) := by decide +kernel
theorem dX9_changeFault_26 : decode cX9_changeFault 26 = .ok (.getfield 12, 3) := by decide +kernel
theorem dX9_changeFault_29 : decode cX9_changeFault 29 = .ok (.getfield 130, 3) := by decide +kernel
theorem dX9_changeFault_32 : decode cX9_changeFault 32 = .ok (.aload_n 0, 1) := by decide +kernel
theorem dX9_changeFault_33 : decode cX9_changeFault 33 = .ok (.getfield 12, 3) := by decide +kernel
theorem dX9_changeFault_36 : decode cX9_changeFault 36 = .ok (.getfield 80, 3) := by decide +kernel
theorem dX9_changeFault_39 : decode cX9_changeFault 39 = .ok (.invokevirtual 305, 3) := by decide +kernel
theorem dX9_changeFault_42 : decode cX9_changeFault 42 = .ok (.iconst (-1), 1) := by decide +kernel
theorem dX9_changeFault_43 : decode cX9_changeFault 43 = .ok (.if_icmp .ne 7, 3) := by decide +kernel
theorem dX9_changeFault_46 : decode cX9_changeFault 46 = .ok (.iconst 5, 1) := by decide +kernel
theorem dX9_changeFault_47 : decode cX9_changeFault 47 = .ok (.goto 4, 3) := by decide +kernel
theorem dX9_changeFault_50 : decode cX9_changeFault 50 = .ok (.iconst 0, 1) := by decide +kernel
theorem dX9_changeFault_51 : decode cX9_changeFault 51 = .ok (.ireturn, 1) := by decide +kernel
theorem dX9_planChange_0 : decode cX9_planChange 0 = .ok (.aload_n 0, 1) := by decide +kernel
theorem dX9_planChange_1 : decode cX9_planChange 1 = .ok (.iload_n 1, 1) := by decide +kernel
theorem dX9_planChange_2 : decode cX9_planChange 2 = .ok (.invokevirtual 115, 3) := by decide +kernel
theorem dX9_planChange_5 : decode cX9_planChange 5 = .ok (.astore_n 2, 1) := by decide +kernel
theorem dX9_planChange_6 : decode cX9_planChange 6 = .ok (.aload_n 2, 1) := by decide +kernel
theorem dX9_planChange_7 : decode cX9_planChange 7 = .ok (.aload_n 0, 1) := by decide +kernel
theorem dX9_planChange_8 : decode cX9_planChange 8 = .ok (.getfield 12, 3) := by decide +kernel
theorem dX9_planChange_11 : decode cX9_planChange 11 = .ok (.getfield 130, 3) := by decide +kernel
theorem dX9_planChange_14 : decode cX9_planChange 14 = .ok (.aload_n 0, 1) := by decide +kernel
theorem dX9_planChange_15 : decode cX9_planChange 15 = .ok (.getfield 12, 3) := by decide +kernel
theorem dX9_planChange_18 : decode cX9_planChange 18 = .ok (.getfield 80, 3) := by decide +kernel
theorem dX9_planChange_21 : decode cX9_planChange 21 = .ok (.invokevirtual 305, 3) := by decide +kernel
theorem dX9_planChange_24 : decode cX9_planChange 24 = .ok (.istore_n 3, 1) := by decide +kernel
theorem dX9_planChange_25 : decode cX9_planChange 25 = .ok (.aload_n 2, 1) := by decide +kernel
theorem dX9_planChange_26 : decode cX9_planChange 26 = .ok (.aload_n 0, 1) := by decide +kernel
theorem dX9_planChange_27 : decode cX9_planChange 27 = .ok (.getfield 12, 3) := by decide +kernel
theorem dX9_planChange_30 : decode cX9_planChange 30 = .ok (.getfield 130, 3) := by decide +kernel
theorem dX9_planChange_33 : decode cX9_planChange 33 = .ok (.iload_n 3, 1) := by decide +kernel
theorem dX9_planChange_34 : decode cX9_planChange 34 = .ok (.iadd, 1) := by decide +kernel
theorem dX9_planChange_35 : decode cX9_planChange 35 = .ok (.putfield 139, 3) := by decide +kernel
theorem dX9_planChange_38 : decode cX9_planChange 38 = .ok (.iload_n 3, 1) := by decide +kernel
theorem dX9_planChange_39 : decode cX9_planChange 39 = .ok (.ireturn, 1) := by decide +kernel
theorem dX9_commandFault_0 : decode cX9_commandFault 0 = .ok (.aload_n 0, 1) := by decide +kernel
theorem dX9_commandFault_1 : decode cX9_commandFault 1 = .ok (.getfield 46, 3) := by decide +kernel
theorem dX9_commandFault_4 : decode cX9_commandFault 4 = .ok (.getfield 394, 3) := by decide +kernel
theorem dX9_commandFault_7 : decode cX9_commandFault 7 = .ok (.iload_n 1, 1) := by decide +kernel
theorem dX9_commandFault_8 : decode cX9_commandFault 8 = .ok (.aaload, 1) := by decide +kernel
theorem dX9_commandFault_9 : decode cX9_commandFault 9 = .ok (.astore_n 2, 1) := by decide +kernel
theorem dX9_commandFault_10 : decode cX9_commandFault 10 = .ok (.aload_n 0, 1) := by decide +kernel
theorem dX9_commandFault_11 : decode cX9_commandFault 11 = .ok (.getfield 46, 3) := by decide +kernel
theorem dX9_commandFault_14 : decode cX9_commandFault 14 = .ok (.iload_n 1, 1) := by decide +kernel
theorem dX9_commandFault_15 : decode cX9_commandFault 15 = .ok (.iconst 0, 1) := by decide +kernel
theorem dX9_commandFault_16 : decode cX9_commandFault 16 = .ok (.invokevirtual 398, 3) := by decide +kernel
theorem dX9_commandFault_19 : decode cX9_commandFault 19 = .ok (.istore_n 3, 1) := by decide +kernel
theorem dX9_commandFault_20 : decode cX9_commandFault 20 = .ok (.aload_n 0, 1) := by decide +kernel
theorem dX9_commandFault_21 : decode cX9_commandFault 21 = .ok (.getfield 46, 3) := by decide +kernel
theorem dX9_commandFault_24 : decode cX9_commandFault 24 = .ok (.iload_n 1, 1) := by decide +kernel
theorem dX9_commandFault_25 : decode cX9_commandFault 25 = .ok (.iconst 1, 1) := by decide +kernel
theorem dX9_commandFault_26 : decode cX9_commandFault 26 = .ok (.invokevirtual 398, 3) := by decide +kernel
theorem dX9_commandFault_29 : decode cX9_commandFault 29 = .ok (.istore 4, 2) := by decide +kernel
theorem dX9_commandFault_31 : decode cX9_commandFault 31 = .ok (.aload_n 0, 1) := by decide +kernel
theorem dX9_commandFault_32 : decode cX9_commandFault 32 = .ok (.getfield 46, 3) := by decide +kernel
theorem dX9_commandFault_35 : decode cX9_commandFault 35 = .ok (.iload_n 1, 1) := by decide +kernel
theorem dX9_commandFault_36 : decode cX9_commandFault 36 = .ok (.iconst 2, 1) := by decide +kernel
theorem dX9_commandFault_37 : decode cX9_commandFault 37 = .ok (.invokevirtual 398, 3) := by decide +kernel
theorem dX9_commandFault_40 : decode cX9_commandFault 40 = .ok (.istore 5, 2) := by decide +kernel
theorem dX9_commandFault_42 : decode cX9_commandFault 42 = .ok (.aload_n 2, 1) := by decide +kernel
theorem dX9_commandFault_43 : decode cX9_commandFault 43 = .ok (.ifnonnull 5, 3) := by decide +kernel
theorem dX9_commandFault_46 : decode cX9_commandFault 46 = .ok (.iconst 5, 1) := by decide +kernel
theorem dX9_commandFault_47 : decode cX9_commandFault 47 = .ok (.ireturn, 1) := by decide +kernel
theorem dX9_commandFault_48 : decode cX9_commandFault 48 = .ok (.getstatic 401, 3) := by decide +kernel
theorem dX9_commandFault_51 : decode cX9_commandFault 51 = .ok (.aload_n 2, 1) := by decide +kernel
theorem dX9_commandFault_52 : decode cX9_commandFault 52 = .ok (.invokevirtual 406, 3) := by decide +kernel
theorem dX9_commandFault_55 : decode cX9_commandFault 55 = .ok (.iaload, 1) := by decide +kernel
theorem dX9_commandFault_56 : decode cX9_commandFault 56 = .ok (.tableswitch 92 1 5 #[36, 64, 72, 80, 86], 36) := by decide +kernel
theorem dX9_commandFault_92 : decode cX9_commandFault 92 = .ok (.aload_n 0, 1) := by decide +kernel
theorem dX9_commandFault_93 : decode cX9_commandFault 93 = .ok (.iload_n 3, 1) := by decide +kernel
theorem dX9_commandFault_94 : decode cX9_commandFault 94 = .ok (.iload 4, 2) := by decide +kernel
theorem dX9_commandFault_96 : decode cX9_commandFault 96 = .ok (.iload 5, 2) := by decide +kernel
theorem dX9_commandFault_98 : decode cX9_commandFault 98 = .ok (.aload_n 0, 1) := by decide +kernel
theorem dX9_commandFault_99 : decode cX9_commandFault 99 = .ok (.getfield 46, 3) := by decide +kernel
theorem dX9_commandFault_102 : decode cX9_commandFault 102 = .ok (.iload_n 1, 1) := by decide +kernel
theorem dX9_commandFault_103 : decode cX9_commandFault 103 = .ok (.iconst 3, 1) := by decide +kernel
theorem dX9_commandFault_104 : decode cX9_commandFault 104 = .ok (.invokevirtual 398, 3) := by decide +kernel
theorem dX9_commandFault_107 : decode cX9_commandFault 107 = .ok (.aload_n 0, 1) := by decide +kernel
theorem dX9_commandFault_108 : decode cX9_commandFault 108 = .ok (.getfield 46, 3) := by decide +kernel
theorem dX9_commandFault_111 : decode cX9_commandFault 111 = .ok (.iload_n 1, 1) := by decide +kernel
theorem dX9_commandFault_112 : decode cX9_commandFault 112 = .ok (.iconst 4, 1) := by decide +kernel
theorem dX9_commandFault_113 : decode cX9_commandFault 113 = .ok (.invokevirtual 398, 3) := by decide +kernel
theorem dX9_commandFault_116 : decode cX9_commandFault 116 = .ok (.invokevirtual 216, 3) := by decide +kernel
theorem dX9_commandFault_119 : decode cX9_commandFault 119 = .ok (.ireturn, 1) := by decide +kernel
theorem dX9_commandFault_120 : decode cX9_commandFault 120 = .ok (.aload_n 0, 1) := by decide +kernel
theorem dX9_commandFault_121 : decode cX9_commandFault 121 = .ok (.iload_n 3, 1) := by decide +kernel
theorem dX9_commandFault_122 : decode cX9_commandFault 122 = .ok (.iload 4, 2) := by decide +kernel
theorem dX9_commandFault_124 : decode cX9_commandFault 124 = .ok (.invokevirtual 97, 3) := by decide +kernel
theorem dX9_commandFault_127 : decode cX9_commandFault 127 = .ok (.ireturn, 1) := by decide +kernel
theorem dX9_commandFault_128 : decode cX9_commandFault 128 = .ok (.aload_n 0, 1) := by decide +kernel
theorem dX9_commandFault_129 : decode cX9_commandFault 129 = .ok (.iload_n 3, 1) := by decide +kernel
theorem dX9_commandFault_130 : decode cX9_commandFault 130 = .ok (.iload 4, 2) := by decide +kernel
theorem dX9_commandFault_132 : decode cX9_commandFault 132 = .ok (.invokevirtual 293, 3) := by decide +kernel
theorem dX9_commandFault_135 : decode cX9_commandFault 135 = .ok (.ireturn, 1) := by decide +kernel
theorem dX9_commandFault_136 : decode cX9_commandFault 136 = .ok (.aload_n 0, 1) := by decide +kernel
theorem dX9_commandFault_137 : decode cX9_commandFault 137 = .ok (.iload_n 3, 1) := by decide +kernel
theorem dX9_commandFault_138 : decode cX9_commandFault 138 = .ok (.invokevirtual 299, 3) := by decide +kernel
theorem dX9_commandFault_141 : decode cX9_commandFault 141 = .ok (.ireturn, 1) := by decide +kernel
theorem dX9_commandFault_142 : decode cX9_commandFault 142 = .ok (.aload_n 0, 1) := by decide +kernel
theorem dX9_commandFault_143 : decode cX9_commandFault 143 = .ok (.iload_n 3, 1) := by decide +kernel
theorem dX9_commandFault_144 : decode cX9_commandFault 144 = .ok (.invokevirtual 308, 3) := by decide +kernel
theorem dX9_commandFault_147 : decode cX9_commandFault 147 = .ok (.ireturn, 1) := by decide +kernel
theorem dX9_commandFault_148 : decode cX9_commandFault 148 = .ok (.aload_n 0, 1) := by decide +kernel
theorem dX9_commandFault_149 : decode cX9_commandFault 149 = .ok (.iload_n 3, 1) := by decide +kernel
theorem dX9_commandFault_150 : decode cX9_commandFault 150 = .ok (.iload 4, 2) := by decide +kernel
theorem dX9_commandFault_152 : decode cX9_commandFault 152 = .ok (.iload 5, 2) := by decide +kernel
theorem dX9_commandFault_154 : decode cX9_commandFault 154 = .ok (.invokevirtual 108, 3) := by decide +kernel
theorem dX9_commandFault_157 : decode cX9_commandFault 157 = .ok (.ireturn, 1) := by decide +kernel
theorem dX9_carryOut_0 : decode cX9_carryOut 0 = .ok (.aload_n 0, 1) := by decide +kernel
theorem dX9_carryOut_1 : decode cX9_carryOut 1 = .ok (.getfield 46, 3) := by decide +kernel
theorem dX9_carryOut_4 : decode cX9_carryOut 4 = .ok (.getfield 394, 3) := by decide +kernel
theorem dX9_carryOut_7 : decode cX9_carryOut 7 = .ok (.iload_n 1, 1) := by decide +kernel
theorem dX9_carryOut_8 : decode cX9_carryOut 8 = .ok (.aaload, 1) := by decide +kernel
theorem dX9_carryOut_9 : decode cX9_carryOut 9 = .ok (.astore_n 2, 1) := by decide +kernel
theorem dX9_carryOut_10 : decode cX9_carryOut 10 = .ok (.aload_n 0, 1) := by decide +kernel
theorem dX9_carryOut_11 : decode cX9_carryOut 11 = .ok (.getfield 46, 3) := by decide +kernel
theorem dX9_carryOut_14 : decode cX9_carryOut 14 = .ok (.iload_n 1, 1) := by decide +kernel
theorem dX9_carryOut_15 : decode cX9_carryOut 15 = .ok (.iconst 0, 1) := by decide +kernel
theorem dX9_carryOut_16 : decode cX9_carryOut 16 = .ok (.invokevirtual 398, 3) := by decide +kernel
theorem dX9_carryOut_19 : decode cX9_carryOut 19 = .ok (.istore_n 3, 1) := by decide +kernel
theorem dX9_carryOut_20 : decode cX9_carryOut 20 = .ok (.aload_n 0, 1) := by decide +kernel
theorem dX9_carryOut_21 : decode cX9_carryOut 21 = .ok (.getfield 46, 3) := by decide +kernel
theorem dX9_carryOut_24 : decode cX9_carryOut 24 = .ok (.iload_n 1, 1) := by decide +kernel
theorem dX9_carryOut_25 : decode cX9_carryOut 25 = .ok (.iconst 1, 1) := by decide +kernel
theorem dX9_carryOut_26 : decode cX9_carryOut 26 = .ok (.invokevirtual 398, 3) := by decide +kernel
theorem dX9_carryOut_29 : decode cX9_carryOut 29 = .ok (.istore 4, 2) := by decide +kernel
theorem dX9_carryOut_31 : decode cX9_carryOut 31 = .ok (.aload_n 0, 1) := by decide +kernel
theorem dX9_carryOut_32 : decode cX9_carryOut 32 = .ok (.getfield 46, 3) := by decide +kernel
theorem dX9_carryOut_35 : decode cX9_carryOut 35 = .ok (.iload_n 1, 1) := by decide +kernel
theorem dX9_carryOut_36 : decode cX9_carryOut 36 = .ok (.iconst 2, 1) := by decide +kernel
theorem dX9_carryOut_37 : decode cX9_carryOut 37 = .ok (.invokevirtual 398, 3) := by decide +kernel
theorem dX9_carryOut_40 : decode cX9_carryOut 40 = .ok (.istore 5, 2) := by decide +kernel
theorem dX9_carryOut_42 : decode cX9_carryOut 42 = .ok (.aload_n 2, 1) := by decide +kernel
theorem dX9_carryOut_43 : decode cX9_carryOut 43 = .ok (.ifnonnull 4, 3) := by decide +kernel
theorem dX9_carryOut_46 : decode cX9_carryOut 46 = .ok (.return_, 1) := by decide +kernel
theorem dX9_carryOut_47 : decode cX9_carryOut 47 = .ok (.getstatic 401, 3) := by decide +kernel
theorem dX9_carryOut_50 : decode cX9_carryOut 50 = .ok (.aload_n 2, 1) := by decide +kernel
theorem dX9_carryOut_51 : decode cX9_carryOut 51 = .ok (.invokevirtual 406, 3) := by decide +kernel
theorem dX9_carryOut_54 : decode cX9_carryOut 54 = .ok (.iaload, 1) := by decide +kernel
theorem dX9_carryOut_55 : decode cX9_carryOut 55 = .ok (.tableswitch 107 1 5 #[33, 64, 75, 86, 98], 33) := by decide +kernel
theorem dX9_carryOut_88 : decode cX9_carryOut 88 = .ok (.aload_n 0, 1) := by decide +kernel
theorem dX9_carryOut_89 : decode cX9_carryOut 89 = .ok (.iload_n 3, 1) := by decide +kernel
theorem dX9_carryOut_90 : decode cX9_carryOut 90 = .ok (.iload 4, 2) := by decide +kernel
theorem dX9_carryOut_92 : decode cX9_carryOut 92 = .ok (.iload 5, 2) := by decide +kernel
theorem dX9_carryOut_94 : decode cX9_carryOut 94 = .ok (.aload_n 0, 1) := by decide +kernel
theorem dX9_carryOut_95 : decode cX9_carryOut 95 = .ok (.getfield 46, 3) := by decide +kernel
theorem dX9_carryOut_98 : decode cX9_carryOut 98 = .ok (.iload_n 1, 1) := by decide +kernel
theorem dX9_carryOut_99 : decode cX9_carryOut 99 = .ok (.iconst 3, 1) := by decide +kernel
theorem dX9_carryOut_100 : decode cX9_carryOut 100 = .ok (.invokevirtual 398, 3) := by decide +kernel
theorem dX9_carryOut_103 : decode cX9_carryOut 103 = .ok (.aload_n 0, 1) := by decide +kernel
theorem dX9_carryOut_104 : decode cX9_carryOut 104 = .ok (.getfield 46, 3) := by decide +kernel
theorem dX9_carryOut_107 : decode cX9_carryOut 107 = .ok (.iload_n 1, 1) := by decide +kernel
theorem dX9_carryOut_108 : decode cX9_carryOut 108 = .ok (.iconst 4, 1) := by decide +kernel
theorem dX9_carryOut_109 : decode cX9_carryOut 109 = .ok (.invokevirtual 398, 3) := by decide +kernel
theorem dX9_carryOut_112 : decode cX9_carryOut 112 = .ok (.invokevirtual 219, 3) := by decide +kernel
theorem dX9_carryOut_115 : decode cX9_carryOut 115 = .ok (.pop, 1) := by decide +kernel
theorem dX9_carryOut_116 : decode cX9_carryOut 116 = .ok (.goto 56, 3) := by decide +kernel
theorem dX9_carryOut_119 : decode cX9_carryOut 119 = .ok (.aload_n 0, 1) := by decide +kernel
theorem dX9_carryOut_120 : decode cX9_carryOut 120 = .ok (.iload_n 3, 1) := by decide +kernel
theorem dX9_carryOut_121 : decode cX9_carryOut 121 = .ok (.iload 4, 2) := by decide +kernel
theorem dX9_carryOut_123 : decode cX9_carryOut 123 = .ok (.invokevirtual 105, 3) := by decide +kernel
theorem dX9_carryOut_126 : decode cX9_carryOut 126 = .ok (.pop, 1) := by decide +kernel
theorem dX9_carryOut_127 : decode cX9_carryOut 127 = .ok (.goto 45, 3) := by decide +kernel
theorem dX9_carryOut_130 : decode cX9_carryOut 130 = .ok (.aload_n 0, 1) := by decide +kernel
theorem dX9_carryOut_131 : decode cX9_carryOut 131 = .ok (.iload_n 3, 1) := by decide +kernel
theorem dX9_carryOut_132 : decode cX9_carryOut 132 = .ok (.iload 4, 2) := by decide +kernel
theorem dX9_carryOut_134 : decode cX9_carryOut 134 = .ok (.invokevirtual 296, 3) := by decide +kernel
theorem dX9_carryOut_137 : decode cX9_carryOut 137 = .ok (.pop, 1) := by decide +kernel
theorem dX9_carryOut_138 : decode cX9_carryOut 138 = .ok (.goto 34, 3) := by decide +kernel
theorem dX9_carryOut_141 : decode cX9_carryOut 141 = .ok (.aload_n 0, 1) := by decide +kernel
theorem dX9_carryOut_142 : decode cX9_carryOut 142 = .ok (.getfield 12, 3) := by decide +kernel
theorem dX9_carryOut_145 : decode cX9_carryOut 145 = .ok (.iload_n 3, 1) := by decide +kernel
theorem dX9_carryOut_146 : decode cX9_carryOut 146 = .ok (.invokevirtual 302, 3) := by decide +kernel
theorem dX9_carryOut_149 : decode cX9_carryOut 149 = .ok (.pop, 1) := by decide +kernel
theorem dX9_carryOut_150 : decode cX9_carryOut 150 = .ok (.goto 22, 3) := by decide +kernel
theorem dX9_carryOut_153 : decode cX9_carryOut 153 = .ok (.aload_n 0, 1) := by decide +kernel
theorem dX9_carryOut_154 : decode cX9_carryOut 154 = .ok (.iload_n 3, 1) := by decide +kernel
theorem dX9_carryOut_155 : decode cX9_carryOut 155 = .ok (.invokevirtual 311, 3) := by decide +kernel
theorem dX9_carryOut_158 : decode cX9_carryOut 158 = .ok (.pop, 1) := by decide +kernel
theorem dX9_carryOut_159 : decode cX9_carryOut 159 = .ok (.goto 13, 3) := by decide +kernel
theorem dX9_carryOut_162 : decode cX9_carryOut 162 = .ok (.aload_n 0, 1) := by decide +kernel
theorem dX9_carryOut_163 : decode cX9_carryOut 163 = .ok (.iload_n 3, 1) := by decide +kernel
theorem dX9_carryOut_164 : decode cX9_carryOut 164 = .ok (.iload 4, 2) := by decide +kernel
theorem dX9_carryOut_166 : decode cX9_carryOut 166 = .ok (.iload 5, 2) := by decide +kernel
theorem dX9_carryOut_168 : decode cX9_carryOut 168 = .ok (.invokevirtual 112, 3) := by decide +kernel
theorem dX9_carryOut_171 : decode cX9_carryOut 171 = .ok (.pop, 1) := by decide +kernel
theorem dX9_carryOut_172 : decode cX9_carryOut 172 = .ok (.return_, 1) := by decide +kernel
theorem dX9_found_0 : decode cX9_found 0 = .ok (.aload_n 0, 1) := by decide +kernel
theorem dX9_found_1 : decode cX9_found 1 = .ok (.getfield 12, 3) := by decide +kernel
theorem dX9_found_4 : decode cX9_found 4 = .ok (.iload_n 1, 1) := by decide +kernel
theorem dX9_found_5 : decode cX9_found 5 = .ok (.invokevirtual 287, 3) := by decide +kernel
theorem dX9_found_8 : decode cX9_found 8 = .ok (.astore_n 2, 1) := by decide +kernel
theorem dX9_found_9 : decode cX9_found 9 = .ok (.aload_n 2, 1) := by decide +kernel
theorem dX9_found_10 : decode cX9_found 10 = .ok (.ifnonnull 14, 3) := by decide +kernel
theorem dX9_found_13 : decode cX9_found 13 = .ok (.new 411, 3) := by decide +kernel
theorem dX9_found_16 : decode cX9_found 16 = .ok (.dup, 1) := by decide +kernel
theorem dX9_found_17 : decode cX9_found 17 = .ok (.ldc_w 413, 3) := by decide +kernel
theorem dX9_found_20 : decode cX9_found 20 = .ok (.invokespecial 415, 3) := by decide +kernel
theorem dX9_found_23 : decode cX9_found 23 = .ok (.athrow, 1) := by decide +kernel
theorem dX9_found_24 : decode cX9_found 24 = .ok (.aload_n 2, 1) := by decide +kernel
theorem dX9_found_25 : decode cX9_found 25 = .ok (.areturn, 1) := by decide +kernel
theorem dX9_foundWith_0 : decode cX9_foundWith 0 = .ok (.aload_n 0, 1) := by decide +kernel
theorem dX9_foundWith_1 : decode cX9_foundWith 1 = .ok (.iload_n 1, 1) := by decide +kernel
theorem dX9_foundWith_2 : decode cX9_foundWith 2 = .ok (.invokevirtual 115, 3) := by decide +kernel
theorem dX9_foundWith_5 : decode cX9_foundWith 5 = .ok (.astore_n 3, 1) := by decide +kernel
theorem dX9_foundWith_6 : decode cX9_foundWith 6 = .ok (.aload_n 3, 1) := by decide +kernel
theorem dX9_foundWith_7 : decode cX9_foundWith 7 = .ok (.iload_n 2, 1) := by decide +kernel
theorem dX9_foundWith_8 : decode cX9_foundWith 8 = .ok (.invokevirtual 188, 3) := by decide +kernel
theorem dX9_foundWith_11 : decode cX9_foundWith 11 = .ok (.iconst 1, 1) := by decide +kernel
theorem dX9_foundWith_12 : decode cX9_foundWith 12 = .ok (.invokestatic 68, 3) := by decide +kernel
theorem dX9_foundWith_15 : decode cX9_foundWith 15 = .ok (.aload_n 3, 1) := by decide +kernel
theorem dX9_foundWith_16 : decode cX9_foundWith 16 = .ok (.areturn, 1) := by decide +kernel
theorem dX9_isGreen_0 : decode cX9_isGreen 0 = .ok (.iload_n 1, 1) := by decide +kernel
theorem dX9_isGreen_1 : decode cX9_isGreen 1 = .ok (.iconst 0, 1) := by decide +kernel
theorem dX9_isGreen_2 : decode cX9_isGreen 2 = .ok (.aload_n 0, 1) := by decide +kernel
theorem dX9_isGreen_3 : decode cX9_isGreen 3 = .ok (.getfield 12, 3) := by decide +kernel
theorem dX9_isGreen_6 : decode cX9_isGreen 6 = .ok (.getfield 80, 3) := by decide +kernel
theorem dX9_isGreen_9 : decode cX9_isGreen 9 = .ok (.iconst 1, 1) := by decide +kernel
theorem dX9_isGreen_10 : decode cX9_isGreen 10 = .ok (.isub, 1) := by decide +kernel
theorem dX9_isGreen_11 : decode cX9_isGreen 11 = .ok (.invokestatic 64, 3) := by decide +kernel
theorem dX9_isGreen_14 : decode cX9_isGreen 14 = .ok (.ifCond .eq 22, 3) := by decide +kernel
theorem dX9_isGreen_17 : decode cX9_isGreen 17 = .ok (.iload_n 2, 1) := by decide +kernel
theorem dX9_isGreen_18 : decode cX9_isGreen 18 = .ok (.iconst 1, 1) := by decide +kernel
theorem dX9_isGreen_19 : decode cX9_isGreen 19 = .ok (.aload_n 0, 1) := by decide +kernel
theorem dX9_isGreen_20 : decode cX9_isGreen 20 = .ok (.getfield 12, 3) := by decide +kernel
theorem dX9_isGreen_23 : decode cX9_isGreen 23 = .ok (.getfield 80, 3) := by decide +kernel
theorem dX9_isGreen_26 : decode cX9_isGreen 26 = .ok (.invokestatic 64, 3) := by decide +kernel
theorem dX9_isGreen_29 : decode cX9_isGreen 29 = .ok (.ifCond .eq 7, 3) := by decide +kernel
theorem dX9_isGreen_32 : decode cX9_isGreen 32 = .ok (.iconst 1, 1) := by decide +kernel
theorem dX9_isGreen_33 : decode cX9_isGreen 33 = .ok (.goto 4, 3) := by decide +kernel
theorem dX9_isGreen_36 : decode cX9_isGreen 36 = .ok (.iconst 0, 1) := by decide +kernel
theorem dX9_isGreen_37 : decode cX9_isGreen 37 = .ok (.ireturn, 1) := by decide +kernel
theorem dX9_isPlan_0 : decode cX9_isPlan 0 = .ok (.iload_n 0, 1) := by decide +kernel
theorem dX9_isPlan_1 : decode cX9_isPlan 1 = .ok (.iconst 0, 1) := by decide +kernel
theorem dX9_isPlan_2 : decode cX9_isPlan 2 = .ok (.iconst 1, 1) := by decide +kernel
theorem dX9_isPlan_3 : decode cX9_isPlan 3 = .ok (.invokestatic 64, 3) := by decide +kernel
theorem dX9_isPlan_6 : decode cX9_isPlan 6 = .ok (.ireturn, 1) := by decide +kernel
theorem dX9_isDirection_0 : decode cX9_isDirection 0 = .ok (.iload_n 0, 1) := by decide +kernel
theorem dX9_isDirection_1 : decode cX9_isDirection 1 = .ok (.iconst 0, 1) := by decide +kernel
theorem dX9_isDirection_2 : decode cX9_isDirection 2 = .ok (.iconst 1, 1) := by decide +kernel
theorem dX9_isDirection_3 : decode cX9_isDirection 3 = .ok (.invokestatic 64, 3) := by decide +kernel
theorem dX9_isDirection_6 : decode cX9_isDirection 6 = .ok (.ireturn, 1) := by decide +kernel
theorem dX9_isClearance_0 : decode cX9_isClearance 0 = .ok (.iload_n 0, 1) := by decide +kernel
theorem dX9_isClearance_1 : decode cX9_isClearance 1 = .ok (.iconst 0, 1) := by decide +kernel
theorem dX9_isClearance_2 : decode cX9_isClearance 2 = .ok (.bipush 20, 2) := by decide +kernel
theorem dX9_isClearance_4 : decode cX9_isClearance 4 = .ok (.invokestatic 64, 3) := by decide +kernel
theorem dX9_isClearance_7 : decode cX9_isClearance 7 = .ok (.ireturn, 1) := by decide +kernel
theorem dX9_isWithin_0 : decode cX9_isWithin 0 = .ok (.iload_n 0, 1) := by decide +kernel
theorem dX9_isWithin_1 : decode cX9_isWithin 1 = .ok (.iload_n 1, 1) := by decide +kernel
theorem dX9_isWithin_2 : decode cX9_isWithin 2 = .ok (.if_icmp .lt 12, 3) := by decide +kernel
theorem dX9_isWithin_5 : decode cX9_isWithin 5 = .ok (.iload_n 0, 1) := by decide +kernel
theorem dX9_isWithin_6 : decode cX9_isWithin 6 = .ok (.iload_n 2, 1) := by decide +kernel
theorem dX9_isWithin_7 : decode cX9_isWithin 7 = .ok (.if_icmp .gt 7, 3) := by decide +kernel
theorem dX9_isWithin_10 : decode cX9_isWithin 10 = .ok (.iconst 1, 1) := by decide +kernel
theorem dX9_isWithin_11 : decode cX9_isWithin 11 = .ok (.goto 4, 3) := by decide +kernel
theorem dX9_isWithin_14 : decode cX9_isWithin 14 = .ok (.iconst 0, 1) := by decide +kernel
theorem dX9_isWithin_15 : decode cX9_isWithin 15 = .ok (.ireturn, 1) := by decide +kernel
theorem dX9_faultOfReason_0 : decode cX9_faultOfReason 0 = .ok (.iload_n 1, 1) := by decide +kernel
theorem dX9_faultOfReason_1 : decode cX9_faultOfReason 1 = .ok (.ifCond .ne 5, 3) := by decide +kernel
theorem dX9_faultOfReason_4 : decode cX9_faultOfReason 4 = .ok (.iconst 0, 1) := by decide +kernel
theorem dX9_faultOfReason_5 : decode cX9_faultOfReason 5 = .ok (.ireturn, 1) := by decide +kernel
theorem dX9_faultOfReason_6 : decode cX9_faultOfReason 6 = .ok (.aload_n 0, 1) := by decide +kernel
theorem dX9_faultOfReason_7 : decode cX9_faultOfReason 7 = .ok (.iload_n 1, 1) := by decide +kernel
theorem dX9_faultOfReason_8 : decode cX9_faultOfReason 8 = .ok (.putfield 57, 3) := by decide +kernel
theorem dX9_faultOfReason_11 : decode cX9_faultOfReason 11 = .ok (.iconst 4, 1) := by decide +kernel
theorem dX9_faultOfReason_12 : decode cX9_faultOfReason 12 = .ok (.ireturn, 1) := by decide +kernel
theorem dX9_need_0 : decode cX9_need 0 = .ok (.iload_n 0, 1) := by decide +kernel
theorem dX9_need_1 : decode cX9_need 1 = .ok (.ifCond .ne 7, 3) := by decide +kernel
theorem dX9_need_4 : decode cX9_need 4 = .ok (.iload_n 1, 1) := by decide +kernel
theorem dX9_need_5 : decode cX9_need 5 = .ok (.invokestatic 101, 3) := by decide +kernel
theorem dX9_need_8 : decode cX9_need 8 = .ok (.return_, 1) := by decide +kernel
theorem dX9_raise_0 : decode cX9_raise 0 = .ok (.iload_n 0, 1) := by decide +kernel
theorem dX9_raise_1 : decode cX9_raise 1 = .ok (.tableswitch 90 1 5 #[35, 46, 57, 68, 79], 35) := by decide +kernel
theorem dX9_raise_36 : decode cX9_raise 36 = .ok (.new 411, 3) := by decide +kernel
theorem dX9_raise_39 : decode cX9_raise 39 = .ok (.dup, 1) := by decide +kernel
theorem dX9_raise_40 : decode cX9_raise 40 = .ok (.ldc_w 416, 3) := by decide +kernel
theorem dX9_raise_43 : decode cX9_raise 43 = .ok (.invokespecial 415, 3) := by decide +kernel
theorem dX9_raise_46 : decode cX9_raise 46 = .ok (.athrow, 1) := by decide +kernel
theorem dX9_raise_47 : decode cX9_raise 47 = .ok (.new 148, 3) := by decide +kernel
theorem dX9_raise_50 : decode cX9_raise 50 = .ok (.dup, 1) := by decide +kernel
theorem dX9_raise_51 : decode cX9_raise 51 = .ok (.ldc_w 418, 3) := by decide +kernel
theorem dX9_raise_54 : decode cX9_raise 54 = .ok (.invokespecial 152, 3) := by decide +kernel
theorem dX9_raise_57 : decode cX9_raise 57 = .ok (.athrow, 1) := by decide +kernel
theorem dX9_raise_58 : decode cX9_raise 58 = .ok (.new 355, 3) := by decide +kernel
theorem dX9_raise_61 : decode cX9_raise 61 = .ok (.dup, 1) := by decide +kernel
theorem dX9_raise_62 : decode cX9_raise 62 = .ok (.ldc_w 420, 3) := by decide +kernel
theorem dX9_raise_65 : decode cX9_raise 65 = .ok (.invokespecial 359, 3) := by decide +kernel
theorem dX9_raise_68 : decode cX9_raise 68 = .ok (.athrow, 1) := by decide +kernel
theorem dX9_raise_69 : decode cX9_raise 69 = .ok (.new 422, 3) := by decide +kernel
theorem dX9_raise_72 : decode cX9_raise 72 = .ok (.dup, 1) := by decide +kernel
theorem dX9_raise_73 : decode cX9_raise 73 = .ok (.ldc_w 424, 3) := by decide +kernel
theorem dX9_raise_76 : decode cX9_raise 76 = .ok (.invokespecial 426, 3) := by decide +kernel
theorem dX9_raise_79 : decode cX9_raise 79 = .ok (.athrow, 1) := by decide +kernel
theorem dX9_raise_80 : decode cX9_raise 80 = .ok (.new 427, 3) := by decide +kernel
theorem dX9_raise_83 : decode cX9_raise 83 = .ok (.dup, 1) := by decide +kernel
theorem dX9_raise_84 : decode cX9_raise 84 = .ok (.ldc_w 429, 3) := by decide +kernel
theorem dX9_raise_87 : decode cX9_raise 87 = .ok (.invokespecial 431, 3) := by decide +kernel
theorem dX9_raise_90 : decode cX9_raise 90 = .ok (.athrow, 1) := by decide +kernel
theorem dX9_raise_91 : decode cX9_raise 91 = .ok (.return_, 1) := by decide +kernel
theorem dX9_wrap_0 : decode cX9_wrap 0 = .ok (.iload_n 1, 1) := by decide +kernel
theorem dX9_wrap_1 : decode cX9_wrap 1 = .ok (.iconst 1, 1) := by decide +kernel
theorem dX9_wrap_2 : decode cX9_wrap 2 = .ok (.if_icmp .ge 5, 3) := by decide +kernel
theorem dX9_wrap_5 : decode cX9_wrap 5 = .ok (.iconst 0, 1) := by decide +kernel
theorem dX9_wrap_6 : decode cX9_wrap 6 = .ok (.ireturn, 1) := by decide +kernel
theorem dX9_wrap_7 : decode cX9_wrap 7 = .ok (.iload_n 0, 1) := by decide +kernel
theorem dX9_wrap_8 : decode cX9_wrap 8 = .ok (.iload_n 1, 1) := by decide +kernel
theorem dX9_wrap_9 : decode cX9_wrap 9 = .ok (.irem, 1) := by decide +kernel
theorem dX9_wrap_10 : decode cX9_wrap 10 = .ok (.istore_n 2, 1) := by decide +kernel
theorem dX9_wrap_11 : decode cX9_wrap 11 = .ok (.iload_n 2, 1) := by decide +kernel
theorem dX9_wrap_12 : decode cX9_wrap 12 = .ok (.ifCond .ge 9, 3) := by decide +kernel
theorem dX9_wrap_15 : decode cX9_wrap 15 = .ok (.iload_n 2, 1) := by decide +kernel
theorem dX9_wrap_16 : decode cX9_wrap 16 = .ok (.iload_n 1, 1) := by decide +kernel
theorem dX9_wrap_17 : decode cX9_wrap 17 = .ok (.iadd, 1) := by decide +kernel
theorem dX9_wrap_18 : decode cX9_wrap 18 = .ok (.goto 4, 3) := by decide +kernel
theorem dX9_wrap_21 : decode cX9_wrap 21 = .ok (.iload_n 2, 1) := by decide +kernel
theorem dX9_wrap_22 : decode cX9_wrap 22 = .ok (.ireturn, 1) := by decide +kernel
theorem dX9_gap_0 : decode cX9_gap 0 = .ok (.iload_n 2, 1) := by decide +kernel
theorem dX9_gap_1 : decode cX9_gap 1 = .ok (.iload_n 0, 1) := by decide +kernel
theorem dX9_gap_2 : decode cX9_gap 2 = .ok (.isub, 1) := by decide +kernel
theorem dX9_gap_3 : decode cX9_gap 3 = .ok (.iload_n 1, 1) := by decide +kernel
theorem dX9_gap_4 : decode cX9_gap 4 = .ok (.isub, 1) := by decide +kernel
theorem dX9_gap_5 : decode cX9_gap 5 = .ok (.iload_n 3, 1) := by decide +kernel
theorem dX9_gap_6 : decode cX9_gap 6 = .ok (.invokestatic 432, 3) := by decide +kernel
theorem dX9_gap_9 : decode cX9_gap 9 = .ok (.ireturn, 1) := by decide +kernel
theorem dX9_earlierReason_0 : decode cX9_earlierReason 0 = .ok (.iload_n 0, 1) := by decide +kernel
theorem dX9_earlierReason_1 : decode cX9_earlierReason 1 = .ok (.ifCond .eq 7, 3) := by decide +kernel
theorem dX9_earlierReason_4 : decode cX9_earlierReason 4 = .ok (.iload_n 1, 1) := by decide +kernel
theorem dX9_earlierReason_5 : decode cX9_earlierReason 5 = .ok (.ifCond .ne 9, 3) := by decide +kernel
theorem dX9_earlierReason_8 : decode cX9_earlierReason 8 = .ok (.iload_n 0, 1) := by decide +kernel
theorem dX9_earlierReason_9 : decode cX9_earlierReason 9 = .ok (.iload_n 1, 1) := by decide +kernel
theorem dX9_earlierReason_10 : decode cX9_earlierReason 10 = .ok (.invokestatic 435, 3) := by decide +kernel
theorem dX9_earlierReason_13 : decode cX9_earlierReason 13 = .ok (.ireturn, 1) := by decide +kernel
theorem dX9_earlierReason_14 : decode cX9_earlierReason 14 = .ok (.iload_n 0, 1) := by decide +kernel
theorem dX9_earlierReason_15 : decode cX9_earlierReason 15 = .ok (.iload_n 1, 1) := by decide +kernel
theorem dX9_earlierReason_16 : decode cX9_earlierReason 16 = .ok (.invokestatic 440, 3) := by decide +kernel
theorem dX9_earlierReason_19 : decode cX9_earlierReason 19 = .ok (.ireturn, 1) := by decide +kernel
theorem dX9_bitsOfShare_0 : decode cX9_bitsOfShare 0 = .ok (.fload_n 0, 1) := by decide +kernel
theorem dX9_bitsOfShare_1 : decode cX9_bitsOfShare 1 = .ok (.fconst 0, 1) := by decide +kernel
theorem dX9_bitsOfShare_2 : decode cX9_bitsOfShare 2 = .ok (.fcmp .l, 1) := by decide +kernel
theorem dX9_bitsOfShare_3 : decode cX9_bitsOfShare 3 = .ok (.ifCond .gt 5, 3) := by decide +kernel
theorem dX9_bitsOfShare_6 : decode cX9_bitsOfShare 6 = .ok (.iconst 0, 1) := by decide +kernel
theorem dX9_bitsOfShare_7 : decode cX9_bitsOfShare 7 = .ok (.ireturn, 1) := by decide +kernel
theorem dX9_bitsOfShare_8 : decode cX9_bitsOfShare 8 = .ok (.fload_n 0, 1) := by decide +kernel
theorem dX9_bitsOfShare_9 : decode cX9_bitsOfShare 9 = .ok (.fstore_n 1, 1) := by decide +kernel
theorem dX9_bitsOfShare_10 : decode cX9_bitsOfShare 10 = .ok (.bipush 127, 2) := by decide +kernel
theorem dX9_bitsOfShare_12 : decode cX9_bitsOfShare 12 = .ok (.istore_n 2, 1) := by decide +kernel
theorem dX9_bitsOfShare_13 : decode cX9_bitsOfShare 13 = .ok (.fload_n 1, 1) := by decide +kernel
theorem dX9_bitsOfShare_14 : decode cX9_bitsOfShare 14 = .ok (.fconst 1, 1) := by decide +kernel
theorem dX9_bitsOfShare_15 : decode cX9_bitsOfShare 15 = .ok (.fcmp .g, 1) := by decide +kernel
theorem dX9_bitsOfShare_16 : decode cX9_bitsOfShare 16 = .ok (.ifCond .ge 18, 3) := by decide +kernel
theorem dX9_bitsOfShare_19 : decode cX9_bitsOfShare 19 = .ok (.iload_n 2, 1) := by decide +kernel
theorem dX9_bitsOfShare_20 : decode cX9_bitsOfShare 20 = .ok (.iconst 1, 1) := by decide +kernel
theorem dX9_bitsOfShare_21 : decode cX9_bitsOfShare 21 = .ok (.if_icmp .le 13, 3) := by decide +kernel
theorem dX9_bitsOfShare_24 : decode cX9_bitsOfShare 24 = .ok (.fload_n 1, 1) := by decide +kernel
theorem dX9_bitsOfShare_25 : decode cX9_bitsOfShare 25 = .ok (.fconst 2, 1) := by decide +kernel
theorem dX9_bitsOfShare_26 : decode cX9_bitsOfShare 26 = .ok (.fmul, 1) := by decide +kernel
theorem dX9_bitsOfShare_27 : decode cX9_bitsOfShare 27 = .ok (.fstore_n 1, 1) := by decide +kernel
theorem dX9_bitsOfShare_28 : decode cX9_bitsOfShare 28 = .ok (.iinc 2 (-1), 3) := by decide +kernel
theorem dX9_bitsOfShare_31 : decode cX9_bitsOfShare 31 = .ok (.goto (-18), 3) := by decide +kernel
theorem dX9_bitsOfShare_34 : decode cX9_bitsOfShare 34 = .ok (.ldc_w 443, 3) := by decide +kernel
theorem dX9_bitsOfShare_37 : decode cX9_bitsOfShare 37 = .ok (.istore_n 3, 1) := by decide +kernel
theorem dX9_bitsOfShare_38 : decode cX9_bitsOfShare 38 = .ok (.iload_n 2, 1) := by decide +kernel
theorem dX9_bitsOfShare_39 : decode cX9_bitsOfShare 39 = .ok (.bipush 23, 2) := by decide +kernel
theorem dX9_bitsOfShare_41 : decode cX9_bitsOfShare 41 = .ok (.ishl, 1) := by decide +kernel
theorem dX9_bitsOfShare_42 : decode cX9_bitsOfShare 42 = .ok (.fload_n 1, 1) := by decide +kernel
theorem dX9_bitsOfShare_43 : decode cX9_bitsOfShare 43 = .ok (.iload_n 3, 1) := by decide +kernel
theorem dX9_bitsOfShare_44 : decode cX9_bitsOfShare 44 = .ok (.i2f, 1) := by decide +kernel
theorem dX9_bitsOfShare_45 : decode cX9_bitsOfShare 45 = .ok (.fmul, 1) := by decide +kernel
theorem dX9_bitsOfShare_46 : decode cX9_bitsOfShare 46 = .ok (.f2i, 1) := by decide +kernel
theorem dX9_bitsOfShare_47 : decode cX9_bitsOfShare 47 = .ok (.iadd, 1) := by decide +kernel
theorem dX9_bitsOfShare_48 : decode cX9_bitsOfShare 48 = .ok (.iload_n 3, 1) := by decide +kernel
theorem dX9_bitsOfShare_49 : decode cX9_bitsOfShare 49 = .ok (.isub, 1) := by decide +kernel
theorem dX9_bitsOfShare_50 : decode cX9_bitsOfShare 50 = .ok (.ireturn, 1) := by decide +kernel
theorem dJx00060_init_a7421_0 : decode cJx00060_init_a7421 0 = .ok (.aload_n 0, 1) := by decide +kernel
theorem dJx00060_init_a7421_1 : decode cJx00060_init_a7421 1 = .ok (.aload_n 1, 1) := by decide +kernel
theorem dJx00060_init_a7421_2 : decode cJx00060_init_a7421 2 = .ok (.invokespecial 7, 3) := by decide +kernel
theorem dJx00060_init_a7421_5 : decode cJx00060_init_a7421 5 = .ok (.return_, 1) := by decide +kernel
theorem dJx29ce0_ordinal_8abf5_0 : decode cJx29ce0_ordinal_8abf5 0 = .ok (.aload_n 0, 1) := by decide +kernel
theorem dJx29ce0_ordinal_8abf5_1 : decode cJx29ce0_ordinal_8abf5 1 = .ok (.getfield 7, 3) := by decide +kernel
theorem dJx29ce0_ordinal_8abf5_4 : decode cJx29ce0_ordinal_8abf5 4 = .ok (.ireturn, 1) := by decide +kernel
theorem dJxf58ca_isNaN_12338_0 : decode cJxf58ca_isNaN_12338 0 = .ok (.fload_n 0, 1) := by decide +kernel
theorem dJxf58ca_isNaN_12338_1 : decode cJxf58ca_isNaN_12338 1 = .ok (.fload_n 0, 1) := by decide +kernel
theorem dJxf58ca_isNaN_12338_2 : decode cJxf58ca_isNaN_12338 2 = .ok (.fcmp .l, 1) := by decide +kernel
theorem dJxf58ca_isNaN_12338_3 : decode cJxf58ca_isNaN_12338 3 = .ok (.ifCond .eq 7, 3) := by decide +kernel
theorem dJxf58ca_isNaN_12338_6 : decode cJxf58ca_isNaN_12338 6 = .ok (.iconst 1, 1) := by decide +kernel
theorem dJxf58ca_isNaN_12338_7 : decode cJxf58ca_isNaN_12338 7 = .ok (.goto 4, 3) := by decide +kernel
theorem dJxf58ca_isNaN_12338_10 : decode cJxf58ca_isNaN_12338 10 = .ok (.iconst 0, 1) := by decide +kernel
theorem dJxf58ca_isNaN_12338_11 : decode cJxf58ca_isNaN_12338 11 = .ok (.ireturn, 1) := by decide +kernel
theorem dJxf58ca_floatToIntBits_5c35a_0 : decode cJxf58ca_floatToIntBits_5c35a 0 = .ok (.fload_n 0, 1) := by decide +kernel
theorem dJxf58ca_floatToIntBits_5c35a_1 : decode cJxf58ca_floatToIntBits_5c35a 1 = .ok (.invokestatic 59, 3) := by decide +kernel
theorem dJxf58ca_floatToIntBits_5c35a_4 : decode cJxf58ca_floatToIntBits_5c35a 4 = .ok (.ifCond .ne 8, 3) := by decide +kernel
theorem dJxf58ca_floatToIntBits_5c35a_7 : decode cJxf58ca_floatToIntBits_5c35a 7 = .ok (.fload_n 0, 1) := by decide +kernel
theorem dJxf58ca_floatToIntBits_5c35a_8 : decode cJxf58ca_floatToIntBits_5c35a 8 = .ok (.invokestatic 74, 3) := by decide +kernel
theorem dJxf58ca_floatToIntBits_5c35a_11 : decode cJxf58ca_floatToIntBits_5c35a 11 = .ok (.ireturn, 1) := by decide +kernel
theorem dJxf58ca_floatToIntBits_5c35a_12 : decode cJxf58ca_floatToIntBits_5c35a 12 = .ok (.ldc 77, 2) := by decide +kernel
theorem dJxf58ca_floatToIntBits_5c35a_14 : decode cJxf58ca_floatToIntBits_5c35a 14 = .ok (.ireturn, 1) := by decide +kernel
theorem dJ6_bitCount_0f7a4_0 : decode cJ6_bitCount_0f7a4 0 = .ok (.iload_n 0, 1) := by decide +kernel
theorem dJ6_bitCount_0f7a4_1 : decode cJ6_bitCount_0f7a4 1 = .ok (.iload_n 0, 1) := by decide +kernel
theorem dJ6_bitCount_0f7a4_2 : decode cJ6_bitCount_0f7a4 2 = .ok (.iconst 1, 1) := by decide +kernel
theorem dJ6_bitCount_0f7a4_3 : decode cJ6_bitCount_0f7a4 3 = .ok (.iushr, 1) := by decide +kernel
theorem dJ6_bitCount_0f7a4_4 : decode cJ6_bitCount_0f7a4 4 = .ok (.ldc_w 265, 3) := by decide +kernel
theorem dJ6_bitCount_0f7a4_7 : decode cJ6_bitCount_0f7a4 7 = .ok (.iand, 1) := by decide +kernel
theorem dJ6_bitCount_0f7a4_8 : decode cJ6_bitCount_0f7a4 8 = .ok (.isub, 1) := by decide +kernel
theorem dJ6_bitCount_0f7a4_9 : decode cJ6_bitCount_0f7a4 9 = .ok (.istore_n 0, 1) := by decide +kernel
theorem dJ6_bitCount_0f7a4_10 : decode cJ6_bitCount_0f7a4 10 = .ok (.iload_n 0, 1) := by decide +kernel
theorem dJ6_bitCount_0f7a4_11 : decode cJ6_bitCount_0f7a4 11 = .ok (.ldc_w 266, 3) := by decide +kernel
theorem dJ6_bitCount_0f7a4_14 : decode cJ6_bitCount_0f7a4 14 = .ok (.iand, 1) := by decide +kernel
theorem dJ6_bitCount_0f7a4_15 : decode cJ6_bitCount_0f7a4 15 = .ok (.iload_n 0, 1) := by decide +kernel
theorem dJ6_bitCount_0f7a4_16 : decode cJ6_bitCount_0f7a4 16 = .ok (.iconst 2, 1) := by decide +kernel
theorem dJ6_bitCount_0f7a4_17 : decode cJ6_bitCount_0f7a4 17 = .ok (.iushr, 1) := by decide +kernel
theorem dJ6_bitCount_0f7a4_18 : decode cJ6_bitCount_0f7a4 18 = .ok (.ldc_w 266, 3) := by decide +kernel
theorem dJ6_bitCount_0f7a4_21 : decode cJ6_bitCount_0f7a4 21 = .ok (.iand, 1) := by decide +kernel
theorem dJ6_bitCount_0f7a4_22 : decode cJ6_bitCount_0f7a4 22 = .ok (.iadd, 1) := by decide +kernel
theorem dJ6_bitCount_0f7a4_23 : decode cJ6_bitCount_0f7a4 23 = .ok (.istore_n 0, 1) := by decide +kernel
theorem dJ6_bitCount_0f7a4_24 : decode cJ6_bitCount_0f7a4 24 = .ok (.iload_n 0, 1) := by decide +kernel
theorem dJ6_bitCount_0f7a4_25 : decode cJ6_bitCount_0f7a4 25 = .ok (.iload_n 0, 1) := by decide +kernel
theorem dJ6_bitCount_0f7a4_26 : decode cJ6_bitCount_0f7a4 26 = .ok (.iconst 4, 1) := by decide +kernel
theorem dJ6_bitCount_0f7a4_27 : decode cJ6_bitCount_0f7a4 27 = .ok (.iushr, 1) := by decide +kernel
theorem dJ6_bitCount_0f7a4_28 : decode cJ6_bitCount_0f7a4 28 = .ok (.iadd, 1) := by decide +kernel
theorem dJ6_bitCount_0f7a4_29 : decode cJ6_bitCount_0f7a4 29 = .ok (.ldc_w 267, 3) := by decide +kernel
theorem dJ6_bitCount_0f7a4_32 : decode cJ6_bitCount_0f7a4 32 = .ok (.iand, 1) := by decide +kernel
theorem dJ6_bitCount_0f7a4_33 : decode cJ6_bitCount_0f7a4 33 = .ok (.istore_n 0, 1) := by decide +kernel
theorem dJ6_bitCount_0f7a4_34 : decode cJ6_bitCount_0f7a4 34 = .ok (.iload_n 0, 1) := by decide +kernel
theorem dJ6_bitCount_0f7a4_35 : decode cJ6_bitCount_0f7a4 35 = .ok (.iload_n 0, 1) := by decide +kernel
theorem dJ6_bitCount_0f7a4_36 : decode cJ6_bitCount_0f7a4 36 = .ok (.bipush 8, 2) := by decide +kernel
theorem dJ6_bitCount_0f7a4_38 : decode cJ6_bitCount_0f7a4 38 = .ok (.iushr, 1) := by decide +kernel
theorem dJ6_bitCount_0f7a4_39 : decode cJ6_bitCount_0f7a4 39 = .ok (.iadd, 1) := by decide +kernel
theorem dJ6_bitCount_0f7a4_40 : decode cJ6_bitCount_0f7a4 40 = .ok (.istore_n 0, 1) := by decide +kernel
theorem dJ6_bitCount_0f7a4_41 : decode cJ6_bitCount_0f7a4 41 = .ok (.iload_n 0, 1) := by decide +kernel
theorem dJ6_bitCount_0f7a4_42 : decode cJ6_bitCount_0f7a4 42 = .ok (.iload_n 0, 1) := by decide +kernel
theorem dJ6_bitCount_0f7a4_43 : decode cJ6_bitCount_0f7a4 43 = .ok (.bipush 16, 2) := by decide +kernel
theorem dJ6_bitCount_0f7a4_45 : decode cJ6_bitCount_0f7a4 45 = .ok (.iushr, 1) := by decide +kernel
theorem dJ6_bitCount_0f7a4_46 : decode cJ6_bitCount_0f7a4 46 = .ok (.iadd, 1) := by decide +kernel
theorem dJ6_bitCount_0f7a4_47 : decode cJ6_bitCount_0f7a4 47 = .ok (.istore_n 0, 1) := by decide +kernel
theorem dJ6_bitCount_0f7a4_48 : decode cJ6_bitCount_0f7a4 48 = .ok (.iload_n 0, 1) := by decide +kernel
theorem dJ6_bitCount_0f7a4_49 : decode cJ6_bitCount_0f7a4 49 = .ok (.bipush 63, 2) := by decide +kernel
theorem dJ6_bitCount_0f7a4_51 : decode cJ6_bitCount_0f7a4 51 = .ok (.iand, 1) := by decide +kernel
theorem dJ6_bitCount_0f7a4_52 : decode cJ6_bitCount_0f7a4 52 = .ok (.ireturn, 1) := by decide +kernel
theorem dJ9_floorMod_7cf53_0 : decode cJ9_floorMod_7cf53 0 = .ok (.iload_n 0, 1) := by decide +kernel
theorem dJ9_floorMod_7cf53_1 : decode cJ9_floorMod_7cf53 1 = .ok (.iload_n 1, 1) := by decide +kernel
theorem dJ9_floorMod_7cf53_2 : decode cJ9_floorMod_7cf53 2 = .ok (.irem, 1) := by decide +kernel
theorem dJ9_floorMod_7cf53_3 : decode cJ9_floorMod_7cf53 3 = .ok (.istore_n 2, 1) := by decide +kernel
theorem dJ9_floorMod_7cf53_4 : decode cJ9_floorMod_7cf53 4 = .ok (.iload_n 0, 1) := by decide +kernel
theorem dJ9_floorMod_7cf53_5 : decode cJ9_floorMod_7cf53 5 = .ok (.iload_n 1, 1) := by decide +kernel
theorem dJ9_floorMod_7cf53_6 : decode cJ9_floorMod_7cf53 6 = .ok (.ixor, 1) := by decide +kernel
theorem dJ9_floorMod_7cf53_7 : decode cJ9_floorMod_7cf53 7 = .ok (.ifCond .ge 11, 3) := by decide +kernel
theorem dJ9_floorMod_7cf53_10 : decode cJ9_floorMod_7cf53 10 = .ok (.iload_n 2, 1) := by decide +kernel
theorem dJ9_floorMod_7cf53_11 : decode cJ9_floorMod_7cf53 11 = .ok (.ifCond .eq 7, 3) := by decide +kernel
theorem dJ9_floorMod_7cf53_14 : decode cJ9_floorMod_7cf53 14 = .ok (.iload_n 2, 1) := by decide +kernel
theorem dJ9_floorMod_7cf53_15 : decode cJ9_floorMod_7cf53 15 = .ok (.iload_n 1, 1) := by decide +kernel
theorem dJ9_floorMod_7cf53_16 : decode cJ9_floorMod_7cf53 16 = .ok (.iadd, 1) := by decide +kernel
theorem dJ9_floorMod_7cf53_17 : decode cJ9_floorMod_7cf53 17 = .ok (.ireturn, 1) := by decide +kernel
theorem dJ9_floorMod_7cf53_18 : decode cJ9_floorMod_7cf53 18 = .ok (.iload_n 2, 1) := by decide +kernel
theorem dJ9_floorMod_7cf53_19 : decode cJ9_floorMod_7cf53 19 = .ok (.ireturn, 1) := by decide +kernel
theorem dJ9_abs_0f7a4_0 : decode cJ9_abs_0f7a4 0 = .ok (.iload_n 0, 1) := by decide +kernel
theorem dJ9_abs_0f7a4_1 : decode cJ9_abs_0f7a4 1 = .ok (.ifCond .ge 8, 3) := by decide +kernel
theorem dJ9_abs_0f7a4_4 : decode cJ9_abs_0f7a4 4 = .ok (.iload_n 0, 1) := by decide +kernel
theorem dJ9_abs_0f7a4_5 : decode cJ9_abs_0f7a4 5 = .ok (.ineg, 1) := by decide +kernel
theorem dJ9_abs_0f7a4_6 : decode cJ9_abs_0f7a4 6 = .ok (.goto 4, 3) := by decide +kernel
theorem dJ9_abs_0f7a4_9 : decode cJ9_abs_0f7a4 9 = .ok (.iload_n 0, 1) := by decide +kernel
theorem dJ9_abs_0f7a4_10 : decode cJ9_abs_0f7a4 10 = .ok (.ireturn, 1) := by decide +kernel
theorem dJ9_max_7cf53_0 : decode cJ9_max_7cf53 0 = .ok (.iload_n 0, 1) := by decide +kernel
theorem dJ9_max_7cf53_1 : decode cJ9_max_7cf53 1 = .ok (.iload_n 1, 1) := by decide +kernel
theorem dJ9_max_7cf53_2 : decode cJ9_max_7cf53 2 = .ok (.if_icmp .lt 7, 3) := by decide +kernel
theorem dJ9_max_7cf53_5 : decode cJ9_max_7cf53 5 = .ok (.iload_n 0, 1) := by decide +kernel
theorem dJ9_max_7cf53_6 : decode cJ9_max_7cf53 6 = .ok (.goto 4, 3) := by decide +kernel
theorem dJ9_max_7cf53_9 : decode cJ9_max_7cf53 9 = .ok (.iload_n 1, 1) := by decide +kernel
theorem dJ9_max_7cf53_10 : decode cJ9_max_7cf53 10 = .ok (.ireturn, 1) := by decide +kernel
theorem dJ9_min_7cf53_0 : decode cJ9_min_7cf53 0 = .ok (.iload_n 0, 1) := by decide +kernel
theorem dJ9_min_7cf53_1 : decode cJ9_min_7cf53 1 = .ok (.iload_n 1, 1) := by decide +kernel
theorem dJ9_min_7cf53_2 : decode cJ9_min_7cf53 2 = .ok (.if_icmp .gt 7, 3) := by decide +kernel
theorem dJ9_min_7cf53_5 : decode cJ9_min_7cf53 5 = .ok (.iload_n 0, 1) := by decide +kernel
theorem dJ9_min_7cf53_6 : decode cJ9_min_7cf53 6 = .ok (.goto 4, 3) := by decide +kernel
theorem dJ9_min_7cf53_9 : decode cJ9_min_7cf53 9 = .ok (.iload_n 1, 1) := by decide +kernel
theorem dJ9_min_7cf53_10 : decode cJ9_min_7cf53 10 = .ok (.ireturn, 1) := by decide +kernel
theorem dJ0_length_8abf5_0 : decode cJ0_length_8abf5 0 = .ok (.aload_n 0, 1) := by decide +kernel
theorem dJ0_length_8abf5_1 : decode cJ0_length_8abf5 1 = .ok (.getfield 9, 3) := by decide +kernel
theorem dJ0_length_8abf5_4 : decode cJ0_length_8abf5 4 = .ok (.arraylength, 1) := by decide +kernel
theorem dJ0_length_8abf5_5 : decode cJ0_length_8abf5 5 = .ok (.aload_n 0, 1) := by decide +kernel
theorem dJ0_length_8abf5_6 : decode cJ0_length_8abf5 6 = .ok (.invokevirtual 335, 3) := by decide +kernel
theorem dJ0_length_8abf5_9 : decode cJ0_length_8abf5 9 = .ok (.ishr, 1) := by decide +kernel
theorem dJ0_length_8abf5_10 : decode cJ0_length_8abf5 10 = .ok (.ireturn, 1) := by decide +kernel
theorem dJ0_charAt_5068e_0 : decode cJ0_charAt_5068e 0 = .ok (.aload_n 0, 1) := by decide +kernel
theorem dJ0_charAt_5068e_1 : decode cJ0_charAt_5068e 1 = .ok (.invokevirtual 492, 3) := by decide +kernel
theorem dJ0_charAt_5068e_4 : decode cJ0_charAt_5068e 4 = .ok (.ifCond .eq 12, 3) := by decide +kernel
theorem dJ0_charAt_5068e_7 : decode cJ0_charAt_5068e 7 = .ok (.aload_n 0, 1) := by decide +kernel
theorem dJ0_charAt_5068e_8 : decode cJ0_charAt_5068e 8 = .ok (.getfield 9, 3) := by decide +kernel
theorem dJ0_charAt_5068e_11 : decode cJ0_charAt_5068e 11 = .ok (.iload_n 1, 1) := by decide +kernel
theorem dJ0_charAt_5068e_12 : decode cJ0_charAt_5068e 12 = .ok (.invokestatic 495, 3) := by decide +kernel
theorem dJ0_charAt_5068e_15 : decode cJ0_charAt_5068e 15 = .ok (.ireturn, 1) := by decide +kernel
theorem dJ0_charAt_5068e_16 : decode cJ0_charAt_5068e 16 = .ok (.aload_n 0, 1) := by decide +kernel
theorem dJ0_charAt_5068e_17 : decode cJ0_charAt_5068e 17 = .ok (.getfield 9, 3) := by decide +kernel
theorem dJ0_charAt_5068e_20 : decode cJ0_charAt_5068e 20 = .ok (.iload_n 1, 1) := by decide +kernel
theorem dJ0_charAt_5068e_21 : decode cJ0_charAt_5068e 21 = .ok (.invokestatic 498, 3) := by decide +kernel
theorem dJ0_charAt_5068e_24 : decode cJ0_charAt_5068e 24 = .ok (.ireturn, 1) := by decide +kernel
theorem dJ0_coder_7d493_0 : decode cJ0_coder_7d493 0 = .ok (.getstatic 38, 3) := by decide +kernel
theorem dJ0_coder_7d493_3 : decode cJ0_coder_7d493 3 = .ok (.ifCond .eq 10, 3) := by decide +kernel
theorem dJ0_coder_7d493_6 : decode cJ0_coder_7d493 6 = .ok (.aload_n 0, 1) := by decide +kernel
theorem dJ0_coder_7d493_7 : decode cJ0_coder_7d493 7 = .ok (.getfield 15, 3) := by decide +kernel
theorem dJ0_coder_7d493_10 : decode cJ0_coder_7d493 10 = .ok (.goto 4, 3) := by decide +kernel
theorem dJ0_coder_7d493_13 : decode cJ0_coder_7d493 13 = .ok (.iconst 1, 1) := by decide +kernel
theorem dJ0_coder_7d493_14 : decode cJ0_coder_7d493 14 = .ok (.ireturn, 1) := by decide +kernel
theorem dJ0_isLatin1_aae02_0 : decode cJ0_isLatin1_aae02 0 = .ok (.getstatic 38, 3) := by decide +kernel
theorem dJ0_isLatin1_aae02_3 : decode cJ0_isLatin1_aae02 3 = .ok (.ifCond .eq 14, 3) := by decide +kernel
theorem dJ0_isLatin1_aae02_6 : decode cJ0_isLatin1_aae02 6 = .ok (.aload_n 0, 1) := by decide +kernel
theorem dJ0_isLatin1_aae02_7 : decode cJ0_isLatin1_aae02 7 = .ok (.getfield 15, 3) := by decide +kernel
theorem dJ0_isLatin1_aae02_10 : decode cJ0_isLatin1_aae02 10 = .ok (.ifCond .ne 7, 3) := by decide +kernel
theorem dJ0_isLatin1_aae02_13 : decode cJ0_isLatin1_aae02 13 = .ok (.iconst 1, 1) := by decide +kernel
theorem dJ0_isLatin1_aae02_14 : decode cJ0_isLatin1_aae02 14 = .ok (.goto 4, 3) := by decide +kernel
theorem dJ0_isLatin1_aae02_17 : decode cJ0_isLatin1_aae02 17 = .ok (.iconst 0, 1) := by decide +kernel
theorem dJ0_isLatin1_aae02_18 : decode cJ0_isLatin1_aae02 18 = .ok (.ireturn, 1) := by decide +kernel
theorem dJ0_checkIndex_df160_0 : decode cJ0_checkIndex_df160 0 = .ok (.iload_n 0, 1) := by decide +kernel
theorem dJ0_checkIndex_df160_1 : decode cJ0_checkIndex_df160 1 = .ok (.iload_n 1, 1) := by decide +kernel
theorem dJ0_checkIndex_df160_2 : decode cJ0_checkIndex_df160 2 = .ok (.getstatic 1053, 3) := by decide +kernel
theorem dJ0_checkIndex_df160_5 : decode cJ0_checkIndex_df160 5 = .ok (.invokestatic 1059, 3) := by decide +kernel
theorem dJ0_checkIndex_df160_8 : decode cJ0_checkIndex_df160 8 = .ok (.pop, 1) := by decide +kernel
theorem dJ0_checkIndex_df160_9 : decode cJ0_checkIndex_df160 9 = .ok (.return_, 1) := by decide +kernel
theorem dJ1_charAt_3b067_0 : decode cJ1_charAt_3b067 0 = .ok (.iload_n 1, 1) := by decide +kernel
theorem dJ1_charAt_3b067_1 : decode cJ1_charAt_3b067 1 = .ok (.aload_n 0, 1) := by decide +kernel
theorem dJ1_charAt_3b067_2 : decode cJ1_charAt_3b067 2 = .ok (.arraylength, 1) := by decide +kernel
theorem dJ1_charAt_3b067_3 : decode cJ1_charAt_3b067 3 = .ok (.invokestatic 9, 3) := by decide +kernel
theorem dJ1_charAt_3b067_6 : decode cJ1_charAt_3b067 6 = .ok (.aload_n 0, 1) := by decide +kernel
theorem dJ1_charAt_3b067_7 : decode cJ1_charAt_3b067 7 = .ok (.iload_n 1, 1) := by decide +kernel
theorem dJ1_charAt_3b067_8 : decode cJ1_charAt_3b067 8 = .ok (.baload, 1) := by decide +kernel
theorem dJ1_charAt_3b067_9 : decode cJ1_charAt_3b067 9 = .ok (.sipush 255, 3) := by decide +kernel
theorem dJ1_charAt_3b067_12 : decode cJ1_charAt_3b067 12 = .ok (.iand, 1) := by decide +kernel
theorem dJ1_charAt_3b067_13 : decode cJ1_charAt_3b067 13 = .ok (.i2c, 1) := by decide +kernel
theorem dJ1_charAt_3b067_14 : decode cJ1_charAt_3b067 14 = .ok (.ireturn, 1) := by decide +kernel
theorem dJ2_getChar_3b067_0 : decode cJ2_getChar_3b067 0 = .ok (.getstatic 44, 3) := by decide +kernel
theorem dJ2_getChar_3b067_3 : decode cJ2_getChar_3b067 3 = .ok (.ifCond .ne 25, 3) := by decide +kernel
theorem dJ2_getChar_3b067_6 : decode cJ2_getChar_3b067 6 = .ok (.iload_n 1, 1) := by decide +kernel
theorem dJ2_getChar_3b067_7 : decode cJ2_getChar_3b067 7 = .ok (.ifCond .lt 11, 3) := by decide +kernel
theorem dJ2_getChar_3b067_10 : decode cJ2_getChar_3b067 10 = .ok (.iload_n 1, 1) := by decide +kernel
theorem dJ2_getChar_3b067_11 : decode cJ2_getChar_3b067 11 = .ok (.aload_n 0, 1) := by decide +kernel
theorem dJ2_getChar_3b067_12 : decode cJ2_getChar_3b067 12 = .ok (.invokestatic 48, 3) := by decide +kernel
theorem dJ2_getChar_3b067_15 : decode cJ2_getChar_3b067 15 = .ok (.if_icmp .lt 13, 3) := by decide +kernel
theorem dJ2_getChar_3b067_18 : decode cJ2_getChar_3b067 18 = .ok (.new 52, 3) := by decide +kernel
theorem dJ2_getChar_3b067_21 : decode cJ2_getChar_3b067 21 = .ok (.dup, 1) := by decide +kernel
theorem dJ2_getChar_3b067_22 : decode cJ2_getChar_3b067 22 = .ok (.ldc 54, 2) := by decide +kernel
theorem dJ2_getChar_3b067_24 : decode cJ2_getChar_3b067 24 = .ok (.invokespecial 56, 3) := by decide +kernel
theorem dJ2_getChar_3b067_27 : decode cJ2_getChar_3b067 27 = .ok (.athrow, 1) := by decide +kernel
theorem dJ2_getChar_3b067_28 : decode cJ2_getChar_3b067 28 = .ok (.iload_n 1, 1) := by decide +kernel
theorem dJ2_getChar_3b067_29 : decode cJ2_getChar_3b067 29 = .ok (.iconst 1, 1) := by decide +kernel
theorem dJ2_getChar_3b067_30 : decode cJ2_getChar_3b067 30 = .ok (.ishl, 1) := by decide +kernel
theorem dJ2_getChar_3b067_31 : decode cJ2_getChar_3b067 31 = .ok (.istore_n 1, 1) := by decide +kernel
theorem dJ2_getChar_3b067_32 : decode cJ2_getChar_3b067 32 = .ok (.aload_n 0, 1) := by decide +kernel
theorem dJ2_getChar_3b067_33 : decode cJ2_getChar_3b067 33 = .ok (.iload_n 1, 1) := by decide +kernel
theorem dJ2_getChar_3b067_34 : decode cJ2_getChar_3b067 34 = .ok (.iinc 1 1, 3) := by decide +kernel
theorem dJ2_getChar_3b067_37 : decode cJ2_getChar_3b067 37 = .ok (.baload, 1) := by decide +kernel
theorem dJ2_getChar_3b067_38 : decode cJ2_getChar_3b067 38 = .ok (.sipush 255, 3) := by decide +kernel
theorem dJ2_getChar_3b067_41 : decode cJ2_getChar_3b067 41 = .ok (.iand, 1) := by decide +kernel
theorem dJ2_getChar_3b067_42 : decode cJ2_getChar_3b067 42 = .ok (.getstatic 59, 3) := by decide +kernel
theorem dJ2_getChar_3b067_45 : decode cJ2_getChar_3b067 45 = .ok (.ishl, 1) := by decide +kernel
theorem dJ2_getChar_3b067_46 : decode cJ2_getChar_3b067 46 = .ok (.aload_n 0, 1) := by decide +kernel
theorem dJ2_getChar_3b067_47 : decode cJ2_getChar_3b067 47 = .ok (.iload_n 1, 1) := by decide +kernel
theorem dJ2_getChar_3b067_48 : decode cJ2_getChar_3b067 48 = .ok (.baload, 1) := by decide +kernel
theorem dJ2_getChar_3b067_49 : decode cJ2_getChar_3b067 49 = .ok (.sipush 255, 3) := by decide +kernel
theorem dJ2_getChar_3b067_52 : decode cJ2_getChar_3b067 52 = .ok (.iand, 1) := by decide +kernel
theorem dJ2_getChar_3b067_53 : decode cJ2_getChar_3b067 53 = .ok (.getstatic 63, 3) := by decide +kernel
theorem dJ2_getChar_3b067_56 : decode cJ2_getChar_3b067 56 = .ok (.ishl, 1) := by decide +kernel
theorem dJ2_getChar_3b067_57 : decode cJ2_getChar_3b067 57 = .ok (.ior, 1) := by decide +kernel
theorem dJ2_getChar_3b067_58 : decode cJ2_getChar_3b067 58 = .ok (.i2c, 1) := by decide +kernel
theorem dJ2_getChar_3b067_59 : decode cJ2_getChar_3b067 59 = .ok (.ireturn, 1) := by decide +kernel
theorem dJ2_length_9d52b_0 : decode cJ2_length_9d52b 0 = .ok (.aload_n 0, 1) := by decide +kernel
theorem dJ2_length_9d52b_1 : decode cJ2_length_9d52b 1 = .ok (.arraylength, 1) := by decide +kernel
theorem dJ2_length_9d52b_2 : decode cJ2_length_9d52b 2 = .ok (.iconst 1, 1) := by decide +kernel
theorem dJ2_length_9d52b_3 : decode cJ2_length_9d52b 3 = .ok (.ishr, 1) := by decide +kernel
theorem dJ2_length_9d52b_4 : decode cJ2_length_9d52b 4 = .ok (.ireturn, 1) := by decide +kernel
theorem dJ2_charAt_3b067_0 : decode cJ2_charAt_3b067 0 = .ok (.iload_n 1, 1) := by decide +kernel
theorem dJ2_charAt_3b067_1 : decode cJ2_charAt_3b067 1 = .ok (.aload_n 0, 1) := by decide +kernel
theorem dJ2_charAt_3b067_2 : decode cJ2_charAt_3b067 2 = .ok (.invokestatic 67, 3) := by decide +kernel
theorem dJ2_charAt_3b067_5 : decode cJ2_charAt_3b067 5 = .ok (.aload_n 0, 1) := by decide +kernel
theorem dJ2_charAt_3b067_6 : decode cJ2_charAt_3b067 6 = .ok (.iload_n 1, 1) := by decide +kernel
theorem dJ2_charAt_3b067_7 : decode cJ2_charAt_3b067 7 = .ok (.invokestatic 71, 3) := by decide +kernel
theorem dJ2_charAt_3b067_10 : decode cJ2_charAt_3b067 10 = .ok (.ireturn, 1) := by decide +kernel
theorem dJ2_checkIndex_2214a_0 : decode cJ2_checkIndex_2214a 0 = .ok (.iload_n 0, 1) := by decide +kernel
theorem dJ2_checkIndex_2214a_1 : decode cJ2_checkIndex_2214a 1 = .ok (.aload_n 1, 1) := by decide +kernel
theorem dJ2_checkIndex_2214a_2 : decode cJ2_checkIndex_2214a 2 = .ok (.invokestatic 48, 3) := by decide +kernel
theorem dJ2_checkIndex_2214a_5 : decode cJ2_checkIndex_2214a 5 = .ok (.invokestatic 414, 3) := by decide +kernel
theorem dJ2_checkIndex_2214a_8 : decode cJ2_checkIndex_2214a 8 = .ok (.return_, 1) := by decide +kernel
theorem dJ7_fill_53178_0 : decode cJ7_fill_53178 0 = .ok (.iconst 0, 1) := by decide +kernel
theorem dJ7_fill_53178_1 : decode cJ7_fill_53178 1 = .ok (.istore_n 2, 1) := by decide +kernel
theorem dJ7_fill_53178_2 : decode cJ7_fill_53178 2 = .ok (.aload_n 0, 1) := by decide +kernel
theorem dJ7_fill_53178_3 : decode cJ7_fill_53178 3 = .ok (.arraylength, 1) := by decide +kernel
theorem dJ7_fill_53178_4 : decode cJ7_fill_53178 4 = .ok (.istore_n 3, 1) := by decide +kernel
theorem dJ7_fill_53178_5 : decode cJ7_fill_53178 5 = .ok (.iload_n 2, 1) := by decide +kernel
theorem dJ7_fill_53178_6 : decode cJ7_fill_53178 6 = .ok (.iload_n 3, 1) := by decide +kernel
theorem dJ7_fill_53178_7 : decode cJ7_fill_53178 7 = .ok (.if_icmp .ge 13, 3) := by decide +kernel
theorem dJ7_fill_53178_10 : decode cJ7_fill_53178 10 = .ok (.aload_n 0, 1) := by decide +kernel
theorem dJ7_fill_53178_11 : decode cJ7_fill_53178 11 = .ok (.iload_n 2, 1) := by decide +kernel
theorem dJ7_fill_53178_12 : decode cJ7_fill_53178 12 = .ok (.iload_n 1, 1) := by decide +kernel
theorem dJ7_fill_53178_13 : decode cJ7_fill_53178 13 = .ok (.iastore, 1) := by decide +kernel
theorem dJ7_fill_53178_14 : decode cJ7_fill_53178 14 = .ok (.iinc 2 1, 3) := by decide +kernel
theorem dJ7_fill_53178_17 : decode cJ7_fill_53178 17 = .ok (.goto (-12), 3) := by decide +kernel
theorem dJ7_fill_53178_20 : decode cJ7_fill_53178 20 = .ok (.return_, 1) := by decide +kernel
theorem dJ3_checkIndex_8e157_0 : decode cJ3_checkIndex_8e157 0 = .ok (.iload_n 0, 1) := by decide +kernel
theorem dJ3_checkIndex_8e157_1 : decode cJ3_checkIndex_8e157 1 = .ok (.ifCond .lt 8, 3) := by decide +kernel
theorem dJ3_checkIndex_8e157_4 : decode cJ3_checkIndex_8e157 4 = .ok (.iload_n 0, 1) := by decide +kernel
theorem dJ3_checkIndex_8e157_5 : decode cJ3_checkIndex_8e157 5 = .ok (.iload_n 1, 1) := by decide +kernel
theorem dJ3_checkIndex_8e157_6 : decode cJ3_checkIndex_8e157 6 = .ok (.if_icmp .lt 10, 3) := by decide +kernel
theorem dJ3_checkIndex_8e157_9 : decode cJ3_checkIndex_8e157 9 = .ok (.aload_n 2, 1) := by decide +kernel
theorem dJ3_checkIndex_8e157_10 : decode cJ3_checkIndex_8e157 10 = .ok (.iload_n 0, 1) := by decide +kernel
theorem dJ3_checkIndex_8e157_11 : decode cJ3_checkIndex_8e157 11 = .ok (.iload_n 1, 1) := by decide +kernel
theorem dJ3_checkIndex_8e157_12 : decode cJ3_checkIndex_8e157 12 = .ok (.invokestatic 95, 3) := by decide +kernel
theorem dJ3_checkIndex_8e157_15 : decode cJ3_checkIndex_8e157 15 = .ok (.athrow, 1) := by decide +kernel
theorem dJ3_checkIndex_8e157_16 : decode cJ3_checkIndex_8e157 16 = .ok (.iload_n 0, 1) := by decide +kernel
theorem dJ3_checkIndex_8e157_17 : decode cJ3_checkIndex_8e157 17 = .ok (.ireturn, 1) := by decide +kernel
