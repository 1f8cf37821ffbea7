theorem dX10_shows_16 : decode cX10_shows 16 = .ok (.invokevirtual 53, 3) := by decide +kernel
theorem dX10_shows_19 : decode cX10_shows 19 = .ok (.ireturn, 1) := by decide +kernel
theorem dX10_shows_20 : decode cX10_shows 20 = .ok (.iload_n 3, 1) := by decide +kernel
theorem dX10_shows_21 : decode cX10_shows 21 = .ok (.iconst 0, 1) := by decide +kernel
theorem dX10_shows_22 : decode cX10_shows 22 = .ok (.aload_n 0, 1) := by decide +kernel
theorem dX10_shows_23 : decode cX10_shows 23 = .ok (.getfield 9, 3) := by decide +kernel
theorem dX10_shows_26 : decode cX10_shows 26 = .ok (.iconst 0, 1) := by decide +kernel
theorem dX10_shows_27 : decode cX10_shows 27 = .ok (.iaload, 1) := by decide +kernel
theorem dX10_shows_28 : decode cX10_shows 28 = .ok (.iconst 1, 1) := by decide +kernel
theorem dX10_shows_29 : decode cX10_shows 29 = .ok (.isub, 1) := by decide +kernel
theorem dX10_shows_30 : decode cX10_shows 30 = .ok (.invokestatic 70, 3) := by decide +kernel
theorem dX10_shows_33 : decode cX10_shows 33 = .ok (.ifCond .eq 13, 3) := by decide +kernel
theorem dX10_shows_36 : decode cX10_shows 36 = .ok (.aload_n 0, 1) := by decide +kernel
theorem dX10_shows_37 : decode cX10_shows 37 = .ok (.iload_n 1, 1) := by decide +kernel
theorem dX10_shows_38 : decode cX10_shows 38 = .ok (.iload_n 2, 1) := by decide +kernel
theorem dX10_shows_39 : decode cX10_shows 39 = .ok (.iload_n 3, 1) := by decide +kernel
theorem dX10_shows_40 : decode cX10_shows 40 = .ok (.invokevirtual 188, 3) := by decide +kernel
theorem dX10_shows_43 : decode cX10_shows 43 = .ok (.goto 8, 3) := by decide +kernel
theorem dX10_shows_46 : decode cX10_shows 46 = .ok (.aload_n 0, 1) := by decide +kernel
theorem dX10_shows_47 : decode cX10_shows 47 = .ok (.iconst 2, 1) := by decide +kernel
theorem dX10_shows_48 : decode cX10_shows 48 = .ok (.invokevirtual 53, 3) := by decide +kernel
theorem dX10_shows_51 : decode cX10_shows 51 = .ok (.ireturn, 1) := by decide +kernel
theorem dX10_picture_0 : decode cX10_picture 0 = .ok (.aload_n 0, 1) := by decide +kernel
theorem dX10_picture_1 : decode cX10_picture 1 = .ok (.iconst 0, 1) := by decide +kernel
theorem dX10_picture_2 : decode cX10_picture 2 = .ok (.putfield 47, 3) := by decide +kernel
theorem dX10_picture_5 : decode cX10_picture 5 = .ok (.aload_n 0, 1) := by decide +kernel
theorem dX10_picture_6 : decode cX10_picture 6 = .ok (.iload_n 1, 1) := by decide +kernel
theorem dX10_picture_7 : decode cX10_picture 7 = .ok (.iload_n 2, 1) := by decide +kernel
theorem dX10_picture_8 : decode cX10_picture 8 = .ok (.invokevirtual 165, 3) := by decide +kernel
theorem dX10_picture_11 : decode cX10_picture 11 = .ok (.ifCond .ne 9, 3) := by decide +kernel
theorem dX10_picture_14 : decode cX10_picture 14 = .ok (.aload_n 0, 1) := by decide +kernel
theorem dX10_picture_15 : decode cX10_picture 15 = .ok (.iconst 1, 1) := by decide +kernel
theorem dX10_picture_16 : decode cX10_picture 16 = .ok (.invokevirtual 53, 3) := by decide +kernel
theorem dX10_picture_19 : decode cX10_picture 19 = .ok (.ireturn, 1) := by decide +kernel
theorem dX10_picture_20 : decode cX10_picture 20 = .ok (.iconst 0, 1) := by decide +kernel
theorem dX10_picture_21 : decode cX10_picture 21 = .ok (.istore 4, 2) := by decide +kernel
theorem dX10_picture_23 : decode cX10_picture 23 = .ok (.iconst 0, 1) := by decide +kernel
theorem dX10_picture_24 : decode cX10_picture 24 = .ok (.istore 5, 2) := by decide +kernel
theorem dX10_picture_26 : decode cX10_picture 26 = .ok (.iload 5, 2) := by decide +kernel
theorem dX10_picture_28 : decode cX10_picture 28 = .ok (.aload_n 0, 1) := by decide +kernel
theorem dX10_picture_29 : decode cX10_picture 29 = .ok (.getfield 9, 3) := by decide +kernel
theorem dX10_picture_32 : decode cX10_picture 32 = .ok (.iconst 0, 1) := by decide +kernel
theorem dX10_picture_33 : decode cX10_picture 33 = .ok (.iaload, 1) := by decide +kernel
theorem dX10_picture_34 : decode cX10_picture 34 = .ok (.if_icmp .ge 60, 3) := by decide +kernel
theorem dX10_picture_37 : decode cX10_picture 37 = .ok (.aload_n 0, 1) := by decide +kernel
theorem dX10_picture_38 : decode cX10_picture 38 = .ok (.getfield 44, 3) := by decide +kernel
theorem dX10_picture_41 : decode cX10_picture 41 = .ok (.iload 4, 2) := by decide +kernel
theorem dX10_picture_43 : decode cX10_picture 43 = .ok (.aload_n 0, 1) := by decide +kernel
theorem dX10_picture_44 : decode cX10_picture 44 = .ok (.iload_n 1, 1) := by decide +kernel
theorem dX10_picture_45 : decode cX10_picture 45 = .ok (.iload_n 2, 1) := by decide +kernel
theorem dX10_picture_46 : decode cX10_picture 46 = .ok (.iload 5, 2) := by decide +kernel
theorem dX10_picture_48 : decode cX10_picture 48 = .ok (.invokevirtual 188, 3) := by decide +kernel
theorem dX10_picture_51 : decode cX10_picture 51 = .ok (.iastore, 1) := by decide +kernel
theorem dX10_picture_52 : decode cX10_picture 52 = .ok (.iconst 0, 1) := by decide +kernel
theorem dX10_picture_53 : decode cX10_picture 53 = .ok (.istore 6, 2) := by decide +kernel
theorem dX10_picture_55 : decode cX10_picture 55 = .ok (.aload_n 0, 1) := by decide +kernel
theorem dX10_picture_56 : decode cX10_picture 56 = .ok (.getfield 44, 3) := by decide +kernel
theorem dX10_picture_59 : decode cX10_picture 59 = .ok (.iload 6, 2) := by decide +kernel
theorem dX10_picture_61 : decode cX10_picture 61 = .ok (.iaload, 1) := by decide +kernel
theorem dX10_picture_62 : decode cX10_picture 62 = .ok (.aload_n 0, 1) := by decide +kernel
theorem dX10_picture_63 : decode cX10_picture 63 = .ok (.getfield 44, 3) := by decide +kernel
theorem dX10_picture_66 : decode cX10_picture 66 = .ok (.iload 4, 2) := by decide +kernel
theorem dX10_picture_68 : decode cX10_picture 68 = .ok (.iaload, 1) := by decide +kernel
theorem dX10_picture_69 : decode cX10_picture 69 = .ok (.if_icmp .eq 9, 3) := by decide +kernel
theorem dX10_picture_72 : decode cX10_picture 72 = .ok (.iinc 6 1, 3) := by decide +kernel
theorem dX10_picture_75 : decode cX10_picture 75 = .ok (.goto (-20), 3) := by decide +kernel
theorem dX10_picture_78 : decode cX10_picture 78 = .ok (.iload 6, 2) := by decide +kernel
theorem dX10_picture_80 : decode cX10_picture 80 = .ok (.iload 4, 2) := by decide +kernel
theorem dX10_picture_82 : decode cX10_picture 82 = .ok (.if_icmp .ne 6, 3) := by decide +kernel
theorem dX10_picture_85 : decode cX10_picture 85 = .ok (.iinc 4 1, 3) := by decide +kernel
theorem dX10_picture_88 : decode cX10_picture 88 = .ok (.iinc 5 1, 3) := by decide +kernel
theorem dX10_picture_91 : decode cX10_picture 91 = .ok (.goto (-65), 3) := by decide +kernel
theorem dX10_picture_94 : decode cX10_picture 94 = .ok (.iload_n 3, 1) := by decide +kernel
theorem dX10_picture_95 : decode cX10_picture 95 = .ok (.iconst (-1), 1) := by decide +kernel
theorem dX10_picture_96 : decode cX10_picture 96 = .ok (.if_icmp .ne 6, 3) := by decide +kernel
theorem dX10_picture_99 : decode cX10_picture 99 = .ok (.iload 4, 2) := by decide +kernel
theorem dX10_picture_101 : decode cX10_picture 101 = .ok (.ireturn, 1) := by decide +kernel
theorem dX10_picture_102 : decode cX10_picture 102 = .ok (.iload_n 3, 1) := by decide +kernel
theorem dX10_picture_103 : decode cX10_picture 103 = .ok (.iconst 0, 1) := by decide +kernel
theorem dX10_picture_104 : decode cX10_picture 104 = .ok (.iload 4, 2) := by decide +kernel
theorem dX10_picture_106 : decode cX10_picture 106 = .ok (.iconst 1, 1) := by decide +kernel
theorem dX10_picture_107 : decode cX10_picture 107 = .ok (.isub, 1) := by decide +kernel
theorem dX10_picture_108 : decode cX10_picture 108 = .ok (.invokestatic 70, 3) := by decide +kernel
theorem dX10_picture_111 : decode cX10_picture 111 = .ok (.ifCond .eq 12, 3) := by decide +kernel
theorem dX10_picture_114 : decode cX10_picture 114 = .ok (.aload_n 0, 1) := by decide +kernel
theorem dX10_picture_115 : decode cX10_picture 115 = .ok (.getfield 44, 3) := by decide +kernel
theorem dX10_picture_118 : decode cX10_picture 118 = .ok (.iload_n 3, 1) := by decide +kernel
theorem dX10_picture_119 : decode cX10_picture 119 = .ok (.iaload, 1) := by decide +kernel
theorem dX10_picture_120 : decode cX10_picture 120 = .ok (.goto 8, 3) := by decide +kernel
theorem dX10_picture_123 : decode cX10_picture 123 = .ok (.aload_n 0, 1) := by decide +kernel
theorem dX10_picture_124 : decode cX10_picture 124 = .ok (.iconst 2, 1) := by decide +kernel
theorem dX10_picture_125 : decode cX10_picture 125 = .ok (.invokevirtual 53, 3) := by decide +kernel
theorem dX10_picture_128 : decode cX10_picture 128 = .ok (.ireturn, 1) := by decide +kernel
theorem dX10_refusal_0 : decode cX10_refusal 0 = .ok (.aload_n 0, 1) := by decide +kernel
theorem dX10_refusal_1 : decode cX10_refusal 1 = .ok (.iconst 0, 1) := by decide +kernel
theorem dX10_refusal_2 : decode cX10_refusal 2 = .ok (.putfield 47, 3) := by decide +kernel
theorem dX10_refusal_5 : decode cX10_refusal 5 = .ok (.aload_n 0, 1) := by decide +kernel
theorem dX10_refusal_6 : decode cX10_refusal 6 = .ok (.getfield 50, 3) := by decide +kernel
theorem dX10_refusal_9 : decode cX10_refusal 9 = .ok (.ifCond .ne 11, 3) := by decide +kernel
theorem dX10_refusal_12 : decode cX10_refusal 12 = .ok (.aload_n 0, 1) := by decide +kernel
theorem dX10_refusal_13 : decode cX10_refusal 13 = .ok (.iconst 1, 1) := by decide +kernel
theorem dX10_refusal_14 : decode cX10_refusal 14 = .ok (.invokevirtual 53, 3) := by decide +kernel
theorem dX10_refusal_17 : decode cX10_refusal 17 = .ok (.goto 7, 3) := by decide +kernel
theorem dX10_refusal_20 : decode cX10_refusal 20 = .ok (.aload_n 0, 1) := by decide +kernel
theorem dX10_refusal_21 : decode cX10_refusal 21 = .ok (.getfield 50, 3) := by decide +kernel
theorem dX10_refusal_24 : decode cX10_refusal 24 = .ok (.ireturn, 1) := by decide +kernel
theorem dX10_isPossible_0 : decode cX10_isPossible 0 = .ok (.iconst 0, 1) := by decide +kernel
theorem dX10_isPossible_1 : decode cX10_isPossible 1 = .ok (.istore_n 2, 1) := by decide +kernel
theorem dX10_isPossible_2 : decode cX10_isPossible 2 = .ok (.iload_n 2, 1) := by decide +kernel
theorem dX10_isPossible_3 : decode cX10_isPossible 3 = .ok (.aload_n 0, 1) := by decide +kernel
theorem dX10_isPossible_4 : decode cX10_isPossible 4 = .ok (.getfield 9, 3) := by decide +kernel
theorem dX10_isPossible_7 : decode cX10_isPossible 7 = .ok (.iconst 2, 1) := by decide +kernel
theorem dX10_isPossible_8 : decode cX10_isPossible 8 = .ok (.iaload, 1) := by decide +kernel
theorem dX10_isPossible_9 : decode cX10_isPossible 9 = .ok (.if_icmp .ge 39, 3) := by decide +kernel
theorem dX10_isPossible_12 : decode cX10_isPossible 12 = .ok (.aload_n 0, 1) := by decide +kernel
theorem dX10_isPossible_13 : decode cX10_isPossible 13 = .ok (.iload_n 2, 1) := by decide +kernel
theorem dX10_isPossible_14 : decode cX10_isPossible 14 = .ok (.iconst 5, 1) := by decide +kernel
theorem dX10_isPossible_15 : decode cX10_isPossible 15 = .ok (.iload_n 1, 1) := by decide +kernel
theorem dX10_isPossible_16 : decode cX10_isPossible 16 = .ok (.iadd, 1) := by decide +kernel
theorem dX10_isPossible_17 : decode cX10_isPossible 17 = .ok (.invokevirtual 78, 3) := by decide +kernel
theorem dX10_isPossible_20 : decode cX10_isPossible 20 = .ok (.istore_n 3, 1) := by decide +kernel
theorem dX10_isPossible_21 : decode cX10_isPossible 21 = .ok (.iload_n 3, 1) := by decide +kernel
theorem dX10_isPossible_22 : decode cX10_isPossible 22 = .ok (.ifCond .lt 18, 3) := by decide +kernel
theorem dX10_isPossible_25 : decode cX10_isPossible 25 = .ok (.aload_n 0, 1) := by decide +kernel
theorem dX10_isPossible_26 : decode cX10_isPossible 26 = .ok (.iload_n 2, 1) := by decide +kernel
theorem dX10_isPossible_27 : decode cX10_isPossible 27 = .ok (.aload_n 0, 1) := by decide +kernel
theorem dX10_isPossible_28 : decode cX10_isPossible 28 = .ok (.iload_n 2, 1) := by decide +kernel
theorem dX10_isPossible_29 : decode cX10_isPossible 29 = .ok (.iconst 3, 1) := by decide +kernel
theorem dX10_isPossible_30 : decode cX10_isPossible 30 = .ok (.invokevirtual 78, 3) := by decide +kernel
theorem dX10_isPossible_33 : decode cX10_isPossible 33 = .ok (.iload_n 3, 1) := by decide +kernel
theorem dX10_isPossible_34 : decode cX10_isPossible 34 = .ok (.invokevirtual 96, 3) := by decide +kernel
theorem dX10_isPossible_37 : decode cX10_isPossible 37 = .ok (.ifCond .ne 5, 3) := by decide +kernel
theorem dX10_isPossible_40 : decode cX10_isPossible 40 = .ok (.iconst 0, 1) := by decide +kernel
theorem dX10_isPossible_41 : decode cX10_isPossible 41 = .ok (.ireturn, 1) := by decide +kernel
theorem dX10_isPossible_42 : decode cX10_isPossible 42 = .ok (.iinc 2 1, 3) := by decide +kernel
theorem dX10_isPossible_45 : decode cX10_isPossible 45 = .ok (.goto (-43), 3) := by decide +kernel
theorem dX10_isPossible_48 : decode cX10_isPossible 48 = .ok (.aload_n 0, 1) := by decide +kernel
theorem dX10_isPossible_49 : decode cX10_isPossible 49 = .ok (.getfield 9, 3) := by decide +kernel
theorem dX10_isPossible_52 : decode cX10_isPossible 52 = .ok (.iconst 2, 1) := by decide +kernel
theorem dX10_isPossible_53 : decode cX10_isPossible 53 = .ok (.iaload, 1) := by decide +kernel
theorem dX10_isPossible_54 : decode cX10_isPossible 54 = .ok (.ifCond .le 7, 3) := by decide +kernel
theorem dX10_isPossible_57 : decode cX10_isPossible 57 = .ok (.iconst 1, 1) := by decide +kernel
theorem dX10_isPossible_58 : decode cX10_isPossible 58 = .ok (.goto 4, 3) := by decide +kernel
theorem dX10_isPossible_61 : decode cX10_isPossible 61 = .ok (.iconst 0, 1) := by decide +kernel
theorem dX10_isPossible_62 : decode cX10_isPossible 62 = .ok (.ireturn, 1) := by decide +kernel
theorem dX10_goes_0 : decode cX10_goes 0 = .ok (.aload_n 0, 1) := by decide +kernel
theorem dX10_goes_1 : decode cX10_goes 1 = .ok (.iconst 0, 1) := by decide +kernel
theorem dX10_goes_2 : decode cX10_goes 2 = .ok (.putfield 191, 3) := by decide +kernel
theorem dX10_goes_5 : decode cX10_goes 5 = .ok (.aload_n 0, 1) := by decide +kernel
theorem dX10_goes_6 : decode cX10_goes 6 = .ok (.iconst 0, 1) := by decide +kernel
theorem dX10_goes_7 : decode cX10_goes 7 = .ok (.putfield 194, 3) := by decide +kernel
theorem dX10_goes_10 : decode cX10_goes 10 = .ok (.iload_n 2, 1) := by decide +kernel
theorem dX10_goes_11 : decode cX10_goes 11 = .ok (.istore_n 3, 1) := by decide +kernel
theorem dX10_goes_12 : decode cX10_goes 12 = .ok (.aload_n 0, 1) := by decide +kernel
theorem dX10_goes_13 : decode cX10_goes 13 = .ok (.getfield 9, 3) := by decide +kernel
theorem dX10_goes_16 : decode cX10_goes 16 = .ok (.iconst 2, 1) := by decide +kernel
theorem dX10_goes_17 : decode cX10_goes 17 = .ok (.iaload, 1) := by decide +kernel
theorem dX10_goes_18 : decode cX10_goes 18 = .ok (.istore 4, 2) := by decide +kernel
theorem dX10_goes_20 : decode cX10_goes 20 = .ok (.iconst 0, 1) := by decide +kernel
theorem dX10_goes_21 : decode cX10_goes 21 = .ok (.istore 5, 2) := by decide +kernel
theorem dX10_goes_23 : decode cX10_goes 23 = .ok (.iload 5, 2) := by decide +kernel
theorem dX10_goes_25 : decode cX10_goes 25 = .ok (.iload 4, 2) := by decide +kernel
theorem dX10_goes_27 : decode cX10_goes 27 = .ok (.if_icmp .ge 193, 3) := by decide +kernel
theorem dX10_goes_30 : decode cX10_goes 30 = .ok (.iload_n 1, 1) := by decide +kernel
theorem dX10_goes_31 : decode cX10_goes 31 = .ok (.ifCond .ne 8, 3) := by decide +kernel
theorem dX10_goes_34 : decode cX10_goes 34 = .ok (.iload 5, 2) := by decide +kernel
theorem dX10_goes_36 : decode cX10_goes 36 = .ok (.goto 10, 3) := by decide +kernel
theorem dX10_goes_39 : decode cX10_goes 39 = .ok (.iload 4, 2) := by decide +kernel
theorem dX10_goes_41 : decode cX10_goes 41 = .ok (.iconst 1, 1) := by decide +kernel
theorem dX10_goes_42 : decode cX10_goes 42 = .ok (.isub, 1) := by decide +kernel
theorem dX10_goes_43 : decode cX10_goes 43 = .ok (.iload 5, 2) := by decide +kernel
theorem dX10_goes_45 : decode cX10_goes 45 = .ok (.isub, 1) := by decide +kernel
theorem dX10_goes_46 : decode cX10_goes 46 = .ok (.istore 6, 2) := by decide +kernel
theorem dX10_goes_48 : decode cX10_goes 48 = .ok (.aload_n 0, 1) := by decide +kernel
theorem dX10_goes_49 : decode cX10_goes 49 = .ok (.iload 6, 2) := by decide +kernel
theorem dX10_goes_51 : decode cX10_goes 51 = .ok (.iconst 5, 1) := by decide +kernel
theorem dX10_goes_52 : decode cX10_goes 52 = .ok (.iload_n 1, 1) := by decide +kernel
theorem dX10_goes_53 : decode cX10_goes 53 = .ok (.iadd, 1) := by decide +kernel
theorem dX10_goes_54 : decode cX10_goes 54 = .ok (.invokevirtual 78, 3) := by decide +kernel
theorem dX10_goes_57 : decode cX10_goes 57 = .ok (.istore 7, 2) := by decide +kernel
theorem dX10_goes_59 : decode cX10_goes 59 = .ok (.aload_n 0, 1) := by decide +kernel
theorem dX10_goes_60 : decode cX10_goes 60 = .ok (.aload_n 0, 1) := by decide +kernel
theorem dX10_goes_61 : decode cX10_goes 61 = .ok (.iload 6, 2) := by decide +kernel
theorem dX10_goes_63 : decode cX10_goes 63 = .ok (.iload_n 3, 1) := by decide +kernel
theorem dX10_goes_64 : decode cX10_goes 64 = .ok (.invokevirtual 124, 3) := by decide +kernel
theorem dX10_goes_67 : decode cX10_goes 67 = .ok (.aload_n 0, 1) := by decide +kernel
theorem dX10_goes_68 : decode cX10_goes 68 = .ok (.iload 6, 2) := by decide +kernel
theorem dX10_goes_70 : decode cX10_goes 70 = .ok (.aload_n 0, 1) := by decide +kernel
theorem dX10_goes_71 : decode cX10_goes 71 = .ok (.iload 6, 2) := by decide +kernel
theorem dX10_goes_73 : decode cX10_goes 73 = .ok (.iconst 3, 1) := by decide +kernel
theorem dX10_goes_74 : decode cX10_goes 74 = .ok (.invokevirtual 78, 3) := by decide +kernel
theorem dX10_goes_77 : decode cX10_goes 77 = .ok (.iload 7, 2) := by decide +kernel
theorem dX10_goes_79 : decode cX10_goes 79 = .ok (.invokevirtual 93, 3) := by decide +kernel
theorem dX10_goes_82 : decode cX10_goes 82 = .ok (.isub, 1) := by decide +kernel
theorem dX10_goes_83 : decode cX10_goes 83 = .ok (.invokevirtual 86, 3) := by decide +kernel
theorem dX10_goes_86 : decode cX10_goes 86 = .ok (.istore 8, 2) := by decide +kernel
theorem dX10_goes_88 : decode cX10_goes 88 = .ok (.iload 8, 2) := by decide +kernel
theorem dX10_goes_90 : decode cX10_goes 90 = .ok (.aload_n 0, 1) := by decide +kernel
theorem dX10_goes_91 : decode cX10_goes 91 = .ok (.iload 6, 2) := by decide +kernel
theorem dX10_goes_93 : decode cX10_goes 93 = .ok (.aload_n 0, 1) := by decide +kernel
theorem dX10_goes_94 : decode cX10_goes 94 = .ok (.iload 6, 2) := by decide +kernel
theorem dX10_goes_96 : decode cX10_goes 96 = .ok (.iconst 3, 1) := by decide +kernel
theorem dX10_goes_97 : decode cX10_goes 97 = .ok (.invokevirtual 78, 3) := by decide +kernel
theorem dX10_goes_100 : decode cX10_goes 100 = .ok (.iload 7, 2) := by decide +kernel
theorem dX10_goes_102 : decode cX10_goes 102 = .ok (.invokevirtual 96, 3) := by decide +kernel
theorem dX10_goes_105 : decode cX10_goes 105 = .ok (.if_icmp .lt 43, 3) := by decide +kernel
theorem dX10_goes_108 : decode cX10_goes 108 = .ok (.aload_n 0, 1) := by decide +kernel
theorem dX10_goes_109 : decode cX10_goes 109 = .ok (.dup, 1) := by decide +kernel
theorem dX10_goes_110 : decode cX10_goes 110 = .ok (.getfield 191, 3) := by decide +kernel
theorem dX10_goes_113 : decode cX10_goes 113 = .ok (.iconst 1, 1) := by decide +kernel
theorem dX10_goes_114 : decode cX10_goes 114 = .ok (.iadd, 1) := by decide +kernel
theorem dX10_goes_115 : decode cX10_goes 115 = .ok (.putfield 191, 3) := by decide +kernel
theorem dX10_goes_118 : decode cX10_goes 118 = .ok (.aload_n 0, 1) := by decide +kernel
theorem dX10_goes_119 : decode cX10_goes 119 = .ok (.dup, 1) := by decide +kernel
theorem dX10_goes_120 : decode cX10_goes 120 = .ok (.getfield 194, 3) := by decide +kernel
theorem dX10_goes_123 : decode cX10_goes 123 = .ok (.aload_n 0, 1) := by decide +kernel
theorem dX10_goes_124 : decode cX10_goes 124 = .ok (.getfield 9, 3) := by decide +kernel
theorem dX10_goes_127 : decode cX10_goes 127 = .ok (.iconst 0, 1) := by decide +kernel
theorem dX10_goes_128 : decode cX10_goes 128 = .ok (.iaload, 1) := by decide +kernel
theorem dX10_goes_129 : decode cX10_goes 129 = .ok (.iload 8, 2) := by decide +kernel
theorem dX10_goes_131 : decode cX10_goes 131 = .ok (.isub, 1) := by decide +kernel
theorem dX10_goes_132 : decode cX10_goes 132 = .ok (.iadd, 1) := by decide +kernel
theorem dX10_goes_133 : decode cX10_goes 133 = .ok (.putfield 194, 3) := by decide +kernel
theorem dX10_goes_136 : decode cX10_goes 136 = .ok (.iload_n 3, 1) := by decide +kernel
theorem dX10_goes_137 : decode cX10_goes 137 = .ok (.aload_n 0, 1) := by decide +kernel
theorem dX10_goes_138 : decode cX10_goes 138 = .ok (.getfield 9, 3) := by decide +kernel
theorem dX10_goes_141 : decode cX10_goes 141 = .ok (.iconst 0, 1) := by decide +kernel
theorem dX10_goes_142 : decode cX10_goes 142 = .ok (.iaload, 1) := by decide +kernel
theorem dX10_goes_143 : decode cX10_goes 143 = .ok (.iload 8, 2) := by decide +kernel
theorem dX10_goes_145 : decode cX10_goes 145 = .ok (.isub, 1) := by decide +kernel
theorem dX10_goes_146 : decode cX10_goes 146 = .ok (.iadd, 1) := by decide +kernel
theorem dX10_goes_147 : decode cX10_goes 147 = .ok (.istore_n 3, 1) := by decide +kernel
theorem dX10_goes_148 : decode cX10_goes 148 = .ok (.iload 5, 2) := by decide +kernel
theorem dX10_goes_150 : decode cX10_goes 150 = .ok (.iload 4, 2) := by decide +kernel
theorem dX10_goes_152 : decode cX10_goes 152 = .ok (.iconst 1, 1) := by decide +kernel
theorem dX10_goes_153 : decode cX10_goes 153 = .ok (.isub, 1) := by decide +kernel
theorem dX10_goes_154 : decode cX10_goes 154 = .ok (.if_icmp .ne 6, 3) := by decide +kernel
theorem dX10_goes_157 : decode cX10_goes 157 = .ok (.goto 57, 3) := by decide +kernel
theorem dX10_goes_160 : decode cX10_goes 160 = .ok (.aload_n 0, 1) := by decide +kernel
theorem dX10_goes_161 : decode cX10_goes 161 = .ok (.iload_n 1, 1) := by decide +kernel
theorem dX10_goes_162 : decode cX10_goes 162 = .ok (.ifCond .ne 10, 3) := by decide +kernel
theorem dX10_goes_165 : decode cX10_goes 165 = .ok (.iload 6, 2) := by decide +kernel
theorem dX10_goes_167 : decode cX10_goes 167 = .ok (.iconst 1, 1) := by decide +kernel
theorem dX10_goes_168 : decode cX10_goes 168 = .ok (.iadd, 1) := by decide +kernel
theorem dX10_goes_169 : decode cX10_goes 169 = .ok (.goto 7, 3) := by decide +kernel
theorem dX10_goes_172 : decode cX10_goes 172 = .ok (.iload 6, 2) := by decide +kernel
theorem dX10_goes_174 : decode cX10_goes 174 = .ok (.iconst 1, 1) := by decide +kernel
theorem dX10_goes_175 : decode cX10_goes 175 = .ok (.isub, 1) := by decide +kernel
theorem dX10_goes_176 : decode cX10_goes 176 = .ok (.iconst 0, 1) := by decide +kernel
theorem dX10_goes_177 : decode cX10_goes 177 = .ok (.invokevirtual 78, 3) := by decide +kernel
theorem dX10_goes_180 : decode cX10_goes 180 = .ok (.aload_n 0, 1) := by decide +kernel
theorem dX10_goes_181 : decode cX10_goes 181 = .ok (.iload 6, 2) := by decide +kernel
theorem dX10_goes_183 : decode cX10_goes 183 = .ok (.iconst 0, 1) := by decide +kernel
theorem dX10_goes_184 : decode cX10_goes 184 = .ok (.invokevirtual 78, 3) := by decide +kernel
theorem dX10_goes_187 : decode cX10_goes 187 = .ok (.isub, 1) := by decide +kernel
theorem dX10_goes_188 : decode cX10_goes 188 = .ok (.invokestatic 197, 3) := by decide +kernel
theorem dX10_goes_191 : decode cX10_goes 191 = .ok (.istore 9, 2) := by decide +kernel
theorem dX10_goes_193 : decode cX10_goes 193 = .ok (.iload_n 3, 1) := by decide +kernel
theorem dX10_goes_194 : decode cX10_goes 194 = .ok (.iload 9, 2) := by decide +kernel
theorem dX10_goes_196 : decode cX10_goes 196 = .ok (.aload_n 0, 1) := by decide +kernel
theorem dX10_goes_197 : decode cX10_goes 197 = .ok (.getfield 9, 3) := by decide +kernel
theorem dX10_goes_200 : decode cX10_goes 200 = .ok (.iconst 1, 1) := by decide +kernel
theorem dX10_goes_201 : decode cX10_goes 201 = .ok (.iaload, 1) := by decide +kernel
theorem dX10_goes_202 : decode cX10_goes 202 = .ok (.iadd, 1) := by decide +kernel
theorem dX10_goes_203 : decode cX10_goes 203 = .ok (.iconst 1, 1) := by decide +kernel
theorem dX10_goes_204 : decode cX10_goes 204 = .ok (.isub, 1) := by decide +kernel
theorem dX10_goes_205 : decode cX10_goes 205 = .ok (.aload_n 0, 1) := by decide +kernel
theorem dX10_goes_206 : decode cX10_goes 206 = .ok (.getfield 9, 3) := by decide +kernel
theorem dX10_goes_209 : decode cX10_goes 209 = .ok (.iconst 1, 1) := by decide +kernel
theorem dX10_goes_210 : decode cX10_goes 210 = .ok (.iaload, 1) := by decide +kernel
theorem dX10_goes_211 : decode cX10_goes 211 = .ok (.idiv, 1) := by decide +kernel
theorem dX10_goes_212 : decode cX10_goes 212 = .ok (.iadd, 1) := by decide +kernel
theorem dX10_goes_213 : decode cX10_goes 213 = .ok (.istore_n 3, 1) := by decide +kernel
theorem dX10_goes_214 : decode cX10_goes 214 = .ok (.iinc 5 1, 3) := by decide +kernel
theorem dX10_goes_217 : decode cX10_goes 217 = .ok (.goto (-194), 3) := by decide +kernel
theorem dX10_goes_220 : decode cX10_goes 220 = .ok (.iload_n 3, 1) := by decide +kernel
theorem dX10_goes_221 : decode cX10_goes 221 = .ok (.iload_n 2, 1) := by decide +kernel
theorem dX10_goes_222 : decode cX10_goes 222 = .ok (.isub, 1) := by decide +kernel
theorem dX10_goes_223 : decode cX10_goes 223 = .ok (.ireturn, 1) := by decide +kernel
theorem dX10_trip_0 : decode cX10_trip 0 = .ok (.aload_n 0, 1) := by decide +kernel
theorem dX10_trip_1 : decode cX10_trip 1 = .ok (.iconst 0, 1) := by decide +kernel
theorem dX10_trip_2 : decode cX10_trip 2 = .ok (.putfield 47, 3) := by decide +kernel
theorem dX10_trip_5 : decode cX10_trip 5 = .ok (.iload_n 1, 1) := by decide +kernel
theorem dX10_trip_6 : decode cX10_trip 6 = .ok (.iconst 0, 1) := by decide +kernel
theorem dX10_trip_7 : decode cX10_trip 7 = .ok (.iconst 1, 1) := by decide +kernel
theorem dX10_trip_8 : decode cX10_trip 8 = .ok (.invokestatic 70, 3) := by decide +kernel
theorem dX10_trip_11 : decode cX10_trip 11 = .ok (.ifCond .eq 22, 3) := by decide +kernel
theorem dX10_trip_14 : decode cX10_trip 14 = .ok (.iload_n 2, 1) := by decide +kernel
theorem dX10_trip_15 : decode cX10_trip 15 = .ok (.iconst 0, 1) := by decide +kernel
theorem dX10_trip_16 : decode cX10_trip 16 = .ok (.ldc 200, 2) := by decide +kernel
theorem dX10_trip_18 : decode cX10_trip 18 = .ok (.invokestatic 70, 3) := by decide +kernel
theorem dX10_trip_21 : decode cX10_trip 21 = .ok (.ifCond .eq 12, 3) := by decide +kernel
theorem dX10_trip_24 : decode cX10_trip 24 = .ok (.iload_n 3, 1) := by decide +kernel
theorem dX10_trip_25 : decode cX10_trip 25 = .ok (.iconst 0, 1) := by decide +kernel
theorem dX10_trip_26 : decode cX10_trip 26 = .ok (.iconst 2, 1) := by decide +kernel
theorem dX10_trip_27 : decode cX10_trip 27 = .ok (.invokestatic 70, 3) := by decide +kernel
theorem dX10_trip_30 : decode cX10_trip 30 = .ok (.ifCond .ne 9, 3) := by decide +kernel
theorem dX10_trip_33 : decode cX10_trip 33 = .ok (.aload_n 0, 1) := by decide +kernel
theorem dX10_trip_34 : decode cX10_trip 34 = .ok (.iconst 1, 1) := by decide +kernel
theorem dX10_trip_35 : decode cX10_trip 35 = .ok (.invokevirtual 53, 3) := by decide +kernel
theorem dX10_trip_38 : decode cX10_trip 38 = .ok (.ireturn, 1) := by decide +kernel
theorem dX10_trip_39 : decode cX10_trip 39 = .ok (.aload_n 0, 1) := by decide +kernel
theorem dX10_trip_40 : decode cX10_trip 40 = .ok (.iload_n 1, 1) := by decide +kernel
theorem dX10_trip_41 : decode cX10_trip 41 = .ok (.invokevirtual 201, 3) := by decide +kernel
theorem dX10_trip_44 : decode cX10_trip 44 = .ok (.ifCond .ne 9, 3) := by decide +kernel
theorem dX10_trip_47 : decode cX10_trip 47 = .ok (.aload_n 0, 1) := by decide +kernel
theorem dX10_trip_48 : decode cX10_trip 48 = .ok (.iconst 2, 1) := by decide +kernel
theorem dX10_trip_49 : decode cX10_trip 49 = .ok (.invokevirtual 53, 3) := by decide +kernel
theorem dX10_trip_52 : decode cX10_trip 52 = .ok (.ireturn, 1) := by decide +kernel
theorem dX10_trip_53 : decode cX10_trip 53 = .ok (.aload_n 0, 1) := by decide +kernel
theorem dX10_trip_54 : decode cX10_trip 54 = .ok (.iload_n 1, 1) := by decide +kernel
theorem dX10_trip_55 : decode cX10_trip 55 = .ok (.iload_n 2, 1) := by decide +kernel
theorem dX10_trip_56 : decode cX10_trip 56 = .ok (.invokevirtual 204, 3) := by decide +kernel
theorem dX10_trip_59 : decode cX10_trip 59 = .ok (.istore 4, 2) := by decide +kernel
theorem dX10_trip_61 : decode cX10_trip 61 = .ok (.iload_n 3, 1) := by decide +kernel
theorem dX10_trip_62 : decode cX10_trip 62 = .ok (.ifCond .ne 8, 3) := by decide +kernel
theorem dX10_trip_65 : decode cX10_trip 65 = .ok (.iload 4, 2) := by decide +kernel
theorem dX10_trip_67 : decode cX10_trip 67 = .ok (.goto 19, 3) := by decide +kernel
theorem dX10_trip_70 : decode cX10_trip 70 = .ok (.iload_n 3, 1) := by decide +kernel
theorem dX10_trip_71 : decode cX10_trip 71 = .ok (.iconst 1, 1) := by decide +kernel
theorem dX10_trip_72 : decode cX10_trip 72 = .ok (.if_icmp .ne 10, 3) := by decide +kernel
theorem dX10_trip_75 : decode cX10_trip 75 = .ok (.aload_n 0, 1) := by decide +kernel
theorem dX10_trip_76 : decode cX10_trip 76 = .ok (.getfield 191, 3) := by decide +kernel
theorem dX10_trip_79 : decode cX10_trip 79 = .ok (.goto 7, 3) := by decide +kernel
theorem dX10_trip_82 : decode cX10_trip 82 = .ok (.aload_n 0, 1) := by decide +kernel
theorem dX10_trip_83 : decode cX10_trip 83 = .ok (.getfield 194, 3) := by decide +kernel
theorem dX10_trip_86 : decode cX10_trip 86 = .ok (.ireturn, 1) := by decide +kernel
theorem dX10_tripAgain_0 : decode cX10_tripAgain 0 = .ok (.aload_n 0, 1) := by decide +kernel
theorem dX10_tripAgain_1 : decode cX10_tripAgain 1 = .ok (.iconst 0, 1) := by decide +kernel
theorem dX10_tripAgain_2 : decode cX10_tripAgain 2 = .ok (.putfield 47, 3) := by decide +kernel
theorem dX10_tripAgain_5 : decode cX10_tripAgain 5 = .ok (.iload_n 1, 1) := by decide +kernel
theorem dX10_tripAgain_6 : decode cX10_tripAgain 6 = .ok (.iconst 0, 1) := by decide +kernel
theorem dX10_tripAgain_7 : decode cX10_tripAgain 7 = .ok (.iconst 1, 1) := by decide +kernel
theorem dX10_tripAgain_8 : decode cX10_tripAgain 8 = .ok (.invokestatic 70, 3) := by decide +kernel
theorem dX10_tripAgain_11 : decode cX10_tripAgain 11 = .ok (.ifCond .eq 13, 3) := by decide +kernel
theorem dX10_tripAgain_14 : decode cX10_tripAgain 14 = .ok (.iload_n 2, 1) := by decide +kernel
theorem dX10_tripAgain_15 : decode cX10_tripAgain 15 = .ok (.iconst 0, 1) := by decide +kernel
theorem dX10_tripAgain_16 : decode cX10_tripAgain 16 = .ok (.ldc 200, 2) := by decide +kernel
theorem dX10_tripAgain_18 : decode cX10_tripAgain 18 = .ok (.invokestatic 70, 3) := by decide +kernel
theorem dX10_tripAgain_21 : decode cX10_tripAgain 21 = .ok (.ifCond .ne 9, 3) := by decide +kernel
theorem dX10_tripAgain_24 : decode cX10_tripAgain 24 = .ok (.aload_n 0, 1) := by decide +kernel
theorem dX10_tripAgain_25 : decode cX10_tripAgain 25 = .ok (.iconst 1, 1) := by decide +kernel
theorem dX10_tripAgain_26 : decode cX10_tripAgain 26 = .ok (.invokevirtual 53, 3) := by decide +kernel
theorem dX10_tripAgain_29 : decode cX10_tripAgain 29 = .ok (.ireturn, 1) := by decide +kernel
theorem dX10_tripAgain_30 : decode cX10_tripAgain 30 = .ok (.aload_n 0, 1) := by decide +kernel
theorem dX10_tripAgain_31 : decode cX10_tripAgain 31 = .ok (.iload_n 1, 1) := by decide +kernel
theorem dX10_tripAgain_32 : decode cX10_tripAgain 32 = .ok (.invokevirtual 201, 3) := by decide +kernel
theorem dX10_tripAgain_35 : decode cX10_tripAgain 35 = .ok (.ifCond .eq 12, 3) := by decide +kernel
theorem dX10_tripAgain_38 : decode cX10_tripAgain 38 = .ok (.aload_n 0, 1) := by decide +kernel
theorem dX10_tripAgain_39 : decode cX10_tripAgain 39 = .ok (.iload_n 1, 1) := by decide +kernel
theorem dX10_tripAgain_40 : decode cX10_tripAgain 40 = .ok (.iload_n 2, 1) := by decide +kernel
theorem dX10_tripAgain_41 : decode cX10_tripAgain 41 = .ok (.invokevirtual 204, 3) := by decide +kernel
theorem dX10_tripAgain_44 : decode cX10_tripAgain 44 = .ok (.goto 8, 3) := by decide +kernel
theorem dX10_tripAgain_47 : decode cX10_tripAgain 47 = .ok (.aload_n 0, 1) := by decide +kernel
theorem dX10_tripAgain_48 : decode cX10_tripAgain 48 = .ok (.iconst 2, 1) := by decide +kernel
theorem dX10_tripAgain_49 : decode cX10_tripAgain 49 = .ok (.invokevirtual 53, 3) := by decide +kernel
theorem dX10_tripAgain_52 : decode cX10_tripAgain 52 = .ok (.ireturn, 1) := by decide +kernel
theorem dX10_bands_0 : decode cX10_bands 0 = .ok (.iconst 0, 1) := by decide +kernel
theorem dX10_bands_1 : decode cX10_bands 1 = .ok (.istore_n 2, 1) := by decide +kernel
theorem dX10_bands_2 : decode cX10_bands 2 = .ok (.iconst 0, 1) := by decide +kernel
theorem dX10_bands_3 : decode cX10_bands 3 = .ok (.istore_n 3, 1) := by decide +kernel
theorem dX10_bands_4 : decode cX10_bands 4 = .ok (.iload_n 3, 1) := by decide +kernel
theorem dX10_bands_5 : decode cX10_bands 5 = .ok (.aload_n 0, 1) := by decide +kernel
theorem dX10_bands_6 : decode cX10_bands 6 = .ok (.getfield 9, 3) := by decide +kernel
theorem dX10_bands_9 : decode cX10_bands 9 = .ok (.iconst 0, 1) := by decide +kernel
theorem dX10_bands_10 : decode cX10_bands 10 = .ok (.iaload, 1) := by decide +kernel
theorem dX10_bands_11 : decode cX10_bands 11 = .ok (.if_icmp .ge 27, 3) := by decide +kernel
theorem dX10_bands_14 : decode cX10_bands 14 = .ok (.aload_n 0, 1) := by decide +kernel
theorem dX10_bands_15 : decode cX10_bands 15 = .ok (.iload_n 1, 1) := by decide +kernel
theorem dX10_bands_16 : decode cX10_bands 16 = .ok (.iload_n 3, 1) := by decide +kernel
theorem dX10_bands_17 : decode cX10_bands 17 = .ok (.invokevirtual 204, 3) := by decide +kernel
theorem dX10_bands_20 : decode cX10_bands 20 = .ok (.istore 4, 2) := by decide +kernel
theorem dX10_bands_22 : decode cX10_bands 22 = .ok (.aload_n 0, 1) := by decide +kernel
theorem dX10_bands_23 : decode cX10_bands 23 = .ok (.getfield 191, 3) := by decide +kernel
theorem dX10_bands_26 : decode cX10_bands 26 = .ok (.ifCond .ne 6, 3) := by decide +kernel
theorem dX10_bands_29 : decode cX10_bands 29 = .ok (.iinc 2 1, 3) := by decide +kernel
theorem dX10_bands_32 : decode cX10_bands 32 = .ok (.iinc 3 1, 3) := by decide +kernel
theorem dX10_bands_35 : decode cX10_bands 35 = .ok (.goto (-31), 3) := by decide +kernel
theorem dX10_bands_38 : decode cX10_bands 38 = .ok (.iload_n 2, 1) := by decide +kernel
theorem dX10_bands_39 : decode cX10_bands 39 = .ok (.ireturn, 1) := by decide +kernel
theorem dX10_band_0 : decode cX10_band 0 = .ok (.aload_n 0, 1) := by decide +kernel
theorem dX10_band_1 : decode cX10_band 1 = .ok (.iconst 0, 1) := by decide +kernel
theorem dX10_band_2 : decode cX10_band 2 = .ok (.putfield 47, 3) := by decide +kernel
theorem dX10_band_5 : decode cX10_band 5 = .ok (.iload_n 1, 1) := by decide +kernel
theorem dX10_band_6 : decode cX10_band 6 = .ok (.iconst 0, 1) := by decide +kernel
theorem dX10_band_7 : decode cX10_band 7 = .ok (.iconst 1, 1) := by decide +kernel
theorem dX10_band_8 : decode cX10_band 8 = .ok (.invokestatic 70, 3) := by decide +kernel
theorem dX10_band_11 : decode cX10_band 11 = .ok (.ifCond .ne 9, 3) := by decide +kernel
theorem dX10_band_14 : decode cX10_band 14 = .ok (.aload_n 0, 1) := by decide +kernel
theorem dX10_band_15 : decode cX10_band 15 = .ok (.iconst 1, 1) := by decide +kernel
theorem dX10_band_16 : decode cX10_band 16 = .ok (.invokevirtual 53, 3) := by decide +kernel
theorem dX10_band_19 : decode cX10_band 19 = .ok (.ireturn, 1) := by decide +kernel
theorem dX10_band_20 : decode cX10_band 20 = .ok (.aload_n 0, 1) := by decide +kernel
theorem dX10_band_21 : decode cX10_band 21 = .ok (.iload_n 1, 1) := by decide +kernel
theorem dX10_band_22 : decode cX10_band 22 = .ok (.invokevirtual 201, 3) := by decide +kernel
theorem dX10_band_25 : decode cX10_band 25 = .ok (.ifCond .eq 11, 3) := by decide +kernel
theorem dX10_band_28 : decode cX10_band 28 = .ok (.aload_n 0, 1) := by decide +kernel
theorem dX10_band_29 : decode cX10_band 29 = .ok (.iload_n 1, 1) := by decide +kernel
theorem dX10_band_30 : decode cX10_band 30 = .ok (.invokevirtual 207, 3) := by decide +kernel
theorem dX10_band_33 : decode cX10_band 33 = .ok (.goto 8, 3) := by decide +kernel
theorem dX10_band_36 : decode cX10_band 36 = .ok (.aload_n 0, 1) := by decide +kernel
theorem dX10_band_37 : decode cX10_band 37 = .ok (.iconst 2, 1) := by decide +kernel
theorem dX10_band_38 : decode cX10_band 38 = .ok (.invokevirtual 53, 3) := by decide +kernel
theorem dX10_band_41 : decode cX10_band 41 = .ok (.ireturn, 1) := by decide +kernel
theorem dX10_bestOffset_0 : decode cX10_bestOffset 0 = .ok (.aload_n 0, 1) := by decide +kernel
theorem dX10_bestOffset_1 : decode cX10_bestOffset 1 = .ok (.iconst 0, 1) := by decide +kernel
theorem dX10_bestOffset_2 : decode cX10_bestOffset 2 = .ok (.putfield 47, 3) := by decide +kernel
theorem dX10_bestOffset_5 : decode cX10_bestOffset 5 = .ok (.aload_n 0, 1) := by decide +kernel
theorem dX10_bestOffset_6 : decode cX10_bestOffset 6 = .ok (.iload_n 1, 1) := by decide +kernel
theorem dX10_bestOffset_7 : decode cX10_bestOffset 7 = .ok (.invokevirtual 74, 3) := by decide +kernel
theorem dX10_bestOffset_10 : decode cX10_bestOffset 10 = .ok (.ifCond .ne 9, 3) := by decide +kernel
theorem dX10_bestOffset_13 : decode cX10_bestOffset 13 = .ok (.aload_n 0, 1) := by decide +kernel
theorem dX10_bestOffset_14 : decode cX10_bestOffset 14 = .ok (.iconst 1, 1) := by decide +kernel
theorem dX10_bestOffset_15 : decode cX10_bestOffset 15 = .ok (.invokevirtual 53, 3) := by decide +kernel
theorem dX10_bestOffset_18 : decode cX10_bestOffset 18 = .ok (.ireturn, 1) := by decide +kernel
theorem dX10_bestOffset_19 : decode cX10_bestOffset 19 = .ok (.iload_n 2, 1) := by decide +kernel
theorem dX10_bestOffset_20 : decode cX10_bestOffset 20 = .ok (.iconst 0, 1) := by decide +kernel
theorem dX10_bestOffset_21 : decode cX10_bestOffset 21 = .ok (.iconst 1, 1) := by decide +kernel
theorem dX10_bestOffset_22 : decode cX10_bestOffset 22 = .ok (.invokestatic 70, 3) := by decide +kernel
theorem dX10_bestOffset_25 : decode cX10_bestOffset 25 = .ok (.ifCond .ne 9, 3) := by decide +kernel
theorem dX10_bestOffset_28 : decode cX10_bestOffset 28 = .ok (.aload_n 0, 1) := by decide +kernel
theorem dX10_bestOffset_29 : decode cX10_bestOffset 29 = .ok (.iconst 2, 1) := by decide +kernel
theorem dX10_bestOffset_30 : decode cX10_bestOffset 30 = .ok (.invokevirtual 53, 3) := by decide +kernel
theorem dX10_bestOffset_33 : decode cX10_bestOffset 33 = .ok (.ireturn, 1) := by decide +kernel
theorem dX10_bestOffset_34 : decode cX10_bestOffset 34 = .ok (.aload_n 0, 1) := by decide +kernel
theorem dX10_bestOffset_35 : decode cX10_bestOffset 35 = .ok (.iload_n 2, 1) := by decide +kernel
theorem dX10_bestOffset_36 : decode cX10_bestOffset 36 = .ok (.invokevirtual 201, 3) := by decide +kernel
theorem dX10_bestOffset_39 : decode cX10_bestOffset 39 = .ok (.ifCond .ne 9, 3) := by decide +kernel
theorem dX10_bestOffset_42 : decode cX10_bestOffset 42 = .ok (.aload_n 0, 1) := by decide +kernel
theorem dX10_bestOffset_43 : decode cX10_bestOffset 43 = .ok (.iconst 3, 1) := by decide +kernel
theorem dX10_bestOffset_44 : decode cX10_bestOffset 44 = .ok (.invokevirtual 53, 3) := by decide +kernel
theorem dX10_bestOffset_47 : decode cX10_bestOffset 47 = .ok (.ireturn, 1) := by decide +kernel
theorem dX10_bestOffset_48 : decode cX10_bestOffset 48 = .ok (.aload_n 0, 1) := by decide +kernel
theorem dX10_bestOffset_49 : decode cX10_bestOffset 49 = .ok (.iload_n 1, 1) := by decide +kernel
theorem dX10_bestOffset_50 : decode cX10_bestOffset 50 = .ok (.iconst 1, 1) := by decide +kernel
theorem dX10_bestOffset_51 : decode cX10_bestOffset 51 = .ok (.invokevirtual 78, 3) := by decide +kernel
theorem dX10_bestOffset_54 : decode cX10_bestOffset 54 = .ok (.istore_n 3, 1) := by decide +kernel
theorem dX10_bestOffset_55 : decode cX10_bestOffset 55 = .ok (.iconst 0, 1) := by decide +kernel
theorem dX10_bestOffset_56 : decode cX10_bestOffset 56 = .ok (.istore 4, 2) := by decide +kernel
theorem dX10_bestOffset_58 : decode cX10_bestOffset 58 = .ok (.iconst (-1), 1) := by decide +kernel
theorem dX10_bestOffset_59 : decode cX10_bestOffset 59 = .ok (.istore 5, 2) := by decide +kernel
theorem dX10_bestOffset_61 : decode cX10_bestOffset 61 = .ok (.iconst 0, 1) := by decide +kernel
theorem dX10_bestOffset_62 : decode cX10_bestOffset 62 = .ok (.istore 6, 2) := by decide +kernel
theorem dX10_bestOffset_64 : decode cX10_bestOffset 64 = .ok (.iload 6, 2) := by decide +kernel
theorem dX10_bestOffset_66 : decode cX10_bestOffset 66 = .ok (.aload_n 0, 1) := by decide +kernel
theorem dX10_bestOffset_67 : decode cX10_bestOffset 67 = .ok (.getfield 9, 3) := by decide +kernel
theorem dX10_bestOffset_70 : decode cX10_bestOffset 70 = .ok (.iconst 0, 1) := by decide +kernel
theorem dX10_bestOffset_71 : decode cX10_bestOffset 71 = .ok (.iaload, 1) := by decide +kernel
theorem dX10_bestOffset_72 : decode cX10_bestOffset 72 = .ok (.if_icmp .ge 47, 3) := by decide +kernel
theorem dX10_bestOffset_75 : decode cX10_bestOffset 75 = .ok (.aload_n 0, 1) := by decide +kernel
theorem dX10_bestOffset_76 : decode cX10_bestOffset 76 = .ok (.getfield 9, 3) := by decide +kernel
theorem dX10_bestOffset_79 : decode cX10_bestOffset 79 = .ok (.iload_n 1, 1) := by decide +kernel
theorem dX10_bestOffset_80 : decode cX10_bestOffset 80 = .ok (.invokestatic 63, 3) := by decide +kernel
theorem dX10_bestOffset_83 : decode cX10_bestOffset 83 = .ok (.iconst 1, 1) := by decide +kernel
theorem dX10_bestOffset_84 : decode cX10_bestOffset 84 = .ok (.iadd, 1) := by decide +kernel
theorem dX10_bestOffset_85 : decode cX10_bestOffset 85 = .ok (.iload 6, 2) := by decide +kernel
theorem dX10_bestOffset_87 : decode cX10_bestOffset 87 = .ok (.iastore, 1) := by decide +kernel
theorem dX10_bestOffset_88 : decode cX10_bestOffset 88 = .ok (.aload_n 0, 1) := by decide +kernel
theorem dX10_bestOffset_89 : decode cX10_bestOffset 89 = .ok (.iload_n 2, 1) := by decide +kernel
theorem dX10_bestOffset_90 : decode cX10_bestOffset 90 = .ok (.invokevirtual 207, 3) := by decide +kernel
theorem dX10_bestOffset_93 : decode cX10_bestOffset 93 = .ok (.istore 7, 2) := by decide +kernel
theorem dX10_bestOffset_95 : decode cX10_bestOffset 95 = .ok (.iload 7, 2) := by decide +kernel
theorem dX10_bestOffset_97 : decode cX10_bestOffset 97 = .ok (.iload 5, 2) := by decide +kernel
theorem dX10_bestOffset_99 : decode cX10_bestOffset 99 = .ok (.if_icmp .gt 6, 3) := by decide +kernel
theorem dX10_bestOffset_102 : decode cX10_bestOffset 102 = .ok (.goto 11, 3) := by decide +kernel
theorem dX10_bestOffset_105 : decode cX10_bestOffset 105 = .ok (.iload 7, 2) := by decide +kernel
theorem dX10_bestOffset_107 : decode cX10_bestOffset 107 = .ok (.istore 5, 2) := by decide +kernel
theorem dX10_bestOffset_109 : decode cX10_bestOffset 109 = .ok (.iload 6, 2) := by decide +kernel
theorem dX10_bestOffset_111 : decode cX10_bestOffset 111 = .ok (.istore 4, 2) := by decide +kernel
theorem dX10_bestOffset_113 : decode cX10_bestOffset 113 = .ok (.iinc 6 1, 3) := by decide +kernel
theorem dX10_bestOffset_116 : decode cX10_bestOffset 116 = .ok (.goto (-52), 3) := by decide +kernel
theorem dX10_bestOffset_119 : decode cX10_bestOffset 119 = .ok (.aload_n 0, 1) := by decide +kernel
theorem dX10_bestOffset_120 : decode cX10_bestOffset 120 = .ok (.getfield 9, 3) := by decide +kernel
theorem dX10_bestOffset_123 : decode cX10_bestOffset 123 = .ok (.iload_n 1, 1) := by decide +kernel
theorem dX10_bestOffset_124 : decode cX10_bestOffset 124 = .ok (.invokestatic 63, 3) := by decide +kernel
theorem dX10_bestOffset_127 : decode cX10_bestOffset 127 = .ok (.iconst 1, 1) := by decide +kernel
theorem dX10_bestOffset_128 : decode cX10_bestOffset 128 = .ok (.iadd, 1) := by decide +kernel
theorem dX10_bestOffset_129 : decode cX10_bestOffset 129 = .ok (.iload_n 3, 1) := by decide +kernel
theorem dX10_bestOffset_130 : decode cX10_bestOffset 130 = .ok (.iastore, 1) := by decide +kernel
theorem dX10_bestOffset_131 : decode cX10_bestOffset 131 = .ok (.iload 4, 2) := by decide +kernel
theorem dX10_bestOffset_133 : decode cX10_bestOffset 133 = .ok (.ireturn, 1) := by decide +kernel
theorem dX10_share_0 : decode cX10_share 0 = .ok (.aload_n 0, 1) := by decide +kernel
theorem dX10_share_1 : decode cX10_share 1 = .ok (.iconst 0, 1) := by decide +kernel
theorem dX10_share_2 : decode cX10_share 2 = .ok (.putfield 47, 3) := by decide +kernel
theorem dX10_share_5 : decode cX10_share 5 = .ok (.iload_n 1, 1) := by decide +kernel
theorem dX10_share_6 : decode cX10_share 6 = .ok (.iconst 0, 1) := by decide +kernel
theorem dX10_share_7 : decode cX10_share 7 = .ok (.iconst 1, 1) := by decide +kernel
theorem dX10_share_8 : decode cX10_share 8 = .ok (.invokestatic 70, 3) := by decide +kernel
theorem dX10_share_11 : decode cX10_share 11 = .ok (.ifCond .ne 10, 3) := by decide +kernel
theorem dX10_share_14 : decode cX10_share 14 = .ok (.aload_n 0, 1) := by decide +kernel
theorem dX10_share_15 : decode cX10_share 15 = .ok (.iconst 1, 1) := by decide +kernel
theorem dX10_share_16 : decode cX10_share 16 = .ok (.invokevirtual 53, 3) := by decide +kernel
theorem dX10_share_19 : decode cX10_share 19 = .ok (.i2f, 1) := by decide +kernel
theorem dX10_share_20 : decode cX10_share 20 = .ok (.freturn, 1) := by decide +kernel
theorem dX10_share_21 : decode cX10_share 21 = .ok (.aload_n 0, 1) := by decide +kernel
theorem dX10_share_22 : decode cX10_share 22 = .ok (.iload_n 1, 1) := by decide +kernel
theorem dX10_share_23 : decode cX10_share 23 = .ok (.invokevirtual 201, 3) := by decide +kernel
theorem dX10_share_26 : decode cX10_share 26 = .ok (.ifCond .eq 20, 3) := by decide +kernel
theorem dX10_share_29 : decode cX10_share 29 = .ok (.aload_n 0, 1) := by decide +kernel
theorem dX10_share_30 : decode cX10_share 30 = .ok (.iload_n 1, 1) := by decide +kernel
theorem dX10_share_31 : decode cX10_share 31 = .ok (.invokevirtual 207, 3) := by decide +kernel
theorem dX10_share_34 : decode cX10_share 34 = .ok (.i2f, 1) := by decide +kernel
theorem dX10_share_35 : decode cX10_share 35 = .ok (.aload_n 0, 1) := by decide +kernel
theorem dX10_share_36 : decode cX10_share 36 = .ok (.getfield 9, 3) := by decide +kernel
theorem dX10_share_39 : decode cX10_share 39 = .ok (.iconst 0, 1) := by decide +kernel
theorem dX10_share_40 : decode cX10_share 40 = .ok (.iaload, 1) := by decide +kernel
theorem dX10_share_41 : decode cX10_share 41 = .ok (.i2f, 1) := by decide +kernel
theorem dX10_share_42 : decode cX10_share 42 = .ok (.fdiv, 1) := by decide +kernel
theorem dX10_share_43 : decode cX10_share 43 = .ok (.goto 9, 3) := by decide +kernel
theorem dX10_share_46 : decode cX10_share 46 = .ok (.aload_n 0, 1) := by decide +kernel
theorem dX10_share_47 : decode cX10_share 47 = .ok (.iconst 2, 1) := by decide +kernel
theorem dX10_share_48 : decode cX10_share 48 = .ok (.invokevirtual 53, 3) := by decide +kernel
theorem dX10_share_51 : decode cX10_share 51 = .ok (.i2f, 1) := by decide +kernel
theorem dX10_share_52 : decode cX10_share 52 = .ok (.freturn, 1) := by decide +kernel
theorem dX10_waiting_0 : decode cX10_waiting 0 = .ok (.iconst 0, 1) := by decide +kernel
theorem dX10_waiting_1 : decode cX10_waiting 1 = .ok (.istore_n 2, 1) := by decide +kernel
theorem dX10_waiting_2 : decode cX10_waiting 2 = .ok (.iconst 0, 1) := by decide +kernel
theorem dX10_waiting_3 : decode cX10_waiting 3 = .ok (.istore_n 3, 1) := by decide +kernel
theorem dX10_waiting_4 : decode cX10_waiting 4 = .ok (.iload_n 3, 1) := by decide +kernel
theorem dX10_waiting_5 : decode cX10_waiting 5 = .ok (.aload_n 0, 1) := by decide +kernel
theorem dX10_waiting_6 : decode cX10_waiting 6 = .ok (.iload_n 1, 1) := by decide +kernel
theorem dX10_waiting_7 : decode cX10_waiting 7 = .ok (.iconst 2, 1) := by decide +kernel
theorem dX10_waiting_8 : decode cX10_waiting 8 = .ok (.invokevirtual 78, 3) := by decide +kernel
theorem dX10_waiting_11 : decode cX10_waiting 11 = .ok (.if_icmp .ge 22, 3) := by decide +kernel
theorem dX10_waiting_14 : decode cX10_waiting 14 = .ok (.aload_n 0, 1) := by decide +kernel
theorem dX10_waiting_15 : decode cX10_waiting 15 = .ok (.iload_n 1, 1) := by decide +kernel
theorem dX10_waiting_16 : decode cX10_waiting 16 = .ok (.iload_n 3, 1) := by decide +kernel
theorem dX10_waiting_17 : decode cX10_waiting 17 = .ok (.iconst 4, 1) := by decide +kernel
theorem dX10_waiting_18 : decode cX10_waiting 18 = .ok (.invokevirtual 89, 3) := by decide +kernel
theorem dX10_waiting_21 : decode cX10_waiting 21 = .ok (.ifCond .lt 6, 3) := by decide +kernel
theorem dX10_waiting_24 : decode cX10_waiting 24 = .ok (.iinc 2 1, 3) := by decide +kernel
theorem dX10_waiting_27 : decode cX10_waiting 27 = .ok (.iinc 3 1, 3) := by decide +kernel
theorem dX10_waiting_30 : decode cX10_waiting 30 = .ok (.goto (-26), 3) := by decide +kernel
theorem dX10_waiting_33 : decode cX10_waiting 33 = .ok (.iload_n 2, 1) := by decide +kernel
theorem dX10_waiting_34 : decode cX10_waiting 34 = .ok (.ireturn, 1) := by decide +kernel
theorem dX10_presses_0 : decode cX10_presses 0 = .ok (.aload_n 0, 1) := by decide +kernel
theorem dX10_presses_1 : decode cX10_presses 1 = .ok (.iload_n 1, 1) := by decide +kernel
theorem dX10_presses_2 : decode cX10_presses 2 = .ok (.iload_n 2, 1) := by decide +kernel
theorem dX10_presses_3 : decode cX10_presses 3 = .ok (.invokevirtual 105, 3) := by decide +kernel
theorem dX10_presses_6 : decode cX10_presses 6 = .ok (.ifCond .ne 5, 3) := by decide +kernel
theorem dX10_presses_9 : decode cX10_presses 9 = .ok (.iconst 1, 1) := by decide +kernel
theorem dX10_presses_10 : decode cX10_presses 10 = .ok (.ireturn, 1) := by decide +kernel
theorem dX10_presses_11 : decode cX10_presses 11 = .ok (.aload_n 0, 1) := by decide +kernel
theorem dX10_presses_12 : decode cX10_presses 12 = .ok (.iload_n 1, 1) := by decide +kernel
theorem dX10_presses_13 : decode cX10_presses 13 = .ok (.iload_n 2, 1) := by decide +kernel
theorem dX10_presses_14 : decode cX10_presses 14 = .ok (.iconst 2, 1) := by decide +kernel
theorem dX10_presses_15 : decode cX10_presses 15 = .ok (.invokevirtual 89, 3) := by decide +kernel
theorem dX10_presses_18 : decode cX10_presses 18 = .ok (.ifCond .ne 5, 3) := by decide +kernel
theorem dX10_presses_21 : decode cX10_presses 21 = .ok (.iconst 2, 1) := by decide +kernel
theorem dX10_presses_22 : decode cX10_presses 22 = .ok (.ireturn, 1) := by decide +kernel
theorem dX10_presses_23 : decode cX10_presses 23 = .ok (.aload_n 0, 1) := by decide +kernel
theorem dX10_presses_24 : decode cX10_presses 24 = .ok (.iload_n 1, 1) := by decide +kernel
theorem dX10_presses_25 : decode cX10_presses 25 = .ok (.iload_n 2, 1) := by decide +kernel
theorem dX10_presses_26 : decode cX10_presses 26 = .ok (.iconst 4, 1) := by decide +kernel
theorem dX10_presses_27 : decode cX10_presses 27 = .ok (.invokevirtual 89, 3) := by decide +kernel
theorem dX10_presses_30 : decode cX10_presses 30 = .ok (.ifCond .ge 21, 3) := by decide +kernel
theorem dX10_presses_33 : decode cX10_presses 33 = .ok (.aload_n 0, 1) := by decide +kernel
theorem dX10_presses_34 : decode cX10_presses 34 = .ok (.getfield 9, 3) := by decide +kernel
theorem dX10_presses_37 : decode cX10_presses 37 = .ok (.iload_n 1, 1) := by decide +kernel
theorem dX10_presses_38 : decode cX10_presses 38 = .ok (.iload_n 2, 1) := by decide +kernel
theorem dX10_presses_39 : decode cX10_presses 39 = .ok (.invokestatic 66, 3) := by decide +kernel
theorem dX10_presses_42 : decode cX10_presses 42 = .ok (.iconst 4, 1) := by decide +kernel
theorem dX10_presses_43 : decode cX10_presses 43 = .ok (.iadd, 1) := by decide +kernel
theorem dX10_presses_44 : decode cX10_presses 44 = .ok (.aload_n 0, 1) := by decide +kernel
theorem dX10_presses_45 : decode cX10_presses 45 = .ok (.getfield 9, 3) := by decide +kernel
theorem dX10_presses_48 : decode cX10_presses 48 = .ok (.iconst 3, 1) := by decide +kernel
theorem dX10_presses_49 : decode cX10_presses 49 = .ok (.iaload, 1) := by decide +kernel
theorem dX10_presses_50 : decode cX10_presses 50 = .ok (.iastore, 1) := by decide +kernel
theorem dX10_presses_51 : decode cX10_presses 51 = .ok (.aload_n 0, 1) := by decide +kernel
theorem dX10_presses_52 : decode cX10_presses 52 = .ok (.aload_n 0, 1) := by decide +kernel
theorem dX10_presses_53 : decode cX10_presses 53 = .ok (.iload_n 1, 1) := by decide +kernel
theorem dX10_presses_54 : decode cX10_presses 54 = .ok (.invokevirtual 210, 3) := by decide +kernel
theorem dX10_presses_57 : decode cX10_presses 57 = .ok (.putfield 102, 3) := by decide +kernel
theorem dX10_presses_60 : decode cX10_presses 60 = .ok (.iconst 0, 1) := by decide +kernel
theorem dX10_presses_61 : decode cX10_presses 61 = .ok (.ireturn, 1) := by decide +kernel
theorem dX10_press_0 : decode cX10_press 0 = .ok (.aload_n 0, 1) := by decide +kernel
theorem dX10_press_1 : decode cX10_press 1 = .ok (.invokevirtual 109, 3) := by decide +kernel
theorem dX10_press_4 : decode cX10_press 4 = .ok (.aload_n 0, 1) := by decide +kernel
theorem dX10_press_5 : decode cX10_press 5 = .ok (.aload_n 0, 1) := by decide +kernel
theorem dX10_press_6 : decode cX10_press 6 = .ok (.iload_n 1, 1) := by decide +kernel
theorem dX10_press_7 : decode cX10_press 7 = .ok (.iload_n 2, 1) := by decide +kernel
theorem dX10_press_8 : decode cX10_press 8 = .ok (.invokevirtual 213, 3) := by decide +kernel
theorem dX10_press_11 : decode cX10_press 11 = .ok (.invokevirtual 115, 3) := by decide +kernel
theorem dX10_press_14 : decode cX10_press 14 = .ok (.ireturn, 1) := by decide +kernel
theorem dX10_passes_0 : decode cX10_passes 0 = .ok (.iconst 0, 1) := by decide +kernel
theorem dX10_passes_1 : decode cX10_passes 1 = .ok (.istore_n 1, 1) := by decide +kernel
theorem dX10_passes_2 : decode cX10_passes 2 = .ok (.iconst 0, 1) := by decide +kernel
theorem dX10_passes_3 : decode cX10_passes 3 = .ok (.istore_n 2, 1) := by decide +kernel
theorem dX10_passes_4 : decode cX10_passes 4 = .ok (.iload_n 2, 1) := by decide +kernel
theorem dX10_passes_5 : decode cX10_passes 5 = .ok (.aload_n 0, 1) := by decide +kernel
theorem dX10_passes_6 : decode cX10_passes 6 = .ok (.getfield 9, 3) := by decide +kernel
theorem dX10_passes_9 : decode cX10_passes 9 = .ok (.iconst 2, 1) := by decide +kernel
theorem dX10_passes_10 : decode cX10_passes 10 = .ok (.iaload, 1) := by decide +kernel
theorem dX10_passes_11 : decode cX10_passes 11 = .ok (.if_icmp .ge 86, 3) := by decide +kernel
theorem dX10_passes_14 : decode cX10_passes 14 = .ok (.aload_n 0, 1) := by decide +kernel
theorem dX10_passes_15 : decode cX10_passes 15 = .ok (.iload_n 2, 1) := by decide +kernel
theorem dX10_passes_16 : decode cX10_passes 16 = .ok (.iconst 4, 1) := by decide +kernel
theorem dX10_passes_17 : decode cX10_passes 17 = .ok (.invokevirtual 78, 3) := by decide +kernel
theorem dX10_passes_20 : decode cX10_passes 20 = .ok (.aload_n 0, 1) := by decide +kernel
theorem dX10_passes_21 : decode cX10_passes 21 = .ok (.getfield 9, 3) := by decide +kernel
theorem dX10_passes_24 : decode cX10_passes 24 = .ok (.iconst 3, 1) := by decide +kernel
theorem dX10_passes_25 : decode cX10_passes 25 = .ok (.iaload, 1) := by decide +kernel
theorem dX10_passes_26 : decode cX10_passes 26 = .ok (.if_icmp .ne 65, 3) := by decide +kernel
theorem dX10_passes_29 : decode cX10_passes 29 = .ok (.aload_n 0, 1) := by decide +kernel
theorem dX10_passes_30 : decode cX10_passes 30 = .ok (.getfield 9, 3) := by decide +kernel
theorem dX10_passes_33 : decode cX10_passes 33 = .ok (.iload_n 2, 1) := by decide +kernel
theorem dX10_passes_34 : decode cX10_passes 34 = .ok (.invokestatic 63, 3) := by decide +kernel
theorem dX10_passes_37 : decode cX10_passes 37 = .ok (.iconst 3, 1) := by decide +kernel
theorem dX10_passes_38 : decode cX10_passes 38 = .ok (.iadd, 1) := by decide +kernel
theorem dX10_passes_39 : decode cX10_passes 39 = .ok (.iconst 1, 1) := by decide +kernel
theorem dX10_passes_40 : decode cX10_passes 40 = .ok (.aload_n 0, 1) := by decide +kernel
theorem dX10_passes_41 : decode cX10_passes 41 = .ok (.iload_n 2, 1) := by decide +kernel
theorem dX10_passes_42 : decode cX10_passes 42 = .ok (.iconst 3, 1) := by decide +kernel
theorem dX10_passes_43 : decode cX10_passes 43 = .ok (.invokevirtual 78, 3) := by decide +kernel
theorem dX10_passes_46 : decode cX10_passes 46 = .ok (.isub, 1) := by decide +kernel
theorem dX10_passes_47 : decode cX10_passes 47 = .ok (.iastore, 1) := by decide +kernel
theorem dX10_passes_48 : decode cX10_passes 48 = .ok (.aload_n 0, 1) := by decide +kernel
theorem dX10_passes_49 : decode cX10_passes 49 = .ok (.getfield 9, 3) := by decide +kernel
theorem dX10_passes_52 : decode cX10_passes 52 = .ok (.iload_n 2, 1) := by decide +kernel
theorem dX10_passes_53 : decode cX10_passes 53 = .ok (.invokestatic 63, 3) := by decide +kernel
theorem dX10_passes_56 : decode cX10_passes 56 = .ok (.iconst 4, 1) := by decide +kernel
theorem dX10_passes_57 : decode cX10_passes 57 = .ok (.iadd, 1) := by decide +kernel
theorem dX10_passes_58 : decode cX10_passes 58 = .ok (.iconst (-1), 1) := by decide +kernel
theorem dX10_passes_59 : decode cX10_passes 59 = .ok (.iastore, 1) := by decide +kernel
theorem dX10_passes_60 : decode cX10_passes 60 = .ok (.iconst 0, 1) := by decide +kernel
theorem dX10_passes_61 : decode cX10_passes 61 = .ok (.istore_n 3, 1) := by decide +kernel
theorem dX10_passes_62 : decode cX10_passes 62 = .ok (.iload_n 3, 1) := by decide +kernel
theorem dX10_passes_63 : decode cX10_passes 63 = .ok (.aload_n 0, 1) := by decide +kernel
theorem dX10_passes_64 : decode cX10_passes 64 = .ok (.iload_n 2, 1) := by decide +kernel
theorem dX10_passes_65 : decode cX10_passes 65 = .ok (.iconst 2, 1) := by decide +kernel
theorem dX10_passes_66 : decode cX10_passes 66 = .ok (.invokevirtual 78, 3) := by decide +kernel
theorem dX10_passes_69 : decode cX10_passes 69 = .ok (.if_icmp .ge 22, 3) := by decide +kernel
theorem dX10_passes_72 : decode cX10_passes 72 = .ok (.aload_n 0, 1) := by decide +kernel
theorem dX10_passes_73 : decode cX10_passes 73 = .ok (.getfield 9, 3) := by decide +kernel
theorem dX10_passes_76 : decode cX10_passes 76 = .ok (.iload_n 2, 1) := by decide +kernel
theorem dX10_passes_77 : decode cX10_passes 77 = .ok (.iload_n 3, 1) := by decide +kernel
theorem dX10_passes_78 : decode cX10_passes 78 = .ok (.invokestatic 66, 3) := by decide +kernel
theorem dX10_passes_81 : decode cX10_passes 81 = .ok (.iconst 5, 1) := by decide +kernel
theorem dX10_passes_82 : decode cX10_passes 82 = .ok (.iadd, 1) := by decide +kernel
theorem dX10_passes_83 : decode cX10_passes 83 = .ok (.iconst 0, 1) := by decide +kernel
theorem dX10_passes_84 : decode cX10_passes 84 = .ok (.iastore, 1) := by decide +kernel
theorem dX10_passes_85 : decode cX10_passes 85 = .ok (.iinc 3 1, 3) := by decide +kernel
theorem dX10_passes_88 : decode cX10_passes 88 = .ok (.goto (-26), 3) := by decide +kernel
theorem dX10_passes_91 : decode cX10_passes 91 = .ok (.iinc 2 1, 3) := by decide +kernel
theorem dX10_passes_94 : decode cX10_passes 94 = .ok (.goto (-90), 3) := by decide +kernel
theorem dX10_passes_97 : decode cX10_passes 97 = .ok (.iconst 0, 1) := by decide +kernel
theorem dX10_passes_98 : decode cX10_passes 98 = .ok (.istore_n 2, 1) := by decide +kernel
theorem dX10_passes_99 : decode cX10_passes 99 = .ok (.iload_n 2, 1) := by decide +kernel
theorem dX10_passes_100 : decode cX10_passes 100 = .ok (.aload_n 0, 1) := by decide +kernel
theorem dX10_passes_101 : decode cX10_passes 101 = .ok (.getfield 9, 3) := by decide +kernel
theorem dX10_passes_104 : decode cX10_passes 104 = .ok (.iconst 2, 1) := by decide +kernel
theorem dX10_passes_105 : decode cX10_passes 105 = .ok (.iaload, 1) := by decide +kernel
theorem dX10_passes_106 : decode cX10_passes 106 = .ok (.if_icmp .ge 221, 3) := by decide +kernel
theorem dX10_passes_109 : decode cX10_passes 109 = .ok (.aload_n 0, 1) := by decide +kernel
theorem dX10_passes_110 : decode cX10_passes 110 = .ok (.iload_n 2, 1) := by decide +kernel
theorem dX10_passes_111 : decode cX10_passes 111 = .ok (.iconst 3, 1) := by decide +kernel
theorem dX10_passes_112 : decode cX10_passes 112 = .ok (.invokevirtual 78, 3) := by decide +kernel
theorem dX10_passes_115 : decode cX10_passes 115 = .ok (.istore_n 3, 1) := by decide +kernel
theorem dX10_passes_116 : decode cX10_passes 116 = .ok (.aload_n 0, 1) := by decide +kernel
theorem dX10_passes_117 : decode cX10_passes 117 = .ok (.iload_n 2, 1) := by decide +kernel
theorem dX10_passes_118 : decode cX10_passes 118 = .ok (.aload_n 0, 1) := by decide +kernel
theorem dX10_passes_119 : decode cX10_passes 119 = .ok (.getfield 9, 3) := by decide +kernel
theorem dX10_passes_122 : decode cX10_passes 122 = .ok (.iconst 3, 1) := by decide +kernel
theorem dX10_passes_123 : decode cX10_passes 123 = .ok (.iaload, 1) := by decide +kernel
theorem dX10_passes_124 : decode cX10_passes 124 = .ok (.invokevirtual 124, 3) := by decide +kernel
theorem dX10_passes_127 : decode cX10_passes 127 = .ok (.istore 4, 2) := by decide +kernel
theorem dX10_passes_129 : decode cX10_passes 129 = .ok (.iconst 0, 1) := by decide +kernel
theorem dX10_passes_130 : decode cX10_passes 130 = .ok (.istore 5, 2) := by decide +kernel
theorem dX10_passes_132 : decode cX10_passes 132 = .ok (.iload 5, 2) := by decide +kernel
theorem dX10_passes_134 : decode cX10_passes 134 = .ok (.aload_n 0, 1) := by decide +kernel
theorem dX10_passes_135 : decode cX10_passes 135 = .ok (.iload_n 2, 1) := by decide +kernel
theorem dX10_passes_136 : decode cX10_passes 136 = .ok (.iconst 2, 1) := by decide +kernel
theorem dX10_passes_137 : decode cX10_passes 137 = .ok (.invokevirtual 78, 3) := by decide +kernel
theorem dX10_passes_140 : decode cX10_passes 140 = .ok (.if_icmp .ge 181, 3) := by decide +kernel
theorem dX10_passes_143 : decode cX10_passes 143 = .ok (.aload_n 0, 1) := by decide +kernel
theorem dX10_passes_144 : decode cX10_passes 144 = .ok (.iload_n 2, 1) := by decide +kernel
theorem dX10_passes_145 : decode cX10_passes 145 = .ok (.iload_n 3, 1) := by decide +kernel
theorem dX10_passes_146 : decode cX10_passes 146 = .ok (.iload 5, 2) := by decide +kernel
theorem dX10_passes_148 : decode cX10_passes 148 = .ok (.iload 4, 2) := by decide +kernel
theorem dX10_passes_150 : decode cX10_passes 150 = .ok (.invokevirtual 133, 3) := by decide +kernel
theorem dX10_passes_153 : decode cX10_passes 153 = .ok (.ifCond .ne 6, 3) := by decide +kernel
theorem dX10_passes_156 : decode cX10_passes 156 = .ok (.goto 159, 3) := by decide +kernel
theorem dX10_passes_159 : decode cX10_passes 159 = .ok (.iload_n 2, 1) := by decide +kernel
theorem dX10_passes_160 : decode cX10_passes 160 = .ok (.iload 5, 2) := by decide +kernel
theorem dX10_passes_162 : decode cX10_passes 162 = .ok (.invokestatic 66, 3) := by decide +kernel
theorem dX10_passes_165 : decode cX10_passes 165 = .ok (.istore 6, 2) := by decide +kernel
theorem dX10_passes_167 : decode cX10_passes 167 = .ok (.aload_n 0, 1) := by decide +kernel
theorem dX10_passes_168 : decode cX10_passes 168 = .ok (.getfield 9, 3) := by decide +kernel
theorem dX10_passes_171 : decode cX10_passes 171 = .ok (.iload 6, 2) := by decide +kernel
theorem dX10_passes_173 : decode cX10_passes 173 = .ok (.iconst 2, 1) := by decide +kernel
theorem dX10_passes_174 : decode cX10_passes 174 = .ok (.iadd, 1) := by decide +kernel
theorem dX10_passes_175 : decode cX10_passes 175 = .ok (.iaload, 1) := by decide +kernel
theorem dX10_passes_176 : decode cX10_passes 176 = .ok (.ifCond .ne 19, 3) := by decide +kernel
theorem dX10_passes_179 : decode cX10_passes 179 = .ok (.aload_n 0, 1) := by decide +kernel
theorem dX10_passes_180 : decode cX10_passes 180 = .ok (.getfield 9, 3) := by decide +kernel
theorem dX10_passes_183 : decode cX10_passes 183 = .ok (.iload 6, 2) := by decide +kernel
theorem dX10_passes_185 : decode cX10_passes 185 = .ok (.iconst 3, 1) := by decide +kernel
theorem dX10_passes_186 : decode cX10_passes 186 = .ok (.iadd, 1) := by decide +kernel
theorem dX10_passes_187 : decode cX10_passes 187 = .ok (.dup2, 1) := by decide +kernel
theorem dX10_passes_188 : decode cX10_passes 188 = .ok (.iaload, 1) := by decide +kernel
theorem dX10_passes_189 : decode cX10_passes 189 = .ok (.iconst 1, 1) := by decide +kernel
theorem dX10_passes_190 : decode cX10_passes 190 = .ok (.iadd, 1) := by decide +kernel
theorem dX10_passes_191 : decode cX10_passes 191 = .ok (.iastore, 1) := by decide +kernel
theorem dX10_passes_192 : decode cX10_passes 192 = .ok (.goto 123, 3) := by decide +kernel
theorem dX10_passes_195 : decode cX10_passes 195 = .ok (.iload 4, 2) := by decide +kernel
theorem dX10_passes_197 : decode cX10_passes 197 = .ok (.aload_n 0, 1) := by decide +kernel
theorem dX10_passes_198 : decode cX10_passes 198 = .ok (.iload_n 2, 1) := by decide +kernel
theorem dX10_passes_199 : decode cX10_passes 199 = .ok (.iload_n 3, 1) := by decide +kernel
theorem dX10_passes_200 : decode cX10_passes 200 = .ok (.iload 5, 2) := by decide +kernel
theorem dX10_passes_202 : decode cX10_passes 202 = .ok (.invokevirtual 93, 3) := by decide +kernel
theorem dX10_passes_205 : decode cX10_passes 205 = .ok (.if_icmp .ne 89, 3) := by decide +kernel
theorem dX10_passes_208 : decode cX10_passes 208 = .ok (.aload_n 0, 1) := by decide +kernel
theorem dX10_passes_209 : decode cX10_passes 209 = .ok (.getfield 9, 3) := by decide +kernel
theorem dX10_passes_212 : decode cX10_passes 212 = .ok (.iload 6, 2) := by decide +kernel
theorem dX10_passes_214 : decode cX10_passes 214 = .ok (.iconst 5, 1) := by decide +kernel
theorem dX10_passes_215 : decode cX10_passes 215 = .ok (.iadd, 1) := by decide +kernel
theorem dX10_passes_216 : decode cX10_passes 216 = .ok (.aload_n 0, 1) := by decide +kernel
theorem dX10_passes_217 : decode cX10_passes 217 = .ok (.getfield 9, 3) := by decide +kernel
theorem dX10_passes_220 : decode cX10_passes 220 = .ok (.iload 6, 2) := by decide +kernel
theorem dX10_passes_222 : decode cX10_passes 222 = .ok (.iconst 4, 1) := by decide +kernel
theorem dX10_passes_223 : decode cX10_passes 223 = .ok (.iadd, 1) := by decide +kernel
theorem dX10_passes_224 : decode cX10_passes 224 = .ok (.iaload, 1) := by decide +kernel
theorem dX10_passes_225 : decode cX10_passes 225 = .ok (.ifCond .lt 7, 3) := by decide +kernel
theorem dX10_passes_228 : decode cX10_passes 228 = .ok (.iconst 1, 1) := by decide +kernel
theorem dX10_passes_229 : decode cX10_passes 229 = .ok (.goto 4, 3) := by decide +kernel
theorem dX10_passes_232 : decode cX10_passes 232 = .ok (.iconst 0, 1) := by decide +kernel
theorem dX10_passes_233 : decode cX10_passes 233 = .ok (.iastore, 1) := by decide +kernel
theorem dX10_passes_234 : decode cX10_passes 234 = .ok (.aload_n 0, 1) := by decide +kernel
theorem dX10_passes_235 : decode cX10_passes 235 = .ok (.getfield 9, 3) := by decide +kernel
theorem dX10_passes_238 : decode cX10_passes 238 = .ok (.iload 6, 2) := by decide +kernel
theorem dX10_passes_240 : decode cX10_passes 240 = .ok (.iconst 4, 1) := by decide +kernel
theorem dX10_passes_241 : decode cX10_passes 241 = .ok (.iadd, 1) := by decide +kernel
theorem dX10_passes_242 : decode cX10_passes 242 = .ok (.iaload, 1) := by decide +kernel
theorem dX10_passes_243 : decode cX10_passes 243 = .ok (.ifCond .lt 51, 3) := by decide +kernel
theorem dX10_passes_246 : decode cX10_passes 246 = .ok (.iinc 1 1, 3) := by decide +kernel
theorem dX10_passes_249 : decode cX10_passes 249 = .ok (.aload_n 0, 1) := by decide +kernel
theorem dX10_passes_250 : decode cX10_passes 250 = .ok (.getfield 9, 3) := by decide +kernel
theorem dX10_passes_253 : decode cX10_passes 253 = .ok (.iconst 4, 1) := by decide +kernel
theorem dX10_passes_254 : decode cX10_passes 254 = .ok (.dup2, 1) := by decide +kernel
theorem dX10_passes_255 : decode cX10_passes 255 = .ok (.iaload, 1) := by decide +kernel
theorem dX10_passes_256 : decode cX10_passes 256 = .ok (.iconst 1, 1) := by decide +kernel
theorem dX10_passes_257 : decode cX10_passes 257 = .ok (.iadd, 1) := by decide +kernel
theorem dX10_passes_258 : decode cX10_passes 258 = .ok (.iastore, 1) := by decide +kernel
theorem dX10_passes_259 : decode cX10_passes 259 = .ok (.aload_n 0, 1) := by decide +kernel
theorem dX10_passes_260 : decode cX10_passes 260 = .ok (.getfield 9, 3) := by decide +kernel
theorem dX10_passes_263 : decode cX10_passes 263 = .ok (.iconst 5, 1) := by decide +kernel
theorem dX10_passes_264 : decode cX10_passes 264 = .ok (.dup2, 1) := by decide +kernel
theorem dX10_passes_265 : decode cX10_passes 265 = .ok (.iaload, 1) := by decide +kernel
theorem dX10_passes_266 : decode cX10_passes 266 = .ok (.aload_n 0, 1) := by decide +kernel
theorem dX10_passes_267 : decode cX10_passes 267 = .ok (.getfield 9, 3) := by decide +kernel
theorem dX10_passes_270 : decode cX10_passes 270 = .ok (.iconst 3, 1) := by decide +kernel
theorem dX10_passes_271 : decode cX10_passes 271 = .ok (.iaload, 1) := by decide +kernel
theorem dX10_passes_272 : decode cX10_passes 272 = .ok (.aload_n 0, 1) := by decide +kernel
theorem dX10_passes_273 : decode cX10_passes 273 = .ok (.getfield 9, 3) := by decide +kernel
theorem dX10_passes_276 : decode cX10_passes 276 = .ok (.iload 6, 2) := by decide +kernel
theorem dX10_passes_278 : decode cX10_passes 278 = .ok (.iconst 4, 1) := by decide +kernel
theorem dX10_passes_279 : decode cX10_passes 279 = .ok (.iadd, 1) := by decide +kernel
theorem dX10_passes_280 : decode cX10_passes 280 = .ok (.iaload, 1) := by decide +kernel
theorem dX10_passes_281 : decode cX10_passes 281 = .ok (.isub, 1) := by decide +kernel
theorem dX10_passes_282 : decode cX10_passes 282 = .ok (.iadd, 1) := by decide +kernel
theorem dX10_passes_283 : decode cX10_passes 283 = .ok (.iastore, 1) := by decide +kernel
theorem dX10_passes_284 : decode cX10_passes 284 = .ok (.aload_n 0, 1) := by decide +kernel
theorem dX10_passes_285 : decode cX10_passes 285 = .ok (.getfield 9, 3) := by decide +kernel
theorem dX10_passes_288 : decode cX10_passes 288 = .ok (.iload 6, 2) := by decide +kernel
theorem dX10_passes_290 : decode cX10_passes 290 = .ok (.iconst 4, 1) := by decide +kernel
theorem dX10_passes_291 : decode cX10_passes 291 = .ok (.iadd, 1) := by decide +kernel
theorem dX10_passes_292 : decode cX10_passes 292 = .ok (.iconst (-1), 1) := by decide +kernel
theorem dX10_passes_293 : decode cX10_passes 293 = .ok (.iastore, 1) := by decide +kernel
theorem dX10_passes_294 : decode cX10_passes 294 = .ok (.aload_n 0, 1) := by decide +kernel
theorem dX10_passes_295 : decode cX10_passes 295 = .ok (.getfield 9, 3) := by decide +kernel
theorem dX10_passes_298 : decode cX10_passes 298 = .ok (.iload 6, 2) := by decide +kernel
theorem dX10_passes_300 : decode cX10_passes 300 = .ok (.iconst 3, 1) := by decide +kernel
theorem dX10_passes_301 : decode cX10_passes 301 = .ok (.iadd, 1) := by decide +kernel
theorem dX10_passes_302 : decode cX10_passes 302 = .ok (.dup2, 1) := by decide +kernel
theorem dX10_passes_303 : decode cX10_passes 303 = .ok (.iaload, 1) := by decide +kernel
theorem dX10_passes_304 : decode cX10_passes 304 = .ok (.aload_n 0, 1) := by decide +kernel
theorem dX10_passes_305 : decode cX10_passes 305 = .ok (.getfield 9, 3) := by decide +kernel
theorem dX10_passes_308 : decode cX10_passes 308 = .ok (.iload 6, 2) := by decide +kernel
theorem dX10_passes_310 : decode cX10_passes 310 = .ok (.iconst 5, 1) := by decide +kernel
theorem dX10_passes_311 : decode cX10_passes 311 = .ok (.iadd, 1) := by decide +kernel
theorem dX10_passes_312 : decode cX10_passes 312 = .ok (.iaload, 1) := by decide +kernel
theorem dX10_passes_313 : decode cX10_passes 313 = .ok (.iadd, 1) := by decide +kernel
theorem dX10_passes_314 : decode cX10_passes 314 = .ok (.iastore, 1) := by decide +kernel
theorem dX10_passes_315 : decode cX10_passes 315 = .ok (.iinc 5 1, 3) := by decide +kernel
theorem dX10_passes_318 : decode cX10_passes 318 = .ok (.goto (-186), 3) := by decide +kernel
theorem dX10_passes_321 : decode cX10_passes 321 = .ok (.iinc 2 1, 3) := by decide +kernel
theorem dX10_passes_324 : decode cX10_passes 324 = .ok (.goto (-225), 3) := by decide +kernel
theorem dX10_passes_327 : decode cX10_passes 327 = .ok (.aload_n 0, 1) := by decide +kernel
theorem dX10_passes_328 : decode cX10_passes 328 = .ok (.getfield 9, 3) := by decide +kernel
theorem dX10_passes_331 : decode cX10_passes 331 = .ok (.iconst 3, 1) := by decide +kernel
theorem dX10_passes_332 : decode cX10_passes 332 = .ok (.dup2, 1) := by decide +kernel
theorem dX10_passes_333 : decode cX10_passes 333 = .ok (.iaload, 1) := by decide +kernel
theorem dX10_passes_334 : decode cX10_passes 334 = .ok (.iconst 1, 1) := by decide +kernel
theorem dX10_passes_335 : decode cX10_passes 335 = .ok (.iadd, 1) := by decide +kernel
theorem dX10_passes_336 : decode cX10_passes 336 = .ok (.iastore, 1) := by decide +kernel
theorem dX10_passes_337 : decode cX10_passes 337 = .ok (.iload_n 1, 1) := by decide +kernel
theorem dX10_passes_338 : decode cX10_passes 338 = .ok (.ireturn, 1) := by decide +kernel
theorem dX10_runs_0 : decode cX10_runs 0 = .ok (.iload_n 1, 1) := by decide +kernel
theorem dX10_runs_1 : decode cX10_runs 1 = .ok (.iconst 1, 1) := by decide +kernel
theorem dX10_runs_2 : decode cX10_runs 2 = .ok (.sipush 300, 3) := by decide +kernel
theorem dX10_runs_5 : decode cX10_runs 5 = .ok (.invokestatic 70, 3) := by decide +kernel
theorem dX10_runs_8 : decode cX10_runs 8 = .ok (.ifCond .ne 5, 3) := by decide +kernel
theorem dX10_runs_11 : decode cX10_runs 11 = .ok (.iconst 1, 1) := by decide +kernel
theorem dX10_runs_12 : decode cX10_runs 12 = .ok (.ireturn, 1) := by decide +kernel
theorem dX10_runs_13 : decode cX10_runs 13 = .ok (.aload_n 0, 1) := by decide +kernel
theorem dX10_runs_14 : decode cX10_runs 14 = .ok (.getfield 9, 3) := by decide +kernel
theorem dX10_runs_17 : decode cX10_runs 17 = .ok (.iconst 3, 1) := by decide +kernel
theorem dX10_runs_18 : decode cX10_runs 18 = .ok (.iaload, 1) := by decide +kernel
theorem dX10_runs_19 : decode cX10_runs 19 = .ok (.iload_n 1, 1) := by decide +kernel
theorem dX10_runs_20 : decode cX10_runs 20 = .ok (.iadd, 1) := by decide +kernel
theorem dX10_runs_21 : decode cX10_runs 21 = .ok (.ldc 200, 2) := by decide +kernel
theorem dX10_runs_23 : decode cX10_runs 23 = .ok (.if_icmp .le 5, 3) := by decide +kernel
theorem dX10_runs_26 : decode cX10_runs 26 = .ok (.iconst 2, 1) := by decide +kernel
theorem dX10_runs_27 : decode cX10_runs 27 = .ok (.ireturn, 1) := by decide +kernel
theorem dX10_runs_28 : decode cX10_runs 28 = .ok (.aload_n 0, 1) := by decide +kernel
theorem dX10_runs_29 : decode cX10_runs 29 = .ok (.iconst 0, 1) := by decide +kernel
theorem dX10_runs_30 : decode cX10_runs 30 = .ok (.putfield 102, 3) := by decide +kernel
theorem dX10_runs_33 : decode cX10_runs 33 = .ok (.iconst 0, 1) := by decide +kernel
theorem dX10_runs_34 : decode cX10_runs 34 = .ok (.istore_n 2, 1) := by decide +kernel
theorem dX10_runs_35 : decode cX10_runs 35 = .ok (.iload_n 2, 1) := by decide +kernel
theorem dX10_runs_36 : decode cX10_runs 36 = .ok (.iload_n 1, 1) := by decide +kernel
theorem dX10_runs_37 : decode cX10_runs 37 = .ok (.if_icmp .ge 22, 3) := by decide +kernel
theorem dX10_runs_40 : decode cX10_runs 40 = .ok (.aload_n 0, 1) := by decide +kernel
theorem dX10_runs_41 : decode cX10_runs 41 = .ok (.dup, 1) := by decide +kernel
theorem dX10_runs_42 : decode cX10_runs 42 = .ok (.getfield 102, 3) := by decide +kernel
theorem dX10_runs_45 : decode cX10_runs 45 = .ok (.aload_n 0, 1) := by decide +kernel
theorem dX10_runs_46 : decode cX10_runs 46 = .ok (.invokevirtual 216, 3) := by decide +kernel
theorem dX10_runs_49 : decode cX10_runs 49 = .ok (.iadd, 1) := by decide +kernel
theorem dX10_runs_50 : decode cX10_runs 50 = .ok (.putfield 102, 3) := by decide +kernel
theorem dX10_runs_53 : decode cX10_runs 53 = .ok (.iinc 2 1, 3) := by decide +kernel
theorem dX10_runs_56 : decode cX10_runs 56 = .ok (.goto (-21), 3) := by decide +kernel
theorem dX10_runs_59 : decode cX10_runs 59 = .ok (.iconst 0, 1) := by decide +kernel
theorem dX10_runs_60 : decode cX10_runs 60 = .ok (.ireturn, 1) := by decide +kernel
theorem dX10_run_0 : decode cX10_run 0 = .ok (.aload_n 0, 1) := by decide +kernel
theorem dX10_run_1 : decode cX10_run 1 = .ok (.invokevirtual 109, 3) := by decide +kernel
theorem dX10_run_4 : decode cX10_run 4 = .ok (.aload_n 0, 1) := by decide +kernel
theorem dX10_run_5 : decode cX10_run 5 = .ok (.aload_n 0, 1) := by decide +kernel
theorem dX10_run_6 : decode cX10_run 6 = .ok (.iload_n 1, 1) := by decide +kernel
theorem dX10_run_7 : decode cX10_run 7 = .ok (.invokevirtual 220, 3) := by decide +kernel
theorem dX10_run_10 : decode cX10_run 10 = .ok (.invokevirtual 115, 3) := by decide +kernel
theorem dX10_run_13 : decode cX10_run 13 = .ok (.ireturn, 1) := by decide +kernel
theorem dX10_mayChange_0 : decode cX10_mayChange 0 = .ok (.aload_n 0, 1) := by decide +kernel
theorem dX10_mayChange_1 : decode cX10_mayChange 1 = .ok (.getfield 9, 3) := by decide +kernel
theorem dX10_mayChange_4 : decode cX10_mayChange 4 = .ok (.iconst 3, 1) := by decide +kernel
theorem dX10_mayChange_5 : decode cX10_mayChange 5 = .ok (.iaload, 1) := by decide +kernel
theorem dX10_mayChange_6 : decode cX10_mayChange 6 = .ok (.iload_n 2, 1) := by decide +kernel
theorem dX10_mayChange_7 : decode cX10_mayChange 7 = .ok (.iadd, 1) := by decide +kernel
theorem dX10_mayChange_8 : decode cX10_mayChange 8 = .ok (.istore_n 3, 1) := by decide +kernel
theorem dX10_mayChange_9 : decode cX10_mayChange 9 = .ok (.aload_n 0, 1) := by decide +kernel
theorem dX10_mayChange_10 : decode cX10_mayChange 10 = .ok (.iload_n 1, 1) := by decide +kernel
theorem dX10_mayChange_11 : decode cX10_mayChange 11 = .ok (.iconst 3, 1) := by decide +kernel
theorem dX10_mayChange_12 : decode cX10_mayChange 12 = .ok (.invokevirtual 78, 3) := by decide +kernel
theorem dX10_mayChange_15 : decode cX10_mayChange 15 = .ok (.istore 4, 2) := by decide +kernel
theorem dX10_mayChange_17 : decode cX10_mayChange 17 = .ok (.iconst 0, 1) := by decide +kernel
theorem dX10_mayChange_18 : decode cX10_mayChange 18 = .ok (.istore 5, 2) := by decide +kernel
theorem dX10_mayChange_20 : decode cX10_mayChange 20 = .ok (.iload 5, 2) := by decide +kernel
theorem dX10_mayChange_22 : decode cX10_mayChange 22 = .ok (.aload_n 0, 1) := by decide +kernel
theorem dX10_mayChange_23 : decode cX10_mayChange 23 = .ok (.iload_n 1, 1) := by decide +kernel
theorem dX10_mayChange_24 : decode cX10_mayChange 24 = .ok (.iconst 2, 1) := by decide +kernel
theorem dX10_mayChange_25 : decode cX10_mayChange 25 = .ok (.invokevirtual 78, 3) := by decide +kernel
theorem dX10_mayChange_28 : decode cX10_mayChange 28 = .ok (.if_icmp .ge 205, 3) := by decide +kernel
theorem dX10_mayChange_31 : decode cX10_mayChange 31 = .ok (.aload_n 0, 1) := by decide +kernel
theorem dX10_mayChange_32 : decode cX10_mayChange 32 = .ok (.iload_n 1, 1) := by decide +kernel
theorem dX10_mayChange_33 : decode cX10_mayChange 33 = .ok (.iload 4, 2) := by decide +kernel
theorem dX10_mayChange_35 : decode cX10_mayChange 35 = .ok (.iload 5, 2) := by decide +kernel
theorem dX10_mayChange_37 : decode cX10_mayChange 37 = .ok (.invokevirtual 96, 3) := by decide +kernel
theorem dX10_mayChange_40 : decode cX10_mayChange 40 = .ok (.ifCond .ne 6, 3) := by decide +kernel
theorem dX10_mayChange_43 : decode cX10_mayChange 43 = .ok (.goto 184, 3) := by decide +kernel
theorem dX10_mayChange_46 : decode cX10_mayChange 46 = .ok (.aload_n 0, 1) := by decide +kernel
theorem dX10_mayChange_47 : decode cX10_mayChange 47 = .ok (.aload_n 0, 1) := by decide +kernel
theorem dX10_mayChange_48 : decode cX10_mayChange 48 = .ok (.iload_n 1, 1) := by decide +kernel
theorem dX10_mayChange_49 : decode cX10_mayChange 49 = .ok (.iload_n 3, 1) := by decide +kernel
theorem dX10_mayChange_50 : decode cX10_mayChange 50 = .ok (.iconst 1, 1) := by decide +kernel
theorem dX10_mayChange_51 : decode cX10_mayChange 51 = .ok (.isub, 1) := by decide +kernel
theorem dX10_mayChange_52 : decode cX10_mayChange 52 = .ok (.invokevirtual 124, 3) := by decide +kernel
theorem dX10_mayChange_55 : decode cX10_mayChange 55 = .ok (.aload_n 0, 1) := by decide +kernel
theorem dX10_mayChange_56 : decode cX10_mayChange 56 = .ok (.iload_n 1, 1) := by decide +kernel
theorem dX10_mayChange_57 : decode cX10_mayChange 57 = .ok (.iload 4, 2) := by decide +kernel
theorem dX10_mayChange_59 : decode cX10_mayChange 59 = .ok (.iload 5, 2) := by decide +kernel
theorem dX10_mayChange_61 : decode cX10_mayChange 61 = .ok (.invokevirtual 93, 3) := by decide +kernel
theorem dX10_mayChange_64 : decode cX10_mayChange 64 = .ok (.isub, 1) := by decide +kernel
theorem dX10_mayChange_65 : decode cX10_mayChange 65 = .ok (.invokevirtual 86, 3) := by decide +kernel
theorem dX10_mayChange_68 : decode cX10_mayChange 68 = .ok (.istore 6, 2) := by decide +kernel
theorem dX10_mayChange_70 : decode cX10_mayChange 70 = .ok (.iload 6, 2) := by decide +kernel
theorem dX10_mayChange_72 : decode cX10_mayChange 72 = .ok (.aload_n 0, 1) := by decide +kernel
theorem dX10_mayChange_73 : decode cX10_mayChange 73 = .ok (.iload_n 1, 1) := by decide +kernel
theorem dX10_mayChange_74 : decode cX10_mayChange 74 = .ok (.iload 4, 2) := by decide +kernel
theorem dX10_mayChange_76 : decode cX10_mayChange 76 = .ok (.iload 5, 2) := by decide +kernel
theorem dX10_mayChange_78 : decode cX10_mayChange 78 = .ok (.invokevirtual 96, 3) := by decide +kernel
theorem dX10_mayChange_81 : decode cX10_mayChange 81 = .ok (.if_icmp .ge 7, 3) := by decide +kernel
theorem dX10_mayChange_84 : decode cX10_mayChange 84 = .ok (.iconst 0, 1) := by decide +kernel
theorem dX10_mayChange_85 : decode cX10_mayChange 85 = .ok (.goto 17, 3) := by decide +kernel
theorem dX10_mayChange_88 : decode cX10_mayChange 88 = .ok (.iload 6, 2) := by decide +kernel
theorem dX10_mayChange_90 : decode cX10_mayChange 90 = .ok (.aload_n 0, 1) := by decide +kernel
theorem dX10_mayChange_91 : decode cX10_mayChange 91 = .ok (.iload_n 1, 1) := by decide +kernel
theorem dX10_mayChange_92 : decode cX10_mayChange 92 = .ok (.iload 4, 2) := by decide +kernel
theorem dX10_mayChange_94 : decode cX10_mayChange 94 = .ok (.iload 5, 2) := by decide +kernel
theorem dX10_mayChange_96 : decode cX10_mayChange 96 = .ok (.invokevirtual 96, 3) := by decide +kernel
theorem dX10_mayChange_99 : decode cX10_mayChange 99 = .ok (.isub, 1) := by decide +kernel
theorem dX10_mayChange_100 : decode cX10_mayChange 100 = .ok (.iconst 1, 1) := by decide +kernel
theorem dX10_mayChange_101 : decode cX10_mayChange 101 = .ok (.iadd, 1) := by decide +kernel
theorem dX10_mayChange_102 : decode cX10_mayChange 102 = .ok (.istore 7, 2) := by decide +kernel
theorem dX10_mayChange_104 : decode cX10_mayChange 104 = .ok (.iconst 0, 1) := by decide +kernel
theorem dX10_mayChange_105 : decode cX10_mayChange 105 = .ok (.istore 8, 2) := by decide +kernel
theorem dX10_mayChange_107 : decode cX10_mayChange 107 = .ok (.iload 8, 2) := by decide +kernel
theorem dX10_mayChange_109 : decode cX10_mayChange 109 = .ok (.aload_n 0, 1) := by decide +kernel
theorem dX10_mayChange_110 : decode cX10_mayChange 110 = .ok (.iload_n 1, 1) := by decide +kernel
theorem dX10_mayChange_111 : decode cX10_mayChange 111 = .ok (.iconst 2, 1) := by decide +kernel
theorem dX10_mayChange_112 : decode cX10_mayChange 112 = .ok (.invokevirtual 78, 3) := by decide +kernel
theorem dX10_mayChange_115 : decode cX10_mayChange 115 = .ok (.if_icmp .ge 112, 3) := by decide +kernel
theorem dX10_mayChange_118 : decode cX10_mayChange 118 = .ok (.aload_n 0, 1) := by decide +kernel
theorem dX10_mayChange_119 : decode cX10_mayChange 119 = .ok (.iload_n 1, 1) := by decide +kernel
theorem dX10_mayChange_120 : decode cX10_mayChange 120 = .ok (.iload 5, 2) := by decide +kernel
theorem dX10_mayChange_122 : decode cX10_mayChange 122 = .ok (.iload 8, 2) := by decide +kernel
theorem dX10_mayChange_124 : decode cX10_mayChange 124 = .ok (.invokevirtual 121, 3) := by decide +kernel
theorem dX10_mayChange_127 : decode cX10_mayChange 127 = .ok (.ifCond .lt 94, 3) := by decide +kernel
theorem dX10_mayChange_130 : decode cX10_mayChange 130 = .ok (.aload_n 0, 1) := by decide +kernel
theorem dX10_mayChange_131 : decode cX10_mayChange 131 = .ok (.iload_n 1, 1) := by decide +kernel
theorem dX10_mayChange_132 : decode cX10_mayChange 132 = .ok (.iconst 1, 1) := by decide +kernel
theorem dX10_mayChange_133 : decode cX10_mayChange 133 = .ok (.iload 4, 2) := by decide +kernel
theorem dX10_mayChange_135 : decode cX10_mayChange 135 = .ok (.isub, 1) := by decide +kernel
theorem dX10_mayChange_136 : decode cX10_mayChange 136 = .ok (.iload 8, 2) := by decide +kernel
theorem dX10_mayChange_138 : decode cX10_mayChange 138 = .ok (.invokevirtual 96, 3) := by decide +kernel
theorem dX10_mayChange_141 : decode cX10_mayChange 141 = .ok (.ifCond .ne 6, 3) := by decide +kernel
theorem dX10_mayChange_144 : decode cX10_mayChange 144 = .ok (.goto 77, 3) := by decide +kernel
theorem dX10_mayChange_147 : decode cX10_mayChange 147 = .ok (.aload_n 0, 1) := by decide +kernel
theorem dX10_mayChange_148 : decode cX10_mayChange 148 = .ok (.aload_n 0, 1) := by decide +kernel
theorem dX10_mayChange_149 : decode cX10_mayChange 149 = .ok (.iload_n 1, 1) := by decide +kernel
theorem dX10_mayChange_150 : decode cX10_mayChange 150 = .ok (.iload_n 3, 1) := by decide +kernel
theorem dX10_mayChange_151 : decode cX10_mayChange 151 = .ok (.invokevirtual 124, 3) := by decide +kernel
theorem dX10_mayChange_154 : decode cX10_mayChange 154 = .ok (.aload_n 0, 1) := by decide +kernel
theorem dX10_mayChange_155 : decode cX10_mayChange 155 = .ok (.iload_n 1, 1) := by decide +kernel
theorem dX10_mayChange_156 : decode cX10_mayChange 156 = .ok (.iconst 1, 1) := by decide +kernel
theorem dX10_mayChange_157 : decode cX10_mayChange 157 = .ok (.iload 4, 2) := by decide +kernel
theorem dX10_mayChange_159 : decode cX10_mayChange 159 = .ok (.isub, 1) := by decide +kernel
theorem dX10_mayChange_160 : decode cX10_mayChange 160 = .ok (.iload 8, 2) := by decide +kernel
theorem dX10_mayChange_162 : decode cX10_mayChange 162 = .ok (.invokevirtual 93, 3) := by decide +kernel
theorem dX10_mayChange_165 : decode cX10_mayChange 165 = .ok (.isub, 1) := by decide +kernel
theorem dX10_mayChange_166 : decode cX10_mayChange 166 = .ok (.invokevirtual 86, 3) := by decide +kernel
theorem dX10_mayChange_169 : decode cX10_mayChange 169 = .ok (.istore 9, 2) := by decide +kernel
theorem dX10_mayChange_171 : decode cX10_mayChange 171 = .ok (.iload 9, 2) := by decide +kernel
theorem dX10_mayChange_173 : decode cX10_mayChange 173 = .ok (.aload_n 0, 1) := by decide +kernel
theorem dX10_mayChange_174 : decode cX10_mayChange 174 = .ok (.iload_n 1, 1) := by decide +kernel
theorem dX10_mayChange_175 : decode cX10_mayChange 175 = .ok (.iconst 1, 1) := by decide +kernel
theorem dX10_mayChange_176 : decode cX10_mayChange 176 = .ok (.iload 4, 2) := by decide +kernel
theorem dX10_mayChange_178 : decode cX10_mayChange 178 = .ok (.isub, 1) := by decide +kernel
theorem dX10_mayChange_179 : decode cX10_mayChange 179 = .ok (.iload 8, 2) := by decide +kernel
theorem dX10_mayChange_181 : decode cX10_mayChange 181 = .ok (.invokevirtual 96, 3) := by decide +kernel
theorem dX10_mayChange_184 : decode cX10_mayChange 184 = .ok (.if_icmp .ge 7, 3) := by decide +kernel
theorem dX10_mayChange_187 : decode cX10_mayChange 187 = .ok (.iconst 0, 1) := by decide +kernel
theorem dX10_mayChange_188 : decode cX10_mayChange 188 = .ok (.goto 12, 3) := by decide +kernel
theorem dX10_mayChange_191 : decode cX10_mayChange 191 = .ok (.aload_n 0, 1) := by decide +kernel
theorem dX10_mayChange_192 : decode cX10_mayChange 192 = .ok (.getfield 9, 3) := by decide +kernel
theorem dX10_mayChange_195 : decode cX10_mayChange 195 = .ok (.iconst 0, 1) := by decide +kernel
theorem dX10_mayChange_196 : decode cX10_mayChange 196 = .ok (.iaload, 1) := by decide +kernel
theorem dX10_mayChange_197 : decode cX10_mayChange 197 = .ok (.iload 9, 2) := by decide +kernel
theorem dX10_mayChange_199 : decode cX10_mayChange 199 = .ok (.isub, 1) := by decide +kernel
theorem dX10_mayChange_200 : decode cX10_mayChange 200 = .ok (.istore 10, 2) := by decide +kernel
theorem dX10_mayChange_202 : decode cX10_mayChange 202 = .ok (.iload 7, 2) := by decide +kernel
theorem dX10_mayChange_204 : decode cX10_mayChange 204 = .ok (.iload 10, 2) := by decide +kernel
theorem dX10_mayChange_206 : decode cX10_mayChange 206 = .ok (.iadd, 1) := by decide +kernel
theorem dX10_mayChange_207 : decode cX10_mayChange 207 = .ok (.aload_n 0, 1) := by decide +kernel
theorem dX10_mayChange_208 : decode cX10_mayChange 208 = .ok (.iload_n 1, 1) := by decide +kernel
theorem dX10_mayChange_209 : decode cX10_mayChange 209 = .ok (.iload 5, 2) := by decide +kernel
theorem dX10_mayChange_211 : decode cX10_mayChange 211 = .ok (.iload 8, 2) := by decide +kernel
theorem dX10_mayChange_213 : decode cX10_mayChange 213 = .ok (.invokevirtual 121, 3) := by decide +kernel
theorem dX10_mayChange_216 : decode cX10_mayChange 216 = .ok (.if_icmp .ge 5, 3) := by decide +kernel
theorem dX10_mayChange_219 : decode cX10_mayChange 219 = .ok (.iconst 0, 1) := by decide +kernel
theorem dX10_mayChange_220 : decode cX10_mayChange 220 = .ok (.ireturn, 1) := by decide +kernel
theorem dX10_mayChange_221 : decode cX10_mayChange 221 = .ok (.iinc 8 1, 3) := by decide +kernel
theorem dX10_mayChange_224 : decode cX10_mayChange 224 = .ok (.goto (-117), 3) := by decide +kernel
theorem dX10_mayChange_227 : decode cX10_mayChange 227 = .ok (.iinc 5 1, 3) := by decide +kernel
theorem dX10_mayChange_230 : decode cX10_mayChange 230 = .ok (.goto (-210), 3) := by decide +kernel
theorem dX10_mayChange_233 : decode cX10_mayChange 233 = .ok (.iconst 1, 1) := by decide +kernel
theorem dX10_mayChange_234 : decode cX10_mayChange 234 = .ok (.ireturn, 1) := by decide +kernel
theorem dX10_soon_0 : decode cX10_soon 0 = .ok (.iconst 0, 1) := by decide +kernel
theorem dX10_soon_1 : decode cX10_soon 1 = .ok (.istore_n 2, 1) := by decide +kernel
theorem dX10_soon_2 : decode cX10_soon 2 = .ok (.iload_n 2, 1) := by decide +kernel
theorem dX10_soon_3 : decode cX10_soon 3 = .ok (.aload_n 0, 1) := by decide +kernel
theorem dX10_soon_4 : decode cX10_soon 4 = .ok (.getfield 9, 3) := by decide +kernel
theorem dX10_soon_7 : decode cX10_soon 7 = .ok (.iconst 0, 1) := by decide +kernel
theorem dX10_soon_8 : decode cX10_soon 8 = .ok (.iaload, 1) := by decide +kernel
theorem dX10_soon_9 : decode cX10_soon 9 = .ok (.if_icmp .ge 20, 3) := by decide +kernel
theorem dX10_soon_12 : decode cX10_soon 12 = .ok (.aload_n 0, 1) := by decide +kernel
theorem dX10_soon_13 : decode cX10_soon 13 = .ok (.iload_n 1, 1) := by decide +kernel
theorem dX10_soon_14 : decode cX10_soon 14 = .ok (.iload_n 2, 1) := by decide +kernel
theorem dX10_soon_15 : decode cX10_soon 15 = .ok (.invokevirtual 223, 3) := by decide +kernel
theorem dX10_soon_18 : decode cX10_soon 18 = .ok (.ifCond .eq 5, 3) := by decide +kernel
theorem dX10_soon_21 : decode cX10_soon 21 = .ok (.iload_n 2, 1) := by decide +kernel
theorem dX10_soon_22 : decode cX10_soon 22 = .ok (.ireturn, 1) := by decide +kernel
theorem dX10_soon_23 : decode cX10_soon 23 = .ok (.iinc 2 1, 3) := by decide +kernel
theorem dX10_soon_26 : decode cX10_soon 26 = .ok (.goto (-24), 3) := by decide +kernel
theorem dX10_soon_29 : decode cX10_soon 29 = .ok (.iconst (-1), 1) := by decide +kernel
theorem dX10_soon_30 : decode cX10_soon 30 = .ok (.ireturn, 1) := by decide +kernel
theorem dX10_soonest_0 : decode cX10_soonest 0 = .ok (.aload_n 0, 1) := by decide +kernel
theorem dX10_soonest_1 : decode cX10_soonest 1 = .ok (.iconst 0, 1) := by decide +kernel
theorem dX10_soonest_2 : decode cX10_soonest 2 = .ok (.putfield 47, 3) := by decide +kernel
theorem dX10_soonest_5 : decode cX10_soonest 5 = .ok (.aload_n 0, 1) := by decide +kernel
theorem dX10_soonest_6 : decode cX10_soonest 6 = .ok (.iload_n 1, 1) := by decide +kernel
theorem dX10_soonest_7 : decode cX10_soonest 7 = .ok (.invokevirtual 74, 3) := by decide +kernel
theorem dX10_soonest_10 : decode cX10_soonest 10 = .ok (.ifCond .ne 9, 3) := by decide +kernel
theorem dX10_soonest_13 : decode cX10_soonest 13 = .ok (.aload_n 0, 1) := by decide +kernel
theorem dX10_soonest_14 : decode cX10_soonest 14 = .ok (.iconst 1, 1) := by decide +kernel
theorem dX10_soonest_15 : decode cX10_soonest 15 = .ok (.invokevirtual 53, 3) := by decide +kernel
theorem dX10_soonest_18 : decode cX10_soonest 18 = .ok (.ireturn, 1) := by decide +kernel
theorem dX10_soonest_19 : decode cX10_soonest 19 = .ok (.aload_n 0, 1) := by decide +kernel
theorem dX10_soonest_20 : decode cX10_soonest 20 = .ok (.iload_n 1, 1) := by decide +kernel
theorem dX10_soonest_21 : decode cX10_soonest 21 = .ok (.invokevirtual 226, 3) := by decide +kernel
theorem dX10_soonest_24 : decode cX10_soonest 24 = .ok (.istore_n 2, 1) := by decide +kernel
theorem dX10_soonest_25 : decode cX10_soonest 25 = .ok (.iload_n 2, 1) := by decide +kernel
theorem dX10_soonest_26 : decode cX10_soonest 26 = .ok (.ifCond .ge 11, 3) := by decide +kernel
theorem dX10_soonest_29 : decode cX10_soonest 29 = .ok (.aload_n 0, 1) := by decide +kernel
theorem dX10_soonest_30 : decode cX10_soonest 30 = .ok (.iconst 2, 1) := by decide +kernel
theorem dX10_soonest_31 : decode cX10_soonest 31 = .ok (.invokevirtual 53, 3) := by decide +kernel
theorem dX10_soonest_34 : decode cX10_soonest 34 = .ok (.goto 4, 3) := by decide +kernel
theorem dX10_soonest_37 : decode cX10_soonest 37 = .ok (.iload_n 2, 1) := by decide +kernel
theorem dX10_soonest_38 : decode cX10_soonest 38 = .ok (.ireturn, 1) := by decide +kernel
theorem dX10_plans_0 : decode cX10_plans 0 = .ok (.aload_n 0, 1) := by decide +kernel
theorem dX10_plans_1 : decode cX10_plans 1 = .ok (.iload_n 1, 1) := by decide +kernel
theorem dX10_plans_2 : decode cX10_plans 2 = .ok (.invokevirtual 74, 3) := by decide +kernel
theorem dX10_plans_5 : decode cX10_plans 5 = .ok (.ifCond .ne 5, 3) := by decide +kernel
theorem dX10_plans_8 : decode cX10_plans 8 = .ok (.iconst 1, 1) := by decide +kernel
theorem dX10_plans_9 : decode cX10_plans 9 = .ok (.ireturn, 1) := by decide +kernel
theorem dX10_plans_10 : decode cX10_plans 10 = .ok (.aload_n 0, 1) := by decide +kernel
theorem dX10_plans_11 : decode cX10_plans 11 = .ok (.iload_n 1, 1) := by decide +kernel
theorem dX10_plans_12 : decode cX10_plans 12 = .ok (.iconst 4, 1) := by decide +kernel
theorem dX10_plans_13 : decode cX10_plans 13 = .ok (.invokevirtual 78, 3) := by decide +kernel
theorem dX10_plans_16 : decode cX10_plans 16 = .ok (.ifCond .lt 5, 3) := by decide +kernel
theorem dX10_plans_19 : decode cX10_plans 19 = .ok (.iconst 2, 1) := by decide +kernel
theorem dX10_plans_20 : decode cX10_plans 20 = .ok (.ireturn, 1) := by decide +kernel
theorem dX10_plans_21 : decode cX10_plans 21 = .ok (.aload_n 0, 1) := by decide +kernel
theorem dX10_plans_22 : decode cX10_plans 22 = .ok (.aload_n 0, 1) := by decide +kernel
theorem dX10_plans_23 : decode cX10_plans 23 = .ok (.iload_n 1, 1) := by decide +kernel
theorem dX10_plans_24 : decode cX10_plans 24 = .ok (.invokevirtual 226, 3) := by decide +kernel
theorem dX10_plans_27 : decode cX10_plans 27 = .ok (.putfield 102, 3) := by decide +kernel
theorem dX10_plans_30 : decode cX10_plans 30 = .ok (.aload_n 0, 1) := by decide +kernel
theorem dX10_plans_31 : decode cX10_plans 31 = .ok (.getfield 102, 3) := by decide +kernel
theorem dX10_plans_34 : decode cX10_plans 34 = .ok (.ifCond .ge 5, 3) := by decide +kernel
theorem dX10_plans_37 : decode cX10_plans 37 = .ok (.iconst 3, 1) := by decide +kernel
theorem dX10_plans_38 : decode cX10_plans 38 = .ok (.ireturn, 1) := by decide +kernel
theorem dX10_plans_39 : decode cX10_plans 39 = .ok (.aload_n 0, 1) := by decide +kernel
theorem dX10_plans_40 : decode cX10_plans 40 = .ok (.getfield 9, 3) := by decide +kernel
theorem dX10_plans_43 : decode cX10_plans 43 = .ok (.iload_n 1, 1) := by decide +kernel
theorem dX10_plans_44 : decode cX10_plans 44 = .ok (.invokestatic 63, 3) := by decide +kernel
theorem dX10_plans_47 : decode cX10_plans 47 = .ok (.iconst 4, 1) := by decide +kernel
theorem dX10_plans_48 : decode cX10_plans 48 = .ok (.iadd, 1) := by decide +kernel
theorem dX10_plans_49 : decode cX10_plans 49 = .ok (.aload_n 0, 1) := by decide +kernel
theorem dX10_plans_50 : decode cX10_plans 50 = .ok (.getfield 9, 3) := by decide +kernel
theorem dX10_plans_53 : decode cX10_plans 53 = .ok (.iconst 3, 1) := by decide +kernel
theorem dX10_plans_54 : decode cX10_plans 54 = .ok (.iaload, 1) := by decide +kernel
theorem dX10_plans_55 : decode cX10_plans 55 = .ok (.aload_n 0, 1) := by decide +kernel
theorem dX10_plans_56 : decode cX10_plans 56 = .ok (.getfield 102, 3) := by decide +kernel
theorem dX10_plans_59 : decode cX10_plans 59 = .ok (.iadd, 1) := by decide +kernel
theorem dX10_plans_60 : decode cX10_plans 60 = .ok (.iastore, 1) := by decide +kernel
theorem dX10_plans_61 : decode cX10_plans 61 = .ok (.iconst 0, 1) := by decide +kernel
theorem dX10_plans_62 : decode cX10_plans 62 = .ok (.ireturn, 1) := by decide +kernel
theorem dX10_change_0 : decode cX10_change 0 = .ok (.aload_n 0, 1) := by decide +kernel
theorem dX10_change_1 : decode cX10_change 1 = .ok (.invokevirtual 109, 3) := by decide +kernel
theorem dX10_change_4 : decode cX10_change 4 = .ok (.aload_n 0, 1) := by decide +kernel
theorem dX10_change_5 : decode cX10_change 5 = .ok (.aload_n 0, 1) := by decide +kernel
theorem dX10_change_6 : decode cX10_change 6 = .ok (.iload_n 1, 1) := by decide +kernel
theorem dX10_change_7 : decode cX10_change 7 = .ok (.invokevirtual 229, 3) := by decide +kernel
theorem dX10_change_10 : decode cX10_change 10 = .ok (.invokevirtual 115, 3) := by decide +kernel
theorem dX10_change_13 : decode cX10_change 13 = .ok (.ireturn, 1) := by decide +kernel
theorem dX10_mount_0 : decode cX10_mount 0 = .ok (.aload_n 0, 1) := by decide +kernel
theorem dX10_mount_1 : decode cX10_mount 1 = .ok (.iconst 0, 1) := by decide +kernel
theorem dX10_mount_2 : decode cX10_mount 2 = .ok (.putfield 47, 3) := by decide +kernel
theorem dX10_mount_5 : decode cX10_mount 5 = .ok (.aload_n 0, 1) := by decide +kernel
theorem dX10_mount_6 : decode cX10_mount 6 = .ok (.iload_n 1, 1) := by decide +kernel
theorem dX10_mount_7 : decode cX10_mount 7 = .ok (.iload_n 2, 1) := by decide +kernel
theorem dX10_mount_8 : decode cX10_mount 8 = .ok (.invokevirtual 105, 3) := by decide +kernel
theorem dX10_mount_11 : decode cX10_mount 11 = .ok (.ifCond .eq 12, 3) := by decide +kernel
theorem dX10_mount_14 : decode cX10_mount 14 = .ok (.iload_n 3, 1) := by decide +kernel
theorem dX10_mount_15 : decode cX10_mount 15 = .ok (.iconst 0, 1) := by decide +kernel
theorem dX10_mount_16 : decode cX10_mount 16 = .ok (.iconst 2, 1) := by decide +kernel
theorem dX10_mount_17 : decode cX10_mount 17 = .ok (.invokestatic 70, 3) := by decide +kernel
theorem dX10_mount_20 : decode cX10_mount 20 = .ok (.ifCond .ne 9, 3) := by decide +kernel
theorem dX10_mount_23 : decode cX10_mount 23 = .ok (.aload_n 0, 1) := by decide +kernel
theorem dX10_mount_24 : decode cX10_mount 24 = .ok (.iconst 1, 1) := by decide +kernel
theorem dX10_mount_25 : decode cX10_mount 25 = .ok (.invokevirtual 53, 3) := by decide +kernel
theorem dX10_mount_28 : decode cX10_mount 28 = .ok (.ireturn, 1) := by decide +kernel
theorem dX10_mount_29 : decode cX10_mount 29 = .ok (.iload 4, 2) := by decide +kernel
theorem dX10_mount_31 : decode cX10_mount 31 = .ok (.iconst 0, 1) := by decide +kernel
theorem dX10_mount_32 : decode cX10_mount 32 = .ok (.iconst 3, 1) := by decide +kernel
theorem dX10_mount_33 : decode cX10_mount 33 = .ok (.invokestatic 70, 3) := by decide +kernel
theorem dX10_mount_36 : decode cX10_mount 36 = .ok (.ifCond .ne 9, 3) := by decide +kernel
theorem dX10_mount_39 : decode cX10_mount 39 = .ok (.aload_n 0, 1) := by decide +kernel
theorem dX10_mount_40 : decode cX10_mount 40 = .ok (.iconst 2, 1) := by decide +kernel
theorem dX10_mount_41 : decode cX10_mount 41 = .ok (.invokevirtual 53, 3) := by decide +kernel
theorem dX10_mount_44 : decode cX10_mount 44 = .ok (.ireturn, 1) := by decide +kernel
theorem dX10_mount_45 : decode cX10_mount 45 = .ok (.aload_n 0, 1) := by decide +kernel
theorem dX10_mount_46 : decode cX10_mount 46 = .ok (.iload_n 1, 1) := by decide +kernel
theorem dX10_mount_47 : decode cX10_mount 47 = .ok (.iload_n 2, 1) := by decide +kernel
theorem dX10_mount_48 : decode cX10_mount 48 = .ok (.iconst 0, 1) := by decide +kernel
theorem dX10_mount_49 : decode cX10_mount 49 = .ok (.invokevirtual 89, 3) := by decide +kernel
theorem dX10_mount_52 : decode cX10_mount 52 = .ok (.istore 5, 2) := by decide +kernel
theorem dX10_mount_54 : decode cX10_mount 54 = .ok (.iload 5, 2) := by decide +kernel
theorem dX10_mount_56 : decode cX10_mount 56 = .ok (.ifCond .ne 9, 3) := by decide +kernel
theorem dX10_mount_59 : decode cX10_mount 59 = .ok (.iload 4, 2) := by decide +kernel
theorem dX10_mount_61 : decode cX10_mount 61 = .ok (.iconst 1, 1) := by decide +kernel
theorem dX10_mount_62 : decode cX10_mount 62 = .ok (.if_icmp .gt 15, 3) := by decide +kernel
theorem dX10_mount_65 : decode cX10_mount 65 = .ok (.iload 5, 2) := by decide +kernel
theorem dX10_mount_67 : decode cX10_mount 67 = .ok (.iconst 1, 1) := by decide +kernel
theorem dX10_mount_68 : decode cX10_mount 68 = .ok (.if_icmp .ne 17, 3) := by decide +kernel
theorem dX10_mount_71 : decode cX10_mount 71 = .ok (.iload 4, 2) := by decide +kernel
theorem dX10_mount_73 : decode cX10_mount 73 = .ok (.iconst 2, 1) := by decide +kernel
theorem dX10_mount_74 : decode cX10_mount 74 = .ok (.if_icmp .eq 11, 3) := by decide +kernel
theorem dX10_mount_77 : decode cX10_mount 77 = .ok (.aload_n 0, 1) := by decide +kernel
theorem dX10_mount_78 : decode cX10_mount 78 = .ok (.bipush 8, 2) := by decide +kernel
theorem dX10_mount_80 : decode cX10_mount 80 = .ok (.iconst 3, 1) := by decide +kernel
theorem dX10_mount_81 : decode cX10_mount 81 = .ok (.invokevirtual 158, 3) := by decide +kernel
theorem dX10_mount_84 : decode cX10_mount 84 = .ok (.ireturn, 1) := by decide +kernel
theorem dX10_mount_85 : decode cX10_mount 85 = .ok (.aload_n 0, 1) := by decide +kernel
theorem dX10_mount_86 : decode cX10_mount 86 = .ok (.invokevirtual 99, 3) := by decide +kernel
theorem dX10_mount_89 : decode cX10_mount 89 = .ok (.aload_n 0, 1) := by decide +kernel
theorem dX10_mount_90 : decode cX10_mount 90 = .ok (.getfield 9, 3) := by decide +kernel
theorem dX10_mount_93 : decode cX10_mount 93 = .ok (.iload_n 1, 1) := by decide +kernel
theorem dX10_mount_94 : decode cX10_mount 94 = .ok (.iload_n 2, 1) := by decide +kernel
theorem dX10_mount_95 : decode cX10_mount 95 = .ok (.invokestatic 66, 3) := by decide +kernel
theorem dX10_mount_98 : decode cX10_mount 98 = .ok (.bipush 6, 2) := by decide +kernel
theorem dX10_mount_100 : decode cX10_mount 100 = .ok (.iadd, 1) := by decide +kernel
theorem dX10_mount_101 : decode cX10_mount 101 = .ok (.iload_n 3, 1) := by decide +kernel
theorem dX10_mount_102 : decode cX10_mount 102 = .ok (.iadd, 1) := by decide +kernel
theorem dX10_mount_103 : decode cX10_mount 103 = .ok (.iload 4, 2) := by decide +kernel
theorem dX10_mount_105 : decode cX10_mount 105 = .ok (.iastore, 1) := by decide +kernel
theorem dX10_mount_106 : decode cX10_mount 106 = .ok (.aload_n 0, 1) := by decide +kernel
theorem dX10_mount_107 : decode cX10_mount 107 = .ok (.iload_n 1, 1) := by decide +kernel
theorem dX10_mount_108 : decode cX10_mount 108 = .ok (.iload_n 2, 1) := by decide +kernel
theorem dX10_mount_109 : decode cX10_mount 109 = .ok (.invokevirtual 137, 3) := by decide +kernel
theorem dX10_mount_112 : decode cX10_mount 112 = .ok (.ireturn, 1) := by decide +kernel
theorem dX10_account_0 : decode cX10_account 0 = .ok (.aload_n 0, 1) := by decide +kernel
theorem dX10_account_1 : decode cX10_account 1 = .ok (.iconst 0, 1) := by decide +kernel
theorem dX10_account_2 : decode cX10_account 2 = .ok (.putfield 47, 3) := by decide +kernel
theorem dX10_account_5 : decode cX10_account 5 = .ok (.iload_n 1, 1) := by decide +kernel
theorem dX10_account_6 : decode cX10_account 6 = .ok (.iconst 0, 1) := by decide +kernel
theorem dX10_account_7 : decode cX10_account 7 = .ok (.bipush 14, 2) := by decide +kernel
theorem dX10_account_9 : decode cX10_account 9 = .ok (.invokestatic 70, 3) := by decide +kernel
theorem dX10_account_12 : decode cX10_account 12 = .ok (.ifCond .ne 9, 3) := by decide +kernel
theorem dX10_account_15 : decode cX10_account 15 = .ok (.aload_n 0, 1) := by decide +kernel
theorem dX10_account_16 : decode cX10_account 16 = .ok (.iconst 1, 1) := by decide +kernel
theorem dX10_account_17 : decode cX10_account 17 = .ok (.invokevirtual 53, 3) := by decide +kernel
theorem dX10_account_20 : decode cX10_account 20 = .ok (.ireturn, 1) := by decide +kernel
theorem dX10_account_21 : decode cX10_account 21 = .ok (.iload_n 1, 1) := by decide +kernel
theorem dX10_account_22 : decode cX10_account 22 = .ok (.tableswitch 126 0 14 #[74, 126, 126, 126, 81, 126, 88, 126, 95, 126, 126, 102, 109, 116, 121], 74) := by decide +kernel
theorem dX10_account_96 : decode cX10_account 96 = .ok (.aload_n 0, 1) := by decide +kernel
theorem dX10_account_97 : decode cX10_account 97 = .ok (.getfield 9, 3) := by decide +kernel
theorem dX10_account_100 : decode cX10_account 100 = .ok (.iconst 2, 1) := by decide +kernel
theorem dX10_account_101 : decode cX10_account 101 = .ok (.iaload, 1) := by decide +kernel
theorem dX10_account_102 : decode cX10_account 102 = .ok (.ireturn, 1) := by decide +kernel
theorem dX10_account_103 : decode cX10_account 103 = .ok (.aload_n 0, 1) := by decide +kernel
theorem dX10_account_104 : decode cX10_account 104 = .ok (.getfield 9, 3) := by decide +kernel
theorem dX10_account_107 : decode cX10_account 107 = .ok (.iconst 3, 1) := by decide +kernel
theorem dX10_account_108 : decode cX10_account 108 = .ok (.iaload, 1) := by decide +kernel
theorem dX10_account_109 : decode cX10_account 109 = .ok (.ireturn, 1) := by decide +kernel
theorem dX10_account_110 : decode cX10_account 110 = .ok (.aload_n 0, 1) := by decide +kernel
theorem dX10_account_111 : decode cX10_account 111 = .ok (.getfield 9, 3) := by decide +kernel
theorem dX10_account_114 : decode cX10_account 114 = .ok (.iconst 4, 1) := by decide +kernel
theorem dX10_account_115 : decode cX10_account 115 = .ok (.iaload, 1) := by decide +kernel
theorem dX10_account_116 : decode cX10_account 116 = .ok (.ireturn, 1) := by decide +kernel
theorem dX10_account_117 : decode cX10_account 117 = .ok (.aload_n 0, 1) := by decide +kernel
theorem dX10_account_118 : decode cX10_account 118 = .ok (.getfield 9, 3) := by decide +kernel
theorem dX10_account_121 : decode cX10_account 121 = .ok (.iconst 5, 1) := by decide +kernel
theorem dX10_account_122 : decode cX10_account 122 = .ok (.iaload, 1) := by decide +kernel
theorem dX10_account_123 : decode cX10_account 123 = .ok (.ireturn, 1) := by decide +kernel
theorem dX10_account_124 : decode cX10_account 124 = .ok (.aload_n 0, 1) := by decide +kernel
theorem dX10_account_125 : decode cX10_account 125 = .ok (.getfield 9, 3) := by decide +kernel
theorem dX10_account_128 : decode cX10_account 128 = .ok (.iconst 0, 1) := by decide +kernel
theorem dX10_account_129 : decode cX10_account 129 = .ok (.iaload, 1) := by decide +kernel
theorem dX10_account_130 : decode cX10_account 130 = .ok (.ireturn, 1) := by decide +kernel
theorem dX10_account_131 : decode cX10_account 131 = .ok (.aload_n 0, 1) := by decide +kernel
theorem dX10_account_132 : decode cX10_account 132 = .ok (.getfield 9, 3) := by decide +kernel
theorem dX10_account_135 : decode cX10_account 135 = .ok (.iconst 1, 1) := by decide +kernel
theorem dX10_account_136 : decode cX10_account 136 = .ok (.iaload, 1) := by decide +kernel
theorem dX10_account_137 : decode cX10_account 137 = .ok (.ireturn, 1) := by decide +kernel
theorem dX10_account_138 : decode cX10_account 138 = .ok (.aload_n 0, 1) := by decide +kernel
theorem dX10_account_139 : decode cX10_account 139 = .ok (.getfield 57, 3) := by decide +kernel
theorem dX10_account_142 : decode cX10_account 142 = .ok (.ireturn, 1) := by decide +kernel
theorem dX10_account_143 : decode cX10_account 143 = .ok (.aload_n 0, 1) := by decide +kernel
theorem dX10_account_144 : decode cX10_account 144 = .ok (.getfield 232, 3) := by decide +kernel
theorem dX10_account_147 : decode cX10_account 147 = .ok (.ireturn, 1) := by decide +kernel
theorem dX10_account_148 : decode cX10_account 148 = .ok (.iconst 0, 1) := by decide +kernel
theorem dX10_account_149 : decode cX10_account 149 = .ok (.istore_n 2, 1) := by decide +kernel
theorem dX10_account_150 : decode cX10_account 150 = .ok (.iconst 0, 1) := by decide +kernel
theorem dX10_account_151 : decode cX10_account 151 = .ok (.istore_n 3, 1) := by decide +kernel
theorem dX10_account_152 : decode cX10_account 152 = .ok (.iload_n 3, 1) := by decide +kernel
theorem dX10_account_153 : decode cX10_account 153 = .ok (.aload_n 0, 1) := by decide +kernel
theorem dX10_account_154 : decode cX10_account 154 = .ok (.getfield 9, 3) := by decide +kernel
theorem dX10_account_157 : decode cX10_account 157 = .ok (.iconst 2, 1) := by decide +kernel
theorem dX10_account_158 : decode cX10_account 158 = .ok (.iaload, 1) := by decide +kernel
theorem dX10_account_159 : decode cX10_account 159 = .ok (.if_icmp .ge 141, 3) := by decide +kernel
theorem dX10_account_162 : decode cX10_account 162 = .ok (.iload_n 1, 1) := by decide +kernel
theorem dX10_account_163 : decode cX10_account 163 = .ok (.iconst 1, 1) := by decide +kernel
theorem dX10_account_164 : decode cX10_account 164 = .ok (.if_icmp .ne 12, 3) := by decide +kernel
theorem dX10_account_167 : decode cX10_account 167 = .ok (.iload_n 2, 1) := by decide +kernel
theorem dX10_account_168 : decode cX10_account 168 = .ok (.aload_n 0, 1) := by decide +kernel
theorem dX10_account_169 : decode cX10_account 169 = .ok (.iload_n 3, 1) := by decide +kernel
theorem dX10_account_170 : decode cX10_account 170 = .ok (.iconst 2, 1) := by decide +kernel
theorem dX10_account_171 : decode cX10_account 171 = .ok (.invokevirtual 78, 3) := by decide +kernel
theorem dX10_account_174 : decode cX10_account 174 = .ok (.iadd, 1) := by decide +kernel
theorem dX10_account_175 : decode cX10_account 175 = .ok (.istore_n 2, 1) := by decide +kernel
theorem dX10_account_176 : decode cX10_account 176 = .ok (.iload_n 1, 1) := by decide +kernel
theorem dX10_account_177 : decode cX10_account 177 = .ok (.iconst 2, 1) := by decide +kernel
theorem dX10_account_178 : decode cX10_account 178 = .ok (.if_icmp .ne 11, 3) := by decide +kernel
theorem dX10_account_181 : decode cX10_account 181 = .ok (.iload_n 2, 1) := by decide +kernel
theorem dX10_account_182 : decode cX10_account 182 = .ok (.aload_n 0, 1) := by decide +kernel
theorem dX10_account_183 : decode cX10_account 183 = .ok (.iload_n 3, 1) := by decide +kernel
theorem dX10_account_184 : decode cX10_account 184 = .ok (.invokevirtual 127, 3) := by decide +kernel
theorem dX10_account_187 : decode cX10_account 187 = .ok (.iadd, 1) := by decide +kernel
theorem dX10_account_188 : decode cX10_account 188 = .ok (.istore_n 2, 1) := by decide +kernel
theorem dX10_account_189 : decode cX10_account 189 = .ok (.iload_n 1, 1) := by decide +kernel
theorem dX10_account_190 : decode cX10_account 190 = .ok (.iconst 3, 1) := by decide +kernel
theorem dX10_account_191 : decode cX10_account 191 = .ok (.if_icmp .ne 19, 3) := by decide +kernel
theorem dX10_account_194 : decode cX10_account 194 = .ok (.iload_n 2, 1) := by decide +kernel
theorem dX10_account_195 : decode cX10_account 195 = .ok (.aload_n 0, 1) := by decide +kernel
theorem dX10_account_196 : decode cX10_account 196 = .ok (.iload_n 3, 1) := by decide +kernel
theorem dX10_account_197 : decode cX10_account 197 = .ok (.iconst 0, 1) := by decide +kernel
theorem dX10_account_198 : decode cX10_account 198 = .ok (.invokevirtual 174, 3) := by decide +kernel
theorem dX10_account_201 : decode cX10_account 201 = .ok (.aload_n 0, 1) := by decide +kernel
theorem dX10_account_202 : decode cX10_account 202 = .ok (.iload_n 3, 1) := by decide +kernel
theorem dX10_account_203 : decode cX10_account 203 = .ok (.iconst 1, 1) := by decide +kernel
theorem dX10_account_204 : decode cX10_account 204 = .ok (.invokevirtual 174, 3) := by decide +kernel
theorem dX10_account_207 : decode cX10_account 207 = .ok (.iadd, 1) := by decide +kernel
theorem dX10_account_208 : decode cX10_account 208 = .ok (.iadd, 1) := by decide +kernel
theorem dX10_account_209 : decode cX10_account 209 = .ok (.istore_n 2, 1) := by decide +kernel
theorem dX10_account_210 : decode cX10_account 210 = .ok (.iload_n 1, 1) := by decide +kernel
theorem dX10_account_211 : decode cX10_account 211 = .ok (.bipush 7, 2) := by decide +kernel
theorem dX10_account_213 : decode cX10_account 213 = .ok (.if_icmp .ne 11, 3) := by decide +kernel
theorem dX10_account_216 : decode cX10_account 216 = .ok (.iload_n 2, 1) := by decide +kernel
theorem dX10_account_217 : decode cX10_account 217 = .ok (.aload_n 0, 1) := by decide +kernel
theorem dX10_account_218 : decode cX10_account 218 = .ok (.iload_n 3, 1) := by decide +kernel
theorem dX10_account_219 : decode cX10_account 219 = .ok (.invokevirtual 210, 3) := by decide +kernel
theorem dX10_account_222 : decode cX10_account 222 = .ok (.iadd, 1) := by decide +kernel
theorem dX10_account_223 : decode cX10_account 223 = .ok (.istore_n 2, 1) := by decide +kernel
theorem dX10_account_224 : decode cX10_account 224 = .ok (.iload_n 1, 1) := by decide +kernel
theorem dX10_account_225 : decode cX10_account 225 = .ok (.bipush 9, 2) := by decide +kernel
theorem dX10_account_227 : decode cX10_account 227 = .ok (.if_icmp .ne 15, 3) := by decide +kernel
theorem dX10_account_230 : decode cX10_account 230 = .ok (.aload_n 0, 1) := by decide +kernel
theorem dX10_account_231 : decode cX10_account 231 = .ok (.iload_n 3, 1) := by decide +kernel
theorem dX10_account_232 : decode cX10_account 232 = .ok (.iconst 4, 1) := by decide +kernel
theorem dX10_account_233 : decode cX10_account 233 = .ok (.invokevirtual 78, 3) := by decide +kernel
theorem dX10_account_236 : decode cX10_account 236 = .ok (.ifCond .lt 6, 3) := by decide +kernel
theorem dX10_account_239 : decode cX10_account 239 = .ok (.iinc 2 1, 3) := by decide +kernel
theorem dX10_account_242 : decode cX10_account 242 = .ok (.iconst 0, 1) := by decide +kernel
theorem dX10_account_243 : decode cX10_account 243 = .ok (.istore 4, 2) := by decide +kernel
theorem dX10_account_245 : decode cX10_account 245 = .ok (.iload 4, 2) := by decide +kernel
theorem dX10_account_247 : decode cX10_account 247 = .ok (.aload_n 0, 1) := by decide +kernel
theorem dX10_account_248 : decode cX10_account 248 = .ok (.iload_n 3, 1) := by decide +kernel
theorem dX10_account_249 : decode cX10_account 249 = .ok (.iconst 2, 1) := by decide +kernel
theorem dX10_account_250 : decode cX10_account 250 = .ok (.invokevirtual 78, 3) := by decide +kernel
theorem dX10_account_253 : decode cX10_account 253 = .ok (.if_icmp .ge 41, 3) := by decide +kernel
theorem dX10_account_256 : decode cX10_account 256 = .ok (.iload_n 1, 1) := by decide +kernel
theorem dX10_account_257 : decode cX10_account 257 = .ok (.iconst 5, 1) := by decide +kernel
theorem dX10_account_258 : decode cX10_account 258 = .ok (.if_icmp .ne 14, 3) := by decide +kernel
theorem dX10_account_261 : decode cX10_account 261 = .ok (.iload_n 2, 1) := by decide +kernel
theorem dX10_account_262 : decode cX10_account 262 = .ok (.aload_n 0, 1) := by decide +kernel
theorem dX10_account_263 : decode cX10_account 263 = .ok (.iload_n 3, 1) := by decide +kernel
theorem dX10_account_264 : decode cX10_account 264 = .ok (.iload 4, 2) := by decide +kernel
theorem dX10_account_266 : decode cX10_account 266 = .ok (.iconst 3, 1) := by decide +kernel
theorem dX10_account_267 : decode cX10_account 267 = .ok (.invokevirtual 89, 3) := by decide +kernel
theorem dX10_account_270 : decode cX10_account 270 = .ok (.iadd, 1) := by decide +kernel
theorem dX10_account_271 : decode cX10_account 271 = .ok (.istore_n 2, 1) := by decide +kernel
theorem dX10_account_272 : decode cX10_account 272 = .ok (.iload_n 1, 1) := by decide +kernel
theorem dX10_account_273 : decode cX10_account 273 = .ok (.bipush 10, 2) := by decide +kernel
theorem dX10_account_275 : decode cX10_account 275 = .ok (.if_icmp .ne 13, 3) := by decide +kernel
theorem dX10_account_278 : decode cX10_account 278 = .ok (.iload_n 2, 1) := by decide +kernel
theorem dX10_account_279 : decode cX10_account 279 = .ok (.aload_n 0, 1) := by decide +kernel
theorem dX10_account_280 : decode cX10_account 280 = .ok (.iload_n 3, 1) := by decide +kernel
theorem dX10_account_281 : decode cX10_account 281 = .ok (.iload 4, 2) := by decide +kernel
theorem dX10_account_283 : decode cX10_account 283 = .ok (.invokevirtual 137, 3) := by decide +kernel
theorem dX10_account_286 : decode cX10_account 286 = .ok (.iadd, 1) := by decide +kernel
theorem dX10_account_287 : decode cX10_account 287 = .ok (.istore_n 2, 1) := by decide +kernel
theorem dX10_account_288 : decode cX10_account 288 = .ok (.iinc 4 1, 3) := by decide +kernel
theorem dX10_account_291 : decode cX10_account 291 = .ok (.goto (-46), 3) := by decide +kernel
theorem dX10_account_294 : decode cX10_account 294 = .ok (.iinc 3 1, 3) := by decide +kernel
theorem dX10_account_297 : decode cX10_account 297 = .ok (.goto (-145), 3) := by decide +kernel
theorem dX10_account_300 : decode cX10_account 300 = .ok (.iload_n 2, 1) := by decide +kernel
theorem dX10_account_301 : decode cX10_account 301 = .ok (.ireturn, 1) := by decide +kernel
theorem dX10_litShare_0 : decode cX10_litShare 0 = .ok (.aload_n 0, 1) := by decide +kernel
theorem dX10_litShare_1 : decode cX10_litShare 1 = .ok (.iconst 0, 1) := by decide +kernel
theorem dX10_litShare_2 : decode cX10_litShare 2 = .ok (.putfield 47, 3) := by decide +kernel
theorem dX10_litShare_5 : decode cX10_litShare 5 = .ok (.aload_n 0, 1) := by decide +kernel
theorem dX10_litShare_6 : decode cX10_litShare 6 = .ok (.iload_n 1, 1) := by decide +kernel
theorem dX10_litShare_7 : decode cX10_litShare 7 = .ok (.iload_n 2, 1) := by decide +kernel
theorem dX10_litShare_8 : decode cX10_litShare 8 = .ok (.invokevirtual 105, 3) := by decide +kernel
theorem dX10_litShare_11 : decode cX10_litShare 11 = .ok (.ifCond .ne 9, 3) := by decide +kernel
theorem dX10_litShare_14 : decode cX10_litShare 14 = .ok (.aload_n 0, 1) := by decide +kernel
theorem dX10_litShare_15 : decode cX10_litShare 15 = .ok (.iconst 1, 1) := by decide +kernel
theorem dX10_litShare_16 : decode cX10_litShare 16 = .ok (.invokevirtual 53, 3) := by decide +kernel
theorem dX10_litShare_19 : decode cX10_litShare 19 = .ok (.ireturn, 1) := by decide +kernel
theorem dX10_litShare_20 : decode cX10_litShare 20 = .ok (.aload_n 0, 1) := by decide +kernel
theorem dX10_litShare_21 : decode cX10_litShare 21 = .ok (.getfield 9, 3) := by decide +kernel
theorem dX10_litShare_24 : decode cX10_litShare 24 = .ok (.iconst 3, 1) := by decide +kernel
theorem dX10_litShare_25 : decode cX10_litShare 25 = .ok (.iaload, 1) := by decide +kernel
theorem dX10_litShare_26 : decode cX10_litShare 26 = .ok (.ifCond .ne 11, 3) := by decide +kernel
theorem dX10_litShare_29 : decode cX10_litShare 29 = .ok (.aload_n 0, 1) := by decide +kernel
theorem dX10_litShare_30 : decode cX10_litShare 30 = .ok (.iconst 2, 1) := by decide +kernel
theorem dX10_litShare_31 : decode cX10_litShare 31 = .ok (.invokevirtual 53, 3) := by decide +kernel
theorem dX10_litShare_34 : decode cX10_litShare 34 = .ok (.goto 22, 3) := by decide +kernel
theorem dX10_litShare_37 : decode cX10_litShare 37 = .ok (.aload_n 0, 1) := by decide +kernel
theorem dX10_litShare_38 : decode cX10_litShare 38 = .ok (.iload_n 1, 1) := by decide +kernel
theorem dX10_litShare_39 : decode cX10_litShare 39 = .ok (.iload_n 2, 1) := by decide +kernel
theorem dX10_litShare_40 : decode cX10_litShare 40 = .ok (.iconst 3, 1) := by decide +kernel
theorem dX10_litShare_41 : decode cX10_litShare 41 = .ok (.invokevirtual 89, 3) := by decide +kernel
theorem dX10_litShare_44 : decode cX10_litShare 44 = .ok (.i2f, 1) := by decide +kernel
theorem dX10_litShare_45 : decode cX10_litShare 45 = .ok (.aload_n 0, 1) := by decide +kernel
theorem dX10_litShare_46 : decode cX10_litShare 46 = .ok (.getfield 9, 3) := by decide +kernel
theorem dX10_litShare_49 : decode cX10_litShare 49 = .ok (.iconst 3, 1) := by decide +kernel
theorem dX10_litShare_50 : decode cX10_litShare 50 = .ok (.iaload, 1) := by decide +kernel
theorem dX10_litShare_51 : decode cX10_litShare 51 = .ok (.i2f, 1) := by decide +kernel
theorem dX10_litShare_52 : decode cX10_litShare 52 = .ok (.fdiv, 1) := by decide +kernel
theorem dX10_litShare_53 : decode cX10_litShare 53 = .ok (.invokestatic 234, 3) := by decide +kernel
theorem dX10_litShare_56 : decode cX10_litShare 56 = .ok (.ireturn, 1) := by decide +kernel
theorem dX10_meanWait_0 : decode cX10_meanWait 0 = .ok (.aload_n 0, 1) := by decide +kernel
theorem dX10_meanWait_1 : decode cX10_meanWait 1 = .ok (.iconst 0, 1) := by decide +kernel
theorem dX10_meanWait_2 : decode cX10_meanWait 2 = .ok (.putfield 47, 3) := by decide +kernel
theorem dX10_meanWait_5 : decode cX10_meanWait 5 = .ok (.aload_n 0, 1) := by decide +kernel
theorem dX10_meanWait_6 : decode cX10_meanWait 6 = .ok (.getfield 9, 3) := by decide +kernel
theorem dX10_meanWait_9 : decode cX10_meanWait 9 = .ok (.iconst 4, 1) := by decide +kernel
theorem dX10_meanWait_10 : decode cX10_meanWait 10 = .ok (.iaload, 1) := by decide +kernel
theorem dX10_meanWait_11 : decode cX10_meanWait 11 = .ok (.ifCond .ne 12, 3) := by decide +kernel
theorem dX10_meanWait_14 : decode cX10_meanWait 14 = .ok (.aload_n 0, 1) := by decide +kernel
theorem dX10_meanWait_15 : decode cX10_meanWait 15 = .ok (.iconst 1, 1) := by decide +kernel
theorem dX10_meanWait_16 : decode cX10_meanWait 16 = .ok (.invokevirtual 53, 3) := by decide +kernel
theorem dX10_meanWait_19 : decode cX10_meanWait 19 = .ok (.i2d, 1) := by decide +kernel
theorem dX10_meanWait_20 : decode cX10_meanWait 20 = .ok (.goto 18, 3) := by decide +kernel
theorem dX10_meanWait_23 : decode cX10_meanWait 23 = .ok (.aload_n 0, 1) := by decide +kernel
theorem dX10_meanWait_24 : decode cX10_meanWait 24 = .ok (.getfield 9, 3) := by decide +kernel
theorem dX10_meanWait_27 : decode cX10_meanWait 27 = .ok (.iconst 5, 1) := by decide +kernel
theorem dX10_meanWait_28 : decode cX10_meanWait 28 = .ok (.iaload, 1) := by decide +kernel
theorem dX10_meanWait_29 : decode cX10_meanWait 29 = .ok (.i2d, 1) := by decide +kernel
theorem dX10_meanWait_30 : decode cX10_meanWait 30 = .ok (.aload_n 0, 1) := by decide +kernel
theorem dX10_meanWait_31 : decode cX10_meanWait 31 = .ok (.getfield 9, 3) := by decide +kernel
theorem dX10_meanWait_34 : decode cX10_meanWait 34 = .ok (.iconst 4, 1) := by decide +kernel
theorem dX10_meanWait_35 : decode cX10_meanWait 35 = .ok (.iaload, 1) := by decide +kernel
theorem dX10_meanWait_36 : decode cX10_meanWait 36 = .ok (.i2d, 1) := by decide +kernel
theorem dX10_meanWait_37 : decode cX10_meanWait 37 = .ok (.ddiv, 1) := by decide +kernel
theorem dX10_meanWait_38 : decode cX10_meanWait 38 = .ok (.dreturn, 1) := by decide +kernel
theorem dX10_append_0 : decode cX10_append 0 = .ok (.aload_n 0, 1) := by decide +kernel
theorem dX10_append_1 : decode cX10_append 1 = .ok (.iconst 0, 1) := by decide +kernel
theorem dX10_append_2 : decode cX10_append 2 = .ok (.putfield 47, 3) := by decide +kernel
theorem dX10_append_5 : decode cX10_append 5 = .ok (.iconst 0, 1) := by decide +kernel
theorem dX10_append_6 : decode cX10_append 6 = .ok (.istore_n 2, 1) := by decide +kernel
theorem dX10_append_7 : decode cX10_append 7 = .ok (.bipush 24, 2) := by decide +kernel
theorem dX10_append_9 : decode cX10_append 9 = .ok (.istore_n 3, 1) := by decide +kernel
theorem dX10_append_10 : decode cX10_append 10 = .ok (.iload_n 3, 1) := by decide +kernel
theorem dX10_append_11 : decode cX10_append 11 = .ok (.ifCond .lt 47, 3) := by decide +kernel
theorem dX10_append_14 : decode cX10_append 14 = .ok (.iload_n 1, 1) := by decide +kernel
theorem dX10_append_15 : decode cX10_append 15 = .ok (.iload_n 3, 1) := by decide +kernel
theorem dX10_append_16 : decode cX10_append 16 = .ok (.iushr, 1) := by decide +kernel
theorem dX10_append_17 : decode cX10_append 17 = .ok (.sipush 255, 3) := by decide +kernel
theorem dX10_append_20 : decode cX10_append 20 = .ok (.iand, 1) := by decide +kernel
theorem dX10_append_21 : decode cX10_append 21 = .ok (.istore 4, 2) := by decide +kernel
theorem dX10_append_23 : decode cX10_append 23 = .ok (.iload 4, 2) := by decide +kernel
theorem dX10_append_25 : decode cX10_append 25 = .ok (.ifCond .ne 6, 3) := by decide +kernel
theorem dX10_append_28 : decode cX10_append 28 = .ok (.goto 24, 3) := by decide +kernel
theorem dX10_append_31 : decode cX10_append 31 = .ok (.iload 4, 2) := by decide +kernel
theorem dX10_append_33 : decode cX10_append 33 = .ok (.bipush 33, 2) := by decide +kernel
theorem dX10_append_35 : decode cX10_append 35 = .ok (.bipush 126, 2) := by decide +kernel
theorem dX10_append_37 : decode cX10_append 37 = .ok (.invokestatic 70, 3) := by decide +kernel
theorem dX10_append_40 : decode cX10_append 40 = .ok (.ifCond .ne 9, 3) := by decide +kernel
theorem dX10_append_43 : decode cX10_append 43 = .ok (.aload_n 0, 1) := by decide +kernel
theorem dX10_append_44 : decode cX10_append 44 = .ok (.iconst 1, 1) := by decide +kernel
theorem dX10_append_45 : decode cX10_append 45 = .ok (.invokevirtual 53, 3) := by decide +kernel
theorem dX10_append_48 : decode cX10_append 48 = .ok (.ireturn, 1) := by decide +kernel
theorem dX10_append_49 : decode cX10_append 49 = .ok (.iinc 2 1, 3) := by decide +kernel
theorem dX10_append_52 : decode cX10_append 52 = .ok (.iinc 3 (-8), 3) := by decide +kernel
theorem dX10_append_55 : decode cX10_append 55 = .ok (.goto (-45), 3) := by decide +kernel
theorem dX10_append_58 : decode cX10_append 58 = .ok (.aload_n 0, 1) := by decide +kernel
theorem dX10_append_59 : decode cX10_append 59 = .ok (.getfield 232, 3) := by decide +kernel
theorem dX10_append_62 : decode cX10_append 62 = .ok (.iload_n 2, 1) := by decide +kernel
theorem dX10_append_63 : decode cX10_append 63 = .ok (.iadd, 1) := by decide +kernel
theorem dX10_append_64 : decode cX10_append 64 = .ok (.bipush 60, 2) := by decide +kernel
theorem dX10_append_66 : decode cX10_append 66 = .ok (.if_icmp .le 9, 3) := by decide +kernel
theorem dX10_append_69 : decode cX10_append 69 = .ok (.aload_n 0, 1) := by decide +kernel
theorem dX10_append_70 : decode cX10_append 70 = .ok (.iconst 2, 1) := by decide +kernel
theorem dX10_append_71 : decode cX10_append 71 = .ok (.invokevirtual 53, 3) := by decide +kernel
theorem dX10_append_74 : decode cX10_append 74 = .ok (.ireturn, 1) := by decide +kernel
theorem dX10_append_75 : decode cX10_append 75 = .ok (.bipush 24, 2) := by decide +kernel
theorem dX10_append_77 : decode cX10_append 77 = .ok (.istore_n 3, 1) := by decide +kernel
theorem dX10_append_78 : decode cX10_append 78 = .ok (.iload_n 3, 1) := by decide +kernel
theorem dX10_append_79 : decode cX10_append 79 = .ok (.ifCond .lt 41, 3) := by decide +kernel
theorem dX10_append_82 : decode cX10_append 82 = .ok (.iload_n 1, 1) := by decide +kernel
theorem dX10_append_83 : decode cX10_append 83 = .ok (.iload_n 3, 1) := by decide +kernel
theorem dX10_append_84 : decode cX10_append 84 = .ok (.iushr, 1) := by decide +kernel
theorem dX10_append_85 : decode cX10_append 85 = .ok (.sipush 255, 3) := by decide +kernel
theorem dX10_append_88 : decode cX10_append 88 = .ok (.iand, 1) := by decide +kernel
theorem dX10_append_89 : decode cX10_append 89 = .ok (.istore 4, 2) := by decide +kernel
theorem dX10_append_91 : decode cX10_append 91 = .ok (.iload 4, 2) := by decide +kernel
theorem dX10_append_93 : decode cX10_append 93 = .ok (.ifCond .le 21, 3) := by decide +kernel
theorem dX10_append_96 : decode cX10_append 96 = .ok (.aload_n 0, 1) := by decide +kernel
theorem dX10_append_97 : decode cX10_append 97 = .ok (.getfield 22, 3) := by decide +kernel
theorem dX10_append_100 : decode cX10_append 100 = .ok (.aload_n 0, 1) := by decide +kernel
theorem dX10_append_101 : decode cX10_append 101 = .ok (.dup, 1) := by decide +kernel
theorem dX10_append_102 : decode cX10_append 102 = .ok (.getfield 232, 3) := by decide +kernel
theorem dX10_append_105 : decode cX10_append 105 = .ok (.dup_x1, 1) := by decide +kernel
theorem dX10_append_106 : decode cX10_append 106 = .ok (.iconst 1, 1) := by decide +kernel
theorem dX10_append_107 : decode cX10_append 107 = .ok (.iadd, 1) := by decide +kernel
theorem dX10_append_108 : decode cX10_append 108 = .ok (.putfield 232, 3) := by decide +kernel
theorem dX10_append_111 : decode cX10_append 111 = .ok (.iload 4, 2) := by decide +kernel
theorem dX10_append_113 : decode cX10_append 113 = .ok (.iastore, 1) := by decide +kernel
theorem dX10_append_114 : decode cX10_append 114 = .ok (.iinc 3 (-8), 3) := by decide +kernel
theorem dX10_append_117 : decode cX10_append 117 = .ok (.goto (-39), 3) := by decide +kernel
theorem dX10_append_120 : decode cX10_append 120 = .ok (.aload_n 0, 1) := by decide +kernel
theorem dX10_append_121 : decode cX10_append 121 = .ok (.getfield 232, 3) := by decide +kernel
theorem dX10_append_124 : decode cX10_append 124 = .ok (.ireturn, 1) := by decide +kernel
theorem dX10_here_0 : decode cX10_here 0 = .ok (.aload_n 0, 1) := by decide +kernel
theorem dX10_here_1 : decode cX10_here 1 = .ok (.getfield 240, 3) := by decide +kernel
theorem dX10_here_4 : decode cX10_here 4 = .ok (.aload_n 0, 1) := by decide +kernel
theorem dX10_here_5 : decode cX10_here 5 = .ok (.getfield 232, 3) := by decide +kernel
theorem dX10_here_8 : decode cX10_here 8 = .ok (.if_icmp .ge 15, 3) := by decide +kernel
theorem dX10_here_11 : decode cX10_here 11 = .ok (.aload_n 0, 1) := by decide +kernel
theorem dX10_here_12 : decode cX10_here 12 = .ok (.getfield 22, 3) := by decide +kernel
theorem dX10_here_15 : decode cX10_here 15 = .ok (.aload_n 0, 1) := by decide +kernel
theorem dX10_here_16 : decode cX10_here 16 = .ok (.getfield 240, 3) := by decide +kernel
theorem dX10_here_19 : decode cX10_here 19 = .ok (.iaload, 1) := by decide +kernel
theorem dX10_here_20 : decode cX10_here 20 = .ok (.goto 4, 3) := by decide +kernel
theorem dX10_here_23 : decode cX10_here 23 = .ok (.iconst 0, 1) := by decide +kernel
theorem dX10_here_24 : decode cX10_here 24 = .ok (.ireturn, 1) := by decide +kernel
theorem dX10_takes_0 : decode cX10_takes 0 = .ok (.aload_n 0, 1) := by decide +kernel
theorem dX10_takes_1 : decode cX10_takes 1 = .ok (.invokevirtual 242, 3) := by decide +kernel
theorem dX10_takes_4 : decode cX10_takes 4 = .ok (.iload_n 1, 1) := by decide +kernel
theorem dX10_takes_5 : decode cX10_takes 5 = .ok (.if_icmp .eq 5, 3) := by decide +kernel
theorem dX10_takes_8 : decode cX10_takes 8 = .ok (.iconst 0, 1) := by decide +kernel
theorem dX10_takes_9 : decode cX10_takes 9 = .ok (.ireturn, 1) := by decide +kernel
theorem dX10_takes_10 : decode cX10_takes 10 = .ok (.aload_n 0, 1) := by decide +kernel
theorem dX10_takes_11 : decode cX10_takes 11 = .ok (.dup, 1) := by decide +kernel
theorem dX10_takes_12 : decode cX10_takes 12 = .ok (.getfield 240, 3) := by decide +kernel
theorem dX10_takes_15 : decode cX10_takes 15 = .ok (.iconst 1, 1) := by decide +kernel
theorem dX10_takes_16 : decode cX10_takes 16 = .ok (.iadd, 1) := by decide +kernel
theorem dX10_takes_17 : decode cX10_takes 17 = .ok (.putfield 240, 3) := by decide +kernel
theorem dX10_takes_20 : decode cX10_takes 20 = .ok (.iconst 1, 1) := by decide +kernel
theorem dX10_takes_21 : decode cX10_takes 21 = .ok (.ireturn, 1) := by decide +kernel
theorem dX10_word_0 : decode cX10_word 0 = .ok (.aload_n 0, 1) := by decide +kernel
theorem dX10_word_1 : decode cX10_word 1 = .ok (.getfield 240, 3) := by decide +kernel
theorem dX10_word_4 : decode cX10_word 4 = .ok (.istore_n 1, 1) := by decide +kernel
theorem dX10_word_5 : decode cX10_word 5 = .ok (.aload_n 0, 1) := by decide +kernel
theorem dX10_word_6 : decode cX10_word 6 = .ok (.invokevirtual 242, 3) := by decide +kernel
theorem dX10_word_9 : decode cX10_word 9 = .ok (.bipush 97, 2) := by decide +kernel
theorem dX10_word_11 : decode cX10_word 11 = .ok (.bipush 122, 2) := by decide +kernel
theorem dX10_word_13 : decode cX10_word 13 = .ok (.invokestatic 70, 3) := by decide +kernel
theorem dX10_word_16 : decode cX10_word 16 = .ok (.ifCond .eq 16, 3) := by decide +kernel
theorem dX10_word_19 : decode cX10_word 19 = .ok (.aload_n 0, 1) := by decide +kernel
theorem dX10_word_20 : decode cX10_word 20 = .ok (.dup, 1) := by decide +kernel
theorem dX10_word_21 : decode cX10_word 21 = .ok (.getfield 240, 3) := by decide +kernel
theorem dX10_word_24 : decode cX10_word 24 = .ok (.iconst 1, 1) := by decide +kernel
theorem dX10_word_25 : decode cX10_word 25 = .ok (.iadd, 1) := by decide +kernel
theorem dX10_word_26 : decode cX10_word 26 = .ok (.putfield 240, 3) := by decide +kernel
theorem dX10_word_29 : decode cX10_word 29 = .ok (.goto (-24), 3) := by decide +kernel
theorem dX10_word_32 : decode cX10_word 32 = .ok (.iconst 0, 1) := by decide +kernel
theorem dX10_word_33 : decode cX10_word 33 = .ok (.istore_n 2, 1) := by decide +kernel
theorem dX10_word_34 : decode cX10_word 34 = .ok (.iconst 0, 1) := by decide +kernel
theorem dX10_word_35 : decode cX10_word 35 = .ok (.istore_n 3, 1) := by decide +kernel
theorem dX10_word_36 : decode cX10_word 36 = .ok (.iload_n 3, 1) := by decide +kernel
theorem dX10_word_37 : decode cX10_word 37 = .ok (.bipush 6, 2) := by decide +kernel
theorem dX10_word_39 : decode cX10_word 39 = .ok (.if_icmp .ge 120, 3) := by decide +kernel
theorem dX10_word_42 : decode cX10_word 42 = .ok (.iload_n 1, 1) := by decide +kernel
theorem dX10_word_43 : decode cX10_word 43 = .ok (.istore 4, 2) := by decide +kernel
theorem dX10_word_45 : decode cX10_word 45 = .ok (.ldc 245, 2) := by decide +kernel
theorem dX10_word_47 : decode cX10_word 47 = .ok (.iload_n 2, 1) := by decide +kernel
theorem dX10_word_48 : decode cX10_word 48 = .ok (.invokevirtual 247, 3) := by decide +kernel
theorem dX10_word_51 : decode cX10_word 51 = .ok (.bipush 58, 2) := by decide +kernel
theorem dX10_word_53 : decode cX10_word 53 = .ok (.if_icmp .eq 37, 3) := by decide +kernel
theorem dX10_word_56 : decode cX10_word 56 = .ok (.iload 4, 2) := by decide +kernel
theorem dX10_word_58 : decode cX10_word 58 = .ok (.aload_n 0, 1) := by decide +kernel
theorem dX10_word_59 : decode cX10_word 59 = .ok (.getfield 240, 3) := by decide +kernel
theorem dX10_word_62 : decode cX10_word 62 = .ok (.if_icmp .ge 28, 3) := by decide +kernel
theorem dX10_word_65 : decode cX10_word 65 = .ok (.aload_n 0, 1) := by decide +kernel
theorem dX10_word_66 : decode cX10_word 66 = .ok (.getfield 22, 3) := by decide +kernel
theorem dX10_word_69 : decode cX10_word 69 = .ok (.iload 4, 2) := by decide +kernel
theorem dX10_word_71 : decode cX10_word 71 = .ok (.iaload, 1) := by decide +kernel
theorem dX10_word_72 : decode cX10_word 72 = .ok (.ldc 245, 2) := by decide +kernel
theorem dX10_word_74 : decode cX10_word 74 = .ok (.iload_n 2, 1) := by decide +kernel
theorem dX10_word_75 : decode cX10_word 75 = .ok (.invokevirtual 247, 3) := by decide +kernel
theorem dX10_word_78 : decode cX10_word 78 = .ok (.if_icmp .ne 12, 3) := by decide +kernel
theorem dX10_word_81 : decode cX10_word 81 = .ok (.iinc 4 1, 3) := by decide +kernel
theorem dX10_word_84 : decode cX10_word 84 = .ok (.iinc 2 1, 3) := by decide +kernel
theorem dX10_word_87 : decode cX10_word 87 = .ok (.goto (-42), 3) := by decide +kernel
theorem dX10_word_90 : decode cX10_word 90 = .ok (.ldc 245, 2) := by decide +kernel
theorem dX10_word_92 : decode cX10_word 92 = .ok (.iload_n 2, 1) := by decide +kernel
theorem dX10_word_93 : decode cX10_word 93 = .ok (.invokevirtual 247, 3) := by decide +kernel
theorem dX10_word_96 : decode cX10_word 96 = .ok (.bipush 58, 2) := by decide +kernel
theorem dX10_word_98 : decode cX10_word 98 = .ok (.if_icmp .ne 35, 3) := by decide +kernel
theorem dX10_word_101 : decode cX10_word 101 = .ok (.iload 4, 2) := by decide +kernel
theorem dX10_word_103 : decode cX10_word 103 = .ok (.aload_n 0, 1) := by decide +kernel
theorem dX10_word_104 : decode cX10_word 104 = .ok (.getfield 240, 3) := by decide +kernel
theorem dX10_word_107 : decode cX10_word 107 = .ok (.if_icmp .ne 26, 3) := by decide +kernel
theorem dX10_word_110 : decode cX10_word 110 = .ok (.aload_n 0, 1) := by decide +kernel
theorem dX10_word_111 : decode cX10_word 111 = .ok (.getfield 240, 3) := by decide +kernel
theorem dX10_word_114 : decode cX10_word 114 = .ok (.iload_n 1, 1) := by decide +kernel
theorem dX10_word_115 : decode cX10_word 115 = .ok (.if_icmp .le 18, 3) := by decide +kernel
theorem dX10_word_118 : decode cX10_word 118 = .ok (.aload_n 0, 1) := by decide +kernel
theorem dX10_word_119 : decode cX10_word 119 = .ok (.bipush 58, 2) := by decide +kernel
theorem dX10_word_121 : decode cX10_word 121 = .ok (.invokevirtual 253, 3) := by decide +kernel
theorem dX10_word_124 : decode cX10_word 124 = .ok (.ifCond .eq 7, 3) := by decide +kernel
theorem dX10_word_127 : decode cX10_word 127 = .ok (.iload_n 3, 1) := by decide +kernel
theorem dX10_word_128 : decode cX10_word 128 = .ok (.goto 4, 3) := by decide +kernel
theorem dX10_word_131 : decode cX10_word 131 = .ok (.iconst (-1), 1) := by decide +kernel
theorem dX10_word_132 : decode cX10_word 132 = .ok (.ireturn, 1) := by decide +kernel
theorem dX10_word_133 : decode cX10_word 133 = .ok (.ldc 245, 2) := by decide +kernel
theorem dX10_word_135 : decode cX10_word 135 = .ok (.iload_n 2, 1) := by decide +kernel
theorem dX10_word_136 : decode cX10_word 136 = .ok (.invokevirtual 247, 3) := by decide +kernel
theorem dX10_word_139 : decode cX10_word 139 = .ok (.bipush 58, 2) := by decide +kernel
theorem dX10_word_141 : decode cX10_word 141 = .ok (.if_icmp .eq 9, 3) := by decide +kernel
theorem dX10_word_144 : decode cX10_word 144 = .ok (.iinc 2 1, 3) := by decide +kernel
theorem dX10_word_147 : decode cX10_word 147 = .ok (.goto (-14), 3) := by decide +kernel
theorem dX10_word_150 : decode cX10_word 150 = .ok (.iinc 2 1, 3) := by decide +kernel
theorem dX10_word_153 : decode cX10_word 153 = .ok (.iinc 3 1, 3) := by decide +kernel
theorem dX10_word_156 : decode cX10_word 156 = .ok (.goto (-120), 3) := by decide +kernel
theorem dX10_word_159 : decode cX10_word 159 = .ok (.aload_n 0, 1) := by decide +kernel
theorem dX10_word_160 : decode cX10_word 160 = .ok (.iload_n 1, 1) := by decide +kernel
theorem dX10_word_161 : decode cX10_word 161 = .ok (.putfield 240, 3) := by decide +kernel
theorem dX10_word_164 : decode cX10_word 164 = .ok (.iconst (-1), 1) := by decide +kernel
theorem dX10_word_165 : decode cX10_word 165 = .ok (.ireturn, 1) := by decide +kernel
theorem dX10_number_0 : decode cX10_number 0 = .ok (.aload_n 0, 1) := by decide +kernel
theorem dX10_number_1 : decode cX10_number 1 = .ok (.invokevirtual 242, 3) := by decide +kernel
theorem dX10_number_4 : decode cX10_number 4 = .ok (.bipush 48, 2) := by decide +kernel
theorem dX10_number_6 : decode cX10_number 6 = .ok (.bipush 57, 2) := by decide +kernel
theorem dX10_number_8 : decode cX10_number 8 = .ok (.invokestatic 70, 3) := by decide +kernel
theorem dX10_number_11 : decode cX10_number 11 = .ok (.ifCond .ne 5, 3) := by decide +kernel
theorem dX10_number_14 : decode cX10_number 14 = .ok (.iconst 0, 1) := by decide +kernel
theorem dX10_number_15 : decode cX10_number 15 = .ok (.ireturn, 1) := by decide +kernel
theorem dX10_number_16 : decode cX10_number 16 = .ok (.aload_n 0, 1) := by decide +kernel
theorem dX10_number_17 : decode cX10_number 17 = .ok (.getfield 22, 3) := by decide +kernel
theorem dX10_number_20 : decode cX10_number 20 = .ok (.aload_n 0, 1) := by decide +kernel
theorem dX10_number_21 : decode cX10_number 21 = .ok (.dup, 1) := by decide +kernel
theorem dX10_number_22 : decode cX10_number 22 = .ok (.getfield 240, 3) := by decide +kernel
theorem dX10_number_25 : decode cX10_number 25 = .ok (.dup_x1, 1) := by decide +kernel
theorem dX10_number_26 : decode cX10_number 26 = .ok (.iconst 1, 1) := by decide +kernel
theorem dX10_number_27 : decode cX10_number 27 = .ok (.iadd, 1) := by decide +kernel
theorem dX10_number_28 : decode cX10_number 28 = .ok (.putfield 240, 3) := by decide +kernel
theorem dX10_number_31 : decode cX10_number 31 = .ok (.iaload, 1) := by decide +kernel
theorem dX10_number_32 : decode cX10_number 32 = .ok (.bipush 48, 2) := by decide +kernel
theorem dX10_number_34 : decode cX10_number 34 = .ok (.isub, 1) := by decide +kernel
theorem dX10_number_35 : decode cX10_number 35 = .ok (.istore_n 2, 1) := by decide +kernel
theorem dX10_number_36 : decode cX10_number 36 = .ok (.iconst 1, 1) := by decide +kernel
theorem dX10_number_37 : decode cX10_number 37 = .ok (.istore_n 3, 1) := by decide +kernel
theorem dX10_number_38 : decode cX10_number 38 = .ok (.iload_n 3, 1) := by decide +kernel
theorem dX10_number_39 : decode cX10_number 39 = .ok (.iconst 4, 1) := by decide +kernel
theorem dX10_number_40 : decode cX10_number 40 = .ok (.if_icmp .ge 52, 3) := by decide +kernel
theorem dX10_number_43 : decode cX10_number 43 = .ok (.iload_n 2, 1) := by decide +kernel
theorem dX10_number_44 : decode cX10_number 44 = .ok (.ifCond .le 48, 3) := by decide +kernel
theorem dX10_number_47 : decode cX10_number 47 = .ok (.aload_n 0, 1) := by decide +kernel
theorem dX10_number_48 : decode cX10_number 48 = .ok (.invokevirtual 242, 3) := by decide +kernel
theorem dX10_number_51 : decode cX10_number 51 = .ok (.bipush 48, 2) := by decide +kernel
theorem dX10_number_53 : decode cX10_number 53 = .ok (.bipush 57, 2) := by decide +kernel
theorem dX10_number_55 : decode cX10_number 55 = .ok (.invokestatic 70, 3) := by decide +kernel
theorem dX10_number_58 : decode cX10_number 58 = .ok (.ifCond .eq 34, 3) := by decide +kernel
theorem dX10_number_61 : decode cX10_number 61 = .ok (.bipush 10, 2) := by decide +kernel
theorem dX10_number_63 : decode cX10_number 63 = .ok (.iload_n 2, 1) := by decide +kernel
theorem dX10_number_64 : decode cX10_number 64 = .ok (.imul, 1) := by decide +kernel
theorem dX10_number_65 : decode cX10_number 65 = .ok (.aload_n 0, 1) := by decide +kernel
theorem dX10_number_66 : decode cX10_number 66 = .ok (.getfield 22, 3) := by decide +kernel
theorem dX10_number_69 : decode cX10_number 69 = .ok (.aload_n 0, 1) := by decide +kernel
theorem dX10_number_70 : decode cX10_number 70 = .ok (.dup, 1) := by decide +kernel
theorem dX10_number_71 : decode cX10_number 71 = .ok (.getfield 240, 3) := by decide +kernel
theorem dX10_number_74 : decode cX10_number 74 = .ok (.dup_x1, 1) := by decide +kernel
theorem dX10_number_75 : decode cX10_number 75 = .ok (.iconst 1, 1) := by decide +kernel
theorem dX10_number_76 : decode cX10_number 76 = .ok (.iadd, 1) := by decide +kernel
theorem dX10_number_77 : decode cX10_number 77 = .ok (.putfield 240, 3) := by decide +kernel
theorem dX10_number_80 : decode cX10_number 80 = .ok (.iaload, 1) := by decide +kernel
theorem dX10_number_81 : decode cX10_number 81 = .ok (.iadd, 1) := by decide +kernel
theorem dX10_number_82 : decode cX10_number 82 = .ok (.bipush 48, 2) := by decide +kernel
theorem dX10_number_84 : decode cX10_number 84 = .ok (.isub, 1) := by decide +kernel
theorem dX10_number_85 : decode cX10_number 85 = .ok (.istore_n 2, 1) := by decide +kernel
theorem dX10_number_86 : decode cX10_number 86 = .ok (.iinc 3 1, 3) := by decide +kernel
theorem dX10_number_89 : decode cX10_number 89 = .ok (.goto (-51), 3) := by decide +kernel
theorem dX10_number_92 : decode cX10_number 92 = .ok (.aload_n 0, 1) := by decide +kernel
theorem dX10_number_93 : decode cX10_number 93 = .ok (.getfield 32, 3) := by decide +kernel
theorem dX10_number_96 : decode cX10_number 96 = .ok (.iload_n 1, 1) := by decide +kernel
theorem dX10_number_97 : decode cX10_number 97 = .ok (.iload_n 2, 1) := by decide +kernel
theorem dX10_number_98 : decode cX10_number 98 = .ok (.iastore, 1) := by decide +kernel
theorem dX10_number_99 : decode cX10_number 99 = .ok (.iconst 1, 1) := by decide +kernel
theorem dX10_number_100 : decode cX10_number 100 = .ok (.ireturn, 1) := by decide +kernel
theorem dX10_items_0 : decode cX10_items 0 = .ok (.iload_n 1, 1) := by decide +kernel
theorem dX10_items_1 : decode cX10_items 1 = .ok (.ifCond .ne 7, 3) := by decide +kernel
theorem dX10_items_4 : decode cX10_items 4 = .ok (.iconst 5, 1) := by decide +kernel
theorem dX10_items_5 : decode cX10_items 5 = .ok (.goto 22, 3) := by decide +kernel
theorem dX10_items_8 : decode cX10_items 8 = .ok (.iload_n 1, 1) := by decide +kernel
theorem dX10_items_9 : decode cX10_items 9 = .ok (.iconst 3, 1) := by decide +kernel
theorem dX10_items_10 : decode cX10_items 10 = .ok (.if_icmp .ge 7, 3) := by decide +kernel
theorem dX10_items_13 : decode cX10_items 13 = .ok (.iconst 2, 1) := by decide +kernel
theorem dX10_items_14 : decode cX10_items 14 = .ok (.goto 13, 3) := by decide +kernel
theorem dX10_items_17 : decode cX10_items 17 = .ok (.iload_n 1, 1) := by decide +kernel
theorem dX10_items_18 : decode cX10_items 18 = .ok (.iconst 5, 1) := by decide +kernel
theorem dX10_items_19 : decode cX10_items 19 = .ok (.if_icmp .ge 7, 3) := by decide +kernel
theorem dX10_items_22 : decode cX10_items 22 = .ok (.iconst 1, 1) := by decide +kernel
theorem dX10_items_23 : decode cX10_items 23 = .ok (.goto 4, 3) := by decide +kernel
theorem dX10_items_26 : decode cX10_items 26 = .ok (.iconst 3, 1) := by decide +kernel
theorem dX10_items_27 : decode cX10_items 27 = .ok (.istore_n 2, 1) := by decide +kernel
theorem dX10_items_28 : decode cX10_items 28 = .ok (.iconst 0, 1) := by decide +kernel
theorem dX10_items_29 : decode cX10_items 29 = .ok (.istore_n 3, 1) := by decide +kernel
theorem dX10_items_30 : decode cX10_items 30 = .ok (.iload_n 3, 1) := by decide +kernel
theorem dX10_items_31 : decode cX10_items 31 = .ok (.iload_n 2, 1) := by decide +kernel
theorem dX10_items_32 : decode cX10_items 32 = .ok (.if_icmp .ge 32, 3) := by decide +kernel
theorem dX10_items_35 : decode cX10_items 35 = .ok (.iload_n 3, 1) := by decide +kernel
theorem dX10_items_36 : decode cX10_items 36 = .ok (.ifCond .le 12, 3) := by decide +kernel
theorem dX10_items_39 : decode cX10_items 39 = .ok (.aload_n 0, 1) := by decide +kernel
theorem dX10_items_40 : decode cX10_items 40 = .ok (.bipush 44, 2) := by decide +kernel
theorem dX10_items_42 : decode cX10_items 42 = .ok (.invokevirtual 253, 3) := by decide +kernel
theorem dX10_items_45 : decode cX10_items 45 = .ok (.ifCond .eq 11, 3) := by decide +kernel
theorem dX10_items_48 : decode cX10_items 48 = .ok (.aload_n 0, 1) := by decide +kernel
theorem dX10_items_49 : decode cX10_items 49 = .ok (.iload_n 3, 1) := by decide +kernel
theorem dX10_items_50 : decode cX10_items 50 = .ok (.invokevirtual 256, 3) := by decide +kernel
theorem dX10_items_53 : decode cX10_items 53 = .ok (.ifCond .ne 5, 3) := by decide +kernel
theorem dX10_items_56 : decode cX10_items 56 = .ok (.iconst 0, 1) := by decide +kernel
theorem dX10_items_57 : decode cX10_items 57 = .ok (.ireturn, 1) := by decide +kernel
theorem dX10_items_58 : decode cX10_items 58 = .ok (.iinc 3 1, 3) := by decide +kernel
theorem dX10_items_61 : decode cX10_items 61 = .ok (.goto (-31), 3) := by decide +kernel
theorem dX10_items_64 : decode cX10_items 64 = .ok (.aload_n 0, 1) := by decide +kernel
theorem dX10_items_65 : decode cX10_items 65 = .ok (.bipush 59, 2) := by decide +kernel
theorem dX10_items_67 : decode cX10_items 67 = .ok (.invokevirtual 253, 3) := by decide +kernel
theorem dX10_items_70 : decode cX10_items 70 = .ok (.ireturn, 1) := by decide +kernel
theorem dX10_does_0 : decode cX10_does 0 = .ok (.iload_n 1, 1) := by decide +kernel
theorem dX10_does_1 : decode cX10_does 1 = .ok (.tableswitch 126 0 4 #[35, 70, 87, 104, 115], 35) := by decide +kernel
theorem dX10_does_36 : decode cX10_does 36 = .ok (.aload_n 0, 1) := by decide +kernel
theorem dX10_does_37 : decode cX10_does 37 = .ok (.aload_n 0, 1) := by decide +kernel
theorem dX10_does_38 : decode cX10_does 38 = .ok (.getfield 32, 3) := by decide +kernel
theorem dX10_does_41 : decode cX10_does 41 = .ok (.iconst 0, 1) := by decide +kernel
theorem dX10_does_42 : decode cX10_does 42 = .ok (.iaload, 1) := by decide +kernel
theorem dX10_does_43 : decode cX10_does 43 = .ok (.aload_n 0, 1) := by decide +kernel
theorem dX10_does_44 : decode cX10_does 44 = .ok (.getfield 32, 3) := by decide +kernel
theorem dX10_does_47 : decode cX10_does 47 = .ok (.iconst 1, 1) := by decide +kernel
theorem dX10_does_48 : decode cX10_does 48 = .ok (.iaload, 1) := by decide +kernel
theorem dX10_does_49 : decode cX10_does 49 = .ok (.aload_n 0, 1) := by decide +kernel
theorem dX10_does_50 : decode cX10_does 50 = .ok (.getfield 32, 3) := by decide +kernel
theorem dX10_does_53 : decode cX10_does 53 = .ok (.iconst 2, 1) := by decide +kernel
theorem dX10_does_54 : decode cX10_does 54 = .ok (.iaload, 1) := by decide +kernel
theorem dX10_does_55 : decode cX10_does 55 = .ok (.aload_n 0, 1) := by decide +kernel
theorem dX10_does_56 : decode cX10_does 56 = .ok (.getfield 32, 3) := by decide +kernel
theorem dX10_does_59 : decode cX10_does 59 = .ok (.iconst 3, 1) := by decide +kernel
theorem dX10_does_60 : decode cX10_does 60 = .ok (.iaload, 1) := by decide +kernel
theorem dX10_does_61 : decode cX10_does 61 = .ok (.aload_n 0, 1) := by decide +kernel
theorem dX10_does_62 : decode cX10_does 62 = .ok (.getfield 32, 3) := by decide +kernel
theorem dX10_does_65 : decode cX10_does 65 = .ok (.iconst 4, 1) := by decide +kernel
theorem dX10_does_66 : decode cX10_does 66 = .ok (.iaload, 1) := by decide +kernel
theorem dX10_does_67 : decode cX10_does 67 = .ok (.invokevirtual 177, 3) := by decide +kernel
theorem dX10_does_70 : decode cX10_does 70 = .ok (.ireturn, 1) := by decide +kernel
theorem dX10_does_71 : decode cX10_does 71 = .ok (.aload_n 0, 1) := by decide +kernel
theorem dX10_does_72 : decode cX10_does 72 = .ok (.aload_n 0, 1) := by decide +kernel
theorem dX10_does_73 : decode cX10_does 73 = .ok (.getfield 32, 3) := by decide +kernel
theorem dX10_does_76 : decode cX10_does 76 = .ok (.iconst 0, 1) := by decide +kernel
theorem dX10_does_77 : decode cX10_does 77 = .ok (.iaload, 1) := by decide +kernel
theorem dX10_does_78 : decode cX10_does 78 = .ok (.aload_n 0, 1) := by decide +kernel
theorem dX10_does_79 : decode cX10_does 79 = .ok (.getfield 32, 3) := by decide +kernel
theorem dX10_does_82 : decode cX10_does 82 = .ok (.iconst 1, 1) := by decide +kernel
theorem dX10_does_83 : decode cX10_does 83 = .ok (.iaload, 1) := by decide +kernel
theorem dX10_does_84 : decode cX10_does 84 = .ok (.invokevirtual 112, 3) := by decide +kernel
theorem dX10_does_87 : decode cX10_does 87 = .ok (.ireturn, 1) := by decide +kernel
theorem dX10_does_88 : decode cX10_does 88 = .ok (.aload_n 0, 1) := by decide +kernel
theorem dX10_does_89 : decode cX10_does 89 = .ok (.aload_n 0, 1) := by decide +kernel
theorem dX10_does_90 : decode cX10_does 90 = .ok (.getfield 32, 3) := by decide +kernel
theorem dX10_does_93 : decode cX10_does 93 = .ok (.iconst 0, 1) := by decide +kernel
theorem dX10_does_94 : decode cX10_does 94 = .ok (.iaload, 1) := by decide +kernel
theorem dX10_does_95 : decode cX10_does 95 = .ok (.aload_n 0, 1) := by decide +kernel
theorem dX10_does_96 : decode cX10_does 96 = .ok (.getfield 32, 3) := by decide +kernel
theorem dX10_does_99 : decode cX10_does 99 = .ok (.iconst 1, 1) := by decide +kernel
theorem dX10_does_100 : decode cX10_does 100 = .ok (.iaload, 1) := by decide +kernel
theorem dX10_does_101 : decode cX10_does 101 = .ok (.invokevirtual 213, 3) := by decide +kernel
theorem dX10_does_104 : decode cX10_does 104 = .ok (.ireturn, 1) := by decide +kernel
theorem dX10_does_105 : decode cX10_does 105 = .ok (.aload_n 0, 1) := by decide +kernel
theorem dX10_does_106 : decode cX10_does 106 = .ok (.aload_n 0, 1) := by decide +kernel
theorem dX10_does_107 : decode cX10_does 107 = .ok (.getfield 32, 3) := by decide +kernel
theorem dX10_does_110 : decode cX10_does 110 = .ok (.iconst 0, 1) := by decide +kernel
theorem dX10_does_111 : decode cX10_does 111 = .ok (.iaload, 1) := by decide +kernel
theorem dX10_does_112 : decode cX10_does 112 = .ok (.invokevirtual 220, 3) := by decide +kernel
theorem dX10_does_115 : decode cX10_does 115 = .ok (.ireturn, 1) := by decide +kernel
theorem dX10_does_116 : decode cX10_does 116 = .ok (.aload_n 0, 1) := by decide +kernel
theorem dX10_does_117 : decode cX10_does 117 = .ok (.aload_n 0, 1) := by decide +kernel
theorem dX10_does_118 : decode cX10_does 118 = .ok (.getfield 32, 3) := by decide +kernel
theorem dX10_does_121 : decode cX10_does 121 = .ok (.iconst 0, 1) := by decide +kernel
theorem dX10_does_122 : decode cX10_does 122 = .ok (.iaload, 1) := by decide +kernel
theorem dX10_does_123 : decode cX10_does 123 = .ok (.invokevirtual 229, 3) := by decide +kernel
theorem dX10_does_126 : decode cX10_does 126 = .ok (.ireturn, 1) := by decide +kernel
theorem dX10_does_127 : decode cX10_does 127 = .ok (.aload_n 0, 1) := by decide +kernel
theorem dX10_does_128 : decode cX10_does 128 = .ok (.aload_n 0, 1) := by decide +kernel
theorem dX10_does_129 : decode cX10_does 129 = .ok (.getfield 32, 3) := by decide +kernel
theorem dX10_does_132 : decode cX10_does 132 = .ok (.iconst 0, 1) := by decide +kernel
theorem dX10_does_133 : decode cX10_does 133 = .ok (.iaload, 1) := by decide +kernel
theorem dX10_does_134 : decode cX10_does 134 = .ok (.aload_n 0, 1) := by decide +kernel
theorem dX10_does_135 : decode cX10_does 135 = .ok (.getfield 32, 3) := by decide +kernel
theorem dX10_does_138 : decode cX10_does 138 = .ok (.iconst 1, 1) := by decide +kernel
theorem dX10_does_139 : decode cX10_does 139 = .ok (.iaload, 1) := by decide +kernel
theorem dX10_does_140 : decode cX10_does 140 = .ok (.aload_n 0, 1) := by decide +kernel
theorem dX10_does_141 : decode cX10_does 141 = .ok (.getfield 32, 3) := by decide +kernel
theorem dX10_does_144 : decode cX10_does 144 = .ok (.iconst 2, 1) := by decide +kernel
theorem dX10_does_145 : decode cX10_does 145 = .ok (.iaload, 1) := by decide +kernel
theorem dX10_does_146 : decode cX10_does 146 = .ok (.invokevirtual 118, 3) := by decide +kernel
theorem dX10_does_149 : decode cX10_does 149 = .ok (.ireturn, 1) := by decide +kernel
theorem dX10_text_0 : decode cX10_text 0 = .ok (.aload_n 0, 1) := by decide +kernel
theorem dX10_text_1 : decode cX10_text 1 = .ok (.invokevirtual 109, 3) := by decide +kernel
theorem dX10_text_4 : decode cX10_text 4 = .ok (.aload_n 0, 1) := by decide +kernel
theorem dX10_text_5 : decode cX10_text 5 = .ok (.getfield 50, 3) := by decide +kernel
theorem dX10_text_8 : decode cX10_text 8 = .ok (.istore_n 1, 1) := by decide +kernel
theorem dX10_text_9 : decode cX10_text 9 = .ok (.aload_n 0, 1) := by decide +kernel
theorem dX10_text_10 : decode cX10_text 10 = .ok (.iconst 0, 1) := by decide +kernel
theorem dX10_text_11 : decode cX10_text 11 = .ok (.putfield 240, 3) := by decide +kernel
theorem dX10_text_14 : decode cX10_text 14 = .ok (.iconst 0, 1) := by decide +kernel
theorem dX10_text_15 : decode cX10_text 15 = .ok (.istore_n 2, 1) := by decide +kernel
theorem dX10_text_16 : decode cX10_text 16 = .ok (.iconst (-1), 1) := by decide +kernel
theorem dX10_text_17 : decode cX10_text 17 = .ok (.istore_n 3, 1) := by decide +kernel
theorem dX10_text_18 : decode cX10_text 18 = .ok (.iconst 1, 1) := by decide +kernel
theorem dX10_text_19 : decode cX10_text 19 = .ok (.istore 4, 2) := by decide +kernel
theorem dX10_text_21 : decode cX10_text 21 = .ok (.iload 4, 2) := by decide +kernel
theorem dX10_text_23 : decode cX10_text 23 = .ok (.ifCond .eq 93, 3) := by decide +kernel
theorem dX10_text_26 : decode cX10_text 26 = .ok (.aload_n 0, 1) := by decide +kernel
theorem dX10_text_27 : decode cX10_text 27 = .ok (.getfield 240, 3) := by decide +kernel
theorem dX10_text_30 : decode cX10_text 30 = .ok (.istore 5, 2) := by decide +kernel
theorem dX10_text_32 : decode cX10_text 32 = .ok (.aload_n 0, 1) := by decide +kernel
theorem dX10_text_33 : decode cX10_text 33 = .ok (.invokevirtual 259, 3) := by decide +kernel
theorem dX10_text_36 : decode cX10_text 36 = .ok (.istore 6, 2) := by decide +kernel
theorem dX10_text_38 : decode cX10_text 38 = .ok (.iload 6, 2) := by decide +kernel
theorem dX10_text_40 : decode cX10_text 40 = .ok (.ifCond .lt 12, 3) := by decide +kernel
theorem dX10_text_43 : decode cX10_text 43 = .ok (.aload_n 0, 1) := by decide +kernel
theorem dX10_text_44 : decode cX10_text 44 = .ok (.iload 6, 2) := by decide +kernel
theorem dX10_text_46 : decode cX10_text 46 = .ok (.invokevirtual 262, 3) := by decide +kernel
theorem dX10_text_49 : decode cX10_text 49 = .ok (.ifCond .ne 27, 3) := by decide +kernel
theorem dX10_text_52 : decode cX10_text 52 = .ok (.aload_n 0, 1) := by decide +kernel
theorem dX10_text_53 : decode cX10_text 53 = .ok (.iload_n 1, 1) := by decide +kernel
theorem dX10_text_54 : decode cX10_text 54 = .ok (.putfield 50, 3) := by decide +kernel
theorem dX10_text_57 : decode cX10_text 57 = .ok (.aload_n 0, 1) := by decide +kernel
theorem dX10_text_58 : decode cX10_text 58 = .ok (.aload_n 0, 1) := by decide +kernel
theorem dX10_text_59 : decode cX10_text 59 = .ok (.getfield 240, 3) := by decide +kernel
theorem dX10_text_62 : decode cX10_text 62 = .ok (.putfield 25, 3) := by decide +kernel
theorem dX10_text_65 : decode cX10_text 65 = .ok (.aload_n 0, 1) := by decide +kernel
theorem dX10_text_66 : decode cX10_text 66 = .ok (.iconst 0, 1) := by decide +kernel
theorem dX10_text_67 : decode cX10_text 67 = .ok (.putfield 232, 3) := by decide +kernel
theorem dX10_text_70 : decode cX10_text 70 = .ok (.aload_n 0, 1) := by decide +kernel
theorem dX10_text_71 : decode cX10_text 71 = .ok (.iconst 1, 1) := by decide +kernel
theorem dX10_text_72 : decode cX10_text 72 = .ok (.invokevirtual 115, 3) := by decide +kernel
theorem dX10_text_75 : decode cX10_text 75 = .ok (.ireturn, 1) := by decide +kernel
theorem dX10_text_76 : decode cX10_text 76 = .ok (.iload_n 3, 1) := by decide +kernel
theorem dX10_text_77 : decode cX10_text 77 = .ok (.ifCond .ge 15, 3) := by decide +kernel
theorem dX10_text_80 : decode cX10_text 80 = .ok (.aload_n 0, 1) := by decide +kernel
theorem dX10_text_81 : decode cX10_text 81 = .ok (.iload 6, 2) := by decide +kernel
theorem dX10_text_83 : decode cX10_text 83 = .ok (.invokevirtual 265, 3) := by decide +kernel
theorem dX10_text_86 : decode cX10_text 86 = .ok (.ifCond .le 6, 3) := by decide +kernel
theorem dX10_text_89 : decode cX10_text 89 = .ok (.iload 5, 2) := by decide +kernel
theorem dX10_text_91 : decode cX10_text 91 = .ok (.istore_n 3, 1) := by decide +kernel
theorem dX10_text_92 : decode cX10_text 92 = .ok (.iinc 2 1, 3) := by decide +kernel
theorem dX10_text_95 : decode cX10_text 95 = .ok (.aload_n 0, 1) := by decide +kernel
theorem dX10_text_96 : decode cX10_text 96 = .ok (.getfield 240, 3) := by decide +kernel
theorem dX10_text_99 : decode cX10_text 99 = .ok (.aload_n 0, 1) := by decide +kernel
theorem dX10_text_100 : decode cX10_text 100 = .ok (.getfield 232, 3) := by decide +kernel
theorem dX10_text_103 : decode cX10_text 103 = .ok (.if_icmp .ge 7, 3) := by decide +kernel
theorem dX10_text_106 : decode cX10_text 106 = .ok (.iconst 1, 1) := by decide +kernel
theorem dX10_text_107 : decode cX10_text 107 = .ok (.goto 4, 3) := by decide +kernel
theorem dX10_text_110 : decode cX10_text 110 = .ok (.iconst 0, 1) := by decide +kernel
theorem dX10_text_111 : decode cX10_text 111 = .ok (.istore 4, 2) := by decide +kernel
theorem dX10_text_113 : decode cX10_text 113 = .ok (.goto (-92), 3) := by decide +kernel
theorem dX10_text_116 : decode cX10_text 116 = .ok (.aload_n 0, 1) := by decide +kernel
theorem dX10_text_117 : decode cX10_text 117 = .ok (.iload_n 3, 1) := by decide +kernel
theorem dX10_text_118 : decode cX10_text 118 = .ok (.putfield 25, 3) := by decide +kernel
theorem dX10_text_121 : decode cX10_text 121 = .ok (.aload_n 0, 1) := by decide +kernel
theorem dX10_text_122 : decode cX10_text 122 = .ok (.iconst 0, 1) := by decide +kernel
theorem dX10_text_123 : decode cX10_text 123 = .ok (.putfield 232, 3) := by decide +kernel
theorem dX10_text_126 : decode cX10_text 126 = .ok (.aload_n 0, 1) := by decide +kernel
theorem dX10_text_127 : decode cX10_text 127 = .ok (.iload_n 2, 1) := by decide +kernel
theorem dX10_text_128 : decode cX10_text 128 = .ok (.putfield 102, 3) := by decide +kernel
theorem dX10_text_131 : decode cX10_text 131 = .ok (.aload_n 0, 1) := by decide +kernel
theorem dX10_text_132 : decode cX10_text 132 = .ok (.iload_n 3, 1) := by decide +kernel
theorem dX10_text_133 : decode cX10_text 133 = .ok (.ifCond .ge 7, 3) := by decide +kernel
theorem dX10_text_136 : decode cX10_text 136 = .ok (.iconst 0, 1) := by decide +kernel
theorem dX10_text_137 : decode cX10_text 137 = .ok (.goto 4, 3) := by decide +kernel
theorem dX10_text_140 : decode cX10_text 140 = .ok (.iconst 2, 1) := by decide +kernel
theorem dX10_text_141 : decode cX10_text 141 = .ok (.invokevirtual 115, 3) := by decide +kernel
theorem dX10_text_144 : decode cX10_text 144 = .ok (.ireturn, 1) := by decide +kernel
theorem dX10_errorPosition_0 : decode cX10_errorPosition 0 = .ok (.aload_n 0, 1) := by decide +kernel
theorem dX10_errorPosition_1 : decode cX10_errorPosition 1 = .ok (.iconst 0, 1) := by decide +kernel
theorem dX10_errorPosition_2 : decode cX10_errorPosition 2 = .ok (.putfield 47, 3) := by decide +kernel
theorem dX10_errorPosition_5 : decode cX10_errorPosition 5 = .ok (.aload_n 0, 1) := by decide +kernel
theorem dX10_errorPosition_6 : decode cX10_errorPosition 6 = .ok (.getfield 25, 3) := by decide +kernel
theorem dX10_errorPosition_9 : decode cX10_errorPosition 9 = .ok (.ireturn, 1) := by decide +kernel
theorem dX10_writes_0 : decode cX10_writes 0 = .ok (.iconst 0, 1) := by decide +kernel
theorem dX10_writes_1 : decode cX10_writes 1 = .ok (.istore_n 2, 1) := by decide +kernel
theorem dX10_writes_2 : decode cX10_writes 2 = .ok (.iload_n 2, 1) := by decide +kernel
theorem dX10_writes_3 : decode cX10_writes 3 = .ok (.aload_n 1, 1) := by decide +kernel
theorem dX10_writes_4 : decode cX10_writes 4 = .ok (.invokevirtual 268, 3) := by decide +kernel
theorem dX10_writes_7 : decode cX10_writes 7 = .ok (.if_icmp .ge 30, 3) := by decide +kernel
theorem dX10_writes_10 : decode cX10_writes 10 = .ok (.aload_n 0, 1) := by decide +kernel
theorem dX10_writes_11 : decode cX10_writes 11 = .ok (.getfield 29, 3) := by decide +kernel
theorem dX10_writes_14 : decode cX10_writes 14 = .ok (.aload_n 0, 1) := by decide +kernel
theorem dX10_writes_15 : decode cX10_writes 15 = .ok (.dup, 1) := by decide +kernel
theorem dX10_writes_16 : decode cX10_writes 16 = .ok (.getfield 270, 3) := by decide +kernel
theorem dX10_writes_19 : decode cX10_writes 19 = .ok (.dup_x1, 1) := by decide +kernel
theorem dX10_writes_20 : decode cX10_writes 20 = .ok (.iconst 1, 1) := by decide +kernel
theorem dX10_writes_21 : decode cX10_writes 21 = .ok (.iadd, 1) := by decide +kernel
theorem dX10_writes_22 : decode cX10_writes 22 = .ok (.putfield 270, 3) := by decide +kernel
theorem dX10_writes_25 : decode cX10_writes 25 = .ok (.aload_n 1, 1) := by decide +kernel
theorem dX10_writes_26 : decode cX10_writes 26 = .ok (.iload_n 2, 1) := by decide +kernel
theorem dX10_writes_27 : decode cX10_writes 27 = .ok (.invokevirtual 247, 3) := by decide +kernel
theorem dX10_writes_30 : decode cX10_writes 30 = .ok (.iastore, 1) := by decide +kernel
theorem dX10_writes_31 : decode cX10_writes 31 = .ok (.iinc 2 1, 3) := by decide +kernel
theorem dX10_writes_34 : decode cX10_writes 34 = .ok (.goto (-32), 3) := by decide +kernel
theorem dX10_writes_37 : decode cX10_writes 37 = .ok (.return_, 1) := by decide +kernel
theorem dX10_writes__0 : decode cX10_writes_ 0 = .ok (.iload_n 1, 1) := by decide +kernel
theorem dX10_writes__1 : decode cX10_writes_ 1 = .ok (.bipush 9, 2) := by decide +kernel
theorem dX10_writes__3 : decode cX10_writes_ 3 = .ok (.if_icmp .le 11, 3) := by decide +kernel
theorem dX10_writes__6 : decode cX10_writes_ 6 = .ok (.aload_n 0, 1) := by decide +kernel
theorem dX10_writes__7 : decode cX10_writes_ 7 = .ok (.iload_n 1, 1) := by decide +kernel
theorem dX10_writes__8 : decode cX10_writes_ 8 = .ok (.bipush 10, 2) := by decide +kernel
theorem dX10_writes__10 : decode cX10_writes_ 10 = .ok (.idiv, 1) := by decide +kernel
theorem dX10_writes__11 : decode cX10_writes_ 11 = .ok (.invokevirtual 273, 3) := by decide +kernel
theorem dX10_writes__14 : decode cX10_writes_ 14 = .ok (.aload_n 0, 1) := by decide +kernel
theorem dX10_writes__15 : decode cX10_writes_ 15 = .ok (.getfield 29, 3) := by decide +kernel
theorem dX10_writes__18 : decode cX10_writes_ 18 = .ok (.aload_n 0, 1) := by decide +kernel
theorem dX10_writes__19 : decode cX10_writes_ 19 = .ok (.dup, 1) := by decide +kernel
theorem dX10_writes__20 : decode cX10_writes_ 20 = .ok (.getfield 270, 3) := by decide +kernel
theorem dX10_writes__23 : decode cX10_writes_ 23 = .ok (.dup_x1, 1) := by decide +kernel
theorem dX10_writes__24 : decode cX10_writes_ 24 = .ok (.iconst 1, 1) := by decide +kernel
theorem dX10_writes__25 : decode cX10_writes_ 25 = .ok (.iadd, 1) := by decide +kernel
theorem dX10_writes__26 : decode cX10_writes_ 26 = .ok (.putfield 270, 3) := by decide +kernel
theorem dX10_writes__29 : decode cX10_writes_ 29 = .ok (.bipush 48, 2) := by decide +kernel
theorem dX10_writes__31 : decode cX10_writes_ 31 = .ok (.iload_n 1, 1) := by decide +kernel
theorem dX10_writes__32 : decode cX10_writes_ 32 = .ok (.bipush 10, 2) := by decide +kernel
theorem dX10_writes__34 : decode cX10_writes_ 34 = .ok (.irem, 1) := by decide +kernel
theorem dX10_writes__35 : decode cX10_writes_ 35 = .ok (.iadd, 1) := by decide +kernel
theorem dX10_writes__36 : decode cX10_writes_ 36 = .ok (.iastore, 1) := by decide +kernel
theorem dX10_writes__37 : decode cX10_writes_ 37 = .ok (.return_, 1) := by decide +kernel
theorem dX10_lists_0 : decode cX10_lists 0 = .ok (.aload_n 0, 1) := by decide +kernel
theorem dX10_lists_1 : decode cX10_lists 1 = .ok (.ldc_w 277, 3) := by decide +kernel
theorem dX10_lists_4 : decode cX10_lists 4 = .ok (.invokevirtual 279, 3) := by decide +kernel
theorem dX10_lists_7 : decode cX10_lists 7 = .ok (.iload_n 2, 1) := by decide +kernel
theorem dX10_lists_8 : decode cX10_lists 8 = .ok (.ifCond .ne 10, 3) := by decide +kernel
theorem dX10_lists_11 : decode cX10_lists 11 = .ok (.aload_n 0, 1) := by decide +kernel
theorem dX10_lists_12 : decode cX10_lists 12 = .ok (.ldc_w 282, 3) := by decide +kernel
theorem dX10_lists_15 : decode cX10_lists 15 = .ok (.invokevirtual 279, 3) := by decide +kernel
theorem dX10_lists_18 : decode cX10_lists 18 = .ok (.aload_n 0, 1) := by decide +kernel
theorem dX10_lists_19 : decode cX10_lists 19 = .ok (.aload_n 3, 1) := by decide +kernel
theorem dX10_lists_20 : decode cX10_lists 20 = .ok (.invokevirtual 279, 3) := by decide +kernel
theorem dX10_lists_23 : decode cX10_lists 23 = .ok (.iconst 0, 1) := by decide +kernel
theorem dX10_lists_24 : decode cX10_lists 24 = .ok (.istore 4, 2) := by decide +kernel
theorem dX10_lists_26 : decode cX10_lists 26 = .ok (.iload 4, 2) := by decide +kernel
theorem dX10_lists_28 : decode cX10_lists 28 = .ok (.iload_n 1, 1) := by decide +kernel
theorem dX10_lists_29 : decode cX10_lists 29 = .ok (.if_icmp .ge 34, 3) := by decide +kernel
theorem dX10_lists_32 : decode cX10_lists 32 = .ok (.iload_n 2, 1) := by decide +kernel
theorem dX10_lists_33 : decode cX10_lists 33 = .ok (.iload 4, 2) := by decide +kernel
theorem dX10_lists_35 : decode cX10_lists 35 = .ok (.ishr, 1) := by decide +kernel
theorem dX10_lists_36 : decode cX10_lists 36 = .ok (.iconst 1, 1) := by decide +kernel
theorem dX10_lists_37 : decode cX10_lists 37 = .ok (.iand, 1) := by decide +kernel
theorem dX10_lists_38 : decode cX10_lists 38 = .ok (.ifCond .ne 6, 3) := by decide +kernel
theorem dX10_lists_41 : decode cX10_lists 41 = .ok (.goto 16, 3) := by decide +kernel
theorem dX10_lists_44 : decode cX10_lists 44 = .ok (.aload_n 0, 1) := by decide +kernel
theorem dX10_lists_45 : decode cX10_lists 45 = .ok (.ldc_w 284, 3) := by decide +kernel
theorem dX10_lists_48 : decode cX10_lists 48 = .ok (.invokevirtual 279, 3) := by decide +kernel
theorem dX10_lists_51 : decode cX10_lists 51 = .ok (.aload_n 0, 1) := by decide +kernel
theorem dX10_lists_52 : decode cX10_lists 52 = .ok (.iload 4, 2) := by decide +kernel
theorem dX10_lists_54 : decode cX10_lists 54 = .ok (.invokevirtual 273, 3) := by decide +kernel
theorem dX10_lists_57 : decode cX10_lists 57 = .ok (.iinc 4 1, 3) := by decide +kernel
theorem dX10_lists_60 : decode cX10_lists 60 = .ok (.goto (-34), 3) := by decide +kernel
theorem dX10_lists_63 : decode cX10_lists 63 = .ok (.return_, 1) := by decide +kernel
theorem dX10_report_0 : decode cX10_report 0 = .ok (.aload_n 0, 1) := by decide +kernel
theorem dX10_report_1 : decode cX10_report 1 = .ok (.iconst 0, 1) := by decide +kernel
theorem dX10_report_2 : decode cX10_report 2 = .ok (.putfield 47, 3) := by decide +kernel
theorem dX10_report_5 : decode cX10_report 5 = .ok (.aload_n 0, 1) := by decide +kernel
theorem dX10_report_6 : decode cX10_report 6 = .ok (.iload_n 1, 1) := by decide +kernel
theorem dX10_report_7 : decode cX10_report 7 = .ok (.invokevirtual 74, 3) := by decide +kernel
theorem dX10_report_10 : decode cX10_report 10 = .ok (.ifCond .ne 9, 3) := by decide +kernel
theorem dX10_report_13 : decode cX10_report 13 = .ok (.aload_n 0, 1) := by decide +kernel
theorem dX10_report_14 : decode cX10_report 14 = .ok (.iconst 1, 1) := by decide +kernel
theorem dX10_report_15 : decode cX10_report 15 = .ok (.invokevirtual 53, 3) := by decide +kernel
theorem dX10_report_18 : decode cX10_report 18 = .ok (.ireturn, 1) := by decide +kernel
theorem dX10_report_19 : decode cX10_report 19 = .ok (.aload_n 0, 1) := by decide +kernel
theorem dX10_report_20 : decode cX10_report 20 = .ok (.iconst 0, 1) := by decide +kernel
theorem dX10_report_21 : decode cX10_report 21 = .ok (.putfield 270, 3) := by decide +kernel
theorem dX10_report_24 : decode cX10_report 24 = .ok (.aload_n 0, 1) := by decide +kernel
theorem dX10_report_25 : decode cX10_report 25 = .ok (.ldc_w 286, 3) := by decide +kernel
theorem dX10_report_28 : decode cX10_report 28 = .ok (.invokevirtual 279, 3) := by decide +kernel
theorem dX10_report_31 : decode cX10_report 31 = .ok (.aload_n 0, 1) := by decide +kernel
theorem dX10_report_32 : decode cX10_report 32 = .ok (.iload_n 1, 1) := by decide +kernel
theorem dX10_report_33 : decode cX10_report 33 = .ok (.invokevirtual 273, 3) := by decide +kernel
theorem dX10_report_36 : decode cX10_report 36 = .ok (.aload_n 0, 1) := by decide +kernel
theorem dX10_report_37 : decode cX10_report 37 = .ok (.ldc_w 288, 3) := by decide +kernel
theorem dX10_report_40 : decode cX10_report 40 = .ok (.invokevirtual 279, 3) := by decide +kernel
theorem dX10_report_43 : decode cX10_report 43 = .ok (.aload_n 0, 1) := by decide +kernel
theorem dX10_report_44 : decode cX10_report 44 = .ok (.aload_n 0, 1) := by decide +kernel
theorem dX10_report_45 : decode cX10_report 45 = .ok (.iload_n 1, 1) := by decide +kernel
theorem dX10_report_46 : decode cX10_report 46 = .ok (.iconst 0, 1) := by decide +kernel
theorem dX10_report_47 : decode cX10_report 47 = .ok (.invokevirtual 78, 3) := by decide +kernel
theorem dX10_report_50 : decode cX10_report 50 = .ok (.invokevirtual 273, 3) := by decide +kernel
theorem dX10_report_53 : decode cX10_report 53 = .ok (.aload_n 0, 1) := by decide +kernel
theorem dX10_report_54 : decode cX10_report 54 = .ok (.ldc_w 290, 3) := by decide +kernel
theorem dX10_report_57 : decode cX10_report 57 = .ok (.invokevirtual 279, 3) := by decide +kernel
theorem dX10_report_60 : decode cX10_report 60 = .ok (.aload_n 0, 1) := by decide +kernel
theorem dX10_report_61 : decode cX10_report 61 = .ok (.aload_n 0, 1) := by decide +kernel
theorem dX10_report_62 : decode cX10_report 62 = .ok (.iload_n 1, 1) := by decide +kernel
theorem dX10_report_63 : decode cX10_report 63 = .ok (.iconst 3, 1) := by decide +kernel
theorem dX10_report_64 : decode cX10_report 64 = .ok (.invokevirtual 78, 3) := by decide +kernel
theorem dX10_report_67 : decode cX10_report 67 = .ok (.invokevirtual 273, 3) := by decide +kernel
theorem dX10_report_70 : decode cX10_report 70 = .ok (.aload_n 0, 1) := by decide +kernel
theorem dX10_report_71 : decode cX10_report 71 = .ok (.ldc_w 292, 3) := by decide +kernel
theorem dX10_report_74 : decode cX10_report 74 = .ok (.invokevirtual 279, 3) := by decide +kernel
theorem dX10_report_77 : decode cX10_report 77 = .ok (.aload_n 0, 1) := by decide +kernel
theorem dX10_report_78 : decode cX10_report 78 = .ok (.aload_n 0, 1) := by decide +kernel
theorem dX10_report_79 : decode cX10_report 79 = .ok (.iload_n 1, 1) := by decide +kernel
theorem dX10_report_80 : decode cX10_report 80 = .ok (.aload_n 0, 1) := by decide +kernel
theorem dX10_report_81 : decode cX10_report 81 = .ok (.getfield 9, 3) := by decide +kernel
theorem dX10_report_84 : decode cX10_report 84 = .ok (.iconst 3, 1) := by decide +kernel
theorem dX10_report_85 : decode cX10_report 85 = .ok (.iaload, 1) := by decide +kernel
theorem dX10_report_86 : decode cX10_report 86 = .ok (.invokevirtual 124, 3) := by decide +kernel
theorem dX10_report_89 : decode cX10_report 89 = .ok (.invokevirtual 273, 3) := by decide +kernel
theorem dX10_report_92 : decode cX10_report 92 = .ok (.aload_n 0, 1) := by decide +kernel
theorem dX10_report_93 : decode cX10_report 93 = .ok (.iload_n 1, 1) := by decide +kernel
theorem dX10_report_94 : decode cX10_report 94 = .ok (.aload_n 0, 1) := by decide +kernel
theorem dX10_report_95 : decode cX10_report 95 = .ok (.iload_n 1, 1) := by decide +kernel
theorem dX10_report_96 : decode cX10_report 96 = .ok (.iconst 3, 1) := by decide +kernel
theorem dX10_report_97 : decode cX10_report 97 = .ok (.invokevirtual 78, 3) := by decide +kernel
theorem dX10_report_100 : decode cX10_report 100 = .ok (.aload_n 0, 1) := by decide +kernel
theorem dX10_report_101 : decode cX10_report 101 = .ok (.iload_n 1, 1) := by decide +kernel
theorem dX10_report_102 : decode cX10_report 102 = .ok (.aload_n 0, 1) := by decide +kernel
theorem dX10_report_103 : decode cX10_report 103 = .ok (.getfield 9, 3) := by decide +kernel
theorem dX10_report_106 : decode cX10_report 106 = .ok (.iconst 3, 1) := by decide +kernel
theorem dX10_report_107 : decode cX10_report 107 = .ok (.iaload, 1) := by decide +kernel
theorem dX10_report_108 : decode cX10_report 108 = .ok (.invokevirtual 124, 3) := by decide +kernel
theorem dX10_report_111 : decode cX10_report 111 = .ok (.invokevirtual 188, 3) := by decide +kernel
theorem dX10_report_114 : decode cX10_report 114 = .ok (.istore_n 2, 1) := by decide +kernel
theorem dX10_report_115 : decode cX10_report 115 = .ok (.aload_n 0, 1) := by decide +kernel
theorem dX10_report_116 : decode cX10_report 116 = .ok (.aload_n 0, 1) := by decide +kernel
theorem dX10_report_117 : decode cX10_report 117 = .ok (.iload_n 1, 1) := by decide +kernel
theorem dX10_report_118 : decode cX10_report 118 = .ok (.iconst 2, 1) := by decide +kernel
theorem dX10_report_119 : decode cX10_report 119 = .ok (.invokevirtual 78, 3) := by decide +kernel
theorem dX10_report_122 : decode cX10_report 122 = .ok (.iload_n 2, 1) := by decide +kernel
theorem dX10_report_123 : decode cX10_report 123 = .ok (.ldc_w 294, 3) := by decide +kernel
theorem dX10_report_126 : decode cX10_report 126 = .ok (.invokevirtual 296, 3) := by decide +kernel
theorem dX10_report_129 : decode cX10_report 129 = .ok (.aload_n 0, 1) := by decide +kernel
theorem dX10_report_130 : decode cX10_report 130 = .ok (.aload_n 0, 1) := by decide +kernel
theorem dX10_report_131 : decode cX10_report 131 = .ok (.iload_n 1, 1) := by decide +kernel
theorem dX10_report_132 : decode cX10_report 132 = .ok (.iconst 2, 1) := by decide +kernel
theorem dX10_report_133 : decode cX10_report 133 = .ok (.invokevirtual 78, 3) := by decide +kernel
theorem dX10_report_136 : decode cX10_report 136 = .ok (.iconst 1, 1) := by decide +kernel
theorem dX10_report_137 : decode cX10_report 137 = .ok (.aload_n 0, 1) := by decide +kernel
theorem dX10_report_138 : decode cX10_report 138 = .ok (.iload_n 1, 1) := by decide +kernel
theorem dX10_report_139 : decode cX10_report 139 = .ok (.iconst 2, 1) := by decide +kernel
theorem dX10_report_140 : decode cX10_report 140 = .ok (.invokevirtual 78, 3) := by decide +kernel
theorem dX10_report_143 : decode cX10_report 143 = .ok (.ishl, 1) := by decide +kernel
theorem dX10_report_144 : decode cX10_report 144 = .ok (.iconst 1, 1) := by decide +kernel
theorem dX10_report_145 : decode cX10_report 145 = .ok (.isub, 1) := by decide +kernel
theorem dX10_report_146 : decode cX10_report 146 = .ok (.iload_n 2, 1) := by decide +kernel
theorem dX10_report_147 : decode cX10_report 147 = .ok (.iconst (-1), 1) := by decide +kernel
theorem dX10_report_148 : decode cX10_report 148 = .ok (.ixor, 1) := by decide +kernel
theorem dX10_report_149 : decode cX10_report 149 = .ok (.iand, 1) := by decide +kernel
theorem dX10_report_150 : decode cX10_report 150 = .ok (.ldc_w 300, 3) := by decide +kernel
theorem dX10_report_153 : decode cX10_report 153 = .ok (.invokevirtual 296, 3) := by decide +kernel
theorem dX10_report_156 : decode cX10_report 156 = .ok (.aload_n 0, 1) := by decide +kernel
theorem dX10_report_157 : decode cX10_report 157 = .ok (.getfield 270, 3) := by decide +kernel
theorem dX10_report_160 : decode cX10_report 160 = .ok (.ireturn, 1) := by decide +kernel
theorem dX10_character_0 : decode cX10_character 0 = .ok (.aload_n 0, 1) := by decide +kernel
theorem dX10_character_1 : decode cX10_character 1 = .ok (.iload_n 1, 1) := by decide +kernel
theorem dX10_character_2 : decode cX10_character 2 = .ok (.iconst 0, 1) := by decide +kernel
theorem dX10_character_3 : decode cX10_character 3 = .ok (.aload_n 0, 1) := by decide +kernel
theorem dX10_character_4 : decode cX10_character 4 = .ok (.getfield 270, 3) := by decide +kernel
theorem dX10_character_7 : decode cX10_character 7 = .ok (.iconst 1, 1) := by decide +kernel
theorem dX10_character_8 : decode cX10_character 8 = .ok (.isub, 1) := by decide +kernel
theorem dX10_character_9 : decode cX10_character 9 = .ok (.invokestatic 70, 3) := by decide +kernel
theorem dX10_character_12 : decode cX10_character 12 = .ok (.ifCond .eq 7, 3) := by decide +kernel
theorem dX10_character_15 : decode cX10_character 15 = .ok (.iconst 0, 1) := by decide +kernel
theorem dX10_character_16 : decode cX10_character 16 = .ok (.goto 4, 3) := by decide +kernel
theorem dX10_character_19 : decode cX10_character 19 = .ok (.iconst 1, 1) := by decide +kernel
theorem dX10_character_20 : decode cX10_character 20 = .ok (.putfield 47, 3) := by decide +kernel
theorem dX10_character_23 : decode cX10_character 23 = .ok (.aload_n 0, 1) := by decide +kernel
theorem dX10_character_24 : decode cX10_character 24 = .ok (.getfield 47, 3) := by decide +kernel
theorem dX10_character_27 : decode cX10_character 27 = .ok (.ifCond .le 7, 3) := by decide +kernel
theorem dX10_character_30 : decode cX10_character 30 = .ok (.iconst 0, 1) := by decide +kernel
theorem dX10_character_31 : decode cX10_character 31 = .ok (.goto 10, 3) := by decide +kernel
theorem dX10_character_34 : decode cX10_character 34 = .ok (.aload_n 0, 1) := by decide +kernel
theorem dX10_character_35 : decode cX10_character 35 = .ok (.getfield 29, 3) := by decide +kernel
theorem dX10_character_38 : decode cX10_character 38 = .ok (.iload_n 1, 1) := by decide +kernel
theorem dX10_character_39 : decode cX10_character 39 = .ok (.iaload, 1) := by decide +kernel
theorem dX10_character_40 : decode cX10_character 40 = .ok (.i2c, 1) := by decide +kernel
theorem dX10_character_41 : decode cX10_character 41 = .ok (.ireturn, 1) := by decide +kernel
theorem dX10_undo_0 : decode cX10_undo 0 = .ok (.aload_n 0, 1) := by decide +kernel
theorem dX10_undo_1 : decode cX10_undo 1 = .ok (.iconst 0, 1) := by decide +kernel
theorem dX10_undo_2 : decode cX10_undo 2 = .ok (.putfield 47, 3) := by decide +kernel
theorem dX10_undo_5 : decode cX10_undo 5 = .ok (.aload_n 0, 1) := by decide +kernel
theorem dX10_undo_6 : decode cX10_undo 6 = .ok (.getfield 57, 3) := by decide +kernel
theorem dX10_undo_9 : decode cX10_undo 9 = .ok (.ifCond .ne 9, 3) := by decide +kernel
theorem dX10_undo_12 : decode cX10_undo 12 = .ok (.aload_n 0, 1) := by decide +kernel
theorem dX10_undo_13 : decode cX10_undo 13 = .ok (.iconst 1, 1) := by decide +kernel
theorem dX10_undo_14 : decode cX10_undo 14 = .ok (.invokevirtual 53, 3) := by decide +kernel
theorem dX10_undo_17 : decode cX10_undo 17 = .ok (.ireturn, 1) := by decide +kernel
theorem dX10_undo_18 : decode cX10_undo 18 = .ok (.aload_n 0, 1) := by decide +kernel
theorem dX10_undo_19 : decode cX10_undo 19 = .ok (.dup, 1) := by decide +kernel
theorem dX10_undo_20 : decode cX10_undo 20 = .ok (.getfield 57, 3) := by decide +kernel
theorem dX10_undo_23 : decode cX10_undo 23 = .ok (.iconst 1, 1) := by decide +kernel
theorem dX10_undo_24 : decode cX10_undo 24 = .ok (.isub, 1) := by decide +kernel
theorem dX10_undo_25 : decode cX10_undo 25 = .ok (.putfield 57, 3) := by decide +kernel
theorem dX10_undo_28 : decode cX10_undo 28 = .ok (.iconst 0, 1) := by decide +kernel
theorem dX10_undo_29 : decode cX10_undo 29 = .ok (.istore_n 1, 1) := by decide +kernel
theorem dX10_undo_30 : decode cX10_undo 30 = .ok (.iload_n 1, 1) := by decide +kernel
theorem dX10_undo_31 : decode cX10_undo 31 = .ok (.sipush 490, 3) := by decide +kernel
theorem dX10_undo_34 : decode cX10_undo 34 = .ok (.if_icmp .ge 30, 3) := by decide +kernel
theorem dX10_undo_37 : decode cX10_undo 37 = .ok (.aload_n 0, 1) := by decide +kernel
theorem dX10_undo_38 : decode cX10_undo 38 = .ok (.getfield 9, 3) := by decide +kernel
theorem dX10_undo_41 : decode cX10_undo 41 = .ok (.iload_n 1, 1) := by decide +kernel
theorem dX10_undo_42 : decode cX10_undo 42 = .ok (.aload_n 0, 1) := by decide +kernel
theorem dX10_undo_43 : decode cX10_undo 43 = .ok (.getfield 13, 3) := by decide +kernel
theorem dX10_undo_46 : decode cX10_undo 46 = .ok (.sipush 490, 3) := by decide +kernel
theorem dX10_undo_49 : decode cX10_undo 49 = .ok (.aload_n 0, 1) := by decide +kernel
theorem dX10_undo_50 : decode cX10_undo 50 = .ok (.getfield 57, 3) := by decide +kernel
theorem dX10_undo_53 : decode cX10_undo 53 = .ok (.imul, 1) := by decide +kernel
theorem dX10_undo_54 : decode cX10_undo 54 = .ok (.iload_n 1, 1) := by decide +kernel
theorem dX10_undo_55 : decode cX10_undo 55 = .ok (.iadd, 1) := by decide +kernel
theorem dX10_undo_56 : decode cX10_undo 56 = .ok (.iaload, 1) := by decide +kernel
theorem dX10_undo_57 : decode cX10_undo 57 = .ok (.iastore, 1) := by decide +kernel
theorem dX10_undo_58 : decode cX10_undo 58 = .ok (.iinc 1 1, 3) := by decide +kernel
theorem dX10_undo_61 : decode cX10_undo 61 = .ok (.goto (-31), 3) := by decide +kernel
theorem dX10_undo_64 : decode cX10_undo 64 = .ok (.aload_n 0, 1) := by decide +kernel
theorem dX10_undo_65 : decode cX10_undo 65 = .ok (.getfield 57, 3) := by decide +kernel
theorem dX10_undo_68 : decode cX10_undo 68 = .ok (.ireturn, 1) := by decide +kernel
theorem dX10_save_0 : decode cX10_save 0 = .ok (.aload_n 0, 1) := by decide +kernel
theorem dX10_save_1 : decode cX10_save 1 = .ok (.iconst 0, 1) := by decide +kernel
theorem dX10_save_2 : decode cX10_save 2 = .ok (.putfield 47, 3) := by decide +kernel
theorem dX10_save_5 : decode cX10_save 5 = .ok (.aload_n 0, 1) := by decide +kernel
theorem dX10_save_6 : decode cX10_save 6 = .ok (.iconst 1, 1) := by decide +kernel
theorem dX10_save_7 : decode cX10_save 7 = .ok (.putfield 302, 3) := by decide +kernel
theorem dX10_save_10 : decode cX10_save 10 = .ok (.iconst 0, 1) := by decide +kernel
theorem dX10_save_11 : decode cX10_save 11 = .ok (.istore_n 1, 1) := by decide +kernel
theorem dX10_save_12 : decode cX10_save 12 = .ok (.iload_n 1, 1) := by decide +kernel
theorem dX10_save_13 : decode cX10_save 13 = .ok (.sipush 490, 3) := by decide +kernel
theorem dX10_save_16 : decode cX10_save 16 = .ok (.if_icmp .ge 21, 3) := by decide +kernel
theorem dX10_save_19 : decode cX10_save 19 = .ok (.aload_n 0, 1) := by decide +kernel
theorem dX10_save_20 : decode cX10_save 20 = .ok (.getfield 16, 3) := by decide +kernel
theorem dX10_save_23 : decode cX10_save 23 = .ok (.iload_n 1, 1) := by decide +kernel
theorem dX10_save_24 : decode cX10_save 24 = .ok (.aload_n 0, 1) := by decide +kernel
theorem dX10_save_25 : decode cX10_save 25 = .ok (.getfield 9, 3) := by decide +kernel
theorem dX10_save_28 : decode cX10_save 28 = .ok (.iload_n 1, 1) := by decide +kernel
theorem dX10_save_29 : decode cX10_save 29 = .ok (.iaload, 1) := by decide +kernel
theorem dX10_save_30 : decode cX10_save 30 = .ok (.iastore, 1) := by decide +kernel
theorem dX10_save_31 : decode cX10_save 31 = .ok (.iinc 1 1, 3) := by decide +kernel
theorem dX10_save_34 : decode cX10_save 34 = .ok (.goto (-22), 3) := by decide +kernel
theorem dX10_save_37 : decode cX10_save 37 = .ok (.aload_n 0, 1) := by decide +kernel
theorem dX10_save_38 : decode cX10_save 38 = .ok (.getfield 9, 3) := by decide +kernel
theorem dX10_save_41 : decode cX10_save 41 = .ok (.iconst 2, 1) := by decide +kernel
theorem dX10_save_42 : decode cX10_save 42 = .ok (.iaload, 1) := by decide +kernel
theorem dX10_save_43 : decode cX10_save 43 = .ok (.ireturn, 1) := by decide +kernel
theorem dX10_restore_0 : decode cX10_restore 0 = .ok (.aload_n 0, 1) := by decide +kernel
theorem dX10_restore_1 : decode cX10_restore 1 = .ok (.iconst 0, 1) := by decide +kernel
theorem dX10_restore_2 : decode cX10_restore 2 = .ok (.putfield 47, 3) := by decide +kernel
theorem dX10_restore_5 : decode cX10_restore 5 = .ok (.aload_n 0, 1) := by decide +kernel
theorem dX10_restore_6 : decode cX10_restore 6 = .ok (.getfield 302, 3) := by decide +kernel
theorem dX10_restore_9 : decode cX10_restore 9 = .ok (.ifCond .ne 9, 3) := by decide +kernel
theorem dX10_restore_12 : decode cX10_restore 12 = .ok (.aload_n 0, 1) := by decide +kernel
theorem dX10_restore_13 : decode cX10_restore 13 = .ok (.iconst 1, 1) := by decide +kernel
theorem dX10_restore_14 : decode cX10_restore 14 = .ok (.invokevirtual 53, 3) := by decide +kernel
theorem dX10_restore_17 : decode cX10_restore 17 = .ok (.ireturn, 1) := by decide +kernel
theorem dX10_restore_18 : decode cX10_restore 18 = .ok (.iconst 0, 1) := by decide +kernel
theorem dX10_restore_19 : decode cX10_restore 19 = .ok (.istore_n 1, 1) := by decide +kernel
theorem dX10_restore_20 : decode cX10_restore 20 = .ok (.iload_n 1, 1) := by decide +kernel
theorem dX10_restore_21 : decode cX10_restore 21 = .ok (.sipush 490, 3) := by decide +kernel
theorem dX10_restore_24 : decode cX10_restore 24 = .ok (.if_icmp .ge 21, 3) := by decide +kernel
theorem dX10_restore_27 : decode cX10_restore 27 = .ok (.aload_n 0, 1) := by decide +kernel
theorem dX10_restore_28 : decode cX10_restore 28 = .ok (.getfield 9, 3) := by decide +kernel
theorem dX10_restore_31 : decode cX10_restore 31 = .ok (.iload_n 1, 1) := by decide +kernel
theorem dX10_restore_32 : decode cX10_restore 32 = .ok (.aload_n 0, 1) := by decide +kernel
theorem dX10_restore_33 : decode cX10_restore 33 = .ok (.getfield 16, 3) := by decide +kernel
theorem dX10_restore_36 : decode cX10_restore 36 = .ok (.iload_n 1, 1) := by decide +kernel
theorem dX10_restore_37 : decode cX10_restore 37 = .ok (.iaload, 1) := by decide +kernel
theorem dX10_restore_38 : decode cX10_restore 38 = .ok (.iastore, 1) := by decide +kernel
theorem dX10_restore_39 : decode cX10_restore 39 = .ok (.iinc 1 1, 3) := by decide +kernel
theorem dX10_restore_42 : decode cX10_restore 42 = .ok (.goto (-22), 3) := by decide +kernel
theorem dX10_restore_45 : decode cX10_restore 45 = .ok (.aload_n 0, 1) := by decide +kernel
theorem dX10_restore_46 : decode cX10_restore 46 = .ok (.iconst 0, 1) := by decide +kernel
theorem dX10_restore_47 : decode cX10_restore 47 = .ok (.putfield 57, 3) := by decide +kernel
theorem dX10_restore_50 : decode cX10_restore 50 = .ok (.aload_n 0, 1) := by decide +kernel
theorem dX10_restore_51 : decode cX10_restore 51 = .ok (.getfield 9, 3) := by decide +kernel
theorem dX10_restore_54 : decode cX10_restore 54 = .ok (.iconst 2, 1) := by decide +kernel
theorem dX10_restore_55 : decode cX10_restore 55 = .ok (.iaload, 1) := by decide +kernel
theorem dX10_restore_56 : decode cX10_restore 56 = .ok (.ireturn, 1) := by decide +kernel
