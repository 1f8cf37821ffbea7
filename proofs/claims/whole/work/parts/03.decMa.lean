theorem dX10_init_0 : decode cX10_init 0 = .ok (.aload_n 0, 1) := by decide +kernel
theorem dX10_init_1 : decode cX10_init 1 = .ok (.invokespecial 3, 3) := by decide +kernel
theorem dX10_init_4 : decode cX10_init 4 = .ok (.aload_n 0, 1) := by decide +kernel
theorem dX10_init_5 : decode cX10_init 5 = .ok (.sipush 490, 3) := by decide +kernel
theorem dX10_init_8 : decode cX10_init 8 = .ok (.newarray .int, 2) := by decide +kernel
theorem dX10_init_10 : decode cX10_init 10 = .ok (.putfield 9, 3) := by decide +kernel
theorem dX10_init_13 : decode cX10_init 13 = .ok (.aload_n 0, 1) := by decide +kernel
theorem dX10_init_14 : decode cX10_init 14 = .ok (.sipush 3920, 3) := by decide +kernel
theorem dX10_init_17 : decode cX10_init 17 = .ok (.newarray .int, 2) := by decide +kernel
theorem dX10_init_19 : decode cX10_init 19 = .ok (.putfield 13, 3) := by decide +kernel
theorem dX10_init_22 : decode cX10_init 22 = .ok (.aload_n 0, 1) := by decide +kernel
theorem dX10_init_23 : decode cX10_init 23 = .ok (.sipush 490, 3) := by decide +kernel
theorem dX10_init_26 : decode cX10_init 26 = .ok (.newarray .int, 2) := by decide +kernel
theorem dX10_init_28 : decode cX10_init 28 = .ok (.putfield 16, 3) := by decide +kernel
theorem dX10_init_31 : decode cX10_init 31 = .ok (.aload_n 0, 1) := by decide +kernel
theorem dX10_init_32 : decode cX10_init 32 = .ok (.sipush 490, 3) := by decide +kernel
theorem dX10_init_35 : decode cX10_init 35 = .ok (.newarray .int, 2) := by decide +kernel
theorem dX10_init_37 : decode cX10_init 37 = .ok (.putfield 19, 3) := by decide +kernel
theorem dX10_init_40 : decode cX10_init 40 = .ok (.aload_n 0, 1) := by decide +kernel
theorem dX10_init_41 : decode cX10_init 41 = .ok (.bipush 60, 2) := by decide +kernel
theorem dX10_init_43 : decode cX10_init 43 = .ok (.newarray .int, 2) := by decide +kernel
theorem dX10_init_45 : decode cX10_init 45 = .ok (.putfield 22, 3) := by decide +kernel
theorem dX10_init_48 : decode cX10_init 48 = .ok (.aload_n 0, 1) := by decide +kernel
theorem dX10_init_49 : decode cX10_init 49 = .ok (.iconst (-1), 1) := by decide +kernel
theorem dX10_init_50 : decode cX10_init 50 = .ok (.putfield 25, 3) := by decide +kernel
theorem dX10_init_53 : decode cX10_init 53 = .ok (.aload_n 0, 1) := by decide +kernel
theorem dX10_init_54 : decode cX10_init 54 = .ok (.bipush 120, 2) := by decide +kernel
theorem dX10_init_56 : decode cX10_init 56 = .ok (.newarray .int, 2) := by decide +kernel
theorem dX10_init_58 : decode cX10_init 58 = .ok (.putfield 29, 3) := by decide +kernel
theorem dX10_init_61 : decode cX10_init 61 = .ok (.aload_n 0, 1) := by decide +kernel
theorem dX10_init_62 : decode cX10_init 62 = .ok (.iconst 5, 1) := by decide +kernel
theorem dX10_init_63 : decode cX10_init 63 = .ok (.newarray .int, 2) := by decide +kernel
theorem dX10_init_65 : decode cX10_init 65 = .ok (.putfield 32, 3) := by decide +kernel
theorem dX10_init_68 : decode cX10_init 68 = .ok (.aload_n 0, 1) := by decide +kernel
theorem dX10_init_69 : decode cX10_init 69 = .ok (.bipush 6, 2) := by decide +kernel
theorem dX10_init_71 : decode cX10_init 71 = .ok (.newarray .int, 2) := by decide +kernel
theorem dX10_init_73 : decode cX10_init 73 = .ok (.putfield 35, 3) := by decide +kernel
theorem dX10_init_76 : decode cX10_init 76 = .ok (.aload_n 0, 1) := by decide +kernel
theorem dX10_init_77 : decode cX10_init 77 = .ok (.bipush 6, 2) := by decide +kernel
theorem dX10_init_79 : decode cX10_init 79 = .ok (.newarray .int, 2) := by decide +kernel
theorem dX10_init_81 : decode cX10_init 81 = .ok (.putfield 38, 3) := by decide +kernel
theorem dX10_init_84 : decode cX10_init 84 = .ok (.aload_n 0, 1) := by decide +kernel
theorem dX10_init_85 : decode cX10_init 85 = .ok (.bipush 6, 2) := by decide +kernel
theorem dX10_init_87 : decode cX10_init 87 = .ok (.newarray .int, 2) := by decide +kernel
theorem dX10_init_89 : decode cX10_init 89 = .ok (.putfield 41, 3) := by decide +kernel
theorem dX10_init_92 : decode cX10_init 92 = .ok (.aload_n 0, 1) := by decide +kernel
theorem dX10_init_93 : decode cX10_init 93 = .ok (.bipush 120, 2) := by decide +kernel
theorem dX10_init_95 : decode cX10_init 95 = .ok (.newarray .int, 2) := by decide +kernel
theorem dX10_init_97 : decode cX10_init 97 = .ok (.putfield 44, 3) := by decide +kernel
theorem dX10_init_100 : decode cX10_init 100 = .ok (.aload_n 0, 1) := by decide +kernel
theorem dX10_init_101 : decode cX10_init 101 = .ok (.getfield 9, 3) := by decide +kernel
theorem dX10_init_104 : decode cX10_init 104 = .ok (.iconst 0, 1) := by decide +kernel
theorem dX10_init_105 : decode cX10_init 105 = .ok (.bipush 60, 2) := by decide +kernel
theorem dX10_init_107 : decode cX10_init 107 = .ok (.iastore, 1) := by decide +kernel
theorem dX10_init_108 : decode cX10_init 108 = .ok (.aload_n 0, 1) := by decide +kernel
theorem dX10_init_109 : decode cX10_init 109 = .ok (.getfield 9, 3) := by decide +kernel
theorem dX10_init_112 : decode cX10_init 112 = .ok (.iconst 1, 1) := by decide +kernel
theorem dX10_init_113 : decode cX10_init 113 = .ok (.bipush 14, 2) := by decide +kernel
theorem dX10_init_115 : decode cX10_init 115 = .ok (.iastore, 1) := by decide +kernel
theorem dX10_init_116 : decode cX10_init 116 = .ok (.return_, 1) := by decide +kernel
theorem dX10_thrown_0 : decode cX10_thrown 0 = .ok (.aload_n 0, 1) := by decide +kernel
theorem dX10_thrown_1 : decode cX10_thrown 1 = .ok (.getfield 47, 3) := by decide +kernel
theorem dX10_thrown_4 : decode cX10_thrown 4 = .ok (.ireturn, 1) := by decide +kernel
theorem dX10_raises_0 : decode cX10_raises 0 = .ok (.aload_n 0, 1) := by decide +kernel
theorem dX10_raises_1 : decode cX10_raises 1 = .ok (.iload_n 1, 1) := by decide +kernel
theorem dX10_raises_2 : decode cX10_raises 2 = .ok (.putfield 47, 3) := by decide +kernel
theorem dX10_raises_5 : decode cX10_raises 5 = .ok (.iconst 0, 1) := by decide +kernel
theorem dX10_raises_6 : decode cX10_raises 6 = .ok (.ireturn, 1) := by decide +kernel
theorem dX10_refuses_0 : decode cX10_refuses 0 = .ok (.aload_n 0, 1) := by decide +kernel
theorem dX10_refuses_1 : decode cX10_refuses 1 = .ok (.iload_n 1, 1) := by decide +kernel
theorem dX10_refuses_2 : decode cX10_refuses 2 = .ok (.putfield 50, 3) := by decide +kernel
theorem dX10_refuses_5 : decode cX10_refuses 5 = .ok (.aload_n 0, 1) := by decide +kernel
theorem dX10_refuses_6 : decode cX10_refuses 6 = .ok (.iload_n 2, 1) := by decide +kernel
theorem dX10_refuses_7 : decode cX10_refuses 7 = .ok (.invokevirtual 53, 3) := by decide +kernel
theorem dX10_refuses_10 : decode cX10_refuses 10 = .ok (.ireturn, 1) := by decide +kernel
theorem dX10_in_0 : decode cX10_in 0 = .ok (.iload_n 0, 1) := by decide +kernel
theorem dX10_in_1 : decode cX10_in 1 = .ok (.iload_n 1, 1) := by decide +kernel
theorem dX10_in_2 : decode cX10_in 2 = .ok (.if_icmp .lt 12, 3) := by decide +kernel
theorem dX10_in_5 : decode cX10_in 5 = .ok (.iload_n 0, 1) := by decide +kernel
theorem dX10_in_6 : decode cX10_in 6 = .ok (.iload_n 2, 1) := by decide +kernel
theorem dX10_in_7 : decode cX10_in 7 = .ok (.if_icmp .gt 7, 3) := by decide +kernel
theorem dX10_in_10 : decode cX10_in 10 = .ok (.iconst 1, 1) := by decide +kernel
theorem dX10_in_11 : decode cX10_in 11 = .ok (.goto 4, 3) := by decide +kernel
theorem dX10_in_14 : decode cX10_in 14 = .ok (.iconst 0, 1) := by decide +kernel
theorem dX10_in_15 : decode cX10_in 15 = .ok (.ireturn, 1) := by decide +kernel
theorem dX10_tries_0 : decode cX10_tries 0 = .ok (.aload_n 0, 1) := by decide +kernel
theorem dX10_tries_1 : decode cX10_tries 1 = .ok (.iconst 0, 1) := by decide +kernel
theorem dX10_tries_2 : decode cX10_tries 2 = .ok (.putfield 47, 3) := by decide +kernel
theorem dX10_tries_5 : decode cX10_tries 5 = .ok (.iconst 0, 1) := by decide +kernel
theorem dX10_tries_6 : decode cX10_tries 6 = .ok (.istore_n 1, 1) := by decide +kernel
theorem dX10_tries_7 : decode cX10_tries 7 = .ok (.iload_n 1, 1) := by decide +kernel
theorem dX10_tries_8 : decode cX10_tries 8 = .ok (.sipush 490, 3) := by decide +kernel
theorem dX10_tries_11 : decode cX10_tries 11 = .ok (.if_icmp .ge 21, 3) := by decide +kernel
theorem dX10_tries_14 : decode cX10_tries 14 = .ok (.aload_n 0, 1) := by decide +kernel
theorem dX10_tries_15 : decode cX10_tries 15 = .ok (.getfield 19, 3) := by decide +kernel
theorem dX10_tries_18 : decode cX10_tries 18 = .ok (.iload_n 1, 1) := by decide +kernel
theorem dX10_tries_19 : decode cX10_tries 19 = .ok (.aload_n 0, 1) := by decide +kernel
theorem dX10_tries_20 : decode cX10_tries 20 = .ok (.getfield 9, 3) := by decide +kernel
theorem dX10_tries_23 : decode cX10_tries 23 = .ok (.iload_n 1, 1) := by decide +kernel
theorem dX10_tries_24 : decode cX10_tries 24 = .ok (.iaload, 1) := by decide +kernel
theorem dX10_tries_25 : decode cX10_tries 25 = .ok (.iastore, 1) := by decide +kernel
theorem dX10_tries_26 : decode cX10_tries 26 = .ok (.iinc 1 1, 3) := by decide +kernel
theorem dX10_tries_29 : decode cX10_tries 29 = .ok (.goto (-22), 3) := by decide +kernel
theorem dX10_tries_32 : decode cX10_tries 32 = .ok (.return_, 1) := by decide +kernel
theorem dX10_keeps_0 : decode cX10_keeps 0 = .ok (.aload_n 0, 1) := by decide +kernel
theorem dX10_keeps_1 : decode cX10_keeps 1 = .ok (.getfield 57, 3) := by decide +kernel
theorem dX10_keeps_4 : decode cX10_keeps 4 = .ok (.bipush 8, 2) := by decide +kernel
theorem dX10_keeps_6 : decode cX10_keeps 6 = .ok (.if_icmp .ne 44, 3) := by decide +kernel
theorem dX10_keeps_9 : decode cX10_keeps 9 = .ok (.iconst 0, 1) := by decide +kernel
theorem dX10_keeps_10 : decode cX10_keeps 10 = .ok (.istore_n 1, 1) := by decide +kernel
theorem dX10_keeps_11 : decode cX10_keeps 11 = .ok (.iload_n 1, 1) := by decide +kernel
theorem dX10_keeps_12 : decode cX10_keeps 12 = .ok (.sipush 3430, 3) := by decide +kernel
theorem dX10_keeps_15 : decode cX10_keeps 15 = .ok (.if_icmp .ge 25, 3) := by decide +kernel
theorem dX10_keeps_18 : decode cX10_keeps 18 = .ok (.aload_n 0, 1) := by decide +kernel
theorem dX10_keeps_19 : decode cX10_keeps 19 = .ok (.getfield 13, 3) := by decide +kernel
theorem dX10_keeps_22 : decode cX10_keeps 22 = .ok (.iload_n 1, 1) := by decide +kernel
theorem dX10_keeps_23 : decode cX10_keeps 23 = .ok (.aload_n 0, 1) := by decide +kernel
theorem dX10_keeps_24 : decode cX10_keeps 24 = .ok (.getfield 13, 3) := by decide +kernel
theorem dX10_keeps_27 : decode cX10_keeps 27 = .ok (.sipush 490, 3) := by decide +kernel
theorem dX10_keeps_30 : decode cX10_keeps 30 = .ok (.iload_n 1, 1) := by decide +kernel
theorem dX10_keeps_31 : decode cX10_keeps 31 = .ok (.iadd, 1) := by decide +kernel
theorem dX10_keeps_32 : decode cX10_keeps 32 = .ok (.iaload, 1) := by decide +kernel
theorem dX10_keeps_33 : decode cX10_keeps 33 = .ok (.iastore, 1) := by decide +kernel
theorem dX10_keeps_34 : decode cX10_keeps 34 = .ok (.iinc 1 1, 3) := by decide +kernel
theorem dX10_keeps_37 : decode cX10_keeps 37 = .ok (.goto (-26), 3) := by decide +kernel
theorem dX10_keeps_40 : decode cX10_keeps 40 = .ok (.aload_n 0, 1) := by decide +kernel
theorem dX10_keeps_41 : decode cX10_keeps 41 = .ok (.dup, 1) := by decide +kernel
theorem dX10_keeps_42 : decode cX10_keeps 42 = .ok (.getfield 57, 3) := by decide +kernel
theorem dX10_keeps_45 : decode cX10_keeps 45 = .ok (.iconst 1, 1) := by decide +kernel
theorem dX10_keeps_46 : decode cX10_keeps 46 = .ok (.isub, 1) := by decide +kernel
theorem dX10_keeps_47 : decode cX10_keeps 47 = .ok (.putfield 57, 3) := by decide +kernel
theorem dX10_keeps_50 : decode cX10_keeps 50 = .ok (.iconst 0, 1) := by decide +kernel
theorem dX10_keeps_51 : decode cX10_keeps 51 = .ok (.istore_n 1, 1) := by decide +kernel
theorem dX10_keeps_52 : decode cX10_keeps 52 = .ok (.iload_n 1, 1) := by decide +kernel
theorem dX10_keeps_53 : decode cX10_keeps 53 = .ok (.sipush 490, 3) := by decide +kernel
theorem dX10_keeps_56 : decode cX10_keeps 56 = .ok (.if_icmp .ge 30, 3) := by decide +kernel
theorem dX10_keeps_59 : decode cX10_keeps 59 = .ok (.aload_n 0, 1) := by decide +kernel
theorem dX10_keeps_60 : decode cX10_keeps 60 = .ok (.getfield 13, 3) := by decide +kernel
theorem dX10_keeps_63 : decode cX10_keeps 63 = .ok (.sipush 490, 3) := by decide +kernel
theorem dX10_keeps_66 : decode cX10_keeps 66 = .ok (.aload_n 0, 1) := by decide +kernel
theorem dX10_keeps_67 : decode cX10_keeps 67 = .ok (.getfield 57, 3) := by decide +kernel
theorem dX10_keeps_70 : decode cX10_keeps 70 = .ok (.imul, 1) := by decide +kernel
theorem dX10_keeps_71 : decode cX10_keeps 71 = .ok (.iload_n 1, 1) := by decide +kernel
theorem dX10_keeps_72 : decode cX10_keeps 72 = .ok (.iadd, 1) := by decide +kernel
theorem dX10_keeps_73 : decode cX10_keeps 73 = .ok (.aload_n 0, 1) := by decide +kernel
theorem dX10_keeps_74 : decode cX10_keeps 74 = .ok (.getfield 19, 3) := by decide +kernel
theorem dX10_keeps_77 : decode cX10_keeps 77 = .ok (.iload_n 1, 1) := by decide +kernel
theorem dX10_keeps_78 : decode cX10_keeps 78 = .ok (.iaload, 1) := by decide +kernel
theorem dX10_keeps_79 : decode cX10_keeps 79 = .ok (.iastore, 1) := by decide +kernel
theorem dX10_keeps_80 : decode cX10_keeps 80 = .ok (.iinc 1 1, 3) := by decide +kernel
theorem dX10_keeps_83 : decode cX10_keeps 83 = .ok (.goto (-31), 3) := by decide +kernel
theorem dX10_keeps_86 : decode cX10_keeps 86 = .ok (.aload_n 0, 1) := by decide +kernel
theorem dX10_keeps_87 : decode cX10_keeps 87 = .ok (.dup, 1) := by decide +kernel
theorem dX10_keeps_88 : decode cX10_keeps 88 = .ok (.getfield 57, 3) := by decide +kernel
theorem dX10_keeps_91 : decode cX10_keeps 91 = .ok (.iconst 1, 1) := by decide +kernel
theorem dX10_keeps_92 : decode cX10_keeps 92 = .ok (.iadd, 1) := by decide +kernel
theorem dX10_keeps_93 : decode cX10_keeps 93 = .ok (.putfield 57, 3) := by decide +kernel
theorem dX10_keeps_96 : decode cX10_keeps 96 = .ok (.return_, 1) := by decide +kernel
theorem dX10_changes_0 : decode cX10_changes 0 = .ok (.iconst 0, 1) := by decide +kernel
theorem dX10_changes_1 : decode cX10_changes 1 = .ok (.istore_n 1, 1) := by decide +kernel
theorem dX10_changes_2 : decode cX10_changes 2 = .ok (.iload_n 1, 1) := by decide +kernel
theorem dX10_changes_3 : decode cX10_changes 3 = .ok (.sipush 490, 3) := by decide +kernel
theorem dX10_changes_6 : decode cX10_changes 6 = .ok (.if_icmp .ge 21, 3) := by decide +kernel
theorem dX10_changes_9 : decode cX10_changes 9 = .ok (.aload_n 0, 1) := by decide +kernel
theorem dX10_changes_10 : decode cX10_changes 10 = .ok (.getfield 19, 3) := by decide +kernel
theorem dX10_changes_13 : decode cX10_changes 13 = .ok (.iload_n 1, 1) := by decide +kernel
theorem dX10_changes_14 : decode cX10_changes 14 = .ok (.aload_n 0, 1) := by decide +kernel
theorem dX10_changes_15 : decode cX10_changes 15 = .ok (.getfield 9, 3) := by decide +kernel
theorem dX10_changes_18 : decode cX10_changes 18 = .ok (.iload_n 1, 1) := by decide +kernel
theorem dX10_changes_19 : decode cX10_changes 19 = .ok (.iaload, 1) := by decide +kernel
theorem dX10_changes_20 : decode cX10_changes 20 = .ok (.iastore, 1) := by decide +kernel
theorem dX10_changes_21 : decode cX10_changes 21 = .ok (.iinc 1 1, 3) := by decide +kernel
theorem dX10_changes_24 : decode cX10_changes 24 = .ok (.goto (-22), 3) := by decide +kernel
theorem dX10_changes_27 : decode cX10_changes 27 = .ok (.aload_n 0, 1) := by decide +kernel
theorem dX10_changes_28 : decode cX10_changes 28 = .ok (.invokevirtual 60, 3) := by decide +kernel
theorem dX10_changes_31 : decode cX10_changes 31 = .ok (.return_, 1) := by decide +kernel
theorem dX10_at_0 : decode cX10_at 0 = .ok (.bipush 6, 2) := by decide +kernel
theorem dX10_at_2 : decode cX10_at 2 = .ok (.bipush 121, 2) := by decide +kernel
theorem dX10_at_4 : decode cX10_at 4 = .ok (.iload_n 0, 1) := by decide +kernel
theorem dX10_at_5 : decode cX10_at 5 = .ok (.imul, 1) := by decide +kernel
theorem dX10_at_6 : decode cX10_at 6 = .ok (.iadd, 1) := by decide +kernel
theorem dX10_at_7 : decode cX10_at 7 = .ok (.ireturn, 1) := by decide +kernel
theorem dX10_groupAt_0 : decode cX10_groupAt 0 = .ok (.bipush 6, 2) := by decide +kernel
theorem dX10_groupAt_2 : decode cX10_groupAt 2 = .ok (.bipush 121, 2) := by decide +kernel
theorem dX10_groupAt_4 : decode cX10_groupAt 4 = .ok (.iload_n 0, 1) := by decide +kernel
theorem dX10_groupAt_5 : decode cX10_groupAt 5 = .ok (.imul, 1) := by decide +kernel
theorem dX10_groupAt_6 : decode cX10_groupAt 6 = .ok (.iadd, 1) := by decide +kernel
theorem dX10_groupAt_7 : decode cX10_groupAt 7 = .ok (.bipush 7, 2) := by decide +kernel
theorem dX10_groupAt_9 : decode cX10_groupAt 9 = .ok (.iadd, 1) := by decide +kernel
theorem dX10_groupAt_10 : decode cX10_groupAt 10 = .ok (.bipush 13, 2) := by decide +kernel
theorem dX10_groupAt_12 : decode cX10_groupAt 12 = .ok (.iload_n 1, 1) := by decide +kernel
theorem dX10_groupAt_13 : decode cX10_groupAt 13 = .ok (.imul, 1) := by decide +kernel
theorem dX10_groupAt_14 : decode cX10_groupAt 14 = .ok (.iadd, 1) := by decide +kernel
theorem dX10_groupAt_15 : decode cX10_groupAt 15 = .ok (.ireturn, 1) := by decide +kernel
theorem dX10_of_0 : decode cX10_of 0 = .ok (.aload_n 0, 1) := by decide +kernel
theorem dX10_of_1 : decode cX10_of 1 = .ok (.getfield 9, 3) := by decide +kernel
theorem dX10_of_4 : decode cX10_of 4 = .ok (.iload_n 1, 1) := by decide +kernel
theorem dX10_of_5 : decode cX10_of 5 = .ok (.invokestatic 63, 3) := by decide +kernel
theorem dX10_of_8 : decode cX10_of 8 = .ok (.iload_n 2, 1) := by decide +kernel
theorem dX10_of_9 : decode cX10_of 9 = .ok (.iadd, 1) := by decide +kernel
theorem dX10_of_10 : decode cX10_of 10 = .ok (.iaload, 1) := by decide +kernel
theorem dX10_of_11 : decode cX10_of 11 = .ok (.ireturn, 1) := by decide +kernel
theorem dX10_groupOf_0 : decode cX10_groupOf 0 = .ok (.aload_n 0, 1) := by decide +kernel
theorem dX10_groupOf_1 : decode cX10_groupOf 1 = .ok (.getfield 9, 3) := by decide +kernel
theorem dX10_groupOf_4 : decode cX10_groupOf 4 = .ok (.iload_n 1, 1) := by decide +kernel
theorem dX10_groupOf_5 : decode cX10_groupOf 5 = .ok (.iload_n 2, 1) := by decide +kernel
theorem dX10_groupOf_6 : decode cX10_groupOf 6 = .ok (.invokestatic 66, 3) := by decide +kernel
theorem dX10_groupOf_9 : decode cX10_groupOf 9 = .ok (.iload_n 3, 1) := by decide +kernel
theorem dX10_groupOf_10 : decode cX10_groupOf 10 = .ok (.iadd, 1) := by decide +kernel
theorem dX10_groupOf_11 : decode cX10_groupOf 11 = .ok (.iaload, 1) := by decide +kernel
theorem dX10_groupOf_12 : decode cX10_groupOf 12 = .ok (.ireturn, 1) := by decide +kernel
theorem dX10_clear_0 : decode cX10_clear 0 = .ok (.aload_n 0, 1) := by decide +kernel
theorem dX10_clear_1 : decode cX10_clear 1 = .ok (.getfield 9, 3) := by decide +kernel
theorem dX10_clear_4 : decode cX10_clear 4 = .ok (.iload_n 1, 1) := by decide +kernel
theorem dX10_clear_5 : decode cX10_clear 5 = .ok (.invokestatic 63, 3) := by decide +kernel
theorem dX10_clear_8 : decode cX10_clear 8 = .ok (.bipush 85, 2) := by decide +kernel
theorem dX10_clear_10 : decode cX10_clear 10 = .ok (.iadd, 1) := by decide +kernel
theorem dX10_clear_11 : decode cX10_clear 11 = .ok (.bipush 6, 2) := by decide +kernel
theorem dX10_clear_13 : decode cX10_clear 13 = .ok (.iload_n 2, 1) := by decide +kernel
theorem dX10_clear_14 : decode cX10_clear 14 = .ok (.imul, 1) := by decide +kernel
theorem dX10_clear_15 : decode cX10_clear 15 = .ok (.iadd, 1) := by decide +kernel
theorem dX10_clear_16 : decode cX10_clear 16 = .ok (.iload_n 3, 1) := by decide +kernel
theorem dX10_clear_17 : decode cX10_clear 17 = .ok (.iadd, 1) := by decide +kernel
theorem dX10_clear_18 : decode cX10_clear 18 = .ok (.iaload, 1) := by decide +kernel
theorem dX10_clear_19 : decode cX10_clear 19 = .ok (.ireturn, 1) := by decide +kernel
theorem dX10_clears_0 : decode cX10_clears 0 = .ok (.aload_n 0, 1) := by decide +kernel
theorem dX10_clears_1 : decode cX10_clears 1 = .ok (.getfield 9, 3) := by decide +kernel
theorem dX10_clears_4 : decode cX10_clears 4 = .ok (.iload_n 1, 1) := by decide +kernel
theorem dX10_clears_5 : decode cX10_clears 5 = .ok (.invokestatic 63, 3) := by decide +kernel
theorem dX10_clears_8 : decode cX10_clears 8 = .ok (.bipush 85, 2) := by decide +kernel
theorem dX10_clears_10 : decode cX10_clears 10 = .ok (.iadd, 1) := by decide +kernel
theorem dX10_clears_11 : decode cX10_clears 11 = .ok (.bipush 6, 2) := by decide +kernel
theorem dX10_clears_13 : decode cX10_clears 13 = .ok (.iload_n 2, 1) := by decide +kernel
theorem dX10_clears_14 : decode cX10_clears 14 = .ok (.imul, 1) := by decide +kernel
theorem dX10_clears_15 : decode cX10_clears 15 = .ok (.iadd, 1) := by decide +kernel
theorem dX10_clears_16 : decode cX10_clears 16 = .ok (.iload_n 3, 1) := by decide +kernel
theorem dX10_clears_17 : decode cX10_clears 17 = .ok (.iadd, 1) := by decide +kernel
theorem dX10_clears_18 : decode cX10_clears 18 = .ok (.iload 4, 2) := by decide +kernel
theorem dX10_clears_20 : decode cX10_clears 20 = .ok (.iastore, 1) := by decide +kernel
theorem dX10_clears_21 : decode cX10_clears 21 = .ok (.return_, 1) := by decide +kernel
theorem dX10_isJunction_0 : decode cX10_isJunction 0 = .ok (.iload_n 1, 1) := by decide +kernel
theorem dX10_isJunction_1 : decode cX10_isJunction 1 = .ok (.iconst 0, 1) := by decide +kernel
theorem dX10_isJunction_2 : decode cX10_isJunction 2 = .ok (.aload_n 0, 1) := by decide +kernel
theorem dX10_isJunction_3 : decode cX10_isJunction 3 = .ok (.getfield 9, 3) := by decide +kernel
theorem dX10_isJunction_6 : decode cX10_isJunction 6 = .ok (.iconst 2, 1) := by decide +kernel
theorem dX10_isJunction_7 : decode cX10_isJunction 7 = .ok (.iaload, 1) := by decide +kernel
theorem dX10_isJunction_8 : decode cX10_isJunction 8 = .ok (.iconst 1, 1) := by decide +kernel
theorem dX10_isJunction_9 : decode cX10_isJunction 9 = .ok (.isub, 1) := by decide +kernel
theorem dX10_isJunction_10 : decode cX10_isJunction 10 = .ok (.invokestatic 70, 3) := by decide +kernel
theorem dX10_isJunction_13 : decode cX10_isJunction 13 = .ok (.ireturn, 1) := by decide +kernel
theorem dX10_isGroup_0 : decode cX10_isGroup 0 = .ok (.aload_n 0, 1) := by decide +kernel
theorem dX10_isGroup_1 : decode cX10_isGroup 1 = .ok (.iload_n 1, 1) := by decide +kernel
theorem dX10_isGroup_2 : decode cX10_isGroup 2 = .ok (.invokevirtual 74, 3) := by decide +kernel
theorem dX10_isGroup_5 : decode cX10_isGroup 5 = .ok (.ifCond .eq 23, 3) := by decide +kernel
theorem dX10_isGroup_8 : decode cX10_isGroup 8 = .ok (.iload_n 2, 1) := by decide +kernel
theorem dX10_isGroup_9 : decode cX10_isGroup 9 = .ok (.iconst 0, 1) := by decide +kernel
theorem dX10_isGroup_10 : decode cX10_isGroup 10 = .ok (.aload_n 0, 1) := by decide +kernel
theorem dX10_isGroup_11 : decode cX10_isGroup 11 = .ok (.iload_n 1, 1) := by decide +kernel
theorem dX10_isGroup_12 : decode cX10_isGroup 12 = .ok (.iconst 2, 1) := by decide +kernel
theorem dX10_isGroup_13 : decode cX10_isGroup 13 = .ok (.invokevirtual 78, 3) := by decide +kernel
theorem dX10_isGroup_16 : decode cX10_isGroup 16 = .ok (.iconst 1, 1) := by decide +kernel
theorem dX10_isGroup_17 : decode cX10_isGroup 17 = .ok (.isub, 1) := by decide +kernel
theorem dX10_isGroup_18 : decode cX10_isGroup 18 = .ok (.invokestatic 70, 3) := by decide +kernel
theorem dX10_isGroup_21 : decode cX10_isGroup 21 = .ok (.ifCond .eq 7, 3) := by decide +kernel
theorem dX10_isGroup_24 : decode cX10_isGroup 24 = .ok (.iconst 1, 1) := by decide +kernel
theorem dX10_isGroup_25 : decode cX10_isGroup 25 = .ok (.goto 4, 3) := by decide +kernel
theorem dX10_isGroup_28 : decode cX10_isGroup 28 = .ok (.iconst 0, 1) := by decide +kernel
theorem dX10_isGroup_29 : decode cX10_isGroup 29 = .ok (.ireturn, 1) := by decide +kernel
theorem dX10_isPlan_0 : decode cX10_isPlan 0 = .ok (.aload_n 0, 1) := by decide +kernel
theorem dX10_isPlan_1 : decode cX10_isPlan 1 = .ok (.iload_n 1, 1) := by decide +kernel
theorem dX10_isPlan_2 : decode cX10_isPlan 2 = .ok (.invokevirtual 74, 3) := by decide +kernel
theorem dX10_isPlan_5 : decode cX10_isPlan 5 = .ok (.ifCond .eq 16, 3) := by decide +kernel
theorem dX10_isPlan_8 : decode cX10_isPlan 8 = .ok (.iload_n 2, 1) := by decide +kernel
theorem dX10_isPlan_9 : decode cX10_isPlan 9 = .ok (.iconst 0, 1) := by decide +kernel
theorem dX10_isPlan_10 : decode cX10_isPlan 10 = .ok (.iconst 1, 1) := by decide +kernel
theorem dX10_isPlan_11 : decode cX10_isPlan 11 = .ok (.invokestatic 70, 3) := by decide +kernel
theorem dX10_isPlan_14 : decode cX10_isPlan 14 = .ok (.ifCond .eq 7, 3) := by decide +kernel
theorem dX10_isPlan_17 : decode cX10_isPlan 17 = .ok (.iconst 1, 1) := by decide +kernel
theorem dX10_isPlan_18 : decode cX10_isPlan 18 = .ok (.goto 4, 3) := by decide +kernel
theorem dX10_isPlan_21 : decode cX10_isPlan 21 = .ok (.iconst 0, 1) := by decide +kernel
theorem dX10_isPlan_22 : decode cX10_isPlan 22 = .ok (.ireturn, 1) := by decide +kernel
theorem dX10_mod_0 : decode cX10_mod 0 = .ok (.iload_n 1, 1) := by decide +kernel
theorem dX10_mod_1 : decode cX10_mod 1 = .ok (.aload_n 0, 1) := by decide +kernel
theorem dX10_mod_2 : decode cX10_mod 2 = .ok (.getfield 9, 3) := by decide +kernel
theorem dX10_mod_5 : decode cX10_mod 5 = .ok (.iconst 0, 1) := by decide +kernel
theorem dX10_mod_6 : decode cX10_mod 6 = .ok (.iaload, 1) := by decide +kernel
theorem dX10_mod_7 : decode cX10_mod 7 = .ok (.invokestatic 81, 3) := by decide +kernel
theorem dX10_mod_10 : decode cX10_mod 10 = .ok (.ireturn, 1) := by decide +kernel
theorem dX10_local_0 : decode cX10_local 0 = .ok (.aload_n 0, 1) := by decide +kernel
theorem dX10_local_1 : decode cX10_local 1 = .ok (.iload_n 2, 1) := by decide +kernel
theorem dX10_local_2 : decode cX10_local 2 = .ok (.aload_n 0, 1) := by decide +kernel
theorem dX10_local_3 : decode cX10_local 3 = .ok (.iload_n 1, 1) := by decide +kernel
theorem dX10_local_4 : decode cX10_local 4 = .ok (.iconst 1, 1) := by decide +kernel
theorem dX10_local_5 : decode cX10_local 5 = .ok (.invokevirtual 78, 3) := by decide +kernel
theorem dX10_local_8 : decode cX10_local 8 = .ok (.isub, 1) := by decide +kernel
theorem dX10_local_9 : decode cX10_local 9 = .ok (.invokevirtual 86, 3) := by decide +kernel
theorem dX10_local_12 : decode cX10_local 12 = .ok (.ireturn, 1) := by decide +kernel
theorem dX10_first_0 : decode cX10_first 0 = .ok (.aload_n 0, 1) := by decide +kernel
theorem dX10_first_1 : decode cX10_first 1 = .ok (.iload_n 1, 1) := by decide +kernel
theorem dX10_first_2 : decode cX10_first 2 = .ok (.iload_n 3, 1) := by decide +kernel
theorem dX10_first_3 : decode cX10_first 3 = .ok (.bipush 9, 2) := by decide +kernel
theorem dX10_first_5 : decode cX10_first 5 = .ok (.iconst 2, 1) := by decide +kernel
theorem dX10_first_6 : decode cX10_first 6 = .ok (.iload_n 2, 1) := by decide +kernel
theorem dX10_first_7 : decode cX10_first 7 = .ok (.imul, 1) := by decide +kernel
theorem dX10_first_8 : decode cX10_first 8 = .ok (.iadd, 1) := by decide +kernel
theorem dX10_first_9 : decode cX10_first 9 = .ok (.invokevirtual 89, 3) := by decide +kernel
theorem dX10_first_12 : decode cX10_first 12 = .ok (.ireturn, 1) := by decide +kernel
theorem dX10_length_0 : decode cX10_length 0 = .ok (.aload_n 0, 1) := by decide +kernel
theorem dX10_length_1 : decode cX10_length 1 = .ok (.iload_n 1, 1) := by decide +kernel
theorem dX10_length_2 : decode cX10_length 2 = .ok (.iload_n 3, 1) := by decide +kernel
theorem dX10_length_3 : decode cX10_length 3 = .ok (.bipush 9, 2) := by decide +kernel
theorem dX10_length_5 : decode cX10_length 5 = .ok (.iconst 2, 1) := by decide +kernel
theorem dX10_length_6 : decode cX10_length 6 = .ok (.iload_n 2, 1) := by decide +kernel
theorem dX10_length_7 : decode cX10_length 7 = .ok (.imul, 1) := by decide +kernel
theorem dX10_length_8 : decode cX10_length 8 = .ok (.iadd, 1) := by decide +kernel
theorem dX10_length_9 : decode cX10_length 9 = .ok (.iconst 1, 1) := by decide +kernel
theorem dX10_length_10 : decode cX10_length 10 = .ok (.iadd, 1) := by decide +kernel
theorem dX10_length_11 : decode cX10_length 11 = .ok (.invokevirtual 89, 3) := by decide +kernel
theorem dX10_length_14 : decode cX10_length 14 = .ok (.ireturn, 1) := by decide +kernel
theorem dX10_isOn_0 : decode cX10_isOn 0 = .ok (.aload_n 0, 1) := by decide +kernel
theorem dX10_isOn_1 : decode cX10_isOn 1 = .ok (.iload 4, 2) := by decide +kernel
theorem dX10_isOn_3 : decode cX10_isOn 3 = .ok (.aload_n 0, 1) := by decide +kernel
theorem dX10_isOn_4 : decode cX10_isOn 4 = .ok (.iload_n 1, 1) := by decide +kernel
theorem dX10_isOn_5 : decode cX10_isOn 5 = .ok (.iload_n 2, 1) := by decide +kernel
theorem dX10_isOn_6 : decode cX10_isOn 6 = .ok (.iload_n 3, 1) := by decide +kernel
theorem dX10_isOn_7 : decode cX10_isOn 7 = .ok (.invokevirtual 93, 3) := by decide +kernel
theorem dX10_isOn_10 : decode cX10_isOn 10 = .ok (.isub, 1) := by decide +kernel
theorem dX10_isOn_11 : decode cX10_isOn 11 = .ok (.invokevirtual 86, 3) := by decide +kernel
theorem dX10_isOn_14 : decode cX10_isOn 14 = .ok (.aload_n 0, 1) := by decide +kernel
theorem dX10_isOn_15 : decode cX10_isOn 15 = .ok (.iload_n 1, 1) := by decide +kernel
theorem dX10_isOn_16 : decode cX10_isOn 16 = .ok (.iload_n 2, 1) := by decide +kernel
theorem dX10_isOn_17 : decode cX10_isOn 17 = .ok (.iload_n 3, 1) := by decide +kernel
theorem dX10_isOn_18 : decode cX10_isOn 18 = .ok (.invokevirtual 96, 3) := by decide +kernel
theorem dX10_isOn_21 : decode cX10_isOn 21 = .ok (.if_icmp .ge 7, 3) := by decide +kernel
theorem dX10_isOn_24 : decode cX10_isOn 24 = .ok (.iconst 1, 1) := by decide +kernel
theorem dX10_isOn_25 : decode cX10_isOn 25 = .ok (.goto 4, 3) := by decide +kernel
theorem dX10_isOn_28 : decode cX10_isOn 28 = .ok (.iconst 0, 1) := by decide +kernel
theorem dX10_isOn_29 : decode cX10_isOn 29 = .ok (.ireturn, 1) := by decide +kernel
theorem dX10_cycle_0 : decode cX10_cycle 0 = .ok (.aload_n 0, 1) := by decide +kernel
theorem dX10_cycle_1 : decode cX10_cycle 1 = .ok (.iconst 0, 1) := by decide +kernel
theorem dX10_cycle_2 : decode cX10_cycle 2 = .ok (.putfield 47, 3) := by decide +kernel
theorem dX10_cycle_5 : decode cX10_cycle 5 = .ok (.iload_n 1, 1) := by decide +kernel
theorem dX10_cycle_6 : decode cX10_cycle 6 = .ok (.bipush 30, 2) := by decide +kernel
theorem dX10_cycle_8 : decode cX10_cycle 8 = .ok (.bipush 120, 2) := by decide +kernel
theorem dX10_cycle_10 : decode cX10_cycle 10 = .ok (.invokestatic 70, 3) := by decide +kernel
theorem dX10_cycle_13 : decode cX10_cycle 13 = .ok (.ifCond .ne 9, 3) := by decide +kernel
theorem dX10_cycle_16 : decode cX10_cycle 16 = .ok (.aload_n 0, 1) := by decide +kernel
theorem dX10_cycle_17 : decode cX10_cycle 17 = .ok (.iconst 1, 1) := by decide +kernel
theorem dX10_cycle_18 : decode cX10_cycle 18 = .ok (.invokevirtual 53, 3) := by decide +kernel
theorem dX10_cycle_21 : decode cX10_cycle 21 = .ok (.ireturn, 1) := by decide +kernel
theorem dX10_cycle_22 : decode cX10_cycle 22 = .ok (.iconst 0, 1) := by decide +kernel
theorem dX10_cycle_23 : decode cX10_cycle 23 = .ok (.istore_n 2, 1) := by decide +kernel
theorem dX10_cycle_24 : decode cX10_cycle 24 = .ok (.iload_n 2, 1) := by decide +kernel
theorem dX10_cycle_25 : decode cX10_cycle 25 = .ok (.aload_n 0, 1) := by decide +kernel
theorem dX10_cycle_26 : decode cX10_cycle 26 = .ok (.getfield 9, 3) := by decide +kernel
theorem dX10_cycle_29 : decode cX10_cycle 29 = .ok (.iconst 2, 1) := by decide +kernel
theorem dX10_cycle_30 : decode cX10_cycle 30 = .ok (.iaload, 1) := by decide +kernel
theorem dX10_cycle_31 : decode cX10_cycle 31 = .ok (.if_icmp .ge 76, 3) := by decide +kernel
theorem dX10_cycle_34 : decode cX10_cycle 34 = .ok (.aload_n 0, 1) := by decide +kernel
theorem dX10_cycle_35 : decode cX10_cycle 35 = .ok (.iload_n 2, 1) := by decide +kernel
theorem dX10_cycle_36 : decode cX10_cycle 36 = .ok (.iconst 1, 1) := by decide +kernel
theorem dX10_cycle_37 : decode cX10_cycle 37 = .ok (.invokevirtual 78, 3) := by decide +kernel
theorem dX10_cycle_40 : decode cX10_cycle 40 = .ok (.iload_n 1, 1) := by decide +kernel
theorem dX10_cycle_41 : decode cX10_cycle 41 = .ok (.if_icmp .ge 12, 3) := by decide +kernel
theorem dX10_cycle_44 : decode cX10_cycle 44 = .ok (.aload_n 0, 1) := by decide +kernel
theorem dX10_cycle_45 : decode cX10_cycle 45 = .ok (.iload_n 2, 1) := by decide +kernel
theorem dX10_cycle_46 : decode cX10_cycle 46 = .ok (.iconst 4, 1) := by decide +kernel
theorem dX10_cycle_47 : decode cX10_cycle 47 = .ok (.invokevirtual 78, 3) := by decide +kernel
theorem dX10_cycle_50 : decode cX10_cycle 50 = .ok (.ifCond .lt 9, 3) := by decide +kernel
theorem dX10_cycle_53 : decode cX10_cycle 53 = .ok (.aload_n 0, 1) := by decide +kernel
theorem dX10_cycle_54 : decode cX10_cycle 54 = .ok (.iconst 2, 1) := by decide +kernel
theorem dX10_cycle_55 : decode cX10_cycle 55 = .ok (.invokevirtual 53, 3) := by decide +kernel
theorem dX10_cycle_58 : decode cX10_cycle 58 = .ok (.ireturn, 1) := by decide +kernel
theorem dX10_cycle_59 : decode cX10_cycle 59 = .ok (.iconst 0, 1) := by decide +kernel
theorem dX10_cycle_60 : decode cX10_cycle 60 = .ok (.istore_n 3, 1) := by decide +kernel
theorem dX10_cycle_61 : decode cX10_cycle 61 = .ok (.iload_n 3, 1) := by decide +kernel
theorem dX10_cycle_62 : decode cX10_cycle 62 = .ok (.aload_n 0, 1) := by decide +kernel
theorem dX10_cycle_63 : decode cX10_cycle 63 = .ok (.iload_n 2, 1) := by decide +kernel
theorem dX10_cycle_64 : decode cX10_cycle 64 = .ok (.iconst 2, 1) := by decide +kernel
theorem dX10_cycle_65 : decode cX10_cycle 65 = .ok (.invokevirtual 78, 3) := by decide +kernel
theorem dX10_cycle_68 : decode cX10_cycle 68 = .ok (.if_icmp .ge 33, 3) := by decide +kernel
theorem dX10_cycle_71 : decode cX10_cycle 71 = .ok (.aload_n 0, 1) := by decide +kernel
theorem dX10_cycle_72 : decode cX10_cycle 72 = .ok (.iload_n 2, 1) := by decide +kernel
theorem dX10_cycle_73 : decode cX10_cycle 73 = .ok (.iconst 0, 1) := by decide +kernel
theorem dX10_cycle_74 : decode cX10_cycle 74 = .ok (.iload_n 3, 1) := by decide +kernel
theorem dX10_cycle_75 : decode cX10_cycle 75 = .ok (.invokevirtual 96, 3) := by decide +kernel
theorem dX10_cycle_78 : decode cX10_cycle 78 = .ok (.aload_n 0, 1) := by decide +kernel
theorem dX10_cycle_79 : decode cX10_cycle 79 = .ok (.iload_n 2, 1) := by decide +kernel
theorem dX10_cycle_80 : decode cX10_cycle 80 = .ok (.iconst 1, 1) := by decide +kernel
theorem dX10_cycle_81 : decode cX10_cycle 81 = .ok (.iload_n 3, 1) := by decide +kernel
theorem dX10_cycle_82 : decode cX10_cycle 82 = .ok (.invokevirtual 96, 3) := by decide +kernel
theorem dX10_cycle_85 : decode cX10_cycle 85 = .ok (.iadd, 1) := by decide +kernel
theorem dX10_cycle_86 : decode cX10_cycle 86 = .ok (.ifCond .le 9, 3) := by decide +kernel
theorem dX10_cycle_89 : decode cX10_cycle 89 = .ok (.aload_n 0, 1) := by decide +kernel
theorem dX10_cycle_90 : decode cX10_cycle 90 = .ok (.iconst 2, 1) := by decide +kernel
theorem dX10_cycle_91 : decode cX10_cycle 91 = .ok (.invokevirtual 53, 3) := by decide +kernel
theorem dX10_cycle_94 : decode cX10_cycle 94 = .ok (.ireturn, 1) := by decide +kernel
theorem dX10_cycle_95 : decode cX10_cycle 95 = .ok (.iinc 3 1, 3) := by decide +kernel
theorem dX10_cycle_98 : decode cX10_cycle 98 = .ok (.goto (-37), 3) := by decide +kernel
theorem dX10_cycle_101 : decode cX10_cycle 101 = .ok (.iinc 2 1, 3) := by decide +kernel
theorem dX10_cycle_104 : decode cX10_cycle 104 = .ok (.goto (-80), 3) := by decide +kernel
theorem dX10_cycle_107 : decode cX10_cycle 107 = .ok (.aload_n 0, 1) := by decide +kernel
theorem dX10_cycle_108 : decode cX10_cycle 108 = .ok (.invokevirtual 99, 3) := by decide +kernel
theorem dX10_cycle_111 : decode cX10_cycle 111 = .ok (.aload_n 0, 1) := by decide +kernel
theorem dX10_cycle_112 : decode cX10_cycle 112 = .ok (.getfield 9, 3) := by decide +kernel
theorem dX10_cycle_115 : decode cX10_cycle 115 = .ok (.iconst 0, 1) := by decide +kernel
theorem dX10_cycle_116 : decode cX10_cycle 116 = .ok (.iaload, 1) := by decide +kernel
theorem dX10_cycle_117 : decode cX10_cycle 117 = .ok (.istore_n 2, 1) := by decide +kernel
theorem dX10_cycle_118 : decode cX10_cycle 118 = .ok (.aload_n 0, 1) := by decide +kernel
theorem dX10_cycle_119 : decode cX10_cycle 119 = .ok (.getfield 9, 3) := by decide +kernel
theorem dX10_cycle_122 : decode cX10_cycle 122 = .ok (.iconst 0, 1) := by decide +kernel
theorem dX10_cycle_123 : decode cX10_cycle 123 = .ok (.iload_n 1, 1) := by decide +kernel
theorem dX10_cycle_124 : decode cX10_cycle 124 = .ok (.iastore, 1) := by decide +kernel
theorem dX10_cycle_125 : decode cX10_cycle 125 = .ok (.iload_n 2, 1) := by decide +kernel
theorem dX10_cycle_126 : decode cX10_cycle 126 = .ok (.ireturn, 1) := by decide +kernel
theorem dX10_speed_0 : decode cX10_speed 0 = .ok (.aload_n 0, 1) := by decide +kernel
theorem dX10_speed_1 : decode cX10_speed 1 = .ok (.iconst 0, 1) := by decide +kernel
theorem dX10_speed_2 : decode cX10_speed 2 = .ok (.putfield 47, 3) := by decide +kernel
theorem dX10_speed_5 : decode cX10_speed 5 = .ok (.iload_n 1, 1) := by decide +kernel
theorem dX10_speed_6 : decode cX10_speed 6 = .ok (.iconst 5, 1) := by decide +kernel
theorem dX10_speed_7 : decode cX10_speed 7 = .ok (.bipush 25, 2) := by decide +kernel
theorem dX10_speed_9 : decode cX10_speed 9 = .ok (.invokestatic 70, 3) := by decide +kernel
theorem dX10_speed_12 : decode cX10_speed 12 = .ok (.ifCond .ne 9, 3) := by decide +kernel
theorem dX10_speed_15 : decode cX10_speed 15 = .ok (.aload_n 0, 1) := by decide +kernel
theorem dX10_speed_16 : decode cX10_speed 16 = .ok (.iconst 1, 1) := by decide +kernel
theorem dX10_speed_17 : decode cX10_speed 17 = .ok (.invokevirtual 53, 3) := by decide +kernel
theorem dX10_speed_20 : decode cX10_speed 20 = .ok (.ireturn, 1) := by decide +kernel
theorem dX10_speed_21 : decode cX10_speed 21 = .ok (.aload_n 0, 1) := by decide +kernel
theorem dX10_speed_22 : decode cX10_speed 22 = .ok (.invokevirtual 99, 3) := by decide +kernel
theorem dX10_speed_25 : decode cX10_speed 25 = .ok (.aload_n 0, 1) := by decide +kernel
theorem dX10_speed_26 : decode cX10_speed 26 = .ok (.getfield 9, 3) := by decide +kernel
theorem dX10_speed_29 : decode cX10_speed 29 = .ok (.iconst 1, 1) := by decide +kernel
theorem dX10_speed_30 : decode cX10_speed 30 = .ok (.iaload, 1) := by decide +kernel
theorem dX10_speed_31 : decode cX10_speed 31 = .ok (.istore_n 2, 1) := by decide +kernel
theorem dX10_speed_32 : decode cX10_speed 32 = .ok (.aload_n 0, 1) := by decide +kernel
theorem dX10_speed_33 : decode cX10_speed 33 = .ok (.getfield 9, 3) := by decide +kernel
theorem dX10_speed_36 : decode cX10_speed 36 = .ok (.iconst 1, 1) := by decide +kernel
theorem dX10_speed_37 : decode cX10_speed 37 = .ok (.iload_n 1, 1) := by decide +kernel
theorem dX10_speed_38 : decode cX10_speed 38 = .ok (.iastore, 1) := by decide +kernel
theorem dX10_speed_39 : decode cX10_speed 39 = .ok (.iload_n 2, 1) := by decide +kernel
theorem dX10_speed_40 : decode cX10_speed 40 = .ok (.ireturn, 1) := by decide +kernel
theorem dX10_junction_0 : decode cX10_junction 0 = .ok (.aload_n 0, 1) := by decide +kernel
theorem dX10_junction_1 : decode cX10_junction 1 = .ok (.iconst 0, 1) := by decide +kernel
theorem dX10_junction_2 : decode cX10_junction 2 = .ok (.putfield 47, 3) := by decide +kernel
theorem dX10_junction_5 : decode cX10_junction 5 = .ok (.aload_n 0, 1) := by decide +kernel
theorem dX10_junction_6 : decode cX10_junction 6 = .ok (.getfield 9, 3) := by decide +kernel
theorem dX10_junction_9 : decode cX10_junction 9 = .ok (.iconst 2, 1) := by decide +kernel
theorem dX10_junction_10 : decode cX10_junction 10 = .ok (.iaload, 1) := by decide +kernel
theorem dX10_junction_11 : decode cX10_junction 11 = .ok (.istore_n 2, 1) := by decide +kernel
theorem dX10_junction_12 : decode cX10_junction 12 = .ok (.iload_n 1, 1) := by decide +kernel
theorem dX10_junction_13 : decode cX10_junction 13 = .ok (.iconst 0, 1) := by decide +kernel
theorem dX10_junction_14 : decode cX10_junction 14 = .ok (.sipush 9999, 3) := by decide +kernel
theorem dX10_junction_17 : decode cX10_junction 17 = .ok (.invokestatic 70, 3) := by decide +kernel
theorem dX10_junction_20 : decode cX10_junction 20 = .ok (.ifCond .eq 19, 3) := by decide +kernel
theorem dX10_junction_23 : decode cX10_junction 23 = .ok (.iload_n 2, 1) := by decide +kernel
theorem dX10_junction_24 : decode cX10_junction 24 = .ok (.ifCond .le 21, 3) := by decide +kernel
theorem dX10_junction_27 : decode cX10_junction 27 = .ok (.iload_n 1, 1) := by decide +kernel
theorem dX10_junction_28 : decode cX10_junction 28 = .ok (.aload_n 0, 1) := by decide +kernel
theorem dX10_junction_29 : decode cX10_junction 29 = .ok (.iload_n 2, 1) := by decide +kernel
theorem dX10_junction_30 : decode cX10_junction 30 = .ok (.iconst 1, 1) := by decide +kernel
theorem dX10_junction_31 : decode cX10_junction 31 = .ok (.isub, 1) := by decide +kernel
theorem dX10_junction_32 : decode cX10_junction 32 = .ok (.iconst 0, 1) := by decide +kernel
theorem dX10_junction_33 : decode cX10_junction 33 = .ok (.invokevirtual 78, 3) := by decide +kernel
theorem dX10_junction_36 : decode cX10_junction 36 = .ok (.if_icmp .gt 9, 3) := by decide +kernel
theorem dX10_junction_39 : decode cX10_junction 39 = .ok (.aload_n 0, 1) := by decide +kernel
theorem dX10_junction_40 : decode cX10_junction 40 = .ok (.iconst 1, 1) := by decide +kernel
theorem dX10_junction_41 : decode cX10_junction 41 = .ok (.invokevirtual 53, 3) := by decide +kernel
theorem dX10_junction_44 : decode cX10_junction 44 = .ok (.ireturn, 1) := by decide +kernel
theorem dX10_junction_45 : decode cX10_junction 45 = .ok (.iload_n 2, 1) := by decide +kernel
theorem dX10_junction_46 : decode cX10_junction 46 = .ok (.iconst 4, 1) := by decide +kernel
theorem dX10_junction_47 : decode cX10_junction 47 = .ok (.if_icmp .ne 9, 3) := by decide +kernel
theorem dX10_junction_50 : decode cX10_junction 50 = .ok (.aload_n 0, 1) := by decide +kernel
theorem dX10_junction_51 : decode cX10_junction 51 = .ok (.iconst 2, 1) := by decide +kernel
theorem dX10_junction_52 : decode cX10_junction 52 = .ok (.invokevirtual 53, 3) := by decide +kernel
theorem dX10_junction_55 : decode cX10_junction 55 = .ok (.ireturn, 1) := by decide +kernel
theorem dX10_junction_56 : decode cX10_junction 56 = .ok (.aload_n 0, 1) := by decide +kernel
theorem dX10_junction_57 : decode cX10_junction 57 = .ok (.invokevirtual 99, 3) := by decide +kernel
theorem dX10_junction_60 : decode cX10_junction 60 = .ok (.iconst 0, 1) := by decide +kernel
theorem dX10_junction_61 : decode cX10_junction 61 = .ok (.istore_n 3, 1) := by decide +kernel
theorem dX10_junction_62 : decode cX10_junction 62 = .ok (.iload_n 3, 1) := by decide +kernel
theorem dX10_junction_63 : decode cX10_junction 63 = .ok (.bipush 121, 2) := by decide +kernel
theorem dX10_junction_65 : decode cX10_junction 65 = .ok (.if_icmp .ge 47, 3) := by decide +kernel
theorem dX10_junction_68 : decode cX10_junction 68 = .ok (.aload_n 0, 1) := by decide +kernel
theorem dX10_junction_69 : decode cX10_junction 69 = .ok (.getfield 9, 3) := by decide +kernel
theorem dX10_junction_72 : decode cX10_junction 72 = .ok (.iload_n 2, 1) := by decide +kernel
theorem dX10_junction_73 : decode cX10_junction 73 = .ok (.invokestatic 63, 3) := by decide +kernel
theorem dX10_junction_76 : decode cX10_junction 76 = .ok (.iload_n 3, 1) := by decide +kernel
theorem dX10_junction_77 : decode cX10_junction 77 = .ok (.iadd, 1) := by decide +kernel
theorem dX10_junction_78 : decode cX10_junction 78 = .ok (.iload_n 3, 1) := by decide +kernel
theorem dX10_junction_79 : decode cX10_junction 79 = .ok (.bipush 85, 2) := by decide +kernel
theorem dX10_junction_81 : decode cX10_junction 81 = .ok (.if_icmp .ge 19, 3) := by decide +kernel
theorem dX10_junction_84 : decode cX10_junction 84 = .ok (.iload_n 3, 1) := by decide +kernel
theorem dX10_junction_85 : decode cX10_junction 85 = .ok (.iconst 4, 1) := by decide +kernel
theorem dX10_junction_86 : decode cX10_junction 86 = .ok (.if_icmp .eq 14, 3) := by decide +kernel
theorem dX10_junction_89 : decode cX10_junction 89 = .ok (.iload_n 3, 1) := by decide +kernel
theorem dX10_junction_90 : decode cX10_junction 90 = .ok (.iconst 5, 1) := by decide +kernel
theorem dX10_junction_91 : decode cX10_junction 91 = .ok (.if_icmp .eq 9, 3) := by decide +kernel
theorem dX10_junction_94 : decode cX10_junction 94 = .ok (.iload_n 3, 1) := by decide +kernel
theorem dX10_junction_95 : decode cX10_junction 95 = .ok (.bipush 6, 2) := by decide +kernel
theorem dX10_junction_97 : decode cX10_junction 97 = .ok (.if_icmp .ne 7, 3) := by decide +kernel
theorem dX10_junction_100 : decode cX10_junction 100 = .ok (.iconst (-1), 1) := by decide +kernel
theorem dX10_junction_101 : decode cX10_junction 101 = .ok (.goto 4, 3) := by decide +kernel
theorem dX10_junction_104 : decode cX10_junction 104 = .ok (.iconst 0, 1) := by decide +kernel
theorem dX10_junction_105 : decode cX10_junction 105 = .ok (.iastore, 1) := by decide +kernel
theorem dX10_junction_106 : decode cX10_junction 106 = .ok (.iinc 3 1, 3) := by decide +kernel
theorem dX10_junction_109 : decode cX10_junction 109 = .ok (.goto (-47), 3) := by decide +kernel
theorem dX10_junction_112 : decode cX10_junction 112 = .ok (.aload_n 0, 1) := by decide +kernel
theorem dX10_junction_113 : decode cX10_junction 113 = .ok (.getfield 9, 3) := by decide +kernel
theorem dX10_junction_116 : decode cX10_junction 116 = .ok (.iload_n 2, 1) := by decide +kernel
theorem dX10_junction_117 : decode cX10_junction 117 = .ok (.invokestatic 63, 3) := by decide +kernel
theorem dX10_junction_120 : decode cX10_junction 120 = .ok (.iload_n 1, 1) := by decide +kernel
theorem dX10_junction_121 : decode cX10_junction 121 = .ok (.iastore, 1) := by decide +kernel
theorem dX10_junction_122 : decode cX10_junction 122 = .ok (.aload_n 0, 1) := by decide +kernel
theorem dX10_junction_123 : decode cX10_junction 123 = .ok (.getfield 9, 3) := by decide +kernel
theorem dX10_junction_126 : decode cX10_junction 126 = .ok (.iconst 2, 1) := by decide +kernel
theorem dX10_junction_127 : decode cX10_junction 127 = .ok (.dup2, 1) := by decide +kernel
theorem dX10_junction_128 : decode cX10_junction 128 = .ok (.iaload, 1) := by decide +kernel
theorem dX10_junction_129 : decode cX10_junction 129 = .ok (.dup_x2, 1) := by decide +kernel
theorem dX10_junction_130 : decode cX10_junction 130 = .ok (.iconst 1, 1) := by decide +kernel
theorem dX10_junction_131 : decode cX10_junction 131 = .ok (.iadd, 1) := by decide +kernel
theorem dX10_junction_132 : decode cX10_junction 132 = .ok (.iastore, 1) := by decide +kernel
theorem dX10_junction_133 : decode cX10_junction 133 = .ok (.ireturn, 1) := by decide +kernel
theorem dX10_offsets_0 : decode cX10_offsets 0 = .ok (.aload_n 0, 1) := by decide +kernel
theorem dX10_offsets_1 : decode cX10_offsets 1 = .ok (.iload_n 1, 1) := by decide +kernel
theorem dX10_offsets_2 : decode cX10_offsets 2 = .ok (.invokevirtual 74, 3) := by decide +kernel
theorem dX10_offsets_5 : decode cX10_offsets 5 = .ok (.ifCond .ne 5, 3) := by decide +kernel
theorem dX10_offsets_8 : decode cX10_offsets 8 = .ok (.iconst 1, 1) := by decide +kernel
theorem dX10_offsets_9 : decode cX10_offsets 9 = .ok (.ireturn, 1) := by decide +kernel
theorem dX10_offsets_10 : decode cX10_offsets 10 = .ok (.iload_n 2, 1) := by decide +kernel
theorem dX10_offsets_11 : decode cX10_offsets 11 = .ok (.iconst 0, 1) := by decide +kernel
theorem dX10_offsets_12 : decode cX10_offsets 12 = .ok (.aload_n 0, 1) := by decide +kernel
theorem dX10_offsets_13 : decode cX10_offsets 13 = .ok (.getfield 9, 3) := by decide +kernel
theorem dX10_offsets_16 : decode cX10_offsets 16 = .ok (.iconst 0, 1) := by decide +kernel
theorem dX10_offsets_17 : decode cX10_offsets 17 = .ok (.iaload, 1) := by decide +kernel
theorem dX10_offsets_18 : decode cX10_offsets 18 = .ok (.iconst 1, 1) := by decide +kernel
theorem dX10_offsets_19 : decode cX10_offsets 19 = .ok (.isub, 1) := by decide +kernel
theorem dX10_offsets_20 : decode cX10_offsets 20 = .ok (.invokestatic 70, 3) := by decide +kernel
theorem dX10_offsets_23 : decode cX10_offsets 23 = .ok (.ifCond .ne 5, 3) := by decide +kernel
theorem dX10_offsets_26 : decode cX10_offsets 26 = .ok (.iconst 2, 1) := by decide +kernel
theorem dX10_offsets_27 : decode cX10_offsets 27 = .ok (.ireturn, 1) := by decide +kernel
theorem dX10_offsets_28 : decode cX10_offsets 28 = .ok (.aload_n 0, 1) := by decide +kernel
theorem dX10_offsets_29 : decode cX10_offsets 29 = .ok (.iload_n 1, 1) := by decide +kernel
theorem dX10_offsets_30 : decode cX10_offsets 30 = .ok (.iconst 4, 1) := by decide +kernel
theorem dX10_offsets_31 : decode cX10_offsets 31 = .ok (.invokevirtual 78, 3) := by decide +kernel
theorem dX10_offsets_34 : decode cX10_offsets 34 = .ok (.ifCond .lt 5, 3) := by decide +kernel
theorem dX10_offsets_37 : decode cX10_offsets 37 = .ok (.iconst 3, 1) := by decide +kernel
theorem dX10_offsets_38 : decode cX10_offsets 38 = .ok (.ireturn, 1) := by decide +kernel
theorem dX10_offsets_39 : decode cX10_offsets 39 = .ok (.aload_n 0, 1) := by decide +kernel
theorem dX10_offsets_40 : decode cX10_offsets 40 = .ok (.aload_n 0, 1) := by decide +kernel
theorem dX10_offsets_41 : decode cX10_offsets 41 = .ok (.iload_n 1, 1) := by decide +kernel
theorem dX10_offsets_42 : decode cX10_offsets 42 = .ok (.iconst 1, 1) := by decide +kernel
theorem dX10_offsets_43 : decode cX10_offsets 43 = .ok (.invokevirtual 78, 3) := by decide +kernel
theorem dX10_offsets_46 : decode cX10_offsets 46 = .ok (.putfield 102, 3) := by decide +kernel
theorem dX10_offsets_49 : decode cX10_offsets 49 = .ok (.aload_n 0, 1) := by decide +kernel
theorem dX10_offsets_50 : decode cX10_offsets 50 = .ok (.getfield 9, 3) := by decide +kernel
theorem dX10_offsets_53 : decode cX10_offsets 53 = .ok (.iload_n 1, 1) := by decide +kernel
theorem dX10_offsets_54 : decode cX10_offsets 54 = .ok (.invokestatic 63, 3) := by decide +kernel
theorem dX10_offsets_57 : decode cX10_offsets 57 = .ok (.iconst 1, 1) := by decide +kernel
theorem dX10_offsets_58 : decode cX10_offsets 58 = .ok (.iadd, 1) := by decide +kernel
theorem dX10_offsets_59 : decode cX10_offsets 59 = .ok (.iload_n 2, 1) := by decide +kernel
theorem dX10_offsets_60 : decode cX10_offsets 60 = .ok (.iastore, 1) := by decide +kernel
theorem dX10_offsets_61 : decode cX10_offsets 61 = .ok (.iconst 0, 1) := by decide +kernel
theorem dX10_offsets_62 : decode cX10_offsets 62 = .ok (.ireturn, 1) := by decide +kernel
theorem dX10_roads_0 : decode cX10_roads 0 = .ok (.aload_n 0, 1) := by decide +kernel
theorem dX10_roads_1 : decode cX10_roads 1 = .ok (.iload_n 1, 1) := by decide +kernel
theorem dX10_roads_2 : decode cX10_roads 2 = .ok (.iload_n 2, 1) := by decide +kernel
theorem dX10_roads_3 : decode cX10_roads 3 = .ok (.invokevirtual 105, 3) := by decide +kernel
theorem dX10_roads_6 : decode cX10_roads 6 = .ok (.ifCond .eq 12, 3) := by decide +kernel
theorem dX10_roads_9 : decode cX10_roads 9 = .ok (.aload_n 0, 1) := by decide +kernel
theorem dX10_roads_10 : decode cX10_roads 10 = .ok (.iload_n 1, 1) := by decide +kernel
theorem dX10_roads_11 : decode cX10_roads 11 = .ok (.iload_n 3, 1) := by decide +kernel
theorem dX10_roads_12 : decode cX10_roads 12 = .ok (.invokevirtual 105, 3) := by decide +kernel
theorem dX10_roads_15 : decode cX10_roads 15 = .ok (.ifCond .ne 5, 3) := by decide +kernel
theorem dX10_roads_18 : decode cX10_roads 18 = .ok (.iconst 1, 1) := by decide +kernel
theorem dX10_roads_19 : decode cX10_roads 19 = .ok (.ireturn, 1) := by decide +kernel
theorem dX10_roads_20 : decode cX10_roads 20 = .ok (.iload_n 1, 1) := by decide +kernel
theorem dX10_roads_21 : decode cX10_roads 21 = .ok (.invokestatic 63, 3) := by decide +kernel
theorem dX10_roads_24 : decode cX10_roads 24 = .ok (.iconst 5, 1) := by decide +kernel
theorem dX10_roads_25 : decode cX10_roads 25 = .ok (.iadd, 1) := by decide +kernel
theorem dX10_roads_26 : decode cX10_roads 26 = .ok (.istore 4, 2) := by decide +kernel
theorem dX10_roads_28 : decode cX10_roads 28 = .ok (.aload_n 0, 1) := by decide +kernel
theorem dX10_roads_29 : decode cX10_roads 29 = .ok (.aload_n 0, 1) := by decide +kernel
theorem dX10_roads_30 : decode cX10_roads 30 = .ok (.getfield 9, 3) := by decide +kernel
theorem dX10_roads_33 : decode cX10_roads 33 = .ok (.iload 4, 2) := by decide +kernel
theorem dX10_roads_35 : decode cX10_roads 35 = .ok (.iaload, 1) := by decide +kernel
theorem dX10_roads_36 : decode cX10_roads 36 = .ok (.ifCond .ge 7, 3) := by decide +kernel
theorem dX10_roads_39 : decode cX10_roads 39 = .ok (.iconst (-1), 1) := by decide +kernel
theorem dX10_roads_40 : decode cX10_roads 40 = .ok (.goto 23, 3) := by decide +kernel
theorem dX10_roads_43 : decode cX10_roads 43 = .ok (.bipush 10, 2) := by decide +kernel
theorem dX10_roads_45 : decode cX10_roads 45 = .ok (.aload_n 0, 1) := by decide +kernel
theorem dX10_roads_46 : decode cX10_roads 46 = .ok (.getfield 9, 3) := by decide +kernel
theorem dX10_roads_49 : decode cX10_roads 49 = .ok (.iload 4, 2) := by decide +kernel
theorem dX10_roads_51 : decode cX10_roads 51 = .ok (.iaload, 1) := by decide +kernel
theorem dX10_roads_52 : decode cX10_roads 52 = .ok (.imul, 1) := by decide +kernel
theorem dX10_roads_53 : decode cX10_roads 53 = .ok (.aload_n 0, 1) := by decide +kernel
theorem dX10_roads_54 : decode cX10_roads 54 = .ok (.getfield 9, 3) := by decide +kernel
theorem dX10_roads_57 : decode cX10_roads 57 = .ok (.iload 4, 2) := by decide +kernel
theorem dX10_roads_59 : decode cX10_roads 59 = .ok (.iconst 1, 1) := by decide +kernel
theorem dX10_roads_60 : decode cX10_roads 60 = .ok (.iadd, 1) := by decide +kernel
theorem dX10_roads_61 : decode cX10_roads 61 = .ok (.iaload, 1) := by decide +kernel
theorem dX10_roads_62 : decode cX10_roads 62 = .ok (.iadd, 1) := by decide +kernel
theorem dX10_roads_63 : decode cX10_roads 63 = .ok (.putfield 102, 3) := by decide +kernel
theorem dX10_roads_66 : decode cX10_roads 66 = .ok (.aload_n 0, 1) := by decide +kernel
theorem dX10_roads_67 : decode cX10_roads 67 = .ok (.getfield 9, 3) := by decide +kernel
theorem dX10_roads_70 : decode cX10_roads 70 = .ok (.iload 4, 2) := by decide +kernel
theorem dX10_roads_72 : decode cX10_roads 72 = .ok (.iload_n 2, 1) := by decide +kernel
theorem dX10_roads_73 : decode cX10_roads 73 = .ok (.iastore, 1) := by decide +kernel
theorem dX10_roads_74 : decode cX10_roads 74 = .ok (.aload_n 0, 1) := by decide +kernel
theorem dX10_roads_75 : decode cX10_roads 75 = .ok (.getfield 9, 3) := by decide +kernel
theorem dX10_roads_78 : decode cX10_roads 78 = .ok (.iload 4, 2) := by decide +kernel
theorem dX10_roads_80 : decode cX10_roads 80 = .ok (.iconst 1, 1) := by decide +kernel
theorem dX10_roads_81 : decode cX10_roads 81 = .ok (.iadd, 1) := by decide +kernel
theorem dX10_roads_82 : decode cX10_roads 82 = .ok (.iload_n 3, 1) := by decide +kernel
theorem dX10_roads_83 : decode cX10_roads 83 = .ok (.iastore, 1) := by decide +kernel
theorem dX10_roads_84 : decode cX10_roads 84 = .ok (.iconst 0, 1) := by decide +kernel
theorem dX10_roads_85 : decode cX10_roads 85 = .ok (.ireturn, 1) := by decide +kernel
theorem dX10_ends_0 : decode cX10_ends 0 = .ok (.iload_n 1, 1) := by decide +kernel
theorem dX10_ends_1 : decode cX10_ends 1 = .ok (.ifCond .le 36, 3) := by decide +kernel
theorem dX10_ends_4 : decode cX10_ends 4 = .ok (.iconst 0, 1) := by decide +kernel
theorem dX10_ends_5 : decode cX10_ends 5 = .ok (.istore_n 2, 1) := by decide +kernel
theorem dX10_ends_6 : decode cX10_ends 6 = .ok (.iload_n 2, 1) := by decide +kernel
theorem dX10_ends_7 : decode cX10_ends 7 = .ok (.sipush 490, 3) := by decide +kernel
theorem dX10_ends_10 : decode cX10_ends 10 = .ok (.if_icmp .ge 21, 3) := by decide +kernel
theorem dX10_ends_13 : decode cX10_ends 13 = .ok (.aload_n 0, 1) := by decide +kernel
theorem dX10_ends_14 : decode cX10_ends 14 = .ok (.getfield 9, 3) := by decide +kernel
theorem dX10_ends_17 : decode cX10_ends 17 = .ok (.iload_n 2, 1) := by decide +kernel
theorem dX10_ends_18 : decode cX10_ends 18 = .ok (.aload_n 0, 1) := by decide +kernel
theorem dX10_ends_19 : decode cX10_ends 19 = .ok (.getfield 19, 3) := by decide +kernel
theorem dX10_ends_22 : decode cX10_ends 22 = .ok (.iload_n 2, 1) := by decide +kernel
theorem dX10_ends_23 : decode cX10_ends 23 = .ok (.iaload, 1) := by decide +kernel
theorem dX10_ends_24 : decode cX10_ends 24 = .ok (.iastore, 1) := by decide +kernel
theorem dX10_ends_25 : decode cX10_ends 25 = .ok (.iinc 2 1, 3) := by decide +kernel
theorem dX10_ends_28 : decode cX10_ends 28 = .ok (.goto (-22), 3) := by decide +kernel
theorem dX10_ends_31 : decode cX10_ends 31 = .ok (.aload_n 0, 1) := by decide +kernel
theorem dX10_ends_32 : decode cX10_ends 32 = .ok (.iload_n 1, 1) := by decide +kernel
theorem dX10_ends_33 : decode cX10_ends 33 = .ok (.invokevirtual 53, 3) := by decide +kernel
theorem dX10_ends_36 : decode cX10_ends 36 = .ok (.ireturn, 1) := by decide +kernel
theorem dX10_ends_37 : decode cX10_ends 37 = .ok (.aload_n 0, 1) := by decide +kernel
theorem dX10_ends_38 : decode cX10_ends 38 = .ok (.invokevirtual 60, 3) := by decide +kernel
theorem dX10_ends_41 : decode cX10_ends 41 = .ok (.aload_n 0, 1) := by decide +kernel
theorem dX10_ends_42 : decode cX10_ends 42 = .ok (.getfield 102, 3) := by decide +kernel
theorem dX10_ends_45 : decode cX10_ends 45 = .ok (.ireturn, 1) := by decide +kernel
theorem dX10_offset_0 : decode cX10_offset 0 = .ok (.aload_n 0, 1) := by decide +kernel
theorem dX10_offset_1 : decode cX10_offset 1 = .ok (.invokevirtual 109, 3) := by decide +kernel
theorem dX10_offset_4 : decode cX10_offset 4 = .ok (.aload_n 0, 1) := by decide +kernel
theorem dX10_offset_5 : decode cX10_offset 5 = .ok (.aload_n 0, 1) := by decide +kernel
theorem dX10_offset_6 : decode cX10_offset 6 = .ok (.iload_n 1, 1) := by decide +kernel
theorem dX10_offset_7 : decode cX10_offset 7 = .ok (.iload_n 2, 1) := by decide +kernel
theorem dX10_offset_8 : decode cX10_offset 8 = .ok (.invokevirtual 112, 3) := by decide +kernel
theorem dX10_offset_11 : decode cX10_offset 11 = .ok (.invokevirtual 115, 3) := by decide +kernel
theorem dX10_offset_14 : decode cX10_offset 14 = .ok (.ireturn, 1) := by decide +kernel
theorem dX10_road_0 : decode cX10_road 0 = .ok (.aload_n 0, 1) := by decide +kernel
theorem dX10_road_1 : decode cX10_road 1 = .ok (.invokevirtual 109, 3) := by decide +kernel
theorem dX10_road_4 : decode cX10_road 4 = .ok (.aload_n 0, 1) := by decide +kernel
theorem dX10_road_5 : decode cX10_road 5 = .ok (.aload_n 0, 1) := by decide +kernel
theorem dX10_road_6 : decode cX10_road 6 = .ok (.iload_n 1, 1) := by decide +kernel
theorem dX10_road_7 : decode cX10_road 7 = .ok (.iload_n 2, 1) := by decide +kernel
theorem dX10_road_8 : decode cX10_road 8 = .ok (.iload_n 3, 1) := by decide +kernel
theorem dX10_road_9 : decode cX10_road 9 = .ok (.invokevirtual 118, 3) := by decide +kernel
theorem dX10_road_12 : decode cX10_road 12 = .ok (.invokevirtual 115, 3) := by decide +kernel
theorem dX10_road_15 : decode cX10_road 15 = .ok (.ireturn, 1) := by decide +kernel
theorem dX10_conflicts_0 : decode cX10_conflicts 0 = .ok (.iconst 0, 1) := by decide +kernel
theorem dX10_conflicts_1 : decode cX10_conflicts 1 = .ok (.istore_n 2, 1) := by decide +kernel
theorem dX10_conflicts_2 : decode cX10_conflicts 2 = .ok (.iconst 0, 1) := by decide +kernel
theorem dX10_conflicts_3 : decode cX10_conflicts 3 = .ok (.istore_n 3, 1) := by decide +kernel
theorem dX10_conflicts_4 : decode cX10_conflicts 4 = .ok (.iload_n 3, 1) := by decide +kernel
theorem dX10_conflicts_5 : decode cX10_conflicts 5 = .ok (.aload_n 0, 1) := by decide +kernel
theorem dX10_conflicts_6 : decode cX10_conflicts 6 = .ok (.iload_n 1, 1) := by decide +kernel
theorem dX10_conflicts_7 : decode cX10_conflicts 7 = .ok (.iconst 2, 1) := by decide +kernel
theorem dX10_conflicts_8 : decode cX10_conflicts 8 = .ok (.invokevirtual 78, 3) := by decide +kernel
theorem dX10_conflicts_11 : decode cX10_conflicts 11 = .ok (.if_icmp .ge 45, 3) := by decide +kernel
theorem dX10_conflicts_14 : decode cX10_conflicts 14 = .ok (.iload_n 3, 1) := by decide +kernel
theorem dX10_conflicts_15 : decode cX10_conflicts 15 = .ok (.iconst 1, 1) := by decide +kernel
theorem dX10_conflicts_16 : decode cX10_conflicts 16 = .ok (.iadd, 1) := by decide +kernel
theorem dX10_conflicts_17 : decode cX10_conflicts 17 = .ok (.istore 4, 2) := by decide +kernel
theorem dX10_conflicts_19 : decode cX10_conflicts 19 = .ok (.iload 4, 2) := by decide +kernel
theorem dX10_conflicts_21 : decode cX10_conflicts 21 = .ok (.aload_n 0, 1) := by decide +kernel
theorem dX10_conflicts_22 : decode cX10_conflicts 22 = .ok (.iload_n 1, 1) := by decide +kernel
theorem dX10_conflicts_23 : decode cX10_conflicts 23 = .ok (.iconst 2, 1) := by decide +kernel
theorem dX10_conflicts_24 : decode cX10_conflicts 24 = .ok (.invokevirtual 78, 3) := by decide +kernel
theorem dX10_conflicts_27 : decode cX10_conflicts 27 = .ok (.if_icmp .ge 23, 3) := by decide +kernel
theorem dX10_conflicts_30 : decode cX10_conflicts 30 = .ok (.aload_n 0, 1) := by decide +kernel
theorem dX10_conflicts_31 : decode cX10_conflicts 31 = .ok (.iload_n 1, 1) := by decide +kernel
theorem dX10_conflicts_32 : decode cX10_conflicts 32 = .ok (.iload_n 3, 1) := by decide +kernel
theorem dX10_conflicts_33 : decode cX10_conflicts 33 = .ok (.iload 4, 2) := by decide +kernel
theorem dX10_conflicts_35 : decode cX10_conflicts 35 = .ok (.invokevirtual 121, 3) := by decide +kernel
theorem dX10_conflicts_38 : decode cX10_conflicts 38 = .ok (.ifCond .lt 6, 3) := by decide +kernel
theorem dX10_conflicts_41 : decode cX10_conflicts 41 = .ok (.iinc 2 1, 3) := by decide +kernel
theorem dX10_conflicts_44 : decode cX10_conflicts 44 = .ok (.iinc 4 1, 3) := by decide +kernel
theorem dX10_conflicts_47 : decode cX10_conflicts 47 = .ok (.goto (-28), 3) := by decide +kernel
theorem dX10_conflicts_50 : decode cX10_conflicts 50 = .ok (.iinc 3 1, 3) := by decide +kernel
theorem dX10_conflicts_53 : decode cX10_conflicts 53 = .ok (.goto (-49), 3) := by decide +kernel
theorem dX10_conflicts_56 : decode cX10_conflicts 56 = .ok (.iload_n 2, 1) := by decide +kernel
theorem dX10_conflicts_57 : decode cX10_conflicts 57 = .ok (.ireturn, 1) := by decide +kernel
theorem dX10_told_0 : decode cX10_told 0 = .ok (.aload_n 0, 1) := by decide +kernel
theorem dX10_told_1 : decode cX10_told 1 = .ok (.iconst 0, 1) := by decide +kernel
theorem dX10_told_2 : decode cX10_told 2 = .ok (.putfield 47, 3) := by decide +kernel
theorem dX10_told_5 : decode cX10_told 5 = .ok (.aload_n 0, 1) := by decide +kernel
theorem dX10_told_6 : decode cX10_told 6 = .ok (.iload_n 1, 1) := by decide +kernel
theorem dX10_told_7 : decode cX10_told 7 = .ok (.invokevirtual 74, 3) := by decide +kernel
theorem dX10_told_10 : decode cX10_told 10 = .ok (.ifCond .ne 9, 3) := by decide +kernel
theorem dX10_told_13 : decode cX10_told 13 = .ok (.aload_n 0, 1) := by decide +kernel
theorem dX10_told_14 : decode cX10_told 14 = .ok (.iconst 1, 1) := by decide +kernel
theorem dX10_told_15 : decode cX10_told 15 = .ok (.invokevirtual 53, 3) := by decide +kernel
theorem dX10_told_18 : decode cX10_told 18 = .ok (.ireturn, 1) := by decide +kernel
theorem dX10_told_19 : decode cX10_told 19 = .ok (.iload_n 2, 1) := by decide +kernel
theorem dX10_told_20 : decode cX10_told 20 = .ok (.tableswitch 93 0 7 #[48, 48, 48, 55, 67, 74, 81, 87], 48) := by decide +kernel
theorem dX10_told_68 : decode cX10_told 68 = .ok (.aload_n 0, 1) := by decide +kernel
theorem dX10_told_69 : decode cX10_told 69 = .ok (.iload_n 1, 1) := by decide +kernel
theorem dX10_told_70 : decode cX10_told 70 = .ok (.iload_n 2, 1) := by decide +kernel
theorem dX10_told_71 : decode cX10_told 71 = .ok (.invokevirtual 78, 3) := by decide +kernel
theorem dX10_told_74 : decode cX10_told 74 = .ok (.ireturn, 1) := by decide +kernel
theorem dX10_told_75 : decode cX10_told 75 = .ok (.aload_n 0, 1) := by decide +kernel
theorem dX10_told_76 : decode cX10_told 76 = .ok (.iload_n 1, 1) := by decide +kernel
theorem dX10_told_77 : decode cX10_told 77 = .ok (.aload_n 0, 1) := by decide +kernel
theorem dX10_told_78 : decode cX10_told 78 = .ok (.getfield 9, 3) := by decide +kernel
theorem dX10_told_81 : decode cX10_told 81 = .ok (.iconst 3, 1) := by decide +kernel
theorem dX10_told_82 : decode cX10_told 82 = .ok (.iaload, 1) := by decide +kernel
theorem dX10_told_83 : decode cX10_told 83 = .ok (.invokevirtual 124, 3) := by decide +kernel
theorem dX10_told_86 : decode cX10_told 86 = .ok (.ireturn, 1) := by decide +kernel
theorem dX10_told_87 : decode cX10_told 87 = .ok (.aload_n 0, 1) := by decide +kernel
theorem dX10_told_88 : decode cX10_told 88 = .ok (.iload_n 1, 1) := by decide +kernel
theorem dX10_told_89 : decode cX10_told 89 = .ok (.iconst 3, 1) := by decide +kernel
theorem dX10_told_90 : decode cX10_told 90 = .ok (.invokevirtual 78, 3) := by decide +kernel
theorem dX10_told_93 : decode cX10_told 93 = .ok (.ireturn, 1) := by decide +kernel
theorem dX10_told_94 : decode cX10_told 94 = .ok (.aload_n 0, 1) := by decide +kernel
theorem dX10_told_95 : decode cX10_told 95 = .ok (.iload_n 1, 1) := by decide +kernel
theorem dX10_told_96 : decode cX10_told 96 = .ok (.iconst 4, 1) := by decide +kernel
theorem dX10_told_97 : decode cX10_told 97 = .ok (.invokevirtual 78, 3) := by decide +kernel
theorem dX10_told_100 : decode cX10_told 100 = .ok (.ireturn, 1) := by decide +kernel
theorem dX10_told_101 : decode cX10_told 101 = .ok (.aload_n 0, 1) := by decide +kernel
theorem dX10_told_102 : decode cX10_told 102 = .ok (.iload_n 1, 1) := by decide +kernel
theorem dX10_told_103 : decode cX10_told 103 = .ok (.invokevirtual 127, 3) := by decide +kernel
theorem dX10_told_106 : decode cX10_told 106 = .ok (.ireturn, 1) := by decide +kernel
theorem dX10_told_107 : decode cX10_told 107 = .ok (.aload_n 0, 1) := by decide +kernel
theorem dX10_told_108 : decode cX10_told 108 = .ok (.iload_n 1, 1) := by decide +kernel
theorem dX10_told_109 : decode cX10_told 109 = .ok (.invokevirtual 130, 3) := by decide +kernel
theorem dX10_told_112 : decode cX10_told 112 = .ok (.ireturn, 1) := by decide +kernel
theorem dX10_told_113 : decode cX10_told 113 = .ok (.aload_n 0, 1) := by decide +kernel
theorem dX10_told_114 : decode cX10_told 114 = .ok (.iconst 2, 1) := by decide +kernel
theorem dX10_told_115 : decode cX10_told 115 = .ok (.invokevirtual 53, 3) := by decide +kernel
theorem dX10_told_118 : decode cX10_told 118 = .ok (.ireturn, 1) := by decide +kernel
theorem dX10_lights_0 : decode cX10_lights 0 = .ok (.aload_n 0, 1) := by decide +kernel
theorem dX10_lights_1 : decode cX10_lights 1 = .ok (.iload_n 1, 1) := by decide +kernel
theorem dX10_lights_2 : decode cX10_lights 2 = .ok (.iconst 4, 1) := by decide +kernel
theorem dX10_lights_3 : decode cX10_lights 3 = .ok (.invokevirtual 78, 3) := by decide +kernel
theorem dX10_lights_6 : decode cX10_lights 6 = .ok (.aload_n 0, 1) := by decide +kernel
theorem dX10_lights_7 : decode cX10_lights 7 = .ok (.getfield 9, 3) := by decide +kernel
theorem dX10_lights_10 : decode cX10_lights 10 = .ok (.iconst 3, 1) := by decide +kernel
theorem dX10_lights_11 : decode cX10_lights 11 = .ok (.iaload, 1) := by decide +kernel
theorem dX10_lights_12 : decode cX10_lights 12 = .ok (.if_icmp .ne 7, 3) := by decide +kernel
theorem dX10_lights_15 : decode cX10_lights 15 = .ok (.iconst 1, 1) := by decide +kernel
theorem dX10_lights_16 : decode cX10_lights 16 = .ok (.goto 4, 3) := by decide +kernel
theorem dX10_lights_19 : decode cX10_lights 19 = .ok (.iconst 0, 1) := by decide +kernel
theorem dX10_lights_20 : decode cX10_lights 20 = .ok (.istore_n 2, 1) := by decide +kernel
theorem dX10_lights_21 : decode cX10_lights 21 = .ok (.iload_n 2, 1) := by decide +kernel
theorem dX10_lights_22 : decode cX10_lights 22 = .ok (.ifCond .eq 14, 3) := by decide +kernel
theorem dX10_lights_25 : decode cX10_lights 25 = .ok (.iconst 1, 1) := by decide +kernel
theorem dX10_lights_26 : decode cX10_lights 26 = .ok (.aload_n 0, 1) := by decide +kernel
theorem dX10_lights_27 : decode cX10_lights 27 = .ok (.iload_n 1, 1) := by decide +kernel
theorem dX10_lights_28 : decode cX10_lights 28 = .ok (.iconst 3, 1) := by decide +kernel
theorem dX10_lights_29 : decode cX10_lights 29 = .ok (.invokevirtual 78, 3) := by decide +kernel
theorem dX10_lights_32 : decode cX10_lights 32 = .ok (.isub, 1) := by decide +kernel
theorem dX10_lights_33 : decode cX10_lights 33 = .ok (.goto 9, 3) := by decide +kernel
theorem dX10_lights_36 : decode cX10_lights 36 = .ok (.aload_n 0, 1) := by decide +kernel
theorem dX10_lights_37 : decode cX10_lights 37 = .ok (.iload_n 1, 1) := by decide +kernel
theorem dX10_lights_38 : decode cX10_lights 38 = .ok (.iconst 3, 1) := by decide +kernel
theorem dX10_lights_39 : decode cX10_lights 39 = .ok (.invokevirtual 78, 3) := by decide +kernel
theorem dX10_lights_42 : decode cX10_lights 42 = .ok (.istore_n 3, 1) := by decide +kernel
theorem dX10_lights_43 : decode cX10_lights 43 = .ok (.aload_n 0, 1) := by decide +kernel
theorem dX10_lights_44 : decode cX10_lights 44 = .ok (.iload_n 1, 1) := by decide +kernel
theorem dX10_lights_45 : decode cX10_lights 45 = .ok (.aload_n 0, 1) := by decide +kernel
theorem dX10_lights_46 : decode cX10_lights 46 = .ok (.getfield 9, 3) := by decide +kernel
theorem dX10_lights_49 : decode cX10_lights 49 = .ok (.iconst 3, 1) := by decide +kernel
theorem dX10_lights_50 : decode cX10_lights 50 = .ok (.iaload, 1) := by decide +kernel
theorem dX10_lights_51 : decode cX10_lights 51 = .ok (.invokevirtual 124, 3) := by decide +kernel
theorem dX10_lights_54 : decode cX10_lights 54 = .ok (.istore 4, 2) := by decide +kernel
theorem dX10_lights_56 : decode cX10_lights 56 = .ok (.iconst 0, 1) := by decide +kernel
theorem dX10_lights_57 : decode cX10_lights 57 = .ok (.istore 5, 2) := by decide +kernel
theorem dX10_lights_59 : decode cX10_lights 59 = .ok (.iconst 0, 1) := by decide +kernel
theorem dX10_lights_60 : decode cX10_lights 60 = .ok (.istore 6, 2) := by decide +kernel
theorem dX10_lights_62 : decode cX10_lights 62 = .ok (.iload 6, 2) := by decide +kernel
theorem dX10_lights_64 : decode cX10_lights 64 = .ok (.aload_n 0, 1) := by decide +kernel
theorem dX10_lights_65 : decode cX10_lights 65 = .ok (.iload_n 1, 1) := by decide +kernel
theorem dX10_lights_66 : decode cX10_lights 66 = .ok (.iconst 2, 1) := by decide +kernel
theorem dX10_lights_67 : decode cX10_lights 67 = .ok (.invokevirtual 78, 3) := by decide +kernel
theorem dX10_lights_70 : decode cX10_lights 70 = .ok (.if_icmp .ge 117, 3) := by decide +kernel
theorem dX10_lights_73 : decode cX10_lights 73 = .ok (.aload_n 0, 1) := by decide +kernel
theorem dX10_lights_74 : decode cX10_lights 74 = .ok (.iload_n 1, 1) := by decide +kernel
theorem dX10_lights_75 : decode cX10_lights 75 = .ok (.iload_n 3, 1) := by decide +kernel
theorem dX10_lights_76 : decode cX10_lights 76 = .ok (.iload 6, 2) := by decide +kernel
theorem dX10_lights_78 : decode cX10_lights 78 = .ok (.iload 4, 2) := by decide +kernel
theorem dX10_lights_80 : decode cX10_lights 80 = .ok (.invokevirtual 133, 3) := by decide +kernel
theorem dX10_lights_83 : decode cX10_lights 83 = .ok (.ifCond .ne 6, 3) := by decide +kernel
theorem dX10_lights_86 : decode cX10_lights 86 = .ok (.goto 95, 3) := by decide +kernel
theorem dX10_lights_89 : decode cX10_lights 89 = .ok (.aload_n 0, 1) := by decide +kernel
theorem dX10_lights_90 : decode cX10_lights 90 = .ok (.iload_n 1, 1) := by decide +kernel
theorem dX10_lights_91 : decode cX10_lights 91 = .ok (.iload 6, 2) := by decide +kernel
theorem dX10_lights_93 : decode cX10_lights 93 = .ok (.iconst 2, 1) := by decide +kernel
theorem dX10_lights_94 : decode cX10_lights 94 = .ok (.invokevirtual 89, 3) := by decide +kernel
theorem dX10_lights_97 : decode cX10_lights 97 = .ok (.ifCond .ne 7, 3) := by decide +kernel
theorem dX10_lights_100 : decode cX10_lights 100 = .ok (.iconst 1, 1) := by decide +kernel
theorem dX10_lights_101 : decode cX10_lights 101 = .ok (.goto 4, 3) := by decide +kernel
theorem dX10_lights_104 : decode cX10_lights 104 = .ok (.iconst 0, 1) := by decide +kernel
theorem dX10_lights_105 : decode cX10_lights 105 = .ok (.istore 7, 2) := by decide +kernel
theorem dX10_lights_107 : decode cX10_lights 107 = .ok (.iload 7, 2) := by decide +kernel
theorem dX10_lights_109 : decode cX10_lights 109 = .ok (.ifCond .ne 58, 3) := by decide +kernel
theorem dX10_lights_112 : decode cX10_lights 112 = .ok (.iload 4, 2) := by decide +kernel
theorem dX10_lights_114 : decode cX10_lights 114 = .ok (.aload_n 0, 1) := by decide +kernel
theorem dX10_lights_115 : decode cX10_lights 115 = .ok (.iload_n 1, 1) := by decide +kernel
theorem dX10_lights_116 : decode cX10_lights 116 = .ok (.iload_n 3, 1) := by decide +kernel
theorem dX10_lights_117 : decode cX10_lights 117 = .ok (.iload 6, 2) := by decide +kernel
theorem dX10_lights_119 : decode cX10_lights 119 = .ok (.invokevirtual 93, 3) := by decide +kernel
theorem dX10_lights_122 : decode cX10_lights 122 = .ok (.if_icmp .ne 22, 3) := by decide +kernel
theorem dX10_lights_125 : decode cX10_lights 125 = .ok (.aload_n 0, 1) := by decide +kernel
theorem dX10_lights_126 : decode cX10_lights 126 = .ok (.iload_n 1, 1) := by decide +kernel
theorem dX10_lights_127 : decode cX10_lights 127 = .ok (.iload 6, 2) := by decide +kernel
theorem dX10_lights_129 : decode cX10_lights 129 = .ok (.iconst 4, 1) := by decide +kernel
theorem dX10_lights_130 : decode cX10_lights 130 = .ok (.invokevirtual 89, 3) := by decide +kernel
theorem dX10_lights_133 : decode cX10_lights 133 = .ok (.ifCond .lt 7, 3) := by decide +kernel
theorem dX10_lights_136 : decode cX10_lights 136 = .ok (.iconst 1, 1) := by decide +kernel
theorem dX10_lights_137 : decode cX10_lights 137 = .ok (.goto 28, 3) := by decide +kernel
theorem dX10_lights_140 : decode cX10_lights 140 = .ok (.iconst 0, 1) := by decide +kernel
theorem dX10_lights_141 : decode cX10_lights 141 = .ok (.goto 24, 3) := by decide +kernel
theorem dX10_lights_144 : decode cX10_lights 144 = .ok (.iload_n 2, 1) := by decide +kernel
theorem dX10_lights_145 : decode cX10_lights 145 = .ok (.ifCond .ne 19, 3) := by decide +kernel
theorem dX10_lights_148 : decode cX10_lights 148 = .ok (.aload_n 0, 1) := by decide +kernel
theorem dX10_lights_149 : decode cX10_lights 149 = .ok (.iload_n 1, 1) := by decide +kernel
theorem dX10_lights_150 : decode cX10_lights 150 = .ok (.iload 6, 2) := by decide +kernel
theorem dX10_lights_152 : decode cX10_lights 152 = .ok (.iconst 5, 1) := by decide +kernel
theorem dX10_lights_153 : decode cX10_lights 153 = .ok (.invokevirtual 89, 3) := by decide +kernel
theorem dX10_lights_156 : decode cX10_lights 156 = .ok (.iconst 1, 1) := by decide +kernel
theorem dX10_lights_157 : decode cX10_lights 157 = .ok (.if_icmp .ne 7, 3) := by decide +kernel
theorem dX10_lights_160 : decode cX10_lights 160 = .ok (.iconst 1, 1) := by decide +kernel
theorem dX10_lights_161 : decode cX10_lights 161 = .ok (.goto 4, 3) := by decide +kernel
theorem dX10_lights_164 : decode cX10_lights 164 = .ok (.iconst 0, 1) := by decide +kernel
theorem dX10_lights_165 : decode cX10_lights 165 = .ok (.istore 7, 2) := by decide +kernel
theorem dX10_lights_167 : decode cX10_lights 167 = .ok (.iload 7, 2) := by decide +kernel
theorem dX10_lights_169 : decode cX10_lights 169 = .ok (.ifCond .eq 12, 3) := by decide +kernel
theorem dX10_lights_172 : decode cX10_lights 172 = .ok (.iload 5, 2) := by decide +kernel
theorem dX10_lights_174 : decode cX10_lights 174 = .ok (.iconst 1, 1) := by decide +kernel
theorem dX10_lights_175 : decode cX10_lights 175 = .ok (.iload 6, 2) := by decide +kernel
theorem dX10_lights_177 : decode cX10_lights 177 = .ok (.ishl, 1) := by decide +kernel
theorem dX10_lights_178 : decode cX10_lights 178 = .ok (.ior, 1) := by decide +kernel
theorem dX10_lights_179 : decode cX10_lights 179 = .ok (.istore 5, 2) := by decide +kernel
theorem dX10_lights_181 : decode cX10_lights 181 = .ok (.iinc 6 1, 3) := by decide +kernel
theorem dX10_lights_184 : decode cX10_lights 184 = .ok (.goto (-122), 3) := by decide +kernel
theorem dX10_lights_187 : decode cX10_lights 187 = .ok (.iload 5, 2) := by decide +kernel
theorem dX10_lights_189 : decode cX10_lights 189 = .ok (.ireturn, 1) := by decide +kernel
theorem dX10_group_0 : decode cX10_group 0 = .ok (.aload_n 0, 1) := by decide +kernel
theorem dX10_group_1 : decode cX10_group 1 = .ok (.iconst 0, 1) := by decide +kernel
theorem dX10_group_2 : decode cX10_group 2 = .ok (.putfield 47, 3) := by decide +kernel
theorem dX10_group_5 : decode cX10_group 5 = .ok (.aload_n 0, 1) := by decide +kernel
theorem dX10_group_6 : decode cX10_group 6 = .ok (.iload_n 1, 1) := by decide +kernel
theorem dX10_group_7 : decode cX10_group 7 = .ok (.invokevirtual 74, 3) := by decide +kernel
theorem dX10_group_10 : decode cX10_group 10 = .ok (.ifCond .ne 9, 3) := by decide +kernel
theorem dX10_group_13 : decode cX10_group 13 = .ok (.aload_n 0, 1) := by decide +kernel
theorem dX10_group_14 : decode cX10_group 14 = .ok (.iconst 1, 1) := by decide +kernel
theorem dX10_group_15 : decode cX10_group 15 = .ok (.invokevirtual 53, 3) := by decide +kernel
theorem dX10_group_18 : decode cX10_group 18 = .ok (.ireturn, 1) := by decide +kernel
theorem dX10_group_19 : decode cX10_group 19 = .ok (.iload_n 2, 1) := by decide +kernel
theorem dX10_group_20 : decode cX10_group 20 = .ok (.iconst 0, 1) := by decide +kernel
theorem dX10_group_21 : decode cX10_group 21 = .ok (.iconst 2, 1) := by decide +kernel
theorem dX10_group_22 : decode cX10_group 22 = .ok (.invokestatic 70, 3) := by decide +kernel
theorem dX10_group_25 : decode cX10_group 25 = .ok (.ifCond .eq 13, 3) := by decide +kernel
theorem dX10_group_28 : decode cX10_group 28 = .ok (.iload_n 3, 1) := by decide +kernel
theorem dX10_group_29 : decode cX10_group 29 = .ok (.iconst 4, 1) := by decide +kernel
theorem dX10_group_30 : decode cX10_group 30 = .ok (.bipush 30, 2) := by decide +kernel
theorem dX10_group_32 : decode cX10_group 32 = .ok (.invokestatic 70, 3) := by decide +kernel
theorem dX10_group_35 : decode cX10_group 35 = .ok (.ifCond .ne 9, 3) := by decide +kernel
theorem dX10_group_38 : decode cX10_group 38 = .ok (.aload_n 0, 1) := by decide +kernel
theorem dX10_group_39 : decode cX10_group 39 = .ok (.iconst 2, 1) := by decide +kernel
theorem dX10_group_40 : decode cX10_group 40 = .ok (.invokevirtual 53, 3) := by decide +kernel
theorem dX10_group_43 : decode cX10_group 43 = .ok (.ireturn, 1) := by decide +kernel
theorem dX10_group_44 : decode cX10_group 44 = .ok (.aload_n 0, 1) := by decide +kernel
theorem dX10_group_45 : decode cX10_group 45 = .ok (.iload_n 1, 1) := by decide +kernel
theorem dX10_group_46 : decode cX10_group 46 = .ok (.iconst 2, 1) := by decide +kernel
theorem dX10_group_47 : decode cX10_group 47 = .ok (.invokevirtual 78, 3) := by decide +kernel
theorem dX10_group_50 : decode cX10_group 50 = .ok (.istore 5, 2) := by decide +kernel
theorem dX10_group_52 : decode cX10_group 52 = .ok (.iload 5, 2) := by decide +kernel
theorem dX10_group_54 : decode cX10_group 54 = .ok (.bipush 6, 2) := by decide +kernel
theorem dX10_group_56 : decode cX10_group 56 = .ok (.if_icmp .ne 9, 3) := by decide +kernel
theorem dX10_group_59 : decode cX10_group 59 = .ok (.aload_n 0, 1) := by decide +kernel
theorem dX10_group_60 : decode cX10_group 60 = .ok (.iconst 3, 1) := by decide +kernel
theorem dX10_group_61 : decode cX10_group 61 = .ok (.invokevirtual 53, 3) := by decide +kernel
theorem dX10_group_64 : decode cX10_group 64 = .ok (.ireturn, 1) := by decide +kernel
theorem dX10_group_65 : decode cX10_group 65 = .ok (.aload_n 0, 1) := by decide +kernel
theorem dX10_group_66 : decode cX10_group 66 = .ok (.invokevirtual 99, 3) := by decide +kernel
theorem dX10_group_69 : decode cX10_group 69 = .ok (.iload_n 1, 1) := by decide +kernel
theorem dX10_group_70 : decode cX10_group 70 = .ok (.iload 5, 2) := by decide +kernel
theorem dX10_group_72 : decode cX10_group 72 = .ok (.invokestatic 66, 3) := by decide +kernel
theorem dX10_group_75 : decode cX10_group 75 = .ok (.istore 6, 2) := by decide +kernel
theorem dX10_group_77 : decode cX10_group 77 = .ok (.iconst 0, 1) := by decide +kernel
theorem dX10_group_78 : decode cX10_group 78 = .ok (.istore 7, 2) := by decide +kernel
theorem dX10_group_80 : decode cX10_group 80 = .ok (.iload 7, 2) := by decide +kernel
theorem dX10_group_82 : decode cX10_group 82 = .ok (.bipush 13, 2) := by decide +kernel
theorem dX10_group_84 : decode cX10_group 84 = .ok (.if_icmp .ge 42, 3) := by decide +kernel
theorem dX10_group_87 : decode cX10_group 87 = .ok (.aload_n 0, 1) := by decide +kernel
theorem dX10_group_88 : decode cX10_group 88 = .ok (.getfield 9, 3) := by decide +kernel
theorem dX10_group_91 : decode cX10_group 91 = .ok (.iload 6, 2) := by decide +kernel
theorem dX10_group_93 : decode cX10_group 93 = .ok (.iload 7, 2) := by decide +kernel
theorem dX10_group_95 : decode cX10_group 95 = .ok (.iadd, 1) := by decide +kernel
theorem dX10_group_96 : decode cX10_group 96 = .ok (.iload 7, 2) := by decide +kernel
theorem dX10_group_98 : decode cX10_group 98 = .ok (.iconst 4, 1) := by decide +kernel
theorem dX10_group_99 : decode cX10_group 99 = .ok (.if_icmp .eq 15, 3) := by decide +kernel
theorem dX10_group_102 : decode cX10_group 102 = .ok (.iload 7, 2) := by decide +kernel
theorem dX10_group_104 : decode cX10_group 104 = .ok (.bipush 6, 2) := by decide +kernel
theorem dX10_group_106 : decode cX10_group 106 = .ok (.bipush 8, 2) := by decide +kernel
theorem dX10_group_108 : decode cX10_group 108 = .ok (.invokestatic 70, 3) := by decide +kernel
theorem dX10_group_111 : decode cX10_group 111 = .ok (.ifCond .eq 7, 3) := by decide +kernel
theorem dX10_group_114 : decode cX10_group 114 = .ok (.iconst (-1), 1) := by decide +kernel
theorem dX10_group_115 : decode cX10_group 115 = .ok (.goto 4, 3) := by decide +kernel
theorem dX10_group_118 : decode cX10_group 118 = .ok (.iconst 0, 1) := by decide +kernel
theorem dX10_group_119 : decode cX10_group 119 = .ok (.iastore, 1) := by decide +kernel
theorem dX10_group_120 : decode cX10_group 120 = .ok (.iinc 7 1, 3) := by decide +kernel
theorem dX10_group_123 : decode cX10_group 123 = .ok (.goto (-43), 3) := by decide +kernel
theorem dX10_group_126 : decode cX10_group 126 = .ok (.aload_n 0, 1) := by decide +kernel
theorem dX10_group_127 : decode cX10_group 127 = .ok (.getfield 9, 3) := by decide +kernel
theorem dX10_group_130 : decode cX10_group 130 = .ok (.iload 6, 2) := by decide +kernel
theorem dX10_group_132 : decode cX10_group 132 = .ok (.iload_n 2, 1) := by decide +kernel
theorem dX10_group_133 : decode cX10_group 133 = .ok (.iastore, 1) := by decide +kernel
theorem dX10_group_134 : decode cX10_group 134 = .ok (.aload_n 0, 1) := by decide +kernel
theorem dX10_group_135 : decode cX10_group 135 = .ok (.getfield 9, 3) := by decide +kernel
theorem dX10_group_138 : decode cX10_group 138 = .ok (.iload 6, 2) := by decide +kernel
theorem dX10_group_140 : decode cX10_group 140 = .ok (.iconst 1, 1) := by decide +kernel
theorem dX10_group_141 : decode cX10_group 141 = .ok (.iadd, 1) := by decide +kernel
theorem dX10_group_142 : decode cX10_group 142 = .ok (.iload_n 3, 1) := by decide +kernel
theorem dX10_group_143 : decode cX10_group 143 = .ok (.iastore, 1) := by decide +kernel
theorem dX10_group_144 : decode cX10_group 144 = .ok (.aload_n 0, 1) := by decide +kernel
theorem dX10_group_145 : decode cX10_group 145 = .ok (.getfield 9, 3) := by decide +kernel
theorem dX10_group_148 : decode cX10_group 148 = .ok (.iload 6, 2) := by decide +kernel
theorem dX10_group_150 : decode cX10_group 150 = .ok (.iconst 2, 1) := by decide +kernel
theorem dX10_group_151 : decode cX10_group 151 = .ok (.iadd, 1) := by decide +kernel
theorem dX10_group_152 : decode cX10_group 152 = .ok (.iload 4, 2) := by decide +kernel
theorem dX10_group_154 : decode cX10_group 154 = .ok (.ifCond .eq 7, 3) := by decide +kernel
theorem dX10_group_157 : decode cX10_group 157 = .ok (.iconst 1, 1) := by decide +kernel
theorem dX10_group_158 : decode cX10_group 158 = .ok (.goto 4, 3) := by decide +kernel
theorem dX10_group_161 : decode cX10_group 161 = .ok (.iconst 0, 1) := by decide +kernel
theorem dX10_group_162 : decode cX10_group 162 = .ok (.iastore, 1) := by decide +kernel
theorem dX10_group_163 : decode cX10_group 163 = .ok (.aload_n 0, 1) := by decide +kernel
theorem dX10_group_164 : decode cX10_group 164 = .ok (.getfield 9, 3) := by decide +kernel
theorem dX10_group_167 : decode cX10_group 167 = .ok (.iload_n 1, 1) := by decide +kernel
theorem dX10_group_168 : decode cX10_group 168 = .ok (.invokestatic 63, 3) := by decide +kernel
theorem dX10_group_171 : decode cX10_group 171 = .ok (.iconst 2, 1) := by decide +kernel
theorem dX10_group_172 : decode cX10_group 172 = .ok (.iadd, 1) := by decide +kernel
theorem dX10_group_173 : decode cX10_group 173 = .ok (.dup2, 1) := by decide +kernel
theorem dX10_group_174 : decode cX10_group 174 = .ok (.iaload, 1) := by decide +kernel
theorem dX10_group_175 : decode cX10_group 175 = .ok (.iconst 1, 1) := by decide +kernel
theorem dX10_group_176 : decode cX10_group 176 = .ok (.iadd, 1) := by decide +kernel
theorem dX10_group_177 : decode cX10_group 177 = .ok (.iastore, 1) := by decide +kernel
theorem dX10_group_178 : decode cX10_group 178 = .ok (.iload 5, 2) := by decide +kernel
theorem dX10_group_180 : decode cX10_group 180 = .ok (.ireturn, 1) := by decide +kernel
theorem dX10_heads_0 : decode cX10_heads 0 = .ok (.iconst 0, 1) := by decide +kernel
theorem dX10_heads_1 : decode cX10_heads 1 = .ok (.istore_n 3, 1) := by decide +kernel
theorem dX10_heads_2 : decode cX10_heads 2 = .ok (.iconst 0, 1) := by decide +kernel
theorem dX10_heads_3 : decode cX10_heads 3 = .ok (.istore 4, 2) := by decide +kernel
theorem dX10_heads_5 : decode cX10_heads 5 = .ok (.iload 4, 2) := by decide +kernel
theorem dX10_heads_7 : decode cX10_heads 7 = .ok (.iconst 3, 1) := by decide +kernel
theorem dX10_heads_8 : decode cX10_heads 8 = .ok (.if_icmp .ge 26, 3) := by decide +kernel
theorem dX10_heads_11 : decode cX10_heads 11 = .ok (.aload_n 0, 1) := by decide +kernel
theorem dX10_heads_12 : decode cX10_heads 12 = .ok (.iload_n 1, 1) := by decide +kernel
theorem dX10_heads_13 : decode cX10_heads 13 = .ok (.iload_n 2, 1) := by decide +kernel
theorem dX10_heads_14 : decode cX10_heads 14 = .ok (.bipush 6, 2) := by decide +kernel
theorem dX10_heads_16 : decode cX10_heads 16 = .ok (.iload 4, 2) := by decide +kernel
theorem dX10_heads_18 : decode cX10_heads 18 = .ok (.iadd, 1) := by decide +kernel
theorem dX10_heads_19 : decode cX10_heads 19 = .ok (.invokevirtual 89, 3) := by decide +kernel
theorem dX10_heads_22 : decode cX10_heads 22 = .ok (.ifCond .lt 6, 3) := by decide +kernel
theorem dX10_heads_25 : decode cX10_heads 25 = .ok (.iinc 3 1, 3) := by decide +kernel
theorem dX10_heads_28 : decode cX10_heads 28 = .ok (.iinc 4 1, 3) := by decide +kernel
theorem dX10_heads_31 : decode cX10_heads 31 = .ok (.goto (-26), 3) := by decide +kernel
theorem dX10_heads_34 : decode cX10_heads 34 = .ok (.iload_n 3, 1) := by decide +kernel
theorem dX10_heads_35 : decode cX10_heads 35 = .ok (.ireturn, 1) := by decide +kernel
theorem dX10_groupTold_0 : decode cX10_groupTold 0 = .ok (.aload_n 0, 1) := by decide +kernel
theorem dX10_groupTold_1 : decode cX10_groupTold 1 = .ok (.iconst 0, 1) := by decide +kernel
theorem dX10_groupTold_2 : decode cX10_groupTold 2 = .ok (.putfield 47, 3) := by decide +kernel
theorem dX10_groupTold_5 : decode cX10_groupTold 5 = .ok (.aload_n 0, 1) := by decide +kernel
theorem dX10_groupTold_6 : decode cX10_groupTold 6 = .ok (.iload_n 1, 1) := by decide +kernel
theorem dX10_groupTold_7 : decode cX10_groupTold 7 = .ok (.iload_n 2, 1) := by decide +kernel
theorem dX10_groupTold_8 : decode cX10_groupTold 8 = .ok (.invokevirtual 105, 3) := by decide +kernel
theorem dX10_groupTold_11 : decode cX10_groupTold 11 = .ok (.ifCond .ne 9, 3) := by decide +kernel
theorem dX10_groupTold_14 : decode cX10_groupTold 14 = .ok (.aload_n 0, 1) := by decide +kernel
theorem dX10_groupTold_15 : decode cX10_groupTold 15 = .ok (.iconst 1, 1) := by decide +kernel
theorem dX10_groupTold_16 : decode cX10_groupTold 16 = .ok (.invokevirtual 53, 3) := by decide +kernel
theorem dX10_groupTold_19 : decode cX10_groupTold 19 = .ok (.ireturn, 1) := by decide +kernel
theorem dX10_groupTold_20 : decode cX10_groupTold 20 = .ok (.iload_n 3, 1) := by decide +kernel
theorem dX10_groupTold_21 : decode cX10_groupTold 21 = .ok (.iconst 0, 1) := by decide +kernel
theorem dX10_groupTold_22 : decode cX10_groupTold 22 = .ok (.bipush 7, 2) := by decide +kernel
theorem dX10_groupTold_24 : decode cX10_groupTold 24 = .ok (.invokestatic 70, 3) := by decide +kernel
theorem dX10_groupTold_27 : decode cX10_groupTold 27 = .ok (.ifCond .ne 9, 3) := by decide +kernel
theorem dX10_groupTold_30 : decode cX10_groupTold 30 = .ok (.aload_n 0, 1) := by decide +kernel
theorem dX10_groupTold_31 : decode cX10_groupTold 31 = .ok (.iconst 2, 1) := by decide +kernel
theorem dX10_groupTold_32 : decode cX10_groupTold 32 = .ok (.invokevirtual 53, 3) := by decide +kernel
theorem dX10_groupTold_35 : decode cX10_groupTold 35 = .ok (.ireturn, 1) := by decide +kernel
theorem dX10_groupTold_36 : decode cX10_groupTold 36 = .ok (.iload_n 3, 1) := by decide +kernel
theorem dX10_groupTold_37 : decode cX10_groupTold 37 = .ok (.iconst 3, 1) := by decide +kernel
theorem dX10_groupTold_38 : decode cX10_groupTold 38 = .ok (.if_icmp .ge 11, 3) := by decide +kernel
theorem dX10_groupTold_41 : decode cX10_groupTold 41 = .ok (.aload_n 0, 1) := by decide +kernel
theorem dX10_groupTold_42 : decode cX10_groupTold 42 = .ok (.iload_n 1, 1) := by decide +kernel
theorem dX10_groupTold_43 : decode cX10_groupTold 43 = .ok (.iload_n 2, 1) := by decide +kernel
theorem dX10_groupTold_44 : decode cX10_groupTold 44 = .ok (.iload_n 3, 1) := by decide +kernel
theorem dX10_groupTold_45 : decode cX10_groupTold 45 = .ok (.invokevirtual 89, 3) := by decide +kernel
theorem dX10_groupTold_48 : decode cX10_groupTold 48 = .ok (.ireturn, 1) := by decide +kernel
theorem dX10_groupTold_49 : decode cX10_groupTold 49 = .ok (.iload_n 3, 1) := by decide +kernel
theorem dX10_groupTold_50 : decode cX10_groupTold 50 = .ok (.iconst 3, 1) := by decide +kernel
theorem dX10_groupTold_51 : decode cX10_groupTold 51 = .ok (.if_icmp .ne 49, 3) := by decide +kernel
theorem dX10_groupTold_54 : decode cX10_groupTold 54 = .ok (.iconst 0, 1) := by decide +kernel
theorem dX10_groupTold_55 : decode cX10_groupTold 55 = .ok (.istore 4, 2) := by decide +kernel
theorem dX10_groupTold_57 : decode cX10_groupTold 57 = .ok (.iconst 0, 1) := by decide +kernel
theorem dX10_groupTold_58 : decode cX10_groupTold 58 = .ok (.istore 5, 2) := by decide +kernel
theorem dX10_groupTold_60 : decode cX10_groupTold 60 = .ok (.iload 5, 2) := by decide +kernel
theorem dX10_groupTold_62 : decode cX10_groupTold 62 = .ok (.aload_n 0, 1) := by decide +kernel
theorem dX10_groupTold_63 : decode cX10_groupTold 63 = .ok (.iload_n 1, 1) := by decide +kernel
theorem dX10_groupTold_64 : decode cX10_groupTold 64 = .ok (.iconst 2, 1) := by decide +kernel
theorem dX10_groupTold_65 : decode cX10_groupTold 65 = .ok (.invokevirtual 78, 3) := by decide +kernel
theorem dX10_groupTold_68 : decode cX10_groupTold 68 = .ok (.if_icmp .ge 29, 3) := by decide +kernel
theorem dX10_groupTold_71 : decode cX10_groupTold 71 = .ok (.aload_n 0, 1) := by decide +kernel
theorem dX10_groupTold_72 : decode cX10_groupTold 72 = .ok (.iload_n 1, 1) := by decide +kernel
theorem dX10_groupTold_73 : decode cX10_groupTold 73 = .ok (.iload_n 2, 1) := by decide +kernel
theorem dX10_groupTold_74 : decode cX10_groupTold 74 = .ok (.iload 5, 2) := by decide +kernel
theorem dX10_groupTold_76 : decode cX10_groupTold 76 = .ok (.invokevirtual 121, 3) := by decide +kernel
theorem dX10_groupTold_79 : decode cX10_groupTold 79 = .ok (.ifCond .lt 12, 3) := by decide +kernel
theorem dX10_groupTold_82 : decode cX10_groupTold 82 = .ok (.iload 4, 2) := by decide +kernel
theorem dX10_groupTold_84 : decode cX10_groupTold 84 = .ok (.iconst 1, 1) := by decide +kernel
theorem dX10_groupTold_85 : decode cX10_groupTold 85 = .ok (.iload 5, 2) := by decide +kernel
theorem dX10_groupTold_87 : decode cX10_groupTold 87 = .ok (.ishl, 1) := by decide +kernel
theorem dX10_groupTold_88 : decode cX10_groupTold 88 = .ok (.ior, 1) := by decide +kernel
theorem dX10_groupTold_89 : decode cX10_groupTold 89 = .ok (.istore 4, 2) := by decide +kernel
theorem dX10_groupTold_91 : decode cX10_groupTold 91 = .ok (.iinc 5 1, 3) := by decide +kernel
theorem dX10_groupTold_94 : decode cX10_groupTold 94 = .ok (.goto (-34), 3) := by decide +kernel
theorem dX10_groupTold_97 : decode cX10_groupTold 97 = .ok (.iload 4, 2) := by decide +kernel
theorem dX10_groupTold_99 : decode cX10_groupTold 99 = .ok (.ireturn, 1) := by decide +kernel
theorem dX10_groupTold_100 : decode cX10_groupTold 100 = .ok (.iload_n 3, 1) := by decide +kernel
theorem dX10_groupTold_101 : decode cX10_groupTold 101 = .ok (.bipush 7, 2) := by decide +kernel
theorem dX10_groupTold_103 : decode cX10_groupTold 103 = .ok (.if_icmp .ne 12, 3) := by decide +kernel
theorem dX10_groupTold_106 : decode cX10_groupTold 106 = .ok (.aload_n 0, 1) := by decide +kernel
theorem dX10_groupTold_107 : decode cX10_groupTold 107 = .ok (.iload_n 1, 1) := by decide +kernel
theorem dX10_groupTold_108 : decode cX10_groupTold 108 = .ok (.iload_n 2, 1) := by decide +kernel
theorem dX10_groupTold_109 : decode cX10_groupTold 109 = .ok (.invokevirtual 137, 3) := by decide +kernel
theorem dX10_groupTold_112 : decode cX10_groupTold 112 = .ok (.goto 12, 3) := by decide +kernel
theorem dX10_groupTold_115 : decode cX10_groupTold 115 = .ok (.aload_n 0, 1) := by decide +kernel
theorem dX10_groupTold_116 : decode cX10_groupTold 116 = .ok (.iload_n 1, 1) := by decide +kernel
theorem dX10_groupTold_117 : decode cX10_groupTold 117 = .ok (.iload_n 2, 1) := by decide +kernel
theorem dX10_groupTold_118 : decode cX10_groupTold 118 = .ok (.iload_n 3, 1) := by decide +kernel
theorem dX10_groupTold_119 : decode cX10_groupTold 119 = .ok (.iconst 1, 1) := by decide +kernel
theorem dX10_groupTold_120 : decode cX10_groupTold 120 = .ok (.isub, 1) := by decide +kernel
theorem dX10_groupTold_121 : decode cX10_groupTold 121 = .ok (.invokevirtual 89, 3) := by decide +kernel
theorem dX10_groupTold_124 : decode cX10_groupTold 124 = .ok (.ireturn, 1) := by decide +kernel
theorem dX10_gap_0 : decode cX10_gap 0 = .ok (.aload_n 0, 1) := by decide +kernel
theorem dX10_gap_1 : decode cX10_gap 1 = .ok (.aload_n 0, 1) := by decide +kernel
theorem dX10_gap_2 : decode cX10_gap 2 = .ok (.iload_n 1, 1) := by decide +kernel
theorem dX10_gap_3 : decode cX10_gap 3 = .ok (.iload_n 2, 1) := by decide +kernel
theorem dX10_gap_4 : decode cX10_gap 4 = .ok (.iload 4, 2) := by decide +kernel
theorem dX10_gap_6 : decode cX10_gap 6 = .ok (.invokevirtual 93, 3) := by decide +kernel
theorem dX10_gap_9 : decode cX10_gap 9 = .ok (.aload_n 0, 1) := by decide +kernel
theorem dX10_gap_10 : decode cX10_gap 10 = .ok (.iload_n 1, 1) := by decide +kernel
theorem dX10_gap_11 : decode cX10_gap 11 = .ok (.iload_n 2, 1) := by decide +kernel
theorem dX10_gap_12 : decode cX10_gap 12 = .ok (.iload_n 3, 1) := by decide +kernel
theorem dX10_gap_13 : decode cX10_gap 13 = .ok (.invokevirtual 93, 3) := by decide +kernel
theorem dX10_gap_16 : decode cX10_gap 16 = .ok (.isub, 1) := by decide +kernel
theorem dX10_gap_17 : decode cX10_gap 17 = .ok (.aload_n 0, 1) := by decide +kernel
theorem dX10_gap_18 : decode cX10_gap 18 = .ok (.iload_n 1, 1) := by decide +kernel
theorem dX10_gap_19 : decode cX10_gap 19 = .ok (.iload_n 2, 1) := by decide +kernel
theorem dX10_gap_20 : decode cX10_gap 20 = .ok (.iload_n 3, 1) := by decide +kernel
theorem dX10_gap_21 : decode cX10_gap 21 = .ok (.invokevirtual 96, 3) := by decide +kernel
theorem dX10_gap_24 : decode cX10_gap 24 = .ok (.isub, 1) := by decide +kernel
theorem dX10_gap_25 : decode cX10_gap 25 = .ok (.invokevirtual 86, 3) := by decide +kernel
theorem dX10_gap_28 : decode cX10_gap 28 = .ok (.ireturn, 1) := by decide +kernel
theorem dX10_meet_0 : decode cX10_meet 0 = .ok (.iconst 0, 1) := by decide +kernel
theorem dX10_meet_1 : decode cX10_meet 1 = .ok (.istore 5, 2) := by decide +kernel
theorem dX10_meet_3 : decode cX10_meet 3 = .ok (.iload 5, 2) := by decide +kernel
theorem dX10_meet_5 : decode cX10_meet 5 = .ok (.aload_n 0, 1) := by decide +kernel
theorem dX10_meet_6 : decode cX10_meet 6 = .ok (.getfield 9, 3) := by decide +kernel
theorem dX10_meet_9 : decode cX10_meet 9 = .ok (.iconst 0, 1) := by decide +kernel
theorem dX10_meet_10 : decode cX10_meet 10 = .ok (.iaload, 1) := by decide +kernel
theorem dX10_meet_11 : decode cX10_meet 11 = .ok (.if_icmp .ge 36, 3) := by decide +kernel
theorem dX10_meet_14 : decode cX10_meet 14 = .ok (.aload_n 0, 1) := by decide +kernel
theorem dX10_meet_15 : decode cX10_meet 15 = .ok (.iload_n 1, 1) := by decide +kernel
theorem dX10_meet_16 : decode cX10_meet 16 = .ok (.iload_n 2, 1) := by decide +kernel
theorem dX10_meet_17 : decode cX10_meet 17 = .ok (.iload_n 3, 1) := by decide +kernel
theorem dX10_meet_18 : decode cX10_meet 18 = .ok (.iload 5, 2) := by decide +kernel
theorem dX10_meet_20 : decode cX10_meet 20 = .ok (.invokevirtual 133, 3) := by decide +kernel
theorem dX10_meet_23 : decode cX10_meet 23 = .ok (.ifCond .eq 18, 3) := by decide +kernel
theorem dX10_meet_26 : decode cX10_meet 26 = .ok (.aload_n 0, 1) := by decide +kernel
theorem dX10_meet_27 : decode cX10_meet 27 = .ok (.iload_n 1, 1) := by decide +kernel
theorem dX10_meet_28 : decode cX10_meet 28 = .ok (.iload_n 2, 1) := by decide +kernel
theorem dX10_meet_29 : decode cX10_meet 29 = .ok (.iload 4, 2) := by decide +kernel
theorem dX10_meet_31 : decode cX10_meet 31 = .ok (.iload 5, 2) := by decide +kernel
theorem dX10_meet_33 : decode cX10_meet 33 = .ok (.invokevirtual 133, 3) := by decide +kernel
theorem dX10_meet_36 : decode cX10_meet 36 = .ok (.ifCond .eq 5, 3) := by decide +kernel
theorem dX10_meet_39 : decode cX10_meet 39 = .ok (.iconst 1, 1) := by decide +kernel
theorem dX10_meet_40 : decode cX10_meet 40 = .ok (.ireturn, 1) := by decide +kernel
theorem dX10_meet_41 : decode cX10_meet 41 = .ok (.iinc 5 1, 3) := by decide +kernel
theorem dX10_meet_44 : decode cX10_meet 44 = .ok (.goto (-41), 3) := by decide +kernel
theorem dX10_meet_47 : decode cX10_meet 47 = .ok (.iconst 0, 1) := by decide +kernel
theorem dX10_meet_48 : decode cX10_meet 48 = .ok (.ireturn, 1) := by decide +kernel
theorem dX10_bars_0 : decode cX10_bars 0 = .ok (.iload 4, 2) := by decide +kernel
theorem dX10_bars_2 : decode cX10_bars 2 = .ok (.iload_n 3, 1) := by decide +kernel
theorem dX10_bars_3 : decode cX10_bars 3 = .ok (.if_icmp .eq 25, 3) := by decide +kernel
theorem dX10_bars_6 : decode cX10_bars 6 = .ok (.aload_n 0, 1) := by decide +kernel
theorem dX10_bars_7 : decode cX10_bars 7 = .ok (.iload_n 1, 1) := by decide +kernel
theorem dX10_bars_8 : decode cX10_bars 8 = .ok (.iload_n 3, 1) := by decide +kernel
theorem dX10_bars_9 : decode cX10_bars 9 = .ok (.iload 4, 2) := by decide +kernel
theorem dX10_bars_11 : decode cX10_bars 11 = .ok (.invokevirtual 121, 3) := by decide +kernel
theorem dX10_bars_14 : decode cX10_bars 14 = .ok (.ifCond .lt 14, 3) := by decide +kernel
theorem dX10_bars_17 : decode cX10_bars 17 = .ok (.aload_n 0, 1) := by decide +kernel
theorem dX10_bars_18 : decode cX10_bars 18 = .ok (.iload_n 1, 1) := by decide +kernel
theorem dX10_bars_19 : decode cX10_bars 19 = .ok (.iload_n 2, 1) := by decide +kernel
theorem dX10_bars_20 : decode cX10_bars 20 = .ok (.iload 4, 2) := by decide +kernel
theorem dX10_bars_22 : decode cX10_bars 22 = .ok (.invokevirtual 96, 3) := by decide +kernel
theorem dX10_bars_25 : decode cX10_bars 25 = .ok (.ifCond .ne 5, 3) := by decide +kernel
theorem dX10_bars_28 : decode cX10_bars 28 = .ok (.iconst 0, 1) := by decide +kernel
theorem dX10_bars_29 : decode cX10_bars 29 = .ok (.ireturn, 1) := by decide +kernel
theorem dX10_bars_30 : decode cX10_bars 30 = .ok (.iload 5, 2) := by decide +kernel
theorem dX10_bars_32 : decode cX10_bars 32 = .ok (.lookupswitch 72 #[(3, 28), (4, 46)], 28) := by decide +kernel
theorem dX10_bars_60 : decode cX10_bars 60 = .ok (.aload_n 0, 1) := by decide +kernel
theorem dX10_bars_61 : decode cX10_bars 61 = .ok (.iload_n 1, 1) := by decide +kernel
theorem dX10_bars_62 : decode cX10_bars 62 = .ok (.iload_n 2, 1) := by decide +kernel
theorem dX10_bars_63 : decode cX10_bars 63 = .ok (.iload_n 3, 1) := by decide +kernel
theorem dX10_bars_64 : decode cX10_bars 64 = .ok (.iload 4, 2) := by decide +kernel
theorem dX10_bars_66 : decode cX10_bars 66 = .ok (.invokevirtual 140, 3) := by decide +kernel
theorem dX10_bars_69 : decode cX10_bars 69 = .ok (.ifCond .eq 7, 3) := by decide +kernel
theorem dX10_bars_72 : decode cX10_bars 72 = .ok (.iconst 3, 1) := by decide +kernel
theorem dX10_bars_73 : decode cX10_bars 73 = .ok (.goto 4, 3) := by decide +kernel
theorem dX10_bars_76 : decode cX10_bars 76 = .ok (.iconst 0, 1) := by decide +kernel
theorem dX10_bars_77 : decode cX10_bars 77 = .ok (.ireturn, 1) := by decide +kernel
theorem dX10_bars_78 : decode cX10_bars 78 = .ok (.aload_n 0, 1) := by decide +kernel
theorem dX10_bars_79 : decode cX10_bars 79 = .ok (.iload_n 1, 1) := by decide +kernel
theorem dX10_bars_80 : decode cX10_bars 80 = .ok (.iload_n 2, 1) := by decide +kernel
theorem dX10_bars_81 : decode cX10_bars 81 = .ok (.iload 4, 2) := by decide +kernel
theorem dX10_bars_83 : decode cX10_bars 83 = .ok (.iload_n 3, 1) := by decide +kernel
theorem dX10_bars_84 : decode cX10_bars 84 = .ok (.invokevirtual 143, 3) := by decide +kernel
theorem dX10_bars_87 : decode cX10_bars 87 = .ok (.aload_n 0, 1) := by decide +kernel
theorem dX10_bars_88 : decode cX10_bars 88 = .ok (.iload_n 1, 1) := by decide +kernel
theorem dX10_bars_89 : decode cX10_bars 89 = .ok (.iload 4, 2) := by decide +kernel
theorem dX10_bars_91 : decode cX10_bars 91 = .ok (.iload_n 3, 1) := by decide +kernel
theorem dX10_bars_92 : decode cX10_bars 92 = .ok (.invokevirtual 121, 3) := by decide +kernel
theorem dX10_bars_95 : decode cX10_bars 95 = .ok (.if_icmp .ge 7, 3) := by decide +kernel
theorem dX10_bars_98 : decode cX10_bars 98 = .ok (.iconst 4, 1) := by decide +kernel
theorem dX10_bars_99 : decode cX10_bars 99 = .ok (.goto 4, 3) := by decide +kernel
theorem dX10_bars_102 : decode cX10_bars 102 = .ok (.iconst 0, 1) := by decide +kernel
theorem dX10_bars_103 : decode cX10_bars 103 = .ok (.ireturn, 1) := by decide +kernel
theorem dX10_bars_104 : decode cX10_bars 104 = .ok (.aload_n 0, 1) := by decide +kernel
theorem dX10_bars_105 : decode cX10_bars 105 = .ok (.iload_n 1, 1) := by decide +kernel
theorem dX10_bars_106 : decode cX10_bars 106 = .ok (.iload_n 2, 1) := by decide +kernel
theorem dX10_bars_107 : decode cX10_bars 107 = .ok (.iload_n 3, 1) := by decide +kernel
theorem dX10_bars_108 : decode cX10_bars 108 = .ok (.iload 4, 2) := by decide +kernel
theorem dX10_bars_110 : decode cX10_bars 110 = .ok (.invokevirtual 143, 3) := by decide +kernel
theorem dX10_bars_113 : decode cX10_bars 113 = .ok (.aload_n 0, 1) := by decide +kernel
theorem dX10_bars_114 : decode cX10_bars 114 = .ok (.iload_n 1, 1) := by decide +kernel
theorem dX10_bars_115 : decode cX10_bars 115 = .ok (.iload_n 3, 1) := by decide +kernel
theorem dX10_bars_116 : decode cX10_bars 116 = .ok (.iload 4, 2) := by decide +kernel
theorem dX10_bars_118 : decode cX10_bars 118 = .ok (.invokevirtual 121, 3) := by decide +kernel
theorem dX10_bars_121 : decode cX10_bars 121 = .ok (.if_icmp .ge 7, 3) := by decide +kernel
theorem dX10_bars_124 : decode cX10_bars 124 = .ok (.iconst 5, 1) := by decide +kernel
theorem dX10_bars_125 : decode cX10_bars 125 = .ok (.goto 4, 3) := by decide +kernel
theorem dX10_bars_128 : decode cX10_bars 128 = .ok (.iconst 0, 1) := by decide +kernel
theorem dX10_bars_129 : decode cX10_bars 129 = .ok (.ireturn, 1) := by decide +kernel
theorem dX10_barred_0 : decode cX10_barred 0 = .ok (.aload_n 0, 1) := by decide +kernel
theorem dX10_barred_1 : decode cX10_barred 1 = .ok (.iload_n 1, 1) := by decide +kernel
theorem dX10_barred_2 : decode cX10_barred 2 = .ok (.iload_n 2, 1) := by decide +kernel
theorem dX10_barred_3 : decode cX10_barred 3 = .ok (.iload_n 3, 1) := by decide +kernel
theorem dX10_barred_4 : decode cX10_barred 4 = .ok (.invokevirtual 96, 3) := by decide +kernel
theorem dX10_barred_7 : decode cX10_barred 7 = .ok (.ifCond .ne 5, 3) := by decide +kernel
theorem dX10_barred_10 : decode cX10_barred 10 = .ok (.iconst 0, 1) := by decide +kernel
theorem dX10_barred_11 : decode cX10_barred 11 = .ok (.ireturn, 1) := by decide +kernel
theorem dX10_barred_12 : decode cX10_barred 12 = .ok (.iconst 3, 1) := by decide +kernel
theorem dX10_barred_13 : decode cX10_barred 13 = .ok (.istore 4, 2) := by decide +kernel
theorem dX10_barred_15 : decode cX10_barred 15 = .ok (.iload 4, 2) := by decide +kernel
theorem dX10_barred_17 : decode cX10_barred 17 = .ok (.iconst 5, 1) := by decide +kernel
theorem dX10_barred_18 : decode cX10_barred 18 = .ok (.if_icmp .gt 46, 3) := by decide +kernel
theorem dX10_barred_21 : decode cX10_barred 21 = .ok (.iconst 0, 1) := by decide +kernel
theorem dX10_barred_22 : decode cX10_barred 22 = .ok (.istore 5, 2) := by decide +kernel
theorem dX10_barred_24 : decode cX10_barred 24 = .ok (.iload 5, 2) := by decide +kernel
theorem dX10_barred_26 : decode cX10_barred 26 = .ok (.aload_n 0, 1) := by decide +kernel
theorem dX10_barred_27 : decode cX10_barred 27 = .ok (.iload_n 1, 1) := by decide +kernel
theorem dX10_barred_28 : decode cX10_barred 28 = .ok (.iconst 2, 1) := by decide +kernel
theorem dX10_barred_29 : decode cX10_barred 29 = .ok (.invokevirtual 78, 3) := by decide +kernel
theorem dX10_barred_32 : decode cX10_barred 32 = .ok (.if_icmp .ge 26, 3) := by decide +kernel
theorem dX10_barred_35 : decode cX10_barred 35 = .ok (.aload_n 0, 1) := by decide +kernel
theorem dX10_barred_36 : decode cX10_barred 36 = .ok (.iload_n 1, 1) := by decide +kernel
theorem dX10_barred_37 : decode cX10_barred 37 = .ok (.iload_n 2, 1) := by decide +kernel
theorem dX10_barred_38 : decode cX10_barred 38 = .ok (.iload_n 3, 1) := by decide +kernel
theorem dX10_barred_39 : decode cX10_barred 39 = .ok (.iload 5, 2) := by decide +kernel
theorem dX10_barred_41 : decode cX10_barred 41 = .ok (.iload 4, 2) := by decide +kernel
theorem dX10_barred_43 : decode cX10_barred 43 = .ok (.invokevirtual 147, 3) := by decide +kernel
theorem dX10_barred_46 : decode cX10_barred 46 = .ok (.ifCond .le 6, 3) := by decide +kernel
theorem dX10_barred_49 : decode cX10_barred 49 = .ok (.iload 4, 2) := by decide +kernel
theorem dX10_barred_51 : decode cX10_barred 51 = .ok (.ireturn, 1) := by decide +kernel
theorem dX10_barred_52 : decode cX10_barred 52 = .ok (.iinc 5 1, 3) := by decide +kernel
theorem dX10_barred_55 : decode cX10_barred 55 = .ok (.goto (-31), 3) := by decide +kernel
theorem dX10_barred_58 : decode cX10_barred 58 = .ok (.iinc 4 1, 3) := by decide +kernel
theorem dX10_barred_61 : decode cX10_barred 61 = .ok (.goto (-46), 3) := by decide +kernel
theorem dX10_barred_64 : decode cX10_barred 64 = .ok (.iconst 0, 1) := by decide +kernel
theorem dX10_barred_65 : decode cX10_barred 65 = .ok (.ireturn, 1) := by decide +kernel
theorem dX10_conflict_0 : decode cX10_conflict 0 = .ok (.aload_n 0, 1) := by decide +kernel
theorem dX10_conflict_1 : decode cX10_conflict 1 = .ok (.invokevirtual 109, 3) := by decide +kernel
theorem dX10_conflict_4 : decode cX10_conflict 4 = .ok (.aload_n 0, 1) := by decide +kernel
theorem dX10_conflict_5 : decode cX10_conflict 5 = .ok (.iload_n 1, 1) := by decide +kernel
theorem dX10_conflict_6 : decode cX10_conflict 6 = .ok (.iload_n 2, 1) := by decide +kernel
theorem dX10_conflict_7 : decode cX10_conflict 7 = .ok (.invokevirtual 105, 3) := by decide +kernel
theorem dX10_conflict_10 : decode cX10_conflict 10 = .ok (.ifCond .eq 12, 3) := by decide +kernel
theorem dX10_conflict_13 : decode cX10_conflict 13 = .ok (.aload_n 0, 1) := by decide +kernel
theorem dX10_conflict_14 : decode cX10_conflict 14 = .ok (.iload_n 1, 1) := by decide +kernel
theorem dX10_conflict_15 : decode cX10_conflict 15 = .ok (.iload_n 3, 1) := by decide +kernel
theorem dX10_conflict_16 : decode cX10_conflict 16 = .ok (.invokevirtual 105, 3) := by decide +kernel
theorem dX10_conflict_19 : decode cX10_conflict 19 = .ok (.ifCond .ne 9, 3) := by decide +kernel
theorem dX10_conflict_22 : decode cX10_conflict 22 = .ok (.aload_n 0, 1) := by decide +kernel
theorem dX10_conflict_23 : decode cX10_conflict 23 = .ok (.iconst 1, 1) := by decide +kernel
theorem dX10_conflict_24 : decode cX10_conflict 24 = .ok (.invokevirtual 53, 3) := by decide +kernel
theorem dX10_conflict_27 : decode cX10_conflict 27 = .ok (.ireturn, 1) := by decide +kernel
theorem dX10_conflict_28 : decode cX10_conflict 28 = .ok (.iload_n 2, 1) := by decide +kernel
theorem dX10_conflict_29 : decode cX10_conflict 29 = .ok (.iload_n 3, 1) := by decide +kernel
theorem dX10_conflict_30 : decode cX10_conflict 30 = .ok (.if_icmp .eq 25, 3) := by decide +kernel
theorem dX10_conflict_33 : decode cX10_conflict 33 = .ok (.iload 4, 2) := by decide +kernel
theorem dX10_conflict_35 : decode cX10_conflict 35 = .ok (.iconst 0, 1) := by decide +kernel
theorem dX10_conflict_36 : decode cX10_conflict 36 = .ok (.bipush 20, 2) := by decide +kernel
theorem dX10_conflict_38 : decode cX10_conflict 38 = .ok (.invokestatic 70, 3) := by decide +kernel
theorem dX10_conflict_41 : decode cX10_conflict 41 = .ok (.ifCond .eq 14, 3) := by decide +kernel
theorem dX10_conflict_44 : decode cX10_conflict 44 = .ok (.iload 5, 2) := by decide +kernel
theorem dX10_conflict_46 : decode cX10_conflict 46 = .ok (.iconst 0, 1) := by decide +kernel
theorem dX10_conflict_47 : decode cX10_conflict 47 = .ok (.bipush 20, 2) := by decide +kernel
theorem dX10_conflict_49 : decode cX10_conflict 49 = .ok (.invokestatic 70, 3) := by decide +kernel
theorem dX10_conflict_52 : decode cX10_conflict 52 = .ok (.ifCond .ne 9, 3) := by decide +kernel
theorem dX10_conflict_55 : decode cX10_conflict 55 = .ok (.aload_n 0, 1) := by decide +kernel
theorem dX10_conflict_56 : decode cX10_conflict 56 = .ok (.iconst 2, 1) := by decide +kernel
theorem dX10_conflict_57 : decode cX10_conflict 57 = .ok (.invokevirtual 53, 3) := by decide +kernel
theorem dX10_conflict_60 : decode cX10_conflict 60 = .ok (.ireturn, 1) := by decide +kernel
theorem dX10_conflict_61 : decode cX10_conflict 61 = .ok (.aload_n 0, 1) := by decide +kernel
theorem dX10_conflict_62 : decode cX10_conflict 62 = .ok (.iload_n 1, 1) := by decide +kernel
theorem dX10_conflict_63 : decode cX10_conflict 63 = .ok (.iconst 4, 1) := by decide +kernel
theorem dX10_conflict_64 : decode cX10_conflict 64 = .ok (.invokevirtual 78, 3) := by decide +kernel
theorem dX10_conflict_67 : decode cX10_conflict 67 = .ok (.ifCond .lt 9, 3) := by decide +kernel
theorem dX10_conflict_70 : decode cX10_conflict 70 = .ok (.aload_n 0, 1) := by decide +kernel
theorem dX10_conflict_71 : decode cX10_conflict 71 = .ok (.iconst 3, 1) := by decide +kernel
theorem dX10_conflict_72 : decode cX10_conflict 72 = .ok (.invokevirtual 53, 3) := by decide +kernel
theorem dX10_conflict_75 : decode cX10_conflict 75 = .ok (.ireturn, 1) := by decide +kernel
theorem dX10_conflict_76 : decode cX10_conflict 76 = .ok (.aload_n 0, 1) := by decide +kernel
theorem dX10_conflict_77 : decode cX10_conflict 77 = .ok (.iload_n 1, 1) := by decide +kernel
theorem dX10_conflict_78 : decode cX10_conflict 78 = .ok (.iload_n 2, 1) := by decide +kernel
theorem dX10_conflict_79 : decode cX10_conflict 79 = .ok (.iload_n 3, 1) := by decide +kernel
theorem dX10_conflict_80 : decode cX10_conflict 80 = .ok (.iload 4, 2) := by decide +kernel
theorem dX10_conflict_82 : decode cX10_conflict 82 = .ok (.invokevirtual 151, 3) := by decide +kernel
theorem dX10_conflict_85 : decode cX10_conflict 85 = .ok (.aload_n 0, 1) := by decide +kernel
theorem dX10_conflict_86 : decode cX10_conflict 86 = .ok (.iload_n 1, 1) := by decide +kernel
theorem dX10_conflict_87 : decode cX10_conflict 87 = .ok (.iload_n 3, 1) := by decide +kernel
theorem dX10_conflict_88 : decode cX10_conflict 88 = .ok (.iload_n 2, 1) := by decide +kernel
theorem dX10_conflict_89 : decode cX10_conflict 89 = .ok (.iload 5, 2) := by decide +kernel
theorem dX10_conflict_91 : decode cX10_conflict 91 = .ok (.invokevirtual 151, 3) := by decide +kernel
theorem dX10_conflict_94 : decode cX10_conflict 94 = .ok (.aload_n 0, 1) := by decide +kernel
theorem dX10_conflict_95 : decode cX10_conflict 95 = .ok (.iload_n 1, 1) := by decide +kernel
theorem dX10_conflict_96 : decode cX10_conflict 96 = .ok (.iconst 0, 1) := by decide +kernel
theorem dX10_conflict_97 : decode cX10_conflict 97 = .ok (.iload_n 2, 1) := by decide +kernel
theorem dX10_conflict_98 : decode cX10_conflict 98 = .ok (.invokevirtual 155, 3) := by decide +kernel
theorem dX10_conflict_101 : decode cX10_conflict 101 = .ok (.istore 6, 2) := by decide +kernel
theorem dX10_conflict_103 : decode cX10_conflict 103 = .ok (.iload 6, 2) := by decide +kernel
theorem dX10_conflict_105 : decode cX10_conflict 105 = .ok (.ifCond .ne 12, 3) := by decide +kernel
theorem dX10_conflict_108 : decode cX10_conflict 108 = .ok (.aload_n 0, 1) := by decide +kernel
theorem dX10_conflict_109 : decode cX10_conflict 109 = .ok (.iload_n 1, 1) := by decide +kernel
theorem dX10_conflict_110 : decode cX10_conflict 110 = .ok (.iconst 1, 1) := by decide +kernel
theorem dX10_conflict_111 : decode cX10_conflict 111 = .ok (.iload_n 2, 1) := by decide +kernel
theorem dX10_conflict_112 : decode cX10_conflict 112 = .ok (.invokevirtual 155, 3) := by decide +kernel
theorem dX10_conflict_115 : decode cX10_conflict 115 = .ok (.istore 6, 2) := by decide +kernel
theorem dX10_conflict_117 : decode cX10_conflict 117 = .ok (.iload 6, 2) := by decide +kernel
theorem dX10_conflict_119 : decode cX10_conflict 119 = .ok (.ifCond .le 42, 3) := by decide +kernel
theorem dX10_conflict_122 : decode cX10_conflict 122 = .ok (.iconst 0, 1) := by decide +kernel
theorem dX10_conflict_123 : decode cX10_conflict 123 = .ok (.istore 7, 2) := by decide +kernel
theorem dX10_conflict_125 : decode cX10_conflict 125 = .ok (.iload 7, 2) := by decide +kernel
theorem dX10_conflict_127 : decode cX10_conflict 127 = .ok (.sipush 490, 3) := by decide +kernel
theorem dX10_conflict_130 : decode cX10_conflict 130 = .ok (.if_icmp .ge 23, 3) := by decide +kernel
theorem dX10_conflict_133 : decode cX10_conflict 133 = .ok (.aload_n 0, 1) := by decide +kernel
theorem dX10_conflict_134 : decode cX10_conflict 134 = .ok (.getfield 9, 3) := by decide +kernel
theorem dX10_conflict_137 : decode cX10_conflict 137 = .ok (.iload 7, 2) := by decide +kernel
theorem dX10_conflict_139 : decode cX10_conflict 139 = .ok (.aload_n 0, 1) := by decide +kernel
theorem dX10_conflict_140 : decode cX10_conflict 140 = .ok (.getfield 19, 3) := by decide +kernel
theorem dX10_conflict_143 : decode cX10_conflict 143 = .ok (.iload 7, 2) := by decide +kernel
theorem dX10_conflict_145 : decode cX10_conflict 145 = .ok (.iaload, 1) := by decide +kernel
theorem dX10_conflict_146 : decode cX10_conflict 146 = .ok (.iastore, 1) := by decide +kernel
theorem dX10_conflict_147 : decode cX10_conflict 147 = .ok (.iinc 7 1, 3) := by decide +kernel
theorem dX10_conflict_150 : decode cX10_conflict 150 = .ok (.goto (-25), 3) := by decide +kernel
theorem dX10_conflict_153 : decode cX10_conflict 153 = .ok (.aload_n 0, 1) := by decide +kernel
theorem dX10_conflict_154 : decode cX10_conflict 154 = .ok (.iload 6, 2) := by decide +kernel
theorem dX10_conflict_156 : decode cX10_conflict 156 = .ok (.iconst 4, 1) := by decide +kernel
theorem dX10_conflict_157 : decode cX10_conflict 157 = .ok (.invokevirtual 158, 3) := by decide +kernel
theorem dX10_conflict_160 : decode cX10_conflict 160 = .ok (.ireturn, 1) := by decide +kernel
theorem dX10_conflict_161 : decode cX10_conflict 161 = .ok (.aload_n 0, 1) := by decide +kernel
theorem dX10_conflict_162 : decode cX10_conflict 162 = .ok (.invokevirtual 60, 3) := by decide +kernel
theorem dX10_conflict_165 : decode cX10_conflict 165 = .ok (.aload_n 0, 1) := by decide +kernel
theorem dX10_conflict_166 : decode cX10_conflict 166 = .ok (.iload_n 1, 1) := by decide +kernel
theorem dX10_conflict_167 : decode cX10_conflict 167 = .ok (.invokevirtual 127, 3) := by decide +kernel
theorem dX10_conflict_170 : decode cX10_conflict 170 = .ok (.ireturn, 1) := by decide +kernel
theorem dX10_peace_0 : decode cX10_peace 0 = .ok (.aload_n 0, 1) := by decide +kernel
theorem dX10_peace_1 : decode cX10_peace 1 = .ok (.iconst 0, 1) := by decide +kernel
theorem dX10_peace_2 : decode cX10_peace 2 = .ok (.putfield 47, 3) := by decide +kernel
theorem dX10_peace_5 : decode cX10_peace 5 = .ok (.aload_n 0, 1) := by decide +kernel
theorem dX10_peace_6 : decode cX10_peace 6 = .ok (.iload_n 1, 1) := by decide +kernel
theorem dX10_peace_7 : decode cX10_peace 7 = .ok (.iload_n 2, 1) := by decide +kernel
theorem dX10_peace_8 : decode cX10_peace 8 = .ok (.invokevirtual 105, 3) := by decide +kernel
theorem dX10_peace_11 : decode cX10_peace 11 = .ok (.ifCond .eq 12, 3) := by decide +kernel
theorem dX10_peace_14 : decode cX10_peace 14 = .ok (.aload_n 0, 1) := by decide +kernel
theorem dX10_peace_15 : decode cX10_peace 15 = .ok (.iload_n 1, 1) := by decide +kernel
theorem dX10_peace_16 : decode cX10_peace 16 = .ok (.iload_n 3, 1) := by decide +kernel
theorem dX10_peace_17 : decode cX10_peace 17 = .ok (.invokevirtual 105, 3) := by decide +kernel
theorem dX10_peace_20 : decode cX10_peace 20 = .ok (.ifCond .ne 9, 3) := by decide +kernel
theorem dX10_peace_23 : decode cX10_peace 23 = .ok (.aload_n 0, 1) := by decide +kernel
theorem dX10_peace_24 : decode cX10_peace 24 = .ok (.iconst 1, 1) := by decide +kernel
theorem dX10_peace_25 : decode cX10_peace 25 = .ok (.invokevirtual 53, 3) := by decide +kernel
theorem dX10_peace_28 : decode cX10_peace 28 = .ok (.ireturn, 1) := by decide +kernel
theorem dX10_peace_29 : decode cX10_peace 29 = .ok (.aload_n 0, 1) := by decide +kernel
theorem dX10_peace_30 : decode cX10_peace 30 = .ok (.iload_n 1, 1) := by decide +kernel
theorem dX10_peace_31 : decode cX10_peace 31 = .ok (.iload_n 2, 1) := by decide +kernel
theorem dX10_peace_32 : decode cX10_peace 32 = .ok (.iload_n 3, 1) := by decide +kernel
theorem dX10_peace_33 : decode cX10_peace 33 = .ok (.invokevirtual 121, 3) := by decide +kernel
theorem dX10_peace_36 : decode cX10_peace 36 = .ok (.istore 4, 2) := by decide +kernel
theorem dX10_peace_38 : decode cX10_peace 38 = .ok (.iload 4, 2) := by decide +kernel
theorem dX10_peace_40 : decode cX10_peace 40 = .ok (.ifCond .ge 9, 3) := by decide +kernel
theorem dX10_peace_43 : decode cX10_peace 43 = .ok (.aload_n 0, 1) := by decide +kernel
theorem dX10_peace_44 : decode cX10_peace 44 = .ok (.iconst 2, 1) := by decide +kernel
theorem dX10_peace_45 : decode cX10_peace 45 = .ok (.invokevirtual 53, 3) := by decide +kernel
theorem dX10_peace_48 : decode cX10_peace 48 = .ok (.ireturn, 1) := by decide +kernel
theorem dX10_peace_49 : decode cX10_peace 49 = .ok (.aload_n 0, 1) := by decide +kernel
theorem dX10_peace_50 : decode cX10_peace 50 = .ok (.invokevirtual 99, 3) := by decide +kernel
theorem dX10_peace_53 : decode cX10_peace 53 = .ok (.aload_n 0, 1) := by decide +kernel
theorem dX10_peace_54 : decode cX10_peace 54 = .ok (.iload_n 1, 1) := by decide +kernel
theorem dX10_peace_55 : decode cX10_peace 55 = .ok (.iload_n 3, 1) := by decide +kernel
theorem dX10_peace_56 : decode cX10_peace 56 = .ok (.iload_n 2, 1) := by decide +kernel
theorem dX10_peace_57 : decode cX10_peace 57 = .ok (.invokevirtual 121, 3) := by decide +kernel
theorem dX10_peace_60 : decode cX10_peace 60 = .ok (.istore 5, 2) := by decide +kernel
theorem dX10_peace_62 : decode cX10_peace 62 = .ok (.aload_n 0, 1) := by decide +kernel
theorem dX10_peace_63 : decode cX10_peace 63 = .ok (.iload_n 1, 1) := by decide +kernel
theorem dX10_peace_64 : decode cX10_peace 64 = .ok (.iload_n 2, 1) := by decide +kernel
theorem dX10_peace_65 : decode cX10_peace 65 = .ok (.iload_n 3, 1) := by decide +kernel
theorem dX10_peace_66 : decode cX10_peace 66 = .ok (.iconst (-1), 1) := by decide +kernel
theorem dX10_peace_67 : decode cX10_peace 67 = .ok (.invokevirtual 151, 3) := by decide +kernel
theorem dX10_peace_70 : decode cX10_peace 70 = .ok (.aload_n 0, 1) := by decide +kernel
theorem dX10_peace_71 : decode cX10_peace 71 = .ok (.iload_n 1, 1) := by decide +kernel
theorem dX10_peace_72 : decode cX10_peace 72 = .ok (.iload_n 3, 1) := by decide +kernel
theorem dX10_peace_73 : decode cX10_peace 73 = .ok (.iload_n 2, 1) := by decide +kernel
theorem dX10_peace_74 : decode cX10_peace 74 = .ok (.iconst (-1), 1) := by decide +kernel
theorem dX10_peace_75 : decode cX10_peace 75 = .ok (.invokevirtual 151, 3) := by decide +kernel
theorem dX10_peace_78 : decode cX10_peace 78 = .ok (.bipush 100, 2) := by decide +kernel
theorem dX10_peace_80 : decode cX10_peace 80 = .ok (.iload 4, 2) := by decide +kernel
theorem dX10_peace_82 : decode cX10_peace 82 = .ok (.imul, 1) := by decide +kernel
theorem dX10_peace_83 : decode cX10_peace 83 = .ok (.iload 5, 2) := by decide +kernel
theorem dX10_peace_85 : decode cX10_peace 85 = .ok (.iadd, 1) := by decide +kernel
theorem dX10_peace_86 : decode cX10_peace 86 = .ok (.ireturn, 1) := by decide +kernel
theorem dX10_clearance_0 : decode cX10_clearance 0 = .ok (.aload_n 0, 1) := by decide +kernel
theorem dX10_clearance_1 : decode cX10_clearance 1 = .ok (.iconst 0, 1) := by decide +kernel
theorem dX10_clearance_2 : decode cX10_clearance 2 = .ok (.putfield 47, 3) := by decide +kernel
theorem dX10_clearance_5 : decode cX10_clearance 5 = .ok (.aload_n 0, 1) := by decide +kernel
theorem dX10_clearance_6 : decode cX10_clearance 6 = .ok (.iload_n 1, 1) := by decide +kernel
theorem dX10_clearance_7 : decode cX10_clearance 7 = .ok (.iload_n 2, 1) := by decide +kernel
theorem dX10_clearance_8 : decode cX10_clearance 8 = .ok (.invokevirtual 105, 3) := by decide +kernel
theorem dX10_clearance_11 : decode cX10_clearance 11 = .ok (.ifCond .eq 22, 3) := by decide +kernel
theorem dX10_clearance_14 : decode cX10_clearance 14 = .ok (.aload_n 0, 1) := by decide +kernel
theorem dX10_clearance_15 : decode cX10_clearance 15 = .ok (.iload_n 1, 1) := by decide +kernel
theorem dX10_clearance_16 : decode cX10_clearance 16 = .ok (.iload_n 3, 1) := by decide +kernel
theorem dX10_clearance_17 : decode cX10_clearance 17 = .ok (.invokevirtual 105, 3) := by decide +kernel
theorem dX10_clearance_20 : decode cX10_clearance 20 = .ok (.ifCond .eq 13, 3) := by decide +kernel
theorem dX10_clearance_23 : decode cX10_clearance 23 = .ok (.aload_n 0, 1) := by decide +kernel
theorem dX10_clearance_24 : decode cX10_clearance 24 = .ok (.iload_n 1, 1) := by decide +kernel
theorem dX10_clearance_25 : decode cX10_clearance 25 = .ok (.iload_n 2, 1) := by decide +kernel
theorem dX10_clearance_26 : decode cX10_clearance 26 = .ok (.iload_n 3, 1) := by decide +kernel
theorem dX10_clearance_27 : decode cX10_clearance 27 = .ok (.invokevirtual 121, 3) := by decide +kernel
theorem dX10_clearance_30 : decode cX10_clearance 30 = .ok (.goto 8, 3) := by decide +kernel
theorem dX10_clearance_33 : decode cX10_clearance 33 = .ok (.aload_n 0, 1) := by decide +kernel
theorem dX10_clearance_34 : decode cX10_clearance 34 = .ok (.iconst 1, 1) := by decide +kernel
theorem dX10_clearance_35 : decode cX10_clearance 35 = .ok (.invokevirtual 53, 3) := by decide +kernel
theorem dX10_clearance_38 : decode cX10_clearance 38 = .ok (.ireturn, 1) := by decide +kernel
theorem dX10_puts_0 : decode cX10_puts 0 = .ok (.iload_n 1, 1) := by decide +kernel
theorem dX10_puts_1 : decode cX10_puts 1 = .ok (.iload_n 3, 1) := by decide +kernel
theorem dX10_puts_2 : decode cX10_puts 2 = .ok (.invokestatic 66, 3) := by decide +kernel
theorem dX10_puts_5 : decode cX10_puts 5 = .ok (.bipush 9, 2) := by decide +kernel
theorem dX10_puts_7 : decode cX10_puts 7 = .ok (.iadd, 1) := by decide +kernel
theorem dX10_puts_8 : decode cX10_puts 8 = .ok (.iconst 2, 1) := by decide +kernel
theorem dX10_puts_9 : decode cX10_puts 9 = .ok (.iload_n 2, 1) := by decide +kernel
theorem dX10_puts_10 : decode cX10_puts 10 = .ok (.imul, 1) := by decide +kernel
theorem dX10_puts_11 : decode cX10_puts 11 = .ok (.iadd, 1) := by decide +kernel
theorem dX10_puts_12 : decode cX10_puts 12 = .ok (.istore 6, 2) := by decide +kernel
theorem dX10_puts_14 : decode cX10_puts 14 = .ok (.aload_n 0, 1) := by decide +kernel
theorem dX10_puts_15 : decode cX10_puts 15 = .ok (.getfield 9, 3) := by decide +kernel
theorem dX10_puts_18 : decode cX10_puts 18 = .ok (.iload 6, 2) := by decide +kernel
theorem dX10_puts_20 : decode cX10_puts 20 = .ok (.iload 4, 2) := by decide +kernel
theorem dX10_puts_22 : decode cX10_puts 22 = .ok (.iastore, 1) := by decide +kernel
theorem dX10_puts_23 : decode cX10_puts 23 = .ok (.aload_n 0, 1) := by decide +kernel
theorem dX10_puts_24 : decode cX10_puts 24 = .ok (.getfield 9, 3) := by decide +kernel
theorem dX10_puts_27 : decode cX10_puts 27 = .ok (.iload 6, 2) := by decide +kernel
theorem dX10_puts_29 : decode cX10_puts 29 = .ok (.iconst 1, 1) := by decide +kernel
theorem dX10_puts_30 : decode cX10_puts 30 = .ok (.iadd, 1) := by decide +kernel
theorem dX10_puts_31 : decode cX10_puts 31 = .ok (.iload 5, 2) := by decide +kernel
theorem dX10_puts_33 : decode cX10_puts 33 = .ok (.iastore, 1) := by decide +kernel
theorem dX10_puts_34 : decode cX10_puts 34 = .ok (.return_, 1) := by decide +kernel
theorem dX10_greens_0 : decode cX10_greens 0 = .ok (.iconst 0, 1) := by decide +kernel
theorem dX10_greens_1 : decode cX10_greens 1 = .ok (.istore_n 3, 1) := by decide +kernel
theorem dX10_greens_2 : decode cX10_greens 2 = .ok (.iconst 0, 1) := by decide +kernel
theorem dX10_greens_3 : decode cX10_greens 3 = .ok (.istore 4, 2) := by decide +kernel
theorem dX10_greens_5 : decode cX10_greens 5 = .ok (.iload 4, 2) := by decide +kernel
theorem dX10_greens_7 : decode cX10_greens 7 = .ok (.aload_n 0, 1) := by decide +kernel
theorem dX10_greens_8 : decode cX10_greens 8 = .ok (.iload_n 1, 1) := by decide +kernel
theorem dX10_greens_9 : decode cX10_greens 9 = .ok (.iconst 2, 1) := by decide +kernel
theorem dX10_greens_10 : decode cX10_greens 10 = .ok (.invokevirtual 78, 3) := by decide +kernel
theorem dX10_greens_13 : decode cX10_greens 13 = .ok (.if_icmp .ge 23, 3) := by decide +kernel
theorem dX10_greens_16 : decode cX10_greens 16 = .ok (.aload_n 0, 1) := by decide +kernel
theorem dX10_greens_17 : decode cX10_greens 17 = .ok (.iload_n 1, 1) := by decide +kernel
theorem dX10_greens_18 : decode cX10_greens 18 = .ok (.iload_n 2, 1) := by decide +kernel
theorem dX10_greens_19 : decode cX10_greens 19 = .ok (.iload 4, 2) := by decide +kernel
theorem dX10_greens_21 : decode cX10_greens 21 = .ok (.invokevirtual 96, 3) := by decide +kernel
theorem dX10_greens_24 : decode cX10_greens 24 = .ok (.ifCond .le 6, 3) := by decide +kernel
theorem dX10_greens_27 : decode cX10_greens 27 = .ok (.iinc 3 1, 3) := by decide +kernel
theorem dX10_greens_30 : decode cX10_greens 30 = .ok (.iinc 4 1, 3) := by decide +kernel
theorem dX10_greens_33 : decode cX10_greens 33 = .ok (.goto (-28), 3) := by decide +kernel
theorem dX10_greens_36 : decode cX10_greens 36 = .ok (.iload_n 3, 1) := by decide +kernel
theorem dX10_greens_37 : decode cX10_greens 37 = .ok (.ireturn, 1) := by decide +kernel
theorem dX10_hindered_0 : decode cX10_hindered 0 = .ok (.aload_n 0, 1) := by decide +kernel
theorem dX10_hindered_1 : decode cX10_hindered 1 = .ok (.iload_n 1, 1) := by decide +kernel
theorem dX10_hindered_2 : decode cX10_hindered 2 = .ok (.iload_n 2, 1) := by decide +kernel
theorem dX10_hindered_3 : decode cX10_hindered 3 = .ok (.iload_n 3, 1) := by decide +kernel
theorem dX10_hindered_4 : decode cX10_hindered 4 = .ok (.iload 4, 2) := by decide +kernel
theorem dX10_hindered_6 : decode cX10_hindered 6 = .ok (.iload 5, 2) := by decide +kernel
theorem dX10_hindered_8 : decode cX10_hindered 8 = .ok (.invokevirtual 161, 3) := by decide +kernel
theorem dX10_hindered_11 : decode cX10_hindered 11 = .ok (.iload 5, 2) := by decide +kernel
theorem dX10_hindered_13 : decode cX10_hindered 13 = .ok (.aload_n 0, 1) := by decide +kernel
theorem dX10_hindered_14 : decode cX10_hindered 14 = .ok (.iload_n 1, 1) := by decide +kernel
theorem dX10_hindered_15 : decode cX10_hindered 15 = .ok (.iload_n 3, 1) := by decide +kernel
theorem dX10_hindered_16 : decode cX10_hindered 16 = .ok (.iconst 1, 1) := by decide +kernel
theorem dX10_hindered_17 : decode cX10_hindered 17 = .ok (.invokevirtual 89, 3) := by decide +kernel
theorem dX10_hindered_20 : decode cX10_hindered 20 = .ok (.if_icmp .ge 5, 3) := by decide +kernel
theorem dX10_hindered_23 : decode cX10_hindered 23 = .ok (.iconst 1, 1) := by decide +kernel
theorem dX10_hindered_24 : decode cX10_hindered 24 = .ok (.ireturn, 1) := by decide +kernel
theorem dX10_hindered_25 : decode cX10_hindered 25 = .ok (.iload 5, 2) := by decide +kernel
theorem dX10_hindered_27 : decode cX10_hindered 27 = .ok (.aload_n 0, 1) := by decide +kernel
theorem dX10_hindered_28 : decode cX10_hindered 28 = .ok (.getfield 9, 3) := by decide +kernel
theorem dX10_hindered_31 : decode cX10_hindered 31 = .ok (.iconst 0, 1) := by decide +kernel
theorem dX10_hindered_32 : decode cX10_hindered 32 = .ok (.iaload, 1) := by decide +kernel
theorem dX10_hindered_33 : decode cX10_hindered 33 = .ok (.iconst 5, 1) := by decide +kernel
theorem dX10_hindered_34 : decode cX10_hindered 34 = .ok (.isub, 1) := by decide +kernel
theorem dX10_hindered_35 : decode cX10_hindered 35 = .ok (.if_icmp .le 7, 3) := by decide +kernel
theorem dX10_hindered_38 : decode cX10_hindered 38 = .ok (.iconst 2, 1) := by decide +kernel
theorem dX10_hindered_39 : decode cX10_hindered 39 = .ok (.goto 10, 3) := by decide +kernel
theorem dX10_hindered_42 : decode cX10_hindered 42 = .ok (.aload_n 0, 1) := by decide +kernel
theorem dX10_hindered_43 : decode cX10_hindered 43 = .ok (.iload_n 1, 1) := by decide +kernel
theorem dX10_hindered_44 : decode cX10_hindered 44 = .ok (.iload_n 2, 1) := by decide +kernel
theorem dX10_hindered_45 : decode cX10_hindered 45 = .ok (.iload_n 3, 1) := by decide +kernel
theorem dX10_hindered_46 : decode cX10_hindered 46 = .ok (.invokevirtual 155, 3) := by decide +kernel
theorem dX10_hindered_49 : decode cX10_hindered 49 = .ok (.ireturn, 1) := by decide +kernel
theorem dX10_isGreen_0 : decode cX10_isGreen 0 = .ok (.iload_n 1, 1) := by decide +kernel
theorem dX10_isGreen_1 : decode cX10_isGreen 1 = .ok (.iconst 0, 1) := by decide +kernel
theorem dX10_isGreen_2 : decode cX10_isGreen 2 = .ok (.aload_n 0, 1) := by decide +kernel
theorem dX10_isGreen_3 : decode cX10_isGreen 3 = .ok (.getfield 9, 3) := by decide +kernel
theorem dX10_isGreen_6 : decode cX10_isGreen 6 = .ok (.iconst 0, 1) := by decide +kernel
theorem dX10_isGreen_7 : decode cX10_isGreen 7 = .ok (.iaload, 1) := by decide +kernel
theorem dX10_isGreen_8 : decode cX10_isGreen 8 = .ok (.iconst 1, 1) := by decide +kernel
theorem dX10_isGreen_9 : decode cX10_isGreen 9 = .ok (.isub, 1) := by decide +kernel
theorem dX10_isGreen_10 : decode cX10_isGreen 10 = .ok (.invokestatic 70, 3) := by decide +kernel
theorem dX10_isGreen_13 : decode cX10_isGreen 13 = .ok (.ifCond .eq 21, 3) := by decide +kernel
theorem dX10_isGreen_16 : decode cX10_isGreen 16 = .ok (.iload_n 2, 1) := by decide +kernel
theorem dX10_isGreen_17 : decode cX10_isGreen 17 = .ok (.iconst 1, 1) := by decide +kernel
theorem dX10_isGreen_18 : decode cX10_isGreen 18 = .ok (.aload_n 0, 1) := by decide +kernel
theorem dX10_isGreen_19 : decode cX10_isGreen 19 = .ok (.getfield 9, 3) := by decide +kernel
theorem dX10_isGreen_22 : decode cX10_isGreen 22 = .ok (.iconst 0, 1) := by decide +kernel
theorem dX10_isGreen_23 : decode cX10_isGreen 23 = .ok (.iaload, 1) := by decide +kernel
theorem dX10_isGreen_24 : decode cX10_isGreen 24 = .ok (.invokestatic 70, 3) := by decide +kernel
theorem dX10_isGreen_27 : decode cX10_isGreen 27 = .ok (.ifCond .eq 7, 3) := by decide +kernel
theorem dX10_isGreen_30 : decode cX10_isGreen 30 = .ok (.iconst 1, 1) := by decide +kernel
theorem dX10_isGreen_31 : decode cX10_isGreen 31 = .ok (.goto 4, 3) := by decide +kernel
theorem dX10_isGreen_34 : decode cX10_isGreen 34 = .ok (.iconst 0, 1) := by decide +kernel
theorem dX10_isGreen_35 : decode cX10_isGreen 35 = .ok (.ireturn, 1) := by decide +kernel
theorem dX10_greened_0 : decode cX10_greened 0 = .ok (.aload_n 0, 1) := by decide +kernel
theorem dX10_greened_1 : decode cX10_greened 1 = .ok (.iload_n 1, 1) := by decide +kernel
theorem dX10_greened_2 : decode cX10_greened 2 = .ok (.iload_n 2, 1) := by decide +kernel
theorem dX10_greened_3 : decode cX10_greened 3 = .ok (.invokevirtual 165, 3) := by decide +kernel
theorem dX10_greened_6 : decode cX10_greened 6 = .ok (.ifCond .eq 12, 3) := by decide +kernel
theorem dX10_greened_9 : decode cX10_greened 9 = .ok (.aload_n 0, 1) := by decide +kernel
theorem dX10_greened_10 : decode cX10_greened 10 = .ok (.iload_n 1, 1) := by decide +kernel
theorem dX10_greened_11 : decode cX10_greened 11 = .ok (.iload_n 3, 1) := by decide +kernel
theorem dX10_greened_12 : decode cX10_greened 12 = .ok (.invokevirtual 105, 3) := by decide +kernel
theorem dX10_greened_15 : decode cX10_greened 15 = .ok (.ifCond .ne 5, 3) := by decide +kernel
theorem dX10_greened_18 : decode cX10_greened 18 = .ok (.iconst 1, 1) := by decide +kernel
theorem dX10_greened_19 : decode cX10_greened 19 = .ok (.ireturn, 1) := by decide +kernel
theorem dX10_greened_20 : decode cX10_greened 20 = .ok (.aload_n 0, 1) := by decide +kernel
theorem dX10_greened_21 : decode cX10_greened 21 = .ok (.iload 4, 2) := by decide +kernel
theorem dX10_greened_23 : decode cX10_greened 23 = .ok (.iload 5, 2) := by decide +kernel
theorem dX10_greened_25 : decode cX10_greened 25 = .ok (.invokevirtual 168, 3) := by decide +kernel
theorem dX10_greened_28 : decode cX10_greened 28 = .ok (.ifCond .ne 5, 3) := by decide +kernel
theorem dX10_greened_31 : decode cX10_greened 31 = .ok (.iconst 2, 1) := by decide +kernel
theorem dX10_greened_32 : decode cX10_greened 32 = .ok (.ireturn, 1) := by decide +kernel
theorem dX10_greened_33 : decode cX10_greened 33 = .ok (.aload_n 0, 1) := by decide +kernel
theorem dX10_greened_34 : decode cX10_greened 34 = .ok (.iload_n 1, 1) := by decide +kernel
theorem dX10_greened_35 : decode cX10_greened 35 = .ok (.iconst 4, 1) := by decide +kernel
theorem dX10_greened_36 : decode cX10_greened 36 = .ok (.invokevirtual 78, 3) := by decide +kernel
theorem dX10_greened_39 : decode cX10_greened 39 = .ok (.ifCond .lt 5, 3) := by decide +kernel
theorem dX10_greened_42 : decode cX10_greened 42 = .ok (.iconst 3, 1) := by decide +kernel
theorem dX10_greened_43 : decode cX10_greened 43 = .ok (.ireturn, 1) := by decide +kernel
theorem dX10_greened_44 : decode cX10_greened 44 = .ok (.aload_n 0, 1) := by decide +kernel
theorem dX10_greened_45 : decode cX10_greened 45 = .ok (.iload_n 1, 1) := by decide +kernel
theorem dX10_greened_46 : decode cX10_greened 46 = .ok (.iload_n 2, 1) := by decide +kernel
theorem dX10_greened_47 : decode cX10_greened 47 = .ok (.iload_n 3, 1) := by decide +kernel
theorem dX10_greened_48 : decode cX10_greened 48 = .ok (.iload 4, 2) := by decide +kernel
theorem dX10_greened_50 : decode cX10_greened 50 = .ok (.iload 5, 2) := by decide +kernel
theorem dX10_greened_52 : decode cX10_greened 52 = .ok (.invokevirtual 171, 3) := by decide +kernel
theorem dX10_greened_55 : decode cX10_greened 55 = .ok (.istore 6, 2) := by decide +kernel
theorem dX10_greened_57 : decode cX10_greened 57 = .ok (.iload 6, 2) := by decide +kernel
theorem dX10_greened_59 : decode cX10_greened 59 = .ok (.ifCond .le 11, 3) := by decide +kernel
theorem dX10_greened_62 : decode cX10_greened 62 = .ok (.aload_n 0, 1) := by decide +kernel
theorem dX10_greened_63 : decode cX10_greened 63 = .ok (.iload 6, 2) := by decide +kernel
theorem dX10_greened_65 : decode cX10_greened 65 = .ok (.putfield 50, 3) := by decide +kernel
theorem dX10_greened_68 : decode cX10_greened 68 = .ok (.iconst 4, 1) := by decide +kernel
theorem dX10_greened_69 : decode cX10_greened 69 = .ok (.ireturn, 1) := by decide +kernel
theorem dX10_greened_70 : decode cX10_greened 70 = .ok (.aload_n 0, 1) := by decide +kernel
theorem dX10_greened_71 : decode cX10_greened 71 = .ok (.aload_n 0, 1) := by decide +kernel
theorem dX10_greened_72 : decode cX10_greened 72 = .ok (.iload_n 1, 1) := by decide +kernel
theorem dX10_greened_73 : decode cX10_greened 73 = .ok (.iload_n 2, 1) := by decide +kernel
theorem dX10_greened_74 : decode cX10_greened 74 = .ok (.invokevirtual 174, 3) := by decide +kernel
theorem dX10_greened_77 : decode cX10_greened 77 = .ok (.putfield 102, 3) := by decide +kernel
theorem dX10_greened_80 : decode cX10_greened 80 = .ok (.iconst 0, 1) := by decide +kernel
theorem dX10_greened_81 : decode cX10_greened 81 = .ok (.ireturn, 1) := by decide +kernel
theorem dX10_green_0 : decode cX10_green 0 = .ok (.aload_n 0, 1) := by decide +kernel
theorem dX10_green_1 : decode cX10_green 1 = .ok (.invokevirtual 109, 3) := by decide +kernel
theorem dX10_green_4 : decode cX10_green 4 = .ok (.aload_n 0, 1) := by decide +kernel
theorem dX10_green_5 : decode cX10_green 5 = .ok (.aload_n 0, 1) := by decide +kernel
theorem dX10_green_6 : decode cX10_green 6 = .ok (.iload_n 1, 1) := by decide +kernel
theorem dX10_green_7 : decode cX10_green 7 = .ok (.iload_n 2, 1) := by decide +kernel
theorem dX10_green_8 : decode cX10_green 8 = .ok (.iload_n 3, 1) := by decide +kernel
theorem dX10_green_9 : decode cX10_green 9 = .ok (.iload 4, 2) := by decide +kernel
theorem dX10_green_11 : decode cX10_green 11 = .ok (.iload 5, 2) := by decide +kernel
theorem dX10_green_13 : decode cX10_green 13 = .ok (.invokevirtual 177, 3) := by decide +kernel
theorem dX10_green_16 : decode cX10_green 16 = .ok (.invokevirtual 115, 3) := by decide +kernel
theorem dX10_green_19 : decode cX10_green 19 = .ok (.ireturn, 1) := by decide +kernel
theorem dX10_hinders_0 : decode cX10_hinders 0 = .ok (.aload_n 0, 1) := by decide +kernel
theorem dX10_hinders_1 : decode cX10_hinders 1 = .ok (.iconst 0, 1) := by decide +kernel
theorem dX10_hinders_2 : decode cX10_hinders 2 = .ok (.putfield 47, 3) := by decide +kernel
theorem dX10_hinders_5 : decode cX10_hinders 5 = .ok (.aload_n 0, 1) := by decide +kernel
theorem dX10_hinders_6 : decode cX10_hinders 6 = .ok (.iload_n 1, 1) := by decide +kernel
theorem dX10_hinders_7 : decode cX10_hinders 7 = .ok (.iload_n 2, 1) := by decide +kernel
theorem dX10_hinders_8 : decode cX10_hinders 8 = .ok (.invokevirtual 165, 3) := by decide +kernel
theorem dX10_hinders_11 : decode cX10_hinders 11 = .ok (.ifCond .eq 12, 3) := by decide +kernel
theorem dX10_hinders_14 : decode cX10_hinders 14 = .ok (.aload_n 0, 1) := by decide +kernel
theorem dX10_hinders_15 : decode cX10_hinders 15 = .ok (.iload_n 1, 1) := by decide +kernel
theorem dX10_hinders_16 : decode cX10_hinders 16 = .ok (.iload_n 3, 1) := by decide +kernel
theorem dX10_hinders_17 : decode cX10_hinders 17 = .ok (.invokevirtual 105, 3) := by decide +kernel
theorem dX10_hinders_20 : decode cX10_hinders 20 = .ok (.ifCond .ne 9, 3) := by decide +kernel
theorem dX10_hinders_23 : decode cX10_hinders 23 = .ok (.aload_n 0, 1) := by decide +kernel
theorem dX10_hinders_24 : decode cX10_hinders 24 = .ok (.iconst 1, 1) := by decide +kernel
theorem dX10_hinders_25 : decode cX10_hinders 25 = .ok (.invokevirtual 53, 3) := by decide +kernel
theorem dX10_hinders_28 : decode cX10_hinders 28 = .ok (.ireturn, 1) := by decide +kernel
theorem dX10_hinders_29 : decode cX10_hinders 29 = .ok (.aload_n 0, 1) := by decide +kernel
theorem dX10_hinders_30 : decode cX10_hinders 30 = .ok (.iload 4, 2) := by decide +kernel
theorem dX10_hinders_32 : decode cX10_hinders 32 = .ok (.iload 5, 2) := by decide +kernel
theorem dX10_hinders_34 : decode cX10_hinders 34 = .ok (.invokevirtual 168, 3) := by decide +kernel
theorem dX10_hinders_37 : decode cX10_hinders 37 = .ok (.ifCond .ne 9, 3) := by decide +kernel
theorem dX10_hinders_40 : decode cX10_hinders 40 = .ok (.aload_n 0, 1) := by decide +kernel
theorem dX10_hinders_41 : decode cX10_hinders 41 = .ok (.iconst 2, 1) := by decide +kernel
theorem dX10_hinders_42 : decode cX10_hinders 42 = .ok (.invokevirtual 53, 3) := by decide +kernel
theorem dX10_hinders_45 : decode cX10_hinders 45 = .ok (.ireturn, 1) := by decide +kernel
theorem dX10_hinders_46 : decode cX10_hinders 46 = .ok (.aload_n 0, 1) := by decide +kernel
theorem dX10_hinders_47 : decode cX10_hinders 47 = .ok (.iload_n 1, 1) := by decide +kernel
theorem dX10_hinders_48 : decode cX10_hinders 48 = .ok (.iload_n 2, 1) := by decide +kernel
theorem dX10_hinders_49 : decode cX10_hinders 49 = .ok (.iload_n 3, 1) := by decide +kernel
theorem dX10_hinders_50 : decode cX10_hinders 50 = .ok (.invokevirtual 93, 3) := by decide +kernel
theorem dX10_hinders_53 : decode cX10_hinders 53 = .ok (.istore 6, 2) := by decide +kernel
theorem dX10_hinders_55 : decode cX10_hinders 55 = .ok (.aload_n 0, 1) := by decide +kernel
theorem dX10_hinders_56 : decode cX10_hinders 56 = .ok (.iload_n 1, 1) := by decide +kernel
theorem dX10_hinders_57 : decode cX10_hinders 57 = .ok (.iload_n 2, 1) := by decide +kernel
theorem dX10_hinders_58 : decode cX10_hinders 58 = .ok (.iload_n 3, 1) := by decide +kernel
theorem dX10_hinders_59 : decode cX10_hinders 59 = .ok (.invokevirtual 96, 3) := by decide +kernel
theorem dX10_hinders_62 : decode cX10_hinders 62 = .ok (.istore 7, 2) := by decide +kernel
theorem dX10_hinders_64 : decode cX10_hinders 64 = .ok (.aload_n 0, 1) := by decide +kernel
theorem dX10_hinders_65 : decode cX10_hinders 65 = .ok (.iload_n 1, 1) := by decide +kernel
theorem dX10_hinders_66 : decode cX10_hinders 66 = .ok (.iload_n 2, 1) := by decide +kernel
theorem dX10_hinders_67 : decode cX10_hinders 67 = .ok (.iload_n 3, 1) := by decide +kernel
theorem dX10_hinders_68 : decode cX10_hinders 68 = .ok (.iload 4, 2) := by decide +kernel
theorem dX10_hinders_70 : decode cX10_hinders 70 = .ok (.iload 5, 2) := by decide +kernel
theorem dX10_hinders_72 : decode cX10_hinders 72 = .ok (.invokevirtual 171, 3) := by decide +kernel
theorem dX10_hinders_75 : decode cX10_hinders 75 = .ok (.istore 8, 2) := by decide +kernel
theorem dX10_hinders_77 : decode cX10_hinders 77 = .ok (.aload_n 0, 1) := by decide +kernel
theorem dX10_hinders_78 : decode cX10_hinders 78 = .ok (.iload_n 1, 1) := by decide +kernel
theorem dX10_hinders_79 : decode cX10_hinders 79 = .ok (.iload_n 2, 1) := by decide +kernel
theorem dX10_hinders_80 : decode cX10_hinders 80 = .ok (.iload_n 3, 1) := by decide +kernel
theorem dX10_hinders_81 : decode cX10_hinders 81 = .ok (.iload 6, 2) := by decide +kernel
theorem dX10_hinders_83 : decode cX10_hinders 83 = .ok (.iload 7, 2) := by decide +kernel
theorem dX10_hinders_85 : decode cX10_hinders 85 = .ok (.invokevirtual 161, 3) := by decide +kernel
theorem dX10_hinders_88 : decode cX10_hinders 88 = .ok (.iload 8, 2) := by decide +kernel
theorem dX10_hinders_90 : decode cX10_hinders 90 = .ok (.ireturn, 1) := by decide +kernel
theorem dX10_dark_0 : decode cX10_dark 0 = .ok (.aload_n 0, 1) := by decide +kernel
theorem dX10_dark_1 : decode cX10_dark 1 = .ok (.iconst 0, 1) := by decide +kernel
theorem dX10_dark_2 : decode cX10_dark 2 = .ok (.putfield 47, 3) := by decide +kernel
theorem dX10_dark_5 : decode cX10_dark 5 = .ok (.aload_n 0, 1) := by decide +kernel
theorem dX10_dark_6 : decode cX10_dark 6 = .ok (.iload_n 1, 1) := by decide +kernel
theorem dX10_dark_7 : decode cX10_dark 7 = .ok (.iload_n 2, 1) := by decide +kernel
theorem dX10_dark_8 : decode cX10_dark 8 = .ok (.invokevirtual 165, 3) := by decide +kernel
theorem dX10_dark_11 : decode cX10_dark 11 = .ok (.ifCond .eq 12, 3) := by decide +kernel
theorem dX10_dark_14 : decode cX10_dark 14 = .ok (.aload_n 0, 1) := by decide +kernel
theorem dX10_dark_15 : decode cX10_dark 15 = .ok (.iload_n 1, 1) := by decide +kernel
theorem dX10_dark_16 : decode cX10_dark 16 = .ok (.iload_n 3, 1) := by decide +kernel
theorem dX10_dark_17 : decode cX10_dark 17 = .ok (.invokevirtual 105, 3) := by decide +kernel
theorem dX10_dark_20 : decode cX10_dark 20 = .ok (.ifCond .ne 9, 3) := by decide +kernel
theorem dX10_dark_23 : decode cX10_dark 23 = .ok (.aload_n 0, 1) := by decide +kernel
theorem dX10_dark_24 : decode cX10_dark 24 = .ok (.iconst 1, 1) := by decide +kernel
theorem dX10_dark_25 : decode cX10_dark 25 = .ok (.invokevirtual 53, 3) := by decide +kernel
theorem dX10_dark_28 : decode cX10_dark 28 = .ok (.ireturn, 1) := by decide +kernel
theorem dX10_dark_29 : decode cX10_dark 29 = .ok (.aload_n 0, 1) := by decide +kernel
theorem dX10_dark_30 : decode cX10_dark 30 = .ok (.iload_n 1, 1) := by decide +kernel
theorem dX10_dark_31 : decode cX10_dark 31 = .ok (.iconst 4, 1) := by decide +kernel
theorem dX10_dark_32 : decode cX10_dark 32 = .ok (.invokevirtual 78, 3) := by decide +kernel
theorem dX10_dark_35 : decode cX10_dark 35 = .ok (.ifCond .lt 9, 3) := by decide +kernel
theorem dX10_dark_38 : decode cX10_dark 38 = .ok (.aload_n 0, 1) := by decide +kernel
theorem dX10_dark_39 : decode cX10_dark 39 = .ok (.iconst 2, 1) := by decide +kernel
theorem dX10_dark_40 : decode cX10_dark 40 = .ok (.invokevirtual 53, 3) := by decide +kernel
theorem dX10_dark_43 : decode cX10_dark 43 = .ok (.ireturn, 1) := by decide +kernel
theorem dX10_dark_44 : decode cX10_dark 44 = .ok (.aload_n 0, 1) := by decide +kernel
theorem dX10_dark_45 : decode cX10_dark 45 = .ok (.invokevirtual 99, 3) := by decide +kernel
theorem dX10_dark_48 : decode cX10_dark 48 = .ok (.aload_n 0, 1) := by decide +kernel
theorem dX10_dark_49 : decode cX10_dark 49 = .ok (.iload_n 1, 1) := by decide +kernel
theorem dX10_dark_50 : decode cX10_dark 50 = .ok (.iload_n 2, 1) := by decide +kernel
theorem dX10_dark_51 : decode cX10_dark 51 = .ok (.iload_n 3, 1) := by decide +kernel
theorem dX10_dark_52 : decode cX10_dark 52 = .ok (.invokevirtual 96, 3) := by decide +kernel
theorem dX10_dark_55 : decode cX10_dark 55 = .ok (.istore 4, 2) := by decide +kernel
theorem dX10_dark_57 : decode cX10_dark 57 = .ok (.aload_n 0, 1) := by decide +kernel
theorem dX10_dark_58 : decode cX10_dark 58 = .ok (.iload_n 1, 1) := by decide +kernel
theorem dX10_dark_59 : decode cX10_dark 59 = .ok (.iload_n 2, 1) := by decide +kernel
theorem dX10_dark_60 : decode cX10_dark 60 = .ok (.iload_n 3, 1) := by decide +kernel
theorem dX10_dark_61 : decode cX10_dark 61 = .ok (.iconst 0, 1) := by decide +kernel
theorem dX10_dark_62 : decode cX10_dark 62 = .ok (.iconst 0, 1) := by decide +kernel
theorem dX10_dark_63 : decode cX10_dark 63 = .ok (.invokevirtual 161, 3) := by decide +kernel
theorem dX10_dark_66 : decode cX10_dark 66 = .ok (.iload 4, 2) := by decide +kernel
theorem dX10_dark_68 : decode cX10_dark 68 = .ok (.ireturn, 1) := by decide +kernel
theorem dX10_puts__0 : decode cX10_puts_ 0 = .ok (.iload_n 2, 1) := by decide +kernel
theorem dX10_puts__1 : decode cX10_puts_ 1 = .ok (.aload_n 0, 1) := by decide +kernel
theorem dX10_puts__2 : decode cX10_puts_ 2 = .ok (.iload_n 1, 1) := by decide +kernel
theorem dX10_puts__3 : decode cX10_puts_ 3 = .ok (.iconst 2, 1) := by decide +kernel
theorem dX10_puts__4 : decode cX10_puts_ 4 = .ok (.invokevirtual 78, 3) := by decide +kernel
theorem dX10_puts__7 : decode cX10_puts_ 7 = .ok (.if_icmp .ne 5, 3) := by decide +kernel
theorem dX10_puts__10 : decode cX10_puts_ 10 = .ok (.iconst 1, 1) := by decide +kernel
theorem dX10_puts__11 : decode cX10_puts_ 11 = .ok (.ireturn, 1) := by decide +kernel
theorem dX10_puts__12 : decode cX10_puts_ 12 = .ok (.iconst 0, 1) := by decide +kernel
theorem dX10_puts__13 : decode cX10_puts_ 13 = .ok (.istore 4, 2) := by decide +kernel
theorem dX10_puts__15 : decode cX10_puts_ 15 = .ok (.iload 4, 2) := by decide +kernel
theorem dX10_puts__17 : decode cX10_puts_ 17 = .ok (.iload_n 3, 1) := by decide +kernel
theorem dX10_puts__18 : decode cX10_puts_ 18 = .ok (.if_icmp .ge 83, 3) := by decide +kernel
theorem dX10_puts__21 : decode cX10_puts_ 21 = .ok (.iconst 1, 1) := by decide +kernel
theorem dX10_puts__22 : decode cX10_puts_ 22 = .ok (.istore 5, 2) := by decide +kernel
theorem dX10_puts__24 : decode cX10_puts_ 24 = .ok (.iconst 0, 1) := by decide +kernel
theorem dX10_puts__25 : decode cX10_puts_ 25 = .ok (.istore 6, 2) := by decide +kernel
theorem dX10_puts__27 : decode cX10_puts_ 27 = .ok (.iload 6, 2) := by decide +kernel
theorem dX10_puts__29 : decode cX10_puts_ 29 = .ok (.iload_n 2, 1) := by decide +kernel
theorem dX10_puts__30 : decode cX10_puts_ 30 = .ok (.if_icmp .ge 35, 3) := by decide +kernel
theorem dX10_puts__33 : decode cX10_puts_ 33 = .ok (.aload_n 0, 1) := by decide +kernel
theorem dX10_puts__34 : decode cX10_puts_ 34 = .ok (.getfield 35, 3) := by decide +kernel
theorem dX10_puts__37 : decode cX10_puts_ 37 = .ok (.iload 6, 2) := by decide +kernel
theorem dX10_puts__39 : decode cX10_puts_ 39 = .ok (.iaload, 1) := by decide +kernel
theorem dX10_puts__40 : decode cX10_puts_ 40 = .ok (.iload 4, 2) := by decide +kernel
theorem dX10_puts__42 : decode cX10_puts_ 42 = .ok (.if_icmp .ne 17, 3) := by decide +kernel
theorem dX10_puts__45 : decode cX10_puts_ 45 = .ok (.aload_n 0, 1) := by decide +kernel
theorem dX10_puts__46 : decode cX10_puts_ 46 = .ok (.iload_n 1, 1) := by decide +kernel
theorem dX10_puts__47 : decode cX10_puts_ 47 = .ok (.iload_n 2, 1) := by decide +kernel
theorem dX10_puts__48 : decode cX10_puts_ 48 = .ok (.iload 6, 2) := by decide +kernel
theorem dX10_puts__50 : decode cX10_puts_ 50 = .ok (.invokevirtual 121, 3) := by decide +kernel
theorem dX10_puts__53 : decode cX10_puts_ 53 = .ok (.ifCond .lt 6, 3) := by decide +kernel
theorem dX10_puts__56 : decode cX10_puts_ 56 = .ok (.iconst 0, 1) := by decide +kernel
theorem dX10_puts__57 : decode cX10_puts_ 57 = .ok (.istore 5, 2) := by decide +kernel
theorem dX10_puts__59 : decode cX10_puts_ 59 = .ok (.iinc 6 1, 3) := by decide +kernel
theorem dX10_puts__62 : decode cX10_puts_ 62 = .ok (.goto (-35), 3) := by decide +kernel
theorem dX10_puts__65 : decode cX10_puts_ 65 = .ok (.iload 5, 2) := by decide +kernel
theorem dX10_puts__67 : decode cX10_puts_ 67 = .ok (.ifCond .ne 6, 3) := by decide +kernel
theorem dX10_puts__70 : decode cX10_puts_ 70 = .ok (.goto 25, 3) := by decide +kernel
theorem dX10_puts__73 : decode cX10_puts_ 73 = .ok (.aload_n 0, 1) := by decide +kernel
theorem dX10_puts__74 : decode cX10_puts_ 74 = .ok (.getfield 35, 3) := by decide +kernel
theorem dX10_puts__77 : decode cX10_puts_ 77 = .ok (.iload_n 2, 1) := by decide +kernel
theorem dX10_puts__78 : decode cX10_puts_ 78 = .ok (.iload 4, 2) := by decide +kernel
theorem dX10_puts__80 : decode cX10_puts_ 80 = .ok (.iastore, 1) := by decide +kernel
theorem dX10_puts__81 : decode cX10_puts_ 81 = .ok (.aload_n 0, 1) := by decide +kernel
theorem dX10_puts__82 : decode cX10_puts_ 82 = .ok (.iload_n 1, 1) := by decide +kernel
theorem dX10_puts__83 : decode cX10_puts_ 83 = .ok (.iload_n 2, 1) := by decide +kernel
theorem dX10_puts__84 : decode cX10_puts_ 84 = .ok (.iconst 1, 1) := by decide +kernel
theorem dX10_puts__85 : decode cX10_puts_ 85 = .ok (.iadd, 1) := by decide +kernel
theorem dX10_puts__86 : decode cX10_puts_ 86 = .ok (.iload_n 3, 1) := by decide +kernel
theorem dX10_puts__87 : decode cX10_puts_ 87 = .ok (.invokevirtual 180, 3) := by decide +kernel
theorem dX10_puts__90 : decode cX10_puts_ 90 = .ok (.ifCond .eq 5, 3) := by decide +kernel
theorem dX10_puts__93 : decode cX10_puts_ 93 = .ok (.iconst 1, 1) := by decide +kernel
theorem dX10_puts__94 : decode cX10_puts_ 94 = .ok (.ireturn, 1) := by decide +kernel
theorem dX10_puts__95 : decode cX10_puts_ 95 = .ok (.iinc 4 1, 3) := by decide +kernel
theorem dX10_puts__98 : decode cX10_puts_ 98 = .ok (.goto (-83), 3) := by decide +kernel
theorem dX10_puts__101 : decode cX10_puts_ 101 = .ok (.iconst 0, 1) := by decide +kernel
theorem dX10_puts__102 : decode cX10_puts_ 102 = .ok (.ireturn, 1) := by decide +kernel
theorem dX10_phases_0 : decode cX10_phases 0 = .ok (.iconst 1, 1) := by decide +kernel
theorem dX10_phases_1 : decode cX10_phases 1 = .ok (.istore_n 2, 1) := by decide +kernel
theorem dX10_phases_2 : decode cX10_phases 2 = .ok (.aload_n 0, 1) := by decide +kernel
theorem dX10_phases_3 : decode cX10_phases 3 = .ok (.iload_n 1, 1) := by decide +kernel
theorem dX10_phases_4 : decode cX10_phases 4 = .ok (.iconst 0, 1) := by decide +kernel
theorem dX10_phases_5 : decode cX10_phases 5 = .ok (.iload_n 2, 1) := by decide +kernel
theorem dX10_phases_6 : decode cX10_phases 6 = .ok (.invokevirtual 180, 3) := by decide +kernel
theorem dX10_phases_9 : decode cX10_phases 9 = .ok (.ifCond .ne 9, 3) := by decide +kernel
theorem dX10_phases_12 : decode cX10_phases 12 = .ok (.iinc 2 1, 3) := by decide +kernel
theorem dX10_phases_15 : decode cX10_phases 15 = .ok (.goto (-13), 3) := by decide +kernel
theorem dX10_phases_18 : decode cX10_phases 18 = .ok (.iload_n 2, 1) := by decide +kernel
theorem dX10_phases_19 : decode cX10_phases 19 = .ok (.ireturn, 1) := by decide +kernel
theorem dX10_make_0 : decode cX10_make 0 = .ok (.aload_n 0, 1) := by decide +kernel
theorem dX10_make_1 : decode cX10_make 1 = .ok (.invokevirtual 109, 3) := by decide +kernel
theorem dX10_make_4 : decode cX10_make 4 = .ok (.aload_n 0, 1) := by decide +kernel
theorem dX10_make_5 : decode cX10_make 5 = .ok (.iload_n 1, 1) := by decide +kernel
theorem dX10_make_6 : decode cX10_make 6 = .ok (.iload_n 2, 1) := by decide +kernel
theorem dX10_make_7 : decode cX10_make 7 = .ok (.invokevirtual 165, 3) := by decide +kernel
theorem dX10_make_10 : decode cX10_make 10 = .ok (.ifCond .ne 9, 3) := by decide +kernel
theorem dX10_make_13 : decode cX10_make 13 = .ok (.aload_n 0, 1) := by decide +kernel
theorem dX10_make_14 : decode cX10_make 14 = .ok (.iconst 1, 1) := by decide +kernel
theorem dX10_make_15 : decode cX10_make 15 = .ok (.invokevirtual 53, 3) := by decide +kernel
theorem dX10_make_18 : decode cX10_make 18 = .ok (.ireturn, 1) := by decide +kernel
theorem dX10_make_19 : decode cX10_make 19 = .ok (.aload_n 0, 1) := by decide +kernel
theorem dX10_make_20 : decode cX10_make 20 = .ok (.iload_n 1, 1) := by decide +kernel
theorem dX10_make_21 : decode cX10_make 21 = .ok (.iconst 2, 1) := by decide +kernel
theorem dX10_make_22 : decode cX10_make 22 = .ok (.invokevirtual 78, 3) := by decide +kernel
theorem dX10_make_25 : decode cX10_make 25 = .ok (.istore_n 3, 1) := by decide +kernel
theorem dX10_make_26 : decode cX10_make 26 = .ok (.iload_n 3, 1) := by decide +kernel
theorem dX10_make_27 : decode cX10_make 27 = .ok (.ifCond .eq 12, 3) := by decide +kernel
theorem dX10_make_30 : decode cX10_make 30 = .ok (.aload_n 0, 1) := by decide +kernel
theorem dX10_make_31 : decode cX10_make 31 = .ok (.iload_n 1, 1) := by decide +kernel
theorem dX10_make_32 : decode cX10_make 32 = .ok (.iconst 4, 1) := by decide +kernel
theorem dX10_make_33 : decode cX10_make 33 = .ok (.invokevirtual 78, 3) := by decide +kernel
theorem dX10_make_36 : decode cX10_make 36 = .ok (.ifCond .lt 9, 3) := by decide +kernel
theorem dX10_make_39 : decode cX10_make 39 = .ok (.aload_n 0, 1) := by decide +kernel
theorem dX10_make_40 : decode cX10_make 40 = .ok (.iconst 2, 1) := by decide +kernel
theorem dX10_make_41 : decode cX10_make 41 = .ok (.invokevirtual 53, 3) := by decide +kernel
theorem dX10_make_44 : decode cX10_make 44 = .ok (.ireturn, 1) := by decide +kernel
theorem dX10_make_45 : decode cX10_make 45 = .ok (.aload_n 0, 1) := by decide +kernel
theorem dX10_make_46 : decode cX10_make 46 = .ok (.iload_n 1, 1) := by decide +kernel
theorem dX10_make_47 : decode cX10_make 47 = .ok (.invokevirtual 182, 3) := by decide +kernel
theorem dX10_make_50 : decode cX10_make 50 = .ok (.istore 4, 2) := by decide +kernel
theorem dX10_make_52 : decode cX10_make 52 = .ok (.aload_n 0, 1) := by decide +kernel
theorem dX10_make_53 : decode cX10_make 53 = .ok (.getfield 9, 3) := by decide +kernel
theorem dX10_make_56 : decode cX10_make 56 = .ok (.iconst 0, 1) := by decide +kernel
theorem dX10_make_57 : decode cX10_make 57 = .ok (.iaload, 1) := by decide +kernel
theorem dX10_make_58 : decode cX10_make 58 = .ok (.istore 5, 2) := by decide +kernel
theorem dX10_make_60 : decode cX10_make 60 = .ok (.iconst 0, 1) := by decide +kernel
theorem dX10_make_61 : decode cX10_make 61 = .ok (.istore 6, 2) := by decide +kernel
theorem dX10_make_63 : decode cX10_make 63 = .ok (.iload 6, 2) := by decide +kernel
theorem dX10_make_65 : decode cX10_make 65 = .ok (.iload 4, 2) := by decide +kernel
theorem dX10_make_67 : decode cX10_make 67 = .ok (.if_icmp .ge 162, 3) := by decide +kernel
theorem dX10_make_70 : decode cX10_make 70 = .ok (.aload_n 0, 1) := by decide +kernel
theorem dX10_make_71 : decode cX10_make 71 = .ok (.getfield 38, 3) := by decide +kernel
theorem dX10_make_74 : decode cX10_make 74 = .ok (.iload 6, 2) := by decide +kernel
theorem dX10_make_76 : decode cX10_make 76 = .ok (.iconst 0, 1) := by decide +kernel
theorem dX10_make_77 : decode cX10_make 77 = .ok (.iastore, 1) := by decide +kernel
theorem dX10_make_78 : decode cX10_make 78 = .ok (.aload_n 0, 1) := by decide +kernel
theorem dX10_make_79 : decode cX10_make 79 = .ok (.getfield 41, 3) := by decide +kernel
theorem dX10_make_82 : decode cX10_make 82 = .ok (.iload 6, 2) := by decide +kernel
theorem dX10_make_84 : decode cX10_make 84 = .ok (.iconst 0, 1) := by decide +kernel
theorem dX10_make_85 : decode cX10_make 85 = .ok (.iastore, 1) := by decide +kernel
theorem dX10_make_86 : decode cX10_make 86 = .ok (.iload 6, 2) := by decide +kernel
theorem dX10_make_88 : decode cX10_make 88 = .ok (.iconst 1, 1) := by decide +kernel
theorem dX10_make_89 : decode cX10_make 89 = .ok (.iadd, 1) := by decide +kernel
theorem dX10_make_90 : decode cX10_make 90 = .ok (.iload 4, 2) := by decide +kernel
theorem dX10_make_92 : decode cX10_make 92 = .ok (.irem, 1) := by decide +kernel
theorem dX10_make_93 : decode cX10_make 93 = .ok (.istore 7, 2) := by decide +kernel
theorem dX10_make_95 : decode cX10_make 95 = .ok (.iconst 0, 1) := by decide +kernel
theorem dX10_make_96 : decode cX10_make 96 = .ok (.istore 8, 2) := by decide +kernel
theorem dX10_make_98 : decode cX10_make 98 = .ok (.iload 8, 2) := by decide +kernel
theorem dX10_make_100 : decode cX10_make 100 = .ok (.iload_n 3, 1) := by decide +kernel
theorem dX10_make_101 : decode cX10_make 101 = .ok (.if_icmp .ge 102, 3) := by decide +kernel
theorem dX10_make_104 : decode cX10_make 104 = .ok (.aload_n 0, 1) := by decide +kernel
theorem dX10_make_105 : decode cX10_make 105 = .ok (.getfield 35, 3) := by decide +kernel
theorem dX10_make_108 : decode cX10_make 108 = .ok (.iload 8, 2) := by decide +kernel
theorem dX10_make_110 : decode cX10_make 110 = .ok (.iaload, 1) := by decide +kernel
theorem dX10_make_111 : decode cX10_make 111 = .ok (.iload 6, 2) := by decide +kernel
theorem dX10_make_113 : decode cX10_make 113 = .ok (.if_icmp .eq 6, 3) := by decide +kernel
theorem dX10_make_116 : decode cX10_make 116 = .ok (.goto 81, 3) := by decide +kernel
theorem dX10_make_119 : decode cX10_make 119 = .ok (.aload_n 0, 1) := by decide +kernel
theorem dX10_make_120 : decode cX10_make 120 = .ok (.getfield 38, 3) := by decide +kernel
theorem dX10_make_123 : decode cX10_make 123 = .ok (.iload 6, 2) := by decide +kernel
theorem dX10_make_125 : decode cX10_make 125 = .ok (.aload_n 0, 1) := by decide +kernel
theorem dX10_make_126 : decode cX10_make 126 = .ok (.getfield 38, 3) := by decide +kernel
theorem dX10_make_129 : decode cX10_make 129 = .ok (.iload 6, 2) := by decide +kernel
theorem dX10_make_131 : decode cX10_make 131 = .ok (.iaload, 1) := by decide +kernel
theorem dX10_make_132 : decode cX10_make 132 = .ok (.aload_n 0, 1) := by decide +kernel
theorem dX10_make_133 : decode cX10_make 133 = .ok (.iload_n 1, 1) := by decide +kernel
theorem dX10_make_134 : decode cX10_make 134 = .ok (.iload 8, 2) := by decide +kernel
theorem dX10_make_136 : decode cX10_make 136 = .ok (.iconst 1, 1) := by decide +kernel
theorem dX10_make_137 : decode cX10_make 137 = .ok (.invokevirtual 89, 3) := by decide +kernel
theorem dX10_make_140 : decode cX10_make 140 = .ok (.invokestatic 185, 3) := by decide +kernel
theorem dX10_make_143 : decode cX10_make 143 = .ok (.iastore, 1) := by decide +kernel
theorem dX10_make_144 : decode cX10_make 144 = .ok (.iconst 0, 1) := by decide +kernel
theorem dX10_make_145 : decode cX10_make 145 = .ok (.istore 9, 2) := by decide +kernel
theorem dX10_make_147 : decode cX10_make 147 = .ok (.iload 9, 2) := by decide +kernel
theorem dX10_make_149 : decode cX10_make 149 = .ok (.iload_n 3, 1) := by decide +kernel
theorem dX10_make_150 : decode cX10_make 150 = .ok (.if_icmp .ge 47, 3) := by decide +kernel
theorem dX10_make_153 : decode cX10_make 153 = .ok (.aload_n 0, 1) := by decide +kernel
theorem dX10_make_154 : decode cX10_make 154 = .ok (.getfield 35, 3) := by decide +kernel
theorem dX10_make_157 : decode cX10_make 157 = .ok (.iload 9, 2) := by decide +kernel
theorem dX10_make_159 : decode cX10_make 159 = .ok (.iaload, 1) := by decide +kernel
theorem dX10_make_160 : decode cX10_make 160 = .ok (.iload 7, 2) := by decide +kernel
theorem dX10_make_162 : decode cX10_make 162 = .ok (.if_icmp .ne 29, 3) := by decide +kernel
theorem dX10_make_165 : decode cX10_make 165 = .ok (.aload_n 0, 1) := by decide +kernel
theorem dX10_make_166 : decode cX10_make 166 = .ok (.getfield 41, 3) := by decide +kernel
theorem dX10_make_169 : decode cX10_make 169 = .ok (.iload 6, 2) := by decide +kernel
theorem dX10_make_171 : decode cX10_make 171 = .ok (.aload_n 0, 1) := by decide +kernel
theorem dX10_make_172 : decode cX10_make 172 = .ok (.getfield 41, 3) := by decide +kernel
theorem dX10_make_175 : decode cX10_make 175 = .ok (.iload 6, 2) := by decide +kernel
theorem dX10_make_177 : decode cX10_make 177 = .ok (.iaload, 1) := by decide +kernel
theorem dX10_make_178 : decode cX10_make 178 = .ok (.aload_n 0, 1) := by decide +kernel
theorem dX10_make_179 : decode cX10_make 179 = .ok (.iload_n 1, 1) := by decide +kernel
theorem dX10_make_180 : decode cX10_make 180 = .ok (.iload 8, 2) := by decide +kernel
theorem dX10_make_182 : decode cX10_make 182 = .ok (.iload 9, 2) := by decide +kernel
theorem dX10_make_184 : decode cX10_make 184 = .ok (.invokevirtual 121, 3) := by decide +kernel
theorem dX10_make_187 : decode cX10_make 187 = .ok (.invokestatic 185, 3) := by decide +kernel
theorem dX10_make_190 : decode cX10_make 190 = .ok (.iastore, 1) := by decide +kernel
theorem dX10_make_191 : decode cX10_make 191 = .ok (.iinc 9 1, 3) := by decide +kernel
theorem dX10_make_194 : decode cX10_make 194 = .ok (.goto (-47), 3) := by decide +kernel
theorem dX10_make_197 : decode cX10_make 197 = .ok (.iinc 8 1, 3) := by decide +kernel
theorem dX10_make_200 : decode cX10_make 200 = .ok (.goto (-102), 3) := by decide +kernel
theorem dX10_make_203 : decode cX10_make 203 = .ok (.iload 5, 2) := by decide +kernel
theorem dX10_make_205 : decode cX10_make 205 = .ok (.aload_n 0, 1) := by decide +kernel
theorem dX10_make_206 : decode cX10_make 206 = .ok (.getfield 38, 3) := by decide +kernel
theorem dX10_make_209 : decode cX10_make 209 = .ok (.iload 6, 2) := by decide +kernel
theorem dX10_make_211 : decode cX10_make 211 = .ok (.iaload, 1) := by decide +kernel
theorem dX10_make_212 : decode cX10_make 212 = .ok (.aload_n 0, 1) := by decide +kernel
theorem dX10_make_213 : decode cX10_make 213 = .ok (.getfield 41, 3) := by decide +kernel
theorem dX10_make_216 : decode cX10_make 216 = .ok (.iload 6, 2) := by decide +kernel
theorem dX10_make_218 : decode cX10_make 218 = .ok (.iaload, 1) := by decide +kernel
theorem dX10_make_219 : decode cX10_make 219 = .ok (.iadd, 1) := by decide +kernel
theorem dX10_make_220 : decode cX10_make 220 = .ok (.isub, 1) := by decide +kernel
theorem dX10_make_221 : decode cX10_make 221 = .ok (.istore 5, 2) := by decide +kernel
theorem dX10_make_223 : decode cX10_make 223 = .ok (.iinc 6 1, 3) := by decide +kernel
theorem dX10_make_226 : decode cX10_make 226 = .ok (.goto (-163), 3) := by decide +kernel
theorem dX10_make_229 : decode cX10_make 229 = .ok (.iload 5, 2) := by decide +kernel
theorem dX10_make_231 : decode cX10_make 231 = .ok (.ifCond .ge 11, 3) := by decide +kernel
theorem dX10_make_234 : decode cX10_make 234 = .ok (.aload_n 0, 1) := by decide +kernel
theorem dX10_make_235 : decode cX10_make 235 = .ok (.bipush 6, 2) := by decide +kernel
theorem dX10_make_237 : decode cX10_make 237 = .ok (.iconst 3, 1) := by decide +kernel
theorem dX10_make_238 : decode cX10_make 238 = .ok (.invokevirtual 158, 3) := by decide +kernel
theorem dX10_make_241 : decode cX10_make 241 = .ok (.ireturn, 1) := by decide +kernel
theorem dX10_make_242 : decode cX10_make 242 = .ok (.iconst 1, 1) := by decide +kernel
theorem dX10_make_243 : decode cX10_make 243 = .ok (.istore 6, 2) := by decide +kernel
theorem dX10_make_245 : decode cX10_make 245 = .ok (.iload 6, 2) := by decide +kernel
theorem dX10_make_247 : decode cX10_make 247 = .ok (.ifCond .eq 73, 3) := by decide +kernel
theorem dX10_make_250 : decode cX10_make 250 = .ok (.iload 5, 2) := by decide +kernel
theorem dX10_make_252 : decode cX10_make 252 = .ok (.ifCond .le 68, 3) := by decide +kernel
theorem dX10_make_255 : decode cX10_make 255 = .ok (.iconst 0, 1) := by decide +kernel
theorem dX10_make_256 : decode cX10_make 256 = .ok (.istore 6, 2) := by decide +kernel
theorem dX10_make_258 : decode cX10_make 258 = .ok (.iconst 0, 1) := by decide +kernel
theorem dX10_make_259 : decode cX10_make 259 = .ok (.istore 7, 2) := by decide +kernel
theorem dX10_make_261 : decode cX10_make 261 = .ok (.iload 7, 2) := by decide +kernel
theorem dX10_make_263 : decode cX10_make 263 = .ok (.iload 4, 2) := by decide +kernel
theorem dX10_make_265 : decode cX10_make 265 = .ok (.if_icmp .ge 52, 3) := by decide +kernel
theorem dX10_make_268 : decode cX10_make 268 = .ok (.iload 5, 2) := by decide +kernel
theorem dX10_make_270 : decode cX10_make 270 = .ok (.ifCond .le 47, 3) := by decide +kernel
theorem dX10_make_273 : decode cX10_make 273 = .ok (.aload_n 0, 1) := by decide +kernel
theorem dX10_make_274 : decode cX10_make 274 = .ok (.getfield 38, 3) := by decide +kernel
theorem dX10_make_277 : decode cX10_make 277 = .ok (.iload 7, 2) := by decide +kernel
theorem dX10_make_279 : decode cX10_make 279 = .ok (.iaload, 1) := by decide +kernel
theorem dX10_make_280 : decode cX10_make 280 = .ok (.aload_n 0, 1) := by decide +kernel
theorem dX10_make_281 : decode cX10_make 281 = .ok (.getfield 9, 3) := by decide +kernel
theorem dX10_make_284 : decode cX10_make 284 = .ok (.iconst 0, 1) := by decide +kernel
theorem dX10_make_285 : decode cX10_make 285 = .ok (.iaload, 1) := by decide +kernel
theorem dX10_make_286 : decode cX10_make 286 = .ok (.iconst 5, 1) := by decide +kernel
theorem dX10_make_287 : decode cX10_make 287 = .ok (.isub, 1) := by decide +kernel
theorem dX10_make_288 : decode cX10_make 288 = .ok (.if_icmp .lt 6, 3) := by decide +kernel
theorem dX10_make_291 : decode cX10_make 291 = .ok (.goto 20, 3) := by decide +kernel
theorem dX10_make_294 : decode cX10_make 294 = .ok (.aload_n 0, 1) := by decide +kernel
theorem dX10_make_295 : decode cX10_make 295 = .ok (.getfield 38, 3) := by decide +kernel
theorem dX10_make_298 : decode cX10_make 298 = .ok (.iload 7, 2) := by decide +kernel
theorem dX10_make_300 : decode cX10_make 300 = .ok (.dup2, 1) := by decide +kernel
theorem dX10_make_301 : decode cX10_make 301 = .ok (.iaload, 1) := by decide +kernel
theorem dX10_make_302 : decode cX10_make 302 = .ok (.iconst 1, 1) := by decide +kernel
theorem dX10_make_303 : decode cX10_make 303 = .ok (.iadd, 1) := by decide +kernel
theorem dX10_make_304 : decode cX10_make 304 = .ok (.iastore, 1) := by decide +kernel
theorem dX10_make_305 : decode cX10_make 305 = .ok (.iinc 5 (-1), 3) := by decide +kernel
theorem dX10_make_308 : decode cX10_make 308 = .ok (.iconst 1, 1) := by decide +kernel
theorem dX10_make_309 : decode cX10_make 309 = .ok (.istore 6, 2) := by decide +kernel
theorem dX10_make_311 : decode cX10_make 311 = .ok (.iinc 7 1, 3) := by decide +kernel
theorem dX10_make_314 : decode cX10_make 314 = .ok (.goto (-53), 3) := by decide +kernel
theorem dX10_make_317 : decode cX10_make 317 = .ok (.goto (-72), 3) := by decide +kernel
theorem dX10_make_320 : decode cX10_make 320 = .ok (.iconst 0, 1) := by decide +kernel
theorem dX10_make_321 : decode cX10_make 321 = .ok (.istore 7, 2) := by decide +kernel
theorem dX10_make_323 : decode cX10_make 323 = .ok (.iconst 0, 1) := by decide +kernel
theorem dX10_make_324 : decode cX10_make 324 = .ok (.istore 8, 2) := by decide +kernel
theorem dX10_make_326 : decode cX10_make 326 = .ok (.iload 8, 2) := by decide +kernel
theorem dX10_make_328 : decode cX10_make 328 = .ok (.iload 4, 2) := by decide +kernel
theorem dX10_make_330 : decode cX10_make 330 = .ok (.if_icmp .ge 73, 3) := by decide +kernel
theorem dX10_make_333 : decode cX10_make 333 = .ok (.iconst 0, 1) := by decide +kernel
theorem dX10_make_334 : decode cX10_make 334 = .ok (.istore 9, 2) := by decide +kernel
theorem dX10_make_336 : decode cX10_make 336 = .ok (.iload 9, 2) := by decide +kernel
theorem dX10_make_338 : decode cX10_make 338 = .ok (.iload_n 3, 1) := by decide +kernel
theorem dX10_make_339 : decode cX10_make 339 = .ok (.if_icmp .ge 38, 3) := by decide +kernel
theorem dX10_make_342 : decode cX10_make 342 = .ok (.aload_n 0, 1) := by decide +kernel
theorem dX10_make_343 : decode cX10_make 343 = .ok (.getfield 35, 3) := by decide +kernel
theorem dX10_make_346 : decode cX10_make 346 = .ok (.iload 9, 2) := by decide +kernel
theorem dX10_make_348 : decode cX10_make 348 = .ok (.iaload, 1) := by decide +kernel
theorem dX10_make_349 : decode cX10_make 349 = .ok (.iload 8, 2) := by decide +kernel
theorem dX10_make_351 : decode cX10_make 351 = .ok (.if_icmp .ne 20, 3) := by decide +kernel
theorem dX10_make_354 : decode cX10_make 354 = .ok (.aload_n 0, 1) := by decide +kernel
theorem dX10_make_355 : decode cX10_make 355 = .ok (.iload_n 1, 1) := by decide +kernel
theorem dX10_make_356 : decode cX10_make 356 = .ok (.iload_n 2, 1) := by decide +kernel
theorem dX10_make_357 : decode cX10_make 357 = .ok (.iload 9, 2) := by decide +kernel
theorem dX10_make_359 : decode cX10_make 359 = .ok (.iload 7, 2) := by decide +kernel
theorem dX10_make_361 : decode cX10_make 361 = .ok (.aload_n 0, 1) := by decide +kernel
theorem dX10_make_362 : decode cX10_make 362 = .ok (.getfield 38, 3) := by decide +kernel
theorem dX10_make_365 : decode cX10_make 365 = .ok (.iload 8, 2) := by decide +kernel
theorem dX10_make_367 : decode cX10_make 367 = .ok (.iaload, 1) := by decide +kernel
theorem dX10_make_368 : decode cX10_make 368 = .ok (.invokevirtual 161, 3) := by decide +kernel
theorem dX10_make_371 : decode cX10_make 371 = .ok (.iinc 9 1, 3) := by decide +kernel
theorem dX10_make_374 : decode cX10_make 374 = .ok (.goto (-38), 3) := by decide +kernel
theorem dX10_make_377 : decode cX10_make 377 = .ok (.iload 7, 2) := by decide +kernel
theorem dX10_make_379 : decode cX10_make 379 = .ok (.aload_n 0, 1) := by decide +kernel
theorem dX10_make_380 : decode cX10_make 380 = .ok (.getfield 38, 3) := by decide +kernel
theorem dX10_make_383 : decode cX10_make 383 = .ok (.iload 8, 2) := by decide +kernel
theorem dX10_make_385 : decode cX10_make 385 = .ok (.iaload, 1) := by decide +kernel
theorem dX10_make_386 : decode cX10_make 386 = .ok (.aload_n 0, 1) := by decide +kernel
theorem dX10_make_387 : decode cX10_make 387 = .ok (.getfield 41, 3) := by decide +kernel
theorem dX10_make_390 : decode cX10_make 390 = .ok (.iload 8, 2) := by decide +kernel
theorem dX10_make_392 : decode cX10_make 392 = .ok (.iaload, 1) := by decide +kernel
theorem dX10_make_393 : decode cX10_make 393 = .ok (.iadd, 1) := by decide +kernel
theorem dX10_make_394 : decode cX10_make 394 = .ok (.iadd, 1) := by decide +kernel
theorem dX10_make_395 : decode cX10_make 395 = .ok (.istore 7, 2) := by decide +kernel
theorem dX10_make_397 : decode cX10_make 397 = .ok (.iinc 8 1, 3) := by decide +kernel
theorem dX10_make_400 : decode cX10_make 400 = .ok (.goto (-74), 3) := by decide +kernel
theorem dX10_make_403 : decode cX10_make 403 = .ok (.iconst 0, 1) := by decide +kernel
theorem dX10_make_404 : decode cX10_make 404 = .ok (.istore 8, 2) := by decide +kernel
theorem dX10_make_406 : decode cX10_make 406 = .ok (.iload 8, 2) := by decide +kernel
theorem dX10_make_408 : decode cX10_make 408 = .ok (.iload_n 3, 1) := by decide +kernel
theorem dX10_make_409 : decode cX10_make 409 = .ok (.if_icmp .ge 92, 3) := by decide +kernel
theorem dX10_make_412 : decode cX10_make 412 = .ok (.iconst 0, 1) := by decide +kernel
theorem dX10_make_413 : decode cX10_make 413 = .ok (.istore 9, 2) := by decide +kernel
theorem dX10_make_415 : decode cX10_make 415 = .ok (.iload 9, 2) := by decide +kernel
theorem dX10_make_417 : decode cX10_make 417 = .ok (.iload_n 3, 1) := by decide +kernel
theorem dX10_make_418 : decode cX10_make 418 = .ok (.if_icmp .ge 77, 3) := by decide +kernel
theorem dX10_make_421 : decode cX10_make 421 = .ok (.aload_n 0, 1) := by decide +kernel
theorem dX10_make_422 : decode cX10_make 422 = .ok (.iload_n 1, 1) := by decide +kernel
theorem dX10_make_423 : decode cX10_make 423 = .ok (.iload_n 2, 1) := by decide +kernel
theorem dX10_make_424 : decode cX10_make 424 = .ok (.iload 8, 2) := by decide +kernel
theorem dX10_make_426 : decode cX10_make 426 = .ok (.iload 9, 2) := by decide +kernel
theorem dX10_make_428 : decode cX10_make 428 = .ok (.iconst 4, 1) := by decide +kernel
theorem dX10_make_429 : decode cX10_make 429 = .ok (.invokevirtual 147, 3) := by decide +kernel
theorem dX10_make_432 : decode cX10_make 432 = .ok (.aload_n 0, 1) := by decide +kernel
theorem dX10_make_433 : decode cX10_make 433 = .ok (.iload_n 1, 1) := by decide +kernel
theorem dX10_make_434 : decode cX10_make 434 = .ok (.iload_n 2, 1) := by decide +kernel
theorem dX10_make_435 : decode cX10_make 435 = .ok (.iload 8, 2) := by decide +kernel
theorem dX10_make_437 : decode cX10_make 437 = .ok (.iload 9, 2) := by decide +kernel
theorem dX10_make_439 : decode cX10_make 439 = .ok (.iconst 5, 1) := by decide +kernel
theorem dX10_make_440 : decode cX10_make 440 = .ok (.invokevirtual 147, 3) := by decide +kernel
theorem dX10_make_443 : decode cX10_make 443 = .ok (.iadd, 1) := by decide +kernel
theorem dX10_make_444 : decode cX10_make 444 = .ok (.ifCond .ne 6, 3) := by decide +kernel
theorem dX10_make_447 : decode cX10_make 447 = .ok (.goto 42, 3) := by decide +kernel
theorem dX10_make_450 : decode cX10_make 450 = .ok (.iconst 0, 1) := by decide +kernel
theorem dX10_make_451 : decode cX10_make 451 = .ok (.istore 10, 2) := by decide +kernel
theorem dX10_make_453 : decode cX10_make 453 = .ok (.iload 10, 2) := by decide +kernel
theorem dX10_make_455 : decode cX10_make 455 = .ok (.sipush 490, 3) := by decide +kernel
theorem dX10_make_458 : decode cX10_make 458 = .ok (.if_icmp .ge 23, 3) := by decide +kernel
theorem dX10_make_461 : decode cX10_make 461 = .ok (.aload_n 0, 1) := by decide +kernel
theorem dX10_make_462 : decode cX10_make 462 = .ok (.getfield 9, 3) := by decide +kernel
theorem dX10_make_465 : decode cX10_make 465 = .ok (.iload 10, 2) := by decide +kernel
theorem dX10_make_467 : decode cX10_make 467 = .ok (.aload_n 0, 1) := by decide +kernel
theorem dX10_make_468 : decode cX10_make 468 = .ok (.getfield 19, 3) := by decide +kernel
theorem dX10_make_471 : decode cX10_make 471 = .ok (.iload 10, 2) := by decide +kernel
theorem dX10_make_473 : decode cX10_make 473 = .ok (.iaload, 1) := by decide +kernel
theorem dX10_make_474 : decode cX10_make 474 = .ok (.iastore, 1) := by decide +kernel
theorem dX10_make_475 : decode cX10_make 475 = .ok (.iinc 10 1, 3) := by decide +kernel
theorem dX10_make_478 : decode cX10_make 478 = .ok (.goto (-25), 3) := by decide +kernel
theorem dX10_make_481 : decode cX10_make 481 = .ok (.aload_n 0, 1) := by decide +kernel
theorem dX10_make_482 : decode cX10_make 482 = .ok (.bipush 7, 2) := by decide +kernel
theorem dX10_make_484 : decode cX10_make 484 = .ok (.iconst 3, 1) := by decide +kernel
theorem dX10_make_485 : decode cX10_make 485 = .ok (.invokevirtual 158, 3) := by decide +kernel
theorem dX10_make_488 : decode cX10_make 488 = .ok (.ireturn, 1) := by decide +kernel
theorem dX10_make_489 : decode cX10_make 489 = .ok (.iinc 9 1, 3) := by decide +kernel
theorem dX10_make_492 : decode cX10_make 492 = .ok (.goto (-77), 3) := by decide +kernel
theorem dX10_make_495 : decode cX10_make 495 = .ok (.iinc 8 1, 3) := by decide +kernel
theorem dX10_make_498 : decode cX10_make 498 = .ok (.goto (-92), 3) := by decide +kernel
theorem dX10_make_501 : decode cX10_make 501 = .ok (.aload_n 0, 1) := by decide +kernel
theorem dX10_make_502 : decode cX10_make 502 = .ok (.invokevirtual 60, 3) := by decide +kernel
theorem dX10_make_505 : decode cX10_make 505 = .ok (.iload 4, 2) := by decide +kernel
theorem dX10_make_507 : decode cX10_make 507 = .ok (.ireturn, 1) := by decide +kernel
theorem dX10_phase_0 : decode cX10_phase 0 = .ok (.aload_n 0, 1) := by decide +kernel
theorem dX10_phase_1 : decode cX10_phase 1 = .ok (.iconst 0, 1) := by decide +kernel
theorem dX10_phase_2 : decode cX10_phase 2 = .ok (.putfield 47, 3) := by decide +kernel
theorem dX10_phase_5 : decode cX10_phase 5 = .ok (.aload_n 0, 1) := by decide +kernel
theorem dX10_phase_6 : decode cX10_phase 6 = .ok (.iload_n 1, 1) := by decide +kernel
theorem dX10_phase_7 : decode cX10_phase 7 = .ok (.iload_n 2, 1) := by decide +kernel
theorem dX10_phase_8 : decode cX10_phase 8 = .ok (.invokevirtual 105, 3) := by decide +kernel
theorem dX10_phase_11 : decode cX10_phase 11 = .ok (.ifCond .ne 9, 3) := by decide +kernel
theorem dX10_phase_14 : decode cX10_phase 14 = .ok (.aload_n 0, 1) := by decide +kernel
theorem dX10_phase_15 : decode cX10_phase 15 = .ok (.iconst 1, 1) := by decide +kernel
theorem dX10_phase_16 : decode cX10_phase 16 = .ok (.invokevirtual 53, 3) := by decide +kernel
theorem dX10_phase_19 : decode cX10_phase 19 = .ok (.ireturn, 1) := by decide +kernel
theorem dX10_phase_20 : decode cX10_phase 20 = .ok (.aload_n 0, 1) := by decide +kernel
theorem dX10_phase_21 : decode cX10_phase 21 = .ok (.iload_n 1, 1) := by decide +kernel
theorem dX10_phase_22 : decode cX10_phase 22 = .ok (.invokevirtual 182, 3) := by decide +kernel
theorem dX10_phase_25 : decode cX10_phase 25 = .ok (.istore_n 3, 1) := by decide +kernel
theorem dX10_phase_26 : decode cX10_phase 26 = .ok (.aload_n 0, 1) := by decide +kernel
theorem dX10_phase_27 : decode cX10_phase 27 = .ok (.getfield 35, 3) := by decide +kernel
theorem dX10_phase_30 : decode cX10_phase 30 = .ok (.iload_n 2, 1) := by decide +kernel
theorem dX10_phase_31 : decode cX10_phase 31 = .ok (.iaload, 1) := by decide +kernel
theorem dX10_phase_32 : decode cX10_phase 32 = .ok (.ireturn, 1) := by decide +kernel
theorem dX10_greenOf_0 : decode cX10_greenOf 0 = .ok (.aload_n 0, 1) := by decide +kernel
theorem dX10_greenOf_1 : decode cX10_greenOf 1 = .ok (.iconst 0, 1) := by decide +kernel
theorem dX10_greenOf_2 : decode cX10_greenOf 2 = .ok (.putfield 47, 3) := by decide +kernel
theorem dX10_greenOf_5 : decode cX10_greenOf 5 = .ok (.aload_n 0, 1) := by decide +kernel
theorem dX10_greenOf_6 : decode cX10_greenOf 6 = .ok (.iload_n 1, 1) := by decide +kernel
theorem dX10_greenOf_7 : decode cX10_greenOf 7 = .ok (.iload_n 2, 1) := by decide +kernel
theorem dX10_greenOf_8 : decode cX10_greenOf 8 = .ok (.invokevirtual 165, 3) := by decide +kernel
theorem dX10_greenOf_11 : decode cX10_greenOf 11 = .ok (.ifCond .eq 12, 3) := by decide +kernel
theorem dX10_greenOf_14 : decode cX10_greenOf 14 = .ok (.aload_n 0, 1) := by decide +kernel
theorem dX10_greenOf_15 : decode cX10_greenOf 15 = .ok (.iload_n 1, 1) := by decide +kernel
theorem dX10_greenOf_16 : decode cX10_greenOf 16 = .ok (.iload_n 3, 1) := by decide +kernel
theorem dX10_greenOf_17 : decode cX10_greenOf 17 = .ok (.invokevirtual 105, 3) := by decide +kernel
theorem dX10_greenOf_20 : decode cX10_greenOf 20 = .ok (.ifCond .ne 9, 3) := by decide +kernel
theorem dX10_greenOf_23 : decode cX10_greenOf 23 = .ok (.aload_n 0, 1) := by decide +kernel
theorem dX10_greenOf_24 : decode cX10_greenOf 24 = .ok (.iconst 1, 1) := by decide +kernel
theorem dX10_greenOf_25 : decode cX10_greenOf 25 = .ok (.invokevirtual 53, 3) := by decide +kernel
theorem dX10_greenOf_28 : decode cX10_greenOf 28 = .ok (.ireturn, 1) := by decide +kernel
theorem dX10_greenOf_29 : decode cX10_greenOf 29 = .ok (.aload_n 0, 1) := by decide +kernel
theorem dX10_greenOf_30 : decode cX10_greenOf 30 = .ok (.iload_n 1, 1) := by decide +kernel
theorem dX10_greenOf_31 : decode cX10_greenOf 31 = .ok (.iload_n 2, 1) := by decide +kernel
theorem dX10_greenOf_32 : decode cX10_greenOf 32 = .ok (.iload_n 3, 1) := by decide +kernel
theorem dX10_greenOf_33 : decode cX10_greenOf 33 = .ok (.invokevirtual 96, 3) := by decide +kernel
theorem dX10_greenOf_36 : decode cX10_greenOf 36 = .ok (.ifCond .ne 9, 3) := by decide +kernel
theorem dX10_greenOf_39 : decode cX10_greenOf 39 = .ok (.aload_n 0, 1) := by decide +kernel
theorem dX10_greenOf_40 : decode cX10_greenOf 40 = .ok (.iconst 2, 1) := by decide +kernel
theorem dX10_greenOf_41 : decode cX10_greenOf 41 = .ok (.invokevirtual 53, 3) := by decide +kernel
theorem dX10_greenOf_44 : decode cX10_greenOf 44 = .ok (.ireturn, 1) := by decide +kernel
theorem dX10_greenOf_45 : decode cX10_greenOf 45 = .ok (.iload 4, 2) := by decide +kernel
theorem dX10_greenOf_47 : decode cX10_greenOf 47 = .ok (.ifCond .eq 13, 3) := by decide +kernel
theorem dX10_greenOf_50 : decode cX10_greenOf 50 = .ok (.aload_n 0, 1) := by decide +kernel
theorem dX10_greenOf_51 : decode cX10_greenOf 51 = .ok (.iload_n 1, 1) := by decide +kernel
theorem dX10_greenOf_52 : decode cX10_greenOf 52 = .ok (.iload_n 2, 1) := by decide +kernel
theorem dX10_greenOf_53 : decode cX10_greenOf 53 = .ok (.iload_n 3, 1) := by decide +kernel
theorem dX10_greenOf_54 : decode cX10_greenOf 54 = .ok (.invokevirtual 96, 3) := by decide +kernel
theorem dX10_greenOf_57 : decode cX10_greenOf 57 = .ok (.goto 10, 3) := by decide +kernel
theorem dX10_greenOf_60 : decode cX10_greenOf 60 = .ok (.aload_n 0, 1) := by decide +kernel
theorem dX10_greenOf_61 : decode cX10_greenOf 61 = .ok (.iload_n 1, 1) := by decide +kernel
theorem dX10_greenOf_62 : decode cX10_greenOf 62 = .ok (.iload_n 2, 1) := by decide +kernel
theorem dX10_greenOf_63 : decode cX10_greenOf 63 = .ok (.iload_n 3, 1) := by decide +kernel
theorem dX10_greenOf_64 : decode cX10_greenOf 64 = .ok (.invokevirtual 93, 3) := by decide +kernel
theorem dX10_greenOf_67 : decode cX10_greenOf 67 = .ok (.ireturn, 1) := by decide +kernel
theorem dX10_shown_0 : decode cX10_shown 0 = .ok (.iconst 0, 1) := by decide +kernel
theorem dX10_shown_1 : decode cX10_shown 1 = .ok (.istore 4, 2) := by decide +kernel
theorem dX10_shown_3 : decode cX10_shown 3 = .ok (.iconst 0, 1) := by decide +kernel
theorem dX10_shown_4 : decode cX10_shown 4 = .ok (.istore 5, 2) := by decide +kernel
theorem dX10_shown_6 : decode cX10_shown 6 = .ok (.iload 5, 2) := by decide +kernel
theorem dX10_shown_8 : decode cX10_shown 8 = .ok (.aload_n 0, 1) := by decide +kernel
theorem dX10_shown_9 : decode cX10_shown 9 = .ok (.iload_n 1, 1) := by decide +kernel
theorem dX10_shown_10 : decode cX10_shown 10 = .ok (.iconst 2, 1) := by decide +kernel
theorem dX10_shown_11 : decode cX10_shown 11 = .ok (.invokevirtual 78, 3) := by decide +kernel
theorem dX10_shown_14 : decode cX10_shown 14 = .ok (.if_icmp .ge 30, 3) := by decide +kernel
theorem dX10_shown_17 : decode cX10_shown 17 = .ok (.aload_n 0, 1) := by decide +kernel
theorem dX10_shown_18 : decode cX10_shown 18 = .ok (.iload_n 1, 1) := by decide +kernel
theorem dX10_shown_19 : decode cX10_shown 19 = .ok (.iload_n 2, 1) := by decide +kernel
theorem dX10_shown_20 : decode cX10_shown 20 = .ok (.iload 5, 2) := by decide +kernel
theorem dX10_shown_22 : decode cX10_shown 22 = .ok (.iload_n 3, 1) := by decide +kernel
theorem dX10_shown_23 : decode cX10_shown 23 = .ok (.invokevirtual 133, 3) := by decide +kernel
theorem dX10_shown_26 : decode cX10_shown 26 = .ok (.ifCond .eq 12, 3) := by decide +kernel
theorem dX10_shown_29 : decode cX10_shown 29 = .ok (.iload 4, 2) := by decide +kernel
theorem dX10_shown_31 : decode cX10_shown 31 = .ok (.iconst 1, 1) := by decide +kernel
theorem dX10_shown_32 : decode cX10_shown 32 = .ok (.iload 5, 2) := by decide +kernel
theorem dX10_shown_34 : decode cX10_shown 34 = .ok (.ishl, 1) := by decide +kernel
theorem dX10_shown_35 : decode cX10_shown 35 = .ok (.ior, 1) := by decide +kernel
theorem dX10_shown_36 : decode cX10_shown 36 = .ok (.istore 4, 2) := by decide +kernel
theorem dX10_shown_38 : decode cX10_shown 38 = .ok (.iinc 5 1, 3) := by decide +kernel
theorem dX10_shown_41 : decode cX10_shown 41 = .ok (.goto (-35), 3) := by decide +kernel
theorem dX10_shown_44 : decode cX10_shown 44 = .ok (.iload 4, 2) := by decide +kernel
theorem dX10_shown_46 : decode cX10_shown 46 = .ok (.ireturn, 1) := by decide +kernel
theorem dX10_shows_0 : decode cX10_shows 0 = .ok (.aload_n 0, 1) := by decide +kernel
theorem dX10_shows_1 : decode cX10_shows 1 = .ok (.iconst 0, 1) := by decide +kernel
theorem dX10_shows_2 : decode cX10_shows 2 = .ok (.putfield 47, 3) := by decide +kernel
theorem dX10_shows_5 : decode cX10_shows 5 = .ok (.aload_n 0, 1) := by decide +kernel
theorem dX10_shows_6 : decode cX10_shows 6 = .ok (.iload_n 1, 1) := by decide +kernel
theorem dX10_shows_7 : decode cX10_shows 7 = .ok (.iload_n 2, 1) := by decide +kernel
theorem dX10_shows_8 : decode cX10_shows 8 = .ok (.invokevirtual 165, 3) := by decide +kernel
theorem dX10_shows_11 : decode cX10_shows 11 = .ok (.ifCond .ne 9, 3) := by decide +kernel
theorem dX10_shows_14 : decode cX10_shows 14 = .ok (.aload_n 0, 1) := by decide +kernel
theorem dX10_shows_15 : decode cX10_shows 15 = .ok (.iconst 1, 1) := by decide +kernel
