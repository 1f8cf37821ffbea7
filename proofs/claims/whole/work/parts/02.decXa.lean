theorem dX1_init_0 : decode cX1_init 0 = .ok (.aload_n 0, 1) := by decide +kernel
theorem dX1_init_1 : decode cX1_init 1 = .ok (.invokespecial 3, 3) := by decide +kernel
theorem dX1_init_4 : decode cX1_init 4 = .ok (.aload_n 0, 1) := by decide +kernel
theorem dX1_init_5 : decode cX1_init 5 = .ok (.bipush 8, 2) := by decide +kernel
theorem dX1_init_7 : decode cX1_init 7 = .ok (.anewarray 9, 3) := by decide +kernel
theorem dX1_init_10 : decode cX1_init 10 = .ok (.putfield 11, 3) := by decide +kernel
theorem dX1_init_13 : decode cX1_init 13 = .ok (.iconst 0, 1) := by decide +kernel
theorem dX1_init_14 : decode cX1_init 14 = .ok (.istore_n 1, 1) := by decide +kernel
theorem dX1_init_15 : decode cX1_init 15 = .ok (.iload_n 1, 1) := by decide +kernel
theorem dX1_init_16 : decode cX1_init 16 = .ok (.bipush 8, 2) := by decide +kernel
theorem dX1_init_18 : decode cX1_init 18 = .ok (.if_icmp .ge 22, 3) := by decide +kernel
theorem dX1_init_21 : decode cX1_init 21 = .ok (.aload_n 0, 1) := by decide +kernel
theorem dX1_init_22 : decode cX1_init 22 = .ok (.getfield 11, 3) := by decide +kernel
theorem dX1_init_25 : decode cX1_init 25 = .ok (.iload_n 1, 1) := by decide +kernel
theorem dX1_init_26 : decode cX1_init 26 = .ok (.new 9, 3) := by decide +kernel
theorem dX1_init_29 : decode cX1_init 29 = .ok (.dup, 1) := by decide +kernel
theorem dX1_init_30 : decode cX1_init 30 = .ok (.invokespecial 17, 3) := by decide +kernel
theorem dX1_init_33 : decode cX1_init 33 = .ok (.aastore, 1) := by decide +kernel
theorem dX1_init_34 : decode cX1_init 34 = .ok (.iinc 1 1, 3) := by decide +kernel
theorem dX1_init_37 : decode cX1_init 37 = .ok (.goto (-22), 3) := by decide +kernel
theorem dX1_init_40 : decode cX1_init 40 = .ok (.return_, 1) := by decide +kernel
theorem dX1_push_0 : decode cX1_push 0 = .ok (.aload_n 0, 1) := by decide +kernel
theorem dX1_push_1 : decode cX1_push 1 = .ok (.getfield 11, 3) := by decide +kernel
theorem dX1_push_4 : decode cX1_push 4 = .ok (.aload_n 0, 1) := by decide +kernel
theorem dX1_push_5 : decode cX1_push 5 = .ok (.getfield 18, 3) := by decide +kernel
theorem dX1_push_8 : decode cX1_push 8 = .ok (.aaload, 1) := by decide +kernel
theorem dX1_push_9 : decode cX1_push 9 = .ok (.aload_n 1, 1) := by decide +kernel
theorem dX1_push_10 : decode cX1_push 10 = .ok (.invokevirtual 22, 3) := by decide +kernel
theorem dX1_push_13 : decode cX1_push 13 = .ok (.aload_n 0, 1) := by decide +kernel
theorem dX1_push_14 : decode cX1_push 14 = .ok (.aload_n 0, 1) := by decide +kernel
theorem dX1_push_15 : decode cX1_push 15 = .ok (.getfield 18, 3) := by decide +kernel
theorem dX1_push_18 : decode cX1_push 18 = .ok (.iconst 1, 1) := by decide +kernel
theorem dX1_push_19 : decode cX1_push 19 = .ok (.iadd, 1) := by decide +kernel
theorem dX1_push_20 : decode cX1_push 20 = .ok (.bipush 8, 2) := by decide +kernel
theorem dX1_push_22 : decode cX1_push 22 = .ok (.if_icmp .ge 12, 3) := by decide +kernel
theorem dX1_push_25 : decode cX1_push 25 = .ok (.aload_n 0, 1) := by decide +kernel
theorem dX1_push_26 : decode cX1_push 26 = .ok (.getfield 18, 3) := by decide +kernel
theorem dX1_push_29 : decode cX1_push 29 = .ok (.iconst 1, 1) := by decide +kernel
theorem dX1_push_30 : decode cX1_push 30 = .ok (.iadd, 1) := by decide +kernel
theorem dX1_push_31 : decode cX1_push 31 = .ok (.goto 4, 3) := by decide +kernel
theorem dX1_push_34 : decode cX1_push 34 = .ok (.iconst 0, 1) := by decide +kernel
theorem dX1_push_35 : decode cX1_push 35 = .ok (.putfield 18, 3) := by decide +kernel
theorem dX1_push_38 : decode cX1_push 38 = .ok (.aload_n 0, 1) := by decide +kernel
theorem dX1_push_39 : decode cX1_push 39 = .ok (.aload_n 0, 1) := by decide +kernel
theorem dX1_push_40 : decode cX1_push 40 = .ok (.getfield 26, 3) := by decide +kernel
theorem dX1_push_43 : decode cX1_push 43 = .ok (.iconst 1, 1) := by decide +kernel
theorem dX1_push_44 : decode cX1_push 44 = .ok (.iadd, 1) := by decide +kernel
theorem dX1_push_45 : decode cX1_push 45 = .ok (.bipush 8, 2) := by decide +kernel
theorem dX1_push_47 : decode cX1_push 47 = .ok (.invokestatic 29, 3) := by decide +kernel
theorem dX1_push_50 : decode cX1_push 50 = .ok (.putfield 26, 3) := by decide +kernel
theorem dX1_push_53 : decode cX1_push 53 = .ok (.return_, 1) := by decide +kernel
theorem dX1_popInto_0 : decode cX1_popInto 0 = .ok (.aload_n 0, 1) := by decide +kernel
theorem dX1_popInto_1 : decode cX1_popInto 1 = .ok (.aload_n 0, 1) := by decide +kernel
theorem dX1_popInto_2 : decode cX1_popInto 2 = .ok (.getfield 18, 3) := by decide +kernel
theorem dX1_popInto_5 : decode cX1_popInto 5 = .ok (.ifCond .le 12, 3) := by decide +kernel
theorem dX1_popInto_8 : decode cX1_popInto 8 = .ok (.aload_n 0, 1) := by decide +kernel
theorem dX1_popInto_9 : decode cX1_popInto 9 = .ok (.getfield 18, 3) := by decide +kernel
theorem dX1_popInto_12 : decode cX1_popInto 12 = .ok (.iconst 1, 1) := by decide +kernel
theorem dX1_popInto_13 : decode cX1_popInto 13 = .ok (.isub, 1) := by decide +kernel
theorem dX1_popInto_14 : decode cX1_popInto 14 = .ok (.goto 5, 3) := by decide +kernel
theorem dX1_popInto_17 : decode cX1_popInto 17 = .ok (.bipush 7, 2) := by decide +kernel
theorem dX1_popInto_19 : decode cX1_popInto 19 = .ok (.putfield 18, 3) := by decide +kernel
theorem dX1_popInto_22 : decode cX1_popInto 22 = .ok (.aload_n 0, 1) := by decide +kernel
theorem dX1_popInto_23 : decode cX1_popInto 23 = .ok (.dup, 1) := by decide +kernel
theorem dX1_popInto_24 : decode cX1_popInto 24 = .ok (.getfield 26, 3) := by decide +kernel
theorem dX1_popInto_27 : decode cX1_popInto 27 = .ok (.iconst 1, 1) := by decide +kernel
theorem dX1_popInto_28 : decode cX1_popInto 28 = .ok (.isub, 1) := by decide +kernel
theorem dX1_popInto_29 : decode cX1_popInto 29 = .ok (.putfield 26, 3) := by decide +kernel
theorem dX1_popInto_32 : decode cX1_popInto 32 = .ok (.aload_n 1, 1) := by decide +kernel
theorem dX1_popInto_33 : decode cX1_popInto 33 = .ok (.aload_n 0, 1) := by decide +kernel
theorem dX1_popInto_34 : decode cX1_popInto 34 = .ok (.getfield 11, 3) := by decide +kernel
theorem dX1_popInto_37 : decode cX1_popInto 37 = .ok (.aload_n 0, 1) := by decide +kernel
theorem dX1_popInto_38 : decode cX1_popInto 38 = .ok (.getfield 18, 3) := by decide +kernel
theorem dX1_popInto_41 : decode cX1_popInto 41 = .ok (.aaload, 1) := by decide +kernel
theorem dX1_popInto_42 : decode cX1_popInto 42 = .ok (.invokevirtual 22, 3) := by decide +kernel
theorem dX1_popInto_45 : decode cX1_popInto 45 = .ok (.return_, 1) := by decide +kernel
theorem dX2_init_0 : decode cX2_init 0 = .ok (.aload_n 0, 1) := by decide +kernel
theorem dX2_init_1 : decode cX2_init 1 = .ok (.invokespecial 3, 3) := by decide +kernel
theorem dX2_init_4 : decode cX2_init 4 = .ok (.aload_n 0, 1) := by decide +kernel
theorem dX2_init_5 : decode cX2_init 5 = .ok (.iconst (-1), 1) := by decide +kernel
theorem dX2_init_6 : decode cX2_init 6 = .ok (.putfield 9, 3) := by decide +kernel
theorem dX2_init_9 : decode cX2_init 9 = .ok (.aload_n 0, 1) := by decide +kernel
theorem dX2_init_10 : decode cX2_init 10 = .ok (.iconst 2, 1) := by decide +kernel
theorem dX2_init_11 : decode cX2_init 11 = .ok (.newarray .int, 2) := by decide +kernel
theorem dX2_init_13 : decode cX2_init 13 = .ok (.putfield 15, 3) := by decide +kernel
theorem dX2_init_16 : decode cX2_init 16 = .ok (.aload_n 0, 1) := by decide +kernel
theorem dX2_init_17 : decode cX2_init 17 = .ok (.bipush 6, 2) := by decide +kernel
theorem dX2_init_19 : decode cX2_init 19 = .ok (.newarray .int, 2) := by decide +kernel
theorem dX2_init_21 : decode cX2_init 21 = .ok (.putfield 19, 3) := by decide +kernel
theorem dX2_init_24 : decode cX2_init 24 = .ok (.aload_n 0, 1) := by decide +kernel
theorem dX2_init_25 : decode cX2_init 25 = .ok (.bipush 6, 2) := by decide +kernel
theorem dX2_init_27 : decode cX2_init 27 = .ok (.newarray .int, 2) := by decide +kernel
theorem dX2_init_29 : decode cX2_init 29 = .ok (.putfield 22, 3) := by decide +kernel
theorem dX2_init_32 : decode cX2_init 32 = .ok (.aload_n 0, 1) := by decide +kernel
theorem dX2_init_33 : decode cX2_init 33 = .ok (.bipush 6, 2) := by decide +kernel
theorem dX2_init_35 : decode cX2_init 35 = .ok (.newarray .int, 2) := by decide +kernel
theorem dX2_init_37 : decode cX2_init 37 = .ok (.putfield 25, 3) := by decide +kernel
theorem dX2_init_40 : decode cX2_init 40 = .ok (.aload_n 0, 1) := by decide +kernel
theorem dX2_init_41 : decode cX2_init 41 = .ok (.bipush 6, 2) := by decide +kernel
theorem dX2_init_43 : decode cX2_init 43 = .ok (.newarray .int, 2) := by decide +kernel
theorem dX2_init_45 : decode cX2_init 45 = .ok (.putfield 28, 3) := by decide +kernel
theorem dX2_init_48 : decode cX2_init 48 = .ok (.aload_n 0, 1) := by decide +kernel
theorem dX2_init_49 : decode cX2_init 49 = .ok (.bipush 18, 2) := by decide +kernel
theorem dX2_init_51 : decode cX2_init 51 = .ok (.newarray .int, 2) := by decide +kernel
theorem dX2_init_53 : decode cX2_init 53 = .ok (.putfield 31, 3) := by decide +kernel
theorem dX2_init_56 : decode cX2_init 56 = .ok (.aload_n 0, 1) := by decide +kernel
theorem dX2_init_57 : decode cX2_init 57 = .ok (.bipush 36, 2) := by decide +kernel
theorem dX2_init_59 : decode cX2_init 59 = .ok (.newarray .int, 2) := by decide +kernel
theorem dX2_init_61 : decode cX2_init 61 = .ok (.putfield 34, 3) := by decide +kernel
theorem dX2_init_64 : decode cX2_init 64 = .ok (.aload_n 0, 1) := by decide +kernel
theorem dX2_init_65 : decode cX2_init 65 = .ok (.bipush 12, 2) := by decide +kernel
theorem dX2_init_67 : decode cX2_init 67 = .ok (.newarray .int, 2) := by decide +kernel
theorem dX2_init_69 : decode cX2_init 69 = .ok (.putfield 37, 3) := by decide +kernel
theorem dX2_init_72 : decode cX2_init 72 = .ok (.aload_n 0, 1) := by decide +kernel
theorem dX2_init_73 : decode cX2_init 73 = .ok (.bipush 12, 2) := by decide +kernel
theorem dX2_init_75 : decode cX2_init 75 = .ok (.newarray .int, 2) := by decide +kernel
theorem dX2_init_77 : decode cX2_init 77 = .ok (.putfield 40, 3) := by decide +kernel
theorem dX2_init_80 : decode cX2_init 80 = .ok (.aload_n 0, 1) := by decide +kernel
theorem dX2_init_81 : decode cX2_init 81 = .ok (.getfield 15, 3) := by decide +kernel
theorem dX2_init_84 : decode cX2_init 84 = .ok (.iconst (-1), 1) := by decide +kernel
theorem dX2_init_85 : decode cX2_init 85 = .ok (.invokestatic 43, 3) := by decide +kernel
theorem dX2_init_88 : decode cX2_init 88 = .ok (.aload_n 0, 1) := by decide +kernel
theorem dX2_init_89 : decode cX2_init 89 = .ok (.getfield 28, 3) := by decide +kernel
theorem dX2_init_92 : decode cX2_init 92 = .ok (.iconst (-1), 1) := by decide +kernel
theorem dX2_init_93 : decode cX2_init 93 = .ok (.invokestatic 43, 3) := by decide +kernel
theorem dX2_init_96 : decode cX2_init 96 = .ok (.aload_n 0, 1) := by decide +kernel
theorem dX2_init_97 : decode cX2_init 97 = .ok (.getfield 31, 3) := by decide +kernel
theorem dX2_init_100 : decode cX2_init 100 = .ok (.iconst (-1), 1) := by decide +kernel
theorem dX2_init_101 : decode cX2_init 101 = .ok (.invokestatic 43, 3) := by decide +kernel
theorem dX2_init_104 : decode cX2_init 104 = .ok (.aload_n 0, 1) := by decide +kernel
theorem dX2_init_105 : decode cX2_init 105 = .ok (.getfield 34, 3) := by decide +kernel
theorem dX2_init_108 : decode cX2_init 108 = .ok (.iconst (-1), 1) := by decide +kernel
theorem dX2_init_109 : decode cX2_init 109 = .ok (.invokestatic 43, 3) := by decide +kernel
theorem dX2_init_112 : decode cX2_init 112 = .ok (.return_, 1) := by decide +kernel
theorem dX2_copyFrom_0 : decode cX2_copyFrom 0 = .ok (.aload_n 0, 1) := by decide +kernel
theorem dX2_copyFrom_1 : decode cX2_copyFrom 1 = .ok (.aload_n 1, 1) := by decide +kernel
theorem dX2_copyFrom_2 : decode cX2_copyFrom 2 = .ok (.getfield 49, 3) := by decide +kernel
theorem dX2_copyFrom_5 : decode cX2_copyFrom 5 = .ok (.putfield 49, 3) := by decide +kernel
theorem dX2_copyFrom_8 : decode cX2_copyFrom 8 = .ok (.aload_n 0, 1) := by decide +kernel
theorem dX2_copyFrom_9 : decode cX2_copyFrom 9 = .ok (.aload_n 1, 1) := by decide +kernel
theorem dX2_copyFrom_10 : decode cX2_copyFrom 10 = .ok (.getfield 52, 3) := by decide +kernel
theorem dX2_copyFrom_13 : decode cX2_copyFrom 13 = .ok (.putfield 52, 3) := by decide +kernel
theorem dX2_copyFrom_16 : decode cX2_copyFrom 16 = .ok (.aload_n 0, 1) := by decide +kernel
theorem dX2_copyFrom_17 : decode cX2_copyFrom 17 = .ok (.aload_n 1, 1) := by decide +kernel
theorem dX2_copyFrom_18 : decode cX2_copyFrom 18 = .ok (.getfield 55, 3) := by decide +kernel
theorem dX2_copyFrom_21 : decode cX2_copyFrom 21 = .ok (.putfield 55, 3) := by decide +kernel
theorem dX2_copyFrom_24 : decode cX2_copyFrom 24 = .ok (.aload_n 0, 1) := by decide +kernel
theorem dX2_copyFrom_25 : decode cX2_copyFrom 25 = .ok (.aload_n 1, 1) := by decide +kernel
theorem dX2_copyFrom_26 : decode cX2_copyFrom 26 = .ok (.getfield 58, 3) := by decide +kernel
theorem dX2_copyFrom_29 : decode cX2_copyFrom 29 = .ok (.putfield 58, 3) := by decide +kernel
theorem dX2_copyFrom_32 : decode cX2_copyFrom 32 = .ok (.aload_n 0, 1) := by decide +kernel
theorem dX2_copyFrom_33 : decode cX2_copyFrom 33 = .ok (.aload_n 1, 1) := by decide +kernel
theorem dX2_copyFrom_34 : decode cX2_copyFrom 34 = .ok (.getfield 9, 3) := by decide +kernel
theorem dX2_copyFrom_37 : decode cX2_copyFrom 37 = .ok (.putfield 9, 3) := by decide +kernel
theorem dX2_copyFrom_40 : decode cX2_copyFrom 40 = .ok (.aload_n 0, 1) := by decide +kernel
theorem dX2_copyFrom_41 : decode cX2_copyFrom 41 = .ok (.aload_n 1, 1) := by decide +kernel
theorem dX2_copyFrom_42 : decode cX2_copyFrom 42 = .ok (.getfield 61, 3) := by decide +kernel
theorem dX2_copyFrom_45 : decode cX2_copyFrom 45 = .ok (.putfield 61, 3) := by decide +kernel
theorem dX2_copyFrom_48 : decode cX2_copyFrom 48 = .ok (.aload_n 0, 1) := by decide +kernel
theorem dX2_copyFrom_49 : decode cX2_copyFrom 49 = .ok (.aload_n 1, 1) := by decide +kernel
theorem dX2_copyFrom_50 : decode cX2_copyFrom 50 = .ok (.getfield 64, 3) := by decide +kernel
theorem dX2_copyFrom_53 : decode cX2_copyFrom 53 = .ok (.putfield 64, 3) := by decide +kernel
theorem dX2_copyFrom_56 : decode cX2_copyFrom 56 = .ok (.aload_n 0, 1) := by decide +kernel
theorem dX2_copyFrom_57 : decode cX2_copyFrom 57 = .ok (.aload_n 1, 1) := by decide +kernel
theorem dX2_copyFrom_58 : decode cX2_copyFrom 58 = .ok (.getfield 67, 3) := by decide +kernel
theorem dX2_copyFrom_61 : decode cX2_copyFrom 61 = .ok (.putfield 67, 3) := by decide +kernel
theorem dX2_copyFrom_64 : decode cX2_copyFrom 64 = .ok (.aload_n 0, 1) := by decide +kernel
theorem dX2_copyFrom_65 : decode cX2_copyFrom 65 = .ok (.aload_n 1, 1) := by decide +kernel
theorem dX2_copyFrom_66 : decode cX2_copyFrom 66 = .ok (.getfield 70, 3) := by decide +kernel
theorem dX2_copyFrom_69 : decode cX2_copyFrom 69 = .ok (.putfield 70, 3) := by decide +kernel
theorem dX2_copyFrom_72 : decode cX2_copyFrom 72 = .ok (.aload_n 1, 1) := by decide +kernel
theorem dX2_copyFrom_73 : decode cX2_copyFrom 73 = .ok (.getfield 15, 3) := by decide +kernel
theorem dX2_copyFrom_76 : decode cX2_copyFrom 76 = .ok (.iconst 0, 1) := by decide +kernel
theorem dX2_copyFrom_77 : decode cX2_copyFrom 77 = .ok (.aload_n 0, 1) := by decide +kernel
theorem dX2_copyFrom_78 : decode cX2_copyFrom 78 = .ok (.getfield 15, 3) := by decide +kernel
theorem dX2_copyFrom_81 : decode cX2_copyFrom 81 = .ok (.iconst 0, 1) := by decide +kernel
theorem dX2_copyFrom_82 : decode cX2_copyFrom 82 = .ok (.iconst 2, 1) := by decide +kernel
theorem dX2_copyFrom_83 : decode cX2_copyFrom 83 = .ok (.invokestatic 73, 3) := by decide +kernel
theorem dX2_copyFrom_86 : decode cX2_copyFrom 86 = .ok (.aload_n 1, 1) := by decide +kernel
theorem dX2_copyFrom_87 : decode cX2_copyFrom 87 = .ok (.getfield 19, 3) := by decide +kernel
theorem dX2_copyFrom_90 : decode cX2_copyFrom 90 = .ok (.iconst 0, 1) := by decide +kernel
theorem dX2_copyFrom_91 : decode cX2_copyFrom 91 = .ok (.aload_n 0, 1) := by decide +kernel
theorem dX2_copyFrom_92 : decode cX2_copyFrom 92 = .ok (.getfield 19, 3) := by decide +kernel
theorem dX2_copyFrom_95 : decode cX2_copyFrom 95 = .ok (.iconst 0, 1) := by decide +kernel
theorem dX2_copyFrom_96 : decode cX2_copyFrom 96 = .ok (.bipush 6, 2) := by decide +kernel
theorem dX2_copyFrom_98 : decode cX2_copyFrom 98 = .ok (.invokestatic 73, 3) := by decide +kernel
theorem dX2_copyFrom_101 : decode cX2_copyFrom 101 = .ok (.aload_n 1, 1) := by decide +kernel
theorem dX2_copyFrom_102 : decode cX2_copyFrom 102 = .ok (.getfield 22, 3) := by decide +kernel
theorem dX2_copyFrom_105 : decode cX2_copyFrom 105 = .ok (.iconst 0, 1) := by decide +kernel
theorem dX2_copyFrom_106 : decode cX2_copyFrom 106 = .ok (.aload_n 0, 1) := by decide +kernel
theorem dX2_copyFrom_107 : decode cX2_copyFrom 107 = .ok (.getfield 22, 3) := by decide +kernel
theorem dX2_copyFrom_110 : decode cX2_copyFrom 110 = .ok (.iconst 0, 1) := by decide +kernel
theorem dX2_copyFrom_111 : decode cX2_copyFrom 111 = .ok (.bipush 6, 2) := by decide +kernel
theorem dX2_copyFrom_113 : decode cX2_copyFrom 113 = .ok (.invokestatic 73, 3) := by decide +kernel
theorem dX2_copyFrom_116 : decode cX2_copyFrom 116 = .ok (.aload_n 1, 1) := by decide +kernel
theorem dX2_copyFrom_117 : decode cX2_copyFrom 117 = .ok (.getfield 25, 3) := by decide +kernel
theorem dX2_copyFrom_120 : decode cX2_copyFrom 120 = .ok (.iconst 0, 1) := by decide +kernel
theorem dX2_copyFrom_121 : decode cX2_copyFrom 121 = .ok (.aload_n 0, 1) := by decide +kernel
theorem dX2_copyFrom_122 : decode cX2_copyFrom 122 = .ok (.getfield 25, 3) := by decide +kernel
theorem dX2_copyFrom_125 : decode cX2_copyFrom 125 = .ok (.iconst 0, 1) := by decide +kernel
theorem dX2_copyFrom_126 : decode cX2_copyFrom 126 = .ok (.bipush 6, 2) := by decide +kernel
theorem dX2_copyFrom_128 : decode cX2_copyFrom 128 = .ok (.invokestatic 73, 3) := by decide +kernel
theorem dX2_copyFrom_131 : decode cX2_copyFrom 131 = .ok (.aload_n 1, 1) := by decide +kernel
theorem dX2_copyFrom_132 : decode cX2_copyFrom 132 = .ok (.getfield 28, 3) := by decide +kernel
theorem dX2_copyFrom_135 : decode cX2_copyFrom 135 = .ok (.iconst 0, 1) := by decide +kernel
theorem dX2_copyFrom_136 : decode cX2_copyFrom 136 = .ok (.aload_n 0, 1) := by decide +kernel
theorem dX2_copyFrom_137 : decode cX2_copyFrom 137 = .ok (.getfield 28, 3) := by decide +kernel
theorem dX2_copyFrom_140 : decode cX2_copyFrom 140 = .ok (.iconst 0, 1) := by decide +kernel
theorem dX2_copyFrom_141 : decode cX2_copyFrom 141 = .ok (.bipush 6, 2) := by decide +kernel
theorem dX2_copyFrom_143 : decode cX2_copyFrom 143 = .ok (.invokestatic 73, 3) := by decide +kernel
theorem dX2_copyFrom_146 : decode cX2_copyFrom 146 = .ok (.aload_n 1, 1) := by decide +kernel
theorem dX2_copyFrom_147 : decode cX2_copyFrom 147 = .ok (.getfield 31, 3) := by decide +kernel
theorem dX2_copyFrom_150 : decode cX2_copyFrom 150 = .ok (.iconst 0, 1) := by decide +kernel
theorem dX2_copyFrom_151 : decode cX2_copyFrom 151 = .ok (.aload_n 0, 1) := by decide +kernel
theorem dX2_copyFrom_152 : decode cX2_copyFrom 152 = .ok (.getfield 31, 3) := by decide +kernel
theorem dX2_copyFrom_155 : decode cX2_copyFrom 155 = .ok (.iconst 0, 1) := by decide +kernel
theorem dX2_copyFrom_156 : decode cX2_copyFrom 156 = .ok (.bipush 18, 2) := by decide +kernel
theorem dX2_copyFrom_158 : decode cX2_copyFrom 158 = .ok (.invokestatic 73, 3) := by decide +kernel
theorem dX2_copyFrom_161 : decode cX2_copyFrom 161 = .ok (.aload_n 1, 1) := by decide +kernel
theorem dX2_copyFrom_162 : decode cX2_copyFrom 162 = .ok (.getfield 34, 3) := by decide +kernel
theorem dX2_copyFrom_165 : decode cX2_copyFrom 165 = .ok (.iconst 0, 1) := by decide +kernel
theorem dX2_copyFrom_166 : decode cX2_copyFrom 166 = .ok (.aload_n 0, 1) := by decide +kernel
theorem dX2_copyFrom_167 : decode cX2_copyFrom 167 = .ok (.getfield 34, 3) := by decide +kernel
theorem dX2_copyFrom_170 : decode cX2_copyFrom 170 = .ok (.iconst 0, 1) := by decide +kernel
theorem dX2_copyFrom_171 : decode cX2_copyFrom 171 = .ok (.bipush 36, 2) := by decide +kernel
theorem dX2_copyFrom_173 : decode cX2_copyFrom 173 = .ok (.invokestatic 73, 3) := by decide +kernel
theorem dX2_copyFrom_176 : decode cX2_copyFrom 176 = .ok (.aload_n 1, 1) := by decide +kernel
theorem dX2_copyFrom_177 : decode cX2_copyFrom 177 = .ok (.getfield 37, 3) := by decide +kernel
theorem dX2_copyFrom_180 : decode cX2_copyFrom 180 = .ok (.iconst 0, 1) := by decide +kernel
theorem dX2_copyFrom_181 : decode cX2_copyFrom 181 = .ok (.aload_n 0, 1) := by decide +kernel
theorem dX2_copyFrom_182 : decode cX2_copyFrom 182 = .ok (.getfield 37, 3) := by decide +kernel
theorem dX2_copyFrom_185 : decode cX2_copyFrom 185 = .ok (.iconst 0, 1) := by decide +kernel
theorem dX2_copyFrom_186 : decode cX2_copyFrom 186 = .ok (.bipush 12, 2) := by decide +kernel
theorem dX2_copyFrom_188 : decode cX2_copyFrom 188 = .ok (.invokestatic 73, 3) := by decide +kernel
theorem dX2_copyFrom_191 : decode cX2_copyFrom 191 = .ok (.aload_n 1, 1) := by decide +kernel
theorem dX2_copyFrom_192 : decode cX2_copyFrom 192 = .ok (.getfield 40, 3) := by decide +kernel
theorem dX2_copyFrom_195 : decode cX2_copyFrom 195 = .ok (.iconst 0, 1) := by decide +kernel
theorem dX2_copyFrom_196 : decode cX2_copyFrom 196 = .ok (.aload_n 0, 1) := by decide +kernel
theorem dX2_copyFrom_197 : decode cX2_copyFrom 197 = .ok (.getfield 40, 3) := by decide +kernel
theorem dX2_copyFrom_200 : decode cX2_copyFrom 200 = .ok (.iconst 0, 1) := by decide +kernel
theorem dX2_copyFrom_201 : decode cX2_copyFrom 201 = .ok (.bipush 12, 2) := by decide +kernel
theorem dX2_copyFrom_203 : decode cX2_copyFrom 203 = .ok (.invokestatic 73, 3) := by decide +kernel
theorem dX2_copyFrom_206 : decode cX2_copyFrom 206 = .ok (.return_, 1) := by decide +kernel
theorem dX2_addGroup_0 : decode cX2_addGroup 0 = .ok (.aload_n 0, 1) := by decide +kernel
theorem dX2_addGroup_1 : decode cX2_addGroup 1 = .ok (.getfield 55, 3) := by decide +kernel
theorem dX2_addGroup_4 : decode cX2_addGroup 4 = .ok (.istore 4, 2) := by decide +kernel
theorem dX2_addGroup_6 : decode cX2_addGroup 6 = .ok (.aload_n 0, 1) := by decide +kernel
theorem dX2_addGroup_7 : decode cX2_addGroup 7 = .ok (.getfield 19, 3) := by decide +kernel
theorem dX2_addGroup_10 : decode cX2_addGroup 10 = .ok (.iload 4, 2) := by decide +kernel
theorem dX2_addGroup_12 : decode cX2_addGroup 12 = .ok (.iload_n 1, 1) := by decide +kernel
theorem dX2_addGroup_13 : decode cX2_addGroup 13 = .ok (.iastore, 1) := by decide +kernel
theorem dX2_addGroup_14 : decode cX2_addGroup 14 = .ok (.aload_n 0, 1) := by decide +kernel
theorem dX2_addGroup_15 : decode cX2_addGroup 15 = .ok (.getfield 22, 3) := by decide +kernel
theorem dX2_addGroup_18 : decode cX2_addGroup 18 = .ok (.iload 4, 2) := by decide +kernel
theorem dX2_addGroup_20 : decode cX2_addGroup 20 = .ok (.iload_n 2, 1) := by decide +kernel
theorem dX2_addGroup_21 : decode cX2_addGroup 21 = .ok (.iastore, 1) := by decide +kernel
theorem dX2_addGroup_22 : decode cX2_addGroup 22 = .ok (.aload_n 0, 1) := by decide +kernel
theorem dX2_addGroup_23 : decode cX2_addGroup 23 = .ok (.dup, 1) := by decide +kernel
theorem dX2_addGroup_24 : decode cX2_addGroup 24 = .ok (.getfield 67, 3) := by decide +kernel
theorem dX2_addGroup_27 : decode cX2_addGroup 27 = .ok (.iload_n 3, 1) := by decide +kernel
theorem dX2_addGroup_28 : decode cX2_addGroup 28 = .ok (.ifCond .eq 10, 3) := by decide +kernel
theorem dX2_addGroup_31 : decode cX2_addGroup 31 = .ok (.iconst 1, 1) := by decide +kernel
theorem dX2_addGroup_32 : decode cX2_addGroup 32 = .ok (.iload 4, 2) := by decide +kernel
theorem dX2_addGroup_34 : decode cX2_addGroup 34 = .ok (.ishl, 1) := by decide +kernel
theorem dX2_addGroup_35 : decode cX2_addGroup 35 = .ok (.goto 4, 3) := by decide +kernel
theorem dX2_addGroup_38 : decode cX2_addGroup 38 = .ok (.iconst 0, 1) := by decide +kernel
theorem dX2_addGroup_39 : decode cX2_addGroup 39 = .ok (.ior, 1) := by decide +kernel
theorem dX2_addGroup_40 : decode cX2_addGroup 40 = .ok (.putfield 67, 3) := by decide +kernel
theorem dX2_addGroup_43 : decode cX2_addGroup 43 = .ok (.aload_n 0, 1) := by decide +kernel
theorem dX2_addGroup_44 : decode cX2_addGroup 44 = .ok (.dup, 1) := by decide +kernel
theorem dX2_addGroup_45 : decode cX2_addGroup 45 = .ok (.getfield 55, 3) := by decide +kernel
theorem dX2_addGroup_48 : decode cX2_addGroup 48 = .ok (.iconst 1, 1) := by decide +kernel
theorem dX2_addGroup_49 : decode cX2_addGroup 49 = .ok (.iadd, 1) := by decide +kernel
theorem dX2_addGroup_50 : decode cX2_addGroup 50 = .ok (.putfield 55, 3) := by decide +kernel
theorem dX2_addGroup_53 : decode cX2_addGroup 53 = .ok (.iload 4, 2) := by decide +kernel
theorem dX2_addGroup_55 : decode cX2_addGroup 55 = .ok (.ireturn, 1) := by decide +kernel
theorem dX2_hasGroup_0 : decode cX2_hasGroup 0 = .ok (.iload_n 1, 1) := by decide +kernel
theorem dX2_hasGroup_1 : decode cX2_hasGroup 1 = .ok (.iconst 0, 1) := by decide +kernel
theorem dX2_hasGroup_2 : decode cX2_hasGroup 2 = .ok (.aload_n 0, 1) := by decide +kernel
theorem dX2_hasGroup_3 : decode cX2_hasGroup 3 = .ok (.getfield 55, 3) := by decide +kernel
theorem dX2_hasGroup_6 : decode cX2_hasGroup 6 = .ok (.iconst 1, 1) := by decide +kernel
theorem dX2_hasGroup_7 : decode cX2_hasGroup 7 = .ok (.isub, 1) := by decide +kernel
theorem dX2_hasGroup_8 : decode cX2_hasGroup 8 = .ok (.invokestatic 79, 3) := by decide +kernel
theorem dX2_hasGroup_11 : decode cX2_hasGroup 11 = .ok (.ireturn, 1) := by decide +kernel
theorem dX2_isByRequest_0 : decode cX2_isByRequest 0 = .ok (.aload_n 0, 1) := by decide +kernel
theorem dX2_isByRequest_1 : decode cX2_isByRequest 1 = .ok (.getfield 67, 3) := by decide +kernel
theorem dX2_isByRequest_4 : decode cX2_isByRequest 4 = .ok (.iload_n 1, 1) := by decide +kernel
theorem dX2_isByRequest_5 : decode cX2_isByRequest 5 = .ok (.iushr, 1) := by decide +kernel
theorem dX2_isByRequest_6 : decode cX2_isByRequest 6 = .ok (.iconst 1, 1) := by decide +kernel
theorem dX2_isByRequest_7 : decode cX2_isByRequest 7 = .ok (.iand, 1) := by decide +kernel
theorem dX2_isByRequest_8 : decode cX2_isByRequest 8 = .ok (.iconst 1, 1) := by decide +kernel
theorem dX2_isByRequest_9 : decode cX2_isByRequest 9 = .ok (.if_icmp .ne 7, 3) := by decide +kernel
theorem dX2_isByRequest_12 : decode cX2_isByRequest 12 = .ok (.iconst 1, 1) := by decide +kernel
theorem dX2_isByRequest_13 : decode cX2_isByRequest 13 = .ok (.goto 4, 3) := by decide +kernel
theorem dX2_isByRequest_16 : decode cX2_isByRequest 16 = .ok (.iconst 0, 1) := by decide +kernel
theorem dX2_isByRequest_17 : decode cX2_isByRequest 17 = .ok (.ireturn, 1) := by decide +kernel
theorem dX2_isGiven_0 : decode cX2_isGiven 0 = .ok (.aload_n 0, 1) := by decide +kernel
theorem dX2_isGiven_1 : decode cX2_isGiven 1 = .ok (.getfield 70, 3) := by decide +kernel
theorem dX2_isGiven_4 : decode cX2_isGiven 4 = .ok (.iload_n 1, 1) := by decide +kernel
theorem dX2_isGiven_5 : decode cX2_isGiven 5 = .ok (.iushr, 1) := by decide +kernel
theorem dX2_isGiven_6 : decode cX2_isGiven 6 = .ok (.iconst 1, 1) := by decide +kernel
theorem dX2_isGiven_7 : decode cX2_isGiven 7 = .ok (.iand, 1) := by decide +kernel
theorem dX2_isGiven_8 : decode cX2_isGiven 8 = .ok (.iconst 1, 1) := by decide +kernel
theorem dX2_isGiven_9 : decode cX2_isGiven 9 = .ok (.if_icmp .ne 7, 3) := by decide +kernel
theorem dX2_isGiven_12 : decode cX2_isGiven 12 = .ok (.iconst 1, 1) := by decide +kernel
theorem dX2_isGiven_13 : decode cX2_isGiven 13 = .ok (.goto 4, 3) := by decide +kernel
theorem dX2_isGiven_16 : decode cX2_isGiven 16 = .ok (.iconst 0, 1) := by decide +kernel
theorem dX2_isGiven_17 : decode cX2_isGiven 17 = .ok (.ireturn, 1) := by decide +kernel
theorem dX2_isWaiting_0 : decode cX2_isWaiting 0 = .ok (.aload_n 0, 1) := by decide +kernel
theorem dX2_isWaiting_1 : decode cX2_isWaiting 1 = .ok (.getfield 28, 3) := by decide +kernel
theorem dX2_isWaiting_4 : decode cX2_isWaiting 4 = .ok (.iload_n 1, 1) := by decide +kernel
theorem dX2_isWaiting_5 : decode cX2_isWaiting 5 = .ok (.iaload, 1) := by decide +kernel
theorem dX2_isWaiting_6 : decode cX2_isWaiting 6 = .ok (.iconst (-1), 1) := by decide +kernel
theorem dX2_isWaiting_7 : decode cX2_isWaiting 7 = .ok (.if_icmp .eq 7, 3) := by decide +kernel
theorem dX2_isWaiting_10 : decode cX2_isWaiting 10 = .ok (.iconst 1, 1) := by decide +kernel
theorem dX2_isWaiting_11 : decode cX2_isWaiting 11 = .ok (.goto 4, 3) := by decide +kernel
theorem dX2_isWaiting_14 : decode cX2_isWaiting 14 = .ok (.iconst 0, 1) := by decide +kernel
theorem dX2_isWaiting_15 : decode cX2_isWaiting 15 = .ok (.ireturn, 1) := by decide +kernel
theorem dX2_isChangePlanned_0 : decode cX2_isChangePlanned 0 = .ok (.aload_n 0, 1) := by decide +kernel
theorem dX2_isChangePlanned_1 : decode cX2_isChangePlanned 1 = .ok (.getfield 9, 3) := by decide +kernel
theorem dX2_isChangePlanned_4 : decode cX2_isChangePlanned 4 = .ok (.iconst (-1), 1) := by decide +kernel
theorem dX2_isChangePlanned_5 : decode cX2_isChangePlanned 5 = .ok (.if_icmp .eq 7, 3) := by decide +kernel
theorem dX2_isChangePlanned_8 : decode cX2_isChangePlanned 8 = .ok (.iconst 1, 1) := by decide +kernel
theorem dX2_isChangePlanned_9 : decode cX2_isChangePlanned 9 = .ok (.goto 4, 3) := by decide +kernel
theorem dX2_isChangePlanned_12 : decode cX2_isChangePlanned 12 = .ok (.iconst 0, 1) := by decide +kernel
theorem dX2_isChangePlanned_13 : decode cX2_isChangePlanned 13 = .ok (.ireturn, 1) := by decide +kernel
theorem dX2_hasRoadGroup_0 : decode cX2_hasRoadGroup 0 = .ok (.aload_n 0, 1) := by decide +kernel
theorem dX2_hasRoadGroup_1 : decode cX2_hasRoadGroup 1 = .ok (.getfield 15, 3) := by decide +kernel
theorem dX2_hasRoadGroup_4 : decode cX2_hasRoadGroup 4 = .ok (.iload_n 1, 1) := by decide +kernel
theorem dX2_hasRoadGroup_5 : decode cX2_hasRoadGroup 5 = .ok (.iaload, 1) := by decide +kernel
theorem dX2_hasRoadGroup_6 : decode cX2_hasRoadGroup 6 = .ok (.iconst (-1), 1) := by decide +kernel
theorem dX2_hasRoadGroup_7 : decode cX2_hasRoadGroup 7 = .ok (.if_icmp .eq 7, 3) := by decide +kernel
theorem dX2_hasRoadGroup_10 : decode cX2_hasRoadGroup 10 = .ok (.iconst 1, 1) := by decide +kernel
theorem dX2_hasRoadGroup_11 : decode cX2_hasRoadGroup 11 = .ok (.goto 4, 3) := by decide +kernel
theorem dX2_hasRoadGroup_14 : decode cX2_hasRoadGroup 14 = .ok (.iconst 0, 1) := by decide +kernel
theorem dX2_hasRoadGroup_15 : decode cX2_hasRoadGroup 15 = .ok (.ireturn, 1) := by decide +kernel
theorem dX2_clearanceFrom_0 : decode cX2_clearanceFrom 0 = .ok (.aload_n 0, 1) := by decide +kernel
theorem dX2_clearanceFrom_1 : decode cX2_clearanceFrom 1 = .ok (.getfield 34, 3) := by decide +kernel
theorem dX2_clearanceFrom_4 : decode cX2_clearanceFrom 4 = .ok (.iload_n 1, 1) := by decide +kernel
theorem dX2_clearanceFrom_5 : decode cX2_clearanceFrom 5 = .ok (.bipush 6, 2) := by decide +kernel
theorem dX2_clearanceFrom_7 : decode cX2_clearanceFrom 7 = .ok (.imul, 1) := by decide +kernel
theorem dX2_clearanceFrom_8 : decode cX2_clearanceFrom 8 = .ok (.iload_n 2, 1) := by decide +kernel
theorem dX2_clearanceFrom_9 : decode cX2_clearanceFrom 9 = .ok (.iadd, 1) := by decide +kernel
theorem dX2_clearanceFrom_10 : decode cX2_clearanceFrom 10 = .ok (.iaload, 1) := by decide +kernel
theorem dX2_clearanceFrom_11 : decode cX2_clearanceFrom 11 = .ok (.ireturn, 1) := by decide +kernel
theorem dX2_areInConflict_0 : decode cX2_areInConflict 0 = .ok (.aload_n 0, 1) := by decide +kernel
theorem dX2_areInConflict_1 : decode cX2_areInConflict 1 = .ok (.iload_n 1, 1) := by decide +kernel
theorem dX2_areInConflict_2 : decode cX2_areInConflict 2 = .ok (.iload_n 2, 1) := by decide +kernel
theorem dX2_areInConflict_3 : decode cX2_areInConflict 3 = .ok (.invokevirtual 83, 3) := by decide +kernel
theorem dX2_areInConflict_6 : decode cX2_areInConflict 6 = .ok (.iconst (-1), 1) := by decide +kernel
theorem dX2_areInConflict_7 : decode cX2_areInConflict 7 = .ok (.if_icmp .eq 7, 3) := by decide +kernel
theorem dX2_areInConflict_10 : decode cX2_areInConflict 10 = .ok (.iconst 1, 1) := by decide +kernel
theorem dX2_areInConflict_11 : decode cX2_areInConflict 11 = .ok (.goto 4, 3) := by decide +kernel
theorem dX2_areInConflict_14 : decode cX2_areInConflict 14 = .ok (.iconst 0, 1) := by decide +kernel
theorem dX2_areInConflict_15 : decode cX2_areInConflict 15 = .ok (.ireturn, 1) := by decide +kernel
theorem dX2_setClearances_0 : decode cX2_setClearances 0 = .ok (.aload_n 0, 1) := by decide +kernel
theorem dX2_setClearances_1 : decode cX2_setClearances 1 = .ok (.getfield 34, 3) := by decide +kernel
theorem dX2_setClearances_4 : decode cX2_setClearances 4 = .ok (.iload_n 1, 1) := by decide +kernel
theorem dX2_setClearances_5 : decode cX2_setClearances 5 = .ok (.bipush 6, 2) := by decide +kernel
theorem dX2_setClearances_7 : decode cX2_setClearances 7 = .ok (.imul, 1) := by decide +kernel
theorem dX2_setClearances_8 : decode cX2_setClearances 8 = .ok (.iload_n 2, 1) := by decide +kernel
theorem dX2_setClearances_9 : decode cX2_setClearances 9 = .ok (.iadd, 1) := by decide +kernel
theorem dX2_setClearances_10 : decode cX2_setClearances 10 = .ok (.iload_n 3, 1) := by decide +kernel
theorem dX2_setClearances_11 : decode cX2_setClearances 11 = .ok (.iastore, 1) := by decide +kernel
theorem dX2_setClearances_12 : decode cX2_setClearances 12 = .ok (.aload_n 0, 1) := by decide +kernel
theorem dX2_setClearances_13 : decode cX2_setClearances 13 = .ok (.getfield 34, 3) := by decide +kernel
theorem dX2_setClearances_16 : decode cX2_setClearances 16 = .ok (.iload_n 2, 1) := by decide +kernel
theorem dX2_setClearances_17 : decode cX2_setClearances 17 = .ok (.bipush 6, 2) := by decide +kernel
theorem dX2_setClearances_19 : decode cX2_setClearances 19 = .ok (.imul, 1) := by decide +kernel
theorem dX2_setClearances_20 : decode cX2_setClearances 20 = .ok (.iload_n 1, 1) := by decide +kernel
theorem dX2_setClearances_21 : decode cX2_setClearances 21 = .ok (.iadd, 1) := by decide +kernel
theorem dX2_setClearances_22 : decode cX2_setClearances 22 = .ok (.iload 4, 2) := by decide +kernel
theorem dX2_setClearances_24 : decode cX2_setClearances 24 = .ok (.iastore, 1) := by decide +kernel
theorem dX2_setClearances_25 : decode cX2_setClearances 25 = .ok (.return_, 1) := by decide +kernel
theorem dX2_firstOf_0 : decode cX2_firstOf 0 = .ok (.aload_n 0, 1) := by decide +kernel
theorem dX2_firstOf_1 : decode cX2_firstOf 1 = .ok (.getfield 37, 3) := by decide +kernel
theorem dX2_firstOf_4 : decode cX2_firstOf 4 = .ok (.iload_n 1, 1) := by decide +kernel
theorem dX2_firstOf_5 : decode cX2_firstOf 5 = .ok (.bipush 6, 2) := by decide +kernel
theorem dX2_firstOf_7 : decode cX2_firstOf 7 = .ok (.imul, 1) := by decide +kernel
theorem dX2_firstOf_8 : decode cX2_firstOf 8 = .ok (.iload_n 2, 1) := by decide +kernel
theorem dX2_firstOf_9 : decode cX2_firstOf 9 = .ok (.iadd, 1) := by decide +kernel
theorem dX2_firstOf_10 : decode cX2_firstOf 10 = .ok (.iaload, 1) := by decide +kernel
theorem dX2_firstOf_11 : decode cX2_firstOf 11 = .ok (.ireturn, 1) := by decide +kernel
theorem dX2_lengthOf_0 : decode cX2_lengthOf 0 = .ok (.aload_n 0, 1) := by decide +kernel
theorem dX2_lengthOf_1 : decode cX2_lengthOf 1 = .ok (.getfield 40, 3) := by decide +kernel
theorem dX2_lengthOf_4 : decode cX2_lengthOf 4 = .ok (.iload_n 1, 1) := by decide +kernel
theorem dX2_lengthOf_5 : decode cX2_lengthOf 5 = .ok (.bipush 6, 2) := by decide +kernel
theorem dX2_lengthOf_7 : decode cX2_lengthOf 7 = .ok (.imul, 1) := by decide +kernel
theorem dX2_lengthOf_8 : decode cX2_lengthOf 8 = .ok (.iload_n 2, 1) := by decide +kernel
theorem dX2_lengthOf_9 : decode cX2_lengthOf 9 = .ok (.iadd, 1) := by decide +kernel
theorem dX2_lengthOf_10 : decode cX2_lengthOf 10 = .ok (.iaload, 1) := by decide +kernel
theorem dX2_lengthOf_11 : decode cX2_lengthOf 11 = .ok (.ireturn, 1) := by decide +kernel
theorem dX2_hasGreen_0 : decode cX2_hasGreen 0 = .ok (.aload_n 0, 1) := by decide +kernel
theorem dX2_hasGreen_1 : decode cX2_hasGreen 1 = .ok (.iload_n 1, 1) := by decide +kernel
theorem dX2_hasGreen_2 : decode cX2_hasGreen 2 = .ok (.iload_n 2, 1) := by decide +kernel
theorem dX2_hasGreen_3 : decode cX2_hasGreen 3 = .ok (.invokevirtual 87, 3) := by decide +kernel
theorem dX2_hasGreen_6 : decode cX2_hasGreen 6 = .ok (.ifCond .le 7, 3) := by decide +kernel
theorem dX2_hasGreen_9 : decode cX2_hasGreen 9 = .ok (.iconst 1, 1) := by decide +kernel
theorem dX2_hasGreen_10 : decode cX2_hasGreen 10 = .ok (.goto 4, 3) := by decide +kernel
theorem dX2_hasGreen_13 : decode cX2_hasGreen 13 = .ok (.iconst 0, 1) := by decide +kernel
theorem dX2_hasGreen_14 : decode cX2_hasGreen 14 = .ok (.ireturn, 1) := by decide +kernel
theorem dX2_setGreen_0 : decode cX2_setGreen 0 = .ok (.aload_n 0, 1) := by decide +kernel
theorem dX2_setGreen_1 : decode cX2_setGreen 1 = .ok (.getfield 37, 3) := by decide +kernel
theorem dX2_setGreen_4 : decode cX2_setGreen 4 = .ok (.iload_n 1, 1) := by decide +kernel
theorem dX2_setGreen_5 : decode cX2_setGreen 5 = .ok (.bipush 6, 2) := by decide +kernel
theorem dX2_setGreen_7 : decode cX2_setGreen 7 = .ok (.imul, 1) := by decide +kernel
theorem dX2_setGreen_8 : decode cX2_setGreen 8 = .ok (.iload_n 2, 1) := by decide +kernel
theorem dX2_setGreen_9 : decode cX2_setGreen 9 = .ok (.iadd, 1) := by decide +kernel
theorem dX2_setGreen_10 : decode cX2_setGreen 10 = .ok (.iload_n 3, 1) := by decide +kernel
theorem dX2_setGreen_11 : decode cX2_setGreen 11 = .ok (.iastore, 1) := by decide +kernel
theorem dX2_setGreen_12 : decode cX2_setGreen 12 = .ok (.aload_n 0, 1) := by decide +kernel
theorem dX2_setGreen_13 : decode cX2_setGreen 13 = .ok (.getfield 40, 3) := by decide +kernel
theorem dX2_setGreen_16 : decode cX2_setGreen 16 = .ok (.iload_n 1, 1) := by decide +kernel
theorem dX2_setGreen_17 : decode cX2_setGreen 17 = .ok (.bipush 6, 2) := by decide +kernel
theorem dX2_setGreen_19 : decode cX2_setGreen 19 = .ok (.imul, 1) := by decide +kernel
theorem dX2_setGreen_20 : decode cX2_setGreen 20 = .ok (.iload_n 2, 1) := by decide +kernel
theorem dX2_setGreen_21 : decode cX2_setGreen 21 = .ok (.iadd, 1) := by decide +kernel
theorem dX2_setGreen_22 : decode cX2_setGreen 22 = .ok (.iload 4, 2) := by decide +kernel
theorem dX2_setGreen_24 : decode cX2_setGreen 24 = .ok (.iastore, 1) := by decide +kernel
theorem dX2_setGreen_25 : decode cX2_setGreen 25 = .ok (.return_, 1) := by decide +kernel
theorem dX2_amountOf_0 : decode cX2_amountOf 0 = .ok (.iload_n 1, 1) := by decide +kernel
theorem dX2_amountOf_1 : decode cX2_amountOf 1 = .ok (.tableswitch 115 1 10 #[55, 60, 65, 115, 77, 82, 87, 92, 97, 110], 55) := by decide +kernel
theorem dX2_amountOf_56 : decode cX2_amountOf 56 = .ok (.aload_n 0, 1) := by decide +kernel
theorem dX2_amountOf_57 : decode cX2_amountOf 57 = .ok (.getfield 55, 3) := by decide +kernel
theorem dX2_amountOf_60 : decode cX2_amountOf 60 = .ok (.ireturn, 1) := by decide +kernel
theorem dX2_amountOf_61 : decode cX2_amountOf 61 = .ok (.aload_n 0, 1) := by decide +kernel
theorem dX2_amountOf_62 : decode cX2_amountOf 62 = .ok (.invokevirtual 90, 3) := by decide +kernel
theorem dX2_amountOf_65 : decode cX2_amountOf 65 = .ok (.ireturn, 1) := by decide +kernel
theorem dX2_amountOf_66 : decode cX2_amountOf 66 = .ok (.aload_n 0, 1) := by decide +kernel
theorem dX2_amountOf_67 : decode cX2_amountOf 67 = .ok (.iconst 0, 1) := by decide +kernel
theorem dX2_amountOf_68 : decode cX2_amountOf 68 = .ok (.invokevirtual 94, 3) := by decide +kernel
theorem dX2_amountOf_71 : decode cX2_amountOf 71 = .ok (.aload_n 0, 1) := by decide +kernel
theorem dX2_amountOf_72 : decode cX2_amountOf 72 = .ok (.iconst 1, 1) := by decide +kernel
theorem dX2_amountOf_73 : decode cX2_amountOf 73 = .ok (.invokevirtual 94, 3) := by decide +kernel
theorem dX2_amountOf_76 : decode cX2_amountOf 76 = .ok (.iadd, 1) := by decide +kernel
theorem dX2_amountOf_77 : decode cX2_amountOf 77 = .ok (.ireturn, 1) := by decide +kernel
theorem dX2_amountOf_78 : decode cX2_amountOf 78 = .ok (.aload_n 0, 1) := by decide +kernel
theorem dX2_amountOf_79 : decode cX2_amountOf 79 = .ok (.invokevirtual 98, 3) := by decide +kernel
theorem dX2_amountOf_82 : decode cX2_amountOf 82 = .ok (.ireturn, 1) := by decide +kernel
theorem dX2_amountOf_83 : decode cX2_amountOf 83 = .ok (.aload_n 0, 1) := by decide +kernel
theorem dX2_amountOf_84 : decode cX2_amountOf 84 = .ok (.getfield 61, 3) := by decide +kernel
theorem dX2_amountOf_87 : decode cX2_amountOf 87 = .ok (.ireturn, 1) := by decide +kernel
theorem dX2_amountOf_88 : decode cX2_amountOf 88 = .ok (.aload_n 0, 1) := by decide +kernel
theorem dX2_amountOf_89 : decode cX2_amountOf 89 = .ok (.invokevirtual 101, 3) := by decide +kernel
theorem dX2_amountOf_92 : decode cX2_amountOf 92 = .ok (.ireturn, 1) := by decide +kernel
theorem dX2_amountOf_93 : decode cX2_amountOf 93 = .ok (.aload_n 0, 1) := by decide +kernel
theorem dX2_amountOf_94 : decode cX2_amountOf 94 = .ok (.getfield 64, 3) := by decide +kernel
theorem dX2_amountOf_97 : decode cX2_amountOf 97 = .ok (.ireturn, 1) := by decide +kernel
theorem dX2_amountOf_98 : decode cX2_amountOf 98 = .ok (.aload_n 0, 1) := by decide +kernel
theorem dX2_amountOf_99 : decode cX2_amountOf 99 = .ok (.invokevirtual 104, 3) := by decide +kernel
theorem dX2_amountOf_102 : decode cX2_amountOf 102 = .ok (.ifCond .eq 7, 3) := by decide +kernel
theorem dX2_amountOf_105 : decode cX2_amountOf 105 = .ok (.iconst 1, 1) := by decide +kernel
theorem dX2_amountOf_106 : decode cX2_amountOf 106 = .ok (.goto 4, 3) := by decide +kernel
theorem dX2_amountOf_109 : decode cX2_amountOf 109 = .ok (.iconst 0, 1) := by decide +kernel
theorem dX2_amountOf_110 : decode cX2_amountOf 110 = .ok (.ireturn, 1) := by decide +kernel
theorem dX2_amountOf_111 : decode cX2_amountOf 111 = .ok (.aload_n 0, 1) := by decide +kernel
theorem dX2_amountOf_112 : decode cX2_amountOf 112 = .ok (.invokevirtual 108, 3) := by decide +kernel
theorem dX2_amountOf_115 : decode cX2_amountOf 115 = .ok (.ireturn, 1) := by decide +kernel
theorem dX2_amountOf_116 : decode cX2_amountOf 116 = .ok (.iconst 0, 1) := by decide +kernel
theorem dX2_amountOf_117 : decode cX2_amountOf 117 = .ok (.ireturn, 1) := by decide +kernel
theorem dX2_conflictSet_0 : decode cX2_conflictSet 0 = .ok (.iconst 0, 1) := by decide +kernel
theorem dX2_conflictSet_1 : decode cX2_conflictSet 1 = .ok (.istore_n 2, 1) := by decide +kernel
theorem dX2_conflictSet_2 : decode cX2_conflictSet 2 = .ok (.iconst 0, 1) := by decide +kernel
theorem dX2_conflictSet_3 : decode cX2_conflictSet 3 = .ok (.istore_n 3, 1) := by decide +kernel
theorem dX2_conflictSet_4 : decode cX2_conflictSet 4 = .ok (.iload_n 3, 1) := by decide +kernel
theorem dX2_conflictSet_5 : decode cX2_conflictSet 5 = .ok (.aload_n 0, 1) := by decide +kernel
theorem dX2_conflictSet_6 : decode cX2_conflictSet 6 = .ok (.getfield 55, 3) := by decide +kernel
theorem dX2_conflictSet_9 : decode cX2_conflictSet 9 = .ok (.if_icmp .ge 28, 3) := by decide +kernel
theorem dX2_conflictSet_12 : decode cX2_conflictSet 12 = .ok (.iload_n 2, 1) := by decide +kernel
theorem dX2_conflictSet_13 : decode cX2_conflictSet 13 = .ok (.aload_n 0, 1) := by decide +kernel
theorem dX2_conflictSet_14 : decode cX2_conflictSet 14 = .ok (.iload_n 1, 1) := by decide +kernel
theorem dX2_conflictSet_15 : decode cX2_conflictSet 15 = .ok (.iload_n 3, 1) := by decide +kernel
theorem dX2_conflictSet_16 : decode cX2_conflictSet 16 = .ok (.invokevirtual 111, 3) := by decide +kernel
theorem dX2_conflictSet_19 : decode cX2_conflictSet 19 = .ok (.ifCond .eq 9, 3) := by decide +kernel
theorem dX2_conflictSet_22 : decode cX2_conflictSet 22 = .ok (.iconst 1, 1) := by decide +kernel
theorem dX2_conflictSet_23 : decode cX2_conflictSet 23 = .ok (.iload_n 3, 1) := by decide +kernel
theorem dX2_conflictSet_24 : decode cX2_conflictSet 24 = .ok (.ishl, 1) := by decide +kernel
theorem dX2_conflictSet_25 : decode cX2_conflictSet 25 = .ok (.goto 4, 3) := by decide +kernel
theorem dX2_conflictSet_28 : decode cX2_conflictSet 28 = .ok (.iconst 0, 1) := by decide +kernel
theorem dX2_conflictSet_29 : decode cX2_conflictSet 29 = .ok (.ior, 1) := by decide +kernel
theorem dX2_conflictSet_30 : decode cX2_conflictSet 30 = .ok (.istore_n 2, 1) := by decide +kernel
theorem dX2_conflictSet_31 : decode cX2_conflictSet 31 = .ok (.iinc 3 1, 3) := by decide +kernel
theorem dX2_conflictSet_34 : decode cX2_conflictSet 34 = .ok (.goto (-30), 3) := by decide +kernel
theorem dX2_conflictSet_37 : decode cX2_conflictSet 37 = .ok (.iload_n 2, 1) := by decide +kernel
theorem dX2_conflictSet_38 : decode cX2_conflictSet 38 = .ok (.ireturn, 1) := by decide +kernel
theorem dX2_conflictCount_0 : decode cX2_conflictCount 0 = .ok (.iconst 0, 1) := by decide +kernel
theorem dX2_conflictCount_1 : decode cX2_conflictCount 1 = .ok (.istore_n 1, 1) := by decide +kernel
theorem dX2_conflictCount_2 : decode cX2_conflictCount 2 = .ok (.iconst 0, 1) := by decide +kernel
theorem dX2_conflictCount_3 : decode cX2_conflictCount 3 = .ok (.istore_n 2, 1) := by decide +kernel
theorem dX2_conflictCount_4 : decode cX2_conflictCount 4 = .ok (.iload_n 2, 1) := by decide +kernel
theorem dX2_conflictCount_5 : decode cX2_conflictCount 5 = .ok (.aload_n 0, 1) := by decide +kernel
theorem dX2_conflictCount_6 : decode cX2_conflictCount 6 = .ok (.getfield 55, 3) := by decide +kernel
theorem dX2_conflictCount_9 : decode cX2_conflictCount 9 = .ok (.if_icmp .ge 20, 3) := by decide +kernel
theorem dX2_conflictCount_12 : decode cX2_conflictCount 12 = .ok (.iload_n 1, 1) := by decide +kernel
theorem dX2_conflictCount_13 : decode cX2_conflictCount 13 = .ok (.aload_n 0, 1) := by decide +kernel
theorem dX2_conflictCount_14 : decode cX2_conflictCount 14 = .ok (.iload_n 2, 1) := by decide +kernel
theorem dX2_conflictCount_15 : decode cX2_conflictCount 15 = .ok (.invokevirtual 115, 3) := by decide +kernel
theorem dX2_conflictCount_18 : decode cX2_conflictCount 18 = .ok (.invokestatic 118, 3) := by decide +kernel
theorem dX2_conflictCount_21 : decode cX2_conflictCount 21 = .ok (.iadd, 1) := by decide +kernel
theorem dX2_conflictCount_22 : decode cX2_conflictCount 22 = .ok (.istore_n 1, 1) := by decide +kernel
theorem dX2_conflictCount_23 : decode cX2_conflictCount 23 = .ok (.iinc 2 1, 3) := by decide +kernel
theorem dX2_conflictCount_26 : decode cX2_conflictCount 26 = .ok (.goto (-22), 3) := by decide +kernel
theorem dX2_conflictCount_29 : decode cX2_conflictCount 29 = .ok (.iload_n 1, 1) := by decide +kernel
theorem dX2_conflictCount_30 : decode cX2_conflictCount 30 = .ok (.iconst 2, 1) := by decide +kernel
theorem dX2_conflictCount_31 : decode cX2_conflictCount 31 = .ok (.idiv, 1) := by decide +kernel
theorem dX2_conflictCount_32 : decode cX2_conflictCount 32 = .ok (.ireturn, 1) := by decide +kernel
theorem dX2_greenCount_0 : decode cX2_greenCount 0 = .ok (.iconst 0, 1) := by decide +kernel
theorem dX2_greenCount_1 : decode cX2_greenCount 1 = .ok (.istore_n 2, 1) := by decide +kernel
theorem dX2_greenCount_2 : decode cX2_greenCount 2 = .ok (.iconst 0, 1) := by decide +kernel
theorem dX2_greenCount_3 : decode cX2_greenCount 3 = .ok (.istore_n 3, 1) := by decide +kernel
theorem dX2_greenCount_4 : decode cX2_greenCount 4 = .ok (.iload_n 3, 1) := by decide +kernel
theorem dX2_greenCount_5 : decode cX2_greenCount 5 = .ok (.aload_n 0, 1) := by decide +kernel
theorem dX2_greenCount_6 : decode cX2_greenCount 6 = .ok (.getfield 55, 3) := by decide +kernel
theorem dX2_greenCount_9 : decode cX2_greenCount 9 = .ok (.if_icmp .ge 26, 3) := by decide +kernel
theorem dX2_greenCount_12 : decode cX2_greenCount 12 = .ok (.iload_n 2, 1) := by decide +kernel
theorem dX2_greenCount_13 : decode cX2_greenCount 13 = .ok (.aload_n 0, 1) := by decide +kernel
theorem dX2_greenCount_14 : decode cX2_greenCount 14 = .ok (.iload_n 1, 1) := by decide +kernel
theorem dX2_greenCount_15 : decode cX2_greenCount 15 = .ok (.iload_n 3, 1) := by decide +kernel
theorem dX2_greenCount_16 : decode cX2_greenCount 16 = .ok (.invokevirtual 123, 3) := by decide +kernel
theorem dX2_greenCount_19 : decode cX2_greenCount 19 = .ok (.ifCond .eq 7, 3) := by decide +kernel
theorem dX2_greenCount_22 : decode cX2_greenCount 22 = .ok (.iconst 1, 1) := by decide +kernel
theorem dX2_greenCount_23 : decode cX2_greenCount 23 = .ok (.goto 4, 3) := by decide +kernel
theorem dX2_greenCount_26 : decode cX2_greenCount 26 = .ok (.iconst 0, 1) := by decide +kernel
theorem dX2_greenCount_27 : decode cX2_greenCount 27 = .ok (.iadd, 1) := by decide +kernel
theorem dX2_greenCount_28 : decode cX2_greenCount 28 = .ok (.istore_n 2, 1) := by decide +kernel
theorem dX2_greenCount_29 : decode cX2_greenCount 29 = .ok (.iinc 3 1, 3) := by decide +kernel
theorem dX2_greenCount_32 : decode cX2_greenCount 32 = .ok (.goto (-28), 3) := by decide +kernel
theorem dX2_greenCount_35 : decode cX2_greenCount 35 = .ok (.iload_n 2, 1) := by decide +kernel
theorem dX2_greenCount_36 : decode cX2_greenCount 36 = .ok (.ireturn, 1) := by decide +kernel
theorem dX2_waitingCount_0 : decode cX2_waitingCount 0 = .ok (.iconst 0, 1) := by decide +kernel
theorem dX2_waitingCount_1 : decode cX2_waitingCount 1 = .ok (.istore_n 1, 1) := by decide +kernel
theorem dX2_waitingCount_2 : decode cX2_waitingCount 2 = .ok (.iconst 0, 1) := by decide +kernel
theorem dX2_waitingCount_3 : decode cX2_waitingCount 3 = .ok (.istore_n 2, 1) := by decide +kernel
theorem dX2_waitingCount_4 : decode cX2_waitingCount 4 = .ok (.iload_n 2, 1) := by decide +kernel
theorem dX2_waitingCount_5 : decode cX2_waitingCount 5 = .ok (.aload_n 0, 1) := by decide +kernel
theorem dX2_waitingCount_6 : decode cX2_waitingCount 6 = .ok (.getfield 55, 3) := by decide +kernel
theorem dX2_waitingCount_9 : decode cX2_waitingCount 9 = .ok (.if_icmp .ge 25, 3) := by decide +kernel
theorem dX2_waitingCount_12 : decode cX2_waitingCount 12 = .ok (.iload_n 1, 1) := by decide +kernel
theorem dX2_waitingCount_13 : decode cX2_waitingCount 13 = .ok (.aload_n 0, 1) := by decide +kernel
theorem dX2_waitingCount_14 : decode cX2_waitingCount 14 = .ok (.iload_n 2, 1) := by decide +kernel
theorem dX2_waitingCount_15 : decode cX2_waitingCount 15 = .ok (.invokevirtual 126, 3) := by decide +kernel
theorem dX2_waitingCount_18 : decode cX2_waitingCount 18 = .ok (.ifCond .eq 7, 3) := by decide +kernel
theorem dX2_waitingCount_21 : decode cX2_waitingCount 21 = .ok (.iconst 1, 1) := by decide +kernel
theorem dX2_waitingCount_22 : decode cX2_waitingCount 22 = .ok (.goto 4, 3) := by decide +kernel
theorem dX2_waitingCount_25 : decode cX2_waitingCount 25 = .ok (.iconst 0, 1) := by decide +kernel
theorem dX2_waitingCount_26 : decode cX2_waitingCount 26 = .ok (.iadd, 1) := by decide +kernel
theorem dX2_waitingCount_27 : decode cX2_waitingCount 27 = .ok (.istore_n 1, 1) := by decide +kernel
theorem dX2_waitingCount_28 : decode cX2_waitingCount 28 = .ok (.iinc 2 1, 3) := by decide +kernel
theorem dX2_waitingCount_31 : decode cX2_waitingCount 31 = .ok (.goto (-27), 3) := by decide +kernel
theorem dX2_waitingCount_34 : decode cX2_waitingCount 34 = .ok (.iload_n 1, 1) := by decide +kernel
theorem dX2_waitingCount_35 : decode cX2_waitingCount 35 = .ok (.ireturn, 1) := by decide +kernel
theorem dX2_litSum_0 : decode cX2_litSum 0 = .ok (.iconst 0, 1) := by decide +kernel
theorem dX2_litSum_1 : decode cX2_litSum 1 = .ok (.istore_n 1, 1) := by decide +kernel
theorem dX2_litSum_2 : decode cX2_litSum 2 = .ok (.iconst 0, 1) := by decide +kernel
theorem dX2_litSum_3 : decode cX2_litSum 3 = .ok (.istore_n 2, 1) := by decide +kernel
theorem dX2_litSum_4 : decode cX2_litSum 4 = .ok (.iload_n 2, 1) := by decide +kernel
theorem dX2_litSum_5 : decode cX2_litSum 5 = .ok (.aload_n 0, 1) := by decide +kernel
theorem dX2_litSum_6 : decode cX2_litSum 6 = .ok (.getfield 55, 3) := by decide +kernel
theorem dX2_litSum_9 : decode cX2_litSum 9 = .ok (.if_icmp .ge 18, 3) := by decide +kernel
theorem dX2_litSum_12 : decode cX2_litSum 12 = .ok (.iload_n 1, 1) := by decide +kernel
theorem dX2_litSum_13 : decode cX2_litSum 13 = .ok (.aload_n 0, 1) := by decide +kernel
theorem dX2_litSum_14 : decode cX2_litSum 14 = .ok (.getfield 25, 3) := by decide +kernel
theorem dX2_litSum_17 : decode cX2_litSum 17 = .ok (.iload_n 2, 1) := by decide +kernel
theorem dX2_litSum_18 : decode cX2_litSum 18 = .ok (.iaload, 1) := by decide +kernel
theorem dX2_litSum_19 : decode cX2_litSum 19 = .ok (.iadd, 1) := by decide +kernel
theorem dX2_litSum_20 : decode cX2_litSum 20 = .ok (.istore_n 1, 1) := by decide +kernel
theorem dX2_litSum_21 : decode cX2_litSum 21 = .ok (.iinc 2 1, 3) := by decide +kernel
theorem dX2_litSum_24 : decode cX2_litSum 24 = .ok (.goto (-20), 3) := by decide +kernel
theorem dX2_litSum_27 : decode cX2_litSum 27 = .ok (.iload_n 1, 1) := by decide +kernel
theorem dX2_litSum_28 : decode cX2_litSum 28 = .ok (.ireturn, 1) := by decide +kernel
theorem dX2_headSum_0 : decode cX2_headSum 0 = .ok (.iconst 0, 1) := by decide +kernel
theorem dX2_headSum_1 : decode cX2_headSum 1 = .ok (.istore_n 1, 1) := by decide +kernel
theorem dX2_headSum_2 : decode cX2_headSum 2 = .ok (.iconst 0, 1) := by decide +kernel
theorem dX2_headSum_3 : decode cX2_headSum 3 = .ok (.istore_n 2, 1) := by decide +kernel
theorem dX2_headSum_4 : decode cX2_headSum 4 = .ok (.iload_n 2, 1) := by decide +kernel
theorem dX2_headSum_5 : decode cX2_headSum 5 = .ok (.aload_n 0, 1) := by decide +kernel
theorem dX2_headSum_6 : decode cX2_headSum 6 = .ok (.getfield 55, 3) := by decide +kernel
theorem dX2_headSum_9 : decode cX2_headSum 9 = .ok (.if_icmp .ge 17, 3) := by decide +kernel
theorem dX2_headSum_12 : decode cX2_headSum 12 = .ok (.iload_n 1, 1) := by decide +kernel
theorem dX2_headSum_13 : decode cX2_headSum 13 = .ok (.aload_n 0, 1) := by decide +kernel
theorem dX2_headSum_14 : decode cX2_headSum 14 = .ok (.iload_n 2, 1) := by decide +kernel
theorem dX2_headSum_15 : decode cX2_headSum 15 = .ok (.invokevirtual 130, 3) := by decide +kernel
theorem dX2_headSum_18 : decode cX2_headSum 18 = .ok (.iadd, 1) := by decide +kernel
theorem dX2_headSum_19 : decode cX2_headSum 19 = .ok (.istore_n 1, 1) := by decide +kernel
theorem dX2_headSum_20 : decode cX2_headSum 20 = .ok (.iinc 2 1, 3) := by decide +kernel
theorem dX2_headSum_23 : decode cX2_headSum 23 = .ok (.goto (-19), 3) := by decide +kernel
theorem dX2_headSum_26 : decode cX2_headSum 26 = .ok (.iload_n 1, 1) := by decide +kernel
theorem dX2_headSum_27 : decode cX2_headSum 27 = .ok (.ireturn, 1) := by decide +kernel
theorem dX2_headCount_0 : decode cX2_headCount 0 = .ok (.iconst 0, 1) := by decide +kernel
theorem dX2_headCount_1 : decode cX2_headCount 1 = .ok (.istore_n 2, 1) := by decide +kernel
theorem dX2_headCount_2 : decode cX2_headCount 2 = .ok (.iconst 0, 1) := by decide +kernel
theorem dX2_headCount_3 : decode cX2_headCount 3 = .ok (.istore_n 3, 1) := by decide +kernel
theorem dX2_headCount_4 : decode cX2_headCount 4 = .ok (.iload_n 3, 1) := by decide +kernel
theorem dX2_headCount_5 : decode cX2_headCount 5 = .ok (.iconst 3, 1) := by decide +kernel
theorem dX2_headCount_6 : decode cX2_headCount 6 = .ok (.if_icmp .ge 31, 3) := by decide +kernel
theorem dX2_headCount_9 : decode cX2_headCount 9 = .ok (.iload_n 2, 1) := by decide +kernel
theorem dX2_headCount_10 : decode cX2_headCount 10 = .ok (.aload_n 0, 1) := by decide +kernel
theorem dX2_headCount_11 : decode cX2_headCount 11 = .ok (.getfield 31, 3) := by decide +kernel
theorem dX2_headCount_14 : decode cX2_headCount 14 = .ok (.iload_n 1, 1) := by decide +kernel
theorem dX2_headCount_15 : decode cX2_headCount 15 = .ok (.iconst 3, 1) := by decide +kernel
theorem dX2_headCount_16 : decode cX2_headCount 16 = .ok (.imul, 1) := by decide +kernel
theorem dX2_headCount_17 : decode cX2_headCount 17 = .ok (.iload_n 3, 1) := by decide +kernel
theorem dX2_headCount_18 : decode cX2_headCount 18 = .ok (.iadd, 1) := by decide +kernel
theorem dX2_headCount_19 : decode cX2_headCount 19 = .ok (.iaload, 1) := by decide +kernel
theorem dX2_headCount_20 : decode cX2_headCount 20 = .ok (.iconst (-1), 1) := by decide +kernel
theorem dX2_headCount_21 : decode cX2_headCount 21 = .ok (.if_icmp .ne 7, 3) := by decide +kernel
theorem dX2_headCount_24 : decode cX2_headCount 24 = .ok (.iconst 0, 1) := by decide +kernel
theorem dX2_headCount_25 : decode cX2_headCount 25 = .ok (.goto 4, 3) := by decide +kernel
theorem dX2_headCount_28 : decode cX2_headCount 28 = .ok (.iconst 1, 1) := by decide +kernel
theorem dX2_headCount_29 : decode cX2_headCount 29 = .ok (.iadd, 1) := by decide +kernel
theorem dX2_headCount_30 : decode cX2_headCount 30 = .ok (.istore_n 2, 1) := by decide +kernel
theorem dX2_headCount_31 : decode cX2_headCount 31 = .ok (.iinc 3 1, 3) := by decide +kernel
theorem dX2_headCount_34 : decode cX2_headCount 34 = .ok (.goto (-30), 3) := by decide +kernel
theorem dX2_headCount_37 : decode cX2_headCount 37 = .ok (.iload_n 2, 1) := by decide +kernel
theorem dX2_headCount_38 : decode cX2_headCount 38 = .ok (.ireturn, 1) := by decide +kernel
theorem dX2_takesHead_0 : decode cX2_takesHead 0 = .ok (.aload_n 0, 1) := by decide +kernel
theorem dX2_takesHead_1 : decode cX2_takesHead 1 = .ok (.getfield 19, 3) := by decide +kernel
theorem dX2_takesHead_4 : decode cX2_takesHead 4 = .ok (.iload_n 1, 1) := by decide +kernel
theorem dX2_takesHead_5 : decode cX2_takesHead 5 = .ok (.iaload, 1) := by decide +kernel
theorem dX2_takesHead_6 : decode cX2_takesHead 6 = .ok (.lookupswitch 48 #[(0, 26), (1, 37)], 26) := by decide +kernel
theorem dX2_takesHead_32 : decode cX2_takesHead 32 = .ok (.iload_n 2, 1) := by decide +kernel
theorem dX2_takesHead_33 : decode cX2_takesHead 33 = .ok (.iconst 1, 1) := by decide +kernel
theorem dX2_takesHead_34 : decode cX2_takesHead 34 = .ok (.if_icmp .gt 7, 3) := by decide +kernel
theorem dX2_takesHead_37 : decode cX2_takesHead 37 = .ok (.iconst 1, 1) := by decide +kernel
theorem dX2_takesHead_38 : decode cX2_takesHead 38 = .ok (.goto 4, 3) := by decide +kernel
theorem dX2_takesHead_41 : decode cX2_takesHead 41 = .ok (.iconst 0, 1) := by decide +kernel
theorem dX2_takesHead_42 : decode cX2_takesHead 42 = .ok (.ireturn, 1) := by decide +kernel
theorem dX2_takesHead_43 : decode cX2_takesHead 43 = .ok (.iload_n 2, 1) := by decide +kernel
theorem dX2_takesHead_44 : decode cX2_takesHead 44 = .ok (.iconst 2, 1) := by decide +kernel
theorem dX2_takesHead_45 : decode cX2_takesHead 45 = .ok (.if_icmp .ne 7, 3) := by decide +kernel
theorem dX2_takesHead_48 : decode cX2_takesHead 48 = .ok (.iconst 1, 1) := by decide +kernel
theorem dX2_takesHead_49 : decode cX2_takesHead 49 = .ok (.goto 4, 3) := by decide +kernel
theorem dX2_takesHead_52 : decode cX2_takesHead 52 = .ok (.iconst 0, 1) := by decide +kernel
theorem dX2_takesHead_53 : decode cX2_takesHead 53 = .ok (.ireturn, 1) := by decide +kernel
theorem dX2_takesHead_54 : decode cX2_takesHead 54 = .ok (.iconst 1, 1) := by decide +kernel
theorem dX2_takesHead_55 : decode cX2_takesHead 55 = .ok (.ireturn, 1) := by decide +kernel
theorem dX2_localSecond_0 : decode cX2_localSecond 0 = .ok (.iload_n 1, 1) := by decide +kernel
theorem dX2_localSecond_1 : decode cX2_localSecond 1 = .ok (.aload_n 0, 1) := by decide +kernel
theorem dX2_localSecond_2 : decode cX2_localSecond 2 = .ok (.getfield 52, 3) := by decide +kernel
theorem dX2_localSecond_5 : decode cX2_localSecond 5 = .ok (.isub, 1) := by decide +kernel
theorem dX2_localSecond_6 : decode cX2_localSecond 6 = .ok (.iload_n 2, 1) := by decide +kernel
theorem dX2_localSecond_7 : decode cX2_localSecond 7 = .ok (.invokestatic 133, 3) := by decide +kernel
theorem dX2_localSecond_10 : decode cX2_localSecond 10 = .ok (.ireturn, 1) := by decide +kernel
theorem dX2_isOn_0 : decode cX2_isOn 0 = .ok (.iload_n 3, 1) := by decide +kernel
theorem dX2_isOn_1 : decode cX2_isOn 1 = .ok (.aload_n 0, 1) := by decide +kernel
theorem dX2_isOn_2 : decode cX2_isOn 2 = .ok (.iload_n 1, 1) := by decide +kernel
theorem dX2_isOn_3 : decode cX2_isOn 3 = .ok (.iload_n 2, 1) := by decide +kernel
theorem dX2_isOn_4 : decode cX2_isOn 4 = .ok (.invokevirtual 136, 3) := by decide +kernel
theorem dX2_isOn_7 : decode cX2_isOn 7 = .ok (.isub, 1) := by decide +kernel
theorem dX2_isOn_8 : decode cX2_isOn 8 = .ok (.iload 4, 2) := by decide +kernel
theorem dX2_isOn_10 : decode cX2_isOn 10 = .ok (.invokestatic 133, 3) := by decide +kernel
theorem dX2_isOn_13 : decode cX2_isOn 13 = .ok (.aload_n 0, 1) := by decide +kernel
theorem dX2_isOn_14 : decode cX2_isOn 14 = .ok (.iload_n 1, 1) := by decide +kernel
theorem dX2_isOn_15 : decode cX2_isOn 15 = .ok (.iload_n 2, 1) := by decide +kernel
theorem dX2_isOn_16 : decode cX2_isOn 16 = .ok (.invokevirtual 87, 3) := by decide +kernel
theorem dX2_isOn_19 : decode cX2_isOn 19 = .ok (.if_icmp .ge 7, 3) := by decide +kernel
theorem dX2_isOn_22 : decode cX2_isOn 22 = .ok (.iconst 1, 1) := by decide +kernel
theorem dX2_isOn_23 : decode cX2_isOn 23 = .ok (.goto 4, 3) := by decide +kernel
theorem dX2_isOn_26 : decode cX2_isOn 26 = .ok (.iconst 0, 1) := by decide +kernel
theorem dX2_isOn_27 : decode cX2_isOn 27 = .ok (.ireturn, 1) := by decide +kernel
theorem dX2_onSet_0 : decode cX2_onSet 0 = .ok (.iconst 0, 1) := by decide +kernel
theorem dX2_onSet_1 : decode cX2_onSet 1 = .ok (.istore 4, 2) := by decide +kernel
theorem dX2_onSet_3 : decode cX2_onSet 3 = .ok (.iconst 0, 1) := by decide +kernel
theorem dX2_onSet_4 : decode cX2_onSet 4 = .ok (.istore 5, 2) := by decide +kernel
theorem dX2_onSet_6 : decode cX2_onSet 6 = .ok (.iload 5, 2) := by decide +kernel
theorem dX2_onSet_8 : decode cX2_onSet 8 = .ok (.aload_n 0, 1) := by decide +kernel
theorem dX2_onSet_9 : decode cX2_onSet 9 = .ok (.getfield 55, 3) := by decide +kernel
theorem dX2_onSet_12 : decode cX2_onSet 12 = .ok (.if_icmp .ge 34, 3) := by decide +kernel
theorem dX2_onSet_15 : decode cX2_onSet 15 = .ok (.iload 4, 2) := by decide +kernel
theorem dX2_onSet_17 : decode cX2_onSet 17 = .ok (.aload_n 0, 1) := by decide +kernel
theorem dX2_onSet_18 : decode cX2_onSet 18 = .ok (.iload_n 1, 1) := by decide +kernel
theorem dX2_onSet_19 : decode cX2_onSet 19 = .ok (.iload 5, 2) := by decide +kernel
theorem dX2_onSet_21 : decode cX2_onSet 21 = .ok (.iload_n 2, 1) := by decide +kernel
theorem dX2_onSet_22 : decode cX2_onSet 22 = .ok (.iload_n 3, 1) := by decide +kernel
theorem dX2_onSet_23 : decode cX2_onSet 23 = .ok (.invokevirtual 139, 3) := by decide +kernel
theorem dX2_onSet_26 : decode cX2_onSet 26 = .ok (.ifCond .eq 10, 3) := by decide +kernel
theorem dX2_onSet_29 : decode cX2_onSet 29 = .ok (.iconst 1, 1) := by decide +kernel
theorem dX2_onSet_30 : decode cX2_onSet 30 = .ok (.iload 5, 2) := by decide +kernel
theorem dX2_onSet_32 : decode cX2_onSet 32 = .ok (.ishl, 1) := by decide +kernel
theorem dX2_onSet_33 : decode cX2_onSet 33 = .ok (.goto 4, 3) := by decide +kernel
theorem dX2_onSet_36 : decode cX2_onSet 36 = .ok (.iconst 0, 1) := by decide +kernel
theorem dX2_onSet_37 : decode cX2_onSet 37 = .ok (.ior, 1) := by decide +kernel
theorem dX2_onSet_38 : decode cX2_onSet 38 = .ok (.istore 4, 2) := by decide +kernel
theorem dX2_onSet_40 : decode cX2_onSet 40 = .ok (.iinc 5 1, 3) := by decide +kernel
theorem dX2_onSet_43 : decode cX2_onSet 43 = .ok (.goto (-37), 3) := by decide +kernel
theorem dX2_onSet_46 : decode cX2_onSet 46 = .ok (.iload 4, 2) := by decide +kernel
theorem dX2_onSet_48 : decode cX2_onSet 48 = .ok (.ireturn, 1) := by decide +kernel
theorem dX2_pictureAt_0 : decode cX2_pictureAt 0 = .ok (.lconst 0, 1) := by decide +kernel
theorem dX2_pictureAt_1 : decode cX2_pictureAt 1 = .ok (.lstore 4, 2) := by decide +kernel
theorem dX2_pictureAt_3 : decode cX2_pictureAt 3 = .ok (.iconst 0, 1) := by decide +kernel
theorem dX2_pictureAt_4 : decode cX2_pictureAt 4 = .ok (.istore 6, 2) := by decide +kernel
theorem dX2_pictureAt_6 : decode cX2_pictureAt 6 = .ok (.iconst 0, 1) := by decide +kernel
theorem dX2_pictureAt_7 : decode cX2_pictureAt 7 = .ok (.istore 7, 2) := by decide +kernel
theorem dX2_pictureAt_9 : decode cX2_pictureAt 9 = .ok (.iload 7, 2) := by decide +kernel
theorem dX2_pictureAt_11 : decode cX2_pictureAt 11 = .ok (.iload_n 3, 1) := by decide +kernel
theorem dX2_pictureAt_12 : decode cX2_pictureAt 12 = .ok (.if_icmp .ge 52, 3) := by decide +kernel
theorem dX2_pictureAt_15 : decode cX2_pictureAt 15 = .ok (.aload_n 0, 1) := by decide +kernel
theorem dX2_pictureAt_16 : decode cX2_pictureAt 16 = .ok (.iload_n 1, 1) := by decide +kernel
theorem dX2_pictureAt_17 : decode cX2_pictureAt 17 = .ok (.iload 7, 2) := by decide +kernel
theorem dX2_pictureAt_19 : decode cX2_pictureAt 19 = .ok (.iload_n 3, 1) := by decide +kernel
theorem dX2_pictureAt_20 : decode cX2_pictureAt 20 = .ok (.invokevirtual 143, 3) := by decide +kernel
theorem dX2_pictureAt_23 : decode cX2_pictureAt 23 = .ok (.istore 8, 2) := by decide +kernel
theorem dX2_pictureAt_25 : decode cX2_pictureAt 25 = .ok (.lload 4, 2) := by decide +kernel
theorem dX2_pictureAt_27 : decode cX2_pictureAt 27 = .ok (.iload 8, 2) := by decide +kernel
theorem dX2_pictureAt_29 : decode cX2_pictureAt 29 = .ok (.lushr, 1) := by decide +kernel
theorem dX2_pictureAt_30 : decode cX2_pictureAt 30 = .ok (.lconst 1, 1) := by decide +kernel
theorem dX2_pictureAt_31 : decode cX2_pictureAt 31 = .ok (.land, 1) := by decide +kernel
theorem dX2_pictureAt_32 : decode cX2_pictureAt 32 = .ok (.lconst 0, 1) := by decide +kernel
theorem dX2_pictureAt_33 : decode cX2_pictureAt 33 = .ok (.lcmp, 1) := by decide +kernel
theorem dX2_pictureAt_34 : decode cX2_pictureAt 34 = .ok (.ifCond .ne 24, 3) := by decide +kernel
theorem dX2_pictureAt_37 : decode cX2_pictureAt 37 = .ok (.iload 6, 2) := by decide +kernel
theorem dX2_pictureAt_39 : decode cX2_pictureAt 39 = .ok (.iload_n 2, 1) := by decide +kernel
theorem dX2_pictureAt_40 : decode cX2_pictureAt 40 = .ok (.if_icmp .ne 6, 3) := by decide +kernel
theorem dX2_pictureAt_43 : decode cX2_pictureAt 43 = .ok (.iload 8, 2) := by decide +kernel
theorem dX2_pictureAt_45 : decode cX2_pictureAt 45 = .ok (.ireturn, 1) := by decide +kernel
theorem dX2_pictureAt_46 : decode cX2_pictureAt 46 = .ok (.lload 4, 2) := by decide +kernel
theorem dX2_pictureAt_48 : decode cX2_pictureAt 48 = .ok (.lconst 1, 1) := by decide +kernel
theorem dX2_pictureAt_49 : decode cX2_pictureAt 49 = .ok (.iload 8, 2) := by decide +kernel
theorem dX2_pictureAt_51 : decode cX2_pictureAt 51 = .ok (.lshl, 1) := by decide +kernel
theorem dX2_pictureAt_52 : decode cX2_pictureAt 52 = .ok (.lor, 1) := by decide +kernel
theorem dX2_pictureAt_53 : decode cX2_pictureAt 53 = .ok (.lstore 4, 2) := by decide +kernel
theorem dX2_pictureAt_55 : decode cX2_pictureAt 55 = .ok (.iinc 6 1, 3) := by decide +kernel
theorem dX2_pictureAt_58 : decode cX2_pictureAt 58 = .ok (.iinc 7 1, 3) := by decide +kernel
theorem dX2_pictureAt_61 : decode cX2_pictureAt 61 = .ok (.goto (-52), 3) := by decide +kernel
theorem dX2_pictureAt_64 : decode cX2_pictureAt 64 = .ok (.iload_n 2, 1) := by decide +kernel
theorem dX2_pictureAt_65 : decode cX2_pictureAt 65 = .ok (.iconst (-1), 1) := by decide +kernel
theorem dX2_pictureAt_66 : decode cX2_pictureAt 66 = .ok (.if_icmp .ne 8, 3) := by decide +kernel
theorem dX2_pictureAt_69 : decode cX2_pictureAt 69 = .ok (.iload 6, 2) := by decide +kernel
theorem dX2_pictureAt_71 : decode cX2_pictureAt 71 = .ok (.goto 4, 3) := by decide +kernel
theorem dX2_pictureAt_74 : decode cX2_pictureAt 74 = .ok (.iconst (-1), 1) := by decide +kernel
theorem dX2_pictureAt_75 : decode cX2_pictureAt 75 = .ok (.ireturn, 1) := by decide +kernel
theorem dX2_reasonAgainstGreen_0 : decode cX2_reasonAgainstGreen 0 = .ok (.iload 4, 2) := by decide +kernel
theorem dX2_reasonAgainstGreen_2 : decode cX2_reasonAgainstGreen 2 = .ok (.aload_n 0, 1) := by decide +kernel
theorem dX2_reasonAgainstGreen_3 : decode cX2_reasonAgainstGreen 3 = .ok (.getfield 22, 3) := by decide +kernel
theorem dX2_reasonAgainstGreen_6 : decode cX2_reasonAgainstGreen 6 = .ok (.iload_n 2, 1) := by decide +kernel
theorem dX2_reasonAgainstGreen_7 : decode cX2_reasonAgainstGreen 7 = .ok (.iaload, 1) := by decide +kernel
theorem dX2_reasonAgainstGreen_8 : decode cX2_reasonAgainstGreen 8 = .ok (.if_icmp .ge 5, 3) := by decide +kernel
theorem dX2_reasonAgainstGreen_11 : decode cX2_reasonAgainstGreen 11 = .ok (.iconst 1, 1) := by decide +kernel
theorem dX2_reasonAgainstGreen_12 : decode cX2_reasonAgainstGreen 12 = .ok (.ireturn, 1) := by decide +kernel
theorem dX2_reasonAgainstGreen_13 : decode cX2_reasonAgainstGreen 13 = .ok (.iload 4, 2) := by decide +kernel
theorem dX2_reasonAgainstGreen_15 : decode cX2_reasonAgainstGreen 15 = .ok (.iload 5, 2) := by decide +kernel
theorem dX2_reasonAgainstGreen_17 : decode cX2_reasonAgainstGreen 17 = .ok (.iconst 5, 1) := by decide +kernel
theorem dX2_reasonAgainstGreen_18 : decode cX2_reasonAgainstGreen 18 = .ok (.isub, 1) := by decide +kernel
theorem dX2_reasonAgainstGreen_19 : decode cX2_reasonAgainstGreen 19 = .ok (.if_icmp .le 5, 3) := by decide +kernel
theorem dX2_reasonAgainstGreen_22 : decode cX2_reasonAgainstGreen 22 = .ok (.iconst 2, 1) := by decide +kernel
theorem dX2_reasonAgainstGreen_23 : decode cX2_reasonAgainstGreen 23 = .ok (.ireturn, 1) := by decide +kernel
theorem dX2_reasonAgainstGreen_24 : decode cX2_reasonAgainstGreen 24 = .ok (.iconst 0, 1) := by decide +kernel
theorem dX2_reasonAgainstGreen_25 : decode cX2_reasonAgainstGreen 25 = .ok (.istore 6, 2) := by decide +kernel
theorem dX2_reasonAgainstGreen_27 : decode cX2_reasonAgainstGreen 27 = .ok (.iconst 0, 1) := by decide +kernel
theorem dX2_reasonAgainstGreen_28 : decode cX2_reasonAgainstGreen 28 = .ok (.istore 7, 2) := by decide +kernel
theorem dX2_reasonAgainstGreen_30 : decode cX2_reasonAgainstGreen 30 = .ok (.iload 7, 2) := by decide +kernel
theorem dX2_reasonAgainstGreen_32 : decode cX2_reasonAgainstGreen 32 = .ok (.aload_n 0, 1) := by decide +kernel
theorem dX2_reasonAgainstGreen_33 : decode cX2_reasonAgainstGreen 33 = .ok (.getfield 55, 3) := by decide +kernel
theorem dX2_reasonAgainstGreen_36 : decode cX2_reasonAgainstGreen 36 = .ok (.if_icmp .ge 78, 3) := by decide +kernel
theorem dX2_reasonAgainstGreen_39 : decode cX2_reasonAgainstGreen 39 = .ok (.aload_n 0, 1) := by decide +kernel
theorem dX2_reasonAgainstGreen_40 : decode cX2_reasonAgainstGreen 40 = .ok (.iload_n 2, 1) := by decide +kernel
theorem dX2_reasonAgainstGreen_41 : decode cX2_reasonAgainstGreen 41 = .ok (.iload 7, 2) := by decide +kernel
theorem dX2_reasonAgainstGreen_43 : decode cX2_reasonAgainstGreen 43 = .ok (.invokevirtual 111, 3) := by decide +kernel
theorem dX2_reasonAgainstGreen_46 : decode cX2_reasonAgainstGreen 46 = .ok (.ifCond .eq 62, 3) := by decide +kernel
theorem dX2_reasonAgainstGreen_49 : decode cX2_reasonAgainstGreen 49 = .ok (.aload_n 0, 1) := by decide +kernel
theorem dX2_reasonAgainstGreen_50 : decode cX2_reasonAgainstGreen 50 = .ok (.iload_n 1, 1) := by decide +kernel
theorem dX2_reasonAgainstGreen_51 : decode cX2_reasonAgainstGreen 51 = .ok (.iload 7, 2) := by decide +kernel
theorem dX2_reasonAgainstGreen_53 : decode cX2_reasonAgainstGreen 53 = .ok (.invokevirtual 123, 3) := by decide +kernel
theorem dX2_reasonAgainstGreen_56 : decode cX2_reasonAgainstGreen 56 = .ok (.ifCond .eq 52, 3) := by decide +kernel
theorem dX2_reasonAgainstGreen_59 : decode cX2_reasonAgainstGreen 59 = .ok (.aload_n 0, 1) := by decide +kernel
theorem dX2_reasonAgainstGreen_60 : decode cX2_reasonAgainstGreen 60 = .ok (.iload_n 2, 1) := by decide +kernel
theorem dX2_reasonAgainstGreen_61 : decode cX2_reasonAgainstGreen 61 = .ok (.iload 7, 2) := by decide +kernel
theorem dX2_reasonAgainstGreen_63 : decode cX2_reasonAgainstGreen 63 = .ok (.invokevirtual 83, 3) := by decide +kernel
theorem dX2_reasonAgainstGreen_66 : decode cX2_reasonAgainstGreen 66 = .ok (.istore 8, 2) := by decide +kernel
theorem dX2_reasonAgainstGreen_68 : decode cX2_reasonAgainstGreen 68 = .ok (.aload_n 0, 1) := by decide +kernel
theorem dX2_reasonAgainstGreen_69 : decode cX2_reasonAgainstGreen 69 = .ok (.iload 7, 2) := by decide +kernel
theorem dX2_reasonAgainstGreen_71 : decode cX2_reasonAgainstGreen 71 = .ok (.iload_n 2, 1) := by decide +kernel
theorem dX2_reasonAgainstGreen_72 : decode cX2_reasonAgainstGreen 72 = .ok (.invokevirtual 83, 3) := by decide +kernel
theorem dX2_reasonAgainstGreen_75 : decode cX2_reasonAgainstGreen 75 = .ok (.istore 9, 2) := by decide +kernel
theorem dX2_reasonAgainstGreen_77 : decode cX2_reasonAgainstGreen 77 = .ok (.aload_n 0, 1) := by decide +kernel
theorem dX2_reasonAgainstGreen_78 : decode cX2_reasonAgainstGreen 78 = .ok (.iload_n 1, 1) := by decide +kernel
theorem dX2_reasonAgainstGreen_79 : decode cX2_reasonAgainstGreen 79 = .ok (.bipush 6, 2) := by decide +kernel
theorem dX2_reasonAgainstGreen_81 : decode cX2_reasonAgainstGreen 81 = .ok (.imul, 1) := by decide +kernel
theorem dX2_reasonAgainstGreen_82 : decode cX2_reasonAgainstGreen 82 = .ok (.iload 7, 2) := by decide +kernel
theorem dX2_reasonAgainstGreen_84 : decode cX2_reasonAgainstGreen 84 = .ok (.iadd, 1) := by decide +kernel
theorem dX2_reasonAgainstGreen_85 : decode cX2_reasonAgainstGreen 85 = .ok (.iload_n 3, 1) := by decide +kernel
theorem dX2_reasonAgainstGreen_86 : decode cX2_reasonAgainstGreen 86 = .ok (.iload 4, 2) := by decide +kernel
theorem dX2_reasonAgainstGreen_88 : decode cX2_reasonAgainstGreen 88 = .ok (.iload 8, 2) := by decide +kernel
theorem dX2_reasonAgainstGreen_90 : decode cX2_reasonAgainstGreen 90 = .ok (.iload 9, 2) := by decide +kernel
theorem dX2_reasonAgainstGreen_92 : decode cX2_reasonAgainstGreen 92 = .ok (.iload 5, 2) := by decide +kernel
theorem dX2_reasonAgainstGreen_94 : decode cX2_reasonAgainstGreen 94 = .ok (.invokevirtual 147, 3) := by decide +kernel
theorem dX2_reasonAgainstGreen_97 : decode cX2_reasonAgainstGreen 97 = .ok (.istore 10, 2) := by decide +kernel
theorem dX2_reasonAgainstGreen_99 : decode cX2_reasonAgainstGreen 99 = .ok (.iload 6, 2) := by decide +kernel
theorem dX2_reasonAgainstGreen_101 : decode cX2_reasonAgainstGreen 101 = .ok (.iload 10, 2) := by decide +kernel
theorem dX2_reasonAgainstGreen_103 : decode cX2_reasonAgainstGreen 103 = .ok (.invokestatic 151, 3) := by decide +kernel
theorem dX2_reasonAgainstGreen_106 : decode cX2_reasonAgainstGreen 106 = .ok (.istore 6, 2) := by decide +kernel
theorem dX2_reasonAgainstGreen_108 : decode cX2_reasonAgainstGreen 108 = .ok (.iinc 7 1, 3) := by decide +kernel
theorem dX2_reasonAgainstGreen_111 : decode cX2_reasonAgainstGreen 111 = .ok (.goto (-81), 3) := by decide +kernel
theorem dX2_reasonAgainstGreen_114 : decode cX2_reasonAgainstGreen 114 = .ok (.iload 6, 2) := by decide +kernel
theorem dX2_reasonAgainstGreen_116 : decode cX2_reasonAgainstGreen 116 = .ok (.ireturn, 1) := by decide +kernel
theorem dX2_reasonAgainstConflict_0 : decode cX2_reasonAgainstConflict 0 = .ok (.iconst 0, 1) := by decide +kernel
theorem dX2_reasonAgainstConflict_1 : decode cX2_reasonAgainstConflict 1 = .ok (.istore 6, 2) := by decide +kernel
theorem dX2_reasonAgainstConflict_3 : decode cX2_reasonAgainstConflict 3 = .ok (.iload 6, 2) := by decide +kernel
theorem dX2_reasonAgainstConflict_5 : decode cX2_reasonAgainstConflict 5 = .ok (.iconst 2, 1) := by decide +kernel
theorem dX2_reasonAgainstConflict_6 : decode cX2_reasonAgainstConflict 6 = .ok (.if_icmp .ge 73, 3) := by decide +kernel
theorem dX2_reasonAgainstConflict_9 : decode cX2_reasonAgainstConflict 9 = .ok (.aload_n 0, 1) := by decide +kernel
theorem dX2_reasonAgainstConflict_10 : decode cX2_reasonAgainstConflict 10 = .ok (.iload 6, 2) := by decide +kernel
theorem dX2_reasonAgainstConflict_12 : decode cX2_reasonAgainstConflict 12 = .ok (.iload_n 1, 1) := by decide +kernel
theorem dX2_reasonAgainstConflict_13 : decode cX2_reasonAgainstConflict 13 = .ok (.invokevirtual 123, 3) := by decide +kernel
theorem dX2_reasonAgainstConflict_16 : decode cX2_reasonAgainstConflict 16 = .ok (.ifCond .eq 57, 3) := by decide +kernel
theorem dX2_reasonAgainstConflict_19 : decode cX2_reasonAgainstConflict 19 = .ok (.aload_n 0, 1) := by decide +kernel
theorem dX2_reasonAgainstConflict_20 : decode cX2_reasonAgainstConflict 20 = .ok (.iload 6, 2) := by decide +kernel
theorem dX2_reasonAgainstConflict_22 : decode cX2_reasonAgainstConflict 22 = .ok (.iload_n 2, 1) := by decide +kernel
theorem dX2_reasonAgainstConflict_23 : decode cX2_reasonAgainstConflict 23 = .ok (.invokevirtual 123, 3) := by decide +kernel
theorem dX2_reasonAgainstConflict_26 : decode cX2_reasonAgainstConflict 26 = .ok (.ifCond .eq 47, 3) := by decide +kernel
theorem dX2_reasonAgainstConflict_29 : decode cX2_reasonAgainstConflict 29 = .ok (.aload_n 0, 1) := by decide +kernel
theorem dX2_reasonAgainstConflict_30 : decode cX2_reasonAgainstConflict 30 = .ok (.iload 6, 2) := by decide +kernel
theorem dX2_reasonAgainstConflict_32 : decode cX2_reasonAgainstConflict 32 = .ok (.iload_n 1, 1) := by decide +kernel
theorem dX2_reasonAgainstConflict_33 : decode cX2_reasonAgainstConflict 33 = .ok (.invokevirtual 136, 3) := by decide +kernel
theorem dX2_reasonAgainstConflict_36 : decode cX2_reasonAgainstConflict 36 = .ok (.istore 7, 2) := by decide +kernel
theorem dX2_reasonAgainstConflict_38 : decode cX2_reasonAgainstConflict 38 = .ok (.aload_n 0, 1) := by decide +kernel
theorem dX2_reasonAgainstConflict_39 : decode cX2_reasonAgainstConflict 39 = .ok (.iload 6, 2) := by decide +kernel
theorem dX2_reasonAgainstConflict_41 : decode cX2_reasonAgainstConflict 41 = .ok (.bipush 6, 2) := by decide +kernel
theorem dX2_reasonAgainstConflict_43 : decode cX2_reasonAgainstConflict 43 = .ok (.imul, 1) := by decide +kernel
theorem dX2_reasonAgainstConflict_44 : decode cX2_reasonAgainstConflict 44 = .ok (.iload_n 2, 1) := by decide +kernel
theorem dX2_reasonAgainstConflict_45 : decode cX2_reasonAgainstConflict 45 = .ok (.iadd, 1) := by decide +kernel
theorem dX2_reasonAgainstConflict_46 : decode cX2_reasonAgainstConflict 46 = .ok (.iload 7, 2) := by decide +kernel
theorem dX2_reasonAgainstConflict_48 : decode cX2_reasonAgainstConflict 48 = .ok (.aload_n 0, 1) := by decide +kernel
theorem dX2_reasonAgainstConflict_49 : decode cX2_reasonAgainstConflict 49 = .ok (.iload 6, 2) := by decide +kernel
theorem dX2_reasonAgainstConflict_51 : decode cX2_reasonAgainstConflict 51 = .ok (.iload_n 1, 1) := by decide +kernel
theorem dX2_reasonAgainstConflict_52 : decode cX2_reasonAgainstConflict 52 = .ok (.invokevirtual 87, 3) := by decide +kernel
theorem dX2_reasonAgainstConflict_55 : decode cX2_reasonAgainstConflict 55 = .ok (.iload_n 3, 1) := by decide +kernel
theorem dX2_reasonAgainstConflict_56 : decode cX2_reasonAgainstConflict 56 = .ok (.iload 4, 2) := by decide +kernel
theorem dX2_reasonAgainstConflict_58 : decode cX2_reasonAgainstConflict 58 = .ok (.iload 5, 2) := by decide +kernel
theorem dX2_reasonAgainstConflict_60 : decode cX2_reasonAgainstConflict 60 = .ok (.invokevirtual 147, 3) := by decide +kernel
theorem dX2_reasonAgainstConflict_63 : decode cX2_reasonAgainstConflict 63 = .ok (.istore 8, 2) := by decide +kernel
theorem dX2_reasonAgainstConflict_65 : decode cX2_reasonAgainstConflict 65 = .ok (.iload 8, 2) := by decide +kernel
theorem dX2_reasonAgainstConflict_67 : decode cX2_reasonAgainstConflict 67 = .ok (.ifCond .eq 6, 3) := by decide +kernel
theorem dX2_reasonAgainstConflict_70 : decode cX2_reasonAgainstConflict 70 = .ok (.iload 8, 2) := by decide +kernel
theorem dX2_reasonAgainstConflict_72 : decode cX2_reasonAgainstConflict 72 = .ok (.ireturn, 1) := by decide +kernel
theorem dX2_reasonAgainstConflict_73 : decode cX2_reasonAgainstConflict 73 = .ok (.iinc 6 1, 3) := by decide +kernel
theorem dX2_reasonAgainstConflict_76 : decode cX2_reasonAgainstConflict 76 = .ok (.goto (-73), 3) := by decide +kernel
theorem dX2_reasonAgainstConflict_79 : decode cX2_reasonAgainstConflict 79 = .ok (.iconst 0, 1) := by decide +kernel
theorem dX2_reasonAgainstConflict_80 : decode cX2_reasonAgainstConflict 80 = .ok (.ireturn, 1) := by decide +kernel
theorem dX2_clashWith_0 : decode cX2_clashWith 0 = .ok (.aload_n 0, 1) := by decide +kernel
theorem dX2_clashWith_1 : decode cX2_clashWith 1 = .ok (.getfield 37, 3) := by decide +kernel
theorem dX2_clashWith_4 : decode cX2_clashWith 4 = .ok (.iload_n 1, 1) := by decide +kernel
theorem dX2_clashWith_5 : decode cX2_clashWith 5 = .ok (.iaload, 1) := by decide +kernel
theorem dX2_clashWith_6 : decode cX2_clashWith 6 = .ok (.istore 7, 2) := by decide +kernel
theorem dX2_clashWith_8 : decode cX2_clashWith 8 = .ok (.aload_n 0, 1) := by decide +kernel
theorem dX2_clashWith_9 : decode cX2_clashWith 9 = .ok (.getfield 40, 3) := by decide +kernel
theorem dX2_clashWith_12 : decode cX2_clashWith 12 = .ok (.iload_n 1, 1) := by decide +kernel
theorem dX2_clashWith_13 : decode cX2_clashWith 13 = .ok (.iaload, 1) := by decide +kernel
theorem dX2_clashWith_14 : decode cX2_clashWith 14 = .ok (.istore 8, 2) := by decide +kernel
theorem dX2_clashWith_16 : decode cX2_clashWith 16 = .ok (.iload 7, 2) := by decide +kernel
theorem dX2_clashWith_18 : decode cX2_clashWith 18 = .ok (.iload_n 2, 1) := by decide +kernel
theorem dX2_clashWith_19 : decode cX2_clashWith 19 = .ok (.isub, 1) := by decide +kernel
theorem dX2_clashWith_20 : decode cX2_clashWith 20 = .ok (.iload 6, 2) := by decide +kernel
theorem dX2_clashWith_22 : decode cX2_clashWith 22 = .ok (.invokestatic 133, 3) := by decide +kernel
theorem dX2_clashWith_25 : decode cX2_clashWith 25 = .ok (.iload_n 3, 1) := by decide +kernel
theorem dX2_clashWith_26 : decode cX2_clashWith 26 = .ok (.if_icmp .ge 7, 3) := by decide +kernel
theorem dX2_clashWith_29 : decode cX2_clashWith 29 = .ok (.iconst 1, 1) := by decide +kernel
theorem dX2_clashWith_30 : decode cX2_clashWith 30 = .ok (.goto 4, 3) := by decide +kernel
theorem dX2_clashWith_33 : decode cX2_clashWith 33 = .ok (.iconst 0, 1) := by decide +kernel
theorem dX2_clashWith_34 : decode cX2_clashWith 34 = .ok (.istore 9, 2) := by decide +kernel
theorem dX2_clashWith_36 : decode cX2_clashWith 36 = .ok (.iload_n 2, 1) := by decide +kernel
theorem dX2_clashWith_37 : decode cX2_clashWith 37 = .ok (.iload 7, 2) := by decide +kernel
theorem dX2_clashWith_39 : decode cX2_clashWith 39 = .ok (.isub, 1) := by decide +kernel
theorem dX2_clashWith_40 : decode cX2_clashWith 40 = .ok (.iload 6, 2) := by decide +kernel
theorem dX2_clashWith_42 : decode cX2_clashWith 42 = .ok (.invokestatic 133, 3) := by decide +kernel
theorem dX2_clashWith_45 : decode cX2_clashWith 45 = .ok (.iload 8, 2) := by decide +kernel
theorem dX2_clashWith_47 : decode cX2_clashWith 47 = .ok (.if_icmp .ge 7, 3) := by decide +kernel
theorem dX2_clashWith_50 : decode cX2_clashWith 50 = .ok (.iconst 1, 1) := by decide +kernel
theorem dX2_clashWith_51 : decode cX2_clashWith 51 = .ok (.goto 4, 3) := by decide +kernel
theorem dX2_clashWith_54 : decode cX2_clashWith 54 = .ok (.iconst 0, 1) := by decide +kernel
theorem dX2_clashWith_55 : decode cX2_clashWith 55 = .ok (.istore 10, 2) := by decide +kernel
theorem dX2_clashWith_57 : decode cX2_clashWith 57 = .ok (.iload 9, 2) := by decide +kernel
theorem dX2_clashWith_59 : decode cX2_clashWith 59 = .ok (.ifCond .ne 8, 3) := by decide +kernel
theorem dX2_clashWith_62 : decode cX2_clashWith 62 = .ok (.iload 10, 2) := by decide +kernel
theorem dX2_clashWith_64 : decode cX2_clashWith 64 = .ok (.ifCond .eq 5, 3) := by decide +kernel
theorem dX2_clashWith_67 : decode cX2_clashWith 67 = .ok (.iconst 3, 1) := by decide +kernel
theorem dX2_clashWith_68 : decode cX2_clashWith 68 = .ok (.ireturn, 1) := by decide +kernel
theorem dX2_clashWith_69 : decode cX2_clashWith 69 = .ok (.iload 7, 2) := by decide +kernel
theorem dX2_clashWith_71 : decode cX2_clashWith 71 = .ok (.iload 8, 2) := by decide +kernel
theorem dX2_clashWith_73 : decode cX2_clashWith 73 = .ok (.iload_n 2, 1) := by decide +kernel
theorem dX2_clashWith_74 : decode cX2_clashWith 74 = .ok (.iload 6, 2) := by decide +kernel
theorem dX2_clashWith_76 : decode cX2_clashWith 76 = .ok (.invokestatic 154, 3) := by decide +kernel
theorem dX2_clashWith_79 : decode cX2_clashWith 79 = .ok (.iload 5, 2) := by decide +kernel
theorem dX2_clashWith_81 : decode cX2_clashWith 81 = .ok (.if_icmp .ge 5, 3) := by decide +kernel
theorem dX2_clashWith_84 : decode cX2_clashWith 84 = .ok (.iconst 4, 1) := by decide +kernel
theorem dX2_clashWith_85 : decode cX2_clashWith 85 = .ok (.ireturn, 1) := by decide +kernel
theorem dX2_clashWith_86 : decode cX2_clashWith 86 = .ok (.iload_n 2, 1) := by decide +kernel
theorem dX2_clashWith_87 : decode cX2_clashWith 87 = .ok (.iload_n 3, 1) := by decide +kernel
theorem dX2_clashWith_88 : decode cX2_clashWith 88 = .ok (.iload 7, 2) := by decide +kernel
theorem dX2_clashWith_90 : decode cX2_clashWith 90 = .ok (.iload 6, 2) := by decide +kernel
theorem dX2_clashWith_92 : decode cX2_clashWith 92 = .ok (.invokestatic 154, 3) := by decide +kernel
theorem dX2_clashWith_95 : decode cX2_clashWith 95 = .ok (.iload 4, 2) := by decide +kernel
theorem dX2_clashWith_97 : decode cX2_clashWith 97 = .ok (.if_icmp .ge 7, 3) := by decide +kernel
theorem dX2_clashWith_100 : decode cX2_clashWith 100 = .ok (.iconst 5, 1) := by decide +kernel
theorem dX2_clashWith_101 : decode cX2_clashWith 101 = .ok (.goto 4, 3) := by decide +kernel
theorem dX2_clashWith_104 : decode cX2_clashWith 104 = .ok (.iconst 0, 1) := by decide +kernel
theorem dX2_clashWith_105 : decode cX2_clashWith 105 = .ok (.ireturn, 1) := by decide +kernel
theorem dX2_letSecondPass_0 : decode cX2_letSecondPass 0 = .ok (.aload_n 0, 1) := by decide +kernel
theorem dX2_letSecondPass_1 : decode cX2_letSecondPass 1 = .ok (.getfield 9, 3) := by decide +kernel
theorem dX2_letSecondPass_4 : decode cX2_letSecondPass 4 = .ok (.iload_n 1, 1) := by decide +kernel
theorem dX2_letSecondPass_5 : decode cX2_letSecondPass 5 = .ok (.if_icmp .ne 23, 3) := by decide +kernel
theorem dX2_letSecondPass_8 : decode cX2_letSecondPass 8 = .ok (.aload_n 0, 1) := by decide +kernel
theorem dX2_letSecondPass_9 : decode cX2_letSecondPass 9 = .ok (.iconst 1, 1) := by decide +kernel
theorem dX2_letSecondPass_10 : decode cX2_letSecondPass 10 = .ok (.aload_n 0, 1) := by decide +kernel
theorem dX2_letSecondPass_11 : decode cX2_letSecondPass 11 = .ok (.getfield 58, 3) := by decide +kernel
theorem dX2_letSecondPass_14 : decode cX2_letSecondPass 14 = .ok (.isub, 1) := by decide +kernel
theorem dX2_letSecondPass_15 : decode cX2_letSecondPass 15 = .ok (.putfield 58, 3) := by decide +kernel
theorem dX2_letSecondPass_18 : decode cX2_letSecondPass 18 = .ok (.aload_n 0, 1) := by decide +kernel
theorem dX2_letSecondPass_19 : decode cX2_letSecondPass 19 = .ok (.iconst (-1), 1) := by decide +kernel
theorem dX2_letSecondPass_20 : decode cX2_letSecondPass 20 = .ok (.putfield 9, 3) := by decide +kernel
theorem dX2_letSecondPass_23 : decode cX2_letSecondPass 23 = .ok (.aload_n 0, 1) := by decide +kernel
theorem dX2_letSecondPass_24 : decode cX2_letSecondPass 24 = .ok (.iconst 0, 1) := by decide +kernel
theorem dX2_letSecondPass_25 : decode cX2_letSecondPass 25 = .ok (.putfield 70, 3) := by decide +kernel
theorem dX2_letSecondPass_28 : decode cX2_letSecondPass 28 = .ok (.aload_n 0, 1) := by decide +kernel
theorem dX2_letSecondPass_29 : decode cX2_letSecondPass 29 = .ok (.getfield 61, 3) := by decide +kernel
theorem dX2_letSecondPass_32 : decode cX2_letSecondPass 32 = .ok (.istore_n 3, 1) := by decide +kernel
theorem dX2_letSecondPass_33 : decode cX2_letSecondPass 33 = .ok (.aload_n 0, 1) := by decide +kernel
theorem dX2_letSecondPass_34 : decode cX2_letSecondPass 34 = .ok (.iload_n 1, 1) := by decide +kernel
theorem dX2_letSecondPass_35 : decode cX2_letSecondPass 35 = .ok (.iload_n 2, 1) := by decide +kernel
theorem dX2_letSecondPass_36 : decode cX2_letSecondPass 36 = .ok (.invokevirtual 158, 3) := by decide +kernel
theorem dX2_letSecondPass_39 : decode cX2_letSecondPass 39 = .ok (.istore 4, 2) := by decide +kernel
theorem dX2_letSecondPass_41 : decode cX2_letSecondPass 41 = .ok (.iconst 0, 1) := by decide +kernel
theorem dX2_letSecondPass_42 : decode cX2_letSecondPass 42 = .ok (.istore 5, 2) := by decide +kernel
theorem dX2_letSecondPass_44 : decode cX2_letSecondPass 44 = .ok (.iload 5, 2) := by decide +kernel
theorem dX2_letSecondPass_46 : decode cX2_letSecondPass 46 = .ok (.aload_n 0, 1) := by decide +kernel
theorem dX2_letSecondPass_47 : decode cX2_letSecondPass 47 = .ok (.getfield 55, 3) := by decide +kernel
theorem dX2_letSecondPass_50 : decode cX2_letSecondPass 50 = .ok (.if_icmp .ge 34, 3) := by decide +kernel
theorem dX2_letSecondPass_53 : decode cX2_letSecondPass 53 = .ok (.aload_n 0, 1) := by decide +kernel
theorem dX2_letSecondPass_54 : decode cX2_letSecondPass 54 = .ok (.aload_n 0, 1) := by decide +kernel
theorem dX2_letSecondPass_55 : decode cX2_letSecondPass 55 = .ok (.getfield 58, 3) := by decide +kernel
theorem dX2_letSecondPass_58 : decode cX2_letSecondPass 58 = .ok (.iload 5, 2) := by decide +kernel
theorem dX2_letSecondPass_60 : decode cX2_letSecondPass 60 = .ok (.iload 4, 2) := by decide +kernel
theorem dX2_letSecondPass_62 : decode cX2_letSecondPass 62 = .ok (.iload_n 2, 1) := by decide +kernel
theorem dX2_letSecondPass_63 : decode cX2_letSecondPass 63 = .ok (.invokevirtual 139, 3) := by decide +kernel
theorem dX2_letSecondPass_66 : decode cX2_letSecondPass 66 = .ok (.ifCond .eq 12, 3) := by decide +kernel
theorem dX2_letSecondPass_69 : decode cX2_letSecondPass 69 = .ok (.aload_n 0, 1) := by decide +kernel
theorem dX2_letSecondPass_70 : decode cX2_letSecondPass 70 = .ok (.iload 5, 2) := by decide +kernel
theorem dX2_letSecondPass_72 : decode cX2_letSecondPass 72 = .ok (.iload 4, 2) := by decide +kernel
theorem dX2_letSecondPass_74 : decode cX2_letSecondPass 74 = .ok (.iload_n 1, 1) := by decide +kernel
theorem dX2_letSecondPass_75 : decode cX2_letSecondPass 75 = .ok (.invokevirtual 161, 3) := by decide +kernel
theorem dX2_letSecondPass_78 : decode cX2_letSecondPass 78 = .ok (.iinc 5 1, 3) := by decide +kernel
theorem dX2_letSecondPass_81 : decode cX2_letSecondPass 81 = .ok (.goto (-37), 3) := by decide +kernel
theorem dX2_letSecondPass_84 : decode cX2_letSecondPass 84 = .ok (.aload_n 0, 1) := by decide +kernel
theorem dX2_letSecondPass_85 : decode cX2_letSecondPass 85 = .ok (.getfield 61, 3) := by decide +kernel
theorem dX2_letSecondPass_88 : decode cX2_letSecondPass 88 = .ok (.iload_n 3, 1) := by decide +kernel
theorem dX2_letSecondPass_89 : decode cX2_letSecondPass 89 = .ok (.isub, 1) := by decide +kernel
theorem dX2_letSecondPass_90 : decode cX2_letSecondPass 90 = .ok (.ireturn, 1) := by decide +kernel
theorem dX2_showGreen_0 : decode cX2_showGreen 0 = .ok (.aload_n 0, 1) := by decide +kernel
theorem dX2_showGreen_1 : decode cX2_showGreen 1 = .ok (.iload_n 1, 1) := by decide +kernel
theorem dX2_showGreen_2 : decode cX2_showGreen 2 = .ok (.invokevirtual 165, 3) := by decide +kernel
theorem dX2_showGreen_5 : decode cX2_showGreen 5 = .ok (.ifCond .eq 22, 3) := by decide +kernel
theorem dX2_showGreen_8 : decode cX2_showGreen 8 = .ok (.iload_n 2, 1) := by decide +kernel
theorem dX2_showGreen_9 : decode cX2_showGreen 9 = .ok (.aload_n 0, 1) := by decide +kernel
theorem dX2_showGreen_10 : decode cX2_showGreen 10 = .ok (.aload_n 0, 1) := by decide +kernel
theorem dX2_showGreen_11 : decode cX2_showGreen 11 = .ok (.getfield 58, 3) := by decide +kernel
theorem dX2_showGreen_14 : decode cX2_showGreen 14 = .ok (.iload_n 1, 1) := by decide +kernel
theorem dX2_showGreen_15 : decode cX2_showGreen 15 = .ok (.invokevirtual 136, 3) := by decide +kernel
theorem dX2_showGreen_18 : decode cX2_showGreen 18 = .ok (.if_icmp .ne 9, 3) := by decide +kernel
theorem dX2_showGreen_21 : decode cX2_showGreen 21 = .ok (.aload_n 0, 1) := by decide +kernel
theorem dX2_showGreen_22 : decode cX2_showGreen 22 = .ok (.iload_n 1, 1) := by decide +kernel
theorem dX2_showGreen_23 : decode cX2_showGreen 23 = .ok (.iload_n 3, 1) := by decide +kernel
theorem dX2_showGreen_24 : decode cX2_showGreen 24 = .ok (.invokevirtual 168, 3) := by decide +kernel
theorem dX2_showGreen_27 : decode cX2_showGreen 27 = .ok (.aload_n 0, 1) := by decide +kernel
theorem dX2_showGreen_28 : decode cX2_showGreen 28 = .ok (.iload_n 1, 1) := by decide +kernel
theorem dX2_showGreen_29 : decode cX2_showGreen 29 = .ok (.invokevirtual 165, 3) := by decide +kernel
theorem dX2_showGreen_32 : decode cX2_showGreen 32 = .ok (.ifCond .eq 11, 3) := by decide +kernel
theorem dX2_showGreen_35 : decode cX2_showGreen 35 = .ok (.aload_n 0, 1) := by decide +kernel
theorem dX2_showGreen_36 : decode cX2_showGreen 36 = .ok (.iload_n 1, 1) := by decide +kernel
theorem dX2_showGreen_37 : decode cX2_showGreen 37 = .ok (.invokevirtual 172, 3) := by decide +kernel
theorem dX2_showGreen_40 : decode cX2_showGreen 40 = .ok (.ifCond .eq 13, 3) := by decide +kernel
theorem dX2_showGreen_43 : decode cX2_showGreen 43 = .ok (.aload_n 0, 1) := by decide +kernel
theorem dX2_showGreen_44 : decode cX2_showGreen 44 = .ok (.getfield 25, 3) := by decide +kernel
theorem dX2_showGreen_47 : decode cX2_showGreen 47 = .ok (.iload_n 1, 1) := by decide +kernel
theorem dX2_showGreen_48 : decode cX2_showGreen 48 = .ok (.dup2, 1) := by decide +kernel
theorem dX2_showGreen_49 : decode cX2_showGreen 49 = .ok (.iaload, 1) := by decide +kernel
theorem dX2_showGreen_50 : decode cX2_showGreen 50 = .ok (.iconst 1, 1) := by decide +kernel
theorem dX2_showGreen_51 : decode cX2_showGreen 51 = .ok (.iadd, 1) := by decide +kernel
theorem dX2_showGreen_52 : decode cX2_showGreen 52 = .ok (.iastore, 1) := by decide +kernel
theorem dX2_showGreen_53 : decode cX2_showGreen 53 = .ok (.return_, 1) := by decide +kernel
theorem dX2_decideRequest_0 : decode cX2_decideRequest 0 = .ok (.aload_n 0, 1) := by decide +kernel
theorem dX2_decideRequest_1 : decode cX2_decideRequest 1 = .ok (.iload_n 1, 1) := by decide +kernel
theorem dX2_decideRequest_2 : decode cX2_decideRequest 2 = .ok (.invokevirtual 126, 3) := by decide +kernel
theorem dX2_decideRequest_5 : decode cX2_decideRequest 5 = .ok (.ifCond .ne 18, 3) := by decide +kernel
theorem dX2_decideRequest_8 : decode cX2_decideRequest 8 = .ok (.aload_n 0, 1) := by decide +kernel
theorem dX2_decideRequest_9 : decode cX2_decideRequest 9 = .ok (.dup, 1) := by decide +kernel
theorem dX2_decideRequest_10 : decode cX2_decideRequest 10 = .ok (.getfield 70, 3) := by decide +kernel
theorem dX2_decideRequest_13 : decode cX2_decideRequest 13 = .ok (.iconst 1, 1) := by decide +kernel
theorem dX2_decideRequest_14 : decode cX2_decideRequest 14 = .ok (.iload_n 1, 1) := by decide +kernel
theorem dX2_decideRequest_15 : decode cX2_decideRequest 15 = .ok (.ishl, 1) := by decide +kernel
theorem dX2_decideRequest_16 : decode cX2_decideRequest 16 = .ok (.iconst (-1), 1) := by decide +kernel
theorem dX2_decideRequest_17 : decode cX2_decideRequest 17 = .ok (.ixor, 1) := by decide +kernel
theorem dX2_decideRequest_18 : decode cX2_decideRequest 18 = .ok (.iand, 1) := by decide +kernel
theorem dX2_decideRequest_19 : decode cX2_decideRequest 19 = .ok (.putfield 70, 3) := by decide +kernel
theorem dX2_decideRequest_22 : decode cX2_decideRequest 22 = .ok (.return_, 1) := by decide +kernel
theorem dX2_decideRequest_23 : decode cX2_decideRequest 23 = .ok (.aload_n 0, 1) := by decide +kernel
theorem dX2_decideRequest_24 : decode cX2_decideRequest 24 = .ok (.dup, 1) := by decide +kernel
theorem dX2_decideRequest_25 : decode cX2_decideRequest 25 = .ok (.getfield 70, 3) := by decide +kernel
theorem dX2_decideRequest_28 : decode cX2_decideRequest 28 = .ok (.iconst 1, 1) := by decide +kernel
theorem dX2_decideRequest_29 : decode cX2_decideRequest 29 = .ok (.iload_n 1, 1) := by decide +kernel
theorem dX2_decideRequest_30 : decode cX2_decideRequest 30 = .ok (.ishl, 1) := by decide +kernel
theorem dX2_decideRequest_31 : decode cX2_decideRequest 31 = .ok (.ior, 1) := by decide +kernel
theorem dX2_decideRequest_32 : decode cX2_decideRequest 32 = .ok (.putfield 70, 3) := by decide +kernel
theorem dX2_decideRequest_35 : decode cX2_decideRequest 35 = .ok (.aload_n 0, 1) := by decide +kernel
theorem dX2_decideRequest_36 : decode cX2_decideRequest 36 = .ok (.dup, 1) := by decide +kernel
theorem dX2_decideRequest_37 : decode cX2_decideRequest 37 = .ok (.getfield 61, 3) := by decide +kernel
theorem dX2_decideRequest_40 : decode cX2_decideRequest 40 = .ok (.iconst 1, 1) := by decide +kernel
theorem dX2_decideRequest_41 : decode cX2_decideRequest 41 = .ok (.iadd, 1) := by decide +kernel
theorem dX2_decideRequest_42 : decode cX2_decideRequest 42 = .ok (.putfield 61, 3) := by decide +kernel
theorem dX2_decideRequest_45 : decode cX2_decideRequest 45 = .ok (.aload_n 0, 1) := by decide +kernel
theorem dX2_decideRequest_46 : decode cX2_decideRequest 46 = .ok (.dup, 1) := by decide +kernel
theorem dX2_decideRequest_47 : decode cX2_decideRequest 47 = .ok (.getfield 64, 3) := by decide +kernel
theorem dX2_decideRequest_50 : decode cX2_decideRequest 50 = .ok (.iload_n 2, 1) := by decide +kernel
theorem dX2_decideRequest_51 : decode cX2_decideRequest 51 = .ok (.aload_n 0, 1) := by decide +kernel
theorem dX2_decideRequest_52 : decode cX2_decideRequest 52 = .ok (.getfield 28, 3) := by decide +kernel
theorem dX2_decideRequest_55 : decode cX2_decideRequest 55 = .ok (.iload_n 1, 1) := by decide +kernel
theorem dX2_decideRequest_56 : decode cX2_decideRequest 56 = .ok (.iaload, 1) := by decide +kernel
theorem dX2_decideRequest_57 : decode cX2_decideRequest 57 = .ok (.isub, 1) := by decide +kernel
theorem dX2_decideRequest_58 : decode cX2_decideRequest 58 = .ok (.iadd, 1) := by decide +kernel
theorem dX2_decideRequest_59 : decode cX2_decideRequest 59 = .ok (.putfield 64, 3) := by decide +kernel
theorem dX2_decideRequest_62 : decode cX2_decideRequest 62 = .ok (.aload_n 0, 1) := by decide +kernel
theorem dX2_decideRequest_63 : decode cX2_decideRequest 63 = .ok (.getfield 28, 3) := by decide +kernel
theorem dX2_decideRequest_66 : decode cX2_decideRequest 66 = .ok (.iload_n 1, 1) := by decide +kernel
theorem dX2_decideRequest_67 : decode cX2_decideRequest 67 = .ok (.iconst (-1), 1) := by decide +kernel
theorem dX2_decideRequest_68 : decode cX2_decideRequest 68 = .ok (.iastore, 1) := by decide +kernel
theorem dX2_decideRequest_69 : decode cX2_decideRequest 69 = .ok (.return_, 1) := by decide +kernel
theorem dX2_litSet_0 : decode cX2_litSet 0 = .ok (.aload_n 0, 1) := by decide +kernel
theorem dX2_litSet_1 : decode cX2_litSet 1 = .ok (.getfield 9, 3) := by decide +kernel
theorem dX2_litSet_4 : decode cX2_litSet 4 = .ok (.iload_n 1, 1) := by decide +kernel
theorem dX2_litSet_5 : decode cX2_litSet 5 = .ok (.if_icmp .ne 7, 3) := by decide +kernel
theorem dX2_litSet_8 : decode cX2_litSet 8 = .ok (.iconst 1, 1) := by decide +kernel
theorem dX2_litSet_9 : decode cX2_litSet 9 = .ok (.goto 4, 3) := by decide +kernel
theorem dX2_litSet_12 : decode cX2_litSet 12 = .ok (.iconst 0, 1) := by decide +kernel
theorem dX2_litSet_13 : decode cX2_litSet 13 = .ok (.istore_n 3, 1) := by decide +kernel
theorem dX2_litSet_14 : decode cX2_litSet 14 = .ok (.iload_n 3, 1) := by decide +kernel
theorem dX2_litSet_15 : decode cX2_litSet 15 = .ok (.ifCond .eq 12, 3) := by decide +kernel
theorem dX2_litSet_18 : decode cX2_litSet 18 = .ok (.iconst 1, 1) := by decide +kernel
theorem dX2_litSet_19 : decode cX2_litSet 19 = .ok (.aload_n 0, 1) := by decide +kernel
theorem dX2_litSet_20 : decode cX2_litSet 20 = .ok (.getfield 58, 3) := by decide +kernel
theorem dX2_litSet_23 : decode cX2_litSet 23 = .ok (.isub, 1) := by decide +kernel
theorem dX2_litSet_24 : decode cX2_litSet 24 = .ok (.goto 7, 3) := by decide +kernel
theorem dX2_litSet_27 : decode cX2_litSet 27 = .ok (.aload_n 0, 1) := by decide +kernel
theorem dX2_litSet_28 : decode cX2_litSet 28 = .ok (.getfield 58, 3) := by decide +kernel
theorem dX2_litSet_31 : decode cX2_litSet 31 = .ok (.istore 4, 2) := by decide +kernel
theorem dX2_litSet_33 : decode cX2_litSet 33 = .ok (.aload_n 0, 1) := by decide +kernel
theorem dX2_litSet_34 : decode cX2_litSet 34 = .ok (.iload_n 1, 1) := by decide +kernel
theorem dX2_litSet_35 : decode cX2_litSet 35 = .ok (.iload_n 2, 1) := by decide +kernel
theorem dX2_litSet_36 : decode cX2_litSet 36 = .ok (.invokevirtual 158, 3) := by decide +kernel
theorem dX2_litSet_39 : decode cX2_litSet 39 = .ok (.istore 5, 2) := by decide +kernel
theorem dX2_litSet_41 : decode cX2_litSet 41 = .ok (.iconst 0, 1) := by decide +kernel
theorem dX2_litSet_42 : decode cX2_litSet 42 = .ok (.istore 6, 2) := by decide +kernel
theorem dX2_litSet_44 : decode cX2_litSet 44 = .ok (.iconst 0, 1) := by decide +kernel
theorem dX2_litSet_45 : decode cX2_litSet 45 = .ok (.istore 7, 2) := by decide +kernel
theorem dX2_litSet_47 : decode cX2_litSet 47 = .ok (.iload 7, 2) := by decide +kernel
theorem dX2_litSet_49 : decode cX2_litSet 49 = .ok (.aload_n 0, 1) := by decide +kernel
theorem dX2_litSet_50 : decode cX2_litSet 50 = .ok (.getfield 55, 3) := by decide +kernel
theorem dX2_litSet_53 : decode cX2_litSet 53 = .ok (.if_icmp .ge 116, 3) := by decide +kernel
theorem dX2_litSet_56 : decode cX2_litSet 56 = .ok (.iload 5, 2) := by decide +kernel
theorem dX2_litSet_58 : decode cX2_litSet 58 = .ok (.aload_n 0, 1) := by decide +kernel
theorem dX2_litSet_59 : decode cX2_litSet 59 = .ok (.iload 4, 2) := by decide +kernel
theorem dX2_litSet_61 : decode cX2_litSet 61 = .ok (.iload 7, 2) := by decide +kernel
theorem dX2_litSet_63 : decode cX2_litSet 63 = .ok (.invokevirtual 136, 3) := by decide +kernel
theorem dX2_litSet_66 : decode cX2_litSet 66 = .ok (.if_icmp .ne 7, 3) := by decide +kernel
theorem dX2_litSet_69 : decode cX2_litSet 69 = .ok (.iconst 1, 1) := by decide +kernel
theorem dX2_litSet_70 : decode cX2_litSet 70 = .ok (.goto 4, 3) := by decide +kernel
theorem dX2_litSet_73 : decode cX2_litSet 73 = .ok (.iconst 0, 1) := by decide +kernel
theorem dX2_litSet_74 : decode cX2_litSet 74 = .ok (.istore 8, 2) := by decide +kernel
theorem dX2_litSet_76 : decode cX2_litSet 76 = .ok (.iload 8, 2) := by decide +kernel
theorem dX2_litSet_78 : decode cX2_litSet 78 = .ok (.ifCond .eq 12, 3) := by decide +kernel
theorem dX2_litSet_81 : decode cX2_litSet 81 = .ok (.aload_n 0, 1) := by decide +kernel
theorem dX2_litSet_82 : decode cX2_litSet 82 = .ok (.iload 7, 2) := by decide +kernel
theorem dX2_litSet_84 : decode cX2_litSet 84 = .ok (.invokevirtual 126, 3) := by decide +kernel
theorem dX2_litSet_87 : decode cX2_litSet 87 = .ok (.goto 21, 3) := by decide +kernel
theorem dX2_litSet_90 : decode cX2_litSet 90 = .ok (.aload_n 0, 1) := by decide +kernel
theorem dX2_litSet_91 : decode cX2_litSet 91 = .ok (.iload 7, 2) := by decide +kernel
theorem dX2_litSet_93 : decode cX2_litSet 93 = .ok (.invokevirtual 172, 3) := by decide +kernel
theorem dX2_litSet_96 : decode cX2_litSet 96 = .ok (.ifCond .eq 11, 3) := by decide +kernel
theorem dX2_litSet_99 : decode cX2_litSet 99 = .ok (.iload_n 3, 1) := by decide +kernel
theorem dX2_litSet_100 : decode cX2_litSet 100 = .ok (.ifCond .ne 7, 3) := by decide +kernel
theorem dX2_litSet_103 : decode cX2_litSet 103 = .ok (.iconst 1, 1) := by decide +kernel
theorem dX2_litSet_104 : decode cX2_litSet 104 = .ok (.goto 4, 3) := by decide +kernel
theorem dX2_litSet_107 : decode cX2_litSet 107 = .ok (.iconst 0, 1) := by decide +kernel
theorem dX2_litSet_108 : decode cX2_litSet 108 = .ok (.istore 9, 2) := by decide +kernel
theorem dX2_litSet_110 : decode cX2_litSet 110 = .ok (.aload_n 0, 1) := by decide +kernel
theorem dX2_litSet_111 : decode cX2_litSet 111 = .ok (.iload 7, 2) := by decide +kernel
theorem dX2_litSet_113 : decode cX2_litSet 113 = .ok (.invokevirtual 165, 3) := by decide +kernel
theorem dX2_litSet_116 : decode cX2_litSet 116 = .ok (.ifCond .eq 8, 3) := by decide +kernel
theorem dX2_litSet_119 : decode cX2_litSet 119 = .ok (.iload 9, 2) := by decide +kernel
theorem dX2_litSet_121 : decode cX2_litSet 121 = .ok (.ifCond .eq 7, 3) := by decide +kernel
theorem dX2_litSet_124 : decode cX2_litSet 124 = .ok (.iconst 1, 1) := by decide +kernel
theorem dX2_litSet_125 : decode cX2_litSet 125 = .ok (.goto 4, 3) := by decide +kernel
theorem dX2_litSet_128 : decode cX2_litSet 128 = .ok (.iconst 0, 1) := by decide +kernel
theorem dX2_litSet_129 : decode cX2_litSet 129 = .ok (.istore 10, 2) := by decide +kernel
theorem dX2_litSet_131 : decode cX2_litSet 131 = .ok (.iload 6, 2) := by decide +kernel
theorem dX2_litSet_133 : decode cX2_litSet 133 = .ok (.iload 10, 2) := by decide +kernel
theorem dX2_litSet_135 : decode cX2_litSet 135 = .ok (.ifCond .eq 24, 3) := by decide +kernel
theorem dX2_litSet_138 : decode cX2_litSet 138 = .ok (.aload_n 0, 1) := by decide +kernel
theorem dX2_litSet_139 : decode cX2_litSet 139 = .ok (.iload 4, 2) := by decide +kernel
theorem dX2_litSet_141 : decode cX2_litSet 141 = .ok (.iload 7, 2) := by decide +kernel
theorem dX2_litSet_143 : decode cX2_litSet 143 = .ok (.iload 5, 2) := by decide +kernel
theorem dX2_litSet_145 : decode cX2_litSet 145 = .ok (.iload_n 2, 1) := by decide +kernel
theorem dX2_litSet_146 : decode cX2_litSet 146 = .ok (.invokevirtual 139, 3) := by decide +kernel
theorem dX2_litSet_149 : decode cX2_litSet 149 = .ok (.ifCond .eq 10, 3) := by decide +kernel
theorem dX2_litSet_152 : decode cX2_litSet 152 = .ok (.iconst 1, 1) := by decide +kernel
theorem dX2_litSet_153 : decode cX2_litSet 153 = .ok (.iload 7, 2) := by decide +kernel
theorem dX2_litSet_155 : decode cX2_litSet 155 = .ok (.ishl, 1) := by decide +kernel
theorem dX2_litSet_156 : decode cX2_litSet 156 = .ok (.goto 4, 3) := by decide +kernel
theorem dX2_litSet_159 : decode cX2_litSet 159 = .ok (.iconst 0, 1) := by decide +kernel
theorem dX2_litSet_160 : decode cX2_litSet 160 = .ok (.ior, 1) := by decide +kernel
theorem dX2_litSet_161 : decode cX2_litSet 161 = .ok (.istore 6, 2) := by decide +kernel
theorem dX2_litSet_163 : decode cX2_litSet 163 = .ok (.iinc 7 1, 3) := by decide +kernel
theorem dX2_litSet_166 : decode cX2_litSet 166 = .ok (.goto (-119), 3) := by decide +kernel
theorem dX2_litSet_169 : decode cX2_litSet 169 = .ok (.iload 6, 2) := by decide +kernel
theorem dX2_litSet_171 : decode cX2_litSet 171 = .ok (.ireturn, 1) := by decide +kernel
theorem dX2_secondsToChange_0 : decode cX2_secondsToChange 0 = .ok (.aload_n 0, 1) := by decide +kernel
theorem dX2_secondsToChange_1 : decode cX2_secondsToChange 1 = .ok (.iload_n 1, 1) := by decide +kernel
theorem dX2_secondsToChange_2 : decode cX2_secondsToChange 2 = .ok (.iload_n 2, 1) := by decide +kernel
theorem dX2_secondsToChange_3 : decode cX2_secondsToChange 3 = .ok (.invokevirtual 158, 3) := by decide +kernel
theorem dX2_secondsToChange_6 : decode cX2_secondsToChange 6 = .ok (.istore_n 3, 1) := by decide +kernel
theorem dX2_secondsToChange_7 : decode cX2_secondsToChange 7 = .ok (.iconst 0, 1) := by decide +kernel
theorem dX2_secondsToChange_8 : decode cX2_secondsToChange 8 = .ok (.istore 4, 2) := by decide +kernel
theorem dX2_secondsToChange_10 : decode cX2_secondsToChange 10 = .ok (.iload 4, 2) := by decide +kernel
theorem dX2_secondsToChange_12 : decode cX2_secondsToChange 12 = .ok (.iload_n 2, 1) := by decide +kernel
theorem dX2_secondsToChange_13 : decode cX2_secondsToChange 13 = .ok (.if_icmp .ge 28, 3) := by decide +kernel
theorem dX2_secondsToChange_16 : decode cX2_secondsToChange 16 = .ok (.aload_n 0, 1) := by decide +kernel
theorem dX2_secondsToChange_17 : decode cX2_secondsToChange 17 = .ok (.iload_n 3, 1) := by decide +kernel
theorem dX2_secondsToChange_18 : decode cX2_secondsToChange 18 = .ok (.iload 4, 2) := by decide +kernel
theorem dX2_secondsToChange_20 : decode cX2_secondsToChange 20 = .ok (.iadd, 1) := by decide +kernel
theorem dX2_secondsToChange_21 : decode cX2_secondsToChange 21 = .ok (.iload_n 2, 1) := by decide +kernel
theorem dX2_secondsToChange_22 : decode cX2_secondsToChange 22 = .ok (.invokestatic 133, 3) := by decide +kernel
theorem dX2_secondsToChange_25 : decode cX2_secondsToChange 25 = .ok (.iload_n 2, 1) := by decide +kernel
theorem dX2_secondsToChange_26 : decode cX2_secondsToChange 26 = .ok (.invokevirtual 175, 3) := by decide +kernel
theorem dX2_secondsToChange_29 : decode cX2_secondsToChange 29 = .ok (.ifCond .eq 6, 3) := by decide +kernel
theorem dX2_secondsToChange_32 : decode cX2_secondsToChange 32 = .ok (.iload 4, 2) := by decide +kernel
theorem dX2_secondsToChange_34 : decode cX2_secondsToChange 34 = .ok (.ireturn, 1) := by decide +kernel
theorem dX2_secondsToChange_35 : decode cX2_secondsToChange 35 = .ok (.iinc 4 1, 3) := by decide +kernel
theorem dX2_secondsToChange_38 : decode cX2_secondsToChange 38 = .ok (.goto (-28), 3) := by decide +kernel
theorem dX2_secondsToChange_41 : decode cX2_secondsToChange 41 = .ok (.iconst (-1), 1) := by decide +kernel
theorem dX2_secondsToChange_42 : decode cX2_secondsToChange 42 = .ok (.ireturn, 1) := by decide +kernel
theorem dX2_isChangeClear_0 : decode cX2_isChangeClear 0 = .ok (.iconst 0, 1) := by decide +kernel
theorem dX2_isChangeClear_1 : decode cX2_isChangeClear 1 = .ok (.istore_n 3, 1) := by decide +kernel
theorem dX2_isChangeClear_2 : decode cX2_isChangeClear 2 = .ok (.iload_n 3, 1) := by decide +kernel
theorem dX2_isChangeClear_3 : decode cX2_isChangeClear 3 = .ok (.aload_n 0, 1) := by decide +kernel
theorem dX2_isChangeClear_4 : decode cX2_isChangeClear 4 = .ok (.getfield 55, 3) := by decide +kernel
theorem dX2_isChangeClear_7 : decode cX2_isChangeClear 7 = .ok (.if_icmp .ge 51, 3) := by decide +kernel
theorem dX2_isChangeClear_10 : decode cX2_isChangeClear 10 = .ok (.iconst 0, 1) := by decide +kernel
theorem dX2_isChangeClear_11 : decode cX2_isChangeClear 11 = .ok (.istore 4, 2) := by decide +kernel
theorem dX2_isChangeClear_13 : decode cX2_isChangeClear 13 = .ok (.iload 4, 2) := by decide +kernel
theorem dX2_isChangeClear_15 : decode cX2_isChangeClear 15 = .ok (.aload_n 0, 1) := by decide +kernel
theorem dX2_isChangeClear_16 : decode cX2_isChangeClear 16 = .ok (.getfield 55, 3) := by decide +kernel
theorem dX2_isChangeClear_19 : decode cX2_isChangeClear 19 = .ok (.if_icmp .ge 33, 3) := by decide +kernel
theorem dX2_isChangeClear_22 : decode cX2_isChangeClear 22 = .ok (.aload_n 0, 1) := by decide +kernel
theorem dX2_isChangeClear_23 : decode cX2_isChangeClear 23 = .ok (.iload_n 3, 1) := by decide +kernel
theorem dX2_isChangeClear_24 : decode cX2_isChangeClear 24 = .ok (.iload 4, 2) := by decide +kernel
theorem dX2_isChangeClear_26 : decode cX2_isChangeClear 26 = .ok (.invokevirtual 111, 3) := by decide +kernel
theorem dX2_isChangeClear_29 : decode cX2_isChangeClear 29 = .ok (.ifCond .eq 17, 3) := by decide +kernel
theorem dX2_isChangeClear_32 : decode cX2_isChangeClear 32 = .ok (.aload_n 0, 1) := by decide +kernel
theorem dX2_isChangeClear_33 : decode cX2_isChangeClear 33 = .ok (.iload_n 3, 1) := by decide +kernel
theorem dX2_isChangeClear_34 : decode cX2_isChangeClear 34 = .ok (.iload 4, 2) := by decide +kernel
theorem dX2_isChangeClear_36 : decode cX2_isChangeClear 36 = .ok (.iload_n 1, 1) := by decide +kernel
theorem dX2_isChangeClear_37 : decode cX2_isChangeClear 37 = .ok (.iload_n 2, 1) := by decide +kernel
theorem dX2_isChangeClear_38 : decode cX2_isChangeClear 38 = .ok (.invokevirtual 178, 3) := by decide +kernel
theorem dX2_isChangeClear_41 : decode cX2_isChangeClear 41 = .ok (.ifCond .eq 5, 3) := by decide +kernel
theorem dX2_isChangeClear_44 : decode cX2_isChangeClear 44 = .ok (.iconst 0, 1) := by decide +kernel
theorem dX2_isChangeClear_45 : decode cX2_isChangeClear 45 = .ok (.ireturn, 1) := by decide +kernel
theorem dX2_isChangeClear_46 : decode cX2_isChangeClear 46 = .ok (.iinc 4 1, 3) := by decide +kernel
theorem dX2_isChangeClear_49 : decode cX2_isChangeClear 49 = .ok (.goto (-36), 3) := by decide +kernel
theorem dX2_isChangeClear_52 : decode cX2_isChangeClear 52 = .ok (.iinc 3 1, 3) := by decide +kernel
theorem dX2_isChangeClear_55 : decode cX2_isChangeClear 55 = .ok (.goto (-53), 3) := by decide +kernel
theorem dX2_isChangeClear_58 : decode cX2_isChangeClear 58 = .ok (.iconst 1, 1) := by decide +kernel
theorem dX2_isChangeClear_59 : decode cX2_isChangeClear 59 = .ok (.ireturn, 1) := by decide +kernel
theorem dX2_breaksClearance_0 : decode cX2_breaksClearance 0 = .ok (.iconst 1, 1) := by decide +kernel
theorem dX2_breaksClearance_1 : decode cX2_breaksClearance 1 = .ok (.aload_n 0, 1) := by decide +kernel
theorem dX2_breaksClearance_2 : decode cX2_breaksClearance 2 = .ok (.getfield 58, 3) := by decide +kernel
theorem dX2_breaksClearance_5 : decode cX2_breaksClearance 5 = .ok (.isub, 1) := by decide +kernel
theorem dX2_breaksClearance_6 : decode cX2_breaksClearance 6 = .ok (.istore 5, 2) := by decide +kernel
theorem dX2_breaksClearance_8 : decode cX2_breaksClearance 8 = .ok (.aload_n 0, 1) := by decide +kernel
theorem dX2_breaksClearance_9 : decode cX2_breaksClearance 9 = .ok (.aload_n 0, 1) := by decide +kernel
theorem dX2_breaksClearance_10 : decode cX2_breaksClearance 10 = .ok (.getfield 58, 3) := by decide +kernel
theorem dX2_breaksClearance_13 : decode cX2_breaksClearance 13 = .ok (.iload_n 1, 1) := by decide +kernel
theorem dX2_breaksClearance_14 : decode cX2_breaksClearance 14 = .ok (.invokevirtual 123, 3) := by decide +kernel
theorem dX2_breaksClearance_17 : decode cX2_breaksClearance 17 = .ok (.ifCond .eq 13, 3) := by decide +kernel
theorem dX2_breaksClearance_20 : decode cX2_breaksClearance 20 = .ok (.aload_n 0, 1) := by decide +kernel
theorem dX2_breaksClearance_21 : decode cX2_breaksClearance 21 = .ok (.iload 5, 2) := by decide +kernel
theorem dX2_breaksClearance_23 : decode cX2_breaksClearance 23 = .ok (.iload_n 2, 1) := by decide +kernel
theorem dX2_breaksClearance_24 : decode cX2_breaksClearance 24 = .ok (.invokevirtual 123, 3) := by decide +kernel
theorem dX2_breaksClearance_27 : decode cX2_breaksClearance 27 = .ok (.ifCond .ne 5, 3) := by decide +kernel
theorem dX2_breaksClearance_30 : decode cX2_breaksClearance 30 = .ok (.iconst 0, 1) := by decide +kernel
theorem dX2_breaksClearance_31 : decode cX2_breaksClearance 31 = .ok (.ireturn, 1) := by decide +kernel
theorem dX2_breaksClearance_32 : decode cX2_breaksClearance 32 = .ok (.aload_n 0, 1) := by decide +kernel
theorem dX2_breaksClearance_33 : decode cX2_breaksClearance 33 = .ok (.iload_n 1, 1) := by decide +kernel
theorem dX2_breaksClearance_34 : decode cX2_breaksClearance 34 = .ok (.iload_n 3, 1) := by decide +kernel
theorem dX2_breaksClearance_35 : decode cX2_breaksClearance 35 = .ok (.iload 4, 2) := by decide +kernel
theorem dX2_breaksClearance_37 : decode cX2_breaksClearance 37 = .ok (.invokevirtual 181, 3) := by decide +kernel
theorem dX2_breaksClearance_40 : decode cX2_breaksClearance 40 = .ok (.aload_n 0, 1) := by decide +kernel
theorem dX2_breaksClearance_41 : decode cX2_breaksClearance 41 = .ok (.iload 5, 2) := by decide +kernel
theorem dX2_breaksClearance_43 : decode cX2_breaksClearance 43 = .ok (.iload_n 2, 1) := by decide +kernel
theorem dX2_breaksClearance_44 : decode cX2_breaksClearance 44 = .ok (.iload_n 3, 1) := by decide +kernel
theorem dX2_breaksClearance_45 : decode cX2_breaksClearance 45 = .ok (.iload 4, 2) := by decide +kernel
theorem dX2_breaksClearance_47 : decode cX2_breaksClearance 47 = .ok (.invokevirtual 184, 3) := by decide +kernel
theorem dX2_breaksClearance_50 : decode cX2_breaksClearance 50 = .ok (.iadd, 1) := by decide +kernel
theorem dX2_breaksClearance_51 : decode cX2_breaksClearance 51 = .ok (.istore 6, 2) := by decide +kernel
theorem dX2_breaksClearance_53 : decode cX2_breaksClearance 53 = .ok (.iload 6, 2) := by decide +kernel
theorem dX2_breaksClearance_55 : decode cX2_breaksClearance 55 = .ok (.aload_n 0, 1) := by decide +kernel
theorem dX2_breaksClearance_56 : decode cX2_breaksClearance 56 = .ok (.iload_n 1, 1) := by decide +kernel
theorem dX2_breaksClearance_57 : decode cX2_breaksClearance 57 = .ok (.iload_n 2, 1) := by decide +kernel
theorem dX2_breaksClearance_58 : decode cX2_breaksClearance 58 = .ok (.invokevirtual 83, 3) := by decide +kernel
theorem dX2_breaksClearance_61 : decode cX2_breaksClearance 61 = .ok (.if_icmp .ge 7, 3) := by decide +kernel
theorem dX2_breaksClearance_64 : decode cX2_breaksClearance 64 = .ok (.iconst 1, 1) := by decide +kernel
theorem dX2_breaksClearance_65 : decode cX2_breaksClearance 65 = .ok (.goto 4, 3) := by decide +kernel
theorem dX2_breaksClearance_68 : decode cX2_breaksClearance 68 = .ok (.iconst 0, 1) := by decide +kernel
theorem dX2_breaksClearance_69 : decode cX2_breaksClearance 69 = .ok (.ireturn, 1) := by decide +kernel
theorem dX2_secondsOff_0 : decode cX2_secondsOff 0 = .ok (.iload_n 2, 1) := by decide +kernel
theorem dX2_secondsOff_1 : decode cX2_secondsOff 1 = .ok (.iconst 1, 1) := by decide +kernel
theorem dX2_secondsOff_2 : decode cX2_secondsOff 2 = .ok (.isub, 1) := by decide +kernel
theorem dX2_secondsOff_3 : decode cX2_secondsOff 3 = .ok (.aload_n 0, 1) := by decide +kernel
theorem dX2_secondsOff_4 : decode cX2_secondsOff 4 = .ok (.aload_n 0, 1) := by decide +kernel
theorem dX2_secondsOff_5 : decode cX2_secondsOff 5 = .ok (.getfield 58, 3) := by decide +kernel
theorem dX2_secondsOff_8 : decode cX2_secondsOff 8 = .ok (.iload_n 1, 1) := by decide +kernel
theorem dX2_secondsOff_9 : decode cX2_secondsOff 9 = .ok (.invokevirtual 136, 3) := by decide +kernel
theorem dX2_secondsOff_12 : decode cX2_secondsOff 12 = .ok (.isub, 1) := by decide +kernel
theorem dX2_secondsOff_13 : decode cX2_secondsOff 13 = .ok (.iload_n 3, 1) := by decide +kernel
theorem dX2_secondsOff_14 : decode cX2_secondsOff 14 = .ok (.invokestatic 133, 3) := by decide +kernel
theorem dX2_secondsOff_17 : decode cX2_secondsOff 17 = .ok (.istore 4, 2) := by decide +kernel
theorem dX2_secondsOff_19 : decode cX2_secondsOff 19 = .ok (.iconst 0, 1) := by decide +kernel
theorem dX2_secondsOff_20 : decode cX2_secondsOff 20 = .ok (.iload 4, 2) := by decide +kernel
theorem dX2_secondsOff_22 : decode cX2_secondsOff 22 = .ok (.aload_n 0, 1) := by decide +kernel
theorem dX2_secondsOff_23 : decode cX2_secondsOff 23 = .ok (.aload_n 0, 1) := by decide +kernel
theorem dX2_secondsOff_24 : decode cX2_secondsOff 24 = .ok (.getfield 58, 3) := by decide +kernel
theorem dX2_secondsOff_27 : decode cX2_secondsOff 27 = .ok (.iload_n 1, 1) := by decide +kernel
theorem dX2_secondsOff_28 : decode cX2_secondsOff 28 = .ok (.invokevirtual 87, 3) := by decide +kernel
theorem dX2_secondsOff_31 : decode cX2_secondsOff 31 = .ok (.isub, 1) := by decide +kernel
theorem dX2_secondsOff_32 : decode cX2_secondsOff 32 = .ok (.iconst 1, 1) := by decide +kernel
theorem dX2_secondsOff_33 : decode cX2_secondsOff 33 = .ok (.iadd, 1) := by decide +kernel
theorem dX2_secondsOff_34 : decode cX2_secondsOff 34 = .ok (.invokestatic 187, 3) := by decide +kernel
theorem dX2_secondsOff_37 : decode cX2_secondsOff 37 = .ok (.ireturn, 1) := by decide +kernel
theorem dX2_secondsUntilOn_0 : decode cX2_secondsUntilOn 0 = .ok (.iload_n 3, 1) := by decide +kernel
theorem dX2_secondsUntilOn_1 : decode cX2_secondsUntilOn 1 = .ok (.aload_n 0, 1) := by decide +kernel
theorem dX2_secondsUntilOn_2 : decode cX2_secondsUntilOn 2 = .ok (.iload_n 1, 1) := by decide +kernel
theorem dX2_secondsUntilOn_3 : decode cX2_secondsUntilOn 3 = .ok (.iload_n 2, 1) := by decide +kernel
theorem dX2_secondsUntilOn_4 : decode cX2_secondsUntilOn 4 = .ok (.invokevirtual 136, 3) := by decide +kernel
theorem dX2_secondsUntilOn_7 : decode cX2_secondsUntilOn 7 = .ok (.isub, 1) := by decide +kernel
theorem dX2_secondsUntilOn_8 : decode cX2_secondsUntilOn 8 = .ok (.iload 4, 2) := by decide +kernel
theorem dX2_secondsUntilOn_10 : decode cX2_secondsUntilOn 10 = .ok (.invokestatic 133, 3) := by decide +kernel
theorem dX2_secondsUntilOn_13 : decode cX2_secondsUntilOn 13 = .ok (.istore 5, 2) := by decide +kernel
theorem dX2_secondsUntilOn_15 : decode cX2_secondsUntilOn 15 = .ok (.iload 5, 2) := by decide +kernel
theorem dX2_secondsUntilOn_17 : decode cX2_secondsUntilOn 17 = .ok (.aload_n 0, 1) := by decide +kernel
theorem dX2_secondsUntilOn_18 : decode cX2_secondsUntilOn 18 = .ok (.iload_n 1, 1) := by decide +kernel
theorem dX2_secondsUntilOn_19 : decode cX2_secondsUntilOn 19 = .ok (.iload_n 2, 1) := by decide +kernel
theorem dX2_secondsUntilOn_20 : decode cX2_secondsUntilOn 20 = .ok (.invokevirtual 87, 3) := by decide +kernel
theorem dX2_secondsUntilOn_23 : decode cX2_secondsUntilOn 23 = .ok (.if_icmp .ge 7, 3) := by decide +kernel
theorem dX2_secondsUntilOn_26 : decode cX2_secondsUntilOn 26 = .ok (.iconst 0, 1) := by decide +kernel
theorem dX2_secondsUntilOn_27 : decode cX2_secondsUntilOn 27 = .ok (.goto 8, 3) := by decide +kernel
theorem dX2_secondsUntilOn_30 : decode cX2_secondsUntilOn 30 = .ok (.iload 4, 2) := by decide +kernel
theorem dX2_secondsUntilOn_32 : decode cX2_secondsUntilOn 32 = .ok (.iload 5, 2) := by decide +kernel
theorem dX2_secondsUntilOn_34 : decode cX2_secondsUntilOn 34 = .ok (.isub, 1) := by decide +kernel
theorem dX2_secondsUntilOn_35 : decode cX2_secondsUntilOn 35 = .ok (.ireturn, 1) := by decide +kernel
theorem dX3_init_0 : decode cX3_init 0 = .ok (.aload_n 0, 1) := by decide +kernel
theorem dX3_init_1 : decode cX3_init 1 = .ok (.invokespecial 3, 3) := by decide +kernel
theorem dX3_init_4 : decode cX3_init 4 = .ok (.aload_n 0, 1) := by decide +kernel
theorem dX3_init_5 : decode cX3_init 5 = .ok (.bipush 6, 2) := by decide +kernel
theorem dX3_init_7 : decode cX3_init 7 = .ok (.newarray .int, 2) := by decide +kernel
theorem dX3_init_9 : decode cX3_init 9 = .ok (.putfield 9, 3) := by decide +kernel
theorem dX3_init_12 : decode cX3_init 12 = .ok (.aload_n 0, 1) := by decide +kernel
theorem dX3_init_13 : decode cX3_init 13 = .ok (.bipush 6, 2) := by decide +kernel
theorem dX3_init_15 : decode cX3_init 15 = .ok (.newarray .int, 2) := by decide +kernel
theorem dX3_init_17 : decode cX3_init 17 = .ok (.putfield 15, 3) := by decide +kernel
theorem dX3_init_20 : decode cX3_init 20 = .ok (.aload_n 0, 1) := by decide +kernel
theorem dX3_init_21 : decode cX3_init 21 = .ok (.bipush 6, 2) := by decide +kernel
theorem dX3_init_23 : decode cX3_init 23 = .ok (.newarray .int, 2) := by decide +kernel
theorem dX3_init_25 : decode cX3_init 25 = .ok (.putfield 18, 3) := by decide +kernel
theorem dX3_init_28 : decode cX3_init 28 = .ok (.aload_n 0, 1) := by decide +kernel
theorem dX3_init_29 : decode cX3_init 29 = .ok (.bipush 6, 2) := by decide +kernel
theorem dX3_init_31 : decode cX3_init 31 = .ok (.newarray .int, 2) := by decide +kernel
theorem dX3_init_33 : decode cX3_init 33 = .ok (.putfield 21, 3) := by decide +kernel
theorem dX3_init_36 : decode cX3_init 36 = .ok (.return_, 1) := by decide +kernel
theorem dX3_divide_0 : decode cX3_divide 0 = .ok (.iconst 1, 1) := by decide +kernel
theorem dX3_divide_1 : decode cX3_divide 1 = .ok (.istore_n 2, 1) := by decide +kernel
theorem dX3_divide_2 : decode cX3_divide 2 = .ok (.iload_n 2, 1) := by decide +kernel
theorem dX3_divide_3 : decode cX3_divide 3 = .ok (.aload_n 1, 1) := by decide +kernel
theorem dX3_divide_4 : decode cX3_divide 4 = .ok (.getfield 24, 3) := by decide +kernel
theorem dX3_divide_7 : decode cX3_divide 7 = .ok (.if_icmp .gt 29, 3) := by decide +kernel
theorem dX3_divide_10 : decode cX3_divide 10 = .ok (.aload_n 1, 1) := by decide +kernel
theorem dX3_divide_11 : decode cX3_divide 11 = .ok (.aload_n 0, 1) := by decide +kernel
theorem dX3_divide_12 : decode cX3_divide 12 = .ok (.getfield 9, 3) := by decide +kernel
theorem dX3_divide_15 : decode cX3_divide 15 = .ok (.iconst 0, 1) := by decide +kernel
theorem dX3_divide_16 : decode cX3_divide 16 = .ok (.iconst 0, 1) := by decide +kernel
theorem dX3_divide_17 : decode cX3_divide 17 = .ok (.iload_n 2, 1) := by decide +kernel
theorem dX3_divide_18 : decode cX3_divide 18 = .ok (.invokestatic 30, 3) := by decide +kernel
theorem dX3_divide_21 : decode cX3_divide 21 = .ok (.ifCond .eq 9, 3) := by decide +kernel
theorem dX3_divide_24 : decode cX3_divide 24 = .ok (.aload_n 0, 1) := by decide +kernel
theorem dX3_divide_25 : decode cX3_divide 25 = .ok (.iload_n 2, 1) := by decide +kernel
theorem dX3_divide_26 : decode cX3_divide 26 = .ok (.putfield 34, 3) := by decide +kernel
theorem dX3_divide_29 : decode cX3_divide 29 = .ok (.return_, 1) := by decide +kernel
theorem dX3_divide_30 : decode cX3_divide 30 = .ok (.iinc 2 1, 3) := by decide +kernel
theorem dX3_divide_33 : decode cX3_divide 33 = .ok (.goto (-31), 3) := by decide +kernel
theorem dX3_divide_36 : decode cX3_divide 36 = .ok (.aload_n 0, 1) := by decide +kernel
theorem dX3_divide_37 : decode cX3_divide 37 = .ok (.iconst 0, 1) := by decide +kernel
theorem dX3_divide_38 : decode cX3_divide 38 = .ok (.putfield 34, 3) := by decide +kernel
theorem dX3_divide_41 : decode cX3_divide 41 = .ok (.return_, 1) := by decide +kernel
theorem dX3_isPlaced_0 : decode cX3_isPlaced 0 = .ok (.iload_n 2, 1) := by decide +kernel
theorem dX3_isPlaced_1 : decode cX3_isPlaced 1 = .ok (.aload_n 0, 1) := by decide +kernel
theorem dX3_isPlaced_2 : decode cX3_isPlaced 2 = .ok (.getfield 24, 3) := by decide +kernel
theorem dX3_isPlaced_5 : decode cX3_isPlaced 5 = .ok (.if_icmp .ge 9, 3) := by decide +kernel
theorem dX3_isPlaced_8 : decode cX3_isPlaced 8 = .ok (.iload_n 2, 1) := by decide +kernel
theorem dX3_isPlaced_9 : decode cX3_isPlaced 9 = .ok (.bipush 6, 2) := by decide +kernel
theorem dX3_isPlaced_11 : decode cX3_isPlaced 11 = .ok (.if_icmp .lt 5, 3) := by decide +kernel
theorem dX3_isPlaced_14 : decode cX3_isPlaced 14 = .ok (.iconst 1, 1) := by decide +kernel
theorem dX3_isPlaced_15 : decode cX3_isPlaced 15 = .ok (.ireturn, 1) := by decide +kernel
theorem dX3_isPlaced_16 : decode cX3_isPlaced 16 = .ok (.iconst 0, 1) := by decide +kernel
theorem dX3_isPlaced_17 : decode cX3_isPlaced 17 = .ok (.istore 5, 2) := by decide +kernel
theorem dX3_isPlaced_19 : decode cX3_isPlaced 19 = .ok (.iload 5, 2) := by decide +kernel
theorem dX3_isPlaced_21 : decode cX3_isPlaced 21 = .ok (.iload_n 3, 1) := by decide +kernel
theorem dX3_isPlaced_22 : decode cX3_isPlaced 22 = .ok (.if_icmp .gt 55, 3) := by decide +kernel
theorem dX3_isPlaced_25 : decode cX3_isPlaced 25 = .ok (.iload 5, 2) := by decide +kernel
theorem dX3_isPlaced_27 : decode cX3_isPlaced 27 = .ok (.iload 4, 2) := by decide +kernel
theorem dX3_isPlaced_29 : decode cX3_isPlaced 29 = .ok (.if_icmp .ge 48, 3) := by decide +kernel
theorem dX3_isPlaced_32 : decode cX3_isPlaced 32 = .ok (.aload_n 0, 1) := by decide +kernel
theorem dX3_isPlaced_33 : decode cX3_isPlaced 33 = .ok (.aload_n 1, 1) := by decide +kernel
theorem dX3_isPlaced_34 : decode cX3_isPlaced 34 = .ok (.iload_n 2, 1) := by decide +kernel
theorem dX3_isPlaced_35 : decode cX3_isPlaced 35 = .ok (.iload 5, 2) := by decide +kernel
theorem dX3_isPlaced_37 : decode cX3_isPlaced 37 = .ok (.invokestatic 37, 3) := by decide +kernel
theorem dX3_isPlaced_40 : decode cX3_isPlaced 40 = .ok (.ifCond .eq 31, 3) := by decide +kernel
theorem dX3_isPlaced_43 : decode cX3_isPlaced 43 = .ok (.aload_n 1, 1) := by decide +kernel
theorem dX3_isPlaced_44 : decode cX3_isPlaced 44 = .ok (.iload_n 2, 1) := by decide +kernel
theorem dX3_isPlaced_45 : decode cX3_isPlaced 45 = .ok (.iload 5, 2) := by decide +kernel
theorem dX3_isPlaced_47 : decode cX3_isPlaced 47 = .ok (.iastore, 1) := by decide +kernel
theorem dX3_isPlaced_48 : decode cX3_isPlaced 48 = .ok (.aload_n 0, 1) := by decide +kernel
theorem dX3_isPlaced_49 : decode cX3_isPlaced 49 = .ok (.aload_n 1, 1) := by decide +kernel
theorem dX3_isPlaced_50 : decode cX3_isPlaced 50 = .ok (.iload_n 2, 1) := by decide +kernel
theorem dX3_isPlaced_51 : decode cX3_isPlaced 51 = .ok (.iconst 1, 1) := by decide +kernel
theorem dX3_isPlaced_52 : decode cX3_isPlaced 52 = .ok (.iadd, 1) := by decide +kernel
theorem dX3_isPlaced_53 : decode cX3_isPlaced 53 = .ok (.iload_n 3, 1) := by decide +kernel
theorem dX3_isPlaced_54 : decode cX3_isPlaced 54 = .ok (.iload 5, 2) := by decide +kernel
theorem dX3_isPlaced_56 : decode cX3_isPlaced 56 = .ok (.iconst 1, 1) := by decide +kernel
theorem dX3_isPlaced_57 : decode cX3_isPlaced 57 = .ok (.iadd, 1) := by decide +kernel
theorem dX3_isPlaced_58 : decode cX3_isPlaced 58 = .ok (.invokestatic 41, 3) := by decide +kernel
theorem dX3_isPlaced_61 : decode cX3_isPlaced 61 = .ok (.iload 4, 2) := by decide +kernel
theorem dX3_isPlaced_63 : decode cX3_isPlaced 63 = .ok (.invokestatic 30, 3) := by decide +kernel
theorem dX3_isPlaced_66 : decode cX3_isPlaced 66 = .ok (.ifCond .eq 5, 3) := by decide +kernel
theorem dX3_isPlaced_69 : decode cX3_isPlaced 69 = .ok (.iconst 1, 1) := by decide +kernel
theorem dX3_isPlaced_70 : decode cX3_isPlaced 70 = .ok (.ireturn, 1) := by decide +kernel
theorem dX3_isPlaced_71 : decode cX3_isPlaced 71 = .ok (.iinc 5 1, 3) := by decide +kernel
theorem dX3_isPlaced_74 : decode cX3_isPlaced 74 = .ok (.goto (-55), 3) := by decide +kernel
theorem dX3_isPlaced_77 : decode cX3_isPlaced 77 = .ok (.iconst 0, 1) := by decide +kernel
theorem dX3_isPlaced_78 : decode cX3_isPlaced 78 = .ok (.ireturn, 1) := by decide +kernel
theorem dX3_isPeaceful_0 : decode cX3_isPeaceful 0 = .ok (.iconst 0, 1) := by decide +kernel
theorem dX3_isPeaceful_1 : decode cX3_isPeaceful 1 = .ok (.istore 4, 2) := by decide +kernel
theorem dX3_isPeaceful_3 : decode cX3_isPeaceful 3 = .ok (.iload 4, 2) := by decide +kernel
theorem dX3_isPeaceful_5 : decode cX3_isPeaceful 5 = .ok (.iload_n 2, 1) := by decide +kernel
theorem dX3_isPeaceful_6 : decode cX3_isPeaceful 6 = .ok (.if_icmp .ge 29, 3) := by decide +kernel
theorem dX3_isPeaceful_9 : decode cX3_isPeaceful 9 = .ok (.aload_n 1, 1) := by decide +kernel
theorem dX3_isPeaceful_10 : decode cX3_isPeaceful 10 = .ok (.iload 4, 2) := by decide +kernel
theorem dX3_isPeaceful_12 : decode cX3_isPeaceful 12 = .ok (.iaload, 1) := by decide +kernel
theorem dX3_isPeaceful_13 : decode cX3_isPeaceful 13 = .ok (.iload_n 3, 1) := by decide +kernel
theorem dX3_isPeaceful_14 : decode cX3_isPeaceful 14 = .ok (.if_icmp .ne 15, 3) := by decide +kernel
theorem dX3_isPeaceful_17 : decode cX3_isPeaceful 17 = .ok (.aload_n 0, 1) := by decide +kernel
theorem dX3_isPeaceful_18 : decode cX3_isPeaceful 18 = .ok (.iload_n 2, 1) := by decide +kernel
theorem dX3_isPeaceful_19 : decode cX3_isPeaceful 19 = .ok (.iload 4, 2) := by decide +kernel
theorem dX3_isPeaceful_21 : decode cX3_isPeaceful 21 = .ok (.invokevirtual 47, 3) := by decide +kernel
theorem dX3_isPeaceful_24 : decode cX3_isPeaceful 24 = .ok (.ifCond .eq 5, 3) := by decide +kernel
theorem dX3_isPeaceful_27 : decode cX3_isPeaceful 27 = .ok (.iconst 0, 1) := by decide +kernel
theorem dX3_isPeaceful_28 : decode cX3_isPeaceful 28 = .ok (.ireturn, 1) := by decide +kernel
theorem dX3_isPeaceful_29 : decode cX3_isPeaceful 29 = .ok (.iinc 4 1, 3) := by decide +kernel
theorem dX3_isPeaceful_32 : decode cX3_isPeaceful 32 = .ok (.goto (-29), 3) := by decide +kernel
theorem dX3_isPeaceful_35 : decode cX3_isPeaceful 35 = .ok (.iconst 1, 1) := by decide +kernel
theorem dX3_isPeaceful_36 : decode cX3_isPeaceful 36 = .ok (.ireturn, 1) := by decide +kernel
theorem dX3_layOut_0 : decode cX3_layOut 0 = .ok (.aload_n 0, 1) := by decide +kernel
theorem dX3_layOut_1 : decode cX3_layOut 1 = .ok (.aload_n 1, 1) := by decide +kernel
theorem dX3_layOut_2 : decode cX3_layOut 2 = .ok (.invokevirtual 51, 3) := by decide +kernel
theorem dX3_layOut_5 : decode cX3_layOut 5 = .ok (.aload_n 0, 1) := by decide +kernel
theorem dX3_layOut_6 : decode cX3_layOut 6 = .ok (.aload_n 1, 1) := by decide +kernel
theorem dX3_layOut_7 : decode cX3_layOut 7 = .ok (.invokevirtual 55, 3) := by decide +kernel
theorem dX3_layOut_10 : decode cX3_layOut 10 = .ok (.iload_n 2, 1) := by decide +kernel
theorem dX3_layOut_11 : decode cX3_layOut 11 = .ok (.istore_n 3, 1) := by decide +kernel
theorem dX3_layOut_12 : decode cX3_layOut 12 = .ok (.iconst 0, 1) := by decide +kernel
theorem dX3_layOut_13 : decode cX3_layOut 13 = .ok (.istore 4, 2) := by decide +kernel
theorem dX3_layOut_15 : decode cX3_layOut 15 = .ok (.iload 4, 2) := by decide +kernel
theorem dX3_layOut_17 : decode cX3_layOut 17 = .ok (.aload_n 0, 1) := by decide +kernel
theorem dX3_layOut_18 : decode cX3_layOut 18 = .ok (.getfield 34, 3) := by decide +kernel
theorem dX3_layOut_21 : decode cX3_layOut 21 = .ok (.if_icmp .ge 27, 3) := by decide +kernel
theorem dX3_layOut_24 : decode cX3_layOut 24 = .ok (.iload_n 3, 1) := by decide +kernel
theorem dX3_layOut_25 : decode cX3_layOut 25 = .ok (.aload_n 0, 1) := by decide +kernel
theorem dX3_layOut_26 : decode cX3_layOut 26 = .ok (.getfield 18, 3) := by decide +kernel
theorem dX3_layOut_29 : decode cX3_layOut 29 = .ok (.iload 4, 2) := by decide +kernel
theorem dX3_layOut_31 : decode cX3_layOut 31 = .ok (.iaload, 1) := by decide +kernel
theorem dX3_layOut_32 : decode cX3_layOut 32 = .ok (.aload_n 0, 1) := by decide +kernel
theorem dX3_layOut_33 : decode cX3_layOut 33 = .ok (.getfield 21, 3) := by decide +kernel
theorem dX3_layOut_36 : decode cX3_layOut 36 = .ok (.iload 4, 2) := by decide +kernel
theorem dX3_layOut_38 : decode cX3_layOut 38 = .ok (.iaload, 1) := by decide +kernel
theorem dX3_layOut_39 : decode cX3_layOut 39 = .ok (.iadd, 1) := by decide +kernel
theorem dX3_layOut_40 : decode cX3_layOut 40 = .ok (.isub, 1) := by decide +kernel
theorem dX3_layOut_41 : decode cX3_layOut 41 = .ok (.istore_n 3, 1) := by decide +kernel
theorem dX3_layOut_42 : decode cX3_layOut 42 = .ok (.iinc 4 1, 3) := by decide +kernel
theorem dX3_layOut_45 : decode cX3_layOut 45 = .ok (.goto (-30), 3) := by decide +kernel
theorem dX3_layOut_48 : decode cX3_layOut 48 = .ok (.iload_n 3, 1) := by decide +kernel
theorem dX3_layOut_49 : decode cX3_layOut 49 = .ok (.ifCond .ge 6, 3) := by decide +kernel
theorem dX3_layOut_52 : decode cX3_layOut 52 = .ok (.bipush 6, 2) := by decide +kernel
theorem dX3_layOut_54 : decode cX3_layOut 54 = .ok (.ireturn, 1) := by decide +kernel
theorem dX3_layOut_55 : decode cX3_layOut 55 = .ok (.aload_n 0, 1) := by decide +kernel
theorem dX3_layOut_56 : decode cX3_layOut 56 = .ok (.iload_n 3, 1) := by decide +kernel
theorem dX3_layOut_57 : decode cX3_layOut 57 = .ok (.iload_n 2, 1) := by decide +kernel
theorem dX3_layOut_58 : decode cX3_layOut 58 = .ok (.iconst 5, 1) := by decide +kernel
theorem dX3_layOut_59 : decode cX3_layOut 59 = .ok (.isub, 1) := by decide +kernel
theorem dX3_layOut_60 : decode cX3_layOut 60 = .ok (.invokevirtual 58, 3) := by decide +kernel
theorem dX3_layOut_63 : decode cX3_layOut 63 = .ok (.aload_n 0, 1) := by decide +kernel
theorem dX3_layOut_64 : decode cX3_layOut 64 = .ok (.invokevirtual 62, 3) := by decide +kernel
theorem dX3_layOut_67 : decode cX3_layOut 67 = .ok (.aload_n 0, 1) := by decide +kernel
theorem dX3_layOut_68 : decode cX3_layOut 68 = .ok (.aload_n 1, 1) := by decide +kernel
theorem dX3_layOut_69 : decode cX3_layOut 69 = .ok (.iload_n 2, 1) := by decide +kernel
theorem dX3_layOut_70 : decode cX3_layOut 70 = .ok (.invokevirtual 65, 3) := by decide +kernel
theorem dX3_layOut_73 : decode cX3_layOut 73 = .ok (.ifCond .eq 7, 3) := by decide +kernel
theorem dX3_layOut_76 : decode cX3_layOut 76 = .ok (.iconst 0, 1) := by decide +kernel
theorem dX3_layOut_77 : decode cX3_layOut 77 = .ok (.goto 5, 3) := by decide +kernel
theorem dX3_layOut_80 : decode cX3_layOut 80 = .ok (.bipush 7, 2) := by decide +kernel
theorem dX3_layOut_82 : decode cX3_layOut 82 = .ok (.ireturn, 1) := by decide +kernel
theorem dX3_measure_0 : decode cX3_measure 0 = .ok (.aload_n 0, 1) := by decide +kernel
theorem dX3_measure_1 : decode cX3_measure 1 = .ok (.getfield 18, 3) := by decide +kernel
theorem dX3_measure_4 : decode cX3_measure 4 = .ok (.iconst 0, 1) := by decide +kernel
theorem dX3_measure_5 : decode cX3_measure 5 = .ok (.invokestatic 69, 3) := by decide +kernel
theorem dX3_measure_8 : decode cX3_measure 8 = .ok (.aload_n 0, 1) := by decide +kernel
theorem dX3_measure_9 : decode cX3_measure 9 = .ok (.getfield 21, 3) := by decide +kernel
theorem dX3_measure_12 : decode cX3_measure 12 = .ok (.iconst 0, 1) := by decide +kernel
theorem dX3_measure_13 : decode cX3_measure 13 = .ok (.invokestatic 69, 3) := by decide +kernel
theorem dX3_measure_16 : decode cX3_measure 16 = .ok (.iconst 0, 1) := by decide +kernel
theorem dX3_measure_17 : decode cX3_measure 17 = .ok (.istore_n 2, 1) := by decide +kernel
theorem dX3_measure_18 : decode cX3_measure 18 = .ok (.iload_n 2, 1) := by decide +kernel
theorem dX3_measure_19 : decode cX3_measure 19 = .ok (.aload_n 1, 1) := by decide +kernel
theorem dX3_measure_20 : decode cX3_measure 20 = .ok (.getfield 24, 3) := by decide +kernel
theorem dX3_measure_23 : decode cX3_measure 23 = .ok (.if_icmp .ge 79, 3) := by decide +kernel
theorem dX3_measure_26 : decode cX3_measure 26 = .ok (.aload_n 0, 1) := by decide +kernel
theorem dX3_measure_27 : decode cX3_measure 27 = .ok (.getfield 9, 3) := by decide +kernel
theorem dX3_measure_30 : decode cX3_measure 30 = .ok (.iload_n 2, 1) := by decide +kernel
theorem dX3_measure_31 : decode cX3_measure 31 = .ok (.iaload, 1) := by decide +kernel
theorem dX3_measure_32 : decode cX3_measure 32 = .ok (.istore_n 3, 1) := by decide +kernel
theorem dX3_measure_33 : decode cX3_measure 33 = .ok (.iload_n 3, 1) := by decide +kernel
theorem dX3_measure_34 : decode cX3_measure 34 = .ok (.iconst 1, 1) := by decide +kernel
theorem dX3_measure_35 : decode cX3_measure 35 = .ok (.iadd, 1) := by decide +kernel
theorem dX3_measure_36 : decode cX3_measure 36 = .ok (.aload_n 0, 1) := by decide +kernel
theorem dX3_measure_37 : decode cX3_measure 37 = .ok (.getfield 34, 3) := by decide +kernel
theorem dX3_measure_40 : decode cX3_measure 40 = .ok (.if_icmp .ge 9, 3) := by decide +kernel
theorem dX3_measure_43 : decode cX3_measure 43 = .ok (.iload_n 3, 1) := by decide +kernel
theorem dX3_measure_44 : decode cX3_measure 44 = .ok (.iconst 1, 1) := by decide +kernel
theorem dX3_measure_45 : decode cX3_measure 45 = .ok (.iadd, 1) := by decide +kernel
theorem dX3_measure_46 : decode cX3_measure 46 = .ok (.goto 4, 3) := by decide +kernel
theorem dX3_measure_49 : decode cX3_measure 49 = .ok (.iconst 0, 1) := by decide +kernel
theorem dX3_measure_50 : decode cX3_measure 50 = .ok (.istore 4, 2) := by decide +kernel
theorem dX3_measure_52 : decode cX3_measure 52 = .ok (.aload_n 0, 1) := by decide +kernel
theorem dX3_measure_53 : decode cX3_measure 53 = .ok (.getfield 18, 3) := by decide +kernel
theorem dX3_measure_56 : decode cX3_measure 56 = .ok (.iload_n 3, 1) := by decide +kernel
theorem dX3_measure_57 : decode cX3_measure 57 = .ok (.aload_n 0, 1) := by decide +kernel
theorem dX3_measure_58 : decode cX3_measure 58 = .ok (.getfield 18, 3) := by decide +kernel
theorem dX3_measure_61 : decode cX3_measure 61 = .ok (.iload_n 3, 1) := by decide +kernel
theorem dX3_measure_62 : decode cX3_measure 62 = .ok (.iaload, 1) := by decide +kernel
theorem dX3_measure_63 : decode cX3_measure 63 = .ok (.aload_n 1, 1) := by decide +kernel
theorem dX3_measure_64 : decode cX3_measure 64 = .ok (.getfield 75, 3) := by decide +kernel
theorem dX3_measure_67 : decode cX3_measure 67 = .ok (.iload_n 2, 1) := by decide +kernel
theorem dX3_measure_68 : decode cX3_measure 68 = .ok (.iaload, 1) := by decide +kernel
theorem dX3_measure_69 : decode cX3_measure 69 = .ok (.invokestatic 41, 3) := by decide +kernel
theorem dX3_measure_72 : decode cX3_measure 72 = .ok (.iastore, 1) := by decide +kernel
theorem dX3_measure_73 : decode cX3_measure 73 = .ok (.aload_n 0, 1) := by decide +kernel
theorem dX3_measure_74 : decode cX3_measure 74 = .ok (.getfield 21, 3) := by decide +kernel
theorem dX3_measure_77 : decode cX3_measure 77 = .ok (.iload_n 3, 1) := by decide +kernel
theorem dX3_measure_78 : decode cX3_measure 78 = .ok (.aload_n 0, 1) := by decide +kernel
theorem dX3_measure_79 : decode cX3_measure 79 = .ok (.getfield 21, 3) := by decide +kernel
theorem dX3_measure_82 : decode cX3_measure 82 = .ok (.iload_n 3, 1) := by decide +kernel
theorem dX3_measure_83 : decode cX3_measure 83 = .ok (.iaload, 1) := by decide +kernel
theorem dX3_measure_84 : decode cX3_measure 84 = .ok (.aload_n 0, 1) := by decide +kernel
theorem dX3_measure_85 : decode cX3_measure 85 = .ok (.aload_n 1, 1) := by decide +kernel
theorem dX3_measure_86 : decode cX3_measure 86 = .ok (.iload_n 2, 1) := by decide +kernel
theorem dX3_measure_87 : decode cX3_measure 87 = .ok (.iload 4, 2) := by decide +kernel
theorem dX3_measure_89 : decode cX3_measure 89 = .ok (.invokevirtual 78, 3) := by decide +kernel
theorem dX3_measure_92 : decode cX3_measure 92 = .ok (.invokestatic 41, 3) := by decide +kernel
theorem dX3_measure_95 : decode cX3_measure 95 = .ok (.iastore, 1) := by decide +kernel
theorem dX3_measure_96 : decode cX3_measure 96 = .ok (.iinc 2 1, 3) := by decide +kernel
theorem dX3_measure_99 : decode cX3_measure 99 = .ok (.goto (-81), 3) := by decide +kernel
theorem dX3_measure_102 : decode cX3_measure 102 = .ok (.return_, 1) := by decide +kernel
theorem dX3_clearanceTo_0 : decode cX3_clearanceTo 0 = .ok (.iconst 0, 1) := by decide +kernel
theorem dX3_clearanceTo_1 : decode cX3_clearanceTo 1 = .ok (.istore 4, 2) := by decide +kernel
theorem dX3_clearanceTo_3 : decode cX3_clearanceTo 3 = .ok (.iconst 0, 1) := by decide +kernel
theorem dX3_clearanceTo_4 : decode cX3_clearanceTo 4 = .ok (.istore 5, 2) := by decide +kernel
theorem dX3_clearanceTo_6 : decode cX3_clearanceTo 6 = .ok (.iload 5, 2) := by decide +kernel
theorem dX3_clearanceTo_8 : decode cX3_clearanceTo 8 = .ok (.aload_n 1, 1) := by decide +kernel
theorem dX3_clearanceTo_9 : decode cX3_clearanceTo 9 = .ok (.getfield 24, 3) := by decide +kernel
theorem dX3_clearanceTo_12 : decode cX3_clearanceTo 12 = .ok (.if_icmp .ge 34, 3) := by decide +kernel
theorem dX3_clearanceTo_15 : decode cX3_clearanceTo 15 = .ok (.aload_n 0, 1) := by decide +kernel
theorem dX3_clearanceTo_16 : decode cX3_clearanceTo 16 = .ok (.getfield 9, 3) := by decide +kernel
theorem dX3_clearanceTo_19 : decode cX3_clearanceTo 19 = .ok (.iload 5, 2) := by decide +kernel
theorem dX3_clearanceTo_21 : decode cX3_clearanceTo 21 = .ok (.iaload, 1) := by decide +kernel
theorem dX3_clearanceTo_22 : decode cX3_clearanceTo 22 = .ok (.iload_n 3, 1) := by decide +kernel
theorem dX3_clearanceTo_23 : decode cX3_clearanceTo 23 = .ok (.if_icmp .ne 17, 3) := by decide +kernel
theorem dX3_clearanceTo_26 : decode cX3_clearanceTo 26 = .ok (.iload 4, 2) := by decide +kernel
theorem dX3_clearanceTo_28 : decode cX3_clearanceTo 28 = .ok (.aload_n 1, 1) := by decide +kernel
theorem dX3_clearanceTo_29 : decode cX3_clearanceTo 29 = .ok (.iload_n 2, 1) := by decide +kernel
theorem dX3_clearanceTo_30 : decode cX3_clearanceTo 30 = .ok (.iload 5, 2) := by decide +kernel
theorem dX3_clearanceTo_32 : decode cX3_clearanceTo 32 = .ok (.invokevirtual 82, 3) := by decide +kernel
theorem dX3_clearanceTo_35 : decode cX3_clearanceTo 35 = .ok (.invokestatic 41, 3) := by decide +kernel
theorem dX3_clearanceTo_38 : decode cX3_clearanceTo 38 = .ok (.istore 4, 2) := by decide +kernel
theorem dX3_clearanceTo_40 : decode cX3_clearanceTo 40 = .ok (.iinc 5 1, 3) := by decide +kernel
theorem dX3_clearanceTo_43 : decode cX3_clearanceTo 43 = .ok (.goto (-37), 3) := by decide +kernel
theorem dX3_clearanceTo_46 : decode cX3_clearanceTo 46 = .ok (.iload 4, 2) := by decide +kernel
theorem dX3_clearanceTo_48 : decode cX3_clearanceTo 48 = .ok (.ireturn, 1) := by decide +kernel
theorem dX3_spread_0 : decode cX3_spread 0 = .ok (.iload_n 1, 1) := by decide +kernel
theorem dX3_spread_1 : decode cX3_spread 1 = .ok (.istore_n 3, 1) := by decide +kernel
theorem dX3_spread_2 : decode cX3_spread 2 = .ok (.iconst 0, 1) := by decide +kernel
theorem dX3_spread_3 : decode cX3_spread 3 = .ok (.istore 4, 2) := by decide +kernel
theorem dX3_spread_5 : decode cX3_spread 5 = .ok (.iload 4, 2) := by decide +kernel
theorem dX3_spread_7 : decode cX3_spread 7 = .ok (.iload_n 1, 1) := by decide +kernel
theorem dX3_spread_8 : decode cX3_spread 8 = .ok (.if_icmp .ge 60, 3) := by decide +kernel
theorem dX3_spread_11 : decode cX3_spread 11 = .ok (.iload_n 3, 1) := by decide +kernel
theorem dX3_spread_12 : decode cX3_spread 12 = .ok (.ifCond .le 56, 3) := by decide +kernel
theorem dX3_spread_15 : decode cX3_spread 15 = .ok (.iconst 0, 1) := by decide +kernel
theorem dX3_spread_16 : decode cX3_spread 16 = .ok (.istore 5, 2) := by decide +kernel
theorem dX3_spread_18 : decode cX3_spread 18 = .ok (.iload 5, 2) := by decide +kernel
theorem dX3_spread_20 : decode cX3_spread 20 = .ok (.aload_n 0, 1) := by decide +kernel
theorem dX3_spread_21 : decode cX3_spread 21 = .ok (.getfield 34, 3) := by decide +kernel
theorem dX3_spread_24 : decode cX3_spread 24 = .ok (.if_icmp .ge 38, 3) := by decide +kernel
theorem dX3_spread_27 : decode cX3_spread 27 = .ok (.iload_n 3, 1) := by decide +kernel
theorem dX3_spread_28 : decode cX3_spread 28 = .ok (.ifCond .le 34, 3) := by decide +kernel
theorem dX3_spread_31 : decode cX3_spread 31 = .ok (.aload_n 0, 1) := by decide +kernel
theorem dX3_spread_32 : decode cX3_spread 32 = .ok (.getfield 18, 3) := by decide +kernel
theorem dX3_spread_35 : decode cX3_spread 35 = .ok (.iload 5, 2) := by decide +kernel
theorem dX3_spread_37 : decode cX3_spread 37 = .ok (.iaload, 1) := by decide +kernel
theorem dX3_spread_38 : decode cX3_spread 38 = .ok (.iload_n 2, 1) := by decide +kernel
theorem dX3_spread_39 : decode cX3_spread 39 = .ok (.if_icmp .ge 17, 3) := by decide +kernel
theorem dX3_spread_42 : decode cX3_spread 42 = .ok (.aload_n 0, 1) := by decide +kernel
theorem dX3_spread_43 : decode cX3_spread 43 = .ok (.getfield 18, 3) := by decide +kernel
theorem dX3_spread_46 : decode cX3_spread 46 = .ok (.iload 5, 2) := by decide +kernel
theorem dX3_spread_48 : decode cX3_spread 48 = .ok (.dup2, 1) := by decide +kernel
theorem dX3_spread_49 : decode cX3_spread 49 = .ok (.iaload, 1) := by decide +kernel
theorem dX3_spread_50 : decode cX3_spread 50 = .ok (.iconst 1, 1) := by decide +kernel
theorem dX3_spread_51 : decode cX3_spread 51 = .ok (.iadd, 1) := by decide +kernel
theorem dX3_spread_52 : decode cX3_spread 52 = .ok (.iastore, 1) := by decide +kernel
theorem dX3_spread_53 : decode cX3_spread 53 = .ok (.iinc 3 (-1), 3) := by decide +kernel
theorem dX3_spread_56 : decode cX3_spread 56 = .ok (.iinc 5 1, 3) := by decide +kernel
theorem dX3_spread_59 : decode cX3_spread 59 = .ok (.goto (-41), 3) := by decide +kernel
theorem dX3_spread_62 : decode cX3_spread 62 = .ok (.iinc 4 1, 3) := by decide +kernel
theorem dX3_spread_65 : decode cX3_spread 65 = .ok (.goto (-60), 3) := by decide +kernel
theorem dX3_spread_68 : decode cX3_spread 68 = .ok (.return_, 1) := by decide +kernel
theorem dX3_setStarts_0 : decode cX3_setStarts 0 = .ok (.iconst 0, 1) := by decide +kernel
theorem dX3_setStarts_1 : decode cX3_setStarts 1 = .ok (.istore_n 1, 1) := by decide +kernel
theorem dX3_setStarts_2 : decode cX3_setStarts 2 = .ok (.iconst 0, 1) := by decide +kernel
theorem dX3_setStarts_3 : decode cX3_setStarts 3 = .ok (.istore_n 2, 1) := by decide +kernel
theorem dX3_setStarts_4 : decode cX3_setStarts 4 = .ok (.iload_n 2, 1) := by decide +kernel
theorem dX3_setStarts_5 : decode cX3_setStarts 5 = .ok (.aload_n 0, 1) := by decide +kernel
theorem dX3_setStarts_6 : decode cX3_setStarts 6 = .ok (.getfield 34, 3) := by decide +kernel
theorem dX3_setStarts_9 : decode cX3_setStarts 9 = .ok (.if_icmp .ge 32, 3) := by decide +kernel
theorem dX3_setStarts_12 : decode cX3_setStarts 12 = .ok (.aload_n 0, 1) := by decide +kernel
theorem dX3_setStarts_13 : decode cX3_setStarts 13 = .ok (.getfield 15, 3) := by decide +kernel
theorem dX3_setStarts_16 : decode cX3_setStarts 16 = .ok (.iload_n 2, 1) := by decide +kernel
theorem dX3_setStarts_17 : decode cX3_setStarts 17 = .ok (.iload_n 1, 1) := by decide +kernel
theorem dX3_setStarts_18 : decode cX3_setStarts 18 = .ok (.iastore, 1) := by decide +kernel
theorem dX3_setStarts_19 : decode cX3_setStarts 19 = .ok (.iload_n 1, 1) := by decide +kernel
theorem dX3_setStarts_20 : decode cX3_setStarts 20 = .ok (.aload_n 0, 1) := by decide +kernel
theorem dX3_setStarts_21 : decode cX3_setStarts 21 = .ok (.getfield 18, 3) := by decide +kernel
theorem dX3_setStarts_24 : decode cX3_setStarts 24 = .ok (.iload_n 2, 1) := by decide +kernel
theorem dX3_setStarts_25 : decode cX3_setStarts 25 = .ok (.iaload, 1) := by decide +kernel
theorem dX3_setStarts_26 : decode cX3_setStarts 26 = .ok (.aload_n 0, 1) := by decide +kernel
theorem dX3_setStarts_27 : decode cX3_setStarts 27 = .ok (.getfield 21, 3) := by decide +kernel
theorem dX3_setStarts_30 : decode cX3_setStarts 30 = .ok (.iload_n 2, 1) := by decide +kernel
theorem dX3_setStarts_31 : decode cX3_setStarts 31 = .ok (.iaload, 1) := by decide +kernel
theorem dX3_setStarts_32 : decode cX3_setStarts 32 = .ok (.iadd, 1) := by decide +kernel
theorem dX3_setStarts_33 : decode cX3_setStarts 33 = .ok (.iadd, 1) := by decide +kernel
theorem dX3_setStarts_34 : decode cX3_setStarts 34 = .ok (.istore_n 1, 1) := by decide +kernel
theorem dX3_setStarts_35 : decode cX3_setStarts 35 = .ok (.iinc 2 1, 3) := by decide +kernel
theorem dX3_setStarts_38 : decode cX3_setStarts 38 = .ok (.goto (-34), 3) := by decide +kernel
theorem dX3_setStarts_41 : decode cX3_setStarts 41 = .ok (.return_, 1) := by decide +kernel
theorem dX3_isClear_0 : decode cX3_isClear 0 = .ok (.iconst 0, 1) := by decide +kernel
theorem dX3_isClear_1 : decode cX3_isClear 1 = .ok (.istore_n 3, 1) := by decide +kernel
theorem dX3_isClear_2 : decode cX3_isClear 2 = .ok (.iload_n 3, 1) := by decide +kernel
theorem dX3_isClear_3 : decode cX3_isClear 3 = .ok (.aload_n 1, 1) := by decide +kernel
theorem dX3_isClear_4 : decode cX3_isClear 4 = .ok (.getfield 24, 3) := by decide +kernel
theorem dX3_isClear_7 : decode cX3_isClear 7 = .ok (.if_icmp .ge 81, 3) := by decide +kernel
theorem dX3_isClear_10 : decode cX3_isClear 10 = .ok (.iconst 0, 1) := by decide +kernel
theorem dX3_isClear_11 : decode cX3_isClear 11 = .ok (.istore 4, 2) := by decide +kernel
theorem dX3_isClear_13 : decode cX3_isClear 13 = .ok (.iload 4, 2) := by decide +kernel
theorem dX3_isClear_15 : decode cX3_isClear 15 = .ok (.aload_n 1, 1) := by decide +kernel
theorem dX3_isClear_16 : decode cX3_isClear 16 = .ok (.getfield 24, 3) := by decide +kernel
theorem dX3_isClear_19 : decode cX3_isClear 19 = .ok (.if_icmp .ge 63, 3) := by decide +kernel
theorem dX3_isClear_22 : decode cX3_isClear 22 = .ok (.aload_n 0, 1) := by decide +kernel
theorem dX3_isClear_23 : decode cX3_isClear 23 = .ok (.getfield 9, 3) := by decide +kernel
theorem dX3_isClear_26 : decode cX3_isClear 26 = .ok (.iload_n 3, 1) := by decide +kernel
theorem dX3_isClear_27 : decode cX3_isClear 27 = .ok (.iaload, 1) := by decide +kernel
theorem dX3_isClear_28 : decode cX3_isClear 28 = .ok (.istore 5, 2) := by decide +kernel
theorem dX3_isClear_30 : decode cX3_isClear 30 = .ok (.aload_n 0, 1) := by decide +kernel
theorem dX3_isClear_31 : decode cX3_isClear 31 = .ok (.getfield 15, 3) := by decide +kernel
theorem dX3_isClear_34 : decode cX3_isClear 34 = .ok (.iload 5, 2) := by decide +kernel
theorem dX3_isClear_36 : decode cX3_isClear 36 = .ok (.iaload, 1) := by decide +kernel
theorem dX3_isClear_37 : decode cX3_isClear 37 = .ok (.aload_n 0, 1) := by decide +kernel
theorem dX3_isClear_38 : decode cX3_isClear 38 = .ok (.getfield 18, 3) := by decide +kernel
theorem dX3_isClear_41 : decode cX3_isClear 41 = .ok (.iload 5, 2) := by decide +kernel
theorem dX3_isClear_43 : decode cX3_isClear 43 = .ok (.iaload, 1) := by decide +kernel
theorem dX3_isClear_44 : decode cX3_isClear 44 = .ok (.aload_n 0, 1) := by decide +kernel
theorem dX3_isClear_45 : decode cX3_isClear 45 = .ok (.getfield 15, 3) := by decide +kernel
theorem dX3_isClear_48 : decode cX3_isClear 48 = .ok (.aload_n 0, 1) := by decide +kernel
theorem dX3_isClear_49 : decode cX3_isClear 49 = .ok (.getfield 9, 3) := by decide +kernel
theorem dX3_isClear_52 : decode cX3_isClear 52 = .ok (.iload 4, 2) := by decide +kernel
theorem dX3_isClear_54 : decode cX3_isClear 54 = .ok (.iaload, 1) := by decide +kernel
theorem dX3_isClear_55 : decode cX3_isClear 55 = .ok (.iaload, 1) := by decide +kernel
theorem dX3_isClear_56 : decode cX3_isClear 56 = .ok (.iload_n 2, 1) := by decide +kernel
theorem dX3_isClear_57 : decode cX3_isClear 57 = .ok (.invokestatic 85, 3) := by decide +kernel
theorem dX3_isClear_60 : decode cX3_isClear 60 = .ok (.istore 6, 2) := by decide +kernel
theorem dX3_isClear_62 : decode cX3_isClear 62 = .ok (.iload 6, 2) := by decide +kernel
theorem dX3_isClear_64 : decode cX3_isClear 64 = .ok (.aload_n 1, 1) := by decide +kernel
theorem dX3_isClear_65 : decode cX3_isClear 65 = .ok (.iload_n 3, 1) := by decide +kernel
theorem dX3_isClear_66 : decode cX3_isClear 66 = .ok (.iload 4, 2) := by decide +kernel
theorem dX3_isClear_68 : decode cX3_isClear 68 = .ok (.invokevirtual 82, 3) := by decide +kernel
theorem dX3_isClear_71 : decode cX3_isClear 71 = .ok (.if_icmp .ge 5, 3) := by decide +kernel
theorem dX3_isClear_74 : decode cX3_isClear 74 = .ok (.iconst 0, 1) := by decide +kernel
theorem dX3_isClear_75 : decode cX3_isClear 75 = .ok (.ireturn, 1) := by decide +kernel
theorem dX3_isClear_76 : decode cX3_isClear 76 = .ok (.iinc 4 1, 3) := by decide +kernel
theorem dX3_isClear_79 : decode cX3_isClear 79 = .ok (.goto (-66), 3) := by decide +kernel
theorem dX3_isClear_82 : decode cX3_isClear 82 = .ok (.iinc 3 1, 3) := by decide +kernel
theorem dX3_isClear_85 : decode cX3_isClear 85 = .ok (.goto (-83), 3) := by decide +kernel
theorem dX3_isClear_88 : decode cX3_isClear 88 = .ok (.iconst 1, 1) := by decide +kernel
theorem dX3_isClear_89 : decode cX3_isClear 89 = .ok (.ireturn, 1) := by decide +kernel
theorem dX3_giveGreens_0 : decode cX3_giveGreens 0 = .ok (.iconst 0, 1) := by decide +kernel
theorem dX3_giveGreens_1 : decode cX3_giveGreens 1 = .ok (.istore_n 3, 1) := by decide +kernel
theorem dX3_giveGreens_2 : decode cX3_giveGreens 2 = .ok (.iload_n 3, 1) := by decide +kernel
theorem dX3_giveGreens_3 : decode cX3_giveGreens 3 = .ok (.aload_n 1, 1) := by decide +kernel
theorem dX3_giveGreens_4 : decode cX3_giveGreens 4 = .ok (.getfield 24, 3) := by decide +kernel
theorem dX3_giveGreens_7 : decode cX3_giveGreens 7 = .ok (.if_icmp .ge 37, 3) := by decide +kernel
theorem dX3_giveGreens_10 : decode cX3_giveGreens 10 = .ok (.aload_n 1, 1) := by decide +kernel
theorem dX3_giveGreens_11 : decode cX3_giveGreens 11 = .ok (.iload_n 2, 1) := by decide +kernel
theorem dX3_giveGreens_12 : decode cX3_giveGreens 12 = .ok (.iload_n 3, 1) := by decide +kernel
theorem dX3_giveGreens_13 : decode cX3_giveGreens 13 = .ok (.aload_n 0, 1) := by decide +kernel
theorem dX3_giveGreens_14 : decode cX3_giveGreens 14 = .ok (.getfield 15, 3) := by decide +kernel
theorem dX3_giveGreens_17 : decode cX3_giveGreens 17 = .ok (.aload_n 0, 1) := by decide +kernel
theorem dX3_giveGreens_18 : decode cX3_giveGreens 18 = .ok (.getfield 9, 3) := by decide +kernel
theorem dX3_giveGreens_21 : decode cX3_giveGreens 21 = .ok (.iload_n 3, 1) := by decide +kernel
theorem dX3_giveGreens_22 : decode cX3_giveGreens 22 = .ok (.iaload, 1) := by decide +kernel
theorem dX3_giveGreens_23 : decode cX3_giveGreens 23 = .ok (.iaload, 1) := by decide +kernel
theorem dX3_giveGreens_24 : decode cX3_giveGreens 24 = .ok (.aload_n 0, 1) := by decide +kernel
theorem dX3_giveGreens_25 : decode cX3_giveGreens 25 = .ok (.getfield 18, 3) := by decide +kernel
theorem dX3_giveGreens_28 : decode cX3_giveGreens 28 = .ok (.aload_n 0, 1) := by decide +kernel
theorem dX3_giveGreens_29 : decode cX3_giveGreens 29 = .ok (.getfield 9, 3) := by decide +kernel
theorem dX3_giveGreens_32 : decode cX3_giveGreens 32 = .ok (.iload_n 3, 1) := by decide +kernel
theorem dX3_giveGreens_33 : decode cX3_giveGreens 33 = .ok (.iaload, 1) := by decide +kernel
theorem dX3_giveGreens_34 : decode cX3_giveGreens 34 = .ok (.iaload, 1) := by decide +kernel
theorem dX3_giveGreens_35 : decode cX3_giveGreens 35 = .ok (.invokevirtual 89, 3) := by decide +kernel
theorem dX3_giveGreens_38 : decode cX3_giveGreens 38 = .ok (.iinc 3 1, 3) := by decide +kernel
theorem dX3_giveGreens_41 : decode cX3_giveGreens 41 = .ok (.goto (-39), 3) := by decide +kernel
theorem dX3_giveGreens_44 : decode cX3_giveGreens 44 = .ok (.return_, 1) := by decide +kernel
theorem dX4_init_0 : decode cX4_init 0 = .ok (.aload_n 0, 1) := by decide +kernel
theorem dX4_init_1 : decode cX4_init 1 = .ok (.invokespecial 3, 3) := by decide +kernel
theorem dX4_init_4 : decode cX4_init 4 = .ok (.aload_n 0, 1) := by decide +kernel
theorem dX4_init_5 : decode cX4_init 5 = .ok (.bipush 96, 2) := by decide +kernel
theorem dX4_init_7 : decode cX4_init 7 = .ok (.newarray .char, 2) := by decide +kernel
theorem dX4_init_9 : decode cX4_init 9 = .ok (.putfield 9, 3) := by decide +kernel
theorem dX4_init_12 : decode cX4_init 12 = .ok (.return_, 1) := by decide +kernel
theorem dX4_write_0 : decode cX4_write 0 = .ok (.iconst 1, 1) := by decide +kernel
theorem dX4_write_1 : decode cX4_write 1 = .ok (.aload_n 2, 1) := by decide +kernel
theorem dX4_write_2 : decode cX4_write 2 = .ok (.getfield 15, 3) := by decide +kernel
theorem dX4_write_5 : decode cX4_write 5 = .ok (.ishl, 1) := by decide +kernel
theorem dX4_write_6 : decode cX4_write 6 = .ok (.iconst 1, 1) := by decide +kernel
theorem dX4_write_7 : decode cX4_write 7 = .ok (.isub, 1) := by decide +kernel
theorem dX4_write_8 : decode cX4_write 8 = .ok (.iload 4, 2) := by decide +kernel
theorem dX4_write_10 : decode cX4_write 10 = .ok (.iconst (-1), 1) := by decide +kernel
theorem dX4_write_11 : decode cX4_write 11 = .ok (.ixor, 1) := by decide +kernel
theorem dX4_write_12 : decode cX4_write 12 = .ok (.iand, 1) := by decide +kernel
theorem dX4_write_13 : decode cX4_write 13 = .ok (.istore 5, 2) := by decide +kernel
theorem dX4_write_15 : decode cX4_write 15 = .ok (.aload_n 0, 1) := by decide +kernel
theorem dX4_write_16 : decode cX4_write 16 = .ok (.iconst 0, 1) := by decide +kernel
theorem dX4_write_17 : decode cX4_write 17 = .ok (.putfield 21, 3) := by decide +kernel
theorem dX4_write_20 : decode cX4_write 20 = .ok (.aload_n 0, 1) := by decide +kernel
theorem dX4_write_21 : decode cX4_write 21 = .ok (.ldc 24, 2) := by decide +kernel
theorem dX4_write_23 : decode cX4_write 23 = .ok (.invokevirtual 26, 3) := by decide +kernel
theorem dX4_write_26 : decode cX4_write 26 = .ok (.aload_n 0, 1) := by decide +kernel
theorem dX4_write_27 : decode cX4_write 27 = .ok (.iload_n 1, 1) := by decide +kernel
theorem dX4_write_28 : decode cX4_write 28 = .ok (.invokevirtual 30, 3) := by decide +kernel
theorem dX4_write_31 : decode cX4_write 31 = .ok (.aload_n 0, 1) := by decide +kernel
theorem dX4_write_32 : decode cX4_write 32 = .ok (.ldc 34, 2) := by decide +kernel
theorem dX4_write_34 : decode cX4_write 34 = .ok (.invokevirtual 26, 3) := by decide +kernel
theorem dX4_write_37 : decode cX4_write 37 = .ok (.aload_n 0, 1) := by decide +kernel
theorem dX4_write_38 : decode cX4_write 38 = .ok (.aload_n 2, 1) := by decide +kernel
theorem dX4_write_39 : decode cX4_write 39 = .ok (.getfield 36, 3) := by decide +kernel
theorem dX4_write_42 : decode cX4_write 42 = .ok (.invokevirtual 30, 3) := by decide +kernel
theorem dX4_write_45 : decode cX4_write 45 = .ok (.aload_n 0, 1) := by decide +kernel
theorem dX4_write_46 : decode cX4_write 46 = .ok (.ldc 39, 2) := by decide +kernel
theorem dX4_write_48 : decode cX4_write 48 = .ok (.invokevirtual 26, 3) := by decide +kernel
theorem dX4_write_51 : decode cX4_write 51 = .ok (.aload_n 0, 1) := by decide +kernel
theorem dX4_write_52 : decode cX4_write 52 = .ok (.aload_n 2, 1) := by decide +kernel
theorem dX4_write_53 : decode cX4_write 53 = .ok (.getfield 41, 3) := by decide +kernel
theorem dX4_write_56 : decode cX4_write 56 = .ok (.invokevirtual 30, 3) := by decide +kernel
theorem dX4_write_59 : decode cX4_write 59 = .ok (.aload_n 0, 1) := by decide +kernel
theorem dX4_write_60 : decode cX4_write 60 = .ok (.ldc 44, 2) := by decide +kernel
theorem dX4_write_62 : decode cX4_write 62 = .ok (.invokevirtual 26, 3) := by decide +kernel
theorem dX4_write_65 : decode cX4_write 65 = .ok (.aload_n 0, 1) := by decide +kernel
theorem dX4_write_66 : decode cX4_write 66 = .ok (.iload_n 3, 1) := by decide +kernel
theorem dX4_write_67 : decode cX4_write 67 = .ok (.invokevirtual 30, 3) := by decide +kernel
theorem dX4_write_70 : decode cX4_write 70 = .ok (.aload_n 0, 1) := by decide +kernel
theorem dX4_write_71 : decode cX4_write 71 = .ok (.ldc 46, 2) := by decide +kernel
theorem dX4_write_73 : decode cX4_write 73 = .ok (.iload 4, 2) := by decide +kernel
theorem dX4_write_75 : decode cX4_write 75 = .ok (.invokevirtual 48, 3) := by decide +kernel
theorem dX4_write_78 : decode cX4_write 78 = .ok (.aload_n 0, 1) := by decide +kernel
theorem dX4_write_79 : decode cX4_write 79 = .ok (.ldc 52, 2) := by decide +kernel
theorem dX4_write_81 : decode cX4_write 81 = .ok (.iload 5, 2) := by decide +kernel
theorem dX4_write_83 : decode cX4_write 83 = .ok (.invokevirtual 48, 3) := by decide +kernel
theorem dX4_write_86 : decode cX4_write 86 = .ok (.return_, 1) := by decide +kernel
theorem dX4_addGroups_0 : decode cX4_addGroups 0 = .ok (.aload_n 0, 1) := by decide +kernel
theorem dX4_addGroups_1 : decode cX4_addGroups 1 = .ok (.iload_n 2, 1) := by decide +kernel
theorem dX4_addGroups_2 : decode cX4_addGroups 2 = .ok (.ifCond .ne 8, 3) := by decide +kernel
theorem dX4_addGroups_5 : decode cX4_addGroups 5 = .ok (.ldc 54, 2) := by decide +kernel
theorem dX4_addGroups_7 : decode cX4_addGroups 7 = .ok (.goto 5, 3) := by decide +kernel
theorem dX4_addGroups_10 : decode cX4_addGroups 10 = .ok (.ldc 56, 2) := by decide +kernel
theorem dX4_addGroups_12 : decode cX4_addGroups 12 = .ok (.invokevirtual 26, 3) := by decide +kernel
theorem dX4_addGroups_15 : decode cX4_addGroups 15 = .ok (.aload_n 0, 1) := by decide +kernel
theorem dX4_addGroups_16 : decode cX4_addGroups 16 = .ok (.aload_n 1, 1) := by decide +kernel
theorem dX4_addGroups_17 : decode cX4_addGroups 17 = .ok (.invokevirtual 26, 3) := by decide +kernel
theorem dX4_addGroups_20 : decode cX4_addGroups 20 = .ok (.iconst 0, 1) := by decide +kernel
theorem dX4_addGroups_21 : decode cX4_addGroups 21 = .ok (.istore_n 3, 1) := by decide +kernel
theorem dX4_addGroups_22 : decode cX4_addGroups 22 = .ok (.iload_n 3, 1) := by decide +kernel
theorem dX4_addGroups_23 : decode cX4_addGroups 23 = .ok (.bipush 6, 2) := by decide +kernel
theorem dX4_addGroups_25 : decode cX4_addGroups 25 = .ok (.if_icmp .ge 29, 3) := by decide +kernel
theorem dX4_addGroups_28 : decode cX4_addGroups 28 = .ok (.iload_n 2, 1) := by decide +kernel
theorem dX4_addGroups_29 : decode cX4_addGroups 29 = .ok (.iload_n 3, 1) := by decide +kernel
theorem dX4_addGroups_30 : decode cX4_addGroups 30 = .ok (.iushr, 1) := by decide +kernel
theorem dX4_addGroups_31 : decode cX4_addGroups 31 = .ok (.iconst 1, 1) := by decide +kernel
theorem dX4_addGroups_32 : decode cX4_addGroups 32 = .ok (.iand, 1) := by decide +kernel
theorem dX4_addGroups_33 : decode cX4_addGroups 33 = .ok (.iconst 1, 1) := by decide +kernel
theorem dX4_addGroups_34 : decode cX4_addGroups 34 = .ok (.if_icmp .ne 14, 3) := by decide +kernel
theorem dX4_addGroups_37 : decode cX4_addGroups 37 = .ok (.aload_n 0, 1) := by decide +kernel
theorem dX4_addGroups_38 : decode cX4_addGroups 38 = .ok (.ldc 58, 2) := by decide +kernel
theorem dX4_addGroups_40 : decode cX4_addGroups 40 = .ok (.invokevirtual 26, 3) := by decide +kernel
theorem dX4_addGroups_43 : decode cX4_addGroups 43 = .ok (.aload_n 0, 1) := by decide +kernel
theorem dX4_addGroups_44 : decode cX4_addGroups 44 = .ok (.iload_n 3, 1) := by decide +kernel
theorem dX4_addGroups_45 : decode cX4_addGroups 45 = .ok (.invokevirtual 30, 3) := by decide +kernel
theorem dX4_addGroups_48 : decode cX4_addGroups 48 = .ok (.iinc 3 1, 3) := by decide +kernel
theorem dX4_addGroups_51 : decode cX4_addGroups 51 = .ok (.goto (-29), 3) := by decide +kernel
theorem dX4_addGroups_54 : decode cX4_addGroups 54 = .ok (.return_, 1) := by decide +kernel
theorem dX4_addText_0 : decode cX4_addText 0 = .ok (.iconst 0, 1) := by decide +kernel
theorem dX4_addText_1 : decode cX4_addText 1 = .ok (.istore_n 2, 1) := by decide +kernel
theorem dX4_addText_2 : decode cX4_addText 2 = .ok (.iload_n 2, 1) := by decide +kernel
theorem dX4_addText_3 : decode cX4_addText 3 = .ok (.aload_n 1, 1) := by decide +kernel
theorem dX4_addText_4 : decode cX4_addText 4 = .ok (.invokevirtual 60, 3) := by decide +kernel
theorem dX4_addText_7 : decode cX4_addText 7 = .ok (.if_icmp .ge 18, 3) := by decide +kernel
theorem dX4_addText_10 : decode cX4_addText 10 = .ok (.aload_n 0, 1) := by decide +kernel
theorem dX4_addText_11 : decode cX4_addText 11 = .ok (.aload_n 1, 1) := by decide +kernel
theorem dX4_addText_12 : decode cX4_addText 12 = .ok (.iload_n 2, 1) := by decide +kernel
theorem dX4_addText_13 : decode cX4_addText 13 = .ok (.invokevirtual 65, 3) := by decide +kernel
theorem dX4_addText_16 : decode cX4_addText 16 = .ok (.invokevirtual 69, 3) := by decide +kernel
theorem dX4_addText_19 : decode cX4_addText 19 = .ok (.iinc 2 1, 3) := by decide +kernel
theorem dX4_addText_22 : decode cX4_addText 22 = .ok (.goto (-20), 3) := by decide +kernel
theorem dX4_addText_25 : decode cX4_addText 25 = .ok (.return_, 1) := by decide +kernel
theorem dX4_addNumber_0 : decode cX4_addNumber 0 = .ok (.sipush 1000, 3) := by decide +kernel
theorem dX4_addNumber_3 : decode cX4_addNumber 3 = .ok (.istore_n 2, 1) := by decide +kernel
theorem dX4_addNumber_4 : decode cX4_addNumber 4 = .ok (.iload_n 2, 1) := by decide +kernel
theorem dX4_addNumber_5 : decode cX4_addNumber 5 = .ok (.ifCond .le 35, 3) := by decide +kernel
theorem dX4_addNumber_8 : decode cX4_addNumber 8 = .ok (.iload_n 1, 1) := by decide +kernel
theorem dX4_addNumber_9 : decode cX4_addNumber 9 = .ok (.iload_n 2, 1) := by decide +kernel
theorem dX4_addNumber_10 : decode cX4_addNumber 10 = .ok (.if_icmp .ge 8, 3) := by decide +kernel
theorem dX4_addNumber_13 : decode cX4_addNumber 13 = .ok (.iload_n 2, 1) := by decide +kernel
theorem dX4_addNumber_14 : decode cX4_addNumber 14 = .ok (.iconst 1, 1) := by decide +kernel
theorem dX4_addNumber_15 : decode cX4_addNumber 15 = .ok (.if_icmp .ne 17, 3) := by decide +kernel
theorem dX4_addNumber_18 : decode cX4_addNumber 18 = .ok (.aload_n 0, 1) := by decide +kernel
theorem dX4_addNumber_19 : decode cX4_addNumber 19 = .ok (.bipush 48, 2) := by decide +kernel
theorem dX4_addNumber_21 : decode cX4_addNumber 21 = .ok (.iload_n 1, 1) := by decide +kernel
theorem dX4_addNumber_22 : decode cX4_addNumber 22 = .ok (.iload_n 2, 1) := by decide +kernel
theorem dX4_addNumber_23 : decode cX4_addNumber 23 = .ok (.idiv, 1) := by decide +kernel
theorem dX4_addNumber_24 : decode cX4_addNumber 24 = .ok (.bipush 10, 2) := by decide +kernel
theorem dX4_addNumber_26 : decode cX4_addNumber 26 = .ok (.irem, 1) := by decide +kernel
theorem dX4_addNumber_27 : decode cX4_addNumber 27 = .ok (.iadd, 1) := by decide +kernel
theorem dX4_addNumber_28 : decode cX4_addNumber 28 = .ok (.i2c, 1) := by decide +kernel
theorem dX4_addNumber_29 : decode cX4_addNumber 29 = .ok (.invokevirtual 69, 3) := by decide +kernel
theorem dX4_addNumber_32 : decode cX4_addNumber 32 = .ok (.iload_n 2, 1) := by decide +kernel
theorem dX4_addNumber_33 : decode cX4_addNumber 33 = .ok (.bipush 10, 2) := by decide +kernel
theorem dX4_addNumber_35 : decode cX4_addNumber 35 = .ok (.idiv, 1) := by decide +kernel
theorem dX4_addNumber_36 : decode cX4_addNumber 36 = .ok (.istore_n 2, 1) := by decide +kernel
theorem dX4_addNumber_37 : decode cX4_addNumber 37 = .ok (.goto (-33), 3) := by decide +kernel
theorem dX4_addNumber_40 : decode cX4_addNumber 40 = .ok (.return_, 1) := by decide +kernel
theorem dX4_addSign_0 : decode cX4_addSign 0 = .ok (.aload_n 0, 1) := by decide +kernel
theorem dX4_addSign_1 : decode cX4_addSign 1 = .ok (.getfield 21, 3) := by decide +kernel
theorem dX4_addSign_4 : decode cX4_addSign 4 = .ok (.bipush 96, 2) := by decide +kernel
theorem dX4_addSign_6 : decode cX4_addSign 6 = .ok (.if_icmp .ge 23, 3) := by decide +kernel
theorem dX4_addSign_9 : decode cX4_addSign 9 = .ok (.aload_n 0, 1) := by decide +kernel
theorem dX4_addSign_10 : decode cX4_addSign 10 = .ok (.getfield 9, 3) := by decide +kernel
theorem dX4_addSign_13 : decode cX4_addSign 13 = .ok (.aload_n 0, 1) := by decide +kernel
theorem dX4_addSign_14 : decode cX4_addSign 14 = .ok (.getfield 21, 3) := by decide +kernel
theorem dX4_addSign_17 : decode cX4_addSign 17 = .ok (.iload_n 1, 1) := by decide +kernel
theorem dX4_addSign_18 : decode cX4_addSign 18 = .ok (.castore, 1) := by decide +kernel
theorem dX4_addSign_19 : decode cX4_addSign 19 = .ok (.aload_n 0, 1) := by decide +kernel
theorem dX4_addSign_20 : decode cX4_addSign 20 = .ok (.dup, 1) := by decide +kernel
theorem dX4_addSign_21 : decode cX4_addSign 21 = .ok (.getfield 21, 3) := by decide +kernel
theorem dX4_addSign_24 : decode cX4_addSign 24 = .ok (.iconst 1, 1) := by decide +kernel
theorem dX4_addSign_25 : decode cX4_addSign 25 = .ok (.iadd, 1) := by decide +kernel
theorem dX4_addSign_26 : decode cX4_addSign 26 = .ok (.putfield 21, 3) := by decide +kernel
theorem dX4_addSign_29 : decode cX4_addSign 29 = .ok (.return_, 1) := by decide +kernel
theorem dX5_init_0 : decode cX5_init 0 = .ok (.aload_n 0, 1) := by decide +kernel
theorem dX5_init_1 : decode cX5_init 1 = .ok (.invokespecial 3, 3) := by decide +kernel
theorem dX5_init_4 : decode cX5_init 4 = .ok (.aload_n 0, 1) := by decide +kernel
theorem dX5_init_5 : decode cX5_init 5 = .ok (.bipush 60, 2) := by decide +kernel
theorem dX5_init_7 : decode cX5_init 7 = .ok (.newarray .char, 2) := by decide +kernel
theorem dX5_init_9 : decode cX5_init 9 = .ok (.putfield 9, 3) := by decide +kernel
theorem dX5_init_12 : decode cX5_init 12 = .ok (.aload_n 0, 1) := by decide +kernel
theorem dX5_init_13 : decode cX5_init 13 = .ok (.bipush 10, 2) := by decide +kernel
theorem dX5_init_15 : decode cX5_init 15 = .ok (.newarray .int, 2) := by decide +kernel
theorem dX5_init_17 : decode cX5_init 17 = .ok (.putfield 15, 3) := by decide +kernel
theorem dX5_init_20 : decode cX5_init 20 = .ok (.aload_n 0, 1) := by decide +kernel
theorem dX5_init_21 : decode cX5_init 21 = .ok (.bipush 10, 2) := by decide +kernel
theorem dX5_init_23 : decode cX5_init 23 = .ok (.anewarray 19, 3) := by decide +kernel
theorem dX5_init_26 : decode cX5_init 26 = .ok (.putfield 21, 3) := by decide +kernel
theorem dX5_init_29 : decode cX5_init 29 = .ok (.aload_n 0, 1) := by decide +kernel
theorem dX5_init_30 : decode cX5_init 30 = .ok (.bipush 50, 2) := by decide +kernel
theorem dX5_init_32 : decode cX5_init 32 = .ok (.newarray .int, 2) := by decide +kernel
theorem dX5_init_34 : decode cX5_init 34 = .ok (.putfield 25, 3) := by decide +kernel
theorem dX5_init_37 : decode cX5_init 37 = .ok (.return_, 1) := by decide +kernel
theorem dX5_add_0 : decode cX5_add 0 = .ok (.iload_n 1, 1) := by decide +kernel
theorem dX5_add_1 : decode cX5_add 1 = .ok (.ifCond .eq 32, 3) := by decide +kernel
theorem dX5_add_4 : decode cX5_add 4 = .ok (.aload_n 0, 1) := by decide +kernel
theorem dX5_add_5 : decode cX5_add 5 = .ok (.getfield 28, 3) := by decide +kernel
theorem dX5_add_8 : decode cX5_add 8 = .ok (.bipush 60, 2) := by decide +kernel
theorem dX5_add_10 : decode cX5_add 10 = .ok (.if_icmp .ge 23, 3) := by decide +kernel
theorem dX5_add_13 : decode cX5_add 13 = .ok (.aload_n 0, 1) := by decide +kernel
theorem dX5_add_14 : decode cX5_add 14 = .ok (.getfield 9, 3) := by decide +kernel
theorem dX5_add_17 : decode cX5_add 17 = .ok (.aload_n 0, 1) := by decide +kernel
theorem dX5_add_18 : decode cX5_add 18 = .ok (.getfield 28, 3) := by decide +kernel
theorem dX5_add_21 : decode cX5_add 21 = .ok (.iload_n 1, 1) := by decide +kernel
theorem dX5_add_22 : decode cX5_add 22 = .ok (.castore, 1) := by decide +kernel
theorem dX5_add_23 : decode cX5_add 23 = .ok (.aload_n 0, 1) := by decide +kernel
theorem dX5_add_24 : decode cX5_add 24 = .ok (.dup, 1) := by decide +kernel
theorem dX5_add_25 : decode cX5_add 25 = .ok (.getfield 28, 3) := by decide +kernel
theorem dX5_add_28 : decode cX5_add 28 = .ok (.iconst 1, 1) := by decide +kernel
theorem dX5_add_29 : decode cX5_add 29 = .ok (.iadd, 1) := by decide +kernel
theorem dX5_add_30 : decode cX5_add 30 = .ok (.putfield 28, 3) := by decide +kernel
theorem dX5_add_33 : decode cX5_add 33 = .ok (.return_, 1) := by decide +kernel
theorem dX5_numberAt_0 : decode cX5_numberAt 0 = .ok (.aload_n 0, 1) := by decide +kernel
theorem dX5_numberAt_1 : decode cX5_numberAt 1 = .ok (.getfield 25, 3) := by decide +kernel
theorem dX5_numberAt_4 : decode cX5_numberAt 4 = .ok (.iload_n 1, 1) := by decide +kernel
theorem dX5_numberAt_5 : decode cX5_numberAt 5 = .ok (.iconst 5, 1) := by decide +kernel
theorem dX5_numberAt_6 : decode cX5_numberAt 6 = .ok (.imul, 1) := by decide +kernel
theorem dX5_numberAt_7 : decode cX5_numberAt 7 = .ok (.iload_n 2, 1) := by decide +kernel
theorem dX5_numberAt_8 : decode cX5_numberAt 8 = .ok (.iadd, 1) := by decide +kernel
theorem dX5_numberAt_9 : decode cX5_numberAt 9 = .ok (.iaload, 1) := by decide +kernel
theorem dX5_numberAt_10 : decode cX5_numberAt 10 = .ok (.ireturn, 1) := by decide +kernel
theorem dX5_read_0 : decode cX5_read 0 = .ok (.aload_n 0, 1) := by decide +kernel
theorem dX5_read_1 : decode cX5_read 1 = .ok (.iconst 0, 1) := by decide +kernel
theorem dX5_read_2 : decode cX5_read 2 = .ok (.putfield 32, 3) := by decide +kernel
theorem dX5_read_5 : decode cX5_read 5 = .ok (.aload_n 0, 1) := by decide +kernel
theorem dX5_read_6 : decode cX5_read 6 = .ok (.iconst 0, 1) := by decide +kernel
theorem dX5_read_7 : decode cX5_read 7 = .ok (.putfield 35, 3) := by decide +kernel
theorem dX5_read_10 : decode cX5_read 10 = .ok (.aload_n 0, 1) := by decide +kernel
theorem dX5_read_11 : decode cX5_read 11 = .ok (.iconst (-1), 1) := by decide +kernel
theorem dX5_read_12 : decode cX5_read 12 = .ok (.putfield 38, 3) := by decide +kernel
theorem dX5_read_15 : decode cX5_read 15 = .ok (.iconst 0, 1) := by decide +kernel
theorem dX5_read_16 : decode cX5_read 16 = .ok (.istore_n 1, 1) := by decide +kernel
theorem dX5_read_17 : decode cX5_read 17 = .ok (.iload_n 1, 1) := by decide +kernel
theorem dX5_read_18 : decode cX5_read 18 = .ok (.bipush 10, 2) := by decide +kernel
theorem dX5_read_20 : decode cX5_read 20 = .ok (.if_icmp .ge 37, 3) := by decide +kernel
theorem dX5_read_23 : decode cX5_read 23 = .ok (.aload_n 0, 1) := by decide +kernel
theorem dX5_read_24 : decode cX5_read 24 = .ok (.getfield 38, 3) := by decide +kernel
theorem dX5_read_27 : decode cX5_read 27 = .ok (.iconst (-1), 1) := by decide +kernel
theorem dX5_read_28 : decode cX5_read 28 = .ok (.if_icmp .ne 29, 3) := by decide +kernel
theorem dX5_read_31 : decode cX5_read 31 = .ok (.iload_n 1, 1) := by decide +kernel
theorem dX5_read_32 : decode cX5_read 32 = .ok (.ifCond .eq 14, 3) := by decide +kernel
theorem dX5_read_35 : decode cX5_read 35 = .ok (.aload_n 0, 1) := by decide +kernel
theorem dX5_read_36 : decode cX5_read 36 = .ok (.getfield 32, 3) := by decide +kernel
theorem dX5_read_39 : decode cX5_read 39 = .ok (.aload_n 0, 1) := by decide +kernel
theorem dX5_read_40 : decode cX5_read 40 = .ok (.getfield 28, 3) := by decide +kernel
theorem dX5_read_43 : decode cX5_read 43 = .ok (.if_icmp .ge 14, 3) := by decide +kernel
theorem dX5_read_46 : decode cX5_read 46 = .ok (.aload_n 0, 1) := by decide +kernel
theorem dX5_read_47 : decode cX5_read 47 = .ok (.iload_n 1, 1) := by decide +kernel
theorem dX5_read_48 : decode cX5_read 48 = .ok (.invokevirtual 41, 3) := by decide +kernel
theorem dX5_read_51 : decode cX5_read 51 = .ok (.iinc 1 1, 3) := by decide +kernel
theorem dX5_read_54 : decode cX5_read 54 = .ok (.goto (-37), 3) := by decide +kernel
theorem dX5_read_57 : decode cX5_read 57 = .ok (.aload_n 0, 1) := by decide +kernel
theorem dX5_read_58 : decode cX5_read 58 = .ok (.getfield 38, 3) := by decide +kernel
theorem dX5_read_61 : decode cX5_read 61 = .ok (.ireturn, 1) := by decide +kernel
theorem dX5_readCommand_0 : decode cX5_readCommand 0 = .ok (.aload_n 0, 1) := by decide +kernel
theorem dX5_readCommand_1 : decode cX5_readCommand 1 = .ok (.getfield 15, 3) := by decide +kernel
theorem dX5_readCommand_4 : decode cX5_readCommand 4 = .ok (.iload_n 1, 1) := by decide +kernel
theorem dX5_readCommand_5 : decode cX5_readCommand 5 = .ok (.aload_n 0, 1) := by decide +kernel
theorem dX5_readCommand_6 : decode cX5_readCommand 6 = .ok (.getfield 32, 3) := by decide +kernel
theorem dX5_readCommand_9 : decode cX5_readCommand 9 = .ok (.iastore, 1) := by decide +kernel
theorem dX5_readCommand_10 : decode cX5_readCommand 10 = .ok (.aload_n 0, 1) := by decide +kernel
theorem dX5_readCommand_11 : decode cX5_readCommand 11 = .ok (.invokevirtual 45, 3) := by decide +kernel
theorem dX5_readCommand_14 : decode cX5_readCommand 14 = .ok (.astore_n 2, 1) := by decide +kernel
theorem dX5_readCommand_15 : decode cX5_readCommand 15 = .ok (.aload_n 2, 1) := by decide +kernel
theorem dX5_readCommand_16 : decode cX5_readCommand 16 = .ok (.ifnonnull 4, 3) := by decide +kernel
theorem dX5_readCommand_19 : decode cX5_readCommand 19 = .ok (.return_, 1) := by decide +kernel
theorem dX5_readCommand_20 : decode cX5_readCommand 20 = .ok (.aload_n 0, 1) := by decide +kernel
theorem dX5_readCommand_21 : decode cX5_readCommand 21 = .ok (.getfield 21, 3) := by decide +kernel
theorem dX5_readCommand_24 : decode cX5_readCommand 24 = .ok (.iload_n 1, 1) := by decide +kernel
theorem dX5_readCommand_25 : decode cX5_readCommand 25 = .ok (.aload_n 2, 1) := by decide +kernel
theorem dX5_readCommand_26 : decode cX5_readCommand 26 = .ok (.aastore, 1) := by decide +kernel
theorem dX5_readCommand_27 : decode cX5_readCommand 27 = .ok (.aload_n 0, 1) := by decide +kernel
theorem dX5_readCommand_28 : decode cX5_readCommand 28 = .ok (.bipush 58, 2) := by decide +kernel
theorem dX5_readCommand_30 : decode cX5_readCommand 30 = .ok (.invokevirtual 49, 3) := by decide +kernel
theorem dX5_readCommand_33 : decode cX5_readCommand 33 = .ok (.iconst 0, 1) := by decide +kernel
theorem dX5_readCommand_34 : decode cX5_readCommand 34 = .ok (.istore_n 3, 1) := by decide +kernel
theorem dX5_readCommand_35 : decode cX5_readCommand 35 = .ok (.iload_n 3, 1) := by decide +kernel
theorem dX5_readCommand_36 : decode cX5_readCommand 36 = .ok (.aload_n 2, 1) := by decide +kernel
theorem dX5_readCommand_37 : decode cX5_readCommand 37 = .ok (.getfield 53, 3) := by decide +kernel
theorem dX5_readCommand_40 : decode cX5_readCommand 40 = .ok (.if_icmp .ge 38, 3) := by decide +kernel
theorem dX5_readCommand_43 : decode cX5_readCommand 43 = .ok (.iload_n 3, 1) := by decide +kernel
theorem dX5_readCommand_44 : decode cX5_readCommand 44 = .ok (.iconst 5, 1) := by decide +kernel
theorem dX5_readCommand_45 : decode cX5_readCommand 45 = .ok (.if_icmp .ge 33, 3) := by decide +kernel
theorem dX5_readCommand_48 : decode cX5_readCommand 48 = .ok (.iload_n 3, 1) := by decide +kernel
theorem dX5_readCommand_49 : decode cX5_readCommand 49 = .ok (.ifCond .le 9, 3) := by decide +kernel
theorem dX5_readCommand_52 : decode cX5_readCommand 52 = .ok (.aload_n 0, 1) := by decide +kernel
theorem dX5_readCommand_53 : decode cX5_readCommand 53 = .ok (.bipush 44, 2) := by decide +kernel
theorem dX5_readCommand_55 : decode cX5_readCommand 55 = .ok (.invokevirtual 49, 3) := by decide +kernel
theorem dX5_readCommand_58 : decode cX5_readCommand 58 = .ok (.aload_n 0, 1) := by decide +kernel
theorem dX5_readCommand_59 : decode cX5_readCommand 59 = .ok (.getfield 25, 3) := by decide +kernel
theorem dX5_readCommand_62 : decode cX5_readCommand 62 = .ok (.iload_n 1, 1) := by decide +kernel
theorem dX5_readCommand_63 : decode cX5_readCommand 63 = .ok (.iconst 5, 1) := by decide +kernel
theorem dX5_readCommand_64 : decode cX5_readCommand 64 = .ok (.imul, 1) := by decide +kernel
theorem dX5_readCommand_65 : decode cX5_readCommand 65 = .ok (.iload_n 3, 1) := by decide +kernel
theorem dX5_readCommand_66 : decode cX5_readCommand 66 = .ok (.iadd, 1) := by decide +kernel
theorem dX5_readCommand_67 : decode cX5_readCommand 67 = .ok (.aload_n 0, 1) := by decide +kernel
theorem dX5_readCommand_68 : decode cX5_readCommand 68 = .ok (.invokevirtual 55, 3) := by decide +kernel
theorem dX5_readCommand_71 : decode cX5_readCommand 71 = .ok (.iastore, 1) := by decide +kernel
theorem dX5_readCommand_72 : decode cX5_readCommand 72 = .ok (.iinc 3 1, 3) := by decide +kernel
theorem dX5_readCommand_75 : decode cX5_readCommand 75 = .ok (.goto (-40), 3) := by decide +kernel
theorem dX5_readCommand_78 : decode cX5_readCommand 78 = .ok (.aload_n 0, 1) := by decide +kernel
theorem dX5_readCommand_79 : decode cX5_readCommand 79 = .ok (.bipush 59, 2) := by decide +kernel
theorem dX5_readCommand_81 : decode cX5_readCommand 81 = .ok (.invokevirtual 49, 3) := by decide +kernel
theorem dX5_readCommand_84 : decode cX5_readCommand 84 = .ok (.aload_n 0, 1) := by decide +kernel
theorem dX5_readCommand_85 : decode cX5_readCommand 85 = .ok (.dup, 1) := by decide +kernel
theorem dX5_readCommand_86 : decode cX5_readCommand 86 = .ok (.getfield 35, 3) := by decide +kernel
theorem dX5_readCommand_89 : decode cX5_readCommand 89 = .ok (.iconst 1, 1) := by decide +kernel
theorem dX5_readCommand_90 : decode cX5_readCommand 90 = .ok (.iadd, 1) := by decide +kernel
theorem dX5_readCommand_91 : decode cX5_readCommand 91 = .ok (.putfield 35, 3) := by decide +kernel
theorem dX5_readCommand_94 : decode cX5_readCommand 94 = .ok (.return_, 1) := by decide +kernel
theorem dX5_readWord_0 : decode cX5_readWord 0 = .ok (.aload_n 0, 1) := by decide +kernel
theorem dX5_readWord_1 : decode cX5_readWord 1 = .ok (.getfield 32, 3) := by decide +kernel
theorem dX5_readWord_4 : decode cX5_readWord 4 = .ok (.istore_n 1, 1) := by decide +kernel
theorem dX5_readWord_5 : decode cX5_readWord 5 = .ok (.iconst 0, 1) := by decide +kernel
theorem dX5_readWord_6 : decode cX5_readWord 6 = .ok (.istore_n 2, 1) := by decide +kernel
theorem dX5_readWord_7 : decode cX5_readWord 7 = .ok (.iload_n 2, 1) := by decide +kernel
theorem dX5_readWord_8 : decode cX5_readWord 8 = .ok (.bipush 60, 2) := by decide +kernel
theorem dX5_readWord_10 : decode cX5_readWord 10 = .ok (.if_icmp .ge 30, 3) := by decide +kernel
theorem dX5_readWord_13 : decode cX5_readWord 13 = .ok (.aload_n 0, 1) := by decide +kernel
theorem dX5_readWord_14 : decode cX5_readWord 14 = .ok (.bipush 97, 2) := by decide +kernel
theorem dX5_readWord_16 : decode cX5_readWord 16 = .ok (.bipush 122, 2) := by decide +kernel
theorem dX5_readWord_18 : decode cX5_readWord 18 = .ok (.invokevirtual 59, 3) := by decide +kernel
theorem dX5_readWord_21 : decode cX5_readWord 21 = .ok (.ifCond .eq 19, 3) := by decide +kernel
theorem dX5_readWord_24 : decode cX5_readWord 24 = .ok (.aload_n 0, 1) := by decide +kernel
theorem dX5_readWord_25 : decode cX5_readWord 25 = .ok (.dup, 1) := by decide +kernel
theorem dX5_readWord_26 : decode cX5_readWord 26 = .ok (.getfield 32, 3) := by decide +kernel
theorem dX5_readWord_29 : decode cX5_readWord 29 = .ok (.iconst 1, 1) := by decide +kernel
theorem dX5_readWord_30 : decode cX5_readWord 30 = .ok (.iadd, 1) := by decide +kernel
theorem dX5_readWord_31 : decode cX5_readWord 31 = .ok (.putfield 32, 3) := by decide +kernel
theorem dX5_readWord_34 : decode cX5_readWord 34 = .ok (.iinc 2 1, 3) := by decide +kernel
theorem dX5_readWord_37 : decode cX5_readWord 37 = .ok (.goto (-30), 3) := by decide +kernel
theorem dX5_readWord_40 : decode cX5_readWord 40 = .ok (.iconst 0, 1) := by decide +kernel
theorem dX5_readWord_41 : decode cX5_readWord 41 = .ok (.istore_n 2, 1) := by decide +kernel
theorem dX5_readWord_42 : decode cX5_readWord 42 = .ok (.iload_n 2, 1) := by decide +kernel
theorem dX5_readWord_43 : decode cX5_readWord 43 = .ok (.getstatic 63, 3) := by decide +kernel
theorem dX5_readWord_46 : decode cX5_readWord 46 = .ok (.arraylength, 1) := by decide +kernel
theorem dX5_readWord_47 : decode cX5_readWord 47 = .ok (.if_icmp .ge 31, 3) := by decide +kernel
theorem dX5_readWord_50 : decode cX5_readWord 50 = .ok (.aload_n 0, 1) := by decide +kernel
theorem dX5_readWord_51 : decode cX5_readWord 51 = .ok (.getstatic 63, 3) := by decide +kernel
theorem dX5_readWord_54 : decode cX5_readWord 54 = .ok (.iload_n 2, 1) := by decide +kernel
theorem dX5_readWord_55 : decode cX5_readWord 55 = .ok (.aaload, 1) := by decide +kernel
theorem dX5_readWord_56 : decode cX5_readWord 56 = .ok (.getfield 66, 3) := by decide +kernel
theorem dX5_readWord_59 : decode cX5_readWord 59 = .ok (.iload_n 1, 1) := by decide +kernel
theorem dX5_readWord_60 : decode cX5_readWord 60 = .ok (.invokevirtual 70, 3) := by decide +kernel
theorem dX5_readWord_63 : decode cX5_readWord 63 = .ok (.ifCond .eq 9, 3) := by decide +kernel
theorem dX5_readWord_66 : decode cX5_readWord 66 = .ok (.getstatic 63, 3) := by decide +kernel
theorem dX5_readWord_69 : decode cX5_readWord 69 = .ok (.iload_n 2, 1) := by decide +kernel
theorem dX5_readWord_70 : decode cX5_readWord 70 = .ok (.aaload, 1) := by decide +kernel
theorem dX5_readWord_71 : decode cX5_readWord 71 = .ok (.areturn, 1) := by decide +kernel
theorem dX5_readWord_72 : decode cX5_readWord 72 = .ok (.iinc 2 1, 3) := by decide +kernel
theorem dX5_readWord_75 : decode cX5_readWord 75 = .ok (.goto (-33), 3) := by decide +kernel
theorem dX5_readWord_78 : decode cX5_readWord 78 = .ok (.aload_n 0, 1) := by decide +kernel
theorem dX5_readWord_79 : decode cX5_readWord 79 = .ok (.iload_n 1, 1) := by decide +kernel
theorem dX5_readWord_80 : decode cX5_readWord 80 = .ok (.putfield 38, 3) := by decide +kernel
theorem dX5_readWord_83 : decode cX5_readWord 83 = .ok (.aconst_null, 1) := by decide +kernel
theorem dX5_readWord_84 : decode cX5_readWord 84 = .ok (.areturn, 1) := by decide +kernel
theorem dX5_isWord_0 : decode cX5_isWord 0 = .ok (.aload_n 1, 1) := by decide +kernel
theorem dX5_isWord_1 : decode cX5_isWord 1 = .ok (.invokevirtual 74, 3) := by decide +kernel
theorem dX5_isWord_4 : decode cX5_isWord 4 = .ok (.aload_n 0, 1) := by decide +kernel
theorem dX5_isWord_5 : decode cX5_isWord 5 = .ok (.getfield 32, 3) := by decide +kernel
theorem dX5_isWord_8 : decode cX5_isWord 8 = .ok (.iload_n 2, 1) := by decide +kernel
theorem dX5_isWord_9 : decode cX5_isWord 9 = .ok (.isub, 1) := by decide +kernel
theorem dX5_isWord_10 : decode cX5_isWord 10 = .ok (.if_icmp .eq 5, 3) := by decide +kernel
theorem dX5_isWord_13 : decode cX5_isWord 13 = .ok (.iconst 0, 1) := by decide +kernel
theorem dX5_isWord_14 : decode cX5_isWord 14 = .ok (.ireturn, 1) := by decide +kernel
theorem dX5_isWord_15 : decode cX5_isWord 15 = .ok (.iconst 0, 1) := by decide +kernel
theorem dX5_isWord_16 : decode cX5_isWord 16 = .ok (.istore_n 3, 1) := by decide +kernel
theorem dX5_isWord_17 : decode cX5_isWord 17 = .ok (.iload_n 3, 1) := by decide +kernel
theorem dX5_isWord_18 : decode cX5_isWord 18 = .ok (.aload_n 1, 1) := by decide +kernel
theorem dX5_isWord_19 : decode cX5_isWord 19 = .ok (.invokevirtual 74, 3) := by decide +kernel
theorem dX5_isWord_22 : decode cX5_isWord 22 = .ok (.if_icmp .ge 27, 3) := by decide +kernel
theorem dX5_isWord_25 : decode cX5_isWord 25 = .ok (.aload_n 1, 1) := by decide +kernel
theorem dX5_isWord_26 : decode cX5_isWord 26 = .ok (.iload_n 3, 1) := by decide +kernel
theorem dX5_isWord_27 : decode cX5_isWord 27 = .ok (.invokevirtual 78, 3) := by decide +kernel
theorem dX5_isWord_30 : decode cX5_isWord 30 = .ok (.aload_n 0, 1) := by decide +kernel
theorem dX5_isWord_31 : decode cX5_isWord 31 = .ok (.getfield 9, 3) := by decide +kernel
theorem dX5_isWord_34 : decode cX5_isWord 34 = .ok (.iload_n 2, 1) := by decide +kernel
theorem dX5_isWord_35 : decode cX5_isWord 35 = .ok (.iload_n 3, 1) := by decide +kernel
theorem dX5_isWord_36 : decode cX5_isWord 36 = .ok (.iadd, 1) := by decide +kernel
theorem dX5_isWord_37 : decode cX5_isWord 37 = .ok (.caload, 1) := by decide +kernel
theorem dX5_isWord_38 : decode cX5_isWord 38 = .ok (.if_icmp .eq 5, 3) := by decide +kernel
theorem dX5_isWord_41 : decode cX5_isWord 41 = .ok (.iconst 0, 1) := by decide +kernel
theorem dX5_isWord_42 : decode cX5_isWord 42 = .ok (.ireturn, 1) := by decide +kernel
theorem dX5_isWord_43 : decode cX5_isWord 43 = .ok (.iinc 3 1, 3) := by decide +kernel
theorem dX5_isWord_46 : decode cX5_isWord 46 = .ok (.goto (-29), 3) := by decide +kernel
theorem dX5_isWord_49 : decode cX5_isWord 49 = .ok (.iconst 1, 1) := by decide +kernel
theorem dX5_isWord_50 : decode cX5_isWord 50 = .ok (.ireturn, 1) := by decide +kernel
theorem dX5_readSign_0 : decode cX5_readSign 0 = .ok (.aload_n 0, 1) := by decide +kernel
theorem dX5_readSign_1 : decode cX5_readSign 1 = .ok (.getfield 38, 3) := by decide +kernel
theorem dX5_readSign_4 : decode cX5_readSign 4 = .ok (.iconst (-1), 1) := by decide +kernel
theorem dX5_readSign_5 : decode cX5_readSign 5 = .ok (.if_icmp .ne 33, 3) := by decide +kernel
theorem dX5_readSign_8 : decode cX5_readSign 8 = .ok (.aload_n 0, 1) := by decide +kernel
theorem dX5_readSign_9 : decode cX5_readSign 9 = .ok (.iload_n 1, 1) := by decide +kernel
theorem dX5_readSign_10 : decode cX5_readSign 10 = .ok (.iload_n 1, 1) := by decide +kernel
theorem dX5_readSign_11 : decode cX5_readSign 11 = .ok (.invokevirtual 59, 3) := by decide +kernel
theorem dX5_readSign_14 : decode cX5_readSign 14 = .ok (.ifCond .eq 16, 3) := by decide +kernel
theorem dX5_readSign_17 : decode cX5_readSign 17 = .ok (.aload_n 0, 1) := by decide +kernel
theorem dX5_readSign_18 : decode cX5_readSign 18 = .ok (.dup, 1) := by decide +kernel
theorem dX5_readSign_19 : decode cX5_readSign 19 = .ok (.getfield 32, 3) := by decide +kernel
theorem dX5_readSign_22 : decode cX5_readSign 22 = .ok (.iconst 1, 1) := by decide +kernel
theorem dX5_readSign_23 : decode cX5_readSign 23 = .ok (.iadd, 1) := by decide +kernel
theorem dX5_readSign_24 : decode cX5_readSign 24 = .ok (.putfield 32, 3) := by decide +kernel
theorem dX5_readSign_27 : decode cX5_readSign 27 = .ok (.goto 11, 3) := by decide +kernel
theorem dX5_readSign_30 : decode cX5_readSign 30 = .ok (.aload_n 0, 1) := by decide +kernel
theorem dX5_readSign_31 : decode cX5_readSign 31 = .ok (.aload_n 0, 1) := by decide +kernel
theorem dX5_readSign_32 : decode cX5_readSign 32 = .ok (.getfield 32, 3) := by decide +kernel
theorem dX5_readSign_35 : decode cX5_readSign 35 = .ok (.putfield 38, 3) := by decide +kernel
theorem dX5_readSign_38 : decode cX5_readSign 38 = .ok (.return_, 1) := by decide +kernel
theorem dX5_readNumber_0 : decode cX5_readNumber 0 = .ok (.iconst 0, 1) := by decide +kernel
theorem dX5_readNumber_1 : decode cX5_readNumber 1 = .ok (.istore_n 1, 1) := by decide +kernel
theorem dX5_readNumber_2 : decode cX5_readNumber 2 = .ok (.iconst 0, 1) := by decide +kernel
theorem dX5_readNumber_3 : decode cX5_readNumber 3 = .ok (.istore_n 2, 1) := by decide +kernel
theorem dX5_readNumber_4 : decode cX5_readNumber 4 = .ok (.aload_n 0, 1) := by decide +kernel
theorem dX5_readNumber_5 : decode cX5_readNumber 5 = .ok (.getfield 38, 3) := by decide +kernel
theorem dX5_readNumber_8 : decode cX5_readNumber 8 = .ok (.iconst (-1), 1) := by decide +kernel
theorem dX5_readNumber_9 : decode cX5_readNumber 9 = .ok (.if_icmp .ne 61, 3) := by decide +kernel
theorem dX5_readNumber_12 : decode cX5_readNumber 12 = .ok (.iload_n 2, 1) := by decide +kernel
theorem dX5_readNumber_13 : decode cX5_readNumber 13 = .ok (.iconst 4, 1) := by decide +kernel
theorem dX5_readNumber_14 : decode cX5_readNumber 14 = .ok (.if_icmp .ge 56, 3) := by decide +kernel
theorem dX5_readNumber_17 : decode cX5_readNumber 17 = .ok (.iload_n 2, 1) := by decide +kernel
theorem dX5_readNumber_18 : decode cX5_readNumber 18 = .ok (.ifCond .le 7, 3) := by decide +kernel
theorem dX5_readNumber_21 : decode cX5_readNumber 21 = .ok (.iload_n 1, 1) := by decide +kernel
theorem dX5_readNumber_22 : decode cX5_readNumber 22 = .ok (.ifCond .eq 48, 3) := by decide +kernel
theorem dX5_readNumber_25 : decode cX5_readNumber 25 = .ok (.aload_n 0, 1) := by decide +kernel
theorem dX5_readNumber_26 : decode cX5_readNumber 26 = .ok (.bipush 48, 2) := by decide +kernel
theorem dX5_readNumber_28 : decode cX5_readNumber 28 = .ok (.bipush 57, 2) := by decide +kernel
theorem dX5_readNumber_30 : decode cX5_readNumber 30 = .ok (.invokevirtual 59, 3) := by decide +kernel
theorem dX5_readNumber_33 : decode cX5_readNumber 33 = .ok (.ifCond .eq 37, 3) := by decide +kernel
theorem dX5_readNumber_36 : decode cX5_readNumber 36 = .ok (.bipush 10, 2) := by decide +kernel
theorem dX5_readNumber_38 : decode cX5_readNumber 38 = .ok (.iload_n 1, 1) := by decide +kernel
theorem dX5_readNumber_39 : decode cX5_readNumber 39 = .ok (.imul, 1) := by decide +kernel
theorem dX5_readNumber_40 : decode cX5_readNumber 40 = .ok (.aload_n 0, 1) := by decide +kernel
theorem dX5_readNumber_41 : decode cX5_readNumber 41 = .ok (.getfield 9, 3) := by decide +kernel
theorem dX5_readNumber_44 : decode cX5_readNumber 44 = .ok (.aload_n 0, 1) := by decide +kernel
theorem dX5_readNumber_45 : decode cX5_readNumber 45 = .ok (.getfield 32, 3) := by decide +kernel
theorem dX5_readNumber_48 : decode cX5_readNumber 48 = .ok (.caload, 1) := by decide +kernel
theorem dX5_readNumber_49 : decode cX5_readNumber 49 = .ok (.iadd, 1) := by decide +kernel
theorem dX5_readNumber_50 : decode cX5_readNumber 50 = .ok (.bipush 48, 2) := by decide +kernel
theorem dX5_readNumber_52 : decode cX5_readNumber 52 = .ok (.isub, 1) := by decide +kernel
theorem dX5_readNumber_53 : decode cX5_readNumber 53 = .ok (.istore_n 1, 1) := by decide +kernel
theorem dX5_readNumber_54 : decode cX5_readNumber 54 = .ok (.iinc 2 1, 3) := by decide +kernel
theorem dX5_readNumber_57 : decode cX5_readNumber 57 = .ok (.aload_n 0, 1) := by decide +kernel
theorem dX5_readNumber_58 : decode cX5_readNumber 58 = .ok (.dup, 1) := by decide +kernel
theorem dX5_readNumber_59 : decode cX5_readNumber 59 = .ok (.getfield 32, 3) := by decide +kernel
theorem dX5_readNumber_62 : decode cX5_readNumber 62 = .ok (.iconst 1, 1) := by decide +kernel
theorem dX5_readNumber_63 : decode cX5_readNumber 63 = .ok (.iadd, 1) := by decide +kernel
theorem dX5_readNumber_64 : decode cX5_readNumber 64 = .ok (.putfield 32, 3) := by decide +kernel
theorem dX5_readNumber_67 : decode cX5_readNumber 67 = .ok (.goto (-63), 3) := by decide +kernel
theorem dX5_readNumber_70 : decode cX5_readNumber 70 = .ok (.aload_n 0, 1) := by decide +kernel
theorem dX5_readNumber_71 : decode cX5_readNumber 71 = .ok (.getfield 38, 3) := by decide +kernel
theorem dX5_readNumber_74 : decode cX5_readNumber 74 = .ok (.iconst (-1), 1) := by decide +kernel
theorem dX5_readNumber_75 : decode cX5_readNumber 75 = .ok (.if_icmp .ne 15, 3) := by decide +kernel
theorem dX5_readNumber_78 : decode cX5_readNumber 78 = .ok (.iload_n 2, 1) := by decide +kernel
theorem dX5_readNumber_79 : decode cX5_readNumber 79 = .ok (.ifCond .ne 11, 3) := by decide +kernel
theorem dX5_readNumber_82 : decode cX5_readNumber 82 = .ok (.aload_n 0, 1) := by decide +kernel
theorem dX5_readNumber_83 : decode cX5_readNumber 83 = .ok (.aload_n 0, 1) := by decide +kernel
theorem dX5_readNumber_84 : decode cX5_readNumber 84 = .ok (.getfield 32, 3) := by decide +kernel
theorem dX5_readNumber_87 : decode cX5_readNumber 87 = .ok (.putfield 38, 3) := by decide +kernel
theorem dX5_readNumber_90 : decode cX5_readNumber 90 = .ok (.iload_n 1, 1) := by decide +kernel
theorem dX5_readNumber_91 : decode cX5_readNumber 91 = .ok (.ireturn, 1) := by decide +kernel
theorem dX5_isNextWithin_0 : decode cX5_isNextWithin 0 = .ok (.aload_n 0, 1) := by decide +kernel
theorem dX5_isNextWithin_1 : decode cX5_isNextWithin 1 = .ok (.getfield 32, 3) := by decide +kernel
theorem dX5_isNextWithin_4 : decode cX5_isNextWithin 4 = .ok (.aload_n 0, 1) := by decide +kernel
theorem dX5_isNextWithin_5 : decode cX5_isNextWithin 5 = .ok (.getfield 28, 3) := by decide +kernel
theorem dX5_isNextWithin_8 : decode cX5_isNextWithin 8 = .ok (.if_icmp .ge 33, 3) := by decide +kernel
theorem dX5_isNextWithin_11 : decode cX5_isNextWithin 11 = .ok (.aload_n 0, 1) := by decide +kernel
theorem dX5_isNextWithin_12 : decode cX5_isNextWithin 12 = .ok (.getfield 32, 3) := by decide +kernel
theorem dX5_isNextWithin_15 : decode cX5_isNextWithin 15 = .ok (.bipush 60, 2) := by decide +kernel
theorem dX5_isNextWithin_17 : decode cX5_isNextWithin 17 = .ok (.if_icmp .ge 24, 3) := by decide +kernel
theorem dX5_isNextWithin_20 : decode cX5_isNextWithin 20 = .ok (.aload_n 0, 1) := by decide +kernel
theorem dX5_isNextWithin_21 : decode cX5_isNextWithin 21 = .ok (.getfield 9, 3) := by decide +kernel
theorem dX5_isNextWithin_24 : decode cX5_isNextWithin 24 = .ok (.aload_n 0, 1) := by decide +kernel
theorem dX5_isNextWithin_25 : decode cX5_isNextWithin 25 = .ok (.getfield 32, 3) := by decide +kernel
theorem dX5_isNextWithin_28 : decode cX5_isNextWithin 28 = .ok (.caload, 1) := by decide +kernel
theorem dX5_isNextWithin_29 : decode cX5_isNextWithin 29 = .ok (.iload_n 1, 1) := by decide +kernel
theorem dX5_isNextWithin_30 : decode cX5_isNextWithin 30 = .ok (.iload_n 2, 1) := by decide +kernel
theorem dX5_isNextWithin_31 : decode cX5_isNextWithin 31 = .ok (.invokestatic 82, 3) := by decide +kernel
theorem dX5_isNextWithin_34 : decode cX5_isNextWithin 34 = .ok (.ifCond .eq 7, 3) := by decide +kernel
theorem dX5_isNextWithin_37 : decode cX5_isNextWithin 37 = .ok (.iconst 1, 1) := by decide +kernel
theorem dX5_isNextWithin_38 : decode cX5_isNextWithin 38 = .ok (.goto 4, 3) := by decide +kernel
theorem dX5_isNextWithin_41 : decode cX5_isNextWithin 41 = .ok (.iconst 0, 1) := by decide +kernel
theorem dX5_isNextWithin_42 : decode cX5_isNextWithin 42 = .ok (.ireturn, 1) := by decide +kernel
theorem dX6_init_0 : decode cX6_init 0 = .ok (.aload_n 0, 1) := by decide +kernel
theorem dX6_init_1 : decode cX6_init 1 = .ok (.invokespecial 3, 3) := by decide +kernel
theorem dX6_init_4 : decode cX6_init 4 = .ok (.aload_n 0, 1) := by decide +kernel
theorem dX6_init_5 : decode cX6_init 5 = .ok (.bipush 60, 2) := by decide +kernel
theorem dX6_init_7 : decode cX6_init 7 = .ok (.putfield 9, 3) := by decide +kernel
theorem dX6_init_10 : decode cX6_init 10 = .ok (.aload_n 0, 1) := by decide +kernel
theorem dX6_init_11 : decode cX6_init 11 = .ok (.bipush 14, 2) := by decide +kernel
theorem dX6_init_13 : decode cX6_init 13 = .ok (.putfield 15, 3) := by decide +kernel
theorem dX6_init_16 : decode cX6_init 16 = .ok (.aload_n 0, 1) := by decide +kernel
theorem dX6_init_17 : decode cX6_init 17 = .ok (.iconst 4, 1) := by decide +kernel
theorem dX6_init_18 : decode cX6_init 18 = .ok (.anewarray 18, 3) := by decide +kernel
theorem dX6_init_21 : decode cX6_init 21 = .ok (.putfield 20, 3) := by decide +kernel
theorem dX6_init_24 : decode cX6_init 24 = .ok (.iconst 0, 1) := by decide +kernel
theorem dX6_init_25 : decode cX6_init 25 = .ok (.istore_n 1, 1) := by decide +kernel
theorem dX6_init_26 : decode cX6_init 26 = .ok (.iload_n 1, 1) := by decide +kernel
theorem dX6_init_27 : decode cX6_init 27 = .ok (.iconst 4, 1) := by decide +kernel
theorem dX6_init_28 : decode cX6_init 28 = .ok (.if_icmp .ge 22, 3) := by decide +kernel
theorem dX6_init_31 : decode cX6_init 31 = .ok (.aload_n 0, 1) := by decide +kernel
theorem dX6_init_32 : decode cX6_init 32 = .ok (.getfield 20, 3) := by decide +kernel
theorem dX6_init_35 : decode cX6_init 35 = .ok (.iload_n 1, 1) := by decide +kernel
theorem dX6_init_36 : decode cX6_init 36 = .ok (.new 18, 3) := by decide +kernel
theorem dX6_init_39 : decode cX6_init 39 = .ok (.dup, 1) := by decide +kernel
theorem dX6_init_40 : decode cX6_init 40 = .ok (.invokespecial 24, 3) := by decide +kernel
theorem dX6_init_43 : decode cX6_init 43 = .ok (.aastore, 1) := by decide +kernel
theorem dX6_init_44 : decode cX6_init 44 = .ok (.iinc 1 1, 3) := by decide +kernel
theorem dX6_init_47 : decode cX6_init 47 = .ok (.goto (-21), 3) := by decide +kernel
theorem dX6_init_50 : decode cX6_init 50 = .ok (.return_, 1) := by decide +kernel
theorem dX6_copyFrom_0 : decode cX6_copyFrom 0 = .ok (.aload_n 0, 1) := by decide +kernel
theorem dX6_copyFrom_1 : decode cX6_copyFrom 1 = .ok (.aload_n 1, 1) := by decide +kernel
theorem dX6_copyFrom_2 : decode cX6_copyFrom 2 = .ok (.getfield 9, 3) := by decide +kernel
theorem dX6_copyFrom_5 : decode cX6_copyFrom 5 = .ok (.putfield 9, 3) := by decide +kernel
theorem dX6_copyFrom_8 : decode cX6_copyFrom 8 = .ok (.aload_n 0, 1) := by decide +kernel
theorem dX6_copyFrom_9 : decode cX6_copyFrom 9 = .ok (.aload_n 1, 1) := by decide +kernel
theorem dX6_copyFrom_10 : decode cX6_copyFrom 10 = .ok (.getfield 15, 3) := by decide +kernel
theorem dX6_copyFrom_13 : decode cX6_copyFrom 13 = .ok (.putfield 15, 3) := by decide +kernel
theorem dX6_copyFrom_16 : decode cX6_copyFrom 16 = .ok (.aload_n 0, 1) := by decide +kernel
theorem dX6_copyFrom_17 : decode cX6_copyFrom 17 = .ok (.aload_n 1, 1) := by decide +kernel
theorem dX6_copyFrom_18 : decode cX6_copyFrom 18 = .ok (.getfield 25, 3) := by decide +kernel
theorem dX6_copyFrom_21 : decode cX6_copyFrom 21 = .ok (.putfield 25, 3) := by decide +kernel
theorem dX6_copyFrom_24 : decode cX6_copyFrom 24 = .ok (.aload_n 0, 1) := by decide +kernel
theorem dX6_copyFrom_25 : decode cX6_copyFrom 25 = .ok (.aload_n 1, 1) := by decide +kernel
theorem dX6_copyFrom_26 : decode cX6_copyFrom 26 = .ok (.getfield 28, 3) := by decide +kernel
theorem dX6_copyFrom_29 : decode cX6_copyFrom 29 = .ok (.putfield 28, 3) := by decide +kernel
theorem dX6_copyFrom_32 : decode cX6_copyFrom 32 = .ok (.iconst 0, 1) := by decide +kernel
theorem dX6_copyFrom_33 : decode cX6_copyFrom 33 = .ok (.istore_n 2, 1) := by decide +kernel
theorem dX6_copyFrom_34 : decode cX6_copyFrom 34 = .ok (.iload_n 2, 1) := by decide +kernel
theorem dX6_copyFrom_35 : decode cX6_copyFrom 35 = .ok (.iconst 4, 1) := by decide +kernel
theorem dX6_copyFrom_36 : decode cX6_copyFrom 36 = .ok (.if_icmp .ge 24, 3) := by decide +kernel
theorem dX6_copyFrom_39 : decode cX6_copyFrom 39 = .ok (.aload_n 0, 1) := by decide +kernel
theorem dX6_copyFrom_40 : decode cX6_copyFrom 40 = .ok (.getfield 20, 3) := by decide +kernel
theorem dX6_copyFrom_43 : decode cX6_copyFrom 43 = .ok (.iload_n 2, 1) := by decide +kernel
theorem dX6_copyFrom_44 : decode cX6_copyFrom 44 = .ok (.aaload, 1) := by decide +kernel
theorem dX6_copyFrom_45 : decode cX6_copyFrom 45 = .ok (.aload_n 1, 1) := by decide +kernel
theorem dX6_copyFrom_46 : decode cX6_copyFrom 46 = .ok (.getfield 20, 3) := by decide +kernel
theorem dX6_copyFrom_49 : decode cX6_copyFrom 49 = .ok (.iload_n 2, 1) := by decide +kernel
theorem dX6_copyFrom_50 : decode cX6_copyFrom 50 = .ok (.aaload, 1) := by decide +kernel
theorem dX6_copyFrom_51 : decode cX6_copyFrom 51 = .ok (.invokevirtual 31, 3) := by decide +kernel
theorem dX6_copyFrom_54 : decode cX6_copyFrom 54 = .ok (.iinc 2 1, 3) := by decide +kernel
theorem dX6_copyFrom_57 : decode cX6_copyFrom 57 = .ok (.goto (-23), 3) := by decide +kernel
theorem dX6_copyFrom_60 : decode cX6_copyFrom 60 = .ok (.return_, 1) := by decide +kernel
theorem dX6_find_0 : decode cX6_find 0 = .ok (.iload_n 1, 1) := by decide +kernel
theorem dX6_find_1 : decode cX6_find 1 = .ok (.iconst 0, 1) := by decide +kernel
theorem dX6_find_2 : decode cX6_find 2 = .ok (.aload_n 0, 1) := by decide +kernel
theorem dX6_find_3 : decode cX6_find 3 = .ok (.getfield 28, 3) := by decide +kernel
theorem dX6_find_6 : decode cX6_find 6 = .ok (.iconst 1, 1) := by decide +kernel
theorem dX6_find_7 : decode cX6_find 7 = .ok (.isub, 1) := by decide +kernel
theorem dX6_find_8 : decode cX6_find 8 = .ok (.invokestatic 35, 3) := by decide +kernel
theorem dX6_find_11 : decode cX6_find 11 = .ok (.ifCond .eq 12, 3) := by decide +kernel
theorem dX6_find_14 : decode cX6_find 14 = .ok (.aload_n 0, 1) := by decide +kernel
theorem dX6_find_15 : decode cX6_find 15 = .ok (.getfield 20, 3) := by decide +kernel
theorem dX6_find_18 : decode cX6_find 18 = .ok (.iload_n 1, 1) := by decide +kernel
theorem dX6_find_19 : decode cX6_find 19 = .ok (.aaload, 1) := by decide +kernel
theorem dX6_find_20 : decode cX6_find 20 = .ok (.goto 4, 3) := by decide +kernel
theorem dX6_find_23 : decode cX6_find 23 = .ok (.aconst_null, 1) := by decide +kernel
theorem dX6_find_24 : decode cX6_find 24 = .ok (.areturn, 1) := by decide +kernel
theorem dX6_lastPosition_0 : decode cX6_lastPosition 0 = .ok (.aload_n 0, 1) := by decide +kernel
theorem dX6_lastPosition_1 : decode cX6_lastPosition 1 = .ok (.getfield 28, 3) := by decide +kernel
theorem dX6_lastPosition_4 : decode cX6_lastPosition 4 = .ok (.ifCond .le 20, 3) := by decide +kernel
theorem dX6_lastPosition_7 : decode cX6_lastPosition 7 = .ok (.aload_n 0, 1) := by decide +kernel
theorem dX6_lastPosition_8 : decode cX6_lastPosition 8 = .ok (.getfield 20, 3) := by decide +kernel
theorem dX6_lastPosition_11 : decode cX6_lastPosition 11 = .ok (.aload_n 0, 1) := by decide +kernel
theorem dX6_lastPosition_12 : decode cX6_lastPosition 12 = .ok (.getfield 28, 3) := by decide +kernel
theorem dX6_lastPosition_15 : decode cX6_lastPosition 15 = .ok (.iconst 1, 1) := by decide +kernel
theorem dX6_lastPosition_16 : decode cX6_lastPosition 16 = .ok (.isub, 1) := by decide +kernel
theorem dX6_lastPosition_17 : decode cX6_lastPosition 17 = .ok (.aaload, 1) := by decide +kernel
theorem dX6_lastPosition_18 : decode cX6_lastPosition 18 = .ok (.getfield 39, 3) := by decide +kernel
theorem dX6_lastPosition_21 : decode cX6_lastPosition 21 = .ok (.goto 4, 3) := by decide +kernel
theorem dX6_lastPosition_24 : decode cX6_lastPosition 24 = .ok (.iconst (-1), 1) := by decide +kernel
theorem dX6_lastPosition_25 : decode cX6_lastPosition 25 = .ok (.ireturn, 1) := by decide +kernel
theorem dX6_addJunction_0 : decode cX6_addJunction 0 = .ok (.aload_n 0, 1) := by decide +kernel
theorem dX6_addJunction_1 : decode cX6_addJunction 1 = .ok (.getfield 20, 3) := by decide +kernel
theorem dX6_addJunction_4 : decode cX6_addJunction 4 = .ok (.aload_n 0, 1) := by decide +kernel
theorem dX6_addJunction_5 : decode cX6_addJunction 5 = .ok (.getfield 28, 3) := by decide +kernel
theorem dX6_addJunction_8 : decode cX6_addJunction 8 = .ok (.aaload, 1) := by decide +kernel
theorem dX6_addJunction_9 : decode cX6_addJunction 9 = .ok (.iload_n 1, 1) := by decide +kernel
theorem dX6_addJunction_10 : decode cX6_addJunction 10 = .ok (.putfield 39, 3) := by decide +kernel
theorem dX6_addJunction_13 : decode cX6_addJunction 13 = .ok (.aload_n 0, 1) := by decide +kernel
theorem dX6_addJunction_14 : decode cX6_addJunction 14 = .ok (.dup, 1) := by decide +kernel
theorem dX6_addJunction_15 : decode cX6_addJunction 15 = .ok (.getfield 28, 3) := by decide +kernel
theorem dX6_addJunction_18 : decode cX6_addJunction 18 = .ok (.iconst 1, 1) := by decide +kernel
theorem dX6_addJunction_19 : decode cX6_addJunction 19 = .ok (.iadd, 1) := by decide +kernel
theorem dX6_addJunction_20 : decode cX6_addJunction 20 = .ok (.putfield 28, 3) := by decide +kernel
theorem dX6_addJunction_23 : decode cX6_addJunction 23 = .ok (.aload_n 0, 1) := by decide +kernel
theorem dX6_addJunction_24 : decode cX6_addJunction 24 = .ok (.getfield 28, 3) := by decide +kernel
theorem dX6_addJunction_27 : decode cX6_addJunction 27 = .ok (.iconst 1, 1) := by decide +kernel
theorem dX6_addJunction_28 : decode cX6_addJunction 28 = .ok (.isub, 1) := by decide +kernel
theorem dX6_addJunction_29 : decode cX6_addJunction 29 = .ok (.ireturn, 1) := by decide +kernel
theorem dX6_canTakeCycle_0 : decode cX6_canTakeCycle 0 = .ok (.iconst 0, 1) := by decide +kernel
theorem dX6_canTakeCycle_1 : decode cX6_canTakeCycle 1 = .ok (.istore_n 2, 1) := by decide +kernel
theorem dX6_canTakeCycle_2 : decode cX6_canTakeCycle 2 = .ok (.iload_n 2, 1) := by decide +kernel
theorem dX6_canTakeCycle_3 : decode cX6_canTakeCycle 3 = .ok (.aload_n 0, 1) := by decide +kernel
theorem dX6_canTakeCycle_4 : decode cX6_canTakeCycle 4 = .ok (.getfield 28, 3) := by decide +kernel
theorem dX6_canTakeCycle_7 : decode cX6_canTakeCycle 7 = .ok (.if_icmp .ge 59, 3) := by decide +kernel
theorem dX6_canTakeCycle_10 : decode cX6_canTakeCycle 10 = .ok (.aload_n 0, 1) := by decide +kernel
theorem dX6_canTakeCycle_11 : decode cX6_canTakeCycle 11 = .ok (.getfield 20, 3) := by decide +kernel
theorem dX6_canTakeCycle_14 : decode cX6_canTakeCycle 14 = .ok (.iload_n 2, 1) := by decide +kernel
theorem dX6_canTakeCycle_15 : decode cX6_canTakeCycle 15 = .ok (.aaload, 1) := by decide +kernel
theorem dX6_canTakeCycle_16 : decode cX6_canTakeCycle 16 = .ok (.astore_n 3, 1) := by decide +kernel
theorem dX6_canTakeCycle_17 : decode cX6_canTakeCycle 17 = .ok (.aload_n 3, 1) := by decide +kernel
theorem dX6_canTakeCycle_18 : decode cX6_canTakeCycle 18 = .ok (.iconst 0, 1) := by decide +kernel
theorem dX6_canTakeCycle_19 : decode cX6_canTakeCycle 19 = .ok (.invokevirtual 42, 3) := by decide +kernel
theorem dX6_canTakeCycle_22 : decode cX6_canTakeCycle 22 = .ok (.aload_n 3, 1) := by decide +kernel
theorem dX6_canTakeCycle_23 : decode cX6_canTakeCycle 23 = .ok (.iconst 1, 1) := by decide +kernel
theorem dX6_canTakeCycle_24 : decode cX6_canTakeCycle 24 = .ok (.invokevirtual 42, 3) := by decide +kernel
theorem dX6_canTakeCycle_27 : decode cX6_canTakeCycle 27 = .ok (.iadd, 1) := by decide +kernel
theorem dX6_canTakeCycle_28 : decode cX6_canTakeCycle 28 = .ok (.ifCond .le 7, 3) := by decide +kernel
theorem dX6_canTakeCycle_31 : decode cX6_canTakeCycle 31 = .ok (.iconst 1, 1) := by decide +kernel
theorem dX6_canTakeCycle_32 : decode cX6_canTakeCycle 32 = .ok (.goto 4, 3) := by decide +kernel
theorem dX6_canTakeCycle_35 : decode cX6_canTakeCycle 35 = .ok (.iconst 0, 1) := by decide +kernel
theorem dX6_canTakeCycle_36 : decode cX6_canTakeCycle 36 = .ok (.istore 4, 2) := by decide +kernel
theorem dX6_canTakeCycle_38 : decode cX6_canTakeCycle 38 = .ok (.iload 4, 2) := by decide +kernel
theorem dX6_canTakeCycle_40 : decode cX6_canTakeCycle 40 = .ok (.ifCond .ne 18, 3) := by decide +kernel
theorem dX6_canTakeCycle_43 : decode cX6_canTakeCycle 43 = .ok (.aload_n 3, 1) := by decide +kernel
theorem dX6_canTakeCycle_44 : decode cX6_canTakeCycle 44 = .ok (.getfield 46, 3) := by decide +kernel
theorem dX6_canTakeCycle_47 : decode cX6_canTakeCycle 47 = .ok (.iload_n 1, 1) := by decide +kernel
theorem dX6_canTakeCycle_48 : decode cX6_canTakeCycle 48 = .ok (.if_icmp .ge 10, 3) := by decide +kernel
theorem dX6_canTakeCycle_51 : decode cX6_canTakeCycle 51 = .ok (.aload_n 3, 1) := by decide +kernel
theorem dX6_canTakeCycle_52 : decode cX6_canTakeCycle 52 = .ok (.invokevirtual 49, 3) := by decide +kernel
theorem dX6_canTakeCycle_55 : decode cX6_canTakeCycle 55 = .ok (.ifCond .eq 5, 3) := by decide +kernel
theorem dX6_canTakeCycle_58 : decode cX6_canTakeCycle 58 = .ok (.iconst 0, 1) := by decide +kernel
theorem dX6_canTakeCycle_59 : decode cX6_canTakeCycle 59 = .ok (.ireturn, 1) := by decide +kernel
theorem dX6_canTakeCycle_60 : decode cX6_canTakeCycle 60 = .ok (.iinc 2 1, 3) := by decide +kernel
theorem dX6_canTakeCycle_63 : decode cX6_canTakeCycle 63 = .ok (.goto (-61), 3) := by decide +kernel
theorem dX6_canTakeCycle_66 : decode cX6_canTakeCycle 66 = .ok (.iconst 1, 1) := by decide +kernel
theorem dX6_canTakeCycle_67 : decode cX6_canTakeCycle 67 = .ok (.ireturn, 1) := by decide +kernel
theorem dX6_letPass_0 : decode cX6_letPass 0 = .ok (.iconst 0, 1) := by decide +kernel
theorem dX6_letPass_1 : decode cX6_letPass 1 = .ok (.istore_n 2, 1) := by decide +kernel
theorem dX6_letPass_2 : decode cX6_letPass 2 = .ok (.iconst 0, 1) := by decide +kernel
theorem dX6_letPass_3 : decode cX6_letPass 3 = .ok (.istore_n 3, 1) := by decide +kernel
theorem dX6_letPass_4 : decode cX6_letPass 4 = .ok (.iload_n 3, 1) := by decide +kernel
theorem dX6_letPass_5 : decode cX6_letPass 5 = .ok (.iload_n 1, 1) := by decide +kernel
theorem dX6_letPass_6 : decode cX6_letPass 6 = .ok (.if_icmp .ge 58, 3) := by decide +kernel
theorem dX6_letPass_9 : decode cX6_letPass 9 = .ok (.iconst 0, 1) := by decide +kernel
theorem dX6_letPass_10 : decode cX6_letPass 10 = .ok (.istore 4, 2) := by decide +kernel
theorem dX6_letPass_12 : decode cX6_letPass 12 = .ok (.iload 4, 2) := by decide +kernel
theorem dX6_letPass_14 : decode cX6_letPass 14 = .ok (.aload_n 0, 1) := by decide +kernel
theorem dX6_letPass_15 : decode cX6_letPass 15 = .ok (.getfield 28, 3) := by decide +kernel
theorem dX6_letPass_18 : decode cX6_letPass 18 = .ok (.if_icmp .ge 30, 3) := by decide +kernel
theorem dX6_letPass_21 : decode cX6_letPass 21 = .ok (.iload_n 2, 1) := by decide +kernel
theorem dX6_letPass_22 : decode cX6_letPass 22 = .ok (.aload_n 0, 1) := by decide +kernel
theorem dX6_letPass_23 : decode cX6_letPass 23 = .ok (.getfield 20, 3) := by decide +kernel
theorem dX6_letPass_26 : decode cX6_letPass 26 = .ok (.iload 4, 2) := by decide +kernel
theorem dX6_letPass_28 : decode cX6_letPass 28 = .ok (.aaload, 1) := by decide +kernel
theorem dX6_letPass_29 : decode cX6_letPass 29 = .ok (.aload_n 0, 1) := by decide +kernel
theorem dX6_letPass_30 : decode cX6_letPass 30 = .ok (.getfield 25, 3) := by decide +kernel
theorem dX6_letPass_33 : decode cX6_letPass 33 = .ok (.aload_n 0, 1) := by decide +kernel
theorem dX6_letPass_34 : decode cX6_letPass 34 = .ok (.getfield 9, 3) := by decide +kernel
theorem dX6_letPass_37 : decode cX6_letPass 37 = .ok (.invokevirtual 53, 3) := by decide +kernel
theorem dX6_letPass_40 : decode cX6_letPass 40 = .ok (.iadd, 1) := by decide +kernel
theorem dX6_letPass_41 : decode cX6_letPass 41 = .ok (.istore_n 2, 1) := by decide +kernel
theorem dX6_letPass_42 : decode cX6_letPass 42 = .ok (.iinc 4 1, 3) := by decide +kernel
theorem dX6_letPass_45 : decode cX6_letPass 45 = .ok (.goto (-33), 3) := by decide +kernel
theorem dX6_letPass_48 : decode cX6_letPass 48 = .ok (.aload_n 0, 1) := by decide +kernel
theorem dX6_letPass_49 : decode cX6_letPass 49 = .ok (.dup, 1) := by decide +kernel
theorem dX6_letPass_50 : decode cX6_letPass 50 = .ok (.getfield 25, 3) := by decide +kernel
theorem dX6_letPass_53 : decode cX6_letPass 53 = .ok (.iconst 1, 1) := by decide +kernel
theorem dX6_letPass_54 : decode cX6_letPass 54 = .ok (.iadd, 1) := by decide +kernel
theorem dX6_letPass_55 : decode cX6_letPass 55 = .ok (.putfield 25, 3) := by decide +kernel
theorem dX6_letPass_58 : decode cX6_letPass 58 = .ok (.iinc 3 1, 3) := by decide +kernel
theorem dX6_letPass_61 : decode cX6_letPass 61 = .ok (.goto (-57), 3) := by decide +kernel
theorem dX6_letPass_64 : decode cX6_letPass 64 = .ok (.iload_n 2, 1) := by decide +kernel
theorem dX6_letPass_65 : decode cX6_letPass 65 = .ok (.ireturn, 1) := by decide +kernel
theorem dX6_sumOf_0 : decode cX6_sumOf 0 = .ok (.iconst 0, 1) := by decide +kernel
theorem dX6_sumOf_1 : decode cX6_sumOf 1 = .ok (.istore_n 2, 1) := by decide +kernel
theorem dX6_sumOf_2 : decode cX6_sumOf 2 = .ok (.iconst 0, 1) := by decide +kernel
theorem dX6_sumOf_3 : decode cX6_sumOf 3 = .ok (.istore_n 3, 1) := by decide +kernel
theorem dX6_sumOf_4 : decode cX6_sumOf 4 = .ok (.iload_n 3, 1) := by decide +kernel
theorem dX6_sumOf_5 : decode cX6_sumOf 5 = .ok (.aload_n 0, 1) := by decide +kernel
theorem dX6_sumOf_6 : decode cX6_sumOf 6 = .ok (.getfield 28, 3) := by decide +kernel
theorem dX6_sumOf_9 : decode cX6_sumOf 9 = .ok (.if_icmp .ge 22, 3) := by decide +kernel
theorem dX6_sumOf_12 : decode cX6_sumOf 12 = .ok (.iload_n 2, 1) := by decide +kernel
theorem dX6_sumOf_13 : decode cX6_sumOf 13 = .ok (.aload_n 0, 1) := by decide +kernel
theorem dX6_sumOf_14 : decode cX6_sumOf 14 = .ok (.getfield 20, 3) := by decide +kernel
theorem dX6_sumOf_17 : decode cX6_sumOf 17 = .ok (.iload_n 3, 1) := by decide +kernel
theorem dX6_sumOf_18 : decode cX6_sumOf 18 = .ok (.aaload, 1) := by decide +kernel
theorem dX6_sumOf_19 : decode cX6_sumOf 19 = .ok (.iload_n 1, 1) := by decide +kernel
theorem dX6_sumOf_20 : decode cX6_sumOf 20 = .ok (.invokevirtual 57, 3) := by decide +kernel
theorem dX6_sumOf_23 : decode cX6_sumOf 23 = .ok (.iadd, 1) := by decide +kernel
theorem dX6_sumOf_24 : decode cX6_sumOf 24 = .ok (.istore_n 2, 1) := by decide +kernel
theorem dX6_sumOf_25 : decode cX6_sumOf 25 = .ok (.iinc 3 1, 3) := by decide +kernel
theorem dX6_sumOf_28 : decode cX6_sumOf 28 = .ok (.goto (-24), 3) := by decide +kernel
theorem dX6_sumOf_31 : decode cX6_sumOf 31 = .ok (.iload_n 2, 1) := by decide +kernel
theorem dX6_sumOf_32 : decode cX6_sumOf 32 = .ok (.ireturn, 1) := by decide +kernel
theorem dX7_init_0 : decode cX7_init 0 = .ok (.aload_n 0, 1) := by decide +kernel
theorem dX7_init_1 : decode cX7_init 1 = .ok (.invokespecial 3, 3) := by decide +kernel
theorem dX7_init_4 : decode cX7_init 4 = .ok (.aload_n 0, 1) := by decide +kernel
theorem dX7_init_5 : decode cX7_init 5 = .ok (.bipush 120, 2) := by decide +kernel
theorem dX7_init_7 : decode cX7_init 7 = .ok (.newarray .int, 2) := by decide +kernel
theorem dX7_init_9 : decode cX7_init 9 = .ok (.putfield 9, 3) := by decide +kernel
theorem dX7_init_12 : decode cX7_init 12 = .ok (.return_, 1) := by decide +kernel
theorem dX7_arePossible_0 : decode cX7_arePossible 0 = .ok (.iconst 0, 1) := by decide +kernel
theorem dX7_arePossible_1 : decode cX7_arePossible 1 = .ok (.istore_n 3, 1) := by decide +kernel
theorem dX7_arePossible_2 : decode cX7_arePossible 2 = .ok (.iload_n 3, 1) := by decide +kernel
theorem dX7_arePossible_3 : decode cX7_arePossible 3 = .ok (.aload_n 1, 1) := by decide +kernel
theorem dX7_arePossible_4 : decode cX7_arePossible 4 = .ok (.getfield 15, 3) := by decide +kernel
theorem dX7_arePossible_7 : decode cX7_arePossible 7 = .ok (.if_icmp .ge 48, 3) := by decide +kernel
theorem dX7_arePossible_10 : decode cX7_arePossible 10 = .ok (.aload_n 1, 1) := by decide +kernel
theorem dX7_arePossible_11 : decode cX7_arePossible 11 = .ok (.getfield 21, 3) := by decide +kernel
theorem dX7_arePossible_14 : decode cX7_arePossible 14 = .ok (.iload_n 3, 1) := by decide +kernel
theorem dX7_arePossible_15 : decode cX7_arePossible 15 = .ok (.aaload, 1) := by decide +kernel
theorem dX7_arePossible_16 : decode cX7_arePossible 16 = .ok (.astore 4, 2) := by decide +kernel
theorem dX7_arePossible_18 : decode cX7_arePossible 18 = .ok (.aload 4, 2) := by decide +kernel
theorem dX7_arePossible_20 : decode cX7_arePossible 20 = .ok (.iload_n 2, 1) := by decide +kernel
theorem dX7_arePossible_21 : decode cX7_arePossible 21 = .ok (.invokevirtual 25, 3) := by decide +kernel
theorem dX7_arePossible_24 : decode cX7_arePossible 24 = .ok (.ifCond .eq 23, 3) := by decide +kernel
theorem dX7_arePossible_27 : decode cX7_arePossible 27 = .ok (.aload 4, 2) := by decide +kernel
theorem dX7_arePossible_29 : decode cX7_arePossible 29 = .ok (.aload 4, 2) := by decide +kernel
theorem dX7_arePossible_31 : decode cX7_arePossible 31 = .ok (.getfield 31, 3) := by decide +kernel
theorem dX7_arePossible_34 : decode cX7_arePossible 34 = .ok (.aload 4, 2) := by decide +kernel
theorem dX7_arePossible_36 : decode cX7_arePossible 36 = .ok (.getfield 34, 3) := by decide +kernel
theorem dX7_arePossible_39 : decode cX7_arePossible 39 = .ok (.iload_n 2, 1) := by decide +kernel
theorem dX7_arePossible_40 : decode cX7_arePossible 40 = .ok (.iaload, 1) := by decide +kernel
theorem dX7_arePossible_41 : decode cX7_arePossible 41 = .ok (.invokevirtual 37, 3) := by decide +kernel
theorem dX7_arePossible_44 : decode cX7_arePossible 44 = .ok (.ifCond .ne 5, 3) := by decide +kernel
theorem dX7_arePossible_47 : decode cX7_arePossible 47 = .ok (.iconst 0, 1) := by decide +kernel
theorem dX7_arePossible_48 : decode cX7_arePossible 48 = .ok (.ireturn, 1) := by decide +kernel
theorem dX7_arePossible_49 : decode cX7_arePossible 49 = .ok (.iinc 3 1, 3) := by decide +kernel
theorem dX7_arePossible_52 : decode cX7_arePossible 52 = .ok (.goto (-50), 3) := by decide +kernel
theorem dX7_arePossible_55 : decode cX7_arePossible 55 = .ok (.aload_n 1, 1) := by decide +kernel
theorem dX7_arePossible_56 : decode cX7_arePossible 56 = .ok (.getfield 15, 3) := by decide +kernel
theorem dX7_arePossible_59 : decode cX7_arePossible 59 = .ok (.ifCond .le 7, 3) := by decide +kernel
theorem dX7_arePossible_62 : decode cX7_arePossible 62 = .ok (.iconst 1, 1) := by decide +kernel
theorem dX7_arePossible_63 : decode cX7_arePossible 63 = .ok (.goto 4, 3) := by decide +kernel
theorem dX7_arePossible_66 : decode cX7_arePossible 66 = .ok (.iconst 0, 1) := by decide +kernel
theorem dX7_arePossible_67 : decode cX7_arePossible 67 = .ok (.ireturn, 1) := by decide +kernel
theorem dX7_numberAt_0 : decode cX7_numberAt 0 = .ok (.iload_n 2, 1) := by decide +kernel
theorem dX7_numberAt_1 : decode cX7_numberAt 1 = .ok (.ifCond .ne 7, 3) := by decide +kernel
theorem dX7_numberAt_4 : decode cX7_numberAt 4 = .ok (.iload_n 3, 1) := by decide +kernel
theorem dX7_numberAt_5 : decode cX7_numberAt 5 = .ok (.goto 11, 3) := by decide +kernel
theorem dX7_numberAt_8 : decode cX7_numberAt 8 = .ok (.aload_n 1, 1) := by decide +kernel
theorem dX7_numberAt_9 : decode cX7_numberAt 9 = .ok (.getfield 15, 3) := by decide +kernel
theorem dX7_numberAt_12 : decode cX7_numberAt 12 = .ok (.iconst 1, 1) := by decide +kernel
theorem dX7_numberAt_13 : decode cX7_numberAt 13 = .ok (.isub, 1) := by decide +kernel
theorem dX7_numberAt_14 : decode cX7_numberAt 14 = .ok (.iload_n 3, 1) := by decide +kernel
theorem dX7_numberAt_15 : decode cX7_numberAt 15 = .ok (.isub, 1) := by decide +kernel
theorem dX7_numberAt_16 : decode cX7_numberAt 16 = .ok (.ireturn, 1) := by decide +kernel
theorem dX7_distanceTo_0 : decode cX7_distanceTo 0 = .ok (.iload_n 3, 1) := by decide +kernel
theorem dX7_distanceTo_1 : decode cX7_distanceTo 1 = .ok (.iconst 1, 1) := by decide +kernel
theorem dX7_distanceTo_2 : decode cX7_distanceTo 2 = .ok (.if_icmp .ge 5, 3) := by decide +kernel
theorem dX7_distanceTo_5 : decode cX7_distanceTo 5 = .ok (.iconst 0, 1) := by decide +kernel
theorem dX7_distanceTo_6 : decode cX7_distanceTo 6 = .ok (.ireturn, 1) := by decide +kernel
theorem dX7_distanceTo_7 : decode cX7_distanceTo 7 = .ok (.aload_n 1, 1) := by decide +kernel
theorem dX7_distanceTo_8 : decode cX7_distanceTo 8 = .ok (.getfield 21, 3) := by decide +kernel
theorem dX7_distanceTo_11 : decode cX7_distanceTo 11 = .ok (.aload_n 0, 1) := by decide +kernel
theorem dX7_distanceTo_12 : decode cX7_distanceTo 12 = .ok (.aload_n 1, 1) := by decide +kernel
theorem dX7_distanceTo_13 : decode cX7_distanceTo 13 = .ok (.iload_n 2, 1) := by decide +kernel
theorem dX7_distanceTo_14 : decode cX7_distanceTo 14 = .ok (.iload_n 3, 1) := by decide +kernel
theorem dX7_distanceTo_15 : decode cX7_distanceTo 15 = .ok (.iconst 1, 1) := by decide +kernel
theorem dX7_distanceTo_16 : decode cX7_distanceTo 16 = .ok (.isub, 1) := by decide +kernel
theorem dX7_distanceTo_17 : decode cX7_distanceTo 17 = .ok (.invokevirtual 41, 3) := by decide +kernel
theorem dX7_distanceTo_20 : decode cX7_distanceTo 20 = .ok (.aaload, 1) := by decide +kernel
theorem dX7_distanceTo_21 : decode cX7_distanceTo 21 = .ok (.astore 4, 2) := by decide +kernel
theorem dX7_distanceTo_23 : decode cX7_distanceTo 23 = .ok (.aload_n 1, 1) := by decide +kernel
theorem dX7_distanceTo_24 : decode cX7_distanceTo 24 = .ok (.getfield 21, 3) := by decide +kernel
theorem dX7_distanceTo_27 : decode cX7_distanceTo 27 = .ok (.aload_n 0, 1) := by decide +kernel
theorem dX7_distanceTo_28 : decode cX7_distanceTo 28 = .ok (.aload_n 1, 1) := by decide +kernel
theorem dX7_distanceTo_29 : decode cX7_distanceTo 29 = .ok (.iload_n 2, 1) := by decide +kernel
theorem dX7_distanceTo_30 : decode cX7_distanceTo 30 = .ok (.iload_n 3, 1) := by decide +kernel
theorem dX7_distanceTo_31 : decode cX7_distanceTo 31 = .ok (.invokevirtual 41, 3) := by decide +kernel
theorem dX7_distanceTo_34 : decode cX7_distanceTo 34 = .ok (.aaload, 1) := by decide +kernel
theorem dX7_distanceTo_35 : decode cX7_distanceTo 35 = .ok (.astore 5, 2) := by decide +kernel
theorem dX7_distanceTo_37 : decode cX7_distanceTo 37 = .ok (.aload 5, 2) := by decide +kernel
theorem dX7_distanceTo_39 : decode cX7_distanceTo 39 = .ok (.getfield 45, 3) := by decide +kernel
theorem dX7_distanceTo_42 : decode cX7_distanceTo 42 = .ok (.aload 4, 2) := by decide +kernel
theorem dX7_distanceTo_44 : decode cX7_distanceTo 44 = .ok (.getfield 45, 3) := by decide +kernel
theorem dX7_distanceTo_47 : decode cX7_distanceTo 47 = .ok (.isub, 1) := by decide +kernel
theorem dX7_distanceTo_48 : decode cX7_distanceTo 48 = .ok (.invokestatic 48, 3) := by decide +kernel
theorem dX7_distanceTo_51 : decode cX7_distanceTo 51 = .ok (.ireturn, 1) := by decide +kernel
theorem dX7_secondsTo_0 : decode cX7_secondsTo 0 = .ok (.aload_n 0, 1) := by decide +kernel
theorem dX7_secondsTo_1 : decode cX7_secondsTo 1 = .ok (.aload_n 1, 1) := by decide +kernel
theorem dX7_secondsTo_2 : decode cX7_secondsTo 2 = .ok (.iload_n 2, 1) := by decide +kernel
theorem dX7_secondsTo_3 : decode cX7_secondsTo 3 = .ok (.iload_n 3, 1) := by decide +kernel
theorem dX7_secondsTo_4 : decode cX7_secondsTo 4 = .ok (.invokevirtual 54, 3) := by decide +kernel
theorem dX7_secondsTo_7 : decode cX7_secondsTo 7 = .ok (.istore 4, 2) := by decide +kernel
