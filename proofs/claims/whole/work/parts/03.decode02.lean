theorem dX2_isDecisive_92 : decode cX2_isDecisive 92 = .ok (.iload 4, 2) := by decide +kernel
theorem dX2_isDecisive_94 : decode cX2_isDecisive 94 = .ok (.invokevirtual 76, 3) := by decide +kernel
theorem dX2_isDecisive_97 : decode cX2_isDecisive 97 = .ok (.aload_n 0, 1) := by decide +kernel
theorem dX2_isDecisive_98 : decode cX2_isDecisive 98 = .ok (.iload_n 1, 1) := by decide +kernel
theorem dX2_isDecisive_99 : decode cX2_isDecisive 99 = .ok (.iload_n 3, 1) := by decide +kernel
theorem dX2_isDecisive_100 : decode cX2_isDecisive 100 = .ok (.iload 5, 2) := by decide +kernel
theorem dX2_isDecisive_102 : decode cX2_isDecisive 102 = .ok (.invokevirtual 76, 3) := by decide +kernel
theorem dX2_isDecisive_105 : decode cX2_isDecisive 105 = .ok (.invokestatic 79, 3) := by decide +kernel
theorem dX2_isDecisive_108 : decode cX2_isDecisive 108 = .ok (.iinc 5 1, 3) := by decide +kernel
theorem dX2_isDecisive_111 : decode cX2_isDecisive 111 = .ok (.goto (-35), 3) := by decide +kernel
theorem dX2_isDecisive_114 : decode cX2_isDecisive 114 = .ok (.iinc 4 1, 3) := by decide +kernel
theorem dX2_isDecisive_117 : decode cX2_isDecisive 117 = .ok (.goto (-69), 3) := by decide +kernel
theorem dX2_isDecisive_120 : decode cX2_isDecisive 120 = .ok (.iinc 3 1, 3) := by decide +kernel
theorem dX2_isDecisive_123 : decode cX2_isDecisive 123 = .ok (.goto (-87), 3) := by decide +kernel
theorem dX2_isDecisive_126 : decode cX2_isDecisive 126 = .ok (.iload_n 1, 1) := by decide +kernel
theorem dX2_isDecisive_127 : decode cX2_isDecisive 127 = .ok (.iconst 1, 1) := by decide +kernel
theorem dX2_isDecisive_128 : decode cX2_isDecisive 128 = .ok (.iadd, 1) := by decide +kernel
theorem dX2_isDecisive_129 : decode cX2_isDecisive 129 = .ok (.istore_n 3, 1) := by decide +kernel
theorem dX2_isDecisive_130 : decode cX2_isDecisive 130 = .ok (.iload_n 3, 1) := by decide +kernel
theorem dX2_isDecisive_131 : decode cX2_isDecisive 131 = .ok (.aload_n 0, 1) := by decide +kernel
theorem dX2_isDecisive_132 : decode cX2_isDecisive 132 = .ok (.getfield 24, 3) := by decide +kernel
theorem dX2_isDecisive_135 : decode cX2_isDecisive 135 = .ok (.getfield 31, 3) := by decide +kernel
theorem dX2_isDecisive_138 : decode cX2_isDecisive 138 = .ok (.getfield 37, 3) := by decide +kernel
theorem dX2_isDecisive_141 : decode cX2_isDecisive 141 = .ok (.if_icmp .ge 14, 3) := by decide +kernel
theorem dX2_isDecisive_144 : decode cX2_isDecisive 144 = .ok (.aload_n 0, 1) := by decide +kernel
theorem dX2_isDecisive_145 : decode cX2_isDecisive 145 = .ok (.iload_n 3, 1) := by decide +kernel
theorem dX2_isDecisive_146 : decode cX2_isDecisive 146 = .ok (.invokevirtual 83, 3) := by decide +kernel
theorem dX2_isDecisive_149 : decode cX2_isDecisive 149 = .ok (.iinc 3 1, 3) := by decide +kernel
theorem dX2_isDecisive_152 : decode cX2_isDecisive 152 = .ok (.goto (-22), 3) := by decide +kernel
theorem dX2_isDecisive_155 : decode cX2_isDecisive 155 = .ok (.aload_n 0, 1) := by decide +kernel
theorem dX2_isDecisive_156 : decode cX2_isDecisive 156 = .ok (.invokevirtual 87, 3) := by decide +kernel
theorem dX2_isDecisive_159 : decode cX2_isDecisive 159 = .ok (.ireturn, 1) := by decide +kernel
theorem dX2_pair_0 : decode cX2_pair 0 = .ok (.iload_n 1, 1) := by decide +kernel
theorem dX2_pair_1 : decode cX2_pair 1 = .ok (.iload_n 2, 1) := by decide +kernel
theorem dX2_pair_2 : decode cX2_pair 2 = .ok (.if_icmp .eq 20, 3) := by decide +kernel
theorem dX2_pair_5 : decode cX2_pair 5 = .ok (.aload_n 0, 1) := by decide +kernel
theorem dX2_pair_6 : decode cX2_pair 6 = .ok (.iload_n 1, 1) := by decide +kernel
theorem dX2_pair_7 : decode cX2_pair 7 = .ok (.iload_n 2, 1) := by decide +kernel
theorem dX2_pair_8 : decode cX2_pair 8 = .ok (.invokestatic 91, 3) := by decide +kernel
theorem dX2_pair_11 : decode cX2_pair 11 = .ok (.dup2, 1) := by decide +kernel
theorem dX2_pair_12 : decode cX2_pair 12 = .ok (.iaload, 1) := by decide +kernel
theorem dX2_pair_13 : decode cX2_pair 13 = .ok (.iconst 1, 1) := by decide +kernel
theorem dX2_pair_14 : decode cX2_pair 14 = .ok (.iload_n 1, 1) := by decide +kernel
theorem dX2_pair_15 : decode cX2_pair 15 = .ok (.iload_n 2, 1) := by decide +kernel
theorem dX2_pair_16 : decode cX2_pair 16 = .ok (.invokestatic 96, 3) := by decide +kernel
theorem dX2_pair_19 : decode cX2_pair 19 = .ok (.ishl, 1) := by decide +kernel
theorem dX2_pair_20 : decode cX2_pair 20 = .ok (.ior, 1) := by decide +kernel
theorem dX2_pair_21 : decode cX2_pair 21 = .ok (.iastore, 1) := by decide +kernel
theorem dX2_pair_22 : decode cX2_pair 22 = .ok (.return_, 1) := by decide +kernel
theorem dX2_movePairs_0 : decode cX2_movePairs 0 = .ok (.aload_n 0, 1) := by decide +kernel
theorem dX2_movePairs_1 : decode cX2_movePairs 1 = .ok (.getfield 24, 3) := by decide +kernel
theorem dX2_movePairs_4 : decode cX2_movePairs 4 = .ok (.getfield 31, 3) := by decide +kernel
theorem dX2_movePairs_7 : decode cX2_movePairs 7 = .ok (.getfield 51, 3) := by decide +kernel
theorem dX2_movePairs_10 : decode cX2_movePairs 10 = .ok (.iload_n 1, 1) := by decide +kernel
theorem dX2_movePairs_11 : decode cX2_movePairs 11 = .ok (.aaload, 1) := by decide +kernel
theorem dX2_movePairs_12 : decode cX2_movePairs 12 = .ok (.astore_n 2, 1) := by decide +kernel
theorem dX2_movePairs_13 : decode cX2_movePairs 13 = .ok (.aload_n 0, 1) := by decide +kernel
theorem dX2_movePairs_14 : decode cX2_movePairs 14 = .ok (.getfield 21, 3) := by decide +kernel
theorem dX2_movePairs_17 : decode cX2_movePairs 17 = .ok (.iconst 0, 1) := by decide +kernel
theorem dX2_movePairs_18 : decode cX2_movePairs 18 = .ok (.invokestatic 70, 3) := by decide +kernel
theorem dX2_movePairs_21 : decode cX2_movePairs 21 = .ok (.iconst 0, 1) := by decide +kernel
theorem dX2_movePairs_22 : decode cX2_movePairs 22 = .ok (.istore_n 3, 1) := by decide +kernel
theorem dX2_movePairs_23 : decode cX2_movePairs 23 = .ok (.iload_n 3, 1) := by decide +kernel
theorem dX2_movePairs_24 : decode cX2_movePairs 24 = .ok (.bipush 21, 2) := by decide +kernel
theorem dX2_movePairs_26 : decode cX2_movePairs 26 = .ok (.if_icmp .ge 95, 3) := by decide +kernel
theorem dX2_movePairs_29 : decode cX2_movePairs 29 = .ok (.iload_n 3, 1) := by decide +kernel
theorem dX2_movePairs_30 : decode cX2_movePairs 30 = .ok (.iconst 1, 1) := by decide +kernel
theorem dX2_movePairs_31 : decode cX2_movePairs 31 = .ok (.iadd, 1) := by decide +kernel
theorem dX2_movePairs_32 : decode cX2_movePairs 32 = .ok (.istore 4, 2) := by decide +kernel
theorem dX2_movePairs_34 : decode cX2_movePairs 34 = .ok (.aload_n 0, 1) := by decide +kernel
theorem dX2_movePairs_35 : decode cX2_movePairs 35 = .ok (.getfield 18, 3) := by decide +kernel
theorem dX2_movePairs_38 : decode cX2_movePairs 38 = .ok (.iload_n 3, 1) := by decide +kernel
theorem dX2_movePairs_39 : decode cX2_movePairs 39 = .ok (.iaload, 1) := by decide +kernel
theorem dX2_movePairs_40 : decode cX2_movePairs 40 = .ok (.ifCond .eq 75, 3) := by decide +kernel
theorem dX2_movePairs_43 : decode cX2_movePairs 43 = .ok (.iload 4, 2) := by decide +kernel
theorem dX2_movePairs_45 : decode cX2_movePairs 45 = .ok (.bipush 21, 2) := by decide +kernel
theorem dX2_movePairs_47 : decode cX2_movePairs 47 = .ok (.if_icmp .ge 68, 3) := by decide +kernel
theorem dX2_movePairs_50 : decode cX2_movePairs 50 = .ok (.aload_n 2, 1) := by decide +kernel
theorem dX2_movePairs_51 : decode cX2_movePairs 51 = .ok (.getfield 55, 3) := by decide +kernel
theorem dX2_movePairs_54 : decode cX2_movePairs 54 = .ok (.istore 5, 2) := by decide +kernel
theorem dX2_movePairs_56 : decode cX2_movePairs 56 = .ok (.aload_n 0, 1) := by decide +kernel
theorem dX2_movePairs_57 : decode cX2_movePairs 57 = .ok (.getfield 18, 3) := by decide +kernel
theorem dX2_movePairs_60 : decode cX2_movePairs 60 = .ok (.iload_n 3, 1) := by decide +kernel
theorem dX2_movePairs_61 : decode cX2_movePairs 61 = .ok (.iaload, 1) := by decide +kernel
theorem dX2_movePairs_62 : decode cX2_movePairs 62 = .ok (.iload 4, 2) := by decide +kernel
theorem dX2_movePairs_64 : decode cX2_movePairs 64 = .ok (.iushr, 1) := by decide +kernel
theorem dX2_movePairs_65 : decode cX2_movePairs 65 = .ok (.iconst 1, 1) := by decide +kernel
theorem dX2_movePairs_66 : decode cX2_movePairs 66 = .ok (.iand, 1) := by decide +kernel
theorem dX2_movePairs_67 : decode cX2_movePairs 67 = .ok (.ifCond .eq 42, 3) := by decide +kernel
theorem dX2_movePairs_70 : decode cX2_movePairs 70 = .ok (.iload 5, 2) := by decide +kernel
theorem dX2_movePairs_72 : decode cX2_movePairs 72 = .ok (.aload_n 2, 1) := by decide +kernel
theorem dX2_movePairs_73 : decode cX2_movePairs 73 = .ok (.getfield 60, 3) := by decide +kernel
theorem dX2_movePairs_76 : decode cX2_movePairs 76 = .ok (.if_icmp .gt 33, 3) := by decide +kernel
theorem dX2_movePairs_79 : decode cX2_movePairs 79 = .ok (.aload_n 0, 1) := by decide +kernel
theorem dX2_movePairs_80 : decode cX2_movePairs 80 = .ok (.getfield 21, 3) := by decide +kernel
theorem dX2_movePairs_83 : decode cX2_movePairs 83 = .ok (.aload_n 0, 1) := by decide +kernel
theorem dX2_movePairs_84 : decode cX2_movePairs 84 = .ok (.iload_n 1, 1) := by decide +kernel
theorem dX2_movePairs_85 : decode cX2_movePairs 85 = .ok (.iload_n 3, 1) := by decide +kernel
theorem dX2_movePairs_86 : decode cX2_movePairs 86 = .ok (.iload 5, 2) := by decide +kernel
theorem dX2_movePairs_88 : decode cX2_movePairs 88 = .ok (.invokevirtual 76, 3) := by decide +kernel
theorem dX2_movePairs_91 : decode cX2_movePairs 91 = .ok (.aload_n 0, 1) := by decide +kernel
theorem dX2_movePairs_92 : decode cX2_movePairs 92 = .ok (.iload_n 1, 1) := by decide +kernel
theorem dX2_movePairs_93 : decode cX2_movePairs 93 = .ok (.iload 4, 2) := by decide +kernel
theorem dX2_movePairs_95 : decode cX2_movePairs 95 = .ok (.iload 5, 2) := by decide +kernel
theorem dX2_movePairs_97 : decode cX2_movePairs 97 = .ok (.invokevirtual 76, 3) := by decide +kernel
theorem dX2_movePairs_100 : decode cX2_movePairs 100 = .ok (.invokestatic 79, 3) := by decide +kernel
theorem dX2_movePairs_103 : decode cX2_movePairs 103 = .ok (.iinc 5 1, 3) := by decide +kernel
theorem dX2_movePairs_106 : decode cX2_movePairs 106 = .ok (.goto (-50), 3) := by decide +kernel
theorem dX2_movePairs_109 : decode cX2_movePairs 109 = .ok (.iinc 4 1, 3) := by decide +kernel
theorem dX2_movePairs_112 : decode cX2_movePairs 112 = .ok (.goto (-78), 3) := by decide +kernel
theorem dX2_movePairs_115 : decode cX2_movePairs 115 = .ok (.iinc 3 1, 3) := by decide +kernel
theorem dX2_movePairs_118 : decode cX2_movePairs 118 = .ok (.goto (-95), 3) := by decide +kernel
theorem dX2_movePairs_121 : decode cX2_movePairs 121 = .ok (.aload_n 0, 1) := by decide +kernel
theorem dX2_movePairs_122 : decode cX2_movePairs 122 = .ok (.getfield 18, 3) := by decide +kernel
theorem dX2_movePairs_125 : decode cX2_movePairs 125 = .ok (.astore_n 3, 1) := by decide +kernel
theorem dX2_movePairs_126 : decode cX2_movePairs 126 = .ok (.aload_n 0, 1) := by decide +kernel
theorem dX2_movePairs_127 : decode cX2_movePairs 127 = .ok (.aload_n 0, 1) := by decide +kernel
theorem dX2_movePairs_128 : decode cX2_movePairs 128 = .ok (.getfield 21, 3) := by decide +kernel
theorem dX2_movePairs_131 : decode cX2_movePairs 131 = .ok (.putfield 18, 3) := by decide +kernel
theorem dX2_movePairs_134 : decode cX2_movePairs 134 = .ok (.aload_n 0, 1) := by decide +kernel
theorem dX2_movePairs_135 : decode cX2_movePairs 135 = .ok (.aload_n 3, 1) := by decide +kernel
theorem dX2_movePairs_136 : decode cX2_movePairs 136 = .ok (.putfield 21, 3) := by decide +kernel
theorem dX2_movePairs_139 : decode cX2_movePairs 139 = .ok (.return_, 1) := by decide +kernel
theorem dX2_isOnePairLeft_0 : decode cX2_isOnePairLeft 0 = .ok (.iconst 0, 1) := by decide +kernel
theorem dX2_isOnePairLeft_1 : decode cX2_isOnePairLeft 1 = .ok (.istore_n 1, 1) := by decide +kernel
theorem dX2_isOnePairLeft_2 : decode cX2_isOnePairLeft 2 = .ok (.iload_n 1, 1) := by decide +kernel
theorem dX2_isOnePairLeft_3 : decode cX2_isOnePairLeft 3 = .ok (.bipush 21, 2) := by decide +kernel
theorem dX2_isOnePairLeft_5 : decode cX2_isOnePairLeft 5 = .ok (.if_icmp .ge 20, 3) := by decide +kernel
theorem dX2_isOnePairLeft_8 : decode cX2_isOnePairLeft 8 = .ok (.aload_n 0, 1) := by decide +kernel
theorem dX2_isOnePairLeft_9 : decode cX2_isOnePairLeft 9 = .ok (.getfield 18, 3) := by decide +kernel
theorem dX2_isOnePairLeft_12 : decode cX2_isOnePairLeft 12 = .ok (.iload_n 1, 1) := by decide +kernel
theorem dX2_isOnePairLeft_13 : decode cX2_isOnePairLeft 13 = .ok (.iaload, 1) := by decide +kernel
theorem dX2_isOnePairLeft_14 : decode cX2_isOnePairLeft 14 = .ok (.ifCond .eq 5, 3) := by decide +kernel
theorem dX2_isOnePairLeft_17 : decode cX2_isOnePairLeft 17 = .ok (.iconst 1, 1) := by decide +kernel
theorem dX2_isOnePairLeft_18 : decode cX2_isOnePairLeft 18 = .ok (.ireturn, 1) := by decide +kernel
theorem dX2_isOnePairLeft_19 : decode cX2_isOnePairLeft 19 = .ok (.iinc 1 1, 3) := by decide +kernel
theorem dX2_isOnePairLeft_22 : decode cX2_isOnePairLeft 22 = .ok (.goto (-20), 3) := by decide +kernel
theorem dX2_isOnePairLeft_25 : decode cX2_isOnePairLeft 25 = .ok (.iconst 0, 1) := by decide +kernel
theorem dX2_isOnePairLeft_26 : decode cX2_isOnePairLeft 26 = .ok (.ireturn, 1) := by decide +kernel
theorem dX3_init_0 : decode cX3_init 0 = .ok (.aload_n 0, 1) := by decide +kernel
theorem dX3_init_1 : decode cX3_init 1 = .ok (.invokespecial 3, 3) := by decide +kernel
theorem dX3_init_4 : decode cX3_init 4 = .ok (.aload_n 0, 1) := by decide +kernel
theorem dX3_init_5 : decode cX3_init 5 = .ok (.sipush 160, 3) := by decide +kernel
theorem dX3_init_8 : decode cX3_init 8 = .ok (.newarray .int, 2) := by decide +kernel
theorem dX3_init_10 : decode cX3_init 10 = .ok (.putfield 9, 3) := by decide +kernel
theorem dX3_init_13 : decode cX3_init 13 = .ok (.aload_n 0, 1) := by decide +kernel
theorem dX3_init_14 : decode cX3_init 14 = .ok (.sipush 160, 3) := by decide +kernel
theorem dX3_init_17 : decode cX3_init 17 = .ok (.newarray .int, 2) := by decide +kernel
theorem dX3_init_19 : decode cX3_init 19 = .ok (.putfield 15, 3) := by decide +kernel
theorem dX3_init_22 : decode cX3_init 22 = .ok (.aload_n 0, 1) := by decide +kernel
theorem dX3_init_23 : decode cX3_init 23 = .ok (.bipush 12, 2) := by decide +kernel
theorem dX3_init_25 : decode cX3_init 25 = .ok (.newarray .int, 2) := by decide +kernel
theorem dX3_init_27 : decode cX3_init 27 = .ok (.putfield 18, 3) := by decide +kernel
theorem dX3_init_30 : decode cX3_init 30 = .ok (.aload_n 0, 1) := by decide +kernel
theorem dX3_init_31 : decode cX3_init 31 = .ok (.bipush 12, 2) := by decide +kernel
theorem dX3_init_33 : decode cX3_init 33 = .ok (.newarray .int, 2) := by decide +kernel
theorem dX3_init_35 : decode cX3_init 35 = .ok (.putfield 21, 3) := by decide +kernel
theorem dX3_init_38 : decode cX3_init 38 = .ok (.return_, 1) := by decide +kernel
theorem dX3_has_0 : decode cX3_has 0 = .ok (.iconst 0, 1) := by decide +kernel
theorem dX3_has_1 : decode cX3_has 1 = .ok (.istore_n 2, 1) := by decide +kernel
theorem dX3_has_2 : decode cX3_has 2 = .ok (.iload_n 2, 1) := by decide +kernel
theorem dX3_has_3 : decode cX3_has 3 = .ok (.aload_n 0, 1) := by decide +kernel
theorem dX3_has_4 : decode cX3_has 4 = .ok (.getfield 24, 3) := by decide +kernel
theorem dX3_has_7 : decode cX3_has 7 = .ok (.if_icmp .ge 21, 3) := by decide +kernel
theorem dX3_has_10 : decode cX3_has 10 = .ok (.aload_n 0, 1) := by decide +kernel
theorem dX3_has_11 : decode cX3_has 11 = .ok (.getfield 18, 3) := by decide +kernel
theorem dX3_has_14 : decode cX3_has 14 = .ok (.iload_n 2, 1) := by decide +kernel
theorem dX3_has_15 : decode cX3_has 15 = .ok (.iaload, 1) := by decide +kernel
theorem dX3_has_16 : decode cX3_has 16 = .ok (.iload_n 1, 1) := by decide +kernel
theorem dX3_has_17 : decode cX3_has 17 = .ok (.if_icmp .ne 5, 3) := by decide +kernel
theorem dX3_has_20 : decode cX3_has 20 = .ok (.iconst 1, 1) := by decide +kernel
theorem dX3_has_21 : decode cX3_has 21 = .ok (.ireturn, 1) := by decide +kernel
theorem dX3_has_22 : decode cX3_has 22 = .ok (.iinc 2 1, 3) := by decide +kernel
theorem dX3_has_25 : decode cX3_has 25 = .ok (.goto (-23), 3) := by decide +kernel
theorem dX3_has_28 : decode cX3_has 28 = .ok (.iconst 0, 1) := by decide +kernel
theorem dX3_has_29 : decode cX3_has 29 = .ok (.ireturn, 1) := by decide +kernel
theorem dX3_begin_0 : decode cX3_begin 0 = .ok (.aload_n 0, 1) := by decide +kernel
theorem dX3_begin_1 : decode cX3_begin 1 = .ok (.getfield 24, 3) := by decide +kernel
theorem dX3_begin_4 : decode cX3_begin 4 = .ok (.bipush 12, 2) := by decide +kernel
theorem dX3_begin_6 : decode cX3_begin 6 = .ok (.if_icmp .ge 36, 3) := by decide +kernel
theorem dX3_begin_9 : decode cX3_begin 9 = .ok (.aload_n 0, 1) := by decide +kernel
theorem dX3_begin_10 : decode cX3_begin 10 = .ok (.getfield 18, 3) := by decide +kernel
theorem dX3_begin_13 : decode cX3_begin 13 = .ok (.aload_n 0, 1) := by decide +kernel
theorem dX3_begin_14 : decode cX3_begin 14 = .ok (.getfield 24, 3) := by decide +kernel
theorem dX3_begin_17 : decode cX3_begin 17 = .ok (.iload_n 1, 1) := by decide +kernel
theorem dX3_begin_18 : decode cX3_begin 18 = .ok (.iastore, 1) := by decide +kernel
theorem dX3_begin_19 : decode cX3_begin 19 = .ok (.aload_n 0, 1) := by decide +kernel
theorem dX3_begin_20 : decode cX3_begin 20 = .ok (.getfield 21, 3) := by decide +kernel
theorem dX3_begin_23 : decode cX3_begin 23 = .ok (.aload_n 0, 1) := by decide +kernel
theorem dX3_begin_24 : decode cX3_begin 24 = .ok (.getfield 24, 3) := by decide +kernel
theorem dX3_begin_27 : decode cX3_begin 27 = .ok (.aload_n 0, 1) := by decide +kernel
theorem dX3_begin_28 : decode cX3_begin 28 = .ok (.getfield 28, 3) := by decide +kernel
theorem dX3_begin_31 : decode cX3_begin 31 = .ok (.iastore, 1) := by decide +kernel
theorem dX3_begin_32 : decode cX3_begin 32 = .ok (.aload_n 0, 1) := by decide +kernel
theorem dX3_begin_33 : decode cX3_begin 33 = .ok (.dup, 1) := by decide +kernel
theorem dX3_begin_34 : decode cX3_begin 34 = .ok (.getfield 24, 3) := by decide +kernel
theorem dX3_begin_37 : decode cX3_begin 37 = .ok (.iconst 1, 1) := by decide +kernel
theorem dX3_begin_38 : decode cX3_begin 38 = .ok (.iadd, 1) := by decide +kernel
theorem dX3_begin_39 : decode cX3_begin 39 = .ok (.putfield 24, 3) := by decide +kernel
theorem dX3_begin_42 : decode cX3_begin 42 = .ok (.return_, 1) := by decide +kernel
theorem dX3_add_0 : decode cX3_add 0 = .ok (.aload_n 0, 1) := by decide +kernel
theorem dX3_add_1 : decode cX3_add 1 = .ok (.getfield 28, 3) := by decide +kernel
theorem dX3_add_4 : decode cX3_add 4 = .ok (.sipush 160, 3) := by decide +kernel
theorem dX3_add_7 : decode cX3_add 7 = .ok (.if_icmp .ge 33, 3) := by decide +kernel
theorem dX3_add_10 : decode cX3_add 10 = .ok (.aload_n 0, 1) := by decide +kernel
theorem dX3_add_11 : decode cX3_add 11 = .ok (.getfield 9, 3) := by decide +kernel
theorem dX3_add_14 : decode cX3_add 14 = .ok (.aload_n 0, 1) := by decide +kernel
theorem dX3_add_15 : decode cX3_add 15 = .ok (.getfield 28, 3) := by decide +kernel
theorem dX3_add_18 : decode cX3_add 18 = .ok (.iload_n 1, 1) := by decide +kernel
theorem dX3_add_19 : decode cX3_add 19 = .ok (.iastore, 1) := by decide +kernel
theorem dX3_add_20 : decode cX3_add 20 = .ok (.aload_n 0, 1) := by decide +kernel
theorem dX3_add_21 : decode cX3_add 21 = .ok (.getfield 15, 3) := by decide +kernel
theorem dX3_add_24 : decode cX3_add 24 = .ok (.aload_n 0, 1) := by decide +kernel
theorem dX3_add_25 : decode cX3_add 25 = .ok (.getfield 28, 3) := by decide +kernel
theorem dX3_add_28 : decode cX3_add 28 = .ok (.iload_n 2, 1) := by decide +kernel
theorem dX3_add_29 : decode cX3_add 29 = .ok (.iastore, 1) := by decide +kernel
theorem dX3_add_30 : decode cX3_add 30 = .ok (.aload_n 0, 1) := by decide +kernel
theorem dX3_add_31 : decode cX3_add 31 = .ok (.dup, 1) := by decide +kernel
theorem dX3_add_32 : decode cX3_add 32 = .ok (.getfield 28, 3) := by decide +kernel
theorem dX3_add_35 : decode cX3_add 35 = .ok (.iconst 1, 1) := by decide +kernel
theorem dX3_add_36 : decode cX3_add 36 = .ok (.iadd, 1) := by decide +kernel
theorem dX3_add_37 : decode cX3_add 37 = .ok (.putfield 28, 3) := by decide +kernel
theorem dX3_add_40 : decode cX3_add 40 = .ok (.aload_n 0, 1) := by decide +kernel
theorem dX3_add_41 : decode cX3_add 41 = .ok (.getfield 28, 3) := by decide +kernel
theorem dX3_add_44 : decode cX3_add 44 = .ok (.iconst 1, 1) := by decide +kernel
theorem dX3_add_45 : decode cX3_add 45 = .ok (.isub, 1) := by decide +kernel
theorem dX3_add_46 : decode cX3_add 46 = .ok (.ireturn, 1) := by decide +kernel
theorem dX3_endSkips_0 : decode cX3_endSkips 0 = .ok (.iload_n 1, 1) := by decide +kernel
theorem dX3_endSkips_1 : decode cX3_endSkips 1 = .ok (.istore_n 2, 1) := by decide +kernel
theorem dX3_endSkips_2 : decode cX3_endSkips 2 = .ok (.iconst 0, 1) := by decide +kernel
theorem dX3_endSkips_3 : decode cX3_endSkips 3 = .ok (.istore_n 3, 1) := by decide +kernel
theorem dX3_endSkips_4 : decode cX3_endSkips 4 = .ok (.iload_n 3, 1) := by decide +kernel
theorem dX3_endSkips_5 : decode cX3_endSkips 5 = .ok (.sipush 160, 3) := by decide +kernel
theorem dX3_endSkips_8 : decode cX3_endSkips 8 = .ok (.if_icmp .ge 44, 3) := by decide +kernel
theorem dX3_endSkips_11 : decode cX3_endSkips 11 = .ok (.iload_n 2, 1) := by decide +kernel
theorem dX3_endSkips_12 : decode cX3_endSkips 12 = .ok (.iconst 0, 1) := by decide +kernel
theorem dX3_endSkips_13 : decode cX3_endSkips 13 = .ok (.aload_n 0, 1) := by decide +kernel
theorem dX3_endSkips_14 : decode cX3_endSkips 14 = .ok (.getfield 28, 3) := by decide +kernel
theorem dX3_endSkips_17 : decode cX3_endSkips 17 = .ok (.iconst 1, 1) := by decide +kernel
theorem dX3_endSkips_18 : decode cX3_endSkips 18 = .ok (.isub, 1) := by decide +kernel
theorem dX3_endSkips_19 : decode cX3_endSkips 19 = .ok (.invokestatic 31, 3) := by decide +kernel
theorem dX3_endSkips_22 : decode cX3_endSkips 22 = .ok (.ifCond .eq 30, 3) := by decide +kernel
theorem dX3_endSkips_25 : decode cX3_endSkips 25 = .ok (.aload_n 0, 1) := by decide +kernel
theorem dX3_endSkips_26 : decode cX3_endSkips 26 = .ok (.getfield 15, 3) := by decide +kernel
theorem dX3_endSkips_29 : decode cX3_endSkips 29 = .ok (.iload_n 2, 1) := by decide +kernel
theorem dX3_endSkips_30 : decode cX3_endSkips 30 = .ok (.iaload, 1) := by decide +kernel
theorem dX3_endSkips_31 : decode cX3_endSkips 31 = .ok (.istore 4, 2) := by decide +kernel
theorem dX3_endSkips_33 : decode cX3_endSkips 33 = .ok (.aload_n 0, 1) := by decide +kernel
theorem dX3_endSkips_34 : decode cX3_endSkips 34 = .ok (.getfield 15, 3) := by decide +kernel
theorem dX3_endSkips_37 : decode cX3_endSkips 37 = .ok (.iload_n 2, 1) := by decide +kernel
theorem dX3_endSkips_38 : decode cX3_endSkips 38 = .ok (.aload_n 0, 1) := by decide +kernel
theorem dX3_endSkips_39 : decode cX3_endSkips 39 = .ok (.getfield 28, 3) := by decide +kernel
theorem dX3_endSkips_42 : decode cX3_endSkips 42 = .ok (.iastore, 1) := by decide +kernel
theorem dX3_endSkips_43 : decode cX3_endSkips 43 = .ok (.iload 4, 2) := by decide +kernel
theorem dX3_endSkips_45 : decode cX3_endSkips 45 = .ok (.istore_n 2, 1) := by decide +kernel
theorem dX3_endSkips_46 : decode cX3_endSkips 46 = .ok (.iinc 3 1, 3) := by decide +kernel
theorem dX3_endSkips_49 : decode cX3_endSkips 49 = .ok (.goto (-45), 3) := by decide +kernel
theorem dX3_endSkips_52 : decode cX3_endSkips 52 = .ok (.return_, 1) := by decide +kernel
theorem dX4_init_0 : decode cX4_init 0 = .ok (.aload_n 0, 1) := by decide +kernel
theorem dX4_init_1 : decode cX4_init 1 = .ok (.invokespecial 3, 3) := by decide +kernel
theorem dX4_init_4 : decode cX4_init 4 = .ok (.aload_n 0, 1) := by decide +kernel
theorem dX4_init_5 : decode cX4_init 5 = .ok (.aload_n 1, 1) := by decide +kernel
theorem dX4_init_6 : decode cX4_init 6 = .ok (.putfield 9, 3) := by decide +kernel
theorem dX4_init_9 : decode cX4_init 9 = .ok (.aload_n 0, 1) := by decide +kernel
theorem dX4_init_10 : decode cX4_init 10 = .ok (.aload_n 2, 1) := by decide +kernel
theorem dX4_init_11 : decode cX4_init 11 = .ok (.putfield 15, 3) := by decide +kernel
theorem dX4_init_14 : decode cX4_init 14 = .ok (.return_, 1) := by decide +kernel
theorem dX4_read_0 : decode cX4_read 0 = .ok (.aload_n 0, 1) := by decide +kernel
theorem dX4_read_1 : decode cX4_read 1 = .ok (.iload_n 1, 1) := by decide +kernel
theorem dX4_read_2 : decode cX4_read 2 = .ok (.aload_n 0, 1) := by decide +kernel
theorem dX4_read_3 : decode cX4_read 3 = .ok (.getfield 9, 3) := by decide +kernel
theorem dX4_read_6 : decode cX4_read 6 = .ok (.arraylength, 1) := by decide +kernel
theorem dX4_read_7 : decode cX4_read 7 = .ok (.invokestatic 19, 3) := by decide +kernel
theorem dX4_read_10 : decode cX4_read 10 = .ok (.putfield 25, 3) := by decide +kernel
theorem dX4_read_13 : decode cX4_read 13 = .ok (.aload_n 0, 1) := by decide +kernel
theorem dX4_read_14 : decode cX4_read 14 = .ok (.iconst 0, 1) := by decide +kernel
theorem dX4_read_15 : decode cX4_read 15 = .ok (.putfield 29, 3) := by decide +kernel
theorem dX4_read_18 : decode cX4_read 18 = .ok (.aload_n 0, 1) := by decide +kernel
theorem dX4_read_19 : decode cX4_read 19 = .ok (.iconst 0, 1) := by decide +kernel
theorem dX4_read_20 : decode cX4_read 20 = .ok (.putfield 32, 3) := by decide +kernel
theorem dX4_read_23 : decode cX4_read 23 = .ok (.aload_n 0, 1) := by decide +kernel
theorem dX4_read_24 : decode cX4_read 24 = .ok (.aload_n 2, 1) := by decide +kernel
theorem dX4_read_25 : decode cX4_read 25 = .ok (.putfield 15, 3) := by decide +kernel
theorem dX4_read_28 : decode cX4_read 28 = .ok (.aload_n 0, 1) := by decide +kernel
theorem dX4_read_29 : decode cX4_read 29 = .ok (.getfield 15, 3) := by decide +kernel
theorem dX4_read_32 : decode cX4_read 32 = .ok (.iconst 0, 1) := by decide +kernel
theorem dX4_read_33 : decode cX4_read 33 = .ok (.putfield 35, 3) := by decide +kernel
theorem dX4_read_36 : decode cX4_read 36 = .ok (.aload_n 0, 1) := by decide +kernel
theorem dX4_read_37 : decode cX4_read 37 = .ok (.getfield 15, 3) := by decide +kernel
theorem dX4_read_40 : decode cX4_read 40 = .ok (.iconst 0, 1) := by decide +kernel
theorem dX4_read_41 : decode cX4_read 41 = .ok (.putfield 40, 3) := by decide +kernel
theorem dX4_read_44 : decode cX4_read 44 = .ok (.iconst 0, 1) := by decide +kernel
theorem dX4_read_45 : decode cX4_read 45 = .ok (.istore_n 3, 1) := by decide +kernel
theorem dX4_read_46 : decode cX4_read 46 = .ok (.iload_n 3, 1) := by decide +kernel
theorem dX4_read_47 : decode cX4_read 47 = .ok (.bipush 12, 2) := by decide +kernel
theorem dX4_read_49 : decode cX4_read 49 = .ok (.if_icmp .gt 40, 3) := by decide +kernel
theorem dX4_read_52 : decode cX4_read 52 = .ok (.aload_n 0, 1) := by decide +kernel
theorem dX4_read_53 : decode cX4_read 53 = .ok (.invokevirtual 43, 3) := by decide +kernel
theorem dX4_read_56 : decode cX4_read 56 = .ok (.aload_n 0, 1) := by decide +kernel
theorem dX4_read_57 : decode cX4_read 57 = .ok (.getfield 32, 3) := by decide +kernel
theorem dX4_read_60 : decode cX4_read 60 = .ok (.ifCond .ne 29, 3) := by decide +kernel
theorem dX4_read_63 : decode cX4_read 63 = .ok (.aload_n 0, 1) := by decide +kernel
theorem dX4_read_64 : decode cX4_read 64 = .ok (.getfield 29, 3) := by decide +kernel
theorem dX4_read_67 : decode cX4_read 67 = .ok (.aload_n 0, 1) := by decide +kernel
theorem dX4_read_68 : decode cX4_read 68 = .ok (.getfield 25, 3) := by decide +kernel
theorem dX4_read_71 : decode cX4_read 71 = .ok (.if_icmp .ne 6, 3) := by decide +kernel
theorem dX4_read_74 : decode cX4_read 74 = .ok (.goto 15, 3) := by decide +kernel
theorem dX4_read_77 : decode cX4_read 77 = .ok (.aload_n 0, 1) := by decide +kernel
theorem dX4_read_78 : decode cX4_read 78 = .ok (.bipush 59, 2) := by decide +kernel
theorem dX4_read_80 : decode cX4_read 80 = .ok (.invokevirtual 46, 3) := by decide +kernel
theorem dX4_read_83 : decode cX4_read 83 = .ok (.iinc 3 1, 3) := by decide +kernel
theorem dX4_read_86 : decode cX4_read 86 = .ok (.goto (-40), 3) := by decide +kernel
theorem dX4_read_89 : decode cX4_read 89 = .ok (.aload_n 0, 1) := by decide +kernel
theorem dX4_read_90 : decode cX4_read 90 = .ok (.getfield 32, 3) := by decide +kernel
theorem dX4_read_93 : decode cX4_read 93 = .ok (.ifCond .eq 10, 3) := by decide +kernel
theorem dX4_read_96 : decode cX4_read 96 = .ok (.aload_n 0, 1) := by decide +kernel
theorem dX4_read_97 : decode cX4_read 97 = .ok (.getfield 32, 3) := by decide +kernel
theorem dX4_read_100 : decode cX4_read 100 = .ok (.goto 10, 3) := by decide +kernel
theorem dX4_read_103 : decode cX4_read 103 = .ok (.aload_n 0, 1) := by decide +kernel
theorem dX4_read_104 : decode cX4_read 104 = .ok (.getfield 15, 3) := by decide +kernel
theorem dX4_read_107 : decode cX4_read 107 = .ok (.getfield 40, 3) := by decide +kernel
theorem dX4_read_110 : decode cX4_read 110 = .ok (.ireturn, 1) := by decide +kernel
theorem dX4_sign_0 : decode cX4_sign 0 = .ok (.aload_n 0, 1) := by decide +kernel
theorem dX4_sign_1 : decode cX4_sign 1 = .ok (.getfield 29, 3) := by decide +kernel
theorem dX4_sign_4 : decode cX4_sign 4 = .ok (.aload_n 0, 1) := by decide +kernel
theorem dX4_sign_5 : decode cX4_sign 5 = .ok (.getfield 25, 3) := by decide +kernel
theorem dX4_sign_8 : decode cX4_sign 8 = .ok (.if_icmp .ge 20, 3) := by decide +kernel
theorem dX4_sign_11 : decode cX4_sign 11 = .ok (.aload_n 0, 1) := by decide +kernel
theorem dX4_sign_12 : decode cX4_sign 12 = .ok (.getfield 9, 3) := by decide +kernel
theorem dX4_sign_15 : decode cX4_sign 15 = .ok (.aload_n 0, 1) := by decide +kernel
theorem dX4_sign_16 : decode cX4_sign 16 = .ok (.getfield 29, 3) := by decide +kernel
theorem dX4_sign_19 : decode cX4_sign 19 = .ok (.baload, 1) := by decide +kernel
theorem dX4_sign_20 : decode cX4_sign 20 = .ok (.sipush 255, 3) := by decide +kernel
theorem dX4_sign_23 : decode cX4_sign 23 = .ok (.iand, 1) := by decide +kernel
theorem dX4_sign_24 : decode cX4_sign 24 = .ok (.i2c, 1) := by decide +kernel
theorem dX4_sign_25 : decode cX4_sign 25 = .ok (.goto 4, 3) := by decide +kernel
theorem dX4_sign_28 : decode cX4_sign 28 = .ok (.iconst 0, 1) := by decide +kernel
theorem dX4_sign_29 : decode cX4_sign 29 = .ok (.ireturn, 1) := by decide +kernel
theorem dX4_fail_0 : decode cX4_fail 0 = .ok (.aload_n 0, 1) := by decide +kernel
theorem dX4_fail_1 : decode cX4_fail 1 = .ok (.getfield 32, 3) := by decide +kernel
theorem dX4_fail_4 : decode cX4_fail 4 = .ok (.ifCond .ne 17, 3) := by decide +kernel
theorem dX4_fail_7 : decode cX4_fail 7 = .ok (.aload_n 0, 1) := by decide +kernel
theorem dX4_fail_8 : decode cX4_fail 8 = .ok (.sipush (-1000), 3) := by decide +kernel
theorem dX4_fail_11 : decode cX4_fail 11 = .ok (.iload_n 1, 1) := by decide +kernel
theorem dX4_fail_12 : decode cX4_fail 12 = .ok (.imul, 1) := by decide +kernel
theorem dX4_fail_13 : decode cX4_fail 13 = .ok (.aload_n 0, 1) := by decide +kernel
theorem dX4_fail_14 : decode cX4_fail 14 = .ok (.getfield 29, 3) := by decide +kernel
theorem dX4_fail_17 : decode cX4_fail 17 = .ok (.isub, 1) := by decide +kernel
theorem dX4_fail_18 : decode cX4_fail 18 = .ok (.putfield 32, 3) := by decide +kernel
theorem dX4_fail_21 : decode cX4_fail 21 = .ok (.return_, 1) := by decide +kernel
theorem dX4_expect_0 : decode cX4_expect 0 = .ok (.aload_n 0, 1) := by decide +kernel
theorem dX4_expect_1 : decode cX4_expect 1 = .ok (.invokevirtual 50, 3) := by decide +kernel
theorem dX4_expect_4 : decode cX4_expect 4 = .ok (.iload_n 1, 1) := by decide +kernel
theorem dX4_expect_5 : decode cX4_expect 5 = .ok (.if_icmp .ne 16, 3) := by decide +kernel
theorem dX4_expect_8 : decode cX4_expect 8 = .ok (.aload_n 0, 1) := by decide +kernel
theorem dX4_expect_9 : decode cX4_expect 9 = .ok (.dup, 1) := by decide +kernel
theorem dX4_expect_10 : decode cX4_expect 10 = .ok (.getfield 29, 3) := by decide +kernel
theorem dX4_expect_13 : decode cX4_expect 13 = .ok (.iconst 1, 1) := by decide +kernel
theorem dX4_expect_14 : decode cX4_expect 14 = .ok (.iadd, 1) := by decide +kernel
theorem dX4_expect_15 : decode cX4_expect 15 = .ok (.putfield 29, 3) := by decide +kernel
theorem dX4_expect_18 : decode cX4_expect 18 = .ok (.goto 8, 3) := by decide +kernel
theorem dX4_expect_21 : decode cX4_expect 21 = .ok (.aload_n 0, 1) := by decide +kernel
theorem dX4_expect_22 : decode cX4_expect 22 = .ok (.iconst 1, 1) := by decide +kernel
theorem dX4_expect_23 : decode cX4_expect 23 = .ok (.invokevirtual 54, 3) := by decide +kernel
theorem dX4_expect_26 : decode cX4_expect 26 = .ok (.return_, 1) := by decide +kernel
theorem dX4_opens_0 : decode cX4_opens 0 = .ok (.iload_n 1, 1) := by decide +kernel
theorem dX4_opens_1 : decode cX4_opens 1 = .ok (.bipush 6, 2) := by decide +kernel
theorem dX4_opens_3 : decode cX4_opens 3 = .ok (.if_icmp .lt 10, 3) := by decide +kernel
theorem dX4_opens_6 : decode cX4_opens 6 = .ok (.aload_n 0, 1) := by decide +kernel
theorem dX4_opens_7 : decode cX4_opens 7 = .ok (.iconst 5, 1) := by decide +kernel
theorem dX4_opens_8 : decode cX4_opens 8 = .ok (.invokevirtual 54, 3) := by decide +kernel
theorem dX4_opens_11 : decode cX4_opens 11 = .ok (.iconst 0, 1) := by decide +kernel
theorem dX4_opens_12 : decode cX4_opens 12 = .ok (.ireturn, 1) := by decide +kernel
theorem dX4_opens_13 : decode cX4_opens 13 = .ok (.aload_n 0, 1) := by decide +kernel
theorem dX4_opens_14 : decode cX4_opens 14 = .ok (.dup, 1) := by decide +kernel
theorem dX4_opens_15 : decode cX4_opens 15 = .ok (.getfield 29, 3) := by decide +kernel
theorem dX4_opens_18 : decode cX4_opens 18 = .ok (.iconst 1, 1) := by decide +kernel
theorem dX4_opens_19 : decode cX4_opens 19 = .ok (.iadd, 1) := by decide +kernel
theorem dX4_opens_20 : decode cX4_opens 20 = .ok (.putfield 29, 3) := by decide +kernel
theorem dX4_opens_23 : decode cX4_opens 23 = .ok (.iconst 1, 1) := by decide +kernel
theorem dX4_opens_24 : decode cX4_opens 24 = .ok (.ireturn, 1) := by decide +kernel
theorem dX4_clause_0 : decode cX4_clause 0 = .ok (.ldc 58, 2) := by decide +kernel
theorem dX4_clause_2 : decode cX4_clause 2 = .ok (.aload_n 0, 1) := by decide +kernel
theorem dX4_clause_3 : decode cX4_clause 3 = .ok (.invokevirtual 50, 3) := by decide +kernel
theorem dX4_clause_6 : decode cX4_clause 6 = .ok (.invokevirtual 60, 3) := by decide +kernel
theorem dX4_clause_9 : decode cX4_clause 9 = .ok (.istore_n 1, 1) := by decide +kernel
theorem dX4_clause_10 : decode cX4_clause 10 = .ok (.iload_n 1, 1) := by decide +kernel
theorem dX4_clause_11 : decode cX4_clause 11 = .ok (.ifCond .ge 11, 3) := by decide +kernel
theorem dX4_clause_14 : decode cX4_clause 14 = .ok (.aload_n 0, 1) := by decide +kernel
theorem dX4_clause_15 : decode cX4_clause 15 = .ok (.iconst 1, 1) := by decide +kernel
theorem dX4_clause_16 : decode cX4_clause 16 = .ok (.invokevirtual 54, 3) := by decide +kernel
theorem dX4_clause_19 : decode cX4_clause 19 = .ok (.goto 75, 3) := by decide +kernel
theorem dX4_clause_22 : decode cX4_clause 22 = .ok (.aload_n 0, 1) := by decide +kernel
theorem dX4_clause_23 : decode cX4_clause 23 = .ok (.getfield 15, 3) := by decide +kernel
theorem dX4_clause_26 : decode cX4_clause 26 = .ok (.getfield 40, 3) := by decide +kernel
theorem dX4_clause_29 : decode cX4_clause 29 = .ok (.bipush 12, 2) := by decide +kernel
theorem dX4_clause_31 : decode cX4_clause 31 = .ok (.if_icmp .lt 11, 3) := by decide +kernel
theorem dX4_clause_34 : decode cX4_clause 34 = .ok (.aload_n 0, 1) := by decide +kernel
theorem dX4_clause_35 : decode cX4_clause 35 = .ok (.iconst 4, 1) := by decide +kernel
theorem dX4_clause_36 : decode cX4_clause 36 = .ok (.invokevirtual 54, 3) := by decide +kernel
theorem dX4_clause_39 : decode cX4_clause 39 = .ok (.goto 55, 3) := by decide +kernel
theorem dX4_clause_42 : decode cX4_clause 42 = .ok (.aload_n 0, 1) := by decide +kernel
theorem dX4_clause_43 : decode cX4_clause 43 = .ok (.getfield 32, 3) := by decide +kernel
theorem dX4_clause_46 : decode cX4_clause 46 = .ok (.ifCond .ne 48, 3) := by decide +kernel
theorem dX4_clause_49 : decode cX4_clause 49 = .ok (.aload_n 0, 1) := by decide +kernel
theorem dX4_clause_50 : decode cX4_clause 50 = .ok (.getfield 15, 3) := by decide +kernel
theorem dX4_clause_53 : decode cX4_clause 53 = .ok (.iload_n 1, 1) := by decide +kernel
theorem dX4_clause_54 : decode cX4_clause 54 = .ok (.invokevirtual 66, 3) := by decide +kernel
theorem dX4_clause_57 : decode cX4_clause 57 = .ok (.aload_n 0, 1) := by decide +kernel
theorem dX4_clause_58 : decode cX4_clause 58 = .ok (.dup, 1) := by decide +kernel
theorem dX4_clause_59 : decode cX4_clause 59 = .ok (.getfield 29, 3) := by decide +kernel
theorem dX4_clause_62 : decode cX4_clause 62 = .ok (.iconst 1, 1) := by decide +kernel
theorem dX4_clause_63 : decode cX4_clause 63 = .ok (.iadd, 1) := by decide +kernel
theorem dX4_clause_64 : decode cX4_clause 64 = .ok (.putfield 29, 3) := by decide +kernel
theorem dX4_clause_67 : decode cX4_clause 67 = .ok (.aload_n 0, 1) := by decide +kernel
theorem dX4_clause_68 : decode cX4_clause 68 = .ok (.bipush 40, 2) := by decide +kernel
theorem dX4_clause_70 : decode cX4_clause 70 = .ok (.invokevirtual 46, 3) := by decide +kernel
theorem dX4_clause_73 : decode cX4_clause 73 = .ok (.aload_n 0, 1) := by decide +kernel
theorem dX4_clause_74 : decode cX4_clause 74 = .ok (.iconst 1, 1) := by decide +kernel
theorem dX4_clause_75 : decode cX4_clause 75 = .ok (.invokevirtual 69, 3) := by decide +kernel
theorem dX4_clause_78 : decode cX4_clause 78 = .ok (.aload_n 0, 1) := by decide +kernel
theorem dX4_clause_79 : decode cX4_clause 79 = .ok (.bipush 41, 2) := by decide +kernel
theorem dX4_clause_81 : decode cX4_clause 81 = .ok (.invokevirtual 46, 3) := by decide +kernel
theorem dX4_clause_84 : decode cX4_clause 84 = .ok (.aload_n 0, 1) := by decide +kernel
theorem dX4_clause_85 : decode cX4_clause 85 = .ok (.getfield 15, 3) := by decide +kernel
theorem dX4_clause_88 : decode cX4_clause 88 = .ok (.iconst 5, 1) := by decide +kernel
theorem dX4_clause_89 : decode cX4_clause 89 = .ok (.iconst 0, 1) := by decide +kernel
theorem dX4_clause_90 : decode cX4_clause 90 = .ok (.invokevirtual 72, 3) := by decide +kernel
theorem dX4_clause_93 : decode cX4_clause 93 = .ok (.pop, 1) := by decide +kernel
theorem dX4_clause_94 : decode cX4_clause 94 = .ok (.return_, 1) := by decide +kernel
theorem dX4_condition_0 : decode cX4_condition 0 = .ok (.iconst (-1), 1) := by decide +kernel
theorem dX4_condition_1 : decode cX4_condition 1 = .ok (.istore_n 2, 1) := by decide +kernel
theorem dX4_condition_2 : decode cX4_condition 2 = .ok (.aload_n 0, 1) := by decide +kernel
theorem dX4_condition_3 : decode cX4_condition 3 = .ok (.iload_n 1, 1) := by decide +kernel
theorem dX4_condition_4 : decode cX4_condition 4 = .ok (.invokevirtual 75, 3) := by decide +kernel
theorem dX4_condition_7 : decode cX4_condition 7 = .ok (.iconst 0, 1) := by decide +kernel
theorem dX4_condition_8 : decode cX4_condition 8 = .ok (.istore_n 3, 1) := by decide +kernel
theorem dX4_condition_9 : decode cX4_condition 9 = .ok (.iload_n 3, 1) := by decide +kernel
theorem dX4_condition_10 : decode cX4_condition 10 = .ok (.sipush 160, 3) := by decide +kernel
theorem dX4_condition_13 : decode cX4_condition 13 = .ok (.if_icmp .ge 50, 3) := by decide +kernel
theorem dX4_condition_16 : decode cX4_condition 16 = .ok (.aload_n 0, 1) := by decide +kernel
theorem dX4_condition_17 : decode cX4_condition 17 = .ok (.getfield 32, 3) := by decide +kernel
theorem dX4_condition_20 : decode cX4_condition 20 = .ok (.ifCond .ne 43, 3) := by decide +kernel
theorem dX4_condition_23 : decode cX4_condition 23 = .ok (.aload_n 0, 1) := by decide +kernel
theorem dX4_condition_24 : decode cX4_condition 24 = .ok (.invokevirtual 50, 3) := by decide +kernel
theorem dX4_condition_27 : decode cX4_condition 27 = .ok (.bipush 124, 2) := by decide +kernel
theorem dX4_condition_29 : decode cX4_condition 29 = .ok (.if_icmp .ne 34, 3) := by decide +kernel
theorem dX4_condition_32 : decode cX4_condition 32 = .ok (.aload_n 0, 1) := by decide +kernel
theorem dX4_condition_33 : decode cX4_condition 33 = .ok (.dup, 1) := by decide +kernel
theorem dX4_condition_34 : decode cX4_condition 34 = .ok (.getfield 29, 3) := by decide +kernel
theorem dX4_condition_37 : decode cX4_condition 37 = .ok (.iconst 1, 1) := by decide +kernel
theorem dX4_condition_38 : decode cX4_condition 38 = .ok (.iadd, 1) := by decide +kernel
theorem dX4_condition_39 : decode cX4_condition 39 = .ok (.putfield 29, 3) := by decide +kernel
theorem dX4_condition_42 : decode cX4_condition 42 = .ok (.aload_n 0, 1) := by decide +kernel
theorem dX4_condition_43 : decode cX4_condition 43 = .ok (.getfield 15, 3) := by decide +kernel
theorem dX4_condition_46 : decode cX4_condition 46 = .ok (.iconst 3, 1) := by decide +kernel
theorem dX4_condition_47 : decode cX4_condition 47 = .ok (.iload_n 2, 1) := by decide +kernel
theorem dX4_condition_48 : decode cX4_condition 48 = .ok (.invokevirtual 72, 3) := by decide +kernel
theorem dX4_condition_51 : decode cX4_condition 51 = .ok (.istore_n 2, 1) := by decide +kernel
theorem dX4_condition_52 : decode cX4_condition 52 = .ok (.aload_n 0, 1) := by decide +kernel
theorem dX4_condition_53 : decode cX4_condition 53 = .ok (.iload_n 1, 1) := by decide +kernel
theorem dX4_condition_54 : decode cX4_condition 54 = .ok (.invokevirtual 75, 3) := by decide +kernel
theorem dX4_condition_57 : decode cX4_condition 57 = .ok (.iinc 3 1, 3) := by decide +kernel
theorem dX4_condition_60 : decode cX4_condition 60 = .ok (.goto (-51), 3) := by decide +kernel
theorem dX4_condition_63 : decode cX4_condition 63 = .ok (.aload_n 0, 1) := by decide +kernel
theorem dX4_condition_64 : decode cX4_condition 64 = .ok (.getfield 15, 3) := by decide +kernel
theorem dX4_condition_67 : decode cX4_condition 67 = .ok (.iload_n 2, 1) := by decide +kernel
theorem dX4_condition_68 : decode cX4_condition 68 = .ok (.invokevirtual 78, 3) := by decide +kernel
theorem dX4_condition_71 : decode cX4_condition 71 = .ok (.return_, 1) := by decide +kernel
theorem dX4_part_0 : decode cX4_part 0 = .ok (.iconst (-1), 1) := by decide +kernel
theorem dX4_part_1 : decode cX4_part 1 = .ok (.istore_n 2, 1) := by decide +kernel
theorem dX4_part_2 : decode cX4_part 2 = .ok (.aload_n 0, 1) := by decide +kernel
theorem dX4_part_3 : decode cX4_part 3 = .ok (.iload_n 1, 1) := by decide +kernel
theorem dX4_part_4 : decode cX4_part 4 = .ok (.invokevirtual 81, 3) := by decide +kernel
theorem dX4_part_7 : decode cX4_part 7 = .ok (.iconst 0, 1) := by decide +kernel
theorem dX4_part_8 : decode cX4_part 8 = .ok (.istore_n 3, 1) := by decide +kernel
theorem dX4_part_9 : decode cX4_part 9 = .ok (.iload_n 3, 1) := by decide +kernel
theorem dX4_part_10 : decode cX4_part 10 = .ok (.sipush 160, 3) := by decide +kernel
theorem dX4_part_13 : decode cX4_part 13 = .ok (.if_icmp .ge 50, 3) := by decide +kernel
theorem dX4_part_16 : decode cX4_part 16 = .ok (.aload_n 0, 1) := by decide +kernel
theorem dX4_part_17 : decode cX4_part 17 = .ok (.getfield 32, 3) := by decide +kernel
theorem dX4_part_20 : decode cX4_part 20 = .ok (.ifCond .ne 43, 3) := by decide +kernel
theorem dX4_part_23 : decode cX4_part 23 = .ok (.aload_n 0, 1) := by decide +kernel
theorem dX4_part_24 : decode cX4_part 24 = .ok (.invokevirtual 50, 3) := by decide +kernel
theorem dX4_part_27 : decode cX4_part 27 = .ok (.bipush 38, 2) := by decide +kernel
theorem dX4_part_29 : decode cX4_part 29 = .ok (.if_icmp .ne 34, 3) := by decide +kernel
theorem dX4_part_32 : decode cX4_part 32 = .ok (.aload_n 0, 1) := by decide +kernel
theorem dX4_part_33 : decode cX4_part 33 = .ok (.dup, 1) := by decide +kernel
theorem dX4_part_34 : decode cX4_part 34 = .ok (.getfield 29, 3) := by decide +kernel
theorem dX4_part_37 : decode cX4_part 37 = .ok (.iconst 1, 1) := by decide +kernel
theorem dX4_part_38 : decode cX4_part 38 = .ok (.iadd, 1) := by decide +kernel
theorem dX4_part_39 : decode cX4_part 39 = .ok (.putfield 29, 3) := by decide +kernel
theorem dX4_part_42 : decode cX4_part 42 = .ok (.aload_n 0, 1) := by decide +kernel
theorem dX4_part_43 : decode cX4_part 43 = .ok (.getfield 15, 3) := by decide +kernel
theorem dX4_part_46 : decode cX4_part 46 = .ok (.iconst 4, 1) := by decide +kernel
theorem dX4_part_47 : decode cX4_part 47 = .ok (.iload_n 2, 1) := by decide +kernel
theorem dX4_part_48 : decode cX4_part 48 = .ok (.invokevirtual 72, 3) := by decide +kernel
theorem dX4_part_51 : decode cX4_part 51 = .ok (.istore_n 2, 1) := by decide +kernel
theorem dX4_part_52 : decode cX4_part 52 = .ok (.aload_n 0, 1) := by decide +kernel
theorem dX4_part_53 : decode cX4_part 53 = .ok (.iload_n 1, 1) := by decide +kernel
theorem dX4_part_54 : decode cX4_part 54 = .ok (.invokevirtual 81, 3) := by decide +kernel
theorem dX4_part_57 : decode cX4_part 57 = .ok (.iinc 3 1, 3) := by decide +kernel
theorem dX4_part_60 : decode cX4_part 60 = .ok (.goto (-51), 3) := by decide +kernel
theorem dX4_part_63 : decode cX4_part 63 = .ok (.aload_n 0, 1) := by decide +kernel
theorem dX4_part_64 : decode cX4_part 64 = .ok (.getfield 15, 3) := by decide +kernel
theorem dX4_part_67 : decode cX4_part 67 = .ok (.iload_n 2, 1) := by decide +kernel
theorem dX4_part_68 : decode cX4_part 68 = .ok (.invokevirtual 78, 3) := by decide +kernel
theorem dX4_part_71 : decode cX4_part 71 = .ok (.return_, 1) := by decide +kernel
theorem dX4_piece_0 : decode cX4_piece 0 = .ok (.aload_n 0, 1) := by decide +kernel
theorem dX4_piece_1 : decode cX4_piece 1 = .ok (.getfield 32, 3) := by decide +kernel
theorem dX4_piece_4 : decode cX4_piece 4 = .ok (.ifCond .eq 4, 3) := by decide +kernel
theorem dX4_piece_7 : decode cX4_piece 7 = .ok (.return_, 1) := by decide +kernel
theorem dX4_piece_8 : decode cX4_piece 8 = .ok (.aload_n 0, 1) := by decide +kernel
theorem dX4_piece_9 : decode cX4_piece 9 = .ok (.invokevirtual 50, 3) := by decide +kernel
theorem dX4_piece_12 : decode cX4_piece 12 = .ok (.bipush 33, 2) := by decide +kernel
theorem dX4_piece_14 : decode cX4_piece 14 = .ok (.if_icmp .ne 31, 3) := by decide +kernel
theorem dX4_piece_17 : decode cX4_piece 17 = .ok (.aload_n 0, 1) := by decide +kernel
theorem dX4_piece_18 : decode cX4_piece 18 = .ok (.iload_n 1, 1) := by decide +kernel
theorem dX4_piece_19 : decode cX4_piece 19 = .ok (.invokevirtual 84, 3) := by decide +kernel
theorem dX4_piece_22 : decode cX4_piece 22 = .ok (.ifCond .eq 61, 3) := by decide +kernel
theorem dX4_piece_25 : decode cX4_piece 25 = .ok (.aload_n 0, 1) := by decide +kernel
theorem dX4_piece_26 : decode cX4_piece 26 = .ok (.iload_n 1, 1) := by decide +kernel
theorem dX4_piece_27 : decode cX4_piece 27 = .ok (.iconst 1, 1) := by decide +kernel
theorem dX4_piece_28 : decode cX4_piece 28 = .ok (.iadd, 1) := by decide +kernel
theorem dX4_piece_29 : decode cX4_piece 29 = .ok (.invokevirtual 81, 3) := by decide +kernel
theorem dX4_piece_32 : decode cX4_piece 32 = .ok (.aload_n 0, 1) := by decide +kernel
theorem dX4_piece_33 : decode cX4_piece 33 = .ok (.getfield 15, 3) := by decide +kernel
theorem dX4_piece_36 : decode cX4_piece 36 = .ok (.iconst 2, 1) := by decide +kernel
theorem dX4_piece_37 : decode cX4_piece 37 = .ok (.iconst 0, 1) := by decide +kernel
theorem dX4_piece_38 : decode cX4_piece 38 = .ok (.invokevirtual 72, 3) := by decide +kernel
theorem dX4_piece_41 : decode cX4_piece 41 = .ok (.pop, 1) := by decide +kernel
theorem dX4_piece_42 : decode cX4_piece 42 = .ok (.goto 41, 3) := by decide +kernel
theorem dX4_piece_45 : decode cX4_piece 45 = .ok (.aload_n 0, 1) := by decide +kernel
theorem dX4_piece_46 : decode cX4_piece 46 = .ok (.invokevirtual 50, 3) := by decide +kernel
theorem dX4_piece_49 : decode cX4_piece 49 = .ok (.bipush 40, 2) := by decide +kernel
theorem dX4_piece_51 : decode cX4_piece 51 = .ok (.if_icmp .ne 27, 3) := by decide +kernel
theorem dX4_piece_54 : decode cX4_piece 54 = .ok (.aload_n 0, 1) := by decide +kernel
theorem dX4_piece_55 : decode cX4_piece 55 = .ok (.iload_n 1, 1) := by decide +kernel
theorem dX4_piece_56 : decode cX4_piece 56 = .ok (.invokevirtual 84, 3) := by decide +kernel
theorem dX4_piece_59 : decode cX4_piece 59 = .ok (.ifCond .eq 24, 3) := by decide +kernel
theorem dX4_piece_62 : decode cX4_piece 62 = .ok (.aload_n 0, 1) := by decide +kernel
theorem dX4_piece_63 : decode cX4_piece 63 = .ok (.iload_n 1, 1) := by decide +kernel
theorem dX4_piece_64 : decode cX4_piece 64 = .ok (.iconst 1, 1) := by decide +kernel
theorem dX4_piece_65 : decode cX4_piece 65 = .ok (.iadd, 1) := by decide +kernel
theorem dX4_piece_66 : decode cX4_piece 66 = .ok (.invokevirtual 69, 3) := by decide +kernel
theorem dX4_piece_69 : decode cX4_piece 69 = .ok (.aload_n 0, 1) := by decide +kernel
theorem dX4_piece_70 : decode cX4_piece 70 = .ok (.bipush 41, 2) := by decide +kernel
theorem dX4_piece_72 : decode cX4_piece 72 = .ok (.invokevirtual 46, 3) := by decide +kernel
theorem dX4_piece_75 : decode cX4_piece 75 = .ok (.goto 8, 3) := by decide +kernel
theorem dX4_piece_78 : decode cX4_piece 78 = .ok (.aload_n 0, 1) := by decide +kernel
theorem dX4_piece_79 : decode cX4_piece 79 = .ok (.iload_n 1, 1) := by decide +kernel
theorem dX4_piece_80 : decode cX4_piece 80 = .ok (.invokevirtual 88, 3) := by decide +kernel
theorem dX4_piece_83 : decode cX4_piece 83 = .ok (.return_, 1) := by decide +kernel
theorem dX4_comparison_0 : decode cX4_comparison 0 = .ok (.aload_n 0, 1) := by decide +kernel
theorem dX4_comparison_1 : decode cX4_comparison 1 = .ok (.iload_n 1, 1) := by decide +kernel
theorem dX4_comparison_2 : decode cX4_comparison 2 = .ok (.invokevirtual 91, 3) := by decide +kernel
theorem dX4_comparison_5 : decode cX4_comparison 5 = .ok (.aload_n 0, 1) := by decide +kernel
theorem dX4_comparison_6 : decode cX4_comparison 6 = .ok (.invokevirtual 50, 3) := by decide +kernel
theorem dX4_comparison_9 : decode cX4_comparison 9 = .ok (.istore_n 2, 1) := by decide +kernel
theorem dX4_comparison_10 : decode cX4_comparison 10 = .ok (.iload_n 2, 1) := by decide +kernel
theorem dX4_comparison_11 : decode cX4_comparison 11 = .ok (.bipush 60, 2) := by decide +kernel
theorem dX4_comparison_13 : decode cX4_comparison 13 = .ok (.if_icmp .eq 20, 3) := by decide +kernel
theorem dX4_comparison_16 : decode cX4_comparison 16 = .ok (.iload_n 2, 1) := by decide +kernel
theorem dX4_comparison_17 : decode cX4_comparison 17 = .ok (.bipush 62, 2) := by decide +kernel
theorem dX4_comparison_19 : decode cX4_comparison 19 = .ok (.if_icmp .eq 14, 3) := by decide +kernel
theorem dX4_comparison_22 : decode cX4_comparison 22 = .ok (.iload_n 2, 1) := by decide +kernel
theorem dX4_comparison_23 : decode cX4_comparison 23 = .ok (.bipush 61, 2) := by decide +kernel
theorem dX4_comparison_25 : decode cX4_comparison 25 = .ok (.if_icmp .eq 8, 3) := by decide +kernel
theorem dX4_comparison_28 : decode cX4_comparison 28 = .ok (.aload_n 0, 1) := by decide +kernel
theorem dX4_comparison_29 : decode cX4_comparison 29 = .ok (.iconst 1, 1) := by decide +kernel
theorem dX4_comparison_30 : decode cX4_comparison 30 = .ok (.invokevirtual 54, 3) := by decide +kernel
theorem dX4_comparison_33 : decode cX4_comparison 33 = .ok (.aload_n 0, 1) := by decide +kernel
theorem dX4_comparison_34 : decode cX4_comparison 34 = .ok (.getfield 32, 3) := by decide +kernel
theorem dX4_comparison_37 : decode cX4_comparison 37 = .ok (.ifCond .ne 28, 3) := by decide +kernel
theorem dX4_comparison_40 : decode cX4_comparison 40 = .ok (.aload_n 0, 1) := by decide +kernel
theorem dX4_comparison_41 : decode cX4_comparison 41 = .ok (.dup, 1) := by decide +kernel
theorem dX4_comparison_42 : decode cX4_comparison 42 = .ok (.getfield 29, 3) := by decide +kernel
theorem dX4_comparison_45 : decode cX4_comparison 45 = .ok (.iconst 1, 1) := by decide +kernel
theorem dX4_comparison_46 : decode cX4_comparison 46 = .ok (.iadd, 1) := by decide +kernel
theorem dX4_comparison_47 : decode cX4_comparison 47 = .ok (.putfield 29, 3) := by decide +kernel
theorem dX4_comparison_50 : decode cX4_comparison 50 = .ok (.aload_n 0, 1) := by decide +kernel
theorem dX4_comparison_51 : decode cX4_comparison 51 = .ok (.iload_n 1, 1) := by decide +kernel
theorem dX4_comparison_52 : decode cX4_comparison 52 = .ok (.invokevirtual 91, 3) := by decide +kernel
theorem dX4_comparison_55 : decode cX4_comparison 55 = .ok (.aload_n 0, 1) := by decide +kernel
theorem dX4_comparison_56 : decode cX4_comparison 56 = .ok (.getfield 15, 3) := by decide +kernel
theorem dX4_comparison_59 : decode cX4_comparison 59 = .ok (.iload_n 2, 1) := by decide +kernel
theorem dX4_comparison_60 : decode cX4_comparison 60 = .ok (.iconst 0, 1) := by decide +kernel
theorem dX4_comparison_61 : decode cX4_comparison 61 = .ok (.invokevirtual 72, 3) := by decide +kernel
theorem dX4_comparison_64 : decode cX4_comparison 64 = .ok (.pop, 1) := by decide +kernel
theorem dX4_comparison_65 : decode cX4_comparison 65 = .ok (.return_, 1) := by decide +kernel
theorem dX4_sum_0 : decode cX4_sum 0 = .ok (.aload_n 0, 1) := by decide +kernel
theorem dX4_sum_1 : decode cX4_sum 1 = .ok (.iload_n 1, 1) := by decide +kernel
theorem dX4_sum_2 : decode cX4_sum 2 = .ok (.invokevirtual 94, 3) := by decide +kernel
theorem dX4_sum_5 : decode cX4_sum 5 = .ok (.aload_n 0, 1) := by decide +kernel
theorem dX4_sum_6 : decode cX4_sum 6 = .ok (.invokevirtual 50, 3) := by decide +kernel
theorem dX4_sum_9 : decode cX4_sum 9 = .ok (.istore_n 2, 1) := by decide +kernel
theorem dX4_sum_10 : decode cX4_sum 10 = .ok (.iconst 0, 1) := by decide +kernel
theorem dX4_sum_11 : decode cX4_sum 11 = .ok (.istore_n 3, 1) := by decide +kernel
theorem dX4_sum_12 : decode cX4_sum 12 = .ok (.iload_n 3, 1) := by decide +kernel
theorem dX4_sum_13 : decode cX4_sum 13 = .ok (.sipush 160, 3) := by decide +kernel
theorem dX4_sum_16 : decode cX4_sum 16 = .ok (.if_icmp .ge 58, 3) := by decide +kernel
theorem dX4_sum_19 : decode cX4_sum 19 = .ok (.aload_n 0, 1) := by decide +kernel
theorem dX4_sum_20 : decode cX4_sum 20 = .ok (.getfield 32, 3) := by decide +kernel
theorem dX4_sum_23 : decode cX4_sum 23 = .ok (.ifCond .ne 51, 3) := by decide +kernel
theorem dX4_sum_26 : decode cX4_sum 26 = .ok (.iload_n 2, 1) := by decide +kernel
theorem dX4_sum_27 : decode cX4_sum 27 = .ok (.bipush 43, 2) := by decide +kernel
theorem dX4_sum_29 : decode cX4_sum 29 = .ok (.if_icmp .eq 9, 3) := by decide +kernel
theorem dX4_sum_32 : decode cX4_sum 32 = .ok (.iload_n 2, 1) := by decide +kernel
theorem dX4_sum_33 : decode cX4_sum 33 = .ok (.bipush 45, 2) := by decide +kernel
theorem dX4_sum_35 : decode cX4_sum 35 = .ok (.if_icmp .ne 39, 3) := by decide +kernel
theorem dX4_sum_38 : decode cX4_sum 38 = .ok (.aload_n 0, 1) := by decide +kernel
theorem dX4_sum_39 : decode cX4_sum 39 = .ok (.dup, 1) := by decide +kernel
theorem dX4_sum_40 : decode cX4_sum 40 = .ok (.getfield 29, 3) := by decide +kernel
theorem dX4_sum_43 : decode cX4_sum 43 = .ok (.iconst 1, 1) := by decide +kernel
theorem dX4_sum_44 : decode cX4_sum 44 = .ok (.iadd, 1) := by decide +kernel
theorem dX4_sum_45 : decode cX4_sum 45 = .ok (.putfield 29, 3) := by decide +kernel
theorem dX4_sum_48 : decode cX4_sum 48 = .ok (.aload_n 0, 1) := by decide +kernel
theorem dX4_sum_49 : decode cX4_sum 49 = .ok (.iload_n 1, 1) := by decide +kernel
theorem dX4_sum_50 : decode cX4_sum 50 = .ok (.invokevirtual 94, 3) := by decide +kernel
theorem dX4_sum_53 : decode cX4_sum 53 = .ok (.aload_n 0, 1) := by decide +kernel
theorem dX4_sum_54 : decode cX4_sum 54 = .ok (.getfield 15, 3) := by decide +kernel
theorem dX4_sum_57 : decode cX4_sum 57 = .ok (.iload_n 2, 1) := by decide +kernel
theorem dX4_sum_58 : decode cX4_sum 58 = .ok (.iconst 0, 1) := by decide +kernel
theorem dX4_sum_59 : decode cX4_sum 59 = .ok (.invokevirtual 72, 3) := by decide +kernel
theorem dX4_sum_62 : decode cX4_sum 62 = .ok (.pop, 1) := by decide +kernel
theorem dX4_sum_63 : decode cX4_sum 63 = .ok (.aload_n 0, 1) := by decide +kernel
theorem dX4_sum_64 : decode cX4_sum 64 = .ok (.invokevirtual 50, 3) := by decide +kernel
theorem dX4_sum_67 : decode cX4_sum 67 = .ok (.istore_n 2, 1) := by decide +kernel
theorem dX4_sum_68 : decode cX4_sum 68 = .ok (.iinc 3 1, 3) := by decide +kernel
theorem dX4_sum_71 : decode cX4_sum 71 = .ok (.goto (-59), 3) := by decide +kernel
theorem dX4_sum_74 : decode cX4_sum 74 = .ok (.return_, 1) := by decide +kernel
theorem dX4_product_0 : decode cX4_product 0 = .ok (.aload_n 0, 1) := by decide +kernel
theorem dX4_product_1 : decode cX4_product 1 = .ok (.iload_n 1, 1) := by decide +kernel
theorem dX4_product_2 : decode cX4_product 2 = .ok (.invokevirtual 97, 3) := by decide +kernel
theorem dX4_product_5 : decode cX4_product 5 = .ok (.aload_n 0, 1) := by decide +kernel
theorem dX4_product_6 : decode cX4_product 6 = .ok (.invokevirtual 50, 3) := by decide +kernel
theorem dX4_product_9 : decode cX4_product 9 = .ok (.istore_n 2, 1) := by decide +kernel
theorem dX4_product_10 : decode cX4_product 10 = .ok (.iconst 0, 1) := by decide +kernel
theorem dX4_product_11 : decode cX4_product 11 = .ok (.istore_n 3, 1) := by decide +kernel
theorem dX4_product_12 : decode cX4_product 12 = .ok (.iload_n 3, 1) := by decide +kernel
theorem dX4_product_13 : decode cX4_product 13 = .ok (.sipush 160, 3) := by decide +kernel
theorem dX4_product_16 : decode cX4_product 16 = .ok (.if_icmp .ge 53, 3) := by decide +kernel
theorem dX4_product_19 : decode cX4_product 19 = .ok (.aload_n 0, 1) := by decide +kernel
theorem dX4_product_20 : decode cX4_product 20 = .ok (.getfield 32, 3) := by decide +kernel
theorem dX4_product_23 : decode cX4_product 23 = .ok (.ifCond .ne 46, 3) := by decide +kernel
theorem dX4_product_26 : decode cX4_product 26 = .ok (.iload_n 2, 1) := by decide +kernel
theorem dX4_product_27 : decode cX4_product 27 = .ok (.invokestatic 100, 3) := by decide +kernel
theorem dX4_product_30 : decode cX4_product 30 = .ok (.ifCond .eq 39, 3) := by decide +kernel
theorem dX4_product_33 : decode cX4_product 33 = .ok (.aload_n 0, 1) := by decide +kernel
theorem dX4_product_34 : decode cX4_product 34 = .ok (.dup, 1) := by decide +kernel
theorem dX4_product_35 : decode cX4_product 35 = .ok (.getfield 29, 3) := by decide +kernel
theorem dX4_product_38 : decode cX4_product 38 = .ok (.iconst 1, 1) := by decide +kernel
theorem dX4_product_39 : decode cX4_product 39 = .ok (.iadd, 1) := by decide +kernel
theorem dX4_product_40 : decode cX4_product 40 = .ok (.putfield 29, 3) := by decide +kernel
theorem dX4_product_43 : decode cX4_product 43 = .ok (.aload_n 0, 1) := by decide +kernel
theorem dX4_product_44 : decode cX4_product 44 = .ok (.iload_n 1, 1) := by decide +kernel
theorem dX4_product_45 : decode cX4_product 45 = .ok (.invokevirtual 97, 3) := by decide +kernel
theorem dX4_product_48 : decode cX4_product 48 = .ok (.aload_n 0, 1) := by decide +kernel
theorem dX4_product_49 : decode cX4_product 49 = .ok (.getfield 15, 3) := by decide +kernel
theorem dX4_product_52 : decode cX4_product 52 = .ok (.iload_n 2, 1) := by decide +kernel
theorem dX4_product_53 : decode cX4_product 53 = .ok (.iconst 0, 1) := by decide +kernel
theorem dX4_product_54 : decode cX4_product 54 = .ok (.invokevirtual 72, 3) := by decide +kernel
theorem dX4_product_57 : decode cX4_product 57 = .ok (.pop, 1) := by decide +kernel
theorem dX4_product_58 : decode cX4_product 58 = .ok (.aload_n 0, 1) := by decide +kernel
theorem dX4_product_59 : decode cX4_product 59 = .ok (.invokevirtual 50, 3) := by decide +kernel
theorem dX4_product_62 : decode cX4_product 62 = .ok (.istore_n 2, 1) := by decide +kernel
theorem dX4_product_63 : decode cX4_product 63 = .ok (.iinc 3 1, 3) := by decide +kernel
theorem dX4_product_66 : decode cX4_product 66 = .ok (.goto (-54), 3) := by decide +kernel
theorem dX4_product_69 : decode cX4_product 69 = .ok (.return_, 1) := by decide +kernel
theorem dX4_isOfProduct_0 : decode cX4_isOfProduct 0 = .ok (.iload_n 0, 1) := by decide +kernel
theorem dX4_isOfProduct_1 : decode cX4_isOfProduct 1 = .ok (.bipush 42, 2) := by decide +kernel
theorem dX4_isOfProduct_3 : decode cX4_isOfProduct 3 = .ok (.if_icmp .eq 15, 3) := by decide +kernel
theorem dX4_isOfProduct_6 : decode cX4_isOfProduct 6 = .ok (.iload_n 0, 1) := by decide +kernel
theorem dX4_isOfProduct_7 : decode cX4_isOfProduct 7 = .ok (.bipush 47, 2) := by decide +kernel
theorem dX4_isOfProduct_9 : decode cX4_isOfProduct 9 = .ok (.if_icmp .eq 9, 3) := by decide +kernel
theorem dX4_isOfProduct_12 : decode cX4_isOfProduct 12 = .ok (.iload_n 0, 1) := by decide +kernel
theorem dX4_isOfProduct_13 : decode cX4_isOfProduct 13 = .ok (.bipush 37, 2) := by decide +kernel
theorem dX4_isOfProduct_15 : decode cX4_isOfProduct 15 = .ok (.if_icmp .ne 7, 3) := by decide +kernel
theorem dX4_isOfProduct_18 : decode cX4_isOfProduct 18 = .ok (.iconst 1, 1) := by decide +kernel
theorem dX4_isOfProduct_19 : decode cX4_isOfProduct 19 = .ok (.goto 4, 3) := by decide +kernel
theorem dX4_isOfProduct_22 : decode cX4_isOfProduct 22 = .ok (.iconst 0, 1) := by decide +kernel
theorem dX4_isOfProduct_23 : decode cX4_isOfProduct 23 = .ok (.ireturn, 1) := by decide +kernel
theorem dX4_factor_0 : decode cX4_factor 0 = .ok (.aload_n 0, 1) := by decide +kernel
theorem dX4_factor_1 : decode cX4_factor 1 = .ok (.getfield 32, 3) := by decide +kernel
theorem dX4_factor_4 : decode cX4_factor 4 = .ok (.ifCond .eq 4, 3) := by decide +kernel
theorem dX4_factor_7 : decode cX4_factor 7 = .ok (.return_, 1) := by decide +kernel
theorem dX4_factor_8 : decode cX4_factor 8 = .ok (.ldc 104, 2) := by decide +kernel
theorem dX4_factor_10 : decode cX4_factor 10 = .ok (.aload_n 0, 1) := by decide +kernel
theorem dX4_factor_11 : decode cX4_factor 11 = .ok (.invokevirtual 50, 3) := by decide +kernel
theorem dX4_factor_14 : decode cX4_factor 14 = .ok (.invokevirtual 60, 3) := by decide +kernel
theorem dX4_factor_17 : decode cX4_factor 17 = .ok (.istore_n 2, 1) := by decide +kernel
theorem dX4_factor_18 : decode cX4_factor 18 = .ok (.aload_n 0, 1) := by decide +kernel
theorem dX4_factor_19 : decode cX4_factor 19 = .ok (.invokevirtual 50, 3) := by decide +kernel
theorem dX4_factor_22 : decode cX4_factor 22 = .ok (.bipush 91, 2) := by decide +kernel
theorem dX4_factor_24 : decode cX4_factor 24 = .ok (.if_icmp .ne 27, 3) := by decide +kernel
theorem dX4_factor_27 : decode cX4_factor 27 = .ok (.aload_n 0, 1) := by decide +kernel
theorem dX4_factor_28 : decode cX4_factor 28 = .ok (.iload_n 1, 1) := by decide +kernel
theorem dX4_factor_29 : decode cX4_factor 29 = .ok (.invokevirtual 84, 3) := by decide +kernel
theorem dX4_factor_32 : decode cX4_factor 32 = .ok (.ifCond .eq 68, 3) := by decide +kernel
theorem dX4_factor_35 : decode cX4_factor 35 = .ok (.aload_n 0, 1) := by decide +kernel
theorem dX4_factor_36 : decode cX4_factor 36 = .ok (.iload_n 1, 1) := by decide +kernel
theorem dX4_factor_37 : decode cX4_factor 37 = .ok (.iconst 1, 1) := by decide +kernel
theorem dX4_factor_38 : decode cX4_factor 38 = .ok (.iadd, 1) := by decide +kernel
theorem dX4_factor_39 : decode cX4_factor 39 = .ok (.invokevirtual 91, 3) := by decide +kernel
theorem dX4_factor_42 : decode cX4_factor 42 = .ok (.aload_n 0, 1) := by decide +kernel
theorem dX4_factor_43 : decode cX4_factor 43 = .ok (.bipush 93, 2) := by decide +kernel
theorem dX4_factor_45 : decode cX4_factor 45 = .ok (.invokevirtual 46, 3) := by decide +kernel
theorem dX4_factor_48 : decode cX4_factor 48 = .ok (.goto 52, 3) := by decide +kernel
theorem dX4_factor_51 : decode cX4_factor 51 = .ok (.aload_n 0, 1) := by decide +kernel
theorem dX4_factor_52 : decode cX4_factor 52 = .ok (.invokevirtual 50, 3) := by decide +kernel
theorem dX4_factor_55 : decode cX4_factor 55 = .ok (.invokestatic 106, 3) := by decide +kernel
theorem dX4_factor_58 : decode cX4_factor 58 = .ok (.ifCond .eq 10, 3) := by decide +kernel
theorem dX4_factor_61 : decode cX4_factor 61 = .ok (.aload_n 0, 1) := by decide +kernel
theorem dX4_factor_62 : decode cX4_factor 62 = .ok (.invokevirtual 109, 3) := by decide +kernel
theorem dX4_factor_65 : decode cX4_factor 65 = .ok (.goto 35, 3) := by decide +kernel
theorem dX4_factor_68 : decode cX4_factor 68 = .ok (.iload_n 2, 1) := by decide +kernel
theorem dX4_factor_69 : decode cX4_factor 69 = .ok (.ifCond .lt 26, 3) := by decide +kernel
theorem dX4_factor_72 : decode cX4_factor 72 = .ok (.aload_n 0, 1) := by decide +kernel
theorem dX4_factor_73 : decode cX4_factor 73 = .ok (.dup, 1) := by decide +kernel
theorem dX4_factor_74 : decode cX4_factor 74 = .ok (.getfield 29, 3) := by decide +kernel
theorem dX4_factor_77 : decode cX4_factor 77 = .ok (.iconst 1, 1) := by decide +kernel
theorem dX4_factor_78 : decode cX4_factor 78 = .ok (.iadd, 1) := by decide +kernel
theorem dX4_factor_79 : decode cX4_factor 79 = .ok (.putfield 29, 3) := by decide +kernel
theorem dX4_factor_82 : decode cX4_factor 82 = .ok (.aload_n 0, 1) := by decide +kernel
theorem dX4_factor_83 : decode cX4_factor 83 = .ok (.getfield 15, 3) := by decide +kernel
theorem dX4_factor_86 : decode cX4_factor 86 = .ok (.iconst 1, 1) := by decide +kernel
theorem dX4_factor_87 : decode cX4_factor 87 = .ok (.iload_n 2, 1) := by decide +kernel
theorem dX4_factor_88 : decode cX4_factor 88 = .ok (.invokevirtual 72, 3) := by decide +kernel
theorem dX4_factor_91 : decode cX4_factor 91 = .ok (.pop, 1) := by decide +kernel
theorem dX4_factor_92 : decode cX4_factor 92 = .ok (.goto 8, 3) := by decide +kernel
theorem dX4_factor_95 : decode cX4_factor 95 = .ok (.aload_n 0, 1) := by decide +kernel
theorem dX4_factor_96 : decode cX4_factor 96 = .ok (.iconst 1, 1) := by decide +kernel
theorem dX4_factor_97 : decode cX4_factor 97 = .ok (.invokevirtual 54, 3) := by decide +kernel
theorem dX4_factor_100 : decode cX4_factor 100 = .ok (.return_, 1) := by decide +kernel
theorem dX4_isDigit_0 : decode cX4_isDigit 0 = .ok (.iload_n 0, 1) := by decide +kernel
theorem dX4_isDigit_1 : decode cX4_isDigit 1 = .ok (.bipush 48, 2) := by decide +kernel
theorem dX4_isDigit_3 : decode cX4_isDigit 3 = .ok (.if_icmp .lt 13, 3) := by decide +kernel
theorem dX4_isDigit_6 : decode cX4_isDigit 6 = .ok (.iload_n 0, 1) := by decide +kernel
theorem dX4_isDigit_7 : decode cX4_isDigit 7 = .ok (.bipush 57, 2) := by decide +kernel
theorem dX4_isDigit_9 : decode cX4_isDigit 9 = .ok (.if_icmp .gt 7, 3) := by decide +kernel
theorem dX4_isDigit_12 : decode cX4_isDigit 12 = .ok (.iconst 1, 1) := by decide +kernel
theorem dX4_isDigit_13 : decode cX4_isDigit 13 = .ok (.goto 4, 3) := by decide +kernel
theorem dX4_isDigit_16 : decode cX4_isDigit 16 = .ok (.iconst 0, 1) := by decide +kernel
theorem dX4_isDigit_17 : decode cX4_isDigit 17 = .ok (.ireturn, 1) := by decide +kernel
theorem dX4_number_0 : decode cX4_number 0 = .ok (.iconst 0, 1) := by decide +kernel
theorem dX4_number_1 : decode cX4_number 1 = .ok (.istore_n 1, 1) := by decide +kernel
theorem dX4_number_2 : decode cX4_number 2 = .ok (.iconst 0, 1) := by decide +kernel
theorem dX4_number_3 : decode cX4_number 3 = .ok (.istore_n 2, 1) := by decide +kernel
theorem dX4_number_4 : decode cX4_number 4 = .ok (.iload_n 2, 1) := by decide +kernel
theorem dX4_number_5 : decode cX4_number 5 = .ok (.bipush 6, 2) := by decide +kernel
theorem dX4_number_7 : decode cX4_number 7 = .ok (.if_icmp .ge 42, 3) := by decide +kernel
theorem dX4_number_10 : decode cX4_number 10 = .ok (.aload_n 0, 1) := by decide +kernel
theorem dX4_number_11 : decode cX4_number 11 = .ok (.invokevirtual 50, 3) := by decide +kernel
theorem dX4_number_14 : decode cX4_number 14 = .ok (.invokestatic 106, 3) := by decide +kernel
theorem dX4_number_17 : decode cX4_number 17 = .ok (.ifCond .eq 32, 3) := by decide +kernel
theorem dX4_number_20 : decode cX4_number 20 = .ok (.bipush 10, 2) := by decide +kernel
theorem dX4_number_22 : decode cX4_number 22 = .ok (.iload_n 1, 1) := by decide +kernel
theorem dX4_number_23 : decode cX4_number 23 = .ok (.imul, 1) := by decide +kernel
theorem dX4_number_24 : decode cX4_number 24 = .ok (.aload_n 0, 1) := by decide +kernel
theorem dX4_number_25 : decode cX4_number 25 = .ok (.invokevirtual 50, 3) := by decide +kernel
theorem dX4_number_28 : decode cX4_number 28 = .ok (.iadd, 1) := by decide +kernel
theorem dX4_number_29 : decode cX4_number 29 = .ok (.bipush 48, 2) := by decide +kernel
theorem dX4_number_31 : decode cX4_number 31 = .ok (.isub, 1) := by decide +kernel
theorem dX4_number_32 : decode cX4_number 32 = .ok (.istore_n 1, 1) := by decide +kernel
theorem dX4_number_33 : decode cX4_number 33 = .ok (.aload_n 0, 1) := by decide +kernel
theorem dX4_number_34 : decode cX4_number 34 = .ok (.dup, 1) := by decide +kernel
theorem dX4_number_35 : decode cX4_number 35 = .ok (.getfield 29, 3) := by decide +kernel
theorem dX4_number_38 : decode cX4_number 38 = .ok (.iconst 1, 1) := by decide +kernel
theorem dX4_number_39 : decode cX4_number 39 = .ok (.iadd, 1) := by decide +kernel
theorem dX4_number_40 : decode cX4_number 40 = .ok (.putfield 29, 3) := by decide +kernel
theorem dX4_number_43 : decode cX4_number 43 = .ok (.iinc 2 1, 3) := by decide +kernel
theorem dX4_number_46 : decode cX4_number 46 = .ok (.goto (-42), 3) := by decide +kernel
theorem dX4_number_49 : decode cX4_number 49 = .ok (.aload_n 0, 1) := by decide +kernel
theorem dX4_number_50 : decode cX4_number 50 = .ok (.invokevirtual 50, 3) := by decide +kernel
theorem dX4_number_53 : decode cX4_number 53 = .ok (.invokestatic 106, 3) := by decide +kernel
theorem dX4_number_56 : decode cX4_number 56 = .ok (.ifCond .eq 8, 3) := by decide +kernel
theorem dX4_number_59 : decode cX4_number 59 = .ok (.aload_n 0, 1) := by decide +kernel
theorem dX4_number_60 : decode cX4_number 60 = .ok (.iconst 2, 1) := by decide +kernel
theorem dX4_number_61 : decode cX4_number 61 = .ok (.invokevirtual 54, 3) := by decide +kernel
theorem dX4_number_64 : decode cX4_number 64 = .ok (.aload_n 0, 1) := by decide +kernel
theorem dX4_number_65 : decode cX4_number 65 = .ok (.getfield 15, 3) := by decide +kernel
theorem dX4_number_68 : decode cX4_number 68 = .ok (.iconst 0, 1) := by decide +kernel
theorem dX4_number_69 : decode cX4_number 69 = .ok (.iload_n 1, 1) := by decide +kernel
theorem dX4_number_70 : decode cX4_number 70 = .ok (.invokevirtual 72, 3) := by decide +kernel
theorem dX4_number_73 : decode cX4_number 73 = .ok (.pop, 1) := by decide +kernel
theorem dX4_number_74 : decode cX4_number 74 = .ok (.return_, 1) := by decide +kernel
theorem dX5_init_0 : decode cX5_init 0 = .ok (.aload_n 0, 1) := by decide +kernel
theorem dX5_init_1 : decode cX5_init 1 = .ok (.invokespecial 3, 3) := by decide +kernel
theorem dX5_init_4 : decode cX5_init 4 = .ok (.return_, 1) := by decide +kernel
theorem dX5_goes_0 : decode cX5_goes 0 = .ok (.aload_n 0, 1) := by decide +kernel
theorem dX5_goes_1 : decode cX5_goes 1 = .ok (.iload_n 1, 1) := by decide +kernel
theorem dX5_goes_2 : decode cX5_goes 2 = .ok (.putfield 9, 3) := by decide +kernel
theorem dX5_goes_5 : decode cX5_goes 5 = .ok (.aload_n 0, 1) := by decide +kernel
theorem dX5_goes_6 : decode cX5_goes 6 = .ok (.iload_n 2, 1) := by decide +kernel
theorem dX5_goes_7 : decode cX5_goes 7 = .ok (.putfield 15, 3) := by decide +kernel
theorem dX5_goes_10 : decode cX5_goes 10 = .ok (.aload_n 0, 1) := by decide +kernel
theorem dX5_goes_11 : decode cX5_goes 11 = .ok (.iload_n 3, 1) := by decide +kernel
theorem dX5_goes_12 : decode cX5_goes 12 = .ok (.putfield 18, 3) := by decide +kernel
theorem dX5_goes_15 : decode cX5_goes 15 = .ok (.aload_n 0, 1) := by decide +kernel
theorem dX5_goes_16 : decode cX5_goes 16 = .ok (.iload 4, 2) := by decide +kernel
theorem dX5_goes_18 : decode cX5_goes 18 = .ok (.putfield 21, 3) := by decide +kernel
theorem dX5_goes_21 : decode cX5_goes 21 = .ok (.return_, 1) := by decide +kernel
theorem dX5_costs_0 : decode cX5_costs 0 = .ok (.aload_n 0, 1) := by decide +kernel
theorem dX5_costs_1 : decode cX5_costs 1 = .ok (.iload_n 1, 1) := by decide +kernel
theorem dX5_costs_2 : decode cX5_costs 2 = .ok (.putfield 24, 3) := by decide +kernel
theorem dX5_costs_5 : decode cX5_costs 5 = .ok (.aload_n 0, 1) := by decide +kernel
theorem dX5_costs_6 : decode cX5_costs 6 = .ok (.iload_n 2, 1) := by decide +kernel
theorem dX5_costs_7 : decode cX5_costs 7 = .ok (.putfield 27, 3) := by decide +kernel
theorem dX5_costs_10 : decode cX5_costs 10 = .ok (.return_, 1) := by decide +kernel
theorem dX5_knows_0 : decode cX5_knows 0 = .ok (.aload_n 0, 1) := by decide +kernel
theorem dX5_knows_1 : decode cX5_knows 1 = .ok (.iload_n 1, 1) := by decide +kernel
theorem dX5_knows_2 : decode cX5_knows 2 = .ok (.putfield 30, 3) := by decide +kernel
theorem dX5_knows_5 : decode cX5_knows 5 = .ok (.aload_n 0, 1) := by decide +kernel
theorem dX5_knows_6 : decode cX5_knows 6 = .ok (.iload_n 2, 1) := by decide +kernel
theorem dX5_knows_7 : decode cX5_knows 7 = .ok (.putfield 33, 3) := by decide +kernel
theorem dX5_knows_10 : decode cX5_knows 10 = .ok (.return_, 1) := by decide +kernel
theorem dX5_sign_0 : decode cX5_sign 0 = .ok (.aload_n 0, 1) := by decide +kernel
theorem dX5_sign_1 : decode cX5_sign 1 = .ok (.getfield 27, 3) := by decide +kernel
theorem dX5_sign_4 : decode cX5_sign 4 = .ok (.iload_n 1, 1) := by decide +kernel
theorem dX5_sign_5 : decode cX5_sign 5 = .ok (.iand, 1) := by decide +kernel
theorem dX5_sign_6 : decode cX5_sign 6 = .ok (.ifCond .eq 7, 3) := by decide +kernel
theorem dX5_sign_9 : decode cX5_sign 9 = .ok (.iconst 1, 1) := by decide +kernel
theorem dX5_sign_10 : decode cX5_sign 10 = .ok (.goto 4, 3) := by decide +kernel
theorem dX5_sign_13 : decode cX5_sign 13 = .ok (.iconst 0, 1) := by decide +kernel
theorem dX5_sign_14 : decode cX5_sign 14 = .ok (.ireturn, 1) := by decide +kernel
theorem dX5_field_0 : decode cX5_field 0 = .ok (.iload_n 1, 1) := by decide +kernel
theorem dX5_field_1 : decode cX5_field 1 = .ok (.tableswitch 87 0 7 #[47, 52, 57, 62, 67, 72, 77, 82], 47) := by decide +kernel
theorem dX5_field_48 : decode cX5_field 48 = .ok (.aload_n 0, 1) := by decide +kernel
theorem dX5_field_49 : decode cX5_field 49 = .ok (.getfield 9, 3) := by decide +kernel
theorem dX5_field_52 : decode cX5_field 52 = .ok (.ireturn, 1) := by decide +kernel
theorem dX5_field_53 : decode cX5_field 53 = .ok (.aload_n 0, 1) := by decide +kernel
theorem dX5_field_54 : decode cX5_field 54 = .ok (.getfield 15, 3) := by decide +kernel
theorem dX5_field_57 : decode cX5_field 57 = .ok (.ireturn, 1) := by decide +kernel
theorem dX5_field_58 : decode cX5_field 58 = .ok (.aload_n 0, 1) := by decide +kernel
theorem dX5_field_59 : decode cX5_field 59 = .ok (.getfield 18, 3) := by decide +kernel
theorem dX5_field_62 : decode cX5_field 62 = .ok (.ireturn, 1) := by decide +kernel
theorem dX5_field_63 : decode cX5_field 63 = .ok (.aload_n 0, 1) := by decide +kernel
theorem dX5_field_64 : decode cX5_field 64 = .ok (.getfield 21, 3) := by decide +kernel
theorem dX5_field_67 : decode cX5_field 67 = .ok (.ireturn, 1) := by decide +kernel
theorem dX5_field_68 : decode cX5_field 68 = .ok (.aload_n 0, 1) := by decide +kernel
theorem dX5_field_69 : decode cX5_field 69 = .ok (.getfield 24, 3) := by decide +kernel
theorem dX5_field_72 : decode cX5_field 72 = .ok (.ireturn, 1) := by decide +kernel
theorem dX5_field_73 : decode cX5_field 73 = .ok (.aload_n 0, 1) := by decide +kernel
theorem dX5_field_74 : decode cX5_field 74 = .ok (.getfield 27, 3) := by decide +kernel
theorem dX5_field_77 : decode cX5_field 77 = .ok (.ireturn, 1) := by decide +kernel
theorem dX5_field_78 : decode cX5_field 78 = .ok (.aload_n 0, 1) := by decide +kernel
theorem dX5_field_79 : decode cX5_field 79 = .ok (.getfield 30, 3) := by decide +kernel
theorem dX5_field_82 : decode cX5_field 82 = .ok (.ireturn, 1) := by decide +kernel
theorem dX5_field_83 : decode cX5_field 83 = .ok (.aload_n 0, 1) := by decide +kernel
theorem dX5_field_84 : decode cX5_field 84 = .ok (.getfield 33, 3) := by decide +kernel
theorem dX5_field_87 : decode cX5_field 87 = .ok (.ireturn, 1) := by decide +kernel
theorem dX5_field_88 : decode cX5_field 88 = .ok (.iconst (-1), 1) := by decide +kernel
theorem dX5_field_89 : decode cX5_field 89 = .ok (.ireturn, 1) := by decide +kernel
theorem dX6_init_0 : decode cX6_init 0 = .ok (.aload_n 0, 1) := by decide +kernel
theorem dX6_init_1 : decode cX6_init 1 = .ok (.invokespecial 1, 3) := by decide +kernel
theorem dX6_init_4 : decode cX6_init 4 = .ok (.aload_n 0, 1) := by decide +kernel
theorem dX6_init_5 : decode cX6_init 5 = .ok (.bipush 13, 2) := by decide +kernel
theorem dX6_init_7 : decode cX6_init 7 = .ok (.newarray .int, 2) := by decide +kernel
theorem dX6_init_9 : decode cX6_init 9 = .ok (.putfield 9, 3) := by decide +kernel
theorem dX6_init_12 : decode cX6_init 12 = .ok (.aload_n 0, 1) := by decide +kernel
theorem dX6_init_13 : decode cX6_init 13 = .ok (.bipush 64, 2) := by decide +kernel
theorem dX6_init_15 : decode cX6_init 15 = .ok (.newarray .int, 2) := by decide +kernel
theorem dX6_init_17 : decode cX6_init 17 = .ok (.putfield 13, 3) := by decide +kernel
theorem dX6_init_20 : decode cX6_init 20 = .ok (.return_, 1) := by decide +kernel
theorem dX6_isOneHolding_0 : decode cX6_isOneHolding 0 = .ok (.iconst 0, 1) := by decide +kernel
theorem dX6_isOneHolding_1 : decode cX6_isOneHolding 1 = .ok (.istore_n 3, 1) := by decide +kernel
theorem dX6_isOneHolding_2 : decode cX6_isOneHolding 2 = .ok (.iload_n 3, 1) := by decide +kernel
theorem dX6_isOneHolding_3 : decode cX6_isOneHolding 3 = .ok (.aload_n 1, 1) := by decide +kernel
theorem dX6_isOneHolding_4 : decode cX6_isOneHolding 4 = .ok (.getfield 16, 3) := by decide +kernel
theorem dX6_isOneHolding_7 : decode cX6_isOneHolding 7 = .ok (.if_icmp .ge 35, 3) := by decide +kernel
theorem dX6_isOneHolding_10 : decode cX6_isOneHolding 10 = .ok (.aload_n 1, 1) := by decide +kernel
theorem dX6_isOneHolding_11 : decode cX6_isOneHolding 11 = .ok (.getfield 22, 3) := by decide +kernel
theorem dX6_isOneHolding_14 : decode cX6_isOneHolding 14 = .ok (.iload_n 3, 1) := by decide +kernel
theorem dX6_isOneHolding_15 : decode cX6_isOneHolding 15 = .ok (.iaload, 1) := by decide +kernel
theorem dX6_isOneHolding_16 : decode cX6_isOneHolding 16 = .ok (.iload_n 2, 1) := by decide +kernel
theorem dX6_isOneHolding_17 : decode cX6_isOneHolding 17 = .ok (.if_icmp .ne 19, 3) := by decide +kernel
theorem dX6_isOneHolding_20 : decode cX6_isOneHolding 20 = .ok (.aload_n 0, 1) := by decide +kernel
theorem dX6_isOneHolding_21 : decode cX6_isOneHolding 21 = .ok (.aload_n 1, 1) := by decide +kernel
theorem dX6_isOneHolding_22 : decode cX6_isOneHolding 22 = .ok (.aload_n 1, 1) := by decide +kernel
theorem dX6_isOneHolding_23 : decode cX6_isOneHolding 23 = .ok (.getfield 25, 3) := by decide +kernel
theorem dX6_isOneHolding_26 : decode cX6_isOneHolding 26 = .ok (.iload_n 3, 1) := by decide +kernel
theorem dX6_isOneHolding_27 : decode cX6_isOneHolding 27 = .ok (.iaload, 1) := by decide +kernel
theorem dX6_isOneHolding_28 : decode cX6_isOneHolding 28 = .ok (.invokevirtual 28, 3) := by decide +kernel
theorem dX6_isOneHolding_31 : decode cX6_isOneHolding 31 = .ok (.ifCond .eq 5, 3) := by decide +kernel
theorem dX6_isOneHolding_34 : decode cX6_isOneHolding 34 = .ok (.iconst 1, 1) := by decide +kernel
theorem dX6_isOneHolding_35 : decode cX6_isOneHolding 35 = .ok (.ireturn, 1) := by decide +kernel
theorem dX6_isOneHolding_36 : decode cX6_isOneHolding 36 = .ok (.iinc 3 1, 3) := by decide +kernel
theorem dX6_isOneHolding_39 : decode cX6_isOneHolding 39 = .ok (.goto (-37), 3) := by decide +kernel
theorem dX6_isOneHolding_42 : decode cX6_isOneHolding 42 = .ok (.iconst 0, 1) := by decide +kernel
theorem dX6_isOneHolding_43 : decode cX6_isOneHolding 43 = .ok (.ireturn, 1) := by decide +kernel
theorem dX6_isHolding_0 : decode cX6_isHolding 0 = .ok (.iconst 0, 1) := by decide +kernel
theorem dX6_isHolding_1 : decode cX6_isHolding 1 = .ok (.istore_n 3, 1) := by decide +kernel
theorem dX6_isHolding_2 : decode cX6_isHolding 2 = .ok (.iload_n 2, 1) := by decide +kernel
theorem dX6_isHolding_3 : decode cX6_isHolding 3 = .ok (.istore 4, 2) := by decide +kernel
theorem dX6_isHolding_5 : decode cX6_isHolding 5 = .ok (.iload 4, 2) := by decide +kernel
theorem dX6_isHolding_7 : decode cX6_isHolding 7 = .ok (.aload_n 1, 1) := by decide +kernel
theorem dX6_isHolding_8 : decode cX6_isHolding 8 = .ok (.getfield 32, 3) := by decide +kernel
theorem dX6_isHolding_11 : decode cX6_isHolding 11 = .ok (.if_icmp .ge 274, 3) := by decide +kernel
theorem dX6_isHolding_14 : decode cX6_isHolding 14 = .ok (.aload_n 1, 1) := by decide +kernel
theorem dX6_isHolding_15 : decode cX6_isHolding 15 = .ok (.getfield 35, 3) := by decide +kernel
theorem dX6_isHolding_18 : decode cX6_isHolding 18 = .ok (.iload 4, 2) := by decide +kernel
theorem dX6_isHolding_20 : decode cX6_isHolding 20 = .ok (.iaload, 1) := by decide +kernel
theorem dX6_isHolding_21 : decode cX6_isHolding 21 = .ok (.istore 5, 2) := by decide +kernel
theorem dX6_isHolding_23 : decode cX6_isHolding 23 = .ok (.aload_n 1, 1) := by decide +kernel
theorem dX6_isHolding_24 : decode cX6_isHolding 24 = .ok (.getfield 38, 3) := by decide +kernel
theorem dX6_isHolding_27 : decode cX6_isHolding 27 = .ok (.iload 4, 2) := by decide +kernel
theorem dX6_isHolding_29 : decode cX6_isHolding 29 = .ok (.iaload, 1) := by decide +kernel
theorem dX6_isHolding_30 : decode cX6_isHolding 30 = .ok (.istore 6, 2) := by decide +kernel
theorem dX6_isHolding_32 : decode cX6_isHolding 32 = .ok (.iload 5, 2) := by decide +kernel
theorem dX6_isHolding_34 : decode cX6_isHolding 34 = .ok (.ifCond .eq 9, 3) := by decide +kernel
theorem dX6_isHolding_37 : decode cX6_isHolding 37 = .ok (.iload 5, 2) := by decide +kernel
theorem dX6_isHolding_39 : decode cX6_isHolding 39 = .ok (.iconst 1, 1) := by decide +kernel
theorem dX6_isHolding_40 : decode cX6_isHolding 40 = .ok (.if_icmp .ne 40, 3) := by decide +kernel
theorem dX6_isHolding_43 : decode cX6_isHolding 43 = .ok (.iload_n 3, 1) := by decide +kernel
theorem dX6_isHolding_44 : decode cX6_isHolding 44 = .ok (.bipush 64, 2) := by decide +kernel
theorem dX6_isHolding_46 : decode cX6_isHolding 46 = .ok (.if_icmp .lt 5, 3) := by decide +kernel
theorem dX6_isHolding_49 : decode cX6_isHolding 49 = .ok (.iconst 0, 1) := by decide +kernel
theorem dX6_isHolding_50 : decode cX6_isHolding 50 = .ok (.ireturn, 1) := by decide +kernel
theorem dX6_isHolding_51 : decode cX6_isHolding 51 = .ok (.aload_n 0, 1) := by decide +kernel
theorem dX6_isHolding_52 : decode cX6_isHolding 52 = .ok (.getfield 13, 3) := by decide +kernel
theorem dX6_isHolding_55 : decode cX6_isHolding 55 = .ok (.iload_n 3, 1) := by decide +kernel
theorem dX6_isHolding_56 : decode cX6_isHolding 56 = .ok (.iload 5, 2) := by decide +kernel
theorem dX6_isHolding_58 : decode cX6_isHolding 58 = .ok (.ifCond .ne 8, 3) := by decide +kernel
theorem dX6_isHolding_61 : decode cX6_isHolding 61 = .ok (.iload 6, 2) := by decide +kernel
theorem dX6_isHolding_63 : decode cX6_isHolding 63 = .ok (.goto 10, 3) := by decide +kernel
theorem dX6_isHolding_66 : decode cX6_isHolding 66 = .ok (.aload_n 0, 1) := by decide +kernel
theorem dX6_isHolding_67 : decode cX6_isHolding 67 = .ok (.getfield 9, 3) := by decide +kernel
theorem dX6_isHolding_70 : decode cX6_isHolding 70 = .ok (.iload 6, 2) := by decide +kernel
theorem dX6_isHolding_72 : decode cX6_isHolding 72 = .ok (.iaload, 1) := by decide +kernel
theorem dX6_isHolding_73 : decode cX6_isHolding 73 = .ok (.iastore, 1) := by decide +kernel
theorem dX6_isHolding_74 : decode cX6_isHolding 74 = .ok (.iinc 3 1, 3) := by decide +kernel
theorem dX6_isHolding_77 : decode cX6_isHolding 77 = .ok (.goto 202, 3) := by decide +kernel
theorem dX6_isHolding_80 : decode cX6_isHolding 80 = .ok (.iload_n 3, 1) := by decide +kernel
theorem dX6_isHolding_81 : decode cX6_isHolding 81 = .ok (.iconst 1, 1) := by decide +kernel
theorem dX6_isHolding_82 : decode cX6_isHolding 82 = .ok (.if_icmp .ge 5, 3) := by decide +kernel
theorem dX6_isHolding_85 : decode cX6_isHolding 85 = .ok (.iconst 0, 1) := by decide +kernel
theorem dX6_isHolding_86 : decode cX6_isHolding 86 = .ok (.ireturn, 1) := by decide +kernel
theorem dX6_isHolding_87 : decode cX6_isHolding 87 = .ok (.iload 5, 2) := by decide +kernel
theorem dX6_isHolding_89 : decode cX6_isHolding 89 = .ok (.iconst 5, 1) := by decide +kernel
theorem dX6_isHolding_90 : decode cX6_isHolding 90 = .ok (.if_icmp .ne 20, 3) := by decide +kernel
theorem dX6_isHolding_93 : decode cX6_isHolding 93 = .ok (.aload_n 0, 1) := by decide +kernel
theorem dX6_isHolding_94 : decode cX6_isHolding 94 = .ok (.getfield 13, 3) := by decide +kernel
theorem dX6_isHolding_97 : decode cX6_isHolding 97 = .ok (.iload_n 3, 1) := by decide +kernel
theorem dX6_isHolding_98 : decode cX6_isHolding 98 = .ok (.iconst 1, 1) := by decide +kernel
theorem dX6_isHolding_99 : decode cX6_isHolding 99 = .ok (.isub, 1) := by decide +kernel
theorem dX6_isHolding_100 : decode cX6_isHolding 100 = .ok (.iaload, 1) := by decide +kernel
theorem dX6_isHolding_101 : decode cX6_isHolding 101 = .ok (.ifCond .eq 7, 3) := by decide +kernel
theorem dX6_isHolding_104 : decode cX6_isHolding 104 = .ok (.iconst 1, 1) := by decide +kernel
theorem dX6_isHolding_105 : decode cX6_isHolding 105 = .ok (.goto 4, 3) := by decide +kernel
theorem dX6_isHolding_108 : decode cX6_isHolding 108 = .ok (.iconst 0, 1) := by decide +kernel
theorem dX6_isHolding_109 : decode cX6_isHolding 109 = .ok (.ireturn, 1) := by decide +kernel
theorem dX6_isHolding_110 : decode cX6_isHolding 110 = .ok (.iload 5, 2) := by decide +kernel
theorem dX6_isHolding_112 : decode cX6_isHolding 112 = .ok (.iconst 2, 1) := by decide +kernel
theorem dX6_isHolding_113 : decode cX6_isHolding 113 = .ok (.if_icmp .ne 30, 3) := by decide +kernel
theorem dX6_isHolding_116 : decode cX6_isHolding 116 = .ok (.aload_n 0, 1) := by decide +kernel
theorem dX6_isHolding_117 : decode cX6_isHolding 117 = .ok (.getfield 13, 3) := by decide +kernel
theorem dX6_isHolding_120 : decode cX6_isHolding 120 = .ok (.iload_n 3, 1) := by decide +kernel
theorem dX6_isHolding_121 : decode cX6_isHolding 121 = .ok (.iconst 1, 1) := by decide +kernel
theorem dX6_isHolding_122 : decode cX6_isHolding 122 = .ok (.isub, 1) := by decide +kernel
theorem dX6_isHolding_123 : decode cX6_isHolding 123 = .ok (.aload_n 0, 1) := by decide +kernel
theorem dX6_isHolding_124 : decode cX6_isHolding 124 = .ok (.getfield 13, 3) := by decide +kernel
theorem dX6_isHolding_127 : decode cX6_isHolding 127 = .ok (.iload_n 3, 1) := by decide +kernel
theorem dX6_isHolding_128 : decode cX6_isHolding 128 = .ok (.iconst 1, 1) := by decide +kernel
theorem dX6_isHolding_129 : decode cX6_isHolding 129 = .ok (.isub, 1) := by decide +kernel
theorem dX6_isHolding_130 : decode cX6_isHolding 130 = .ok (.iaload, 1) := by decide +kernel
theorem dX6_isHolding_131 : decode cX6_isHolding 131 = .ok (.ifCond .ne 7, 3) := by decide +kernel
theorem dX6_isHolding_134 : decode cX6_isHolding 134 = .ok (.iconst 1, 1) := by decide +kernel
theorem dX6_isHolding_135 : decode cX6_isHolding 135 = .ok (.goto 4, 3) := by decide +kernel
theorem dX6_isHolding_138 : decode cX6_isHolding 138 = .ok (.iconst 0, 1) := by decide +kernel
theorem dX6_isHolding_139 : decode cX6_isHolding 139 = .ok (.iastore, 1) := by decide +kernel
theorem dX6_isHolding_140 : decode cX6_isHolding 140 = .ok (.goto 139, 3) := by decide +kernel
theorem dX6_isHolding_143 : decode cX6_isHolding 143 = .ok (.iload 5, 2) := by decide +kernel
theorem dX6_isHolding_145 : decode cX6_isHolding 145 = .ok (.iconst 3, 1) := by decide +kernel
theorem dX6_isHolding_146 : decode cX6_isHolding 146 = .ok (.if_icmp .eq 86, 3) := by decide +kernel
theorem dX6_isHolding_149 : decode cX6_isHolding 149 = .ok (.iload 5, 2) := by decide +kernel
theorem dX6_isHolding_151 : decode cX6_isHolding 151 = .ok (.iconst 4, 1) := by decide +kernel
theorem dX6_isHolding_152 : decode cX6_isHolding 152 = .ok (.if_icmp .eq 80, 3) := by decide +kernel
theorem dX6_isHolding_155 : decode cX6_isHolding 155 = .ok (.aload_n 0, 1) := by decide +kernel
theorem dX6_isHolding_156 : decode cX6_isHolding 156 = .ok (.getfield 13, 3) := by decide +kernel
theorem dX6_isHolding_159 : decode cX6_isHolding 159 = .ok (.iload_n 3, 1) := by decide +kernel
theorem dX6_isHolding_160 : decode cX6_isHolding 160 = .ok (.iconst 1, 1) := by decide +kernel
theorem dX6_isHolding_161 : decode cX6_isHolding 161 = .ok (.isub, 1) := by decide +kernel
theorem dX6_isHolding_162 : decode cX6_isHolding 162 = .ok (.iaload, 1) := by decide +kernel
theorem dX6_isHolding_163 : decode cX6_isHolding 163 = .ok (.istore 7, 2) := by decide +kernel
theorem dX6_isHolding_165 : decode cX6_isHolding 165 = .ok (.iload 5, 2) := by decide +kernel
theorem dX6_isHolding_167 : decode cX6_isHolding 167 = .ok (.bipush 47, 2) := by decide +kernel
theorem dX6_isHolding_169 : decode cX6_isHolding 169 = .ok (.if_icmp .eq 10, 3) := by decide +kernel
theorem dX6_isHolding_172 : decode cX6_isHolding 172 = .ok (.iload 5, 2) := by decide +kernel
theorem dX6_isHolding_174 : decode cX6_isHolding 174 = .ok (.bipush 37, 2) := by decide +kernel
theorem dX6_isHolding_176 : decode cX6_isHolding 176 = .ok (.if_icmp .ne 7, 3) := by decide +kernel
theorem dX6_isHolding_179 : decode cX6_isHolding 179 = .ok (.iconst 1, 1) := by decide +kernel
theorem dX6_isHolding_180 : decode cX6_isHolding 180 = .ok (.goto 4, 3) := by decide +kernel
theorem dX6_isHolding_183 : decode cX6_isHolding 183 = .ok (.iconst 0, 1) := by decide +kernel
theorem dX6_isHolding_184 : decode cX6_isHolding 184 = .ok (.istore 8, 2) := by decide +kernel
theorem dX6_isHolding_186 : decode cX6_isHolding 186 = .ok (.iload_n 3, 1) := by decide +kernel
theorem dX6_isHolding_187 : decode cX6_isHolding 187 = .ok (.iconst 2, 1) := by decide +kernel
theorem dX6_isHolding_188 : decode cX6_isHolding 188 = .ok (.if_icmp .lt 13, 3) := by decide +kernel
theorem dX6_isHolding_191 : decode cX6_isHolding 191 = .ok (.iload 7, 2) := by decide +kernel
theorem dX6_isHolding_193 : decode cX6_isHolding 193 = .ok (.ifCond .ne 10, 3) := by decide +kernel
theorem dX6_isHolding_196 : decode cX6_isHolding 196 = .ok (.iload 8, 2) := by decide +kernel
theorem dX6_isHolding_198 : decode cX6_isHolding 198 = .ok (.ifCond .eq 5, 3) := by decide +kernel
theorem dX6_isHolding_201 : decode cX6_isHolding 201 = .ok (.iconst 0, 1) := by decide +kernel
theorem dX6_isHolding_202 : decode cX6_isHolding 202 = .ok (.ireturn, 1) := by decide +kernel
theorem dX6_isHolding_203 : decode cX6_isHolding 203 = .ok (.iinc 3 (-1), 3) := by decide +kernel
theorem dX6_isHolding_206 : decode cX6_isHolding 206 = .ok (.aload_n 0, 1) := by decide +kernel
theorem dX6_isHolding_207 : decode cX6_isHolding 207 = .ok (.getfield 13, 3) := by decide +kernel
theorem dX6_isHolding_210 : decode cX6_isHolding 210 = .ok (.iload_n 3, 1) := by decide +kernel
theorem dX6_isHolding_211 : decode cX6_isHolding 211 = .ok (.iconst 1, 1) := by decide +kernel
theorem dX6_isHolding_212 : decode cX6_isHolding 212 = .ok (.isub, 1) := by decide +kernel
theorem dX6_isHolding_213 : decode cX6_isHolding 213 = .ok (.iload 5, 2) := by decide +kernel
theorem dX6_isHolding_215 : decode cX6_isHolding 215 = .ok (.aload_n 0, 1) := by decide +kernel
theorem dX6_isHolding_216 : decode cX6_isHolding 216 = .ok (.getfield 13, 3) := by decide +kernel
theorem dX6_isHolding_219 : decode cX6_isHolding 219 = .ok (.iload_n 3, 1) := by decide +kernel
theorem dX6_isHolding_220 : decode cX6_isHolding 220 = .ok (.iconst 1, 1) := by decide +kernel
theorem dX6_isHolding_221 : decode cX6_isHolding 221 = .ok (.isub, 1) := by decide +kernel
theorem dX6_isHolding_222 : decode cX6_isHolding 222 = .ok (.iaload, 1) := by decide +kernel
theorem dX6_isHolding_223 : decode cX6_isHolding 223 = .ok (.iload 7, 2) := by decide +kernel
theorem dX6_isHolding_225 : decode cX6_isHolding 225 = .ok (.invokestatic 41, 3) := by decide +kernel
theorem dX6_isHolding_228 : decode cX6_isHolding 228 = .ok (.iastore, 1) := by decide +kernel
theorem dX6_isHolding_229 : decode cX6_isHolding 229 = .ok (.goto 50, 3) := by decide +kernel
theorem dX6_isHolding_232 : decode cX6_isHolding 232 = .ok (.aload_n 0, 1) := by decide +kernel
theorem dX6_isHolding_233 : decode cX6_isHolding 233 = .ok (.getfield 13, 3) := by decide +kernel
theorem dX6_isHolding_236 : decode cX6_isHolding 236 = .ok (.iload_n 3, 1) := by decide +kernel
theorem dX6_isHolding_237 : decode cX6_isHolding 237 = .ok (.iconst 1, 1) := by decide +kernel
theorem dX6_isHolding_238 : decode cX6_isHolding 238 = .ok (.isub, 1) := by decide +kernel
theorem dX6_isHolding_239 : decode cX6_isHolding 239 = .ok (.iaload, 1) := by decide +kernel
theorem dX6_isHolding_240 : decode cX6_isHolding 240 = .ok (.ifCond .eq 7, 3) := by decide +kernel
theorem dX6_isHolding_243 : decode cX6_isHolding 243 = .ok (.iconst 1, 1) := by decide +kernel
theorem dX6_isHolding_244 : decode cX6_isHolding 244 = .ok (.goto 4, 3) := by decide +kernel
theorem dX6_isHolding_247 : decode cX6_isHolding 247 = .ok (.iconst 0, 1) := by decide +kernel
theorem dX6_isHolding_248 : decode cX6_isHolding 248 = .ok (.iload 5, 2) := by decide +kernel
theorem dX6_isHolding_250 : decode cX6_isHolding 250 = .ok (.iconst 3, 1) := by decide +kernel
theorem dX6_isHolding_251 : decode cX6_isHolding 251 = .ok (.if_icmp .ne 7, 3) := by decide +kernel
theorem dX6_isHolding_254 : decode cX6_isHolding 254 = .ok (.iconst 1, 1) := by decide +kernel
theorem dX6_isHolding_255 : decode cX6_isHolding 255 = .ok (.goto 4, 3) := by decide +kernel
theorem dX6_isHolding_258 : decode cX6_isHolding 258 = .ok (.iconst 0, 1) := by decide +kernel
theorem dX6_isHolding_259 : decode cX6_isHolding 259 = .ok (.if_icmp .ne 17, 3) := by decide +kernel
theorem dX6_isHolding_262 : decode cX6_isHolding 262 = .ok (.iload 4, 2) := by decide +kernel
theorem dX6_isHolding_264 : decode cX6_isHolding 264 = .ok (.iload 6, 2) := by decide +kernel
theorem dX6_isHolding_266 : decode cX6_isHolding 266 = .ok (.iconst 1, 1) := by decide +kernel
theorem dX6_isHolding_267 : decode cX6_isHolding 267 = .ok (.isub, 1) := by decide +kernel
theorem dX6_isHolding_268 : decode cX6_isHolding 268 = .ok (.invokestatic 45, 3) := by decide +kernel
theorem dX6_isHolding_271 : decode cX6_isHolding 271 = .ok (.istore 4, 2) := by decide +kernel
theorem dX6_isHolding_273 : decode cX6_isHolding 273 = .ok (.goto 6, 3) := by decide +kernel
theorem dX6_isHolding_276 : decode cX6_isHolding 276 = .ok (.iinc 3 (-1), 3) := by decide +kernel
theorem dX6_isHolding_279 : decode cX6_isHolding 279 = .ok (.iinc 4 1, 3) := by decide +kernel
theorem dX6_isHolding_282 : decode cX6_isHolding 282 = .ok (.goto (-277), 3) := by decide +kernel
theorem dX6_isHolding_285 : decode cX6_isHolding 285 = .ok (.iconst 0, 1) := by decide +kernel
theorem dX6_isHolding_286 : decode cX6_isHolding 286 = .ok (.ireturn, 1) := by decide +kernel
theorem dX6_combine_0 : decode cX6_combine 0 = .ok (.iload_n 0, 1) := by decide +kernel
theorem dX6_combine_1 : decode cX6_combine 1 = .ok (.tableswitch 188 37 62 #[143, 188, 188, 188, 188, 127, 119, 188, 123, 188, 131, 188, 188, 188, 188, 188, 188, 188, 188, 188, 188, 188, 188, 155, 177, 166], 119) := by decide +kernel
theorem dX6_combine_120 : decode cX6_combine 120 = .ok (.iload_n 1, 1) := by decide +kernel
theorem dX6_combine_121 : decode cX6_combine 121 = .ok (.iload_n 2, 1) := by decide +kernel
theorem dX6_combine_122 : decode cX6_combine 122 = .ok (.iadd, 1) := by decide +kernel
theorem dX6_combine_123 : decode cX6_combine 123 = .ok (.ireturn, 1) := by decide +kernel
theorem dX6_combine_124 : decode cX6_combine 124 = .ok (.iload_n 1, 1) := by decide +kernel
theorem dX6_combine_125 : decode cX6_combine 125 = .ok (.iload_n 2, 1) := by decide +kernel
theorem dX6_combine_126 : decode cX6_combine 126 = .ok (.isub, 1) := by decide +kernel
theorem dX6_combine_127 : decode cX6_combine 127 = .ok (.ireturn, 1) := by decide +kernel
theorem dX6_combine_128 : decode cX6_combine 128 = .ok (.iload_n 1, 1) := by decide +kernel
theorem dX6_combine_129 : decode cX6_combine 129 = .ok (.iload_n 2, 1) := by decide +kernel
theorem dX6_combine_130 : decode cX6_combine 130 = .ok (.imul, 1) := by decide +kernel
theorem dX6_combine_131 : decode cX6_combine 131 = .ok (.ireturn, 1) := by decide +kernel
theorem dX6_combine_132 : decode cX6_combine 132 = .ok (.iload_n 2, 1) := by decide +kernel
theorem dX6_combine_133 : decode cX6_combine 133 = .ok (.ifCond .ne 7, 3) := by decide +kernel
theorem dX6_combine_136 : decode cX6_combine 136 = .ok (.iconst 0, 1) := by decide +kernel
theorem dX6_combine_137 : decode cX6_combine 137 = .ok (.goto 6, 3) := by decide +kernel
theorem dX6_combine_140 : decode cX6_combine 140 = .ok (.iload_n 1, 1) := by decide +kernel
theorem dX6_combine_141 : decode cX6_combine 141 = .ok (.iload_n 2, 1) := by decide +kernel
theorem dX6_combine_142 : decode cX6_combine 142 = .ok (.idiv, 1) := by decide +kernel
theorem dX6_combine_143 : decode cX6_combine 143 = .ok (.ireturn, 1) := by decide +kernel
theorem dX6_combine_144 : decode cX6_combine 144 = .ok (.iload_n 2, 1) := by decide +kernel
theorem dX6_combine_145 : decode cX6_combine 145 = .ok (.ifCond .ne 7, 3) := by decide +kernel
theorem dX6_combine_148 : decode cX6_combine 148 = .ok (.iconst 0, 1) := by decide +kernel
theorem dX6_combine_149 : decode cX6_combine 149 = .ok (.goto 6, 3) := by decide +kernel
theorem dX6_combine_152 : decode cX6_combine 152 = .ok (.iload_n 1, 1) := by decide +kernel
theorem dX6_combine_153 : decode cX6_combine 153 = .ok (.iload_n 2, 1) := by decide +kernel
theorem dX6_combine_154 : decode cX6_combine 154 = .ok (.irem, 1) := by decide +kernel
theorem dX6_combine_155 : decode cX6_combine 155 = .ok (.ireturn, 1) := by decide +kernel
theorem dX6_combine_156 : decode cX6_combine 156 = .ok (.iload_n 1, 1) := by decide +kernel
theorem dX6_combine_157 : decode cX6_combine 157 = .ok (.iload_n 2, 1) := by decide +kernel
theorem dX6_combine_158 : decode cX6_combine 158 = .ok (.if_icmp .ge 7, 3) := by decide +kernel
theorem dX6_combine_161 : decode cX6_combine 161 = .ok (.iconst 1, 1) := by decide +kernel
theorem dX6_combine_162 : decode cX6_combine 162 = .ok (.goto 4, 3) := by decide +kernel
theorem dX6_combine_165 : decode cX6_combine 165 = .ok (.iconst 0, 1) := by decide +kernel
theorem dX6_combine_166 : decode cX6_combine 166 = .ok (.ireturn, 1) := by decide +kernel
theorem dX6_combine_167 : decode cX6_combine 167 = .ok (.iload_n 1, 1) := by decide +kernel
theorem dX6_combine_168 : decode cX6_combine 168 = .ok (.iload_n 2, 1) := by decide +kernel
theorem dX6_combine_169 : decode cX6_combine 169 = .ok (.if_icmp .le 7, 3) := by decide +kernel
theorem dX6_combine_172 : decode cX6_combine 172 = .ok (.iconst 1, 1) := by decide +kernel
theorem dX6_combine_173 : decode cX6_combine 173 = .ok (.goto 4, 3) := by decide +kernel
theorem dX6_combine_176 : decode cX6_combine 176 = .ok (.iconst 0, 1) := by decide +kernel
theorem dX6_combine_177 : decode cX6_combine 177 = .ok (.ireturn, 1) := by decide +kernel
theorem dX6_combine_178 : decode cX6_combine 178 = .ok (.iload_n 1, 1) := by decide +kernel
theorem dX6_combine_179 : decode cX6_combine 179 = .ok (.iload_n 2, 1) := by decide +kernel
theorem dX6_combine_180 : decode cX6_combine 180 = .ok (.if_icmp .ne 7, 3) := by decide +kernel
theorem dX6_combine_183 : decode cX6_combine 183 = .ok (.iconst 1, 1) := by decide +kernel
theorem dX6_combine_184 : decode cX6_combine 184 = .ok (.goto 4, 3) := by decide +kernel
theorem dX6_combine_187 : decode cX6_combine 187 = .ok (.iconst 0, 1) := by decide +kernel
theorem dX6_combine_188 : decode cX6_combine 188 = .ok (.ireturn, 1) := by decide +kernel
theorem dX6_combine_189 : decode cX6_combine 189 = .ok (.iconst 0, 1) := by decide +kernel
theorem dX6_combine_190 : decode cX6_combine 190 = .ok (.ireturn, 1) := by decide +kernel
theorem dX7_init_0 : decode cX7_init 0 = .ok (.aload_n 0, 1) := by decide +kernel
theorem dX7_init_1 : decode cX7_init 1 = .ok (.invokespecial 3, 3) := by decide +kernel
theorem dX7_init_4 : decode cX7_init 4 = .ok (.aload_n 0, 1) := by decide +kernel
theorem dX7_init_5 : decode cX7_init 5 = .ok (.bipush 6, 2) := by decide +kernel
theorem dX7_init_7 : decode cX7_init 7 = .ok (.bipush 6, 2) := by decide +kernel
theorem dX7_init_9 : decode cX7_init 9 = .ok (.multianewarray 9 2, 4) := by decide +kernel
theorem dX7_init_13 : decode cX7_init 13 = .ok (.putfield 11, 3) := by decide +kernel
theorem dX7_init_16 : decode cX7_init 16 = .ok (.aload_n 0, 1) := by decide +kernel
theorem dX7_init_17 : decode cX7_init 17 = .ok (.bipush 6, 2) := by decide +kernel
theorem dX7_init_19 : decode cX7_init 19 = .ok (.newarray .int, 2) := by decide +kernel
theorem dX7_init_21 : decode cX7_init 21 = .ok (.putfield 16, 3) := by decide +kernel
theorem dX7_init_24 : decode cX7_init 24 = .ok (.iconst 0, 1) := by decide +kernel
theorem dX7_init_25 : decode cX7_init 25 = .ok (.istore_n 1, 1) := by decide +kernel
theorem dX7_init_26 : decode cX7_init 26 = .ok (.iload_n 1, 1) := by decide +kernel
theorem dX7_init_27 : decode cX7_init 27 = .ok (.bipush 6, 2) := by decide +kernel
theorem dX7_init_29 : decode cX7_init 29 = .ok (.if_icmp .ge 19, 3) := by decide +kernel
theorem dX7_init_32 : decode cX7_init 32 = .ok (.aload_n 0, 1) := by decide +kernel
theorem dX7_init_33 : decode cX7_init 33 = .ok (.getfield 11, 3) := by decide +kernel
theorem dX7_init_36 : decode cX7_init 36 = .ok (.iload_n 1, 1) := by decide +kernel
theorem dX7_init_37 : decode cX7_init 37 = .ok (.aaload, 1) := by decide +kernel
theorem dX7_init_38 : decode cX7_init 38 = .ok (.iconst (-1), 1) := by decide +kernel
theorem dX7_init_39 : decode cX7_init 39 = .ok (.invokestatic 20, 3) := by decide +kernel
theorem dX7_init_42 : decode cX7_init 42 = .ok (.iinc 1 1, 3) := by decide +kernel
theorem dX7_init_45 : decode cX7_init 45 = .ok (.goto (-19), 3) := by decide +kernel
theorem dX7_init_48 : decode cX7_init 48 = .ok (.return_, 1) := by decide +kernel
theorem dX7_build_0 : decode cX7_build 0 = .ok (.aload_n 0, 1) := by decide +kernel
theorem dX7_build_1 : decode cX7_build 1 = .ok (.getfield 11, 3) := by decide +kernel
theorem dX7_build_4 : decode cX7_build 4 = .ok (.iload_n 1, 1) := by decide +kernel
theorem dX7_build_5 : decode cX7_build 5 = .ok (.aaload, 1) := by decide +kernel
theorem dX7_build_6 : decode cX7_build 6 = .ok (.iload_n 2, 1) := by decide +kernel
theorem dX7_build_7 : decode cX7_build 7 = .ok (.iload_n 3, 1) := by decide +kernel
theorem dX7_build_8 : decode cX7_build 8 = .ok (.iastore, 1) := by decide +kernel
theorem dX7_build_9 : decode cX7_build 9 = .ok (.aload_n 0, 1) := by decide +kernel
theorem dX7_build_10 : decode cX7_build 10 = .ok (.getfield 11, 3) := by decide +kernel
theorem dX7_build_13 : decode cX7_build 13 = .ok (.iload_n 2, 1) := by decide +kernel
theorem dX7_build_14 : decode cX7_build 14 = .ok (.aaload, 1) := by decide +kernel
theorem dX7_build_15 : decode cX7_build 15 = .ok (.iload_n 1, 1) := by decide +kernel
theorem dX7_build_16 : decode cX7_build 16 = .ok (.iload_n 3, 1) := by decide +kernel
theorem dX7_build_17 : decode cX7_build 17 = .ok (.iastore, 1) := by decide +kernel
theorem dX7_build_18 : decode cX7_build 18 = .ok (.return_, 1) := by decide +kernel
theorem dX7_reckonFrom_0 : decode cX7_reckonFrom 0 = .ok (.aload_n 0, 1) := by decide +kernel
theorem dX7_reckonFrom_1 : decode cX7_reckonFrom 1 = .ok (.getfield 16, 3) := by decide +kernel
theorem dX7_reckonFrom_4 : decode cX7_reckonFrom 4 = .ok (.iconst (-1), 1) := by decide +kernel
theorem dX7_reckonFrom_5 : decode cX7_reckonFrom 5 = .ok (.invokestatic 20, 3) := by decide +kernel
theorem dX7_reckonFrom_8 : decode cX7_reckonFrom 8 = .ok (.aload_n 0, 1) := by decide +kernel
theorem dX7_reckonFrom_9 : decode cX7_reckonFrom 9 = .ok (.getfield 16, 3) := by decide +kernel
theorem dX7_reckonFrom_12 : decode cX7_reckonFrom 12 = .ok (.iload_n 1, 1) := by decide +kernel
theorem dX7_reckonFrom_13 : decode cX7_reckonFrom 13 = .ok (.iconst 0, 1) := by decide +kernel
theorem dX7_reckonFrom_14 : decode cX7_reckonFrom 14 = .ok (.iastore, 1) := by decide +kernel
theorem dX7_reckonFrom_15 : decode cX7_reckonFrom 15 = .ok (.iconst 1, 1) := by decide +kernel
theorem dX7_reckonFrom_16 : decode cX7_reckonFrom 16 = .ok (.istore_n 2, 1) := by decide +kernel
theorem dX7_reckonFrom_17 : decode cX7_reckonFrom 17 = .ok (.iload_n 2, 1) := by decide +kernel
theorem dX7_reckonFrom_18 : decode cX7_reckonFrom 18 = .ok (.bipush 6, 2) := by decide +kernel
theorem dX7_reckonFrom_20 : decode cX7_reckonFrom 20 = .ok (.if_icmp .ge 46, 3) := by decide +kernel
theorem dX7_reckonFrom_23 : decode cX7_reckonFrom 23 = .ok (.iconst 0, 1) := by decide +kernel
theorem dX7_reckonFrom_24 : decode cX7_reckonFrom 24 = .ok (.istore_n 3, 1) := by decide +kernel
theorem dX7_reckonFrom_25 : decode cX7_reckonFrom 25 = .ok (.iload_n 3, 1) := by decide +kernel
theorem dX7_reckonFrom_26 : decode cX7_reckonFrom 26 = .ok (.bipush 6, 2) := by decide +kernel
theorem dX7_reckonFrom_28 : decode cX7_reckonFrom 28 = .ok (.if_icmp .ge 32, 3) := by decide +kernel
theorem dX7_reckonFrom_31 : decode cX7_reckonFrom 31 = .ok (.iconst 0, 1) := by decide +kernel
theorem dX7_reckonFrom_32 : decode cX7_reckonFrom 32 = .ok (.istore 4, 2) := by decide +kernel
theorem dX7_reckonFrom_34 : decode cX7_reckonFrom 34 = .ok (.iload 4, 2) := by decide +kernel
theorem dX7_reckonFrom_36 : decode cX7_reckonFrom 36 = .ok (.bipush 6, 2) := by decide +kernel
theorem dX7_reckonFrom_38 : decode cX7_reckonFrom 38 = .ok (.if_icmp .ge 16, 3) := by decide +kernel
theorem dX7_reckonFrom_41 : decode cX7_reckonFrom 41 = .ok (.aload_n 0, 1) := by decide +kernel
theorem dX7_reckonFrom_42 : decode cX7_reckonFrom 42 = .ok (.iload_n 3, 1) := by decide +kernel
theorem dX7_reckonFrom_43 : decode cX7_reckonFrom 43 = .ok (.iload 4, 2) := by decide +kernel
theorem dX7_reckonFrom_45 : decode cX7_reckonFrom 45 = .ok (.invokevirtual 26, 3) := by decide +kernel
theorem dX7_reckonFrom_48 : decode cX7_reckonFrom 48 = .ok (.iinc 4 1, 3) := by decide +kernel
theorem dX7_reckonFrom_51 : decode cX7_reckonFrom 51 = .ok (.goto (-17), 3) := by decide +kernel
theorem dX7_reckonFrom_54 : decode cX7_reckonFrom 54 = .ok (.iinc 3 1, 3) := by decide +kernel
theorem dX7_reckonFrom_57 : decode cX7_reckonFrom 57 = .ok (.goto (-32), 3) := by decide +kernel
theorem dX7_reckonFrom_60 : decode cX7_reckonFrom 60 = .ok (.iinc 2 1, 3) := by decide +kernel
theorem dX7_reckonFrom_63 : decode cX7_reckonFrom 63 = .ok (.goto (-46), 3) := by decide +kernel
theorem dX7_reckonFrom_66 : decode cX7_reckonFrom 66 = .ok (.return_, 1) := by decide +kernel
theorem dX7_goOn_0 : decode cX7_goOn 0 = .ok (.aload_n 0, 1) := by decide +kernel
theorem dX7_goOn_1 : decode cX7_goOn 1 = .ok (.getfield 16, 3) := by decide +kernel
theorem dX7_goOn_4 : decode cX7_goOn 4 = .ok (.iload_n 1, 1) := by decide +kernel
theorem dX7_goOn_5 : decode cX7_goOn 5 = .ok (.iaload, 1) := by decide +kernel
theorem dX7_goOn_6 : decode cX7_goOn 6 = .ok (.iconst (-1), 1) := by decide +kernel
theorem dX7_goOn_7 : decode cX7_goOn 7 = .ok (.if_icmp .eq 15, 3) := by decide +kernel
theorem dX7_goOn_10 : decode cX7_goOn 10 = .ok (.aload_n 0, 1) := by decide +kernel
theorem dX7_goOn_11 : decode cX7_goOn 11 = .ok (.getfield 11, 3) := by decide +kernel
theorem dX7_goOn_14 : decode cX7_goOn 14 = .ok (.iload_n 1, 1) := by decide +kernel
theorem dX7_goOn_15 : decode cX7_goOn 15 = .ok (.aaload, 1) := by decide +kernel
theorem dX7_goOn_16 : decode cX7_goOn 16 = .ok (.iload_n 2, 1) := by decide +kernel
theorem dX7_goOn_17 : decode cX7_goOn 17 = .ok (.iaload, 1) := by decide +kernel
theorem dX7_goOn_18 : decode cX7_goOn 18 = .ok (.iconst (-1), 1) := by decide +kernel
theorem dX7_goOn_19 : decode cX7_goOn 19 = .ok (.if_icmp .ne 4, 3) := by decide +kernel
theorem dX7_goOn_22 : decode cX7_goOn 22 = .ok (.return_, 1) := by decide +kernel
theorem dX7_goOn_23 : decode cX7_goOn 23 = .ok (.aload_n 0, 1) := by decide +kernel
theorem dX7_goOn_24 : decode cX7_goOn 24 = .ok (.getfield 16, 3) := by decide +kernel
theorem dX7_goOn_27 : decode cX7_goOn 27 = .ok (.iload_n 1, 1) := by decide +kernel
theorem dX7_goOn_28 : decode cX7_goOn 28 = .ok (.iaload, 1) := by decide +kernel
theorem dX7_goOn_29 : decode cX7_goOn 29 = .ok (.aload_n 0, 1) := by decide +kernel
theorem dX7_goOn_30 : decode cX7_goOn 30 = .ok (.getfield 11, 3) := by decide +kernel
theorem dX7_goOn_33 : decode cX7_goOn 33 = .ok (.iload_n 1, 1) := by decide +kernel
theorem dX7_goOn_34 : decode cX7_goOn 34 = .ok (.aaload, 1) := by decide +kernel
