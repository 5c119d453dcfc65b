theorem dX0_init_0 : decode cX0_init 0 = .ok (.aload_n 0, 1) := by decide +kernel
theorem dX0_init_1 : decode cX0_init 1 = .ok (.invokespecial 3, 3) := by decide +kernel
theorem dX0_init_4 : decode cX0_init 4 = .ok (.aload_n 0, 1) := by decide +kernel
theorem dX0_init_5 : decode cX0_init 5 = .ok (.bipush 20, 2) := by decide +kernel
theorem dX0_init_7 : decode cX0_init 7 = .ok (.newarray .int, 2) := by decide +kernel
theorem dX0_init_9 : decode cX0_init 9 = .ok (.putfield 9, 3) := by decide +kernel
theorem dX0_init_12 : decode cX0_init 12 = .ok (.aload_n 0, 1) := by decide +kernel
theorem dX0_init_13 : decode cX0_init 13 = .ok (.bipush 20, 2) := by decide +kernel
theorem dX0_init_15 : decode cX0_init 15 = .ok (.newarray .int, 2) := by decide +kernel
theorem dX0_init_17 : decode cX0_init 17 = .ok (.putfield 15, 3) := by decide +kernel
theorem dX0_init_20 : decode cX0_init 20 = .ok (.aload_n 0, 1) := by decide +kernel
theorem dX0_init_21 : decode cX0_init 21 = .ok (.bipush 12, 2) := by decide +kernel
theorem dX0_init_23 : decode cX0_init 23 = .ok (.newarray .int, 2) := by decide +kernel
theorem dX0_init_25 : decode cX0_init 25 = .ok (.putfield 18, 3) := by decide +kernel
theorem dX0_init_28 : decode cX0_init 28 = .ok (.aload_n 0, 1) := by decide +kernel
theorem dX0_init_29 : decode cX0_init 29 = .ok (.aload_n 1, 1) := by decide +kernel
theorem dX0_init_30 : decode cX0_init 30 = .ok (.putfield 21, 3) := by decide +kernel
theorem dX0_init_33 : decode cX0_init 33 = .ok (.return_, 1) := by decide +kernel
theorem dX0_settle_0 : decode cX0_settle 0 = .ok (.aload_n 0, 1) := by decide +kernel
theorem dX0_settle_1 : decode cX0_settle 1 = .ok (.getfield 21, 3) := by decide +kernel
theorem dX0_settle_4 : decode cX0_settle 4 = .ok (.getfield 25, 3) := by decide +kernel
theorem dX0_settle_7 : decode cX0_settle 7 = .ok (.astore_n 2, 1) := by decide +kernel
theorem dX0_settle_8 : decode cX0_settle 8 = .ok (.aload_n 0, 1) := by decide +kernel
theorem dX0_settle_9 : decode cX0_settle 9 = .ok (.getfield 9, 3) := by decide +kernel
theorem dX0_settle_12 : decode cX0_settle 12 = .ok (.bipush (-2), 2) := by decide +kernel
theorem dX0_settle_14 : decode cX0_settle 14 = .ok (.invokestatic 31, 3) := by decide +kernel
theorem dX0_settle_17 : decode cX0_settle 17 = .ok (.aload_n 0, 1) := by decide +kernel
theorem dX0_settle_18 : decode cX0_settle 18 = .ok (.getfield 15, 3) := by decide +kernel
theorem dX0_settle_21 : decode cX0_settle 21 = .ok (.bipush (-2), 2) := by decide +kernel
theorem dX0_settle_23 : decode cX0_settle 23 = .ok (.invokestatic 31, 3) := by decide +kernel
theorem dX0_settle_26 : decode cX0_settle 26 = .ok (.aload_n 0, 1) := by decide +kernel
theorem dX0_settle_27 : decode cX0_settle 27 = .ok (.bipush (-2), 2) := by decide +kernel
theorem dX0_settle_29 : decode cX0_settle 29 = .ok (.putfield 37, 3) := by decide +kernel
theorem dX0_settle_32 : decode cX0_settle 32 = .ok (.aload_n 2, 1) := by decide +kernel
theorem dX0_settle_33 : decode cX0_settle 33 = .ok (.getfield 41, 3) := by decide +kernel
theorem dX0_settle_36 : decode cX0_settle 36 = .ok (.iconst 1, 1) := by decide +kernel
theorem dX0_settle_37 : decode cX0_settle 37 = .ok (.isub, 1) := by decide +kernel
theorem dX0_settle_38 : decode cX0_settle 38 = .ok (.istore_n 3, 1) := by decide +kernel
theorem dX0_settle_39 : decode cX0_settle 39 = .ok (.iload_n 3, 1) := by decide +kernel
theorem dX0_settle_40 : decode cX0_settle 40 = .ok (.ifCond .lt 17, 3) := by decide +kernel
theorem dX0_settle_43 : decode cX0_settle 43 = .ok (.aload_n 0, 1) := by decide +kernel
theorem dX0_settle_44 : decode cX0_settle 44 = .ok (.getfield 21, 3) := by decide +kernel
theorem dX0_settle_47 : decode cX0_settle 47 = .ok (.invokevirtual 46, 3) := by decide +kernel
theorem dX0_settle_50 : decode cX0_settle 50 = .ok (.aload_n 2, 1) := by decide +kernel
theorem dX0_settle_51 : decode cX0_settle 51 = .ok (.invokevirtual 50, 3) := by decide +kernel
theorem dX0_settle_54 : decode cX0_settle 54 = .ok (.if_icmp .ne 4, 3) := by decide +kernel
theorem dX0_settle_57 : decode cX0_settle 57 = .ok (.return_, 1) := by decide +kernel
theorem dX0_settle_58 : decode cX0_settle 58 = .ok (.aload_n 0, 1) := by decide +kernel
theorem dX0_settle_59 : decode cX0_settle 59 = .ok (.iconst 0, 1) := by decide +kernel
theorem dX0_settle_60 : decode cX0_settle 60 = .ok (.putfield 37, 3) := by decide +kernel
theorem dX0_settle_63 : decode cX0_settle 63 = .ok (.aload_n 2, 1) := by decide +kernel
theorem dX0_settle_64 : decode cX0_settle 64 = .ok (.getfield 53, 3) := by decide +kernel
theorem dX0_settle_67 : decode cX0_settle 67 = .ok (.iload_n 3, 1) := by decide +kernel
theorem dX0_settle_68 : decode cX0_settle 68 = .ok (.aaload, 1) := by decide +kernel
theorem dX0_settle_69 : decode cX0_settle 69 = .ok (.getfield 57, 3) := by decide +kernel
theorem dX0_settle_72 : decode cX0_settle 72 = .ok (.ifCond .ne 30, 3) := by decide +kernel
theorem dX0_settle_75 : decode cX0_settle 75 = .ok (.aload_n 0, 1) := by decide +kernel
theorem dX0_settle_76 : decode cX0_settle 76 = .ok (.getfield 21, 3) := by decide +kernel
theorem dX0_settle_79 : decode cX0_settle 79 = .ok (.iload_n 3, 1) := by decide +kernel
theorem dX0_settle_80 : decode cX0_settle 80 = .ok (.bipush 6, 2) := by decide +kernel
theorem dX0_settle_82 : decode cX0_settle 82 = .ok (.invokevirtual 62, 3) := by decide +kernel
theorem dX0_settle_85 : decode cX0_settle 85 = .ok (.ifCond .eq 17, 3) := by decide +kernel
theorem dX0_settle_88 : decode cX0_settle 88 = .ok (.aload_n 0, 1) := by decide +kernel
theorem dX0_settle_89 : decode cX0_settle 89 = .ok (.aload_n 2, 1) := by decide +kernel
theorem dX0_settle_90 : decode cX0_settle 90 = .ok (.getfield 53, 3) := by decide +kernel
theorem dX0_settle_93 : decode cX0_settle 93 = .ok (.iload_n 3, 1) := by decide +kernel
theorem dX0_settle_94 : decode cX0_settle 94 = .ok (.aaload, 1) := by decide +kernel
theorem dX0_settle_95 : decode cX0_settle 95 = .ok (.getfield 66, 3) := by decide +kernel
theorem dX0_settle_98 : decode cX0_settle 98 = .ok (.putfield 37, 3) := by decide +kernel
theorem dX0_settle_101 : decode cX0_settle 101 = .ok (.return_, 1) := by decide +kernel
theorem dX0_settle_102 : decode cX0_settle 102 = .ok (.aload_n 1, 1) := by decide +kernel
theorem dX0_settle_103 : decode cX0_settle 103 = .ok (.iconst 0, 1) := by decide +kernel
theorem dX0_settle_104 : decode cX0_settle 104 = .ok (.aload_n 0, 1) := by decide +kernel
theorem dX0_settle_105 : decode cX0_settle 105 = .ok (.getfield 18, 3) := by decide +kernel
theorem dX0_settle_108 : decode cX0_settle 108 = .ok (.iconst 0, 1) := by decide +kernel
theorem dX0_settle_109 : decode cX0_settle 109 = .ok (.bipush 12, 2) := by decide +kernel
theorem dX0_settle_111 : decode cX0_settle 111 = .ok (.invokestatic 69, 3) := by decide +kernel
theorem dX0_settle_114 : decode cX0_settle 114 = .ok (.iload_n 3, 1) := by decide +kernel
theorem dX0_settle_115 : decode cX0_settle 115 = .ok (.istore 4, 2) := by decide +kernel
theorem dX0_settle_117 : decode cX0_settle 117 = .ok (.iload 4, 2) := by decide +kernel
theorem dX0_settle_119 : decode cX0_settle 119 = .ok (.ifCond .lt 24, 3) := by decide +kernel
theorem dX0_settle_122 : decode cX0_settle 122 = .ok (.aload_n 0, 1) := by decide +kernel
theorem dX0_settle_123 : decode cX0_settle 123 = .ok (.iload 4, 2) := by decide +kernel
theorem dX0_settle_125 : decode cX0_settle 125 = .ok (.invokevirtual 75, 3) := by decide +kernel
theorem dX0_settle_128 : decode cX0_settle 128 = .ok (.ifCond .eq 15, 3) := by decide +kernel
theorem dX0_settle_131 : decode cX0_settle 131 = .ok (.aload_n 0, 1) := by decide +kernel
theorem dX0_settle_132 : decode cX0_settle 132 = .ok (.iload 4, 2) := by decide +kernel
theorem dX0_settle_134 : decode cX0_settle 134 = .ok (.invokevirtual 79, 3) := by decide +kernel
theorem dX0_settle_137 : decode cX0_settle 137 = .ok (.iinc 4 (-1), 3) := by decide +kernel
theorem dX0_settle_140 : decode cX0_settle 140 = .ok (.goto (-23), 3) := by decide +kernel
theorem dX0_settle_143 : decode cX0_settle 143 = .ok (.return_, 1) := by decide +kernel
theorem dX0_isAskedBack_0 : decode cX0_isAskedBack 0 = .ok (.aload_n 0, 1) := by decide +kernel
theorem dX0_isAskedBack_1 : decode cX0_isAskedBack 1 = .ok (.getfield 21, 3) := by decide +kernel
theorem dX0_isAskedBack_4 : decode cX0_isAskedBack 4 = .ok (.getfield 25, 3) := by decide +kernel
theorem dX0_isAskedBack_7 : decode cX0_isAskedBack 7 = .ok (.astore_n 2, 1) := by decide +kernel
theorem dX0_isAskedBack_8 : decode cX0_isAskedBack 8 = .ok (.aload_n 2, 1) := by decide +kernel
theorem dX0_isAskedBack_9 : decode cX0_isAskedBack 9 = .ok (.iload_n 1, 1) := by decide +kernel
theorem dX0_isAskedBack_10 : decode cX0_isAskedBack 10 = .ok (.invokevirtual 83, 3) := by decide +kernel
theorem dX0_isAskedBack_13 : decode cX0_isAskedBack 13 = .ok (.aload_n 0, 1) := by decide +kernel
theorem dX0_isAskedBack_14 : decode cX0_isAskedBack 14 = .ok (.getfield 21, 3) := by decide +kernel
theorem dX0_isAskedBack_17 : decode cX0_isAskedBack 17 = .ok (.iload_n 1, 1) := by decide +kernel
theorem dX0_isAskedBack_18 : decode cX0_isAskedBack 18 = .ok (.invokevirtual 87, 3) := by decide +kernel
theorem dX0_isAskedBack_21 : decode cX0_isAskedBack 21 = .ok (.if_icmp .eq 7, 3) := by decide +kernel
theorem dX0_isAskedBack_24 : decode cX0_isAskedBack 24 = .ok (.iconst 1, 1) := by decide +kernel
theorem dX0_isAskedBack_25 : decode cX0_isAskedBack 25 = .ok (.goto 4, 3) := by decide +kernel
theorem dX0_isAskedBack_28 : decode cX0_isAskedBack 28 = .ok (.iconst 0, 1) := by decide +kernel
theorem dX0_isAskedBack_29 : decode cX0_isAskedBack 29 = .ok (.istore_n 3, 1) := by decide +kernel
theorem dX0_isAskedBack_30 : decode cX0_isAskedBack 30 = .ok (.aload_n 2, 1) := by decide +kernel
theorem dX0_isAskedBack_31 : decode cX0_isAskedBack 31 = .ok (.getfield 53, 3) := by decide +kernel
theorem dX0_isAskedBack_34 : decode cX0_isAskedBack 34 = .ok (.iload_n 1, 1) := by decide +kernel
theorem dX0_isAskedBack_35 : decode cX0_isAskedBack 35 = .ok (.aaload, 1) := by decide +kernel
theorem dX0_isAskedBack_36 : decode cX0_isAskedBack 36 = .ok (.getfield 57, 3) := by decide +kernel
theorem dX0_isAskedBack_39 : decode cX0_isAskedBack 39 = .ok (.ifCond .ne 24, 3) := by decide +kernel
theorem dX0_isAskedBack_42 : decode cX0_isAskedBack 42 = .ok (.iload_n 3, 1) := by decide +kernel
theorem dX0_isAskedBack_43 : decode cX0_isAskedBack 43 = .ok (.ifCond .eq 20, 3) := by decide +kernel
theorem dX0_isAskedBack_46 : decode cX0_isAskedBack 46 = .ok (.aload_n 0, 1) := by decide +kernel
theorem dX0_isAskedBack_47 : decode cX0_isAskedBack 47 = .ok (.getfield 21, 3) := by decide +kernel
theorem dX0_isAskedBack_50 : decode cX0_isAskedBack 50 = .ok (.iload_n 1, 1) := by decide +kernel
theorem dX0_isAskedBack_51 : decode cX0_isAskedBack 51 = .ok (.bipush 7, 2) := by decide +kernel
theorem dX0_isAskedBack_53 : decode cX0_isAskedBack 53 = .ok (.invokevirtual 62, 3) := by decide +kernel
theorem dX0_isAskedBack_56 : decode cX0_isAskedBack 56 = .ok (.ifCond .eq 7, 3) := by decide +kernel
theorem dX0_isAskedBack_59 : decode cX0_isAskedBack 59 = .ok (.iconst 1, 1) := by decide +kernel
theorem dX0_isAskedBack_60 : decode cX0_isAskedBack 60 = .ok (.goto 4, 3) := by decide +kernel
theorem dX0_isAskedBack_63 : decode cX0_isAskedBack 63 = .ok (.iconst 0, 1) := by decide +kernel
theorem dX0_isAskedBack_64 : decode cX0_isAskedBack 64 = .ok (.ireturn, 1) := by decide +kernel
theorem dX0_askBack_0 : decode cX0_askBack 0 = .ok (.aload_n 0, 1) := by decide +kernel
theorem dX0_askBack_1 : decode cX0_askBack 1 = .ok (.getfield 21, 3) := by decide +kernel
theorem dX0_askBack_4 : decode cX0_askBack 4 = .ok (.getfield 25, 3) := by decide +kernel
theorem dX0_askBack_7 : decode cX0_askBack 7 = .ok (.iload_n 1, 1) := by decide +kernel
theorem dX0_askBack_8 : decode cX0_askBack 8 = .ok (.invokevirtual 83, 3) := by decide +kernel
theorem dX0_askBack_11 : decode cX0_askBack 11 = .ok (.istore_n 2, 1) := by decide +kernel
theorem dX0_askBack_12 : decode cX0_askBack 12 = .ok (.aload_n 0, 1) := by decide +kernel
theorem dX0_askBack_13 : decode cX0_askBack 13 = .ok (.getfield 9, 3) := by decide +kernel
theorem dX0_askBack_16 : decode cX0_askBack 16 = .ok (.iload_n 1, 1) := by decide +kernel
theorem dX0_askBack_17 : decode cX0_askBack 17 = .ok (.aload_n 0, 1) := by decide +kernel
theorem dX0_askBack_18 : decode cX0_askBack 18 = .ok (.getfield 21, 3) := by decide +kernel
theorem dX0_askBack_21 : decode cX0_askBack 21 = .ok (.getfield 25, 3) := by decide +kernel
theorem dX0_askBack_24 : decode cX0_askBack 24 = .ok (.getfield 53, 3) := by decide +kernel
theorem dX0_askBack_27 : decode cX0_askBack 27 = .ok (.iload_n 1, 1) := by decide +kernel
theorem dX0_askBack_28 : decode cX0_askBack 28 = .ok (.aaload, 1) := by decide +kernel
theorem dX0_askBack_29 : decode cX0_askBack 29 = .ok (.getfield 66, 3) := by decide +kernel
theorem dX0_askBack_32 : decode cX0_askBack 32 = .ok (.iastore, 1) := by decide +kernel
theorem dX0_askBack_33 : decode cX0_askBack 33 = .ok (.aload_n 0, 1) := by decide +kernel
theorem dX0_askBack_34 : decode cX0_askBack 34 = .ok (.getfield 15, 3) := by decide +kernel
theorem dX0_askBack_37 : decode cX0_askBack 37 = .ok (.iload_n 1, 1) := by decide +kernel
theorem dX0_askBack_38 : decode cX0_askBack 38 = .ok (.aload_n 0, 1) := by decide +kernel
theorem dX0_askBack_39 : decode cX0_askBack 39 = .ok (.getfield 9, 3) := by decide +kernel
theorem dX0_askBack_42 : decode cX0_askBack 42 = .ok (.iload_n 1, 1) := by decide +kernel
theorem dX0_askBack_43 : decode cX0_askBack 43 = .ok (.iaload, 1) := by decide +kernel
theorem dX0_askBack_44 : decode cX0_askBack 44 = .ok (.aload_n 0, 1) := by decide +kernel
theorem dX0_askBack_45 : decode cX0_askBack 45 = .ok (.getfield 18, 3) := by decide +kernel
theorem dX0_askBack_48 : decode cX0_askBack 48 = .ok (.iload_n 2, 1) := by decide +kernel
theorem dX0_askBack_49 : decode cX0_askBack 49 = .ok (.iaload, 1) := by decide +kernel
theorem dX0_askBack_50 : decode cX0_askBack 50 = .ok (.invokestatic 90, 3) := by decide +kernel
theorem dX0_askBack_53 : decode cX0_askBack 53 = .ok (.iastore, 1) := by decide +kernel
theorem dX0_askBack_54 : decode cX0_askBack 54 = .ok (.aload_n 0, 1) := by decide +kernel
theorem dX0_askBack_55 : decode cX0_askBack 55 = .ok (.getfield 18, 3) := by decide +kernel
theorem dX0_askBack_58 : decode cX0_askBack 58 = .ok (.iload_n 2, 1) := by decide +kernel
theorem dX0_askBack_59 : decode cX0_askBack 59 = .ok (.dup2, 1) := by decide +kernel
theorem dX0_askBack_60 : decode cX0_askBack 60 = .ok (.iaload, 1) := by decide +kernel
theorem dX0_askBack_61 : decode cX0_askBack 61 = .ok (.aload_n 0, 1) := by decide +kernel
theorem dX0_askBack_62 : decode cX0_askBack 62 = .ok (.getfield 15, 3) := by decide +kernel
theorem dX0_askBack_65 : decode cX0_askBack 65 = .ok (.iload_n 1, 1) := by decide +kernel
theorem dX0_askBack_66 : decode cX0_askBack 66 = .ok (.iaload, 1) := by decide +kernel
theorem dX0_askBack_67 : decode cX0_askBack 67 = .ok (.isub, 1) := by decide +kernel
theorem dX0_askBack_68 : decode cX0_askBack 68 = .ok (.iastore, 1) := by decide +kernel
theorem dX0_askBack_69 : decode cX0_askBack 69 = .ok (.return_, 1) := by decide +kernel
theorem dX0_lossOf_0 : decode cX0_lossOf 0 = .ok (.aload_n 0, 1) := by decide +kernel
theorem dX0_lossOf_1 : decode cX0_lossOf 1 = .ok (.getfield 21, 3) := by decide +kernel
theorem dX0_lossOf_4 : decode cX0_lossOf 4 = .ok (.getfield 25, 3) := by decide +kernel
theorem dX0_lossOf_7 : decode cX0_lossOf 7 = .ok (.astore_n 2, 1) := by decide +kernel
theorem dX0_lossOf_8 : decode cX0_lossOf 8 = .ok (.iconst 0, 1) := by decide +kernel
theorem dX0_lossOf_9 : decode cX0_lossOf 9 = .ok (.istore_n 3, 1) := by decide +kernel
theorem dX0_lossOf_10 : decode cX0_lossOf 10 = .ok (.iconst 0, 1) := by decide +kernel
theorem dX0_lossOf_11 : decode cX0_lossOf 11 = .ok (.istore 4, 2) := by decide +kernel
theorem dX0_lossOf_13 : decode cX0_lossOf 13 = .ok (.iload 4, 2) := by decide +kernel
theorem dX0_lossOf_15 : decode cX0_lossOf 15 = .ok (.aload_n 2, 1) := by decide +kernel
theorem dX0_lossOf_16 : decode cX0_lossOf 16 = .ok (.getfield 41, 3) := by decide +kernel
theorem dX0_lossOf_19 : decode cX0_lossOf 19 = .ok (.if_icmp .ge 67, 3) := by decide +kernel
theorem dX0_lossOf_22 : decode cX0_lossOf 22 = .ok (.aload_n 2, 1) := by decide +kernel
theorem dX0_lossOf_23 : decode cX0_lossOf 23 = .ok (.getfield 53, 3) := by decide +kernel
theorem dX0_lossOf_26 : decode cX0_lossOf 26 = .ok (.iload 4, 2) := by decide +kernel
theorem dX0_lossOf_28 : decode cX0_lossOf 28 = .ok (.aaload, 1) := by decide +kernel
theorem dX0_lossOf_29 : decode cX0_lossOf 29 = .ok (.getfield 66, 3) := by decide +kernel
theorem dX0_lossOf_32 : decode cX0_lossOf 32 = .ok (.aload_n 0, 1) := by decide +kernel
theorem dX0_lossOf_33 : decode cX0_lossOf 33 = .ok (.getfield 15, 3) := by decide +kernel
theorem dX0_lossOf_36 : decode cX0_lossOf 36 = .ok (.iload 4, 2) := by decide +kernel
theorem dX0_lossOf_38 : decode cX0_lossOf 38 = .ok (.iaload, 1) := by decide +kernel
theorem dX0_lossOf_39 : decode cX0_lossOf 39 = .ok (.iconst 0, 1) := by decide +kernel
theorem dX0_lossOf_40 : decode cX0_lossOf 40 = .ok (.invokestatic 96, 3) := by decide +kernel
theorem dX0_lossOf_43 : decode cX0_lossOf 43 = .ok (.isub, 1) := by decide +kernel
theorem dX0_lossOf_44 : decode cX0_lossOf 44 = .ok (.istore 5, 2) := by decide +kernel
theorem dX0_lossOf_46 : decode cX0_lossOf 46 = .ok (.aload_n 2, 1) := by decide +kernel
theorem dX0_lossOf_47 : decode cX0_lossOf 47 = .ok (.getfield 53, 3) := by decide +kernel
theorem dX0_lossOf_50 : decode cX0_lossOf 50 = .ok (.iload 4, 2) := by decide +kernel
theorem dX0_lossOf_52 : decode cX0_lossOf 52 = .ok (.aaload, 1) := by decide +kernel
theorem dX0_lossOf_53 : decode cX0_lossOf 53 = .ok (.getfield 99, 3) := by decide +kernel
theorem dX0_lossOf_56 : decode cX0_lossOf 56 = .ok (.iload_n 1, 1) := by decide +kernel
theorem dX0_lossOf_57 : decode cX0_lossOf 57 = .ok (.if_icmp .ne 8, 3) := by decide +kernel
theorem dX0_lossOf_60 : decode cX0_lossOf 60 = .ok (.iload_n 3, 1) := by decide +kernel
theorem dX0_lossOf_61 : decode cX0_lossOf 61 = .ok (.iload 5, 2) := by decide +kernel
theorem dX0_lossOf_63 : decode cX0_lossOf 63 = .ok (.iadd, 1) := by decide +kernel
theorem dX0_lossOf_64 : decode cX0_lossOf 64 = .ok (.istore_n 3, 1) := by decide +kernel
theorem dX0_lossOf_65 : decode cX0_lossOf 65 = .ok (.aload_n 2, 1) := by decide +kernel
theorem dX0_lossOf_66 : decode cX0_lossOf 66 = .ok (.iload 4, 2) := by decide +kernel
theorem dX0_lossOf_68 : decode cX0_lossOf 68 = .ok (.invokevirtual 83, 3) := by decide +kernel
theorem dX0_lossOf_71 : decode cX0_lossOf 71 = .ok (.iload_n 1, 1) := by decide +kernel
theorem dX0_lossOf_72 : decode cX0_lossOf 72 = .ok (.if_icmp .ne 8, 3) := by decide +kernel
theorem dX0_lossOf_75 : decode cX0_lossOf 75 = .ok (.iload_n 3, 1) := by decide +kernel
theorem dX0_lossOf_76 : decode cX0_lossOf 76 = .ok (.iload 5, 2) := by decide +kernel
theorem dX0_lossOf_78 : decode cX0_lossOf 78 = .ok (.isub, 1) := by decide +kernel
theorem dX0_lossOf_79 : decode cX0_lossOf 79 = .ok (.istore_n 3, 1) := by decide +kernel
theorem dX0_lossOf_80 : decode cX0_lossOf 80 = .ok (.iinc 4 1, 3) := by decide +kernel
theorem dX0_lossOf_83 : decode cX0_lossOf 83 = .ok (.goto (-70), 3) := by decide +kernel
theorem dX0_lossOf_86 : decode cX0_lossOf 86 = .ok (.aload_n 2, 1) := by decide +kernel
theorem dX0_lossOf_87 : decode cX0_lossOf 87 = .ok (.getfield 102, 3) := by decide +kernel
theorem dX0_lossOf_90 : decode cX0_lossOf 90 = .ok (.iload_n 1, 1) := by decide +kernel
theorem dX0_lossOf_91 : decode cX0_lossOf 91 = .ok (.if_icmp .ne 10, 3) := by decide +kernel
theorem dX0_lossOf_94 : decode cX0_lossOf 94 = .ok (.iload_n 3, 1) := by decide +kernel
theorem dX0_lossOf_95 : decode cX0_lossOf 95 = .ok (.aload_n 2, 1) := by decide +kernel
theorem dX0_lossOf_96 : decode cX0_lossOf 96 = .ok (.getfield 105, 3) := by decide +kernel
theorem dX0_lossOf_99 : decode cX0_lossOf 99 = .ok (.iadd, 1) := by decide +kernel
theorem dX0_lossOf_100 : decode cX0_lossOf 100 = .ok (.istore_n 3, 1) := by decide +kernel
theorem dX0_lossOf_101 : decode cX0_lossOf 101 = .ok (.aload_n 0, 1) := by decide +kernel
theorem dX0_lossOf_102 : decode cX0_lossOf 102 = .ok (.getfield 21, 3) := by decide +kernel
theorem dX0_lossOf_105 : decode cX0_lossOf 105 = .ok (.invokevirtual 46, 3) := by decide +kernel
theorem dX0_lossOf_108 : decode cX0_lossOf 108 = .ok (.iload_n 1, 1) := by decide +kernel
theorem dX0_lossOf_109 : decode cX0_lossOf 109 = .ok (.if_icmp .ne 19, 3) := by decide +kernel
theorem dX0_lossOf_112 : decode cX0_lossOf 112 = .ok (.iload_n 3, 1) := by decide +kernel
theorem dX0_lossOf_113 : decode cX0_lossOf 113 = .ok (.aload_n 0, 1) := by decide +kernel
theorem dX0_lossOf_114 : decode cX0_lossOf 114 = .ok (.getfield 37, 3) := by decide +kernel
theorem dX0_lossOf_117 : decode cX0_lossOf 117 = .ok (.iconst 0, 1) := by decide +kernel
theorem dX0_lossOf_118 : decode cX0_lossOf 118 = .ok (.invokestatic 96, 3) := by decide +kernel
theorem dX0_lossOf_121 : decode cX0_lossOf 121 = .ok (.aload_n 2, 1) := by decide +kernel
theorem dX0_lossOf_122 : decode cX0_lossOf 122 = .ok (.getfield 105, 3) := by decide +kernel
theorem dX0_lossOf_125 : decode cX0_lossOf 125 = .ok (.isub, 1) := by decide +kernel
theorem dX0_lossOf_126 : decode cX0_lossOf 126 = .ok (.iadd, 1) := by decide +kernel
theorem dX0_lossOf_127 : decode cX0_lossOf 127 = .ok (.istore_n 3, 1) := by decide +kernel
theorem dX0_lossOf_128 : decode cX0_lossOf 128 = .ok (.aload_n 2, 1) := by decide +kernel
theorem dX0_lossOf_129 : decode cX0_lossOf 129 = .ok (.invokevirtual 50, 3) := by decide +kernel
theorem dX0_lossOf_132 : decode cX0_lossOf 132 = .ok (.iload_n 1, 1) := by decide +kernel
theorem dX0_lossOf_133 : decode cX0_lossOf 133 = .ok (.if_icmp .ne 14, 3) := by decide +kernel
theorem dX0_lossOf_136 : decode cX0_lossOf 136 = .ok (.iload_n 3, 1) := by decide +kernel
theorem dX0_lossOf_137 : decode cX0_lossOf 137 = .ok (.aload_n 0, 1) := by decide +kernel
theorem dX0_lossOf_138 : decode cX0_lossOf 138 = .ok (.getfield 37, 3) := by decide +kernel
theorem dX0_lossOf_141 : decode cX0_lossOf 141 = .ok (.iconst 0, 1) := by decide +kernel
theorem dX0_lossOf_142 : decode cX0_lossOf 142 = .ok (.invokestatic 96, 3) := by decide +kernel
theorem dX0_lossOf_145 : decode cX0_lossOf 145 = .ok (.isub, 1) := by decide +kernel
theorem dX0_lossOf_146 : decode cX0_lossOf 146 = .ok (.istore_n 3, 1) := by decide +kernel
theorem dX0_lossOf_147 : decode cX0_lossOf 147 = .ok (.iload_n 3, 1) := by decide +kernel
theorem dX0_lossOf_148 : decode cX0_lossOf 148 = .ok (.ireturn, 1) := by decide +kernel
theorem dX1_init_0 : decode cX1_init 0 = .ok (.aload_n 0, 1) := by decide +kernel
theorem dX1_init_1 : decode cX1_init 1 = .ok (.invokespecial 3, 3) := by decide +kernel
theorem dX1_init_4 : decode cX1_init 4 = .ok (.aload_n 0, 1) := by decide +kernel
theorem dX1_init_5 : decode cX1_init 5 = .ok (.new 9, 3) := by decide +kernel
theorem dX1_init_8 : decode cX1_init 8 = .ok (.dup, 1) := by decide +kernel
theorem dX1_init_9 : decode cX1_init 9 = .ok (.invokespecial 11, 3) := by decide +kernel
theorem dX1_init_12 : decode cX1_init 12 = .ok (.putfield 12, 3) := by decide +kernel
theorem dX1_init_15 : decode cX1_init 15 = .ok (.aload_n 0, 1) := by decide +kernel
theorem dX1_init_16 : decode cX1_init 16 = .ok (.bipush 21, 2) := by decide +kernel
theorem dX1_init_18 : decode cX1_init 18 = .ok (.newarray .int, 2) := by decide +kernel
theorem dX1_init_20 : decode cX1_init 20 = .ok (.putfield 18, 3) := by decide +kernel
theorem dX1_init_23 : decode cX1_init 23 = .ok (.aload_n 0, 1) := by decide +kernel
theorem dX1_init_24 : decode cX1_init 24 = .ok (.bipush 20, 2) := by decide +kernel
theorem dX1_init_26 : decode cX1_init 26 = .ok (.newarray .int, 2) := by decide +kernel
theorem dX1_init_28 : decode cX1_init 28 = .ok (.putfield 22, 3) := by decide +kernel
theorem dX1_init_31 : decode cX1_init 31 = .ok (.aload_n 0, 1) := by decide +kernel
theorem dX1_init_32 : decode cX1_init 32 = .ok (.bipush 20, 2) := by decide +kernel
theorem dX1_init_34 : decode cX1_init 34 = .ok (.newarray .int, 2) := by decide +kernel
theorem dX1_init_36 : decode cX1_init 36 = .ok (.putfield 25, 3) := by decide +kernel
theorem dX1_init_39 : decode cX1_init 39 = .ok (.aload_n 0, 1) := by decide +kernel
theorem dX1_init_40 : decode cX1_init 40 = .ok (.bipush 20, 2) := by decide +kernel
theorem dX1_init_42 : decode cX1_init 42 = .ok (.newarray .int, 2) := by decide +kernel
theorem dX1_init_44 : decode cX1_init 44 = .ok (.putfield 28, 3) := by decide +kernel
theorem dX1_init_47 : decode cX1_init 47 = .ok (.aload_n 0, 1) := by decide +kernel
theorem dX1_init_48 : decode cX1_init 48 = .ok (.sipush 1200, 3) := by decide +kernel
theorem dX1_init_51 : decode cX1_init 51 = .ok (.newarray .int, 2) := by decide +kernel
theorem dX1_init_53 : decode cX1_init 53 = .ok (.putfield 31, 3) := by decide +kernel
theorem dX1_init_56 : decode cX1_init 56 = .ok (.aload_n 0, 1) := by decide +kernel
theorem dX1_init_57 : decode cX1_init 57 = .ok (.sipush 1200, 3) := by decide +kernel
theorem dX1_init_60 : decode cX1_init 60 = .ok (.newarray .int, 2) := by decide +kernel
theorem dX1_init_62 : decode cX1_init 62 = .ok (.putfield 34, 3) := by decide +kernel
theorem dX1_init_65 : decode cX1_init 65 = .ok (.aload_n 0, 1) := by decide +kernel
theorem dX1_init_66 : decode cX1_init 66 = .ok (.aload_n 1, 1) := by decide +kernel
theorem dX1_init_67 : decode cX1_init 67 = .ok (.putfield 37, 3) := by decide +kernel
theorem dX1_init_70 : decode cX1_init 70 = .ok (.aload_n 0, 1) := by decide +kernel
theorem dX1_init_71 : decode cX1_init 71 = .ok (.aload_n 2, 1) := by decide +kernel
theorem dX1_init_72 : decode cX1_init 72 = .ok (.putfield 40, 3) := by decide +kernel
theorem dX1_init_75 : decode cX1_init 75 = .ok (.aload_n 0, 1) := by decide +kernel
theorem dX1_init_76 : decode cX1_init 76 = .ok (.aload_n 3, 1) := by decide +kernel
theorem dX1_init_77 : decode cX1_init 77 = .ok (.putfield 44, 3) := by decide +kernel
theorem dX1_init_80 : decode cX1_init 80 = .ok (.aload_n 0, 1) := by decide +kernel
theorem dX1_init_81 : decode cX1_init 81 = .ok (.aload 4, 2) := by decide +kernel
theorem dX1_init_83 : decode cX1_init 83 = .ok (.putfield 48, 3) := by decide +kernel
theorem dX1_init_86 : decode cX1_init 86 = .ok (.return_, 1) := by decide +kernel
theorem dX1_open_0 : decode cX1_open 0 = .ok (.aload_n 0, 1) := by decide +kernel
theorem dX1_open_1 : decode cX1_open 1 = .ok (.dup, 1) := by decide +kernel
theorem dX1_open_2 : decode cX1_open 2 = .ok (.getfield 52, 3) := by decide +kernel
theorem dX1_open_5 : decode cX1_open 5 = .ok (.iconst 1, 1) := by decide +kernel
theorem dX1_open_6 : decode cX1_open 6 = .ok (.iadd, 1) := by decide +kernel
theorem dX1_open_7 : decode cX1_open 7 = .ok (.putfield 52, 3) := by decide +kernel
theorem dX1_open_10 : decode cX1_open 10 = .ok (.aload_n 0, 1) := by decide +kernel
theorem dX1_open_11 : decode cX1_open 11 = .ok (.iload_n 1, 1) := by decide +kernel
theorem dX1_open_12 : decode cX1_open 12 = .ok (.putfield 56, 3) := by decide +kernel
theorem dX1_open_15 : decode cX1_open 15 = .ok (.aload_n 0, 1) := by decide +kernel
theorem dX1_open_16 : decode cX1_open 16 = .ok (.aload_n 2, 1) := by decide +kernel
theorem dX1_open_17 : decode cX1_open 17 = .ok (.putfield 48, 3) := by decide +kernel
theorem dX1_open_20 : decode cX1_open 20 = .ok (.aload_n 0, 1) := by decide +kernel
theorem dX1_open_21 : decode cX1_open 21 = .ok (.iload_n 3, 1) := by decide +kernel
theorem dX1_open_22 : decode cX1_open 22 = .ok (.putfield 59, 3) := by decide +kernel
theorem dX1_open_25 : decode cX1_open 25 = .ok (.aload_n 0, 1) := by decide +kernel
theorem dX1_open_26 : decode cX1_open 26 = .ok (.iconst 0, 1) := by decide +kernel
theorem dX1_open_27 : decode cX1_open 27 = .ok (.putfield 62, 3) := by decide +kernel
theorem dX1_open_30 : decode cX1_open 30 = .ok (.return_, 1) := by decide +kernel
theorem dX1_walk_0 : decode cX1_walk 0 = .ok (.aload_n 0, 1) := by decide +kernel
theorem dX1_walk_1 : decode cX1_walk 1 = .ok (.getfield 18, 3) := by decide +kernel
theorem dX1_walk_4 : decode cX1_walk 4 = .ok (.iconst 0, 1) := by decide +kernel
theorem dX1_walk_5 : decode cX1_walk 5 = .ok (.iconst (-1), 1) := by decide +kernel
theorem dX1_walk_6 : decode cX1_walk 6 = .ok (.iastore, 1) := by decide +kernel
theorem dX1_walk_7 : decode cX1_walk 7 = .ok (.iconst 0, 1) := by decide +kernel
theorem dX1_walk_8 : decode cX1_walk 8 = .ok (.istore_n 1, 1) := by decide +kernel
theorem dX1_walk_9 : decode cX1_walk 9 = .ok (.iload_n 1, 1) := by decide +kernel
theorem dX1_walk_10 : decode cX1_walk 10 = .ok (.aload_n 0, 1) := by decide +kernel
theorem dX1_walk_11 : decode cX1_walk 11 = .ok (.getfield 48, 3) := by decide +kernel
theorem dX1_walk_14 : decode cX1_walk 14 = .ok (.getfield 65, 3) := by decide +kernel
theorem dX1_walk_17 : decode cX1_walk 17 = .ok (.if_icmp .ge 119, 3) := by decide +kernel
theorem dX1_walk_20 : decode cX1_walk 20 = .ok (.aload_n 0, 1) := by decide +kernel
theorem dX1_walk_21 : decode cX1_walk 21 = .ok (.getfield 48, 3) := by decide +kernel
theorem dX1_walk_24 : decode cX1_walk 24 = .ok (.getfield 70, 3) := by decide +kernel
theorem dX1_walk_27 : decode cX1_walk 27 = .ok (.iload_n 1, 1) := by decide +kernel
theorem dX1_walk_28 : decode cX1_walk 28 = .ok (.aaload, 1) := by decide +kernel
theorem dX1_walk_29 : decode cX1_walk 29 = .ok (.getfield 74, 3) := by decide +kernel
theorem dX1_walk_32 : decode cX1_walk 32 = .ok (.istore_n 2, 1) := by decide +kernel
theorem dX1_walk_33 : decode cX1_walk 33 = .ok (.aload_n 0, 1) := by decide +kernel
theorem dX1_walk_34 : decode cX1_walk 34 = .ok (.iload_n 1, 1) := by decide +kernel
theorem dX1_walk_35 : decode cX1_walk 35 = .ok (.aload_n 0, 1) := by decide +kernel
theorem dX1_walk_36 : decode cX1_walk 36 = .ok (.getfield 18, 3) := by decide +kernel
theorem dX1_walk_39 : decode cX1_walk 39 = .ok (.iload_n 1, 1) := by decide +kernel
theorem dX1_walk_40 : decode cX1_walk 40 = .ok (.iaload, 1) := by decide +kernel
theorem dX1_walk_41 : decode cX1_walk 41 = .ok (.iload_n 2, 1) := by decide +kernel
theorem dX1_walk_42 : decode cX1_walk 42 = .ok (.invokevirtual 79, 3) := by decide +kernel
theorem dX1_walk_45 : decode cX1_walk 45 = .ok (.istore_n 3, 1) := by decide +kernel
theorem dX1_walk_46 : decode cX1_walk 46 = .ok (.aload_n 0, 1) := by decide +kernel
theorem dX1_walk_47 : decode cX1_walk 47 = .ok (.getfield 22, 3) := by decide +kernel
theorem dX1_walk_50 : decode cX1_walk 50 = .ok (.iload_n 1, 1) := by decide +kernel
theorem dX1_walk_51 : decode cX1_walk 51 = .ok (.iload_n 3, 1) := by decide +kernel
theorem dX1_walk_52 : decode cX1_walk 52 = .ok (.iconst (-1), 1) := by decide +kernel
theorem dX1_walk_53 : decode cX1_walk 53 = .ok (.if_icmp .ne 18, 3) := by decide +kernel
theorem dX1_walk_56 : decode cX1_walk 56 = .ok (.aload_n 0, 1) := by decide +kernel
theorem dX1_walk_57 : decode cX1_walk 57 = .ok (.getfield 48, 3) := by decide +kernel
theorem dX1_walk_60 : decode cX1_walk 60 = .ok (.getfield 70, 3) := by decide +kernel
theorem dX1_walk_63 : decode cX1_walk 63 = .ok (.iload_n 1, 1) := by decide +kernel
theorem dX1_walk_64 : decode cX1_walk 64 = .ok (.aaload, 1) := by decide +kernel
theorem dX1_walk_65 : decode cX1_walk 65 = .ok (.getfield 83, 3) := by decide +kernel
theorem dX1_walk_68 : decode cX1_walk 68 = .ok (.goto 11, 3) := by decide +kernel
theorem dX1_walk_71 : decode cX1_walk 71 = .ok (.aload_n 0, 1) := by decide +kernel
theorem dX1_walk_72 : decode cX1_walk 72 = .ok (.getfield 48, 3) := by decide +kernel
theorem dX1_walk_75 : decode cX1_walk 75 = .ok (.iload_n 3, 1) := by decide +kernel
theorem dX1_walk_76 : decode cX1_walk 76 = .ok (.invokevirtual 86, 3) := by decide +kernel
theorem dX1_walk_79 : decode cX1_walk 79 = .ok (.iastore, 1) := by decide +kernel
theorem dX1_walk_80 : decode cX1_walk 80 = .ok (.aload_n 0, 1) := by decide +kernel
theorem dX1_walk_81 : decode cX1_walk 81 = .ok (.getfield 28, 3) := by decide +kernel
theorem dX1_walk_84 : decode cX1_walk 84 = .ok (.iload_n 1, 1) := by decide +kernel
theorem dX1_walk_85 : decode cX1_walk 85 = .ok (.aload_n 0, 1) := by decide +kernel
theorem dX1_walk_86 : decode cX1_walk 86 = .ok (.getfield 22, 3) := by decide +kernel
theorem dX1_walk_89 : decode cX1_walk 89 = .ok (.iload_n 1, 1) := by decide +kernel
theorem dX1_walk_90 : decode cX1_walk 90 = .ok (.iaload, 1) := by decide +kernel
theorem dX1_walk_91 : decode cX1_walk 91 = .ok (.aload_n 0, 1) := by decide +kernel
theorem dX1_walk_92 : decode cX1_walk 92 = .ok (.iload_n 1, 1) := by decide +kernel
theorem dX1_walk_93 : decode cX1_walk 93 = .ok (.invokevirtual 90, 3) := by decide +kernel
theorem dX1_walk_96 : decode cX1_walk 96 = .ok (.if_icmp .eq 7, 3) := by decide +kernel
theorem dX1_walk_99 : decode cX1_walk 99 = .ok (.iconst 1, 1) := by decide +kernel
theorem dX1_walk_100 : decode cX1_walk 100 = .ok (.goto 4, 3) := by decide +kernel
theorem dX1_walk_103 : decode cX1_walk 103 = .ok (.iconst 0, 1) := by decide +kernel
theorem dX1_walk_104 : decode cX1_walk 104 = .ok (.iastore, 1) := by decide +kernel
theorem dX1_walk_105 : decode cX1_walk 105 = .ok (.aload_n 0, 1) := by decide +kernel
theorem dX1_walk_106 : decode cX1_walk 106 = .ok (.getfield 18, 3) := by decide +kernel
theorem dX1_walk_109 : decode cX1_walk 109 = .ok (.iload_n 1, 1) := by decide +kernel
theorem dX1_walk_110 : decode cX1_walk 110 = .ok (.iconst 1, 1) := by decide +kernel
theorem dX1_walk_111 : decode cX1_walk 111 = .ok (.iadd, 1) := by decide +kernel
theorem dX1_walk_112 : decode cX1_walk 112 = .ok (.aload_n 0, 1) := by decide +kernel
theorem dX1_walk_113 : decode cX1_walk 113 = .ok (.iload_n 1, 1) := by decide +kernel
theorem dX1_walk_114 : decode cX1_walk 114 = .ok (.iload_n 3, 1) := by decide +kernel
theorem dX1_walk_115 : decode cX1_walk 115 = .ok (.iload_n 2, 1) := by decide +kernel
theorem dX1_walk_116 : decode cX1_walk 116 = .ok (.invokevirtual 93, 3) := by decide +kernel
theorem dX1_walk_119 : decode cX1_walk 119 = .ok (.iastore, 1) := by decide +kernel
theorem dX1_walk_120 : decode cX1_walk 120 = .ok (.aload_n 0, 1) := by decide +kernel
theorem dX1_walk_121 : decode cX1_walk 121 = .ok (.getfield 25, 3) := by decide +kernel
theorem dX1_walk_124 : decode cX1_walk 124 = .ok (.iload_n 1, 1) := by decide +kernel
theorem dX1_walk_125 : decode cX1_walk 125 = .ok (.aload_n 0, 1) := by decide +kernel
theorem dX1_walk_126 : decode cX1_walk 126 = .ok (.getfield 96, 3) := by decide +kernel
theorem dX1_walk_129 : decode cX1_walk 129 = .ok (.iastore, 1) := by decide +kernel
theorem dX1_walk_130 : decode cX1_walk 130 = .ok (.iinc 1 1, 3) := by decide +kernel
theorem dX1_walk_133 : decode cX1_walk 133 = .ok (.goto (-124), 3) := by decide +kernel
theorem dX1_walk_136 : decode cX1_walk 136 = .ok (.return_, 1) := by decide +kernel
theorem dX1_ownerNow_0 : decode cX1_ownerNow 0 = .ok (.aload_n 0, 1) := by decide +kernel
theorem dX1_ownerNow_1 : decode cX1_ownerNow 1 = .ok (.aload_n 0, 1) := by decide +kernel
theorem dX1_ownerNow_2 : decode cX1_ownerNow 2 = .ok (.getfield 48, 3) := by decide +kernel
theorem dX1_ownerNow_5 : decode cX1_ownerNow 5 = .ok (.getfield 65, 3) := by decide +kernel
theorem dX1_ownerNow_8 : decode cX1_ownerNow 8 = .ok (.invokevirtual 90, 3) := by decide +kernel
theorem dX1_ownerNow_11 : decode cX1_ownerNow 11 = .ok (.ireturn, 1) := by decide +kernel
theorem dX1_ownerAhead_0 : decode cX1_ownerAhead 0 = .ok (.aload_n 0, 1) := by decide +kernel
theorem dX1_ownerAhead_1 : decode cX1_ownerAhead 1 = .ok (.aload_n 0, 1) := by decide +kernel
theorem dX1_ownerAhead_2 : decode cX1_ownerAhead 2 = .ok (.getfield 18, 3) := by decide +kernel
theorem dX1_ownerAhead_5 : decode cX1_ownerAhead 5 = .ok (.iload_n 1, 1) := by decide +kernel
theorem dX1_ownerAhead_6 : decode cX1_ownerAhead 6 = .ok (.iaload, 1) := by decide +kernel
theorem dX1_ownerAhead_7 : decode cX1_ownerAhead 7 = .ok (.iload_n 1, 1) := by decide +kernel
theorem dX1_ownerAhead_8 : decode cX1_ownerAhead 8 = .ok (.invokevirtual 99, 3) := by decide +kernel
theorem dX1_ownerAhead_11 : decode cX1_ownerAhead 11 = .ok (.ireturn, 1) := by decide +kernel
theorem dX1_ownerIn_0 : decode cX1_ownerIn 0 = .ok (.aload_n 0, 1) := by decide +kernel
theorem dX1_ownerIn_1 : decode cX1_ownerIn 1 = .ok (.getfield 48, 3) := by decide +kernel
theorem dX1_ownerIn_4 : decode cX1_ownerIn 4 = .ok (.iload_n 1, 1) := by decide +kernel
theorem dX1_ownerIn_5 : decode cX1_ownerIn 5 = .ok (.iconst (-1), 1) := by decide +kernel
theorem dX1_ownerIn_6 : decode cX1_ownerIn 6 = .ok (.if_icmp .ne 7, 3) := by decide +kernel
theorem dX1_ownerIn_9 : decode cX1_ownerIn 9 = .ok (.iload_n 2, 1) := by decide +kernel
theorem dX1_ownerIn_10 : decode cX1_ownerIn 10 = .ok (.goto 4, 3) := by decide +kernel
theorem dX1_ownerIn_13 : decode cX1_ownerIn 13 = .ok (.iload_n 1, 1) := by decide +kernel
theorem dX1_ownerIn_14 : decode cX1_ownerIn 14 = .ok (.invokevirtual 86, 3) := by decide +kernel
theorem dX1_ownerIn_17 : decode cX1_ownerIn 17 = .ok (.ireturn, 1) := by decide +kernel
theorem dX1_handOver_0 : decode cX1_handOver 0 = .ok (.aload_n 0, 1) := by decide +kernel
theorem dX1_handOver_1 : decode cX1_handOver 1 = .ok (.getfield 48, 3) := by decide +kernel
theorem dX1_handOver_4 : decode cX1_handOver 4 = .ok (.getfield 70, 3) := by decide +kernel
theorem dX1_handOver_7 : decode cX1_handOver 7 = .ok (.iload_n 1, 1) := by decide +kernel
theorem dX1_handOver_8 : decode cX1_handOver 8 = .ok (.aaload, 1) := by decide +kernel
theorem dX1_handOver_9 : decode cX1_handOver 9 = .ok (.astore 4, 2) := by decide +kernel
theorem dX1_handOver_11 : decode cX1_handOver 11 = .ok (.iload_n 2, 1) := by decide +kernel
theorem dX1_handOver_12 : decode cX1_handOver 12 = .ok (.iconst (-1), 1) := by decide +kernel
theorem dX1_handOver_13 : decode cX1_handOver 13 = .ok (.if_icmp .ne 7, 3) := by decide +kernel
theorem dX1_handOver_16 : decode cX1_handOver 16 = .ok (.iload_n 1, 1) := by decide +kernel
theorem dX1_handOver_17 : decode cX1_handOver 17 = .ok (.goto 4, 3) := by decide +kernel
theorem dX1_handOver_20 : decode cX1_handOver 20 = .ok (.iload_n 2, 1) := by decide +kernel
theorem dX1_handOver_21 : decode cX1_handOver 21 = .ok (.istore 5, 2) := by decide +kernel
theorem dX1_handOver_23 : decode cX1_handOver 23 = .ok (.iload_n 2, 1) := by decide +kernel
theorem dX1_handOver_24 : decode cX1_handOver 24 = .ok (.iconst (-1), 1) := by decide +kernel
theorem dX1_handOver_25 : decode cX1_handOver 25 = .ok (.if_icmp .ne 16, 3) := by decide +kernel
theorem dX1_handOver_28 : decode cX1_handOver 28 = .ok (.aload 4, 2) := by decide +kernel
theorem dX1_handOver_30 : decode cX1_handOver 30 = .ok (.getfield 103, 3) := by decide +kernel
theorem dX1_handOver_33 : decode cX1_handOver 33 = .ok (.iconst 2, 1) := by decide +kernel
theorem dX1_handOver_34 : decode cX1_handOver 34 = .ok (.if_icmp .gt 7, 3) := by decide +kernel
theorem dX1_handOver_37 : decode cX1_handOver 37 = .ok (.iconst 1, 1) := by decide +kernel
theorem dX1_handOver_38 : decode cX1_handOver 38 = .ok (.goto 4, 3) := by decide +kernel
theorem dX1_handOver_41 : decode cX1_handOver 41 = .ok (.iconst 0, 1) := by decide +kernel
theorem dX1_handOver_42 : decode cX1_handOver 42 = .ok (.istore 6, 2) := by decide +kernel
theorem dX1_handOver_44 : decode cX1_handOver 44 = .ok (.aload 4, 2) := by decide +kernel
theorem dX1_handOver_46 : decode cX1_handOver 46 = .ok (.getfield 83, 3) := by decide +kernel
theorem dX1_handOver_49 : decode cX1_handOver 49 = .ok (.aload_n 0, 1) := by decide +kernel
theorem dX1_handOver_50 : decode cX1_handOver 50 = .ok (.getfield 48, 3) := by decide +kernel
theorem dX1_handOver_53 : decode cX1_handOver 53 = .ok (.iload 5, 2) := by decide +kernel
theorem dX1_handOver_55 : decode cX1_handOver 55 = .ok (.invokevirtual 86, 3) := by decide +kernel
theorem dX1_handOver_58 : decode cX1_handOver 58 = .ok (.if_icmp .ne 7, 3) := by decide +kernel
theorem dX1_handOver_61 : decode cX1_handOver 61 = .ok (.iconst 1, 1) := by decide +kernel
theorem dX1_handOver_62 : decode cX1_handOver 62 = .ok (.goto 4, 3) := by decide +kernel
theorem dX1_handOver_65 : decode cX1_handOver 65 = .ok (.iconst 0, 1) := by decide +kernel
theorem dX1_handOver_66 : decode cX1_handOver 66 = .ok (.istore 7, 2) := by decide +kernel
theorem dX1_handOver_68 : decode cX1_handOver 68 = .ok (.iload 6, 2) := by decide +kernel
theorem dX1_handOver_70 : decode cX1_handOver 70 = .ok (.ifCond .ne 19, 3) := by decide +kernel
theorem dX1_handOver_73 : decode cX1_handOver 73 = .ok (.iload 7, 2) := by decide +kernel
theorem dX1_handOver_75 : decode cX1_handOver 75 = .ok (.ifCond .ne 14, 3) := by decide +kernel
theorem dX1_handOver_78 : decode cX1_handOver 78 = .ok (.aload_n 0, 1) := by decide +kernel
theorem dX1_handOver_79 : decode cX1_handOver 79 = .ok (.iload_n 1, 1) := by decide +kernel
theorem dX1_handOver_80 : decode cX1_handOver 80 = .ok (.iload 5, 2) := by decide +kernel
theorem dX1_handOver_82 : decode cX1_handOver 82 = .ok (.iload_n 3, 1) := by decide +kernel
theorem dX1_handOver_83 : decode cX1_handOver 83 = .ok (.invokevirtual 106, 3) := by decide +kernel
theorem dX1_handOver_86 : decode cX1_handOver 86 = .ok (.ifCond .eq 7, 3) := by decide +kernel
theorem dX1_handOver_89 : decode cX1_handOver 89 = .ok (.iconst (-1), 1) := by decide +kernel
theorem dX1_handOver_90 : decode cX1_handOver 90 = .ok (.goto 5, 3) := by decide +kernel
theorem dX1_handOver_93 : decode cX1_handOver 93 = .ok (.iload 5, 2) := by decide +kernel
theorem dX1_handOver_95 : decode cX1_handOver 95 = .ok (.ireturn, 1) := by decide +kernel
theorem dX1_waitBehind_0 : decode cX1_waitBehind 0 = .ok (.aload_n 0, 1) := by decide +kernel
theorem dX1_waitBehind_1 : decode cX1_waitBehind 1 = .ok (.iconst (-1), 1) := by decide +kernel
theorem dX1_waitBehind_2 : decode cX1_waitBehind 2 = .ok (.putfield 96, 3) := by decide +kernel
theorem dX1_waitBehind_5 : decode cX1_waitBehind 5 = .ok (.iload_n 2, 1) := by decide +kernel
theorem dX1_waitBehind_6 : decode cX1_waitBehind 6 = .ok (.iconst (-1), 1) := by decide +kernel
theorem dX1_waitBehind_7 : decode cX1_waitBehind 7 = .ok (.if_icmp .ne 5, 3) := by decide +kernel
theorem dX1_waitBehind_10 : decode cX1_waitBehind 10 = .ok (.iconst (-1), 1) := by decide +kernel
theorem dX1_waitBehind_11 : decode cX1_waitBehind 11 = .ok (.ireturn, 1) := by decide +kernel
theorem dX1_waitBehind_12 : decode cX1_waitBehind 12 = .ok (.iload_n 1, 1) := by decide +kernel
theorem dX1_waitBehind_13 : decode cX1_waitBehind 13 = .ok (.bipush 20, 2) := by decide +kernel
theorem dX1_waitBehind_15 : decode cX1_waitBehind 15 = .ok (.imul, 1) := by decide +kernel
theorem dX1_waitBehind_16 : decode cX1_waitBehind 16 = .ok (.iload_n 2, 1) := by decide +kernel
theorem dX1_waitBehind_17 : decode cX1_waitBehind 17 = .ok (.iadd, 1) := by decide +kernel
theorem dX1_waitBehind_18 : decode cX1_waitBehind 18 = .ok (.iconst 3, 1) := by decide +kernel
theorem dX1_waitBehind_19 : decode cX1_waitBehind 19 = .ok (.imul, 1) := by decide +kernel
theorem dX1_waitBehind_20 : decode cX1_waitBehind 20 = .ok (.iload_n 3, 1) := by decide +kernel
theorem dX1_waitBehind_21 : decode cX1_waitBehind 21 = .ok (.iadd, 1) := by decide +kernel
theorem dX1_waitBehind_22 : decode cX1_waitBehind 22 = .ok (.istore 4, 2) := by decide +kernel
theorem dX1_waitBehind_24 : decode cX1_waitBehind 24 = .ok (.iload 4, 2) := by decide +kernel
theorem dX1_waitBehind_26 : decode cX1_waitBehind 26 = .ok (.iconst 0, 1) := by decide +kernel
theorem dX1_waitBehind_27 : decode cX1_waitBehind 27 = .ok (.aload_n 0, 1) := by decide +kernel
theorem dX1_waitBehind_28 : decode cX1_waitBehind 28 = .ok (.getfield 31, 3) := by decide +kernel
theorem dX1_waitBehind_31 : decode cX1_waitBehind 31 = .ok (.arraylength, 1) := by decide +kernel
theorem dX1_waitBehind_32 : decode cX1_waitBehind 32 = .ok (.iconst 1, 1) := by decide +kernel
theorem dX1_waitBehind_33 : decode cX1_waitBehind 33 = .ok (.isub, 1) := by decide +kernel
theorem dX1_waitBehind_34 : decode cX1_waitBehind 34 = .ok (.invokestatic 110, 3) := by decide +kernel
theorem dX1_waitBehind_37 : decode cX1_waitBehind 37 = .ok (.ifCond .ne 5, 3) := by decide +kernel
theorem dX1_waitBehind_40 : decode cX1_waitBehind 40 = .ok (.iload_n 2, 1) := by decide +kernel
theorem dX1_waitBehind_41 : decode cX1_waitBehind 41 = .ok (.ireturn, 1) := by decide +kernel
theorem dX1_waitBehind_42 : decode cX1_waitBehind 42 = .ok (.aload_n 0, 1) := by decide +kernel
theorem dX1_waitBehind_43 : decode cX1_waitBehind 43 = .ok (.getfield 31, 3) := by decide +kernel
theorem dX1_waitBehind_46 : decode cX1_waitBehind 46 = .ok (.iload 4, 2) := by decide +kernel
theorem dX1_waitBehind_48 : decode cX1_waitBehind 48 = .ok (.iaload, 1) := by decide +kernel
theorem dX1_waitBehind_49 : decode cX1_waitBehind 49 = .ok (.aload_n 0, 1) := by decide +kernel
theorem dX1_waitBehind_50 : decode cX1_waitBehind 50 = .ok (.getfield 52, 3) := by decide +kernel
theorem dX1_waitBehind_53 : decode cX1_waitBehind 53 = .ok (.if_icmp .eq 28, 3) := by decide +kernel
theorem dX1_waitBehind_56 : decode cX1_waitBehind 56 = .ok (.aload_n 0, 1) := by decide +kernel
theorem dX1_waitBehind_57 : decode cX1_waitBehind 57 = .ok (.getfield 31, 3) := by decide +kernel
theorem dX1_waitBehind_60 : decode cX1_waitBehind 60 = .ok (.iload 4, 2) := by decide +kernel
theorem dX1_waitBehind_62 : decode cX1_waitBehind 62 = .ok (.aload_n 0, 1) := by decide +kernel
theorem dX1_waitBehind_63 : decode cX1_waitBehind 63 = .ok (.getfield 52, 3) := by decide +kernel
theorem dX1_waitBehind_66 : decode cX1_waitBehind 66 = .ok (.iastore, 1) := by decide +kernel
theorem dX1_waitBehind_67 : decode cX1_waitBehind 67 = .ok (.aload_n 0, 1) := by decide +kernel
theorem dX1_waitBehind_68 : decode cX1_waitBehind 68 = .ok (.getfield 34, 3) := by decide +kernel
theorem dX1_waitBehind_71 : decode cX1_waitBehind 71 = .ok (.iload 4, 2) := by decide +kernel
theorem dX1_waitBehind_73 : decode cX1_waitBehind 73 = .ok (.aload_n 0, 1) := by decide +kernel
theorem dX1_waitBehind_74 : decode cX1_waitBehind 74 = .ok (.iload_n 1, 1) := by decide +kernel
theorem dX1_waitBehind_75 : decode cX1_waitBehind 75 = .ok (.iload_n 2, 1) := by decide +kernel
theorem dX1_waitBehind_76 : decode cX1_waitBehind 76 = .ok (.iload_n 3, 1) := by decide +kernel
theorem dX1_waitBehind_77 : decode cX1_waitBehind 77 = .ok (.invokevirtual 113, 3) := by decide +kernel
theorem dX1_waitBehind_80 : decode cX1_waitBehind 80 = .ok (.iastore, 1) := by decide +kernel
theorem dX1_waitBehind_81 : decode cX1_waitBehind 81 = .ok (.aload_n 0, 1) := by decide +kernel
theorem dX1_waitBehind_82 : decode cX1_waitBehind 82 = .ok (.aload_n 0, 1) := by decide +kernel
theorem dX1_waitBehind_83 : decode cX1_waitBehind 83 = .ok (.getfield 34, 3) := by decide +kernel
theorem dX1_waitBehind_86 : decode cX1_waitBehind 86 = .ok (.iload 4, 2) := by decide +kernel
theorem dX1_waitBehind_88 : decode cX1_waitBehind 88 = .ok (.iaload, 1) := by decide +kernel
theorem dX1_waitBehind_89 : decode cX1_waitBehind 89 = .ok (.putfield 96, 3) := by decide +kernel
theorem dX1_waitBehind_92 : decode cX1_waitBehind 92 = .ok (.aload_n 0, 1) := by decide +kernel
theorem dX1_waitBehind_93 : decode cX1_waitBehind 93 = .ok (.getfield 96, 3) := by decide +kernel
theorem dX1_waitBehind_96 : decode cX1_waitBehind 96 = .ok (.iconst (-1), 1) := by decide +kernel
theorem dX1_waitBehind_97 : decode cX1_waitBehind 97 = .ok (.if_icmp .ne 7, 3) := by decide +kernel
theorem dX1_waitBehind_100 : decode cX1_waitBehind 100 = .ok (.iload_n 2, 1) := by decide +kernel
theorem dX1_waitBehind_101 : decode cX1_waitBehind 101 = .ok (.goto 4, 3) := by decide +kernel
theorem dX1_waitBehind_104 : decode cX1_waitBehind 104 = .ok (.iconst (-1), 1) := by decide +kernel
theorem dX1_waitBehind_105 : decode cX1_waitBehind 105 = .ok (.ireturn, 1) := by decide +kernel
theorem dX1_givesTitle_0 : decode cX1_givesTitle 0 = .ok (.aload_n 0, 1) := by decide +kernel
theorem dX1_givesTitle_1 : decode cX1_givesTitle 1 = .ok (.getfield 48, 3) := by decide +kernel
theorem dX1_givesTitle_4 : decode cX1_givesTitle 4 = .ok (.getfield 70, 3) := by decide +kernel
theorem dX1_givesTitle_7 : decode cX1_givesTitle 7 = .ok (.iload_n 1, 1) := by decide +kernel
theorem dX1_givesTitle_8 : decode cX1_givesTitle 8 = .ok (.aaload, 1) := by decide +kernel
theorem dX1_givesTitle_9 : decode cX1_givesTitle 9 = .ok (.getfield 103, 3) := by decide +kernel
theorem dX1_givesTitle_12 : decode cX1_givesTitle 12 = .ok (.istore 4, 2) := by decide +kernel
theorem dX1_givesTitle_14 : decode cX1_givesTitle 14 = .ok (.getstatic 116, 3) := by decide +kernel
theorem dX1_givesTitle_17 : decode cX1_givesTitle 17 = .ok (.iload 4, 2) := by decide +kernel
theorem dX1_givesTitle_19 : decode cX1_givesTitle 19 = .ok (.iaload, 1) := by decide +kernel
theorem dX1_givesTitle_20 : decode cX1_givesTitle 20 = .ok (.istore 5, 2) := by decide +kernel
theorem dX1_givesTitle_22 : decode cX1_givesTitle 22 = .ok (.iload 5, 2) := by decide +kernel
theorem dX1_givesTitle_24 : decode cX1_givesTitle 24 = .ok (.iconst (-1), 1) := by decide +kernel
theorem dX1_givesTitle_25 : decode cX1_givesTitle 25 = .ok (.if_icmp .ne 5, 3) := by decide +kernel
theorem dX1_givesTitle_28 : decode cX1_givesTitle 28 = .ok (.iconst 0, 1) := by decide +kernel
theorem dX1_givesTitle_29 : decode cX1_givesTitle 29 = .ok (.ireturn, 1) := by decide +kernel
theorem dX1_givesTitle_30 : decode cX1_givesTitle 30 = .ok (.aload_n 0, 1) := by decide +kernel
theorem dX1_givesTitle_31 : decode cX1_givesTitle 31 = .ok (.iload_n 1, 1) := by decide +kernel
theorem dX1_givesTitle_32 : decode cX1_givesTitle 32 = .ok (.iload 4, 2) := by decide +kernel
theorem dX1_givesTitle_34 : decode cX1_givesTitle 34 = .ok (.aload_n 0, 1) := by decide +kernel
theorem dX1_givesTitle_35 : decode cX1_givesTitle 35 = .ok (.getfield 48, 3) := by decide +kernel
theorem dX1_givesTitle_38 : decode cX1_givesTitle 38 = .ok (.iload_n 2, 1) := by decide +kernel
theorem dX1_givesTitle_39 : decode cX1_givesTitle 39 = .ok (.invokevirtual 86, 3) := by decide +kernel
theorem dX1_givesTitle_42 : decode cX1_givesTitle 42 = .ok (.invokevirtual 119, 3) := by decide +kernel
theorem dX1_givesTitle_45 : decode cX1_givesTitle 45 = .ok (.istore 6, 2) := by decide +kernel
theorem dX1_givesTitle_47 : decode cX1_givesTitle 47 = .ok (.iload 5, 2) := by decide +kernel
theorem dX1_givesTitle_49 : decode cX1_givesTitle 49 = .ok (.ifCond .ne 19, 3) := by decide +kernel
theorem dX1_givesTitle_52 : decode cX1_givesTitle 52 = .ok (.aload_n 0, 1) := by decide +kernel
theorem dX1_givesTitle_53 : decode cX1_givesTitle 53 = .ok (.getfield 62, 3) := by decide +kernel
theorem dX1_givesTitle_56 : decode cX1_givesTitle 56 = .ok (.iload 6, 2) := by decide +kernel
theorem dX1_givesTitle_58 : decode cX1_givesTitle 58 = .ok (.iushr, 1) := by decide +kernel
theorem dX1_givesTitle_59 : decode cX1_givesTitle 59 = .ok (.iconst 1, 1) := by decide +kernel
theorem dX1_givesTitle_60 : decode cX1_givesTitle 60 = .ok (.iand, 1) := by decide +kernel
theorem dX1_givesTitle_61 : decode cX1_givesTitle 61 = .ok (.ifCond .eq 7, 3) := by decide +kernel
theorem dX1_givesTitle_64 : decode cX1_givesTitle 64 = .ok (.iconst 1, 1) := by decide +kernel
theorem dX1_givesTitle_65 : decode cX1_givesTitle 65 = .ok (.goto 4, 3) := by decide +kernel
theorem dX1_givesTitle_68 : decode cX1_givesTitle 68 = .ok (.iconst 0, 1) := by decide +kernel
theorem dX1_givesTitle_69 : decode cX1_givesTitle 69 = .ok (.istore 7, 2) := by decide +kernel
theorem dX1_givesTitle_71 : decode cX1_givesTitle 71 = .ok (.iload 7, 2) := by decide +kernel
theorem dX1_givesTitle_73 : decode cX1_givesTitle 73 = .ok (.ifCond .ne 18, 3) := by decide +kernel
theorem dX1_givesTitle_76 : decode cX1_givesTitle 76 = .ok (.aload_n 0, 1) := by decide +kernel
theorem dX1_givesTitle_77 : decode cX1_givesTitle 77 = .ok (.getfield 40, 3) := by decide +kernel
theorem dX1_givesTitle_80 : decode cX1_givesTitle 80 = .ok (.iload 6, 2) := by decide +kernel
theorem dX1_givesTitle_82 : decode cX1_givesTitle 82 = .ok (.aaload, 1) := by decide +kernel
theorem dX1_givesTitle_83 : decode cX1_givesTitle 83 = .ok (.iload 5, 2) := by decide +kernel
theorem dX1_givesTitle_85 : decode cX1_givesTitle 85 = .ok (.invokevirtual 122, 3) := by decide +kernel
theorem dX1_givesTitle_88 : decode cX1_givesTitle 88 = .ok (.ifCond .ne 5, 3) := by decide +kernel
theorem dX1_givesTitle_91 : decode cX1_givesTitle 91 = .ok (.iconst 0, 1) := by decide +kernel
theorem dX1_givesTitle_92 : decode cX1_givesTitle 92 = .ok (.ireturn, 1) := by decide +kernel
theorem dX1_givesTitle_93 : decode cX1_givesTitle 93 = .ok (.aload_n 0, 1) := by decide +kernel
theorem dX1_givesTitle_94 : decode cX1_givesTitle 94 = .ok (.iload_n 1, 1) := by decide +kernel
theorem dX1_givesTitle_95 : decode cX1_givesTitle 95 = .ok (.iload_n 2, 1) := by decide +kernel
theorem dX1_givesTitle_96 : decode cX1_givesTitle 96 = .ok (.iload_n 3, 1) := by decide +kernel
theorem dX1_givesTitle_97 : decode cX1_givesTitle 97 = .ok (.invokevirtual 128, 3) := by decide +kernel
theorem dX1_givesTitle_100 : decode cX1_givesTitle 100 = .ok (.aload_n 0, 1) := by decide +kernel
theorem dX1_givesTitle_101 : decode cX1_givesTitle 101 = .ok (.getfield 12, 3) := by decide +kernel
theorem dX1_givesTitle_104 : decode cX1_givesTitle 104 = .ok (.aload_n 0, 1) := by decide +kernel
theorem dX1_givesTitle_105 : decode cX1_givesTitle 105 = .ok (.getfield 40, 3) := by decide +kernel
theorem dX1_givesTitle_108 : decode cX1_givesTitle 108 = .ok (.iload 6, 2) := by decide +kernel
theorem dX1_givesTitle_110 : decode cX1_givesTitle 110 = .ok (.aaload, 1) := by decide +kernel
theorem dX1_givesTitle_111 : decode cX1_givesTitle 111 = .ok (.iload 5, 2) := by decide +kernel
theorem dX1_givesTitle_113 : decode cX1_givesTitle 113 = .ok (.invokevirtual 132, 3) := by decide +kernel
theorem dX1_givesTitle_116 : decode cX1_givesTitle 116 = .ok (.ireturn, 1) := by decide +kernel
theorem dX1_isClaimHolding_0 : decode cX1_isClaimHolding 0 = .ok (.aload_n 0, 1) := by decide +kernel
theorem dX1_isClaimHolding_1 : decode cX1_isClaimHolding 1 = .ok (.getfield 18, 3) := by decide +kernel
theorem dX1_isClaimHolding_4 : decode cX1_isClaimHolding 4 = .ok (.iload_n 1, 1) := by decide +kernel
theorem dX1_isClaimHolding_5 : decode cX1_isClaimHolding 5 = .ok (.iaload, 1) := by decide +kernel
theorem dX1_isClaimHolding_6 : decode cX1_isClaimHolding 6 = .ok (.istore_n 3, 1) := by decide +kernel
theorem dX1_isClaimHolding_7 : decode cX1_isClaimHolding 7 = .ok (.iload_n 3, 1) := by decide +kernel
theorem dX1_isClaimHolding_8 : decode cX1_isClaimHolding 8 = .ok (.iconst (-1), 1) := by decide +kernel
theorem dX1_isClaimHolding_9 : decode cX1_isClaimHolding 9 = .ok (.if_icmp .ne 5, 3) := by decide +kernel
theorem dX1_isClaimHolding_12 : decode cX1_isClaimHolding 12 = .ok (.iconst 0, 1) := by decide +kernel
theorem dX1_isClaimHolding_13 : decode cX1_isClaimHolding 13 = .ok (.ireturn, 1) := by decide +kernel
theorem dX1_isClaimHolding_14 : decode cX1_isClaimHolding 14 = .ok (.aload_n 0, 1) := by decide +kernel
theorem dX1_isClaimHolding_15 : decode cX1_isClaimHolding 15 = .ok (.getfield 40, 3) := by decide +kernel
theorem dX1_isClaimHolding_18 : decode cX1_isClaimHolding 18 = .ok (.aload_n 0, 1) := by decide +kernel
theorem dX1_isClaimHolding_19 : decode cX1_isClaimHolding 19 = .ok (.iload_n 1, 1) := by decide +kernel
theorem dX1_isClaimHolding_20 : decode cX1_isClaimHolding 20 = .ok (.aload_n 0, 1) := by decide +kernel
theorem dX1_isClaimHolding_21 : decode cX1_isClaimHolding 21 = .ok (.getfield 48, 3) := by decide +kernel
theorem dX1_isClaimHolding_24 : decode cX1_isClaimHolding 24 = .ok (.getfield 70, 3) := by decide +kernel
theorem dX1_isClaimHolding_27 : decode cX1_isClaimHolding 27 = .ok (.iload_n 1, 1) := by decide +kernel
theorem dX1_isClaimHolding_28 : decode cX1_isClaimHolding 28 = .ok (.aaload, 1) := by decide +kernel
theorem dX1_isClaimHolding_29 : decode cX1_isClaimHolding 29 = .ok (.getfield 103, 3) := by decide +kernel
theorem dX1_isClaimHolding_32 : decode cX1_isClaimHolding 32 = .ok (.aload_n 0, 1) := by decide +kernel
theorem dX1_isClaimHolding_33 : decode cX1_isClaimHolding 33 = .ok (.getfield 48, 3) := by decide +kernel
theorem dX1_isClaimHolding_36 : decode cX1_isClaimHolding 36 = .ok (.iload_n 3, 1) := by decide +kernel
theorem dX1_isClaimHolding_37 : decode cX1_isClaimHolding 37 = .ok (.invokevirtual 86, 3) := by decide +kernel
theorem dX1_isClaimHolding_40 : decode cX1_isClaimHolding 40 = .ok (.invokevirtual 119, 3) := by decide +kernel
theorem dX1_isClaimHolding_43 : decode cX1_isClaimHolding 43 = .ok (.aaload, 1) := by decide +kernel
theorem dX1_isClaimHolding_44 : decode cX1_isClaimHolding 44 = .ok (.astore 4, 2) := by decide +kernel
theorem dX1_isClaimHolding_46 : decode cX1_isClaimHolding 46 = .ok (.aload_n 0, 1) := by decide +kernel
theorem dX1_isClaimHolding_47 : decode cX1_isClaimHolding 47 = .ok (.iload_n 1, 1) := by decide +kernel
theorem dX1_isClaimHolding_48 : decode cX1_isClaimHolding 48 = .ok (.iload_n 3, 1) := by decide +kernel
theorem dX1_isClaimHolding_49 : decode cX1_isClaimHolding 49 = .ok (.aload_n 0, 1) := by decide +kernel
theorem dX1_isClaimHolding_50 : decode cX1_isClaimHolding 50 = .ok (.getfield 48, 3) := by decide +kernel
theorem dX1_isClaimHolding_53 : decode cX1_isClaimHolding 53 = .ok (.getfield 70, 3) := by decide +kernel
theorem dX1_isClaimHolding_56 : decode cX1_isClaimHolding 56 = .ok (.iload_n 1, 1) := by decide +kernel
theorem dX1_isClaimHolding_57 : decode cX1_isClaimHolding 57 = .ok (.aaload, 1) := by decide +kernel
theorem dX1_isClaimHolding_58 : decode cX1_isClaimHolding 58 = .ok (.getfield 74, 3) := by decide +kernel
theorem dX1_isClaimHolding_61 : decode cX1_isClaimHolding 61 = .ok (.invokevirtual 128, 3) := by decide +kernel
theorem dX1_isClaimHolding_64 : decode cX1_isClaimHolding 64 = .ok (.aload_n 0, 1) := by decide +kernel
theorem dX1_isClaimHolding_65 : decode cX1_isClaimHolding 65 = .ok (.getfield 12, 3) := by decide +kernel
theorem dX1_isClaimHolding_68 : decode cX1_isClaimHolding 68 = .ok (.aload 4, 2) := by decide +kernel
theorem dX1_isClaimHolding_70 : decode cX1_isClaimHolding 70 = .ok (.iload_n 2, 1) := by decide +kernel
theorem dX1_isClaimHolding_71 : decode cX1_isClaimHolding 71 = .ok (.invokevirtual 132, 3) := by decide +kernel
theorem dX1_isClaimHolding_74 : decode cX1_isClaimHolding 74 = .ok (.ireturn, 1) := by decide +kernel
theorem dX1_findMonth_0 : decode cX1_findMonth 0 = .ok (.aload_n 0, 1) := by decide +kernel
theorem dX1_findMonth_1 : decode cX1_findMonth 1 = .ok (.getfield 40, 3) := by decide +kernel
theorem dX1_findMonth_4 : decode cX1_findMonth 4 = .ok (.aload_n 0, 1) := by decide +kernel
theorem dX1_findMonth_5 : decode cX1_findMonth 5 = .ok (.iload_n 1, 1) := by decide +kernel
theorem dX1_findMonth_6 : decode cX1_findMonth 6 = .ok (.bipush 8, 2) := by decide +kernel
theorem dX1_findMonth_8 : decode cX1_findMonth 8 = .ok (.aload_n 0, 1) := by decide +kernel
theorem dX1_findMonth_9 : decode cX1_findMonth 9 = .ok (.getfield 48, 3) := by decide +kernel
theorem dX1_findMonth_12 : decode cX1_findMonth 12 = .ok (.iload_n 2, 1) := by decide +kernel
theorem dX1_findMonth_13 : decode cX1_findMonth 13 = .ok (.invokevirtual 86, 3) := by decide +kernel
theorem dX1_findMonth_16 : decode cX1_findMonth 16 = .ok (.invokevirtual 119, 3) := by decide +kernel
theorem dX1_findMonth_19 : decode cX1_findMonth 19 = .ok (.aaload, 1) := by decide +kernel
theorem dX1_findMonth_20 : decode cX1_findMonth 20 = .ok (.astore 4, 2) := by decide +kernel
theorem dX1_findMonth_22 : decode cX1_findMonth 22 = .ok (.aload 4, 2) := by decide +kernel
theorem dX1_findMonth_24 : decode cX1_findMonth 24 = .ok (.iconst 5, 1) := by decide +kernel
theorem dX1_findMonth_25 : decode cX1_findMonth 25 = .ok (.invokevirtual 122, 3) := by decide +kernel
theorem dX1_findMonth_28 : decode cX1_findMonth 28 = .ok (.ifCond .ne 5, 3) := by decide +kernel
theorem dX1_findMonth_31 : decode cX1_findMonth 31 = .ok (.iconst (-1), 1) := by decide +kernel
theorem dX1_findMonth_32 : decode cX1_findMonth 32 = .ok (.ireturn, 1) := by decide +kernel
theorem dX1_findMonth_33 : decode cX1_findMonth 33 = .ok (.aload_n 0, 1) := by decide +kernel
theorem dX1_findMonth_34 : decode cX1_findMonth 34 = .ok (.iload_n 1, 1) := by decide +kernel
theorem dX1_findMonth_35 : decode cX1_findMonth 35 = .ok (.iload_n 2, 1) := by decide +kernel
theorem dX1_findMonth_36 : decode cX1_findMonth 36 = .ok (.iload_n 3, 1) := by decide +kernel
theorem dX1_findMonth_37 : decode cX1_findMonth 37 = .ok (.invokevirtual 128, 3) := by decide +kernel
theorem dX1_findMonth_40 : decode cX1_findMonth 40 = .ok (.aload_n 0, 1) := by decide +kernel
theorem dX1_findMonth_41 : decode cX1_findMonth 41 = .ok (.getfield 48, 3) := by decide +kernel
theorem dX1_findMonth_44 : decode cX1_findMonth 44 = .ok (.getfield 70, 3) := by decide +kernel
theorem dX1_findMonth_47 : decode cX1_findMonth 47 = .ok (.iload_n 1, 1) := by decide +kernel
theorem dX1_findMonth_48 : decode cX1_findMonth 48 = .ok (.aaload, 1) := by decide +kernel
theorem dX1_findMonth_49 : decode cX1_findMonth 49 = .ok (.getfield 136, 3) := by decide +kernel
theorem dX1_findMonth_52 : decode cX1_findMonth 52 = .ok (.istore 5, 2) := by decide +kernel
theorem dX1_findMonth_54 : decode cX1_findMonth 54 = .ok (.iload_n 1, 1) := by decide +kernel
theorem dX1_findMonth_55 : decode cX1_findMonth 55 = .ok (.iconst 1, 1) := by decide +kernel
theorem dX1_findMonth_56 : decode cX1_findMonth 56 = .ok (.iadd, 1) := by decide +kernel
theorem dX1_findMonth_57 : decode cX1_findMonth 57 = .ok (.aload_n 0, 1) := by decide +kernel
theorem dX1_findMonth_58 : decode cX1_findMonth 58 = .ok (.getfield 48, 3) := by decide +kernel
theorem dX1_findMonth_61 : decode cX1_findMonth 61 = .ok (.getfield 65, 3) := by decide +kernel
theorem dX1_findMonth_64 : decode cX1_findMonth 64 = .ok (.if_icmp .ge 20, 3) := by decide +kernel
theorem dX1_findMonth_67 : decode cX1_findMonth 67 = .ok (.aload_n 0, 1) := by decide +kernel
theorem dX1_findMonth_68 : decode cX1_findMonth 68 = .ok (.getfield 48, 3) := by decide +kernel
theorem dX1_findMonth_71 : decode cX1_findMonth 71 = .ok (.getfield 70, 3) := by decide +kernel
theorem dX1_findMonth_74 : decode cX1_findMonth 74 = .ok (.iload_n 1, 1) := by decide +kernel
theorem dX1_findMonth_75 : decode cX1_findMonth 75 = .ok (.iconst 1, 1) := by decide +kernel
theorem dX1_findMonth_76 : decode cX1_findMonth 76 = .ok (.iadd, 1) := by decide +kernel
theorem dX1_findMonth_77 : decode cX1_findMonth 77 = .ok (.aaload, 1) := by decide +kernel
theorem dX1_findMonth_78 : decode cX1_findMonth 78 = .ok (.getfield 136, 3) := by decide +kernel
theorem dX1_findMonth_81 : decode cX1_findMonth 81 = .ok (.goto 7, 3) := by decide +kernel
theorem dX1_findMonth_84 : decode cX1_findMonth 84 = .ok (.aload_n 0, 1) := by decide +kernel
theorem dX1_findMonth_85 : decode cX1_findMonth 85 = .ok (.getfield 59, 3) := by decide +kernel
theorem dX1_findMonth_88 : decode cX1_findMonth 88 = .ok (.istore 6, 2) := by decide +kernel
theorem dX1_findMonth_90 : decode cX1_findMonth 90 = .ok (.iload 5, 2) := by decide +kernel
theorem dX1_findMonth_92 : decode cX1_findMonth 92 = .ok (.iconst 1, 1) := by decide +kernel
theorem dX1_findMonth_93 : decode cX1_findMonth 93 = .ok (.iadd, 1) := by decide +kernel
theorem dX1_findMonth_94 : decode cX1_findMonth 94 = .ok (.istore 7, 2) := by decide +kernel
theorem dX1_findMonth_96 : decode cX1_findMonth 96 = .ok (.iload 7, 2) := by decide +kernel
theorem dX1_findMonth_98 : decode cX1_findMonth 98 = .ok (.iload 6, 2) := by decide +kernel
theorem dX1_findMonth_100 : decode cX1_findMonth 100 = .ok (.if_icmp .gt 65, 3) := by decide +kernel
theorem dX1_findMonth_103 : decode cX1_findMonth 103 = .ok (.aload_n 0, 1) := by decide +kernel
theorem dX1_findMonth_104 : decode cX1_findMonth 104 = .ok (.getfield 12, 3) := by decide +kernel
theorem dX1_findMonth_107 : decode cX1_findMonth 107 = .ok (.getfield 139, 3) := by decide +kernel
theorem dX1_findMonth_110 : decode cX1_findMonth 110 = .ok (.bipush 7, 2) := by decide +kernel
theorem dX1_findMonth_112 : decode cX1_findMonth 112 = .ok (.iload 7, 2) := by decide +kernel
theorem dX1_findMonth_114 : decode cX1_findMonth 114 = .ok (.iload 5, 2) := by decide +kernel
theorem dX1_findMonth_116 : decode cX1_findMonth 116 = .ok (.isub, 1) := by decide +kernel
theorem dX1_findMonth_117 : decode cX1_findMonth 117 = .ok (.iastore, 1) := by decide +kernel
theorem dX1_findMonth_118 : decode cX1_findMonth 118 = .ok (.aload_n 0, 1) := by decide +kernel
theorem dX1_findMonth_119 : decode cX1_findMonth 119 = .ok (.getfield 12, 3) := by decide +kernel
theorem dX1_findMonth_122 : decode cX1_findMonth 122 = .ok (.getfield 139, 3) := by decide +kernel
theorem dX1_findMonth_125 : decode cX1_findMonth 125 = .ok (.bipush 8, 2) := by decide +kernel
theorem dX1_findMonth_127 : decode cX1_findMonth 127 = .ok (.iload 7, 2) := by decide +kernel
theorem dX1_findMonth_129 : decode cX1_findMonth 129 = .ok (.aload_n 0, 1) := by decide +kernel
theorem dX1_findMonth_130 : decode cX1_findMonth 130 = .ok (.getfield 48, 3) := by decide +kernel
theorem dX1_findMonth_133 : decode cX1_findMonth 133 = .ok (.getfield 70, 3) := by decide +kernel
theorem dX1_findMonth_136 : decode cX1_findMonth 136 = .ok (.iload_n 2, 1) := by decide +kernel
theorem dX1_findMonth_137 : decode cX1_findMonth 137 = .ok (.aaload, 1) := by decide +kernel
theorem dX1_findMonth_138 : decode cX1_findMonth 138 = .ok (.getfield 136, 3) := by decide +kernel
theorem dX1_findMonth_141 : decode cX1_findMonth 141 = .ok (.isub, 1) := by decide +kernel
theorem dX1_findMonth_142 : decode cX1_findMonth 142 = .ok (.iastore, 1) := by decide +kernel
theorem dX1_findMonth_143 : decode cX1_findMonth 143 = .ok (.aload_n 0, 1) := by decide +kernel
theorem dX1_findMonth_144 : decode cX1_findMonth 144 = .ok (.getfield 12, 3) := by decide +kernel
theorem dX1_findMonth_147 : decode cX1_findMonth 147 = .ok (.aload 4, 2) := by decide +kernel
theorem dX1_findMonth_149 : decode cX1_findMonth 149 = .ok (.iconst 5, 1) := by decide +kernel
theorem dX1_findMonth_150 : decode cX1_findMonth 150 = .ok (.invokevirtual 132, 3) := by decide +kernel
theorem dX1_findMonth_153 : decode cX1_findMonth 153 = .ok (.ifCond .eq 6, 3) := by decide +kernel
theorem dX1_findMonth_156 : decode cX1_findMonth 156 = .ok (.iload 7, 2) := by decide +kernel
theorem dX1_findMonth_158 : decode cX1_findMonth 158 = .ok (.ireturn, 1) := by decide +kernel
theorem dX1_findMonth_159 : decode cX1_findMonth 159 = .ok (.iinc 7 1, 3) := by decide +kernel
theorem dX1_findMonth_162 : decode cX1_findMonth 162 = .ok (.goto (-66), 3) := by decide +kernel
theorem dX1_findMonth_165 : decode cX1_findMonth 165 = .ok (.iconst (-1), 1) := by decide +kernel
theorem dX1_findMonth_166 : decode cX1_findMonth 166 = .ok (.ireturn, 1) := by decide +kernel
theorem dX1_setLetters_0 : decode cX1_setLetters 0 = .ok (.aload_n 0, 1) := by decide +kernel
theorem dX1_setLetters_1 : decode cX1_setLetters 1 = .ok (.getfield 48, 3) := by decide +kernel
theorem dX1_setLetters_4 : decode cX1_setLetters 4 = .ok (.getfield 70, 3) := by decide +kernel
theorem dX1_setLetters_7 : decode cX1_setLetters 7 = .ok (.iload_n 1, 1) := by decide +kernel
theorem dX1_setLetters_8 : decode cX1_setLetters 8 = .ok (.aaload, 1) := by decide +kernel
theorem dX1_setLetters_9 : decode cX1_setLetters 9 = .ok (.astore 4, 2) := by decide +kernel
theorem dX1_setLetters_11 : decode cX1_setLetters 11 = .ok (.aload_n 0, 1) := by decide +kernel
theorem dX1_setLetters_12 : decode cX1_setLetters 12 = .ok (.getfield 48, 3) := by decide +kernel
theorem dX1_setLetters_15 : decode cX1_setLetters 15 = .ok (.getfield 70, 3) := by decide +kernel
theorem dX1_setLetters_18 : decode cX1_setLetters 18 = .ok (.iload_n 2, 1) := by decide +kernel
theorem dX1_setLetters_19 : decode cX1_setLetters 19 = .ok (.aaload, 1) := by decide +kernel
theorem dX1_setLetters_20 : decode cX1_setLetters 20 = .ok (.astore 5, 2) := by decide +kernel
theorem dX1_setLetters_22 : decode cX1_setLetters 22 = .ok (.aload_n 0, 1) := by decide +kernel
theorem dX1_setLetters_23 : decode cX1_setLetters 23 = .ok (.getfield 12, 3) := by decide +kernel
theorem dX1_setLetters_26 : decode cX1_setLetters 26 = .ok (.getfield 139, 3) := by decide +kernel
theorem dX1_setLetters_29 : decode cX1_setLetters 29 = .ok (.astore 6, 2) := by decide +kernel
theorem dX1_setLetters_31 : decode cX1_setLetters 31 = .ok (.aload 6, 2) := by decide +kernel
theorem dX1_setLetters_33 : decode cX1_setLetters 33 = .ok (.iconst 0, 1) := by decide +kernel
theorem dX1_setLetters_34 : decode cX1_setLetters 34 = .ok (.iload_n 3, 1) := by decide +kernel
theorem dX1_setLetters_35 : decode cX1_setLetters 35 = .ok (.iastore, 1) := by decide +kernel
theorem dX1_setLetters_36 : decode cX1_setLetters 36 = .ok (.aload 6, 2) := by decide +kernel
theorem dX1_setLetters_38 : decode cX1_setLetters 38 = .ok (.iconst 1, 1) := by decide +kernel
theorem dX1_setLetters_39 : decode cX1_setLetters 39 = .ok (.aload 4, 2) := by decide +kernel
theorem dX1_setLetters_41 : decode cX1_setLetters 41 = .ok (.iconst 1, 1) := by decide +kernel
theorem dX1_setLetters_42 : decode cX1_setLetters 42 = .ok (.invokevirtual 142, 3) := by decide +kernel
theorem dX1_setLetters_45 : decode cX1_setLetters 45 = .ok (.iastore, 1) := by decide +kernel
theorem dX1_setLetters_46 : decode cX1_setLetters 46 = .ok (.aload 6, 2) := by decide +kernel
theorem dX1_setLetters_48 : decode cX1_setLetters 48 = .ok (.iconst 2, 1) := by decide +kernel
theorem dX1_setLetters_49 : decode cX1_setLetters 49 = .ok (.aload 4, 2) := by decide +kernel
theorem dX1_setLetters_51 : decode cX1_setLetters 51 = .ok (.iconst 2, 1) := by decide +kernel
theorem dX1_setLetters_52 : decode cX1_setLetters 52 = .ok (.invokevirtual 142, 3) := by decide +kernel
theorem dX1_setLetters_55 : decode cX1_setLetters 55 = .ok (.iastore, 1) := by decide +kernel
theorem dX1_setLetters_56 : decode cX1_setLetters 56 = .ok (.aload 6, 2) := by decide +kernel
theorem dX1_setLetters_58 : decode cX1_setLetters 58 = .ok (.iconst 3, 1) := by decide +kernel
theorem dX1_setLetters_59 : decode cX1_setLetters 59 = .ok (.aload_n 0, 1) := by decide +kernel
theorem dX1_setLetters_60 : decode cX1_setLetters 60 = .ok (.getfield 48, 3) := by decide +kernel
theorem dX1_setLetters_63 : decode cX1_setLetters 63 = .ok (.iload_n 1, 1) := by decide +kernel
theorem dX1_setLetters_64 : decode cX1_setLetters 64 = .ok (.invokevirtual 145, 3) := by decide +kernel
theorem dX1_setLetters_67 : decode cX1_setLetters 67 = .ok (.aload_n 0, 1) := by decide +kernel
theorem dX1_setLetters_68 : decode cX1_setLetters 68 = .ok (.getfield 48, 3) := by decide +kernel
theorem dX1_setLetters_71 : decode cX1_setLetters 71 = .ok (.iload_n 1, 1) := by decide +kernel
theorem dX1_setLetters_72 : decode cX1_setLetters 72 = .ok (.invokevirtual 86, 3) := by decide +kernel
theorem dX1_setLetters_75 : decode cX1_setLetters 75 = .ok (.if_icmp .ne 7, 3) := by decide +kernel
theorem dX1_setLetters_78 : decode cX1_setLetters 78 = .ok (.iconst 1, 1) := by decide +kernel
theorem dX1_setLetters_79 : decode cX1_setLetters 79 = .ok (.goto 4, 3) := by decide +kernel
theorem dX1_setLetters_82 : decode cX1_setLetters 82 = .ok (.iconst 0, 1) := by decide +kernel
theorem dX1_setLetters_83 : decode cX1_setLetters 83 = .ok (.iastore, 1) := by decide +kernel
theorem dX1_setLetters_84 : decode cX1_setLetters 84 = .ok (.aload 6, 2) := by decide +kernel
theorem dX1_setLetters_86 : decode cX1_setLetters 86 = .ok (.iconst 4, 1) := by decide +kernel
theorem dX1_setLetters_87 : decode cX1_setLetters 87 = .ok (.aload 5, 2) := by decide +kernel
theorem dX1_setLetters_89 : decode cX1_setLetters 89 = .ok (.getfield 103, 3) := by decide +kernel
theorem dX1_setLetters_92 : decode cX1_setLetters 92 = .ok (.iconst 3, 1) := by decide +kernel
theorem dX1_setLetters_93 : decode cX1_setLetters 93 = .ok (.if_icmp .eq 12, 3) := by decide +kernel
theorem dX1_setLetters_96 : decode cX1_setLetters 96 = .ok (.aload 5, 2) := by decide +kernel
theorem dX1_setLetters_98 : decode cX1_setLetters 98 = .ok (.getfield 103, 3) := by decide +kernel
theorem dX1_setLetters_101 : decode cX1_setLetters 101 = .ok (.iconst 4, 1) := by decide +kernel
theorem dX1_setLetters_102 : decode cX1_setLetters 102 = .ok (.if_icmp .ne 7, 3) := by decide +kernel
theorem dX1_setLetters_105 : decode cX1_setLetters 105 = .ok (.iconst 1, 1) := by decide +kernel
theorem dX1_setLetters_106 : decode cX1_setLetters 106 = .ok (.goto 4, 3) := by decide +kernel
theorem dX1_setLetters_109 : decode cX1_setLetters 109 = .ok (.iconst 0, 1) := by decide +kernel
theorem dX1_setLetters_110 : decode cX1_setLetters 110 = .ok (.iastore, 1) := by decide +kernel
theorem dX1_setLetters_111 : decode cX1_setLetters 111 = .ok (.aload 6, 2) := by decide +kernel
theorem dX1_setLetters_113 : decode cX1_setLetters 113 = .ok (.iconst 5, 1) := by decide +kernel
theorem dX1_setLetters_114 : decode cX1_setLetters 114 = .ok (.aload 4, 2) := by decide +kernel
theorem dX1_setLetters_116 : decode cX1_setLetters 116 = .ok (.getfield 148, 3) := by decide +kernel
theorem dX1_setLetters_119 : decode cX1_setLetters 119 = .ok (.iastore, 1) := by decide +kernel
theorem dX1_setLetters_120 : decode cX1_setLetters 120 = .ok (.aload 6, 2) := by decide +kernel
theorem dX1_setLetters_122 : decode cX1_setLetters 122 = .ok (.bipush 6, 2) := by decide +kernel
theorem dX1_setLetters_124 : decode cX1_setLetters 124 = .ok (.aload_n 0, 1) := by decide +kernel
theorem dX1_setLetters_125 : decode cX1_setLetters 125 = .ok (.getfield 48, 3) := by decide +kernel
theorem dX1_setLetters_128 : decode cX1_setLetters 128 = .ok (.getfield 151, 3) := by decide +kernel
theorem dX1_setLetters_131 : decode cX1_setLetters 131 = .ok (.iastore, 1) := by decide +kernel
theorem dX1_setLetters_132 : decode cX1_setLetters 132 = .ok (.aload 6, 2) := by decide +kernel
theorem dX1_setLetters_134 : decode cX1_setLetters 134 = .ok (.bipush 7, 2) := by decide +kernel
theorem dX1_setLetters_136 : decode cX1_setLetters 136 = .ok (.iconst 0, 1) := by decide +kernel
theorem dX1_setLetters_137 : decode cX1_setLetters 137 = .ok (.iastore, 1) := by decide +kernel
theorem dX1_setLetters_138 : decode cX1_setLetters 138 = .ok (.aload 6, 2) := by decide +kernel
theorem dX1_setLetters_140 : decode cX1_setLetters 140 = .ok (.bipush 8, 2) := by decide +kernel
theorem dX1_setLetters_142 : decode cX1_setLetters 142 = .ok (.aload 4, 2) := by decide +kernel
theorem dX1_setLetters_144 : decode cX1_setLetters 144 = .ok (.getfield 136, 3) := by decide +kernel
theorem dX1_setLetters_147 : decode cX1_setLetters 147 = .ok (.aload 5, 2) := by decide +kernel
theorem dX1_setLetters_149 : decode cX1_setLetters 149 = .ok (.getfield 136, 3) := by decide +kernel
theorem dX1_setLetters_152 : decode cX1_setLetters 152 = .ok (.isub, 1) := by decide +kernel
theorem dX1_setLetters_153 : decode cX1_setLetters 153 = .ok (.iastore, 1) := by decide +kernel
theorem dX1_setLetters_154 : decode cX1_setLetters 154 = .ok (.aload 6, 2) := by decide +kernel
theorem dX1_setLetters_156 : decode cX1_setLetters 156 = .ok (.bipush 9, 2) := by decide +kernel
theorem dX1_setLetters_158 : decode cX1_setLetters 158 = .ok (.iload_n 1, 1) := by decide +kernel
theorem dX1_setLetters_159 : decode cX1_setLetters 159 = .ok (.iload_n 2, 1) := by decide +kernel
theorem dX1_setLetters_160 : decode cX1_setLetters 160 = .ok (.isub, 1) := by decide +kernel
theorem dX1_setLetters_161 : decode cX1_setLetters 161 = .ok (.iconst 1, 1) := by decide +kernel
theorem dX1_setLetters_162 : decode cX1_setLetters 162 = .ok (.iadd, 1) := by decide +kernel
theorem dX1_setLetters_163 : decode cX1_setLetters 163 = .ok (.iastore, 1) := by decide +kernel
theorem dX1_setLetters_164 : decode cX1_setLetters 164 = .ok (.aload 6, 2) := by decide +kernel
theorem dX1_setLetters_166 : decode cX1_setLetters 166 = .ok (.bipush 10, 2) := by decide +kernel
theorem dX1_setLetters_168 : decode cX1_setLetters 168 = .ok (.aload 4, 2) := by decide +kernel
theorem dX1_setLetters_170 : decode cX1_setLetters 170 = .ok (.getfield 154, 3) := by decide +kernel
theorem dX1_setLetters_173 : decode cX1_setLetters 173 = .ok (.iastore, 1) := by decide +kernel
theorem dX1_setLetters_174 : decode cX1_setLetters 174 = .ok (.aload 6, 2) := by decide +kernel
theorem dX1_setLetters_176 : decode cX1_setLetters 176 = .ok (.bipush 11, 2) := by decide +kernel
theorem dX1_setLetters_178 : decode cX1_setLetters 178 = .ok (.aload_n 0, 1) := by decide +kernel
theorem dX1_setLetters_179 : decode cX1_setLetters 179 = .ok (.getfield 37, 3) := by decide +kernel
theorem dX1_setLetters_182 : decode cX1_setLetters 182 = .ok (.aload 4, 2) := by decide +kernel
theorem dX1_setLetters_184 : decode cX1_setLetters 184 = .ok (.getfield 83, 3) := by decide +kernel
theorem dX1_setLetters_187 : decode cX1_setLetters 187 = .ok (.iaload, 1) := by decide +kernel
theorem dX1_setLetters_188 : decode cX1_setLetters 188 = .ok (.iastore, 1) := by decide +kernel
theorem dX1_setLetters_189 : decode cX1_setLetters 189 = .ok (.aload 6, 2) := by decide +kernel
theorem dX1_setLetters_191 : decode cX1_setLetters 191 = .ok (.bipush 12, 2) := by decide +kernel
theorem dX1_setLetters_193 : decode cX1_setLetters 193 = .ok (.aload_n 0, 1) := by decide +kernel
theorem dX1_setLetters_194 : decode cX1_setLetters 194 = .ok (.getfield 37, 3) := by decide +kernel
theorem dX1_setLetters_197 : decode cX1_setLetters 197 = .ok (.aload_n 0, 1) := by decide +kernel
theorem dX1_setLetters_198 : decode cX1_setLetters 198 = .ok (.getfield 48, 3) := by decide +kernel
theorem dX1_setLetters_201 : decode cX1_setLetters 201 = .ok (.iload_n 2, 1) := by decide +kernel
theorem dX1_setLetters_202 : decode cX1_setLetters 202 = .ok (.invokevirtual 86, 3) := by decide +kernel
theorem dX1_setLetters_205 : decode cX1_setLetters 205 = .ok (.iaload, 1) := by decide +kernel
theorem dX1_setLetters_206 : decode cX1_setLetters 206 = .ok (.iastore, 1) := by decide +kernel
theorem dX1_setLetters_207 : decode cX1_setLetters 207 = .ok (.return_, 1) := by decide +kernel
theorem dX1_askedLand_0 : decode cX1_askedLand 0 = .ok (.aload_n 0, 1) := by decide +kernel
theorem dX1_askedLand_1 : decode cX1_askedLand 1 = .ok (.iload_n 1, 1) := by decide +kernel
theorem dX1_askedLand_2 : decode cX1_askedLand 2 = .ok (.iload_n 2, 1) := by decide +kernel
theorem dX1_askedLand_3 : decode cX1_askedLand 3 = .ok (.iload_n 3, 1) := by decide +kernel
theorem dX1_askedLand_4 : decode cX1_askedLand 4 = .ok (.invokevirtual 155, 3) := by decide +kernel
theorem dX1_askedLand_7 : decode cX1_askedLand 7 = .ok (.istore 4, 2) := by decide +kernel
theorem dX1_askedLand_9 : decode cX1_askedLand 9 = .ok (.iload 4, 2) := by decide +kernel
theorem dX1_askedLand_11 : decode cX1_askedLand 11 = .ok (.bipush (-2), 2) := by decide +kernel
theorem dX1_askedLand_13 : decode cX1_askedLand 13 = .ok (.if_icmp .ne 10, 3) := by decide +kernel
theorem dX1_askedLand_16 : decode cX1_askedLand 16 = .ok (.aload_n 0, 1) := by decide +kernel
theorem dX1_askedLand_17 : decode cX1_askedLand 17 = .ok (.getfield 56, 3) := by decide +kernel
theorem dX1_askedLand_20 : decode cX1_askedLand 20 = .ok (.goto 5, 3) := by decide +kernel
theorem dX1_askedLand_23 : decode cX1_askedLand 23 = .ok (.iload 4, 2) := by decide +kernel
theorem dX1_askedLand_25 : decode cX1_askedLand 25 = .ok (.ireturn, 1) := by decide +kernel
theorem dX1_rulingLand_0 : decode cX1_rulingLand 0 = .ok (.iconst 0, 1) := by decide +kernel
theorem dX1_rulingLand_1 : decode cX1_rulingLand 1 = .ok (.istore 4, 2) := by decide +kernel
theorem dX1_rulingLand_3 : decode cX1_rulingLand 3 = .ok (.aload_n 0, 1) := by decide +kernel
theorem dX1_rulingLand_4 : decode cX1_rulingLand 4 = .ok (.getfield 56, 3) := by decide +kernel
theorem dX1_rulingLand_7 : decode cX1_rulingLand 7 = .ok (.istore 5, 2) := by decide +kernel
theorem dX1_rulingLand_9 : decode cX1_rulingLand 9 = .ok (.iconst 0, 1) := by decide +kernel
theorem dX1_rulingLand_10 : decode cX1_rulingLand 10 = .ok (.istore 6, 2) := by decide +kernel
theorem dX1_rulingLand_12 : decode cX1_rulingLand 12 = .ok (.iload 6, 2) := by decide +kernel
theorem dX1_rulingLand_14 : decode cX1_rulingLand 14 = .ok (.bipush 6, 2) := by decide +kernel
theorem dX1_rulingLand_16 : decode cX1_rulingLand 16 = .ok (.if_icmp .ge 56, 3) := by decide +kernel
theorem dX1_rulingLand_19 : decode cX1_rulingLand 19 = .ok (.iload 4, 2) := by decide +kernel
theorem dX1_rulingLand_21 : decode cX1_rulingLand 21 = .ok (.iconst 1, 1) := by decide +kernel
theorem dX1_rulingLand_22 : decode cX1_rulingLand 22 = .ok (.iload 5, 2) := by decide +kernel
theorem dX1_rulingLand_24 : decode cX1_rulingLand 24 = .ok (.ishl, 1) := by decide +kernel
theorem dX1_rulingLand_25 : decode cX1_rulingLand 25 = .ok (.ior, 1) := by decide +kernel
theorem dX1_rulingLand_26 : decode cX1_rulingLand 26 = .ok (.istore 4, 2) := by decide +kernel
theorem dX1_rulingLand_28 : decode cX1_rulingLand 28 = .ok (.aload_n 0, 1) := by decide +kernel
theorem dX1_rulingLand_29 : decode cX1_rulingLand 29 = .ok (.iload 5, 2) := by decide +kernel
theorem dX1_rulingLand_31 : decode cX1_rulingLand 31 = .ok (.iload_n 1, 1) := by decide +kernel
theorem dX1_rulingLand_32 : decode cX1_rulingLand 32 = .ok (.iload_n 2, 1) := by decide +kernel
theorem dX1_rulingLand_33 : decode cX1_rulingLand 33 = .ok (.iload_n 3, 1) := by decide +kernel
theorem dX1_rulingLand_34 : decode cX1_rulingLand 34 = .ok (.invokevirtual 158, 3) := by decide +kernel
theorem dX1_rulingLand_37 : decode cX1_rulingLand 37 = .ok (.istore 7, 2) := by decide +kernel
theorem dX1_rulingLand_39 : decode cX1_rulingLand 39 = .ok (.iload 7, 2) := by decide +kernel
theorem dX1_rulingLand_41 : decode cX1_rulingLand 41 = .ok (.iload 5, 2) := by decide +kernel
theorem dX1_rulingLand_43 : decode cX1_rulingLand 43 = .ok (.if_icmp .ne 6, 3) := by decide +kernel
theorem dX1_rulingLand_46 : decode cX1_rulingLand 46 = .ok (.iload 5, 2) := by decide +kernel
theorem dX1_rulingLand_48 : decode cX1_rulingLand 48 = .ok (.ireturn, 1) := by decide +kernel
theorem dX1_rulingLand_49 : decode cX1_rulingLand 49 = .ok (.iload 4, 2) := by decide +kernel
theorem dX1_rulingLand_51 : decode cX1_rulingLand 51 = .ok (.iload 7, 2) := by decide +kernel
theorem dX1_rulingLand_53 : decode cX1_rulingLand 53 = .ok (.iushr, 1) := by decide +kernel
theorem dX1_rulingLand_54 : decode cX1_rulingLand 54 = .ok (.iconst 1, 1) := by decide +kernel
theorem dX1_rulingLand_55 : decode cX1_rulingLand 55 = .ok (.iand, 1) := by decide +kernel
theorem dX1_rulingLand_56 : decode cX1_rulingLand 56 = .ok (.ifCond .eq 6, 3) := by decide +kernel
theorem dX1_rulingLand_59 : decode cX1_rulingLand 59 = .ok (.bipush (-2), 2) := by decide +kernel
theorem dX1_rulingLand_61 : decode cX1_rulingLand 61 = .ok (.ireturn, 1) := by decide +kernel
theorem dX1_rulingLand_62 : decode cX1_rulingLand 62 = .ok (.iload 7, 2) := by decide +kernel
theorem dX1_rulingLand_64 : decode cX1_rulingLand 64 = .ok (.istore 5, 2) := by decide +kernel
theorem dX1_rulingLand_66 : decode cX1_rulingLand 66 = .ok (.iinc 6 1, 3) := by decide +kernel
theorem dX1_rulingLand_69 : decode cX1_rulingLand 69 = .ok (.goto (-57), 3) := by decide +kernel
theorem dX1_rulingLand_72 : decode cX1_rulingLand 72 = .ok (.bipush (-2), 2) := by decide +kernel
theorem dX1_rulingLand_74 : decode cX1_rulingLand 74 = .ok (.ireturn, 1) := by decide +kernel
theorem dX1_landSentTo_0 : decode cX1_landSentTo 0 = .ok (.aload_n 0, 1) := by decide +kernel
theorem dX1_landSentTo_1 : decode cX1_landSentTo 1 = .ok (.getfield 44, 3) := by decide +kernel
theorem dX1_landSentTo_4 : decode cX1_landSentTo 4 = .ok (.iload_n 1, 1) := by decide +kernel
theorem dX1_landSentTo_5 : decode cX1_landSentTo 5 = .ok (.aaload, 1) := by decide +kernel
theorem dX1_landSentTo_6 : decode cX1_landSentTo 6 = .ok (.iload_n 3, 1) := by decide +kernel
theorem dX1_landSentTo_7 : decode cX1_landSentTo 7 = .ok (.iaload, 1) := by decide +kernel
theorem dX1_landSentTo_8 : decode cX1_landSentTo 8 = .ok (.tableswitch 112 1 5 #[36, 49, 78, 96, 104], 36) := by decide +kernel
theorem dX1_landSentTo_44 : decode cX1_landSentTo 44 = .ok (.aload_n 0, 1) := by decide +kernel
theorem dX1_landSentTo_45 : decode cX1_landSentTo 45 = .ok (.getfield 48, 3) := by decide +kernel
theorem dX1_landSentTo_48 : decode cX1_landSentTo 48 = .ok (.getfield 70, 3) := by decide +kernel
theorem dX1_landSentTo_51 : decode cX1_landSentTo 51 = .ok (.iload_n 2, 1) := by decide +kernel
theorem dX1_landSentTo_52 : decode cX1_landSentTo 52 = .ok (.aaload, 1) := by decide +kernel
theorem dX1_landSentTo_53 : decode cX1_landSentTo 53 = .ok (.getfield 154, 3) := by decide +kernel
theorem dX1_landSentTo_56 : decode cX1_landSentTo 56 = .ok (.ireturn, 1) := by decide +kernel
theorem dX1_landSentTo_57 : decode cX1_landSentTo 57 = .ok (.iload_n 2, 1) := by decide +kernel
theorem dX1_landSentTo_58 : decode cX1_landSentTo 58 = .ok (.ifCond .le 20, 3) := by decide +kernel
theorem dX1_landSentTo_61 : decode cX1_landSentTo 61 = .ok (.aload_n 0, 1) := by decide +kernel
theorem dX1_landSentTo_62 : decode cX1_landSentTo 62 = .ok (.getfield 48, 3) := by decide +kernel
theorem dX1_landSentTo_65 : decode cX1_landSentTo 65 = .ok (.getfield 70, 3) := by decide +kernel
theorem dX1_landSentTo_68 : decode cX1_landSentTo 68 = .ok (.iload_n 2, 1) := by decide +kernel
theorem dX1_landSentTo_69 : decode cX1_landSentTo 69 = .ok (.iconst 1, 1) := by decide +kernel
theorem dX1_landSentTo_70 : decode cX1_landSentTo 70 = .ok (.isub, 1) := by decide +kernel
theorem dX1_landSentTo_71 : decode cX1_landSentTo 71 = .ok (.aaload, 1) := by decide +kernel
theorem dX1_landSentTo_72 : decode cX1_landSentTo 72 = .ok (.getfield 154, 3) := by decide +kernel
theorem dX1_landSentTo_75 : decode cX1_landSentTo 75 = .ok (.goto 10, 3) := by decide +kernel
theorem dX1_landSentTo_78 : decode cX1_landSentTo 78 = .ok (.aload_n 0, 1) := by decide +kernel
theorem dX1_landSentTo_79 : decode cX1_landSentTo 79 = .ok (.getfield 48, 3) := by decide +kernel
theorem dX1_landSentTo_82 : decode cX1_landSentTo 82 = .ok (.getfield 162, 3) := by decide +kernel
theorem dX1_landSentTo_85 : decode cX1_landSentTo 85 = .ok (.ireturn, 1) := by decide +kernel
theorem dX1_landSentTo_86 : decode cX1_landSentTo 86 = .ok (.aload_n 0, 1) := by decide +kernel
theorem dX1_landSentTo_87 : decode cX1_landSentTo 87 = .ok (.getfield 37, 3) := by decide +kernel
theorem dX1_landSentTo_90 : decode cX1_landSentTo 90 = .ok (.aload_n 0, 1) := by decide +kernel
theorem dX1_landSentTo_91 : decode cX1_landSentTo 91 = .ok (.getfield 48, 3) := by decide +kernel
theorem dX1_landSentTo_94 : decode cX1_landSentTo 94 = .ok (.getfield 70, 3) := by decide +kernel
theorem dX1_landSentTo_97 : decode cX1_landSentTo 97 = .ok (.iload_n 2, 1) := by decide +kernel
theorem dX1_landSentTo_98 : decode cX1_landSentTo 98 = .ok (.aaload, 1) := by decide +kernel
theorem dX1_landSentTo_99 : decode cX1_landSentTo 99 = .ok (.getfield 83, 3) := by decide +kernel
theorem dX1_landSentTo_102 : decode cX1_landSentTo 102 = .ok (.iaload, 1) := by decide +kernel
theorem dX1_landSentTo_103 : decode cX1_landSentTo 103 = .ok (.ireturn, 1) := by decide +kernel
theorem dX1_landSentTo_104 : decode cX1_landSentTo 104 = .ok (.aload_n 0, 1) := by decide +kernel
theorem dX1_landSentTo_105 : decode cX1_landSentTo 105 = .ok (.getfield 37, 3) := by decide +kernel
theorem dX1_landSentTo_108 : decode cX1_landSentTo 108 = .ok (.iload 4, 2) := by decide +kernel
theorem dX1_landSentTo_110 : decode cX1_landSentTo 110 = .ok (.iaload, 1) := by decide +kernel
theorem dX1_landSentTo_111 : decode cX1_landSentTo 111 = .ok (.ireturn, 1) := by decide +kernel
theorem dX1_landSentTo_112 : decode cX1_landSentTo 112 = .ok (.aload_n 0, 1) := by decide +kernel
theorem dX1_landSentTo_113 : decode cX1_landSentTo 113 = .ok (.getfield 48, 3) := by decide +kernel
theorem dX1_landSentTo_116 : decode cX1_landSentTo 116 = .ok (.getfield 162, 3) := by decide +kernel
theorem dX1_landSentTo_119 : decode cX1_landSentTo 119 = .ok (.ireturn, 1) := by decide +kernel
theorem dX1_landSentTo_120 : decode cX1_landSentTo 120 = .ok (.iload_n 1, 1) := by decide +kernel
theorem dX1_landSentTo_121 : decode cX1_landSentTo 121 = .ok (.ireturn, 1) := by decide +kernel
theorem dX2_init_0 : decode cX2_init 0 = .ok (.aload_n 0, 1) := by decide +kernel
theorem dX2_init_1 : decode cX2_init 1 = .ok (.invokespecial 3, 3) := by decide +kernel
theorem dX2_init_4 : decode cX2_init 4 = .ok (.aload_n 0, 1) := by decide +kernel
theorem dX2_init_5 : decode cX2_init 5 = .ok (.bipush 21, 2) := by decide +kernel
theorem dX2_init_7 : decode cX2_init 7 = .ok (.newarray .int, 2) := by decide +kernel
theorem dX2_init_9 : decode cX2_init 9 = .ok (.putfield 9, 3) := by decide +kernel
theorem dX2_init_12 : decode cX2_init 12 = .ok (.aload_n 0, 1) := by decide +kernel
theorem dX2_init_13 : decode cX2_init 13 = .ok (.sipush 1260, 3) := by decide +kernel
theorem dX2_init_16 : decode cX2_init 16 = .ok (.newarray .int, 2) := by decide +kernel
theorem dX2_init_18 : decode cX2_init 18 = .ok (.putfield 15, 3) := by decide +kernel
theorem dX2_init_21 : decode cX2_init 21 = .ok (.aload_n 0, 1) := by decide +kernel
theorem dX2_init_22 : decode cX2_init 22 = .ok (.bipush 21, 2) := by decide +kernel
theorem dX2_init_24 : decode cX2_init 24 = .ok (.newarray .int, 2) := by decide +kernel
theorem dX2_init_26 : decode cX2_init 26 = .ok (.putfield 18, 3) := by decide +kernel
theorem dX2_init_29 : decode cX2_init 29 = .ok (.aload_n 0, 1) := by decide +kernel
theorem dX2_init_30 : decode cX2_init 30 = .ok (.bipush 21, 2) := by decide +kernel
theorem dX2_init_32 : decode cX2_init 32 = .ok (.newarray .int, 2) := by decide +kernel
theorem dX2_init_34 : decode cX2_init 34 = .ok (.putfield 21, 3) := by decide +kernel
theorem dX2_init_37 : decode cX2_init 37 = .ok (.aload_n 0, 1) := by decide +kernel
theorem dX2_init_38 : decode cX2_init 38 = .ok (.aload_n 1, 1) := by decide +kernel
theorem dX2_init_39 : decode cX2_init 39 = .ok (.putfield 24, 3) := by decide +kernel
theorem dX2_init_42 : decode cX2_init 42 = .ok (.return_, 1) := by decide +kernel
theorem dX2_possibleOwners_0 : decode cX2_possibleOwners 0 = .ok (.aload_n 0, 1) := by decide +kernel
theorem dX2_possibleOwners_1 : decode cX2_possibleOwners 1 = .ok (.invokevirtual 28, 3) := by decide +kernel
theorem dX2_possibleOwners_4 : decode cX2_possibleOwners 4 = .ok (.aload_n 0, 1) := by decide +kernel
theorem dX2_possibleOwners_5 : decode cX2_possibleOwners 5 = .ok (.getfield 24, 3) := by decide +kernel
theorem dX2_possibleOwners_8 : decode cX2_possibleOwners 8 = .ok (.getfield 31, 3) := by decide +kernel
theorem dX2_possibleOwners_11 : decode cX2_possibleOwners 11 = .ok (.getfield 37, 3) := by decide +kernel
theorem dX2_possibleOwners_14 : decode cX2_possibleOwners 14 = .ok (.istore_n 1, 1) := by decide +kernel
theorem dX2_possibleOwners_15 : decode cX2_possibleOwners 15 = .ok (.iconst 0, 1) := by decide +kernel
theorem dX2_possibleOwners_16 : decode cX2_possibleOwners 16 = .ok (.istore_n 2, 1) := by decide +kernel
theorem dX2_possibleOwners_17 : decode cX2_possibleOwners 17 = .ok (.iconst 0, 1) := by decide +kernel
theorem dX2_possibleOwners_18 : decode cX2_possibleOwners 18 = .ok (.istore_n 3, 1) := by decide +kernel
theorem dX2_possibleOwners_19 : decode cX2_possibleOwners 19 = .ok (.iload_n 3, 1) := by decide +kernel
theorem dX2_possibleOwners_20 : decode cX2_possibleOwners 20 = .ok (.bipush 21, 2) := by decide +kernel
theorem dX2_possibleOwners_22 : decode cX2_possibleOwners 22 = .ok (.if_icmp .ge 38, 3) := by decide +kernel
theorem dX2_possibleOwners_25 : decode cX2_possibleOwners 25 = .ok (.aload_n 0, 1) := by decide +kernel
theorem dX2_possibleOwners_26 : decode cX2_possibleOwners 26 = .ok (.getfield 9, 3) := by decide +kernel
theorem dX2_possibleOwners_29 : decode cX2_possibleOwners 29 = .ok (.iload_n 1, 1) := by decide +kernel
theorem dX2_possibleOwners_30 : decode cX2_possibleOwners 30 = .ok (.iaload, 1) := by decide +kernel
theorem dX2_possibleOwners_31 : decode cX2_possibleOwners 31 = .ok (.iload_n 3, 1) := by decide +kernel
theorem dX2_possibleOwners_32 : decode cX2_possibleOwners 32 = .ok (.iushr, 1) := by decide +kernel
theorem dX2_possibleOwners_33 : decode cX2_possibleOwners 33 = .ok (.iconst 1, 1) := by decide +kernel
theorem dX2_possibleOwners_34 : decode cX2_possibleOwners 34 = .ok (.iand, 1) := by decide +kernel
theorem dX2_possibleOwners_35 : decode cX2_possibleOwners 35 = .ok (.ifCond .eq 19, 3) := by decide +kernel
theorem dX2_possibleOwners_38 : decode cX2_possibleOwners 38 = .ok (.iload_n 2, 1) := by decide +kernel
theorem dX2_possibleOwners_39 : decode cX2_possibleOwners 39 = .ok (.iconst 1, 1) := by decide +kernel
theorem dX2_possibleOwners_40 : decode cX2_possibleOwners 40 = .ok (.aload_n 0, 1) := by decide +kernel
theorem dX2_possibleOwners_41 : decode cX2_possibleOwners 41 = .ok (.getfield 24, 3) := by decide +kernel
theorem dX2_possibleOwners_44 : decode cX2_possibleOwners 44 = .ok (.iload_n 3, 1) := by decide +kernel
theorem dX2_possibleOwners_45 : decode cX2_possibleOwners 45 = .ok (.iconst 1, 1) := by decide +kernel
theorem dX2_possibleOwners_46 : decode cX2_possibleOwners 46 = .ok (.isub, 1) := by decide +kernel
theorem dX2_possibleOwners_47 : decode cX2_possibleOwners 47 = .ok (.iload_n 1, 1) := by decide +kernel
theorem dX2_possibleOwners_48 : decode cX2_possibleOwners 48 = .ok (.invokevirtual 43, 3) := by decide +kernel
theorem dX2_possibleOwners_51 : decode cX2_possibleOwners 51 = .ok (.ishl, 1) := by decide +kernel
theorem dX2_possibleOwners_52 : decode cX2_possibleOwners 52 = .ok (.ior, 1) := by decide +kernel
theorem dX2_possibleOwners_53 : decode cX2_possibleOwners 53 = .ok (.istore_n 2, 1) := by decide +kernel
theorem dX2_possibleOwners_54 : decode cX2_possibleOwners 54 = .ok (.iinc 3 1, 3) := by decide +kernel
theorem dX2_possibleOwners_57 : decode cX2_possibleOwners 57 = .ok (.goto (-38), 3) := by decide +kernel
theorem dX2_possibleOwners_60 : decode cX2_possibleOwners 60 = .ok (.iload_n 2, 1) := by decide +kernel
theorem dX2_possibleOwners_61 : decode cX2_possibleOwners 61 = .ok (.ireturn, 1) := by decide +kernel
theorem dX2_decisivePassings_0 : decode cX2_decisivePassings 0 = .ok (.aload_n 0, 1) := by decide +kernel
theorem dX2_decisivePassings_1 : decode cX2_decisivePassings 1 = .ok (.invokevirtual 28, 3) := by decide +kernel
theorem dX2_decisivePassings_4 : decode cX2_decisivePassings 4 = .ok (.iconst 0, 1) := by decide +kernel
theorem dX2_decisivePassings_5 : decode cX2_decisivePassings 5 = .ok (.istore_n 1, 1) := by decide +kernel
theorem dX2_decisivePassings_6 : decode cX2_decisivePassings 6 = .ok (.iconst 0, 1) := by decide +kernel
theorem dX2_decisivePassings_7 : decode cX2_decisivePassings 7 = .ok (.istore_n 2, 1) := by decide +kernel
theorem dX2_decisivePassings_8 : decode cX2_decisivePassings 8 = .ok (.iload_n 2, 1) := by decide +kernel
theorem dX2_decisivePassings_9 : decode cX2_decisivePassings 9 = .ok (.aload_n 0, 1) := by decide +kernel
theorem dX2_decisivePassings_10 : decode cX2_decisivePassings 10 = .ok (.getfield 24, 3) := by decide +kernel
theorem dX2_decisivePassings_13 : decode cX2_decisivePassings 13 = .ok (.getfield 31, 3) := by decide +kernel
theorem dX2_decisivePassings_16 : decode cX2_decisivePassings 16 = .ok (.getfield 37, 3) := by decide +kernel
theorem dX2_decisivePassings_19 : decode cX2_decisivePassings 19 = .ok (.if_icmp .ge 23, 3) := by decide +kernel
theorem dX2_decisivePassings_22 : decode cX2_decisivePassings 22 = .ok (.aload_n 0, 1) := by decide +kernel
theorem dX2_decisivePassings_23 : decode cX2_decisivePassings 23 = .ok (.iload_n 2, 1) := by decide +kernel
theorem dX2_decisivePassings_24 : decode cX2_decisivePassings 24 = .ok (.invokevirtual 47, 3) := by decide +kernel
theorem dX2_decisivePassings_27 : decode cX2_decisivePassings 27 = .ok (.ifCond .eq 9, 3) := by decide +kernel
theorem dX2_decisivePassings_30 : decode cX2_decisivePassings 30 = .ok (.iload_n 1, 1) := by decide +kernel
theorem dX2_decisivePassings_31 : decode cX2_decisivePassings 31 = .ok (.iconst 1, 1) := by decide +kernel
theorem dX2_decisivePassings_32 : decode cX2_decisivePassings 32 = .ok (.iload_n 2, 1) := by decide +kernel
theorem dX2_decisivePassings_33 : decode cX2_decisivePassings 33 = .ok (.ishl, 1) := by decide +kernel
theorem dX2_decisivePassings_34 : decode cX2_decisivePassings 34 = .ok (.ior, 1) := by decide +kernel
theorem dX2_decisivePassings_35 : decode cX2_decisivePassings 35 = .ok (.istore_n 1, 1) := by decide +kernel
theorem dX2_decisivePassings_36 : decode cX2_decisivePassings 36 = .ok (.iinc 2 1, 3) := by decide +kernel
theorem dX2_decisivePassings_39 : decode cX2_decisivePassings 39 = .ok (.goto (-31), 3) := by decide +kernel
theorem dX2_decisivePassings_42 : decode cX2_decisivePassings 42 = .ok (.iload_n 1, 1) := by decide +kernel
theorem dX2_decisivePassings_43 : decode cX2_decisivePassings 43 = .ok (.ireturn, 1) := by decide +kernel
theorem dX2_spread_0 : decode cX2_spread 0 = .ok (.aload_n 0, 1) := by decide +kernel
theorem dX2_spread_1 : decode cX2_spread 1 = .ok (.getfield 9, 3) := by decide +kernel
theorem dX2_spread_4 : decode cX2_spread 4 = .ok (.iconst 0, 1) := by decide +kernel
theorem dX2_spread_5 : decode cX2_spread 5 = .ok (.iconst 1, 1) := by decide +kernel
theorem dX2_spread_6 : decode cX2_spread 6 = .ok (.iastore, 1) := by decide +kernel
theorem dX2_spread_7 : decode cX2_spread 7 = .ok (.iconst 0, 1) := by decide +kernel
theorem dX2_spread_8 : decode cX2_spread 8 = .ok (.istore_n 1, 1) := by decide +kernel
theorem dX2_spread_9 : decode cX2_spread 9 = .ok (.iload_n 1, 1) := by decide +kernel
theorem dX2_spread_10 : decode cX2_spread 10 = .ok (.aload_n 0, 1) := by decide +kernel
theorem dX2_spread_11 : decode cX2_spread 11 = .ok (.getfield 24, 3) := by decide +kernel
theorem dX2_spread_14 : decode cX2_spread 14 = .ok (.getfield 31, 3) := by decide +kernel
theorem dX2_spread_17 : decode cX2_spread 17 = .ok (.getfield 37, 3) := by decide +kernel
theorem dX2_spread_20 : decode cX2_spread 20 = .ok (.if_icmp .ge 143, 3) := by decide +kernel
theorem dX2_spread_23 : decode cX2_spread 23 = .ok (.aload_n 0, 1) := by decide +kernel
theorem dX2_spread_24 : decode cX2_spread 24 = .ok (.getfield 24, 3) := by decide +kernel
theorem dX2_spread_27 : decode cX2_spread 27 = .ok (.getfield 31, 3) := by decide +kernel
theorem dX2_spread_30 : decode cX2_spread 30 = .ok (.getfield 51, 3) := by decide +kernel
theorem dX2_spread_33 : decode cX2_spread 33 = .ok (.iload_n 1, 1) := by decide +kernel
theorem dX2_spread_34 : decode cX2_spread 34 = .ok (.aaload, 1) := by decide +kernel
theorem dX2_spread_35 : decode cX2_spread 35 = .ok (.astore_n 2, 1) := by decide +kernel
theorem dX2_spread_36 : decode cX2_spread 36 = .ok (.aload_n 0, 1) := by decide +kernel
theorem dX2_spread_37 : decode cX2_spread 37 = .ok (.getfield 9, 3) := by decide +kernel
theorem dX2_spread_40 : decode cX2_spread 40 = .ok (.iload_n 1, 1) := by decide +kernel
theorem dX2_spread_41 : decode cX2_spread 41 = .ok (.iconst 1, 1) := by decide +kernel
theorem dX2_spread_42 : decode cX2_spread 42 = .ok (.iadd, 1) := by decide +kernel
theorem dX2_spread_43 : decode cX2_spread 43 = .ok (.iconst 0, 1) := by decide +kernel
theorem dX2_spread_44 : decode cX2_spread 44 = .ok (.iastore, 1) := by decide +kernel
theorem dX2_spread_45 : decode cX2_spread 45 = .ok (.iconst 0, 1) := by decide +kernel
theorem dX2_spread_46 : decode cX2_spread 46 = .ok (.istore_n 3, 1) := by decide +kernel
theorem dX2_spread_47 : decode cX2_spread 47 = .ok (.iload_n 3, 1) := by decide +kernel
theorem dX2_spread_48 : decode cX2_spread 48 = .ok (.bipush 21, 2) := by decide +kernel
theorem dX2_spread_50 : decode cX2_spread 50 = .ok (.if_icmp .ge 107, 3) := by decide +kernel
theorem dX2_spread_53 : decode cX2_spread 53 = .ok (.aload_n 2, 1) := by decide +kernel
theorem dX2_spread_54 : decode cX2_spread 54 = .ok (.getfield 55, 3) := by decide +kernel
theorem dX2_spread_57 : decode cX2_spread 57 = .ok (.istore 4, 2) := by decide +kernel
theorem dX2_spread_59 : decode cX2_spread 59 = .ok (.aload_n 0, 1) := by decide +kernel
theorem dX2_spread_60 : decode cX2_spread 60 = .ok (.getfield 9, 3) := by decide +kernel
theorem dX2_spread_63 : decode cX2_spread 63 = .ok (.iload_n 1, 1) := by decide +kernel
theorem dX2_spread_64 : decode cX2_spread 64 = .ok (.iaload, 1) := by decide +kernel
theorem dX2_spread_65 : decode cX2_spread 65 = .ok (.iload_n 3, 1) := by decide +kernel
theorem dX2_spread_66 : decode cX2_spread 66 = .ok (.iushr, 1) := by decide +kernel
theorem dX2_spread_67 : decode cX2_spread 67 = .ok (.iconst 1, 1) := by decide +kernel
theorem dX2_spread_68 : decode cX2_spread 68 = .ok (.iand, 1) := by decide +kernel
theorem dX2_spread_69 : decode cX2_spread 69 = .ok (.ifCond .eq 82, 3) := by decide +kernel
theorem dX2_spread_72 : decode cX2_spread 72 = .ok (.iload 4, 2) := by decide +kernel
theorem dX2_spread_74 : decode cX2_spread 74 = .ok (.aload_n 2, 1) := by decide +kernel
theorem dX2_spread_75 : decode cX2_spread 75 = .ok (.getfield 60, 3) := by decide +kernel
theorem dX2_spread_78 : decode cX2_spread 78 = .ok (.if_icmp .gt 73, 3) := by decide +kernel
theorem dX2_spread_81 : decode cX2_spread 81 = .ok (.aload_n 0, 1) := by decide +kernel
theorem dX2_spread_82 : decode cX2_spread 82 = .ok (.getfield 24, 3) := by decide +kernel
theorem dX2_spread_85 : decode cX2_spread 85 = .ok (.iload_n 1, 1) := by decide +kernel
theorem dX2_spread_86 : decode cX2_spread 86 = .ok (.iload_n 3, 1) := by decide +kernel
theorem dX2_spread_87 : decode cX2_spread 87 = .ok (.iconst 1, 1) := by decide +kernel
theorem dX2_spread_88 : decode cX2_spread 88 = .ok (.isub, 1) := by decide +kernel
theorem dX2_spread_89 : decode cX2_spread 89 = .ok (.iload 4, 2) := by decide +kernel
theorem dX2_spread_91 : decode cX2_spread 91 = .ok (.invokevirtual 63, 3) := by decide +kernel
theorem dX2_spread_94 : decode cX2_spread 94 = .ok (.istore 5, 2) := by decide +kernel
theorem dX2_spread_96 : decode cX2_spread 96 = .ok (.aload_n 0, 1) := by decide +kernel
theorem dX2_spread_97 : decode cX2_spread 97 = .ok (.getfield 24, 3) := by decide +kernel
theorem dX2_spread_100 : decode cX2_spread 100 = .ok (.iload_n 1, 1) := by decide +kernel
theorem dX2_spread_101 : decode cX2_spread 101 = .ok (.iload 5, 2) := by decide +kernel
theorem dX2_spread_103 : decode cX2_spread 103 = .ok (.iload 4, 2) := by decide +kernel
theorem dX2_spread_105 : decode cX2_spread 105 = .ok (.invokevirtual 67, 3) := by decide +kernel
theorem dX2_spread_108 : decode cX2_spread 108 = .ok (.iconst 1, 1) := by decide +kernel
theorem dX2_spread_109 : decode cX2_spread 109 = .ok (.iadd, 1) := by decide +kernel
theorem dX2_spread_110 : decode cX2_spread 110 = .ok (.istore 6, 2) := by decide +kernel
theorem dX2_spread_112 : decode cX2_spread 112 = .ok (.aload_n 0, 1) := by decide +kernel
theorem dX2_spread_113 : decode cX2_spread 113 = .ok (.getfield 15, 3) := by decide +kernel
theorem dX2_spread_116 : decode cX2_spread 116 = .ok (.iload_n 1, 1) := by decide +kernel
theorem dX2_spread_117 : decode cX2_spread 117 = .ok (.bipush 21, 2) := by decide +kernel
theorem dX2_spread_119 : decode cX2_spread 119 = .ok (.imul, 1) := by decide +kernel
theorem dX2_spread_120 : decode cX2_spread 120 = .ok (.iload_n 3, 1) := by decide +kernel
theorem dX2_spread_121 : decode cX2_spread 121 = .ok (.iadd, 1) := by decide +kernel
theorem dX2_spread_122 : decode cX2_spread 122 = .ok (.iconst 3, 1) := by decide +kernel
theorem dX2_spread_123 : decode cX2_spread 123 = .ok (.imul, 1) := by decide +kernel
theorem dX2_spread_124 : decode cX2_spread 124 = .ok (.iload 4, 2) := by decide +kernel
theorem dX2_spread_126 : decode cX2_spread 126 = .ok (.iadd, 1) := by decide +kernel
theorem dX2_spread_127 : decode cX2_spread 127 = .ok (.iload 6, 2) := by decide +kernel
theorem dX2_spread_129 : decode cX2_spread 129 = .ok (.iastore, 1) := by decide +kernel
theorem dX2_spread_130 : decode cX2_spread 130 = .ok (.aload_n 0, 1) := by decide +kernel
theorem dX2_spread_131 : decode cX2_spread 131 = .ok (.getfield 9, 3) := by decide +kernel
theorem dX2_spread_134 : decode cX2_spread 134 = .ok (.iload_n 1, 1) := by decide +kernel
theorem dX2_spread_135 : decode cX2_spread 135 = .ok (.iconst 1, 1) := by decide +kernel
theorem dX2_spread_136 : decode cX2_spread 136 = .ok (.iadd, 1) := by decide +kernel
theorem dX2_spread_137 : decode cX2_spread 137 = .ok (.dup2, 1) := by decide +kernel
theorem dX2_spread_138 : decode cX2_spread 138 = .ok (.iaload, 1) := by decide +kernel
theorem dX2_spread_139 : decode cX2_spread 139 = .ok (.iconst 1, 1) := by decide +kernel
theorem dX2_spread_140 : decode cX2_spread 140 = .ok (.iload 6, 2) := by decide +kernel
theorem dX2_spread_142 : decode cX2_spread 142 = .ok (.ishl, 1) := by decide +kernel
theorem dX2_spread_143 : decode cX2_spread 143 = .ok (.ior, 1) := by decide +kernel
theorem dX2_spread_144 : decode cX2_spread 144 = .ok (.iastore, 1) := by decide +kernel
theorem dX2_spread_145 : decode cX2_spread 145 = .ok (.iinc 4 1, 3) := by decide +kernel
theorem dX2_spread_148 : decode cX2_spread 148 = .ok (.goto (-89), 3) := by decide +kernel
theorem dX2_spread_151 : decode cX2_spread 151 = .ok (.iinc 3 1, 3) := by decide +kernel
theorem dX2_spread_154 : decode cX2_spread 154 = .ok (.goto (-107), 3) := by decide +kernel
theorem dX2_spread_157 : decode cX2_spread 157 = .ok (.iinc 1 1, 3) := by decide +kernel
theorem dX2_spread_160 : decode cX2_spread 160 = .ok (.goto (-151), 3) := by decide +kernel
theorem dX2_spread_163 : decode cX2_spread 163 = .ok (.return_, 1) := by decide +kernel
theorem dX2_nextOf_0 : decode cX2_nextOf 0 = .ok (.aload_n 0, 1) := by decide +kernel
theorem dX2_nextOf_1 : decode cX2_nextOf 1 = .ok (.getfield 15, 3) := by decide +kernel
theorem dX2_nextOf_4 : decode cX2_nextOf 4 = .ok (.iload_n 1, 1) := by decide +kernel
theorem dX2_nextOf_5 : decode cX2_nextOf 5 = .ok (.bipush 21, 2) := by decide +kernel
theorem dX2_nextOf_7 : decode cX2_nextOf 7 = .ok (.imul, 1) := by decide +kernel
theorem dX2_nextOf_8 : decode cX2_nextOf 8 = .ok (.iload_n 2, 1) := by decide +kernel
theorem dX2_nextOf_9 : decode cX2_nextOf 9 = .ok (.iadd, 1) := by decide +kernel
theorem dX2_nextOf_10 : decode cX2_nextOf 10 = .ok (.iconst 3, 1) := by decide +kernel
theorem dX2_nextOf_11 : decode cX2_nextOf 11 = .ok (.imul, 1) := by decide +kernel
theorem dX2_nextOf_12 : decode cX2_nextOf 12 = .ok (.iload_n 3, 1) := by decide +kernel
theorem dX2_nextOf_13 : decode cX2_nextOf 13 = .ok (.iadd, 1) := by decide +kernel
theorem dX2_nextOf_14 : decode cX2_nextOf 14 = .ok (.iaload, 1) := by decide +kernel
theorem dX2_nextOf_15 : decode cX2_nextOf 15 = .ok (.ireturn, 1) := by decide +kernel
theorem dX2_isDecisive_0 : decode cX2_isDecisive 0 = .ok (.aload_n 0, 1) := by decide +kernel
theorem dX2_isDecisive_1 : decode cX2_isDecisive 1 = .ok (.getfield 24, 3) := by decide +kernel
theorem dX2_isDecisive_4 : decode cX2_isDecisive 4 = .ok (.getfield 31, 3) := by decide +kernel
theorem dX2_isDecisive_7 : decode cX2_isDecisive 7 = .ok (.getfield 51, 3) := by decide +kernel
theorem dX2_isDecisive_10 : decode cX2_isDecisive 10 = .ok (.iload_n 1, 1) := by decide +kernel
theorem dX2_isDecisive_11 : decode cX2_isDecisive 11 = .ok (.aaload, 1) := by decide +kernel
theorem dX2_isDecisive_12 : decode cX2_isDecisive 12 = .ok (.astore_n 2, 1) := by decide +kernel
theorem dX2_isDecisive_13 : decode cX2_isDecisive 13 = .ok (.aload_n 2, 1) := by decide +kernel
theorem dX2_isDecisive_14 : decode cX2_isDecisive 14 = .ok (.getfield 55, 3) := by decide +kernel
theorem dX2_isDecisive_17 : decode cX2_isDecisive 17 = .ok (.aload_n 2, 1) := by decide +kernel
theorem dX2_isDecisive_18 : decode cX2_isDecisive 18 = .ok (.getfield 60, 3) := by decide +kernel
theorem dX2_isDecisive_21 : decode cX2_isDecisive 21 = .ok (.if_icmp .ne 5, 3) := by decide +kernel
theorem dX2_isDecisive_24 : decode cX2_isDecisive 24 = .ok (.iconst 0, 1) := by decide +kernel
theorem dX2_isDecisive_25 : decode cX2_isDecisive 25 = .ok (.ireturn, 1) := by decide +kernel
theorem dX2_isDecisive_26 : decode cX2_isDecisive 26 = .ok (.aload_n 0, 1) := by decide +kernel
theorem dX2_isDecisive_27 : decode cX2_isDecisive 27 = .ok (.getfield 18, 3) := by decide +kernel
theorem dX2_isDecisive_30 : decode cX2_isDecisive 30 = .ok (.iconst 0, 1) := by decide +kernel
theorem dX2_isDecisive_31 : decode cX2_isDecisive 31 = .ok (.invokestatic 70, 3) := by decide +kernel
theorem dX2_isDecisive_34 : decode cX2_isDecisive 34 = .ok (.iconst 0, 1) := by decide +kernel
theorem dX2_isDecisive_35 : decode cX2_isDecisive 35 = .ok (.istore_n 3, 1) := by decide +kernel
theorem dX2_isDecisive_36 : decode cX2_isDecisive 36 = .ok (.iload_n 3, 1) := by decide +kernel
theorem dX2_isDecisive_37 : decode cX2_isDecisive 37 = .ok (.bipush 21, 2) := by decide +kernel
theorem dX2_isDecisive_39 : decode cX2_isDecisive 39 = .ok (.if_icmp .ge 87, 3) := by decide +kernel
theorem dX2_isDecisive_42 : decode cX2_isDecisive 42 = .ok (.aload_n 2, 1) := by decide +kernel
theorem dX2_isDecisive_43 : decode cX2_isDecisive 43 = .ok (.getfield 55, 3) := by decide +kernel
theorem dX2_isDecisive_46 : decode cX2_isDecisive 46 = .ok (.istore 4, 2) := by decide +kernel
theorem dX2_isDecisive_48 : decode cX2_isDecisive 48 = .ok (.aload_n 0, 1) := by decide +kernel
theorem dX2_isDecisive_49 : decode cX2_isDecisive 49 = .ok (.getfield 9, 3) := by decide +kernel
theorem dX2_isDecisive_52 : decode cX2_isDecisive 52 = .ok (.iload_n 1, 1) := by decide +kernel
theorem dX2_isDecisive_53 : decode cX2_isDecisive 53 = .ok (.iaload, 1) := by decide +kernel
theorem dX2_isDecisive_54 : decode cX2_isDecisive 54 = .ok (.iload_n 3, 1) := by decide +kernel
theorem dX2_isDecisive_55 : decode cX2_isDecisive 55 = .ok (.iushr, 1) := by decide +kernel
theorem dX2_isDecisive_56 : decode cX2_isDecisive 56 = .ok (.iconst 1, 1) := by decide +kernel
theorem dX2_isDecisive_57 : decode cX2_isDecisive 57 = .ok (.iand, 1) := by decide +kernel
theorem dX2_isDecisive_58 : decode cX2_isDecisive 58 = .ok (.ifCond .eq 62, 3) := by decide +kernel
theorem dX2_isDecisive_61 : decode cX2_isDecisive 61 = .ok (.iload 4, 2) := by decide +kernel
theorem dX2_isDecisive_63 : decode cX2_isDecisive 63 = .ok (.aload_n 2, 1) := by decide +kernel
theorem dX2_isDecisive_64 : decode cX2_isDecisive 64 = .ok (.getfield 60, 3) := by decide +kernel
theorem dX2_isDecisive_67 : decode cX2_isDecisive 67 = .ok (.if_icmp .ge 53, 3) := by decide +kernel
theorem dX2_isDecisive_70 : decode cX2_isDecisive 70 = .ok (.iload 4, 2) := by decide +kernel
theorem dX2_isDecisive_72 : decode cX2_isDecisive 72 = .ok (.iconst 1, 1) := by decide +kernel
theorem dX2_isDecisive_73 : decode cX2_isDecisive 73 = .ok (.iadd, 1) := by decide +kernel
theorem dX2_isDecisive_74 : decode cX2_isDecisive 74 = .ok (.istore 5, 2) := by decide +kernel
theorem dX2_isDecisive_76 : decode cX2_isDecisive 76 = .ok (.iload 5, 2) := by decide +kernel
theorem dX2_isDecisive_78 : decode cX2_isDecisive 78 = .ok (.aload_n 2, 1) := by decide +kernel
theorem dX2_isDecisive_79 : decode cX2_isDecisive 79 = .ok (.getfield 60, 3) := by decide +kernel
theorem dX2_isDecisive_82 : decode cX2_isDecisive 82 = .ok (.if_icmp .gt 32, 3) := by decide +kernel
theorem dX2_isDecisive_85 : decode cX2_isDecisive 85 = .ok (.aload_n 0, 1) := by decide +kernel
theorem dX2_isDecisive_86 : decode cX2_isDecisive 86 = .ok (.getfield 18, 3) := by decide +kernel
theorem dX2_isDecisive_89 : decode cX2_isDecisive 89 = .ok (.aload_n 0, 1) := by decide +kernel
theorem dX2_isDecisive_90 : decode cX2_isDecisive 90 = .ok (.iload_n 1, 1) := by decide +kernel
theorem dX2_isDecisive_91 : decode cX2_isDecisive 91 = .ok (.iload_n 3, 1) := by decide +kernel
