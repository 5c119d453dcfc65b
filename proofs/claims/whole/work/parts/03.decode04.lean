theorem dX10_stopped_59 : decode cX10_stopped 59 = .ok (.iload 9, 2) := by decide +kernel
theorem dX10_stopped_61 : decode cX10_stopped 61 = .ok (.invokevirtual 177, 3) := by decide +kernel
theorem dX10_stopped_64 : decode cX10_stopped 64 = .ok (.istore 10, 2) := by decide +kernel
theorem dX10_stopped_66 : decode cX10_stopped 66 = .ok (.aload_n 0, 1) := by decide +kernel
theorem dX10_stopped_67 : decode cX10_stopped 67 = .ok (.lload 7, 2) := by decide +kernel
theorem dX10_stopped_69 : decode cX10_stopped 69 = .ok (.iload 10, 2) := by decide +kernel
theorem dX10_stopped_71 : decode cX10_stopped 71 = .ok (.iconst 1, 1) := by decide +kernel
theorem dX10_stopped_72 : decode cX10_stopped 72 = .ok (.invokevirtual 269, 3) := by decide +kernel
theorem dX10_stopped_75 : decode cX10_stopped 75 = .ok (.lstore 7, 2) := by decide +kernel
theorem dX10_stopped_77 : decode cX10_stopped 77 = .ok (.iinc 9 1, 3) := by decide +kernel
theorem dX10_stopped_80 : decode cX10_stopped 80 = .ok (.goto (-32), 3) := by decide +kernel
theorem dX10_stopped_83 : decode cX10_stopped 83 = .ok (.aload_n 0, 1) := by decide +kernel
theorem dX10_stopped_84 : decode cX10_stopped 84 = .ok (.getfield 43, 3) := by decide +kernel
theorem dX10_stopped_87 : decode cX10_stopped 87 = .ok (.iload_n 2, 1) := by decide +kernel
theorem dX10_stopped_88 : decode cX10_stopped 88 = .ok (.invokevirtual 248, 3) := by decide +kernel
theorem dX10_stopped_91 : decode cX10_stopped 91 = .ok (.aload_n 0, 1) := by decide +kernel
theorem dX10_stopped_92 : decode cX10_stopped 92 = .ok (.iload_n 3, 1) := by decide +kernel
theorem dX10_stopped_93 : decode cX10_stopped 93 = .ok (.iload_n 2, 1) := by decide +kernel
theorem dX10_stopped_94 : decode cX10_stopped 94 = .ok (.iload 4, 2) := by decide +kernel
theorem dX10_stopped_96 : decode cX10_stopped 96 = .ok (.iload 5, 2) := by decide +kernel
theorem dX10_stopped_98 : decode cX10_stopped 98 = .ok (.invokevirtual 251, 3) := by decide +kernel
theorem dX10_stopped_101 : decode cX10_stopped 101 = .ok (.astore 9, 2) := by decide +kernel
theorem dX10_stopped_103 : decode cX10_stopped 103 = .ok (.iconst 0, 1) := by decide +kernel
theorem dX10_stopped_104 : decode cX10_stopped 104 = .ok (.istore 10, 2) := by decide +kernel
theorem dX10_stopped_106 : decode cX10_stopped 106 = .ok (.iload 10, 2) := by decide +kernel
theorem dX10_stopped_108 : decode cX10_stopped 108 = .ok (.bipush 6, 2) := by decide +kernel
theorem dX10_stopped_110 : decode cX10_stopped 110 = .ok (.if_icmp .ge 74, 3) := by decide +kernel
theorem dX10_stopped_113 : decode cX10_stopped 113 = .ok (.aload_n 0, 1) := by decide +kernel
theorem dX10_stopped_114 : decode cX10_stopped 114 = .ok (.getfield 43, 3) := by decide +kernel
theorem dX10_stopped_117 : decode cX10_stopped 117 = .ok (.getfield 258, 3) := by decide +kernel
theorem dX10_stopped_120 : decode cX10_stopped 120 = .ok (.iload 10, 2) := by decide +kernel
theorem dX10_stopped_122 : decode cX10_stopped 122 = .ok (.iaload, 1) := by decide +kernel
theorem dX10_stopped_123 : decode cX10_stopped 123 = .ok (.iconst (-1), 1) := by decide +kernel
theorem dX10_stopped_124 : decode cX10_stopped 124 = .ok (.if_icmp .eq 54, 3) := by decide +kernel
theorem dX10_stopped_127 : decode cX10_stopped 127 = .ok (.aload_n 0, 1) := by decide +kernel
theorem dX10_stopped_128 : decode cX10_stopped 128 = .ok (.getfield 43, 3) := by decide +kernel
theorem dX10_stopped_131 : decode cX10_stopped 131 = .ok (.getfield 258, 3) := by decide +kernel
theorem dX10_stopped_134 : decode cX10_stopped 134 = .ok (.iload 10, 2) := by decide +kernel
theorem dX10_stopped_136 : decode cX10_stopped 136 = .ok (.iaload, 1) := by decide +kernel
theorem dX10_stopped_137 : decode cX10_stopped 137 = .ok (.iload 6, 2) := by decide +kernel
theorem dX10_stopped_139 : decode cX10_stopped 139 = .ok (.if_icmp .gt 39, 3) := by decide +kernel
theorem dX10_stopped_142 : decode cX10_stopped 142 = .ok (.aload 9, 2) := by decide +kernel
theorem dX10_stopped_144 : decode cX10_stopped 144 = .ok (.iload 10, 2) := by decide +kernel
theorem dX10_stopped_146 : decode cX10_stopped 146 = .ok (.putfield 255, 3) := by decide +kernel
theorem dX10_stopped_149 : decode cX10_stopped 149 = .ok (.aload_n 0, 1) := by decide +kernel
theorem dX10_stopped_150 : decode cX10_stopped 150 = .ok (.getfield 77, 3) := by decide +kernel
theorem dX10_stopped_153 : decode cX10_stopped 153 = .ok (.iload_n 1, 1) := by decide +kernel
theorem dX10_stopped_154 : decode cX10_stopped 154 = .ok (.aload_n 0, 1) := by decide +kernel
theorem dX10_stopped_155 : decode cX10_stopped 155 = .ok (.getfield 18, 3) := by decide +kernel
theorem dX10_stopped_158 : decode cX10_stopped 158 = .ok (.iload_n 3, 1) := by decide +kernel
theorem dX10_stopped_159 : decode cX10_stopped 159 = .ok (.aaload, 1) := by decide +kernel
theorem dX10_stopped_160 : decode cX10_stopped 160 = .ok (.aload_n 0, 1) := by decide +kernel
theorem dX10_stopped_161 : decode cX10_stopped 161 = .ok (.getfield 97, 3) := by decide +kernel
theorem dX10_stopped_164 : decode cX10_stopped 164 = .ok (.invokevirtual 213, 3) := by decide +kernel
theorem dX10_stopped_167 : decode cX10_stopped 167 = .ok (.aload_n 0, 1) := by decide +kernel
theorem dX10_stopped_168 : decode cX10_stopped 168 = .ok (.lload 7, 2) := by decide +kernel
theorem dX10_stopped_170 : decode cX10_stopped 170 = .ok (.iload 5, 2) := by decide +kernel
theorem dX10_stopped_172 : decode cX10_stopped 172 = .ok (.iconst 0, 1) := by decide +kernel
theorem dX10_stopped_173 : decode cX10_stopped 173 = .ok (.invokevirtual 269, 3) := by decide +kernel
theorem dX10_stopped_176 : decode cX10_stopped 176 = .ok (.lstore 7, 2) := by decide +kernel
theorem dX10_stopped_178 : decode cX10_stopped 178 = .ok (.iinc 10 1, 3) := by decide +kernel
theorem dX10_stopped_181 : decode cX10_stopped 181 = .ok (.goto (-75), 3) := by decide +kernel
theorem dX10_stopped_184 : decode cX10_stopped 184 = .ok (.aload_n 0, 1) := by decide +kernel
theorem dX10_stopped_185 : decode cX10_stopped 185 = .ok (.iload_n 3, 1) := by decide +kernel
theorem dX10_stopped_186 : decode cX10_stopped 186 = .ok (.invokevirtual 261, 3) := by decide +kernel
theorem dX10_stopped_189 : decode cX10_stopped 189 = .ok (.lload 7, 2) := by decide +kernel
theorem dX10_stopped_191 : decode cX10_stopped 191 = .ok (.invokestatic 273, 3) := by decide +kernel
theorem dX10_stopped_194 : decode cX10_stopped 194 = .ok (.ireturn, 1) := by decide +kernel
theorem dX10_check_0 : decode cX10_check 0 = .ok (.iload_n 1, 1) := by decide +kernel
theorem dX10_check_1 : decode cX10_check 1 = .ok (.invokestatic 108, 3) := by decide +kernel
theorem dX10_check_4 : decode cX10_check 4 = .ok (.ifCond .eq 28, 3) := by decide +kernel
theorem dX10_check_7 : decode cX10_check 7 = .ok (.aload_n 0, 1) := by decide +kernel
theorem dX10_check_8 : decode cX10_check 8 = .ok (.iload_n 2, 1) := by decide +kernel
theorem dX10_check_9 : decode cX10_check 9 = .ok (.invokevirtual 128, 3) := by decide +kernel
theorem dX10_check_12 : decode cX10_check 12 = .ok (.ifCond .eq 20, 3) := by decide +kernel
theorem dX10_check_15 : decode cX10_check 15 = .ok (.iload_n 3, 1) := by decide +kernel
theorem dX10_check_16 : decode cX10_check 16 = .ok (.iconst 0, 1) := by decide +kernel
theorem dX10_check_17 : decode cX10_check 17 = .ok (.aload_n 0, 1) := by decide +kernel
theorem dX10_check_18 : decode cX10_check 18 = .ok (.getfield 36, 3) := by decide +kernel
theorem dX10_check_21 : decode cX10_check 21 = .ok (.getfield 166, 3) := by decide +kernel
theorem dX10_check_24 : decode cX10_check 24 = .ok (.iconst 4, 1) := by decide +kernel
theorem dX10_check_25 : decode cX10_check 25 = .ok (.idiv, 1) := by decide +kernel
theorem dX10_check_26 : decode cX10_check 26 = .ok (.invokestatic 101, 3) := by decide +kernel
theorem dX10_check_29 : decode cX10_check 29 = .ok (.ifCond .ne 6, 3) := by decide +kernel
theorem dX10_check_32 : decode cX10_check 32 = .ok (.bipush (-2), 2) := by decide +kernel
theorem dX10_check_34 : decode cX10_check 34 = .ok (.ireturn, 1) := by decide +kernel
theorem dX10_check_35 : decode cX10_check 35 = .ok (.aload_n 0, 1) := by decide +kernel
theorem dX10_check_36 : decode cX10_check 36 = .ok (.iload_n 1, 1) := by decide +kernel
theorem dX10_check_37 : decode cX10_check 37 = .ok (.iload_n 2, 1) := by decide +kernel
theorem dX10_check_38 : decode cX10_check 38 = .ok (.invokevirtual 177, 3) := by decide +kernel
theorem dX10_check_41 : decode cX10_check 41 = .ok (.istore 4, 2) := by decide +kernel
theorem dX10_check_43 : decode cX10_check 43 = .ok (.aload_n 0, 1) := by decide +kernel
theorem dX10_check_44 : decode cX10_check 44 = .ok (.getfield 18, 3) := by decide +kernel
theorem dX10_check_47 : decode cX10_check 47 = .ok (.iload_n 2, 1) := by decide +kernel
theorem dX10_check_48 : decode cX10_check 48 = .ok (.aaload, 1) := by decide +kernel
theorem dX10_check_49 : decode cX10_check 49 = .ok (.getfield 204, 3) := by decide +kernel
theorem dX10_check_52 : decode cX10_check 52 = .ok (.istore 5, 2) := by decide +kernel
theorem dX10_check_54 : decode cX10_check 54 = .ok (.aload_n 0, 1) := by decide +kernel
theorem dX10_check_55 : decode cX10_check 55 = .ok (.getfield 36, 3) := by decide +kernel
theorem dX10_check_58 : decode cX10_check 58 = .ok (.iconst 0, 1) := by decide +kernel
theorem dX10_check_59 : decode cX10_check 59 = .ok (.putfield 166, 3) := by decide +kernel
theorem dX10_check_62 : decode cX10_check 62 = .ok (.iconst 0, 1) := by decide +kernel
theorem dX10_check_63 : decode cX10_check 63 = .ok (.istore 6, 2) := by decide +kernel
theorem dX10_check_65 : decode cX10_check 65 = .ok (.iload 6, 2) := by decide +kernel
theorem dX10_check_67 : decode cX10_check 67 = .ok (.iload_n 3, 1) := by decide +kernel
theorem dX10_check_68 : decode cX10_check 68 = .ok (.if_icmp .ge 53, 3) := by decide +kernel
theorem dX10_check_71 : decode cX10_check 71 = .ok (.iload 6, 2) := by decide +kernel
theorem dX10_check_73 : decode cX10_check 73 = .ok (.iload 5, 2) := by decide +kernel
theorem dX10_check_75 : decode cX10_check 75 = .ok (.if_icmp .gt 37, 3) := by decide +kernel
theorem dX10_check_78 : decode cX10_check 78 = .ok (.aload_n 0, 1) := by decide +kernel
theorem dX10_check_79 : decode cX10_check 79 = .ok (.getfield 36, 3) := by decide +kernel
theorem dX10_check_82 : decode cX10_check 82 = .ok (.iload 6, 2) := by decide +kernel
theorem dX10_check_84 : decode cX10_check 84 = .ok (.invokevirtual 277, 3) := by decide +kernel
theorem dX10_check_87 : decode cX10_check 87 = .ok (.iload 6, 2) := by decide +kernel
theorem dX10_check_89 : decode cX10_check 89 = .ok (.iload 5, 2) := by decide +kernel
theorem dX10_check_91 : decode cX10_check 91 = .ok (.if_icmp .ge 16, 3) := by decide +kernel
theorem dX10_check_94 : decode cX10_check 94 = .ok (.aload_n 0, 1) := by decide +kernel
theorem dX10_check_95 : decode cX10_check 95 = .ok (.getfield 77, 3) := by decide +kernel
theorem dX10_check_98 : decode cX10_check 98 = .ok (.getfield 181, 3) := by decide +kernel
theorem dX10_check_101 : decode cX10_check 101 = .ok (.iload 6, 2) := by decide +kernel
theorem dX10_check_103 : decode cX10_check 103 = .ok (.iaload, 1) := by decide +kernel
theorem dX10_check_104 : decode cX10_check 104 = .ok (.goto 5, 3) := by decide +kernel
theorem dX10_check_107 : decode cX10_check 107 = .ok (.iload 4, 2) := by decide +kernel
theorem dX10_check_109 : decode cX10_check 109 = .ok (.if_icmp .eq 6, 3) := by decide +kernel
theorem dX10_check_112 : decode cX10_check 112 = .ok (.iload 6, 2) := by decide +kernel
theorem dX10_check_114 : decode cX10_check 114 = .ok (.ireturn, 1) := by decide +kernel
theorem dX10_check_115 : decode cX10_check 115 = .ok (.iinc 6 1, 3) := by decide +kernel
theorem dX10_check_118 : decode cX10_check 118 = .ok (.goto (-53), 3) := by decide +kernel
theorem dX10_check_121 : decode cX10_check 121 = .ok (.iload_n 3, 1) := by decide +kernel
theorem dX10_check_122 : decode cX10_check 122 = .ok (.iload 5, 2) := by decide +kernel
theorem dX10_check_124 : decode cX10_check 124 = .ok (.if_icmp .gt 7, 3) := by decide +kernel
theorem dX10_check_127 : decode cX10_check 127 = .ok (.iload_n 3, 1) := by decide +kernel
theorem dX10_check_128 : decode cX10_check 128 = .ok (.goto 4, 3) := by decide +kernel
theorem dX10_check_131 : decode cX10_check 131 = .ok (.iconst (-1), 1) := by decide +kernel
theorem dX10_check_132 : decode cX10_check 132 = .ok (.ireturn, 1) := by decide +kernel
theorem dX10_look_0 : decode cX10_look 0 = .ok (.aload_n 0, 1) := by decide +kernel
theorem dX10_look_1 : decode cX10_look 1 = .ok (.iload_n 1, 1) := by decide +kernel
theorem dX10_look_2 : decode cX10_look 2 = .ok (.iload_n 2, 1) := by decide +kernel
theorem dX10_look_3 : decode cX10_look 3 = .ok (.invokevirtual 159, 3) := by decide +kernel
theorem dX10_look_6 : decode cX10_look 6 = .ok (.ifCond .ne 5, 3) := by decide +kernel
theorem dX10_look_9 : decode cX10_look 9 = .ok (.iconst (-1), 1) := by decide +kernel
theorem dX10_look_10 : decode cX10_look 10 = .ok (.ireturn, 1) := by decide +kernel
theorem dX10_look_11 : decode cX10_look 11 = .ok (.iload_n 3, 1) := by decide +kernel
theorem dX10_look_12 : decode cX10_look 12 = .ok (.bipush 8, 2) := by decide +kernel
theorem dX10_look_14 : decode cX10_look 14 = .ok (.if_icmp .ne 16, 3) := by decide +kernel
theorem dX10_look_17 : decode cX10_look 17 = .ok (.aload_n 0, 1) := by decide +kernel
theorem dX10_look_18 : decode cX10_look 18 = .ok (.getfield 18, 3) := by decide +kernel
theorem dX10_look_21 : decode cX10_look 21 = .ok (.iload_n 1, 1) := by decide +kernel
theorem dX10_look_22 : decode cX10_look 22 = .ok (.aaload, 1) := by decide +kernel
theorem dX10_look_23 : decode cX10_look 23 = .ok (.iload_n 2, 1) := by decide +kernel
theorem dX10_look_24 : decode cX10_look 24 = .ok (.invokevirtual 280, 3) := by decide +kernel
theorem dX10_look_27 : decode cX10_look 27 = .ok (.goto 18, 3) := by decide +kernel
theorem dX10_look_30 : decode cX10_look 30 = .ok (.aload_n 0, 1) := by decide +kernel
theorem dX10_look_31 : decode cX10_look 31 = .ok (.getfield 18, 3) := by decide +kernel
theorem dX10_look_34 : decode cX10_look 34 = .ok (.iload_n 1, 1) := by decide +kernel
theorem dX10_look_35 : decode cX10_look 35 = .ok (.aaload, 1) := by decide +kernel
theorem dX10_look_36 : decode cX10_look 36 = .ok (.getfield 162, 3) := by decide +kernel
theorem dX10_look_39 : decode cX10_look 39 = .ok (.iload_n 2, 1) := by decide +kernel
theorem dX10_look_40 : decode cX10_look 40 = .ok (.aaload, 1) := by decide +kernel
theorem dX10_look_41 : decode cX10_look 41 = .ok (.iload_n 3, 1) := by decide +kernel
theorem dX10_look_42 : decode cX10_look 42 = .ok (.invokevirtual 283, 3) := by decide +kernel
theorem dX10_look_45 : decode cX10_look 45 = .ok (.ireturn, 1) := by decide +kernel
theorem dX10_count_0 : decode cX10_count 0 = .ok (.iload_n 1, 1) := by decide +kernel
theorem dX10_count_1 : decode cX10_count 1 = .ok (.bipush 10, 2) := by decide +kernel
theorem dX10_count_3 : decode cX10_count 3 = .ok (.bipush 19, 2) := by decide +kernel
theorem dX10_count_5 : decode cX10_count 5 = .ok (.invokestatic 101, 3) := by decide +kernel
theorem dX10_count_8 : decode cX10_count 8 = .ok (.ifCond .eq 31, 3) := by decide +kernel
theorem dX10_count_11 : decode cX10_count 11 = .ok (.aload_n 0, 1) := by decide +kernel
theorem dX10_count_12 : decode cX10_count 12 = .ok (.iload_n 1, 1) := by decide +kernel
theorem dX10_count_13 : decode cX10_count 13 = .ok (.bipush 10, 2) := by decide +kernel
theorem dX10_count_15 : decode cX10_count 15 = .ok (.isub, 1) := by decide +kernel
theorem dX10_count_16 : decode cX10_count 16 = .ok (.invokevirtual 128, 3) := by decide +kernel
theorem dX10_count_19 : decode cX10_count 19 = .ok (.ifCond .eq 18, 3) := by decide +kernel
theorem dX10_count_22 : decode cX10_count 22 = .ok (.aload_n 0, 1) := by decide +kernel
theorem dX10_count_23 : decode cX10_count 23 = .ok (.getfield 18, 3) := by decide +kernel
theorem dX10_count_26 : decode cX10_count 26 = .ok (.iload_n 1, 1) := by decide +kernel
theorem dX10_count_27 : decode cX10_count 27 = .ok (.bipush 10, 2) := by decide +kernel
theorem dX10_count_29 : decode cX10_count 29 = .ok (.isub, 1) := by decide +kernel
theorem dX10_count_30 : decode cX10_count 30 = .ok (.aaload, 1) := by decide +kernel
theorem dX10_count_31 : decode cX10_count 31 = .ok (.getfield 204, 3) := by decide +kernel
theorem dX10_count_34 : decode cX10_count 34 = .ok (.goto 4, 3) := by decide +kernel
theorem dX10_count_37 : decode cX10_count 37 = .ok (.iconst (-1), 1) := by decide +kernel
theorem dX10_count_38 : decode cX10_count 38 = .ok (.ireturn, 1) := by decide +kernel
theorem dX10_count_39 : decode cX10_count 39 = .ok (.iload_n 1, 1) := by decide +kernel
theorem dX10_count_40 : decode cX10_count 40 = .ok (.bipush 20, 2) := by decide +kernel
theorem dX10_count_42 : decode cX10_count 42 = .ok (.bipush 29, 2) := by decide +kernel
theorem dX10_count_44 : decode cX10_count 44 = .ok (.invokestatic 101, 3) := by decide +kernel
theorem dX10_count_47 : decode cX10_count 47 = .ok (.ifCond .eq 30, 3) := by decide +kernel
theorem dX10_count_50 : decode cX10_count 50 = .ok (.iload_n 1, 1) := by decide +kernel
theorem dX10_count_51 : decode cX10_count 51 = .ok (.bipush 20, 2) := by decide +kernel
theorem dX10_count_53 : decode cX10_count 53 = .ok (.isub, 1) := by decide +kernel
theorem dX10_count_54 : decode cX10_count 54 = .ok (.invokestatic 108, 3) := by decide +kernel
theorem dX10_count_57 : decode cX10_count 57 = .ok (.ifCond .eq 18, 3) := by decide +kernel
theorem dX10_count_60 : decode cX10_count 60 = .ok (.aload_n 0, 1) := by decide +kernel
theorem dX10_count_61 : decode cX10_count 61 = .ok (.getfield 24, 3) := by decide +kernel
theorem dX10_count_64 : decode cX10_count 64 = .ok (.iload_n 1, 1) := by decide +kernel
theorem dX10_count_65 : decode cX10_count 65 = .ok (.bipush 20, 2) := by decide +kernel
theorem dX10_count_67 : decode cX10_count 67 = .ok (.isub, 1) := by decide +kernel
theorem dX10_count_68 : decode cX10_count 68 = .ok (.aaload, 1) := by decide +kernel
theorem dX10_count_69 : decode cX10_count 69 = .ok (.getfield 286, 3) := by decide +kernel
theorem dX10_count_72 : decode cX10_count 72 = .ok (.goto 4, 3) := by decide +kernel
theorem dX10_count_75 : decode cX10_count 75 = .ok (.iconst (-1), 1) := by decide +kernel
theorem dX10_count_76 : decode cX10_count 76 = .ok (.ireturn, 1) := by decide +kernel
theorem dX10_count_77 : decode cX10_count 77 = .ok (.iload_n 1, 1) := by decide +kernel
theorem dX10_count_78 : decode cX10_count 78 = .ok (.bipush 30, 2) := by decide +kernel
theorem dX10_count_80 : decode cX10_count 80 = .ok (.bipush 42, 2) := by decide +kernel
theorem dX10_count_82 : decode cX10_count 82 = .ok (.invokestatic 101, 3) := by decide +kernel
theorem dX10_count_85 : decode cX10_count 85 = .ok (.ifCond .eq 28, 3) := by decide +kernel
theorem dX10_count_88 : decode cX10_count 88 = .ok (.aload_n 0, 1) := by decide +kernel
theorem dX10_count_89 : decode cX10_count 89 = .ok (.iload_n 1, 1) := by decide +kernel
theorem dX10_count_90 : decode cX10_count 90 = .ok (.bipush 30, 2) := by decide +kernel
theorem dX10_count_92 : decode cX10_count 92 = .ok (.isub, 1) := by decide +kernel
theorem dX10_count_93 : decode cX10_count 93 = .ok (.invokevirtual 116, 3) := by decide +kernel
theorem dX10_count_96 : decode cX10_count 96 = .ok (.ifCond .eq 15, 3) := by decide +kernel
theorem dX10_count_99 : decode cX10_count 99 = .ok (.aload_n 0, 1) := by decide +kernel
theorem dX10_count_100 : decode cX10_count 100 = .ok (.getfield 13, 3) := by decide +kernel
theorem dX10_count_103 : decode cX10_count 103 = .ok (.iload_n 1, 1) := by decide +kernel
theorem dX10_count_104 : decode cX10_count 104 = .ok (.bipush 30, 2) := by decide +kernel
theorem dX10_count_106 : decode cX10_count 106 = .ok (.isub, 1) := by decide +kernel
theorem dX10_count_107 : decode cX10_count 107 = .ok (.iaload, 1) := by decide +kernel
theorem dX10_count_108 : decode cX10_count 108 = .ok (.goto 4, 3) := by decide +kernel
theorem dX10_count_111 : decode cX10_count 111 = .ok (.iconst (-1), 1) := by decide +kernel
theorem dX10_count_112 : decode cX10_count 112 = .ok (.ireturn, 1) := by decide +kernel
theorem dX10_count_113 : decode cX10_count 113 = .ok (.iload_n 1, 1) := by decide +kernel
theorem dX10_count_114 : decode cX10_count 114 = .ok (.tableswitch 53 0 3 #[30, 35, 40, 45], 30) := by decide +kernel
theorem dX10_count_144 : decode cX10_count 144 = .ok (.aload_n 0, 1) := by decide +kernel
theorem dX10_count_145 : decode cX10_count 145 = .ok (.getfield 97, 3) := by decide +kernel
theorem dX10_count_148 : decode cX10_count 148 = .ok (.ireturn, 1) := by decide +kernel
theorem dX10_count_149 : decode cX10_count 149 = .ok (.aload_n 0, 1) := by decide +kernel
theorem dX10_count_150 : decode cX10_count 150 = .ok (.getfield 105, 3) := by decide +kernel
theorem dX10_count_153 : decode cX10_count 153 = .ok (.ireturn, 1) := by decide +kernel
theorem dX10_count_154 : decode cX10_count 154 = .ok (.aload_n 0, 1) := by decide +kernel
theorem dX10_count_155 : decode cX10_count 155 = .ok (.getfield 113, 3) := by decide +kernel
theorem dX10_count_158 : decode cX10_count 158 = .ok (.ireturn, 1) := by decide +kernel
theorem dX10_count_159 : decode cX10_count 159 = .ok (.aload_n 0, 1) := by decide +kernel
theorem dX10_count_160 : decode cX10_count 160 = .ok (.getfield 36, 3) := by decide +kernel
theorem dX10_count_163 : decode cX10_count 163 = .ok (.getfield 166, 3) := by decide +kernel
theorem dX10_count_166 : decode cX10_count 166 = .ok (.ireturn, 1) := by decide +kernel
theorem dX10_count_167 : decode cX10_count 167 = .ok (.iconst (-1), 1) := by decide +kernel
theorem dX10_count_168 : decode cX10_count 168 = .ok (.ireturn, 1) := by decide +kernel
theorem dX10_isWithin_0 : decode cX10_isWithin 0 = .ok (.iload_n 0, 1) := by decide +kernel
theorem dX10_isWithin_1 : decode cX10_isWithin 1 = .ok (.iload_n 1, 1) := by decide +kernel
theorem dX10_isWithin_2 : decode cX10_isWithin 2 = .ok (.if_icmp .lt 12, 3) := by decide +kernel
theorem dX10_isWithin_5 : decode cX10_isWithin 5 = .ok (.iload_n 0, 1) := by decide +kernel
theorem dX10_isWithin_6 : decode cX10_isWithin 6 = .ok (.iload_n 2, 1) := by decide +kernel
theorem dX10_isWithin_7 : decode cX10_isWithin 7 = .ok (.if_icmp .gt 7, 3) := by decide +kernel
theorem dX10_isWithin_10 : decode cX10_isWithin 10 = .ok (.iconst 1, 1) := by decide +kernel
theorem dX10_isWithin_11 : decode cX10_isWithin 11 = .ok (.goto 4, 3) := by decide +kernel
theorem dX10_isWithin_14 : decode cX10_isWithin 14 = .ok (.iconst 0, 1) := by decide +kernel
theorem dX10_isWithin_15 : decode cX10_isWithin 15 = .ok (.ireturn, 1) := by decide +kernel
theorem dX10_isLand_0 : decode cX10_isLand 0 = .ok (.iload_n 0, 1) := by decide +kernel
theorem dX10_isLand_1 : decode cX10_isLand 1 = .ok (.iconst 0, 1) := by decide +kernel
theorem dX10_isLand_2 : decode cX10_isLand 2 = .ok (.iconst 5, 1) := by decide +kernel
theorem dX10_isLand_3 : decode cX10_isLand 3 = .ok (.invokestatic 101, 3) := by decide +kernel
theorem dX10_isLand_6 : decode cX10_isLand 6 = .ok (.ireturn, 1) := by decide +kernel
theorem dX10_isRangeOfMind_0 : decode cX10_isRangeOfMind 0 = .ok (.iload_n 0, 1) := by decide +kernel
theorem dX10_isRangeOfMind_1 : decode cX10_isRangeOfMind 1 = .ok (.ifCond .lt 17, 3) := by decide +kernel
theorem dX10_isRangeOfMind_4 : decode cX10_isRangeOfMind 4 = .ok (.iload_n 0, 1) := by decide +kernel
theorem dX10_isRangeOfMind_5 : decode cX10_isRangeOfMind 5 = .ok (.iload_n 1, 1) := by decide +kernel
theorem dX10_isRangeOfMind_6 : decode cX10_isRangeOfMind 6 = .ok (.if_icmp .gt 12, 3) := by decide +kernel
theorem dX10_isRangeOfMind_9 : decode cX10_isRangeOfMind 9 = .ok (.iload_n 1, 1) := by decide +kernel
theorem dX10_isRangeOfMind_10 : decode cX10_isRangeOfMind 10 = .ok (.iconst 2, 1) := by decide +kernel
theorem dX10_isRangeOfMind_11 : decode cX10_isRangeOfMind 11 = .ok (.if_icmp .gt 7, 3) := by decide +kernel
theorem dX10_isRangeOfMind_14 : decode cX10_isRangeOfMind 14 = .ok (.iconst 1, 1) := by decide +kernel
theorem dX10_isRangeOfMind_15 : decode cX10_isRangeOfMind 15 = .ok (.goto 4, 3) := by decide +kernel
theorem dX10_isRangeOfMind_18 : decode cX10_isRangeOfMind 18 = .ok (.iconst 0, 1) := by decide +kernel
theorem dX10_isRangeOfMind_19 : decode cX10_isRangeOfMind 19 = .ok (.ireturn, 1) := by decide +kernel
theorem dX10_isPerson_0 : decode cX10_isPerson 0 = .ok (.iload_n 1, 1) := by decide +kernel
theorem dX10_isPerson_1 : decode cX10_isPerson 1 = .ok (.iconst 0, 1) := by decide +kernel
theorem dX10_isPerson_2 : decode cX10_isPerson 2 = .ok (.aload_n 0, 1) := by decide +kernel
theorem dX10_isPerson_3 : decode cX10_isPerson 3 = .ok (.getfield 105, 3) := by decide +kernel
theorem dX10_isPerson_6 : decode cX10_isPerson 6 = .ok (.iconst 1, 1) := by decide +kernel
theorem dX10_isPerson_7 : decode cX10_isPerson 7 = .ok (.isub, 1) := by decide +kernel
theorem dX10_isPerson_8 : decode cX10_isPerson 8 = .ok (.invokestatic 101, 3) := by decide +kernel
theorem dX10_isPerson_11 : decode cX10_isPerson 11 = .ok (.ireturn, 1) := by decide +kernel
theorem dX10_isThing_0 : decode cX10_isThing 0 = .ok (.iload_n 1, 1) := by decide +kernel
theorem dX10_isThing_1 : decode cX10_isThing 1 = .ok (.iconst 0, 1) := by decide +kernel
theorem dX10_isThing_2 : decode cX10_isThing 2 = .ok (.aload_n 0, 1) := by decide +kernel
theorem dX10_isThing_3 : decode cX10_isThing 3 = .ok (.getfield 113, 3) := by decide +kernel
theorem dX10_isThing_6 : decode cX10_isThing 6 = .ok (.iconst 1, 1) := by decide +kernel
theorem dX10_isThing_7 : decode cX10_isThing 7 = .ok (.isub, 1) := by decide +kernel
theorem dX10_isThing_8 : decode cX10_isThing 8 = .ok (.invokestatic 101, 3) := by decide +kernel
theorem dX10_isThing_11 : decode cX10_isThing 11 = .ok (.ireturn, 1) := by decide +kernel
theorem dX10_isPassing_0 : decode cX10_isPassing 0 = .ok (.aload_n 0, 1) := by decide +kernel
theorem dX10_isPassing_1 : decode cX10_isPassing 1 = .ok (.iload_n 1, 1) := by decide +kernel
theorem dX10_isPassing_2 : decode cX10_isPassing 2 = .ok (.invokevirtual 128, 3) := by decide +kernel
theorem dX10_isPassing_5 : decode cX10_isPassing 5 = .ok (.ifCond .eq 26, 3) := by decide +kernel
theorem dX10_isPassing_8 : decode cX10_isPassing 8 = .ok (.iload_n 2, 1) := by decide +kernel
theorem dX10_isPassing_9 : decode cX10_isPassing 9 = .ok (.iconst 0, 1) := by decide +kernel
theorem dX10_isPassing_10 : decode cX10_isPassing 10 = .ok (.aload_n 0, 1) := by decide +kernel
theorem dX10_isPassing_11 : decode cX10_isPassing 11 = .ok (.getfield 18, 3) := by decide +kernel
theorem dX10_isPassing_14 : decode cX10_isPassing 14 = .ok (.iload_n 1, 1) := by decide +kernel
theorem dX10_isPassing_15 : decode cX10_isPassing 15 = .ok (.aaload, 1) := by decide +kernel
theorem dX10_isPassing_16 : decode cX10_isPassing 16 = .ok (.getfield 204, 3) := by decide +kernel
theorem dX10_isPassing_19 : decode cX10_isPassing 19 = .ok (.iconst 1, 1) := by decide +kernel
theorem dX10_isPassing_20 : decode cX10_isPassing 20 = .ok (.isub, 1) := by decide +kernel
theorem dX10_isPassing_21 : decode cX10_isPassing 21 = .ok (.invokestatic 101, 3) := by decide +kernel
theorem dX10_isPassing_24 : decode cX10_isPassing 24 = .ok (.ifCond .eq 7, 3) := by decide +kernel
theorem dX10_isPassing_27 : decode cX10_isPassing 27 = .ok (.iconst 1, 1) := by decide +kernel
theorem dX10_isPassing_28 : decode cX10_isPassing 28 = .ok (.goto 4, 3) := by decide +kernel
theorem dX10_isPassing_31 : decode cX10_isPassing 31 = .ok (.iconst 0, 1) := by decide +kernel
theorem dX10_isPassing_32 : decode cX10_isPassing 32 = .ok (.ireturn, 1) := by decide +kernel
theorem dX10_judge_0 : decode cX10_judge 0 = .ok (.aload_n 0, 1) := by decide +kernel
theorem dX10_judge_1 : decode cX10_judge 1 = .ok (.getfield 77, 3) := by decide +kernel
theorem dX10_judge_4 : decode cX10_judge 4 = .ok (.iload_n 1, 1) := by decide +kernel
theorem dX10_judge_5 : decode cX10_judge 5 = .ok (.aload_n 0, 1) := by decide +kernel
theorem dX10_judge_6 : decode cX10_judge 6 = .ok (.getfield 18, 3) := by decide +kernel
theorem dX10_judge_9 : decode cX10_judge 9 = .ok (.iload_n 2, 1) := by decide +kernel
theorem dX10_judge_10 : decode cX10_judge 10 = .ok (.aaload, 1) := by decide +kernel
theorem dX10_judge_11 : decode cX10_judge 11 = .ok (.aload_n 0, 1) := by decide +kernel
theorem dX10_judge_12 : decode cX10_judge 12 = .ok (.getfield 97, 3) := by decide +kernel
theorem dX10_judge_15 : decode cX10_judge 15 = .ok (.invokevirtual 213, 3) := by decide +kernel
theorem dX10_judge_18 : decode cX10_judge 18 = .ok (.aload_n 0, 1) := by decide +kernel
theorem dX10_judge_19 : decode cX10_judge 19 = .ok (.getfield 77, 3) := by decide +kernel
theorem dX10_judge_22 : decode cX10_judge 22 = .ok (.invokevirtual 289, 3) := by decide +kernel
theorem dX10_judge_25 : decode cX10_judge 25 = .ok (.aload_n 0, 1) := by decide +kernel
theorem dX10_judge_26 : decode cX10_judge 26 = .ok (.getfield 77, 3) := by decide +kernel
theorem dX10_judge_29 : decode cX10_judge 29 = .ok (.invokevirtual 292, 3) := by decide +kernel
theorem dX10_judge_32 : decode cX10_judge 32 = .ok (.ireturn, 1) := by decide +kernel
theorem dX10_canBeSoldOn_0 : decode cX10_canBeSoldOn 0 = .ok (.iload_n 1, 1) := by decide +kernel
theorem dX10_canBeSoldOn_1 : decode cX10_canBeSoldOn 1 = .ok (.invokestatic 108, 3) := by decide +kernel
theorem dX10_canBeSoldOn_4 : decode cX10_canBeSoldOn 4 = .ok (.ifCond .eq 36, 3) := by decide +kernel
theorem dX10_canBeSoldOn_7 : decode cX10_canBeSoldOn 7 = .ok (.iload_n 2, 1) := by decide +kernel
theorem dX10_canBeSoldOn_8 : decode cX10_canBeSoldOn 8 = .ok (.invokestatic 108, 3) := by decide +kernel
theorem dX10_canBeSoldOn_11 : decode cX10_canBeSoldOn 11 = .ok (.ifCond .eq 29, 3) := by decide +kernel
theorem dX10_canBeSoldOn_14 : decode cX10_canBeSoldOn 14 = .ok (.aload_n 0, 1) := by decide +kernel
theorem dX10_canBeSoldOn_15 : decode cX10_canBeSoldOn 15 = .ok (.iload_n 3, 1) := by decide +kernel
theorem dX10_canBeSoldOn_16 : decode cX10_canBeSoldOn 16 = .ok (.invokevirtual 128, 3) := by decide +kernel
theorem dX10_canBeSoldOn_19 : decode cX10_canBeSoldOn 19 = .ok (.ifCond .eq 21, 3) := by decide +kernel
theorem dX10_canBeSoldOn_22 : decode cX10_canBeSoldOn 22 = .ok (.aload_n 0, 1) := by decide +kernel
theorem dX10_canBeSoldOn_23 : decode cX10_canBeSoldOn 23 = .ok (.iload 4, 2) := by decide +kernel
theorem dX10_canBeSoldOn_25 : decode cX10_canBeSoldOn 25 = .ok (.invokevirtual 116, 3) := by decide +kernel
theorem dX10_canBeSoldOn_28 : decode cX10_canBeSoldOn 28 = .ok (.ifCond .eq 12, 3) := by decide +kernel
theorem dX10_canBeSoldOn_31 : decode cX10_canBeSoldOn 31 = .ok (.aload_n 0, 1) := by decide +kernel
theorem dX10_canBeSoldOn_32 : decode cX10_canBeSoldOn 32 = .ok (.iload 5, 2) := by decide +kernel
theorem dX10_canBeSoldOn_34 : decode cX10_canBeSoldOn 34 = .ok (.invokevirtual 116, 3) := by decide +kernel
theorem dX10_canBeSoldOn_37 : decode cX10_canBeSoldOn 37 = .ok (.ifCond .ne 5, 3) := by decide +kernel
theorem dX10_canBeSoldOn_40 : decode cX10_canBeSoldOn 40 = .ok (.iconst 0, 1) := by decide +kernel
theorem dX10_canBeSoldOn_41 : decode cX10_canBeSoldOn 41 = .ok (.ireturn, 1) := by decide +kernel
theorem dX10_canBeSoldOn_42 : decode cX10_canBeSoldOn 42 = .ok (.iload 5, 2) := by decide +kernel
theorem dX10_canBeSoldOn_44 : decode cX10_canBeSoldOn 44 = .ok (.iload 4, 2) := by decide +kernel
theorem dX10_canBeSoldOn_46 : decode cX10_canBeSoldOn 46 = .ok (.if_icmp .eq 35, 3) := by decide +kernel
theorem dX10_canBeSoldOn_49 : decode cX10_canBeSoldOn 49 = .ok (.iload 4, 2) := by decide +kernel
theorem dX10_canBeSoldOn_51 : decode cX10_canBeSoldOn 51 = .ok (.aload_n 0, 1) := by decide +kernel
theorem dX10_canBeSoldOn_52 : decode cX10_canBeSoldOn 52 = .ok (.getfield 18, 3) := by decide +kernel
theorem dX10_canBeSoldOn_55 : decode cX10_canBeSoldOn 55 = .ok (.iload_n 3, 1) := by decide +kernel
theorem dX10_canBeSoldOn_56 : decode cX10_canBeSoldOn 56 = .ok (.aaload, 1) := by decide +kernel
theorem dX10_canBeSoldOn_57 : decode cX10_canBeSoldOn 57 = .ok (.invokevirtual 200, 3) := by decide +kernel
theorem dX10_canBeSoldOn_60 : decode cX10_canBeSoldOn 60 = .ok (.if_icmp .eq 21, 3) := by decide +kernel
theorem dX10_canBeSoldOn_63 : decode cX10_canBeSoldOn 63 = .ok (.aload_n 0, 1) := by decide +kernel
theorem dX10_canBeSoldOn_64 : decode cX10_canBeSoldOn 64 = .ok (.getfield 18, 3) := by decide +kernel
theorem dX10_canBeSoldOn_67 : decode cX10_canBeSoldOn 67 = .ok (.iload_n 3, 1) := by decide +kernel
theorem dX10_canBeSoldOn_68 : decode cX10_canBeSoldOn 68 = .ok (.aaload, 1) := by decide +kernel
theorem dX10_canBeSoldOn_69 : decode cX10_canBeSoldOn 69 = .ok (.getfield 204, 3) := by decide +kernel
theorem dX10_canBeSoldOn_72 : decode cX10_canBeSoldOn 72 = .ok (.bipush 18, 2) := by decide +kernel
theorem dX10_canBeSoldOn_74 : decode cX10_canBeSoldOn 74 = .ok (.if_icmp .gt 7, 3) := by decide +kernel
theorem dX10_canBeSoldOn_77 : decode cX10_canBeSoldOn 77 = .ok (.iconst 1, 1) := by decide +kernel
theorem dX10_canBeSoldOn_78 : decode cX10_canBeSoldOn 78 = .ok (.goto 4, 3) := by decide +kernel
theorem dX10_canBeSoldOn_81 : decode cX10_canBeSoldOn 81 = .ok (.iconst 0, 1) := by decide +kernel
theorem dX10_canBeSoldOn_82 : decode cX10_canBeSoldOn 82 = .ok (.ireturn, 1) := by decide +kernel
theorem dX10_stage_0 : decode cX10_stage 0 = .ok (.aload_n 0, 1) := by decide +kernel
theorem dX10_stage_1 : decode cX10_stage 1 = .ok (.getfield 18, 3) := by decide +kernel
theorem dX10_stage_4 : decode cX10_stage 4 = .ok (.iload_n 1, 1) := by decide +kernel
theorem dX10_stage_5 : decode cX10_stage 5 = .ok (.aaload, 1) := by decide +kernel
theorem dX10_stage_6 : decode cX10_stage 6 = .ok (.aload_n 0, 1) := by decide +kernel
theorem dX10_stage_7 : decode cX10_stage 7 = .ok (.getfield 18, 3) := by decide +kernel
theorem dX10_stage_10 : decode cX10_stage 10 = .ok (.iload_n 1, 1) := by decide +kernel
theorem dX10_stage_11 : decode cX10_stage 11 = .ok (.aaload, 1) := by decide +kernel
theorem dX10_stage_12 : decode cX10_stage 12 = .ok (.getfield 204, 3) := by decide +kernel
theorem dX10_stage_15 : decode cX10_stage 15 = .ok (.invokevirtual 142, 3) := by decide +kernel
theorem dX10_stage_18 : decode cX10_stage 18 = .ok (.astore 5, 2) := by decide +kernel
theorem dX10_stage_20 : decode cX10_stage 20 = .ok (.aload 5, 2) := by decide +kernel
theorem dX10_stage_22 : decode cX10_stage 22 = .ok (.iconst 5, 1) := by decide +kernel
theorem dX10_stage_23 : decode cX10_stage 23 = .ok (.iload_n 3, 1) := by decide +kernel
theorem dX10_stage_24 : decode cX10_stage 24 = .ok (.iload_n 2, 1) := by decide +kernel
theorem dX10_stage_25 : decode cX10_stage 25 = .ok (.aload_n 0, 1) := by decide +kernel
theorem dX10_stage_26 : decode cX10_stage 26 = .ok (.getfield 97, 3) := by decide +kernel
theorem dX10_stage_29 : decode cX10_stage 29 = .ok (.invokevirtual 146, 3) := by decide +kernel
theorem dX10_stage_32 : decode cX10_stage 32 = .ok (.aload 5, 2) := by decide +kernel
theorem dX10_stage_34 : decode cX10_stage 34 = .ok (.iconst 0, 1) := by decide +kernel
theorem dX10_stage_35 : decode cX10_stage 35 = .ok (.iconst 0, 1) := by decide +kernel
theorem dX10_stage_36 : decode cX10_stage 36 = .ok (.invokevirtual 152, 3) := by decide +kernel
theorem dX10_stage_39 : decode cX10_stage 39 = .ok (.aload 5, 2) := by decide +kernel
theorem dX10_stage_41 : decode cX10_stage 41 = .ok (.iconst 0, 1) := by decide +kernel
theorem dX10_stage_42 : decode cX10_stage 42 = .ok (.iconst 0, 1) := by decide +kernel
theorem dX10_stage_43 : decode cX10_stage 43 = .ok (.invokevirtual 156, 3) := by decide +kernel
theorem dX10_stage_46 : decode cX10_stage 46 = .ok (.aload_n 0, 1) := by decide +kernel
theorem dX10_stage_47 : decode cX10_stage 47 = .ok (.getfield 18, 3) := by decide +kernel
theorem dX10_stage_50 : decode cX10_stage 50 = .ok (.iload_n 1, 1) := by decide +kernel
theorem dX10_stage_51 : decode cX10_stage 51 = .ok (.aaload, 1) := by decide +kernel
theorem dX10_stage_52 : decode cX10_stage 52 = .ok (.aload_n 0, 1) := by decide +kernel
theorem dX10_stage_53 : decode cX10_stage 53 = .ok (.getfield 18, 3) := by decide +kernel
theorem dX10_stage_56 : decode cX10_stage 56 = .ok (.iload_n 1, 1) := by decide +kernel
theorem dX10_stage_57 : decode cX10_stage 57 = .ok (.aaload, 1) := by decide +kernel
theorem dX10_stage_58 : decode cX10_stage 58 = .ok (.getfield 204, 3) := by decide +kernel
theorem dX10_stage_61 : decode cX10_stage 61 = .ok (.invokevirtual 142, 3) := by decide +kernel
theorem dX10_stage_64 : decode cX10_stage 64 = .ok (.astore 6, 2) := by decide +kernel
theorem dX10_stage_66 : decode cX10_stage 66 = .ok (.aload 6, 2) := by decide +kernel
theorem dX10_stage_68 : decode cX10_stage 68 = .ok (.iconst 0, 1) := by decide +kernel
theorem dX10_stage_69 : decode cX10_stage 69 = .ok (.iload 4, 2) := by decide +kernel
theorem dX10_stage_71 : decode cX10_stage 71 = .ok (.iload_n 2, 1) := by decide +kernel
theorem dX10_stage_72 : decode cX10_stage 72 = .ok (.aload_n 0, 1) := by decide +kernel
theorem dX10_stage_73 : decode cX10_stage 73 = .ok (.getfield 97, 3) := by decide +kernel
theorem dX10_stage_76 : decode cX10_stage 76 = .ok (.invokevirtual 146, 3) := by decide +kernel
theorem dX10_stage_79 : decode cX10_stage 79 = .ok (.aload 6, 2) := by decide +kernel
theorem dX10_stage_81 : decode cX10_stage 81 = .ok (.aload_n 0, 1) := by decide +kernel
theorem dX10_stage_82 : decode cX10_stage 82 = .ok (.getfield 18, 3) := by decide +kernel
theorem dX10_stage_85 : decode cX10_stage 85 = .ok (.iload_n 1, 1) := by decide +kernel
theorem dX10_stage_86 : decode cX10_stage 86 = .ok (.aaload, 1) := by decide +kernel
theorem dX10_stage_87 : decode cX10_stage 87 = .ok (.getfield 119, 3) := by decide +kernel
theorem dX10_stage_90 : decode cX10_stage 90 = .ok (.iconst 3, 1) := by decide +kernel
theorem dX10_stage_91 : decode cX10_stage 91 = .ok (.invokevirtual 152, 3) := by decide +kernel
theorem dX10_stage_94 : decode cX10_stage 94 = .ok (.aload 6, 2) := by decide +kernel
theorem dX10_stage_96 : decode cX10_stage 96 = .ok (.iconst 0, 1) := by decide +kernel
theorem dX10_stage_97 : decode cX10_stage 97 = .ok (.iconst 0, 1) := by decide +kernel
theorem dX10_stage_98 : decode cX10_stage 98 = .ok (.invokevirtual 156, 3) := by decide +kernel
theorem dX10_stage_101 : decode cX10_stage 101 = .ok (.aload 6, 2) := by decide +kernel
theorem dX10_stage_103 : decode cX10_stage 103 = .ok (.areturn, 1) := by decide +kernel
theorem dX10_unstage_0 : decode cX10_unstage 0 = .ok (.aload_n 0, 1) := by decide +kernel
theorem dX10_unstage_1 : decode cX10_unstage 1 = .ok (.getfield 18, 3) := by decide +kernel
theorem dX10_unstage_4 : decode cX10_unstage 4 = .ok (.iload_n 1, 1) := by decide +kernel
theorem dX10_unstage_5 : decode cX10_unstage 5 = .ok (.aaload, 1) := by decide +kernel
theorem dX10_unstage_6 : decode cX10_unstage 6 = .ok (.dup, 1) := by decide +kernel
theorem dX10_unstage_7 : decode cX10_unstage 7 = .ok (.getfield 204, 3) := by decide +kernel
theorem dX10_unstage_10 : decode cX10_unstage 10 = .ok (.iconst 2, 1) := by decide +kernel
theorem dX10_unstage_11 : decode cX10_unstage 11 = .ok (.isub, 1) := by decide +kernel
theorem dX10_unstage_12 : decode cX10_unstage 12 = .ok (.putfield 204, 3) := by decide +kernel
theorem dX10_unstage_15 : decode cX10_unstage 15 = .ok (.return_, 1) := by decide +kernel
theorem dX10_setsOfLandsWithSales_0 : decode cX10_setsOfLandsWithSales 0 = .ok (.iconst 0, 1) := by decide +kernel
theorem dX10_setsOfLandsWithSales_1 : decode cX10_setsOfLandsWithSales 1 = .ok (.istore_n 1, 1) := by decide +kernel
theorem dX10_setsOfLandsWithSales_2 : decode cX10_setsOfLandsWithSales 2 = .ok (.iconst 0, 1) := by decide +kernel
theorem dX10_setsOfLandsWithSales_3 : decode cX10_setsOfLandsWithSales 3 = .ok (.istore_n 2, 1) := by decide +kernel
theorem dX10_setsOfLandsWithSales_4 : decode cX10_setsOfLandsWithSales 4 = .ok (.iload_n 2, 1) := by decide +kernel
theorem dX10_setsOfLandsWithSales_5 : decode cX10_setsOfLandsWithSales 5 = .ok (.bipush 6, 2) := by decide +kernel
theorem dX10_setsOfLandsWithSales_7 : decode cX10_setsOfLandsWithSales 7 = .ok (.if_icmp .ge 28, 3) := by decide +kernel
theorem dX10_setsOfLandsWithSales_10 : decode cX10_setsOfLandsWithSales 10 = .ok (.aload_n 0, 1) := by decide +kernel
theorem dX10_setsOfLandsWithSales_11 : decode cX10_setsOfLandsWithSales 11 = .ok (.getfield 24, 3) := by decide +kernel
theorem dX10_setsOfLandsWithSales_14 : decode cX10_setsOfLandsWithSales 14 = .ok (.iload_n 2, 1) := by decide +kernel
theorem dX10_setsOfLandsWithSales_15 : decode cX10_setsOfLandsWithSales 15 = .ok (.aaload, 1) := by decide +kernel
theorem dX10_setsOfLandsWithSales_16 : decode cX10_setsOfLandsWithSales 16 = .ok (.iconst 0, 1) := by decide +kernel
theorem dX10_setsOfLandsWithSales_17 : decode cX10_setsOfLandsWithSales 17 = .ok (.invokevirtual 295, 3) := by decide +kernel
theorem dX10_setsOfLandsWithSales_20 : decode cX10_setsOfLandsWithSales 20 = .ok (.ifCond .eq 9, 3) := by decide +kernel
theorem dX10_setsOfLandsWithSales_23 : decode cX10_setsOfLandsWithSales 23 = .ok (.iload_n 1, 1) := by decide +kernel
theorem dX10_setsOfLandsWithSales_24 : decode cX10_setsOfLandsWithSales 24 = .ok (.iconst 1, 1) := by decide +kernel
theorem dX10_setsOfLandsWithSales_25 : decode cX10_setsOfLandsWithSales 25 = .ok (.iload_n 2, 1) := by decide +kernel
theorem dX10_setsOfLandsWithSales_26 : decode cX10_setsOfLandsWithSales 26 = .ok (.ishl, 1) := by decide +kernel
theorem dX10_setsOfLandsWithSales_27 : decode cX10_setsOfLandsWithSales 27 = .ok (.ior, 1) := by decide +kernel
theorem dX10_setsOfLandsWithSales_28 : decode cX10_setsOfLandsWithSales 28 = .ok (.istore_n 1, 1) := by decide +kernel
theorem dX10_setsOfLandsWithSales_29 : decode cX10_setsOfLandsWithSales 29 = .ok (.iinc 2 1, 3) := by decide +kernel
theorem dX10_setsOfLandsWithSales_32 : decode cX10_setsOfLandsWithSales 32 = .ok (.goto (-28), 3) := by decide +kernel
theorem dX10_setsOfLandsWithSales_35 : decode cX10_setsOfLandsWithSales 35 = .ok (.lconst 0, 1) := by decide +kernel
theorem dX10_setsOfLandsWithSales_36 : decode cX10_setsOfLandsWithSales 36 = .ok (.lstore_n 2, 1) := by decide +kernel
theorem dX10_setsOfLandsWithSales_37 : decode cX10_setsOfLandsWithSales 37 = .ok (.iconst 0, 1) := by decide +kernel
theorem dX10_setsOfLandsWithSales_38 : decode cX10_setsOfLandsWithSales 38 = .ok (.istore 4, 2) := by decide +kernel
theorem dX10_setsOfLandsWithSales_40 : decode cX10_setsOfLandsWithSales 40 = .ok (.iload 4, 2) := by decide +kernel
theorem dX10_setsOfLandsWithSales_42 : decode cX10_setsOfLandsWithSales 42 = .ok (.bipush 64, 2) := by decide +kernel
theorem dX10_setsOfLandsWithSales_44 : decode cX10_setsOfLandsWithSales 44 = .ok (.if_icmp .ge 25, 3) := by decide +kernel
theorem dX10_setsOfLandsWithSales_47 : decode cX10_setsOfLandsWithSales 47 = .ok (.iload 4, 2) := by decide +kernel
theorem dX10_setsOfLandsWithSales_49 : decode cX10_setsOfLandsWithSales 49 = .ok (.iload_n 1, 1) := by decide +kernel
theorem dX10_setsOfLandsWithSales_50 : decode cX10_setsOfLandsWithSales 50 = .ok (.iconst (-1), 1) := by decide +kernel
theorem dX10_setsOfLandsWithSales_51 : decode cX10_setsOfLandsWithSales 51 = .ok (.ixor, 1) := by decide +kernel
theorem dX10_setsOfLandsWithSales_52 : decode cX10_setsOfLandsWithSales 52 = .ok (.iand, 1) := by decide +kernel
theorem dX10_setsOfLandsWithSales_53 : decode cX10_setsOfLandsWithSales 53 = .ok (.ifCond .ne 10, 3) := by decide +kernel
theorem dX10_setsOfLandsWithSales_56 : decode cX10_setsOfLandsWithSales 56 = .ok (.lload_n 2, 1) := by decide +kernel
theorem dX10_setsOfLandsWithSales_57 : decode cX10_setsOfLandsWithSales 57 = .ok (.lconst 1, 1) := by decide +kernel
theorem dX10_setsOfLandsWithSales_58 : decode cX10_setsOfLandsWithSales 58 = .ok (.iload 4, 2) := by decide +kernel
theorem dX10_setsOfLandsWithSales_60 : decode cX10_setsOfLandsWithSales 60 = .ok (.lshl, 1) := by decide +kernel
theorem dX10_setsOfLandsWithSales_61 : decode cX10_setsOfLandsWithSales 61 = .ok (.lor, 1) := by decide +kernel
theorem dX10_setsOfLandsWithSales_62 : decode cX10_setsOfLandsWithSales 62 = .ok (.lstore_n 2, 1) := by decide +kernel
theorem dX10_setsOfLandsWithSales_63 : decode cX10_setsOfLandsWithSales 63 = .ok (.iinc 4 1, 3) := by decide +kernel
theorem dX10_setsOfLandsWithSales_66 : decode cX10_setsOfLandsWithSales 66 = .ok (.goto (-26), 3) := by decide +kernel
theorem dX10_setsOfLandsWithSales_69 : decode cX10_setsOfLandsWithSales 69 = .ok (.lload_n 2, 1) := by decide +kernel
theorem dX10_setsOfLandsWithSales_70 : decode cX10_setsOfLandsWithSales 70 = .ok (.lreturn, 1) := by decide +kernel
theorem dX10_setsThatGive_0 : decode cX10_setsThatGive 0 = .ok (.lload_n 1, 1) := by decide +kernel
theorem dX10_setsThatGive_1 : decode cX10_setsThatGive 1 = .ok (.lstore 5, 2) := by decide +kernel
theorem dX10_setsThatGive_3 : decode cX10_setsThatGive 3 = .ok (.iconst 0, 1) := by decide +kernel
theorem dX10_setsThatGive_4 : decode cX10_setsThatGive 4 = .ok (.istore 7, 2) := by decide +kernel
theorem dX10_setsThatGive_6 : decode cX10_setsThatGive 6 = .ok (.iload 7, 2) := by decide +kernel
theorem dX10_setsThatGive_8 : decode cX10_setsThatGive 8 = .ok (.bipush 64, 2) := by decide +kernel
theorem dX10_setsThatGive_10 : decode cX10_setsThatGive 10 = .ok (.if_icmp .ge 70, 3) := by decide +kernel
theorem dX10_setsThatGive_13 : decode cX10_setsThatGive 13 = .ok (.lload_n 1, 1) := by decide +kernel
theorem dX10_setsThatGive_14 : decode cX10_setsThatGive 14 = .ok (.iload 7, 2) := by decide +kernel
theorem dX10_setsThatGive_16 : decode cX10_setsThatGive 16 = .ok (.lushr, 1) := by decide +kernel
theorem dX10_setsThatGive_17 : decode cX10_setsThatGive 17 = .ok (.lconst 1, 1) := by decide +kernel
theorem dX10_setsThatGive_18 : decode cX10_setsThatGive 18 = .ok (.land, 1) := by decide +kernel
theorem dX10_setsThatGive_19 : decode cX10_setsThatGive 19 = .ok (.lconst 0, 1) := by decide +kernel
theorem dX10_setsThatGive_20 : decode cX10_setsThatGive 20 = .ok (.lcmp, 1) := by decide +kernel
theorem dX10_setsThatGive_21 : decode cX10_setsThatGive 21 = .ok (.ifCond .eq 53, 3) := by decide +kernel
theorem dX10_setsThatGive_24 : decode cX10_setsThatGive 24 = .ok (.aload_n 0, 1) := by decide +kernel
theorem dX10_setsThatGive_25 : decode cX10_setsThatGive 25 = .ok (.getfield 77, 3) := by decide +kernel
theorem dX10_setsThatGive_28 : decode cX10_setsThatGive 28 = .ok (.iload 7, 2) := by decide +kernel
theorem dX10_setsThatGive_30 : decode cX10_setsThatGive 30 = .ok (.putfield 298, 3) := by decide +kernel
theorem dX10_setsThatGive_33 : decode cX10_setsThatGive 33 = .ok (.aload_n 0, 1) := by decide +kernel
theorem dX10_setsThatGive_34 : decode cX10_setsThatGive 34 = .ok (.getfield 77, 3) := by decide +kernel
theorem dX10_setsThatGive_37 : decode cX10_setsThatGive 37 = .ok (.invokevirtual 289, 3) := by decide +kernel
theorem dX10_setsThatGive_40 : decode cX10_setsThatGive 40 = .ok (.aload_n 0, 1) := by decide +kernel
theorem dX10_setsThatGive_41 : decode cX10_setsThatGive 41 = .ok (.getfield 77, 3) := by decide +kernel
theorem dX10_setsThatGive_44 : decode cX10_setsThatGive 44 = .ok (.invokevirtual 292, 3) := by decide +kernel
theorem dX10_setsThatGive_47 : decode cX10_setsThatGive 47 = .ok (.iload_n 3, 1) := by decide +kernel
theorem dX10_setsThatGive_48 : decode cX10_setsThatGive 48 = .ok (.if_icmp .ne 7, 3) := by decide +kernel
theorem dX10_setsThatGive_51 : decode cX10_setsThatGive 51 = .ok (.iconst 1, 1) := by decide +kernel
theorem dX10_setsThatGive_52 : decode cX10_setsThatGive 52 = .ok (.goto 4, 3) := by decide +kernel
theorem dX10_setsThatGive_55 : decode cX10_setsThatGive 55 = .ok (.iconst 0, 1) := by decide +kernel
theorem dX10_setsThatGive_56 : decode cX10_setsThatGive 56 = .ok (.iload 4, 2) := by decide +kernel
theorem dX10_setsThatGive_58 : decode cX10_setsThatGive 58 = .ok (.if_icmp .eq 16, 3) := by decide +kernel
theorem dX10_setsThatGive_61 : decode cX10_setsThatGive 61 = .ok (.lload 5, 2) := by decide +kernel
theorem dX10_setsThatGive_63 : decode cX10_setsThatGive 63 = .ok (.lconst 1, 1) := by decide +kernel
theorem dX10_setsThatGive_64 : decode cX10_setsThatGive 64 = .ok (.iload 7, 2) := by decide +kernel
theorem dX10_setsThatGive_66 : decode cX10_setsThatGive 66 = .ok (.lshl, 1) := by decide +kernel
theorem dX10_setsThatGive_67 : decode cX10_setsThatGive 67 = .ok (.ldc2_w 301, 3) := by decide +kernel
theorem dX10_setsThatGive_70 : decode cX10_setsThatGive 70 = .ok (.lxor, 1) := by decide +kernel
theorem dX10_setsThatGive_71 : decode cX10_setsThatGive 71 = .ok (.land, 1) := by decide +kernel
theorem dX10_setsThatGive_72 : decode cX10_setsThatGive 72 = .ok (.lstore 5, 2) := by decide +kernel
theorem dX10_setsThatGive_74 : decode cX10_setsThatGive 74 = .ok (.iinc 7 1, 3) := by decide +kernel
theorem dX10_setsThatGive_77 : decode cX10_setsThatGive 77 = .ok (.goto (-71), 3) := by decide +kernel
theorem dX10_setsThatGive_80 : decode cX10_setsThatGive 80 = .ok (.lload 5, 2) := by decide +kernel
theorem dX10_setsThatGive_82 : decode cX10_setsThatGive 82 = .ok (.lreturn, 1) := by decide +kernel
theorem dX10_leastSet_0 : decode cX10_leastSet 0 = .ok (.iconst 0, 1) := by decide +kernel
theorem dX10_leastSet_1 : decode cX10_leastSet 1 = .ok (.istore_n 2, 1) := by decide +kernel
theorem dX10_leastSet_2 : decode cX10_leastSet 2 = .ok (.iload_n 2, 1) := by decide +kernel
theorem dX10_leastSet_3 : decode cX10_leastSet 3 = .ok (.bipush 6, 2) := by decide +kernel
theorem dX10_leastSet_5 : decode cX10_leastSet 5 = .ok (.if_icmp .gt 43, 3) := by decide +kernel
theorem dX10_leastSet_8 : decode cX10_leastSet 8 = .ok (.iconst 0, 1) := by decide +kernel
theorem dX10_leastSet_9 : decode cX10_leastSet 9 = .ok (.istore_n 3, 1) := by decide +kernel
theorem dX10_leastSet_10 : decode cX10_leastSet 10 = .ok (.iload_n 3, 1) := by decide +kernel
theorem dX10_leastSet_11 : decode cX10_leastSet 11 = .ok (.bipush 64, 2) := by decide +kernel
theorem dX10_leastSet_13 : decode cX10_leastSet 13 = .ok (.if_icmp .ge 29, 3) := by decide +kernel
theorem dX10_leastSet_16 : decode cX10_leastSet 16 = .ok (.iload_n 3, 1) := by decide +kernel
theorem dX10_leastSet_17 : decode cX10_leastSet 17 = .ok (.invokestatic 303, 3) := by decide +kernel
theorem dX10_leastSet_20 : decode cX10_leastSet 20 = .ok (.iload_n 2, 1) := by decide +kernel
theorem dX10_leastSet_21 : decode cX10_leastSet 21 = .ok (.if_icmp .ne 15, 3) := by decide +kernel
theorem dX10_leastSet_24 : decode cX10_leastSet 24 = .ok (.lload_n 0, 1) := by decide +kernel
theorem dX10_leastSet_25 : decode cX10_leastSet 25 = .ok (.iload_n 3, 1) := by decide +kernel
theorem dX10_leastSet_26 : decode cX10_leastSet 26 = .ok (.lushr, 1) := by decide +kernel
theorem dX10_leastSet_27 : decode cX10_leastSet 27 = .ok (.lconst 1, 1) := by decide +kernel
theorem dX10_leastSet_28 : decode cX10_leastSet 28 = .ok (.land, 1) := by decide +kernel
theorem dX10_leastSet_29 : decode cX10_leastSet 29 = .ok (.lconst 0, 1) := by decide +kernel
theorem dX10_leastSet_30 : decode cX10_leastSet 30 = .ok (.lcmp, 1) := by decide +kernel
theorem dX10_leastSet_31 : decode cX10_leastSet 31 = .ok (.ifCond .eq 5, 3) := by decide +kernel
theorem dX10_leastSet_34 : decode cX10_leastSet 34 = .ok (.iload_n 3, 1) := by decide +kernel
theorem dX10_leastSet_35 : decode cX10_leastSet 35 = .ok (.ireturn, 1) := by decide +kernel
theorem dX10_leastSet_36 : decode cX10_leastSet 36 = .ok (.iinc 3 1, 3) := by decide +kernel
theorem dX10_leastSet_39 : decode cX10_leastSet 39 = .ok (.goto (-29), 3) := by decide +kernel
theorem dX10_leastSet_42 : decode cX10_leastSet 42 = .ok (.iinc 2 1, 3) := by decide +kernel
theorem dX10_leastSet_45 : decode cX10_leastSet 45 = .ok (.goto (-43), 3) := by decide +kernel
theorem dX10_leastSet_48 : decode cX10_leastSet 48 = .ok (.bipush (-2), 2) := by decide +kernel
theorem dX10_leastSet_50 : decode cX10_leastSet 50 = .ok (.ireturn, 1) := by decide +kernel
theorem dX11_init_0 : decode cX11_init 0 = .ok (.aload_n 0, 1) := by decide +kernel
theorem dX11_init_1 : decode cX11_init 1 = .ok (.invokespecial 1, 3) := by decide +kernel
theorem dX11_init_4 : decode cX11_init 4 = .ok (.aload_n 0, 1) := by decide +kernel
theorem dX11_init_5 : decode cX11_init 5 = .ok (.bipush 12, 2) := by decide +kernel
theorem dX11_init_7 : decode cX11_init 7 = .ok (.newarray .int, 2) := by decide +kernel
theorem dX11_init_9 : decode cX11_init 9 = .ok (.putfield 7, 3) := by decide +kernel
theorem dX11_init_12 : decode cX11_init 12 = .ok (.aload_n 0, 1) := by decide +kernel
theorem dX11_init_13 : decode cX11_init 13 = .ok (.bipush 12, 2) := by decide +kernel
theorem dX11_init_15 : decode cX11_init 15 = .ok (.newarray .int, 2) := by decide +kernel
theorem dX11_init_17 : decode cX11_init 17 = .ok (.putfield 13, 3) := by decide +kernel
theorem dX11_init_20 : decode cX11_init 20 = .ok (.aload_n 0, 1) := by decide +kernel
theorem dX11_init_21 : decode cX11_init 21 = .ok (.iconst 4, 1) := by decide +kernel
theorem dX11_init_22 : decode cX11_init 22 = .ok (.newarray .int, 2) := by decide +kernel
theorem dX11_init_24 : decode cX11_init 24 = .ok (.putfield 16, 3) := by decide +kernel
theorem dX11_init_27 : decode cX11_init 27 = .ok (.aload_n 0, 1) := by decide +kernel
theorem dX11_init_28 : decode cX11_init 28 = .ok (.iconst 4, 1) := by decide +kernel
theorem dX11_init_29 : decode cX11_init 29 = .ok (.newarray .int, 2) := by decide +kernel
theorem dX11_init_31 : decode cX11_init 31 = .ok (.putfield 19, 3) := by decide +kernel
theorem dX11_init_34 : decode cX11_init 34 = .ok (.aload_n 0, 1) := by decide +kernel
theorem dX11_init_35 : decode cX11_init 35 = .ok (.iconst 4, 1) := by decide +kernel
theorem dX11_init_36 : decode cX11_init 36 = .ok (.newarray .int, 2) := by decide +kernel
theorem dX11_init_38 : decode cX11_init 38 = .ok (.putfield 22, 3) := by decide +kernel
theorem dX11_init_41 : decode cX11_init 41 = .ok (.aload_n 0, 1) := by decide +kernel
theorem dX11_init_42 : decode cX11_init 42 = .ok (.iconst 4, 1) := by decide +kernel
theorem dX11_init_43 : decode cX11_init 43 = .ok (.newarray .int, 2) := by decide +kernel
theorem dX11_init_45 : decode cX11_init 45 = .ok (.putfield 25, 3) := by decide +kernel
theorem dX11_init_48 : decode cX11_init 48 = .ok (.aload_n 0, 1) := by decide +kernel
theorem dX11_init_49 : decode cX11_init 49 = .ok (.bipush 88, 2) := by decide +kernel
theorem dX11_init_51 : decode cX11_init 51 = .ok (.newarray .int, 2) := by decide +kernel
theorem dX11_init_53 : decode cX11_init 53 = .ok (.putfield 28, 3) := by decide +kernel
theorem dX11_init_56 : decode cX11_init 56 = .ok (.aload_n 0, 1) := by decide +kernel
theorem dX11_init_57 : decode cX11_init 57 = .ok (.bipush 88, 2) := by decide +kernel
theorem dX11_init_59 : decode cX11_init 59 = .ok (.newarray .int, 2) := by decide +kernel
theorem dX11_init_61 : decode cX11_init 61 = .ok (.putfield 31, 3) := by decide +kernel
theorem dX11_init_64 : decode cX11_init 64 = .ok (.aload_n 0, 1) := by decide +kernel
theorem dX11_init_65 : decode cX11_init 65 = .ok (.bipush 88, 2) := by decide +kernel
theorem dX11_init_67 : decode cX11_init 67 = .ok (.newarray .int, 2) := by decide +kernel
theorem dX11_init_69 : decode cX11_init 69 = .ok (.putfield 34, 3) := by decide +kernel
theorem dX11_init_72 : decode cX11_init 72 = .ok (.aload_n 0, 1) := by decide +kernel
theorem dX11_init_73 : decode cX11_init 73 = .ok (.bipush 88, 2) := by decide +kernel
theorem dX11_init_75 : decode cX11_init 75 = .ok (.newarray .int, 2) := by decide +kernel
theorem dX11_init_77 : decode cX11_init 77 = .ok (.putfield 37, 3) := by decide +kernel
theorem dX11_init_80 : decode cX11_init 80 = .ok (.aload_n 0, 1) := by decide +kernel
theorem dX11_init_81 : decode cX11_init 81 = .ok (.bipush 88, 2) := by decide +kernel
theorem dX11_init_83 : decode cX11_init 83 = .ok (.newarray .int, 2) := by decide +kernel
theorem dX11_init_85 : decode cX11_init 85 = .ok (.putfield 40, 3) := by decide +kernel
theorem dX11_init_88 : decode cX11_init 88 = .ok (.aload_n 0, 1) := by decide +kernel
theorem dX11_init_89 : decode cX11_init 89 = .ok (.bipush 88, 2) := by decide +kernel
theorem dX11_init_91 : decode cX11_init 91 = .ok (.newarray .int, 2) := by decide +kernel
theorem dX11_init_93 : decode cX11_init 93 = .ok (.putfield 43, 3) := by decide +kernel
theorem dX11_init_96 : decode cX11_init 96 = .ok (.aload_n 0, 1) := by decide +kernel
theorem dX11_init_97 : decode cX11_init 97 = .ok (.bipush 88, 2) := by decide +kernel
theorem dX11_init_99 : decode cX11_init 99 = .ok (.newarray .int, 2) := by decide +kernel
theorem dX11_init_101 : decode cX11_init 101 = .ok (.putfield 46, 3) := by decide +kernel
theorem dX11_init_104 : decode cX11_init 104 = .ok (.aload_n 0, 1) := by decide +kernel
theorem dX11_init_105 : decode cX11_init 105 = .ok (.bipush 88, 2) := by decide +kernel
theorem dX11_init_107 : decode cX11_init 107 = .ok (.newarray .int, 2) := by decide +kernel
theorem dX11_init_109 : decode cX11_init 109 = .ok (.putfield 49, 3) := by decide +kernel
theorem dX11_init_112 : decode cX11_init 112 = .ok (.aload_n 0, 1) := by decide +kernel
theorem dX11_init_113 : decode cX11_init 113 = .ok (.bipush 54, 2) := by decide +kernel
theorem dX11_init_115 : decode cX11_init 115 = .ok (.newarray .int, 2) := by decide +kernel
theorem dX11_init_117 : decode cX11_init 117 = .ok (.putfield 52, 3) := by decide +kernel
theorem dX11_init_120 : decode cX11_init 120 = .ok (.aload_n 0, 1) := by decide +kernel
theorem dX11_init_121 : decode cX11_init 121 = .ok (.bipush 36, 2) := by decide +kernel
theorem dX11_init_123 : decode cX11_init 123 = .ok (.newarray .int, 2) := by decide +kernel
theorem dX11_init_125 : decode cX11_init 125 = .ok (.putfield 55, 3) := by decide +kernel
theorem dX11_init_128 : decode cX11_init 128 = .ok (.aload_n 0, 1) := by decide +kernel
theorem dX11_init_129 : decode cX11_init 129 = .ok (.sipush 200, 3) := by decide +kernel
theorem dX11_init_132 : decode cX11_init 132 = .ok (.newarray .byte, 2) := by decide +kernel
theorem dX11_init_134 : decode cX11_init 134 = .ok (.putfield 58, 3) := by decide +kernel
theorem dX11_init_137 : decode cX11_init 137 = .ok (.aload_n 0, 1) := by decide +kernel
theorem dX11_init_138 : decode cX11_init 138 = .ok (.sipush 180, 3) := by decide +kernel
theorem dX11_init_141 : decode cX11_init 141 = .ok (.newarray .int, 2) := by decide +kernel
theorem dX11_init_143 : decode cX11_init 143 = .ok (.putfield 62, 3) := by decide +kernel
theorem dX11_init_146 : decode cX11_init 146 = .ok (.aload_n 0, 1) := by decide +kernel
theorem dX11_init_147 : decode cX11_init 147 = .ok (.sipush 180, 3) := by decide +kernel
theorem dX11_init_150 : decode cX11_init 150 = .ok (.newarray .int, 2) := by decide +kernel
theorem dX11_init_152 : decode cX11_init 152 = .ok (.putfield 65, 3) := by decide +kernel
theorem dX11_init_155 : decode cX11_init 155 = .ok (.aload_n 0, 1) := by decide +kernel
theorem dX11_init_156 : decode cX11_init 156 = .ok (.bipush 12, 2) := by decide +kernel
theorem dX11_init_158 : decode cX11_init 158 = .ok (.newarray .int, 2) := by decide +kernel
theorem dX11_init_160 : decode cX11_init 160 = .ok (.putfield 68, 3) := by decide +kernel
theorem dX11_init_163 : decode cX11_init 163 = .ok (.aload_n 0, 1) := by decide +kernel
theorem dX11_init_164 : decode cX11_init 164 = .ok (.bipush 12, 2) := by decide +kernel
theorem dX11_init_166 : decode cX11_init 166 = .ok (.newarray .int, 2) := by decide +kernel
theorem dX11_init_168 : decode cX11_init 168 = .ok (.putfield 71, 3) := by decide +kernel
theorem dX11_init_171 : decode cX11_init 171 = .ok (.aload_n 0, 1) := by decide +kernel
theorem dX11_init_172 : decode cX11_init 172 = .ok (.bipush 12, 2) := by decide +kernel
theorem dX11_init_174 : decode cX11_init 174 = .ok (.newarray .int, 2) := by decide +kernel
theorem dX11_init_176 : decode cX11_init 176 = .ok (.putfield 74, 3) := by decide +kernel
theorem dX11_init_179 : decode cX11_init 179 = .ok (.aload_n 0, 1) := by decide +kernel
theorem dX11_init_180 : decode cX11_init 180 = .ok (.sipush 1080, 3) := by decide +kernel
theorem dX11_init_183 : decode cX11_init 183 = .ok (.newarray .int, 2) := by decide +kernel
theorem dX11_init_185 : decode cX11_init 185 = .ok (.putfield 77, 3) := by decide +kernel
theorem dX11_init_188 : decode cX11_init 188 = .ok (.aload_n 0, 1) := by decide +kernel
theorem dX11_init_189 : decode cX11_init 189 = .ok (.bipush 6, 2) := by decide +kernel
theorem dX11_init_191 : decode cX11_init 191 = .ok (.newarray .int, 2) := by decide +kernel
theorem dX11_init_193 : decode cX11_init 193 = .ok (.putfield 80, 3) := by decide +kernel
theorem dX11_init_196 : decode cX11_init 196 = .ok (.aload_n 0, 1) := by decide +kernel
theorem dX11_init_197 : decode cX11_init 197 = .ok (.bipush 72, 2) := by decide +kernel
theorem dX11_init_199 : decode cX11_init 199 = .ok (.newarray .int, 2) := by decide +kernel
theorem dX11_init_201 : decode cX11_init 201 = .ok (.putfield 83, 3) := by decide +kernel
theorem dX11_init_204 : decode cX11_init 204 = .ok (.aload_n 0, 1) := by decide +kernel
theorem dX11_init_205 : decode cX11_init 205 = .ok (.bipush 72, 2) := by decide +kernel
theorem dX11_init_207 : decode cX11_init 207 = .ok (.newarray .int, 2) := by decide +kernel
theorem dX11_init_209 : decode cX11_init 209 = .ok (.putfield 86, 3) := by decide +kernel
theorem dX11_init_212 : decode cX11_init 212 = .ok (.aload_n 0, 1) := by decide +kernel
theorem dX11_init_213 : decode cX11_init 213 = .ok (.bipush 72, 2) := by decide +kernel
theorem dX11_init_215 : decode cX11_init 215 = .ok (.newarray .int, 2) := by decide +kernel
theorem dX11_init_217 : decode cX11_init 217 = .ok (.putfield 89, 3) := by decide +kernel
theorem dX11_init_220 : decode cX11_init 220 = .ok (.aload_n 0, 1) := by decide +kernel
theorem dX11_init_221 : decode cX11_init 221 = .ok (.sipush 180, 3) := by decide +kernel
theorem dX11_init_224 : decode cX11_init 224 = .ok (.newarray .int, 2) := by decide +kernel
theorem dX11_init_226 : decode cX11_init 226 = .ok (.putfield 92, 3) := by decide +kernel
theorem dX11_init_229 : decode cX11_init 229 = .ok (.aload_n 0, 1) := by decide +kernel
theorem dX11_init_230 : decode cX11_init 230 = .ok (.bipush 13, 2) := by decide +kernel
theorem dX11_init_232 : decode cX11_init 232 = .ok (.newarray .int, 2) := by decide +kernel
theorem dX11_init_234 : decode cX11_init 234 = .ok (.putfield 95, 3) := by decide +kernel
theorem dX11_init_237 : decode cX11_init 237 = .ok (.aload_n 0, 1) := by decide +kernel
theorem dX11_init_238 : decode cX11_init 238 = .ok (.bipush 22, 2) := by decide +kernel
theorem dX11_init_240 : decode cX11_init 240 = .ok (.newarray .int, 2) := by decide +kernel
theorem dX11_init_242 : decode cX11_init 242 = .ok (.putfield 98, 3) := by decide +kernel
theorem dX11_init_245 : decode cX11_init 245 = .ok (.aload_n 0, 1) := by decide +kernel
theorem dX11_init_246 : decode cX11_init 246 = .ok (.bipush 22, 2) := by decide +kernel
theorem dX11_init_248 : decode cX11_init 248 = .ok (.newarray .int, 2) := by decide +kernel
theorem dX11_init_250 : decode cX11_init 250 = .ok (.putfield 101, 3) := by decide +kernel
theorem dX11_init_253 : decode cX11_init 253 = .ok (.aload_n 0, 1) := by decide +kernel
theorem dX11_init_254 : decode cX11_init 254 = .ok (.bipush 22, 2) := by decide +kernel
theorem dX11_init_256 : decode cX11_init 256 = .ok (.newarray .int, 2) := by decide +kernel
theorem dX11_init_258 : decode cX11_init 258 = .ok (.putfield 104, 3) := by decide +kernel
theorem dX11_init_261 : decode cX11_init 261 = .ok (.aload_n 0, 1) := by decide +kernel
theorem dX11_init_262 : decode cX11_init 262 = .ok (.bipush 22, 2) := by decide +kernel
theorem dX11_init_264 : decode cX11_init 264 = .ok (.newarray .int, 2) := by decide +kernel
theorem dX11_init_266 : decode cX11_init 266 = .ok (.putfield 107, 3) := by decide +kernel
theorem dX11_init_269 : decode cX11_init 269 = .ok (.aload_n 0, 1) := by decide +kernel
theorem dX11_init_270 : decode cX11_init 270 = .ok (.bipush 22, 2) := by decide +kernel
theorem dX11_init_272 : decode cX11_init 272 = .ok (.newarray .int, 2) := by decide +kernel
theorem dX11_init_274 : decode cX11_init 274 = .ok (.putfield 110, 3) := by decide +kernel
theorem dX11_init_277 : decode cX11_init 277 = .ok (.aload_n 0, 1) := by decide +kernel
theorem dX11_init_278 : decode cX11_init 278 = .ok (.bipush 22, 2) := by decide +kernel
theorem dX11_init_280 : decode cX11_init 280 = .ok (.newarray .int, 2) := by decide +kernel
theorem dX11_init_282 : decode cX11_init 282 = .ok (.putfield 113, 3) := by decide +kernel
theorem dX11_init_285 : decode cX11_init 285 = .ok (.aload_n 0, 1) := by decide +kernel
theorem dX11_init_286 : decode cX11_init 286 = .ok (.bipush 22, 2) := by decide +kernel
theorem dX11_init_288 : decode cX11_init 288 = .ok (.newarray .int, 2) := by decide +kernel
theorem dX11_init_290 : decode cX11_init 290 = .ok (.putfield 116, 3) := by decide +kernel
theorem dX11_init_293 : decode cX11_init 293 = .ok (.aload_n 0, 1) := by decide +kernel
theorem dX11_init_294 : decode cX11_init 294 = .ok (.bipush 22, 2) := by decide +kernel
theorem dX11_init_296 : decode cX11_init 296 = .ok (.newarray .boolean, 2) := by decide +kernel
theorem dX11_init_298 : decode cX11_init 298 = .ok (.putfield 119, 3) := by decide +kernel
theorem dX11_init_301 : decode cX11_init 301 = .ok (.aload_n 0, 1) := by decide +kernel
theorem dX11_init_302 : decode cX11_init 302 = .ok (.bipush 20, 2) := by decide +kernel
theorem dX11_init_304 : decode cX11_init 304 = .ok (.newarray .int, 2) := by decide +kernel
theorem dX11_init_306 : decode cX11_init 306 = .ok (.putfield 123, 3) := by decide +kernel
theorem dX11_init_309 : decode cX11_init 309 = .ok (.aload_n 0, 1) := by decide +kernel
theorem dX11_init_310 : decode cX11_init 310 = .ok (.bipush 9, 2) := by decide +kernel
theorem dX11_init_312 : decode cX11_init 312 = .ok (.newarray .int, 2) := by decide +kernel
theorem dX11_init_314 : decode cX11_init 314 = .ok (.putfield 126, 3) := by decide +kernel
theorem dX11_init_317 : decode cX11_init 317 = .ok (.aload_n 0, 1) := by decide +kernel
theorem dX11_init_318 : decode cX11_init 318 = .ok (.sipush 6561, 3) := by decide +kernel
theorem dX11_init_321 : decode cX11_init 321 = .ok (.newarray .int, 2) := by decide +kernel
theorem dX11_init_323 : decode cX11_init 323 = .ok (.putfield 129, 3) := by decide +kernel
theorem dX11_init_326 : decode cX11_init 326 = .ok (.aload_n 0, 1) := by decide +kernel
theorem dX11_init_327 : decode cX11_init 327 = .ok (.bipush 20, 2) := by decide +kernel
theorem dX11_init_329 : decode cX11_init 329 = .ok (.newarray .int, 2) := by decide +kernel
theorem dX11_init_331 : decode cX11_init 331 = .ok (.putfield 132, 3) := by decide +kernel
theorem dX11_init_334 : decode cX11_init 334 = .ok (.aload_n 0, 1) := by decide +kernel
theorem dX11_init_335 : decode cX11_init 335 = .ok (.bipush 20, 2) := by decide +kernel
theorem dX11_init_337 : decode cX11_init 337 = .ok (.newarray .int, 2) := by decide +kernel
theorem dX11_init_339 : decode cX11_init 339 = .ok (.putfield 135, 3) := by decide +kernel
theorem dX11_init_342 : decode cX11_init 342 = .ok (.aload_n 0, 1) := by decide +kernel
theorem dX11_init_343 : decode cX11_init 343 = .ok (.bipush 12, 2) := by decide +kernel
theorem dX11_init_345 : decode cX11_init 345 = .ok (.newarray .int, 2) := by decide +kernel
theorem dX11_init_347 : decode cX11_init 347 = .ok (.putfield 138, 3) := by decide +kernel
theorem dX11_init_350 : decode cX11_init 350 = .ok (.aload_n 0, 1) := by decide +kernel
theorem dX11_init_351 : decode cX11_init 351 = .ok (.bipush 6, 2) := by decide +kernel
theorem dX11_init_353 : decode cX11_init 353 = .ok (.newarray .int, 2) := by decide +kernel
theorem dX11_init_355 : decode cX11_init 355 = .ok (.putfield 141, 3) := by decide +kernel
theorem dX11_init_358 : decode cX11_init 358 = .ok (.aload_n 0, 1) := by decide +kernel
theorem dX11_init_359 : decode cX11_init 359 = .ok (.iconst 4, 1) := by decide +kernel
theorem dX11_init_360 : decode cX11_init 360 = .ok (.newarray .int, 2) := by decide +kernel
theorem dX11_init_362 : decode cX11_init 362 = .ok (.putfield 144, 3) := by decide +kernel
theorem dX11_init_365 : decode cX11_init 365 = .ok (.iconst 0, 1) := by decide +kernel
theorem dX11_init_366 : decode cX11_init 366 = .ok (.istore_n 1, 1) := by decide +kernel
theorem dX11_init_367 : decode cX11_init 367 = .ok (.iload_n 1, 1) := by decide +kernel
theorem dX11_init_368 : decode cX11_init 368 = .ok (.bipush 54, 2) := by decide +kernel
theorem dX11_init_370 : decode cX11_init 370 = .ok (.if_icmp .ge 16, 3) := by decide +kernel
theorem dX11_init_373 : decode cX11_init 373 = .ok (.aload_n 0, 1) := by decide +kernel
theorem dX11_init_374 : decode cX11_init 374 = .ok (.getfield 52, 3) := by decide +kernel
theorem dX11_init_377 : decode cX11_init 377 = .ok (.iload_n 1, 1) := by decide +kernel
theorem dX11_init_378 : decode cX11_init 378 = .ok (.iconst 1, 1) := by decide +kernel
theorem dX11_init_379 : decode cX11_init 379 = .ok (.iastore, 1) := by decide +kernel
theorem dX11_init_380 : decode cX11_init 380 = .ok (.iinc 1 1, 3) := by decide +kernel
theorem dX11_init_383 : decode cX11_init 383 = .ok (.goto (-16), 3) := by decide +kernel
theorem dX11_init_386 : decode cX11_init 386 = .ok (.iconst 0, 1) := by decide +kernel
theorem dX11_init_387 : decode cX11_init 387 = .ok (.istore_n 1, 1) := by decide +kernel
theorem dX11_init_388 : decode cX11_init 388 = .ok (.iload_n 1, 1) := by decide +kernel
theorem dX11_init_389 : decode cX11_init 389 = .ok (.bipush 36, 2) := by decide +kernel
theorem dX11_init_391 : decode cX11_init 391 = .ok (.if_icmp .ge 16, 3) := by decide +kernel
theorem dX11_init_394 : decode cX11_init 394 = .ok (.aload_n 0, 1) := by decide +kernel
theorem dX11_init_395 : decode cX11_init 395 = .ok (.getfield 55, 3) := by decide +kernel
theorem dX11_init_398 : decode cX11_init 398 = .ok (.iload_n 1, 1) := by decide +kernel
theorem dX11_init_399 : decode cX11_init 399 = .ok (.iconst (-1), 1) := by decide +kernel
theorem dX11_init_400 : decode cX11_init 400 = .ok (.iastore, 1) := by decide +kernel
theorem dX11_init_401 : decode cX11_init 401 = .ok (.iinc 1 1, 3) := by decide +kernel
theorem dX11_init_404 : decode cX11_init 404 = .ok (.goto (-16), 3) := by decide +kernel
theorem dX11_init_407 : decode cX11_init 407 = .ok (.return_, 1) := by decide +kernel
theorem dX11_in_0 : decode cX11_in 0 = .ok (.iload_n 0, 1) := by decide +kernel
theorem dX11_in_1 : decode cX11_in 1 = .ok (.iload_n 1, 1) := by decide +kernel
theorem dX11_in_2 : decode cX11_in 2 = .ok (.if_icmp .lt 12, 3) := by decide +kernel
theorem dX11_in_5 : decode cX11_in 5 = .ok (.iload_n 0, 1) := by decide +kernel
theorem dX11_in_6 : decode cX11_in 6 = .ok (.iload_n 2, 1) := by decide +kernel
theorem dX11_in_7 : decode cX11_in 7 = .ok (.if_icmp .gt 7, 3) := by decide +kernel
theorem dX11_in_10 : decode cX11_in 10 = .ok (.iconst 1, 1) := by decide +kernel
theorem dX11_in_11 : decode cX11_in 11 = .ok (.goto 4, 3) := by decide +kernel
theorem dX11_in_14 : decode cX11_in 14 = .ok (.iconst 0, 1) := by decide +kernel
theorem dX11_in_15 : decode cX11_in 15 = .ok (.ireturn, 1) := by decide +kernel
theorem dX11_isLand_0 : decode cX11_isLand 0 = .ok (.iload_n 0, 1) := by decide +kernel
theorem dX11_isLand_1 : decode cX11_isLand 1 = .ok (.ifCond .lt 13, 3) := by decide +kernel
theorem dX11_isLand_4 : decode cX11_isLand 4 = .ok (.iload_n 0, 1) := by decide +kernel
theorem dX11_isLand_5 : decode cX11_isLand 5 = .ok (.bipush 6, 2) := by decide +kernel
theorem dX11_isLand_7 : decode cX11_isLand 7 = .ok (.if_icmp .ge 7, 3) := by decide +kernel
theorem dX11_isLand_10 : decode cX11_isLand 10 = .ok (.iconst 1, 1) := by decide +kernel
theorem dX11_isLand_11 : decode cX11_isLand 11 = .ok (.goto 4, 3) := by decide +kernel
theorem dX11_isLand_14 : decode cX11_isLand 14 = .ok (.iconst 0, 1) := by decide +kernel
theorem dX11_isLand_15 : decode cX11_isLand 15 = .ok (.ireturn, 1) := by decide +kernel
theorem dX11_isPerson_0 : decode cX11_isPerson 0 = .ok (.iload_n 1, 1) := by decide +kernel
theorem dX11_isPerson_1 : decode cX11_isPerson 1 = .ok (.ifCond .lt 15, 3) := by decide +kernel
theorem dX11_isPerson_4 : decode cX11_isPerson 4 = .ok (.iload_n 1, 1) := by decide +kernel
theorem dX11_isPerson_5 : decode cX11_isPerson 5 = .ok (.aload_n 0, 1) := by decide +kernel
theorem dX11_isPerson_6 : decode cX11_isPerson 6 = .ok (.getfield 147, 3) := by decide +kernel
theorem dX11_isPerson_9 : decode cX11_isPerson 9 = .ok (.if_icmp .ge 7, 3) := by decide +kernel
theorem dX11_isPerson_12 : decode cX11_isPerson 12 = .ok (.iconst 1, 1) := by decide +kernel
theorem dX11_isPerson_13 : decode cX11_isPerson 13 = .ok (.goto 4, 3) := by decide +kernel
theorem dX11_isPerson_16 : decode cX11_isPerson 16 = .ok (.iconst 0, 1) := by decide +kernel
theorem dX11_isPerson_17 : decode cX11_isPerson 17 = .ok (.ireturn, 1) := by decide +kernel
theorem dX11_isThing_0 : decode cX11_isThing 0 = .ok (.iload_n 1, 1) := by decide +kernel
theorem dX11_isThing_1 : decode cX11_isThing 1 = .ok (.ifCond .lt 15, 3) := by decide +kernel
theorem dX11_isThing_4 : decode cX11_isThing 4 = .ok (.iload_n 1, 1) := by decide +kernel
theorem dX11_isThing_5 : decode cX11_isThing 5 = .ok (.aload_n 0, 1) := by decide +kernel
theorem dX11_isThing_6 : decode cX11_isThing 6 = .ok (.getfield 151, 3) := by decide +kernel
theorem dX11_isThing_9 : decode cX11_isThing 9 = .ok (.if_icmp .ge 7, 3) := by decide +kernel
theorem dX11_isThing_12 : decode cX11_isThing 12 = .ok (.iconst 1, 1) := by decide +kernel
theorem dX11_isThing_13 : decode cX11_isThing 13 = .ok (.goto 4, 3) := by decide +kernel
theorem dX11_isThing_16 : decode cX11_isThing 16 = .ok (.iconst 0, 1) := by decide +kernel
theorem dX11_isThing_17 : decode cX11_isThing 17 = .ok (.ireturn, 1) := by decide +kernel
theorem dX11_isPassing_0 : decode cX11_isPassing 0 = .ok (.aload_n 0, 1) := by decide +kernel
theorem dX11_isPassing_1 : decode cX11_isPassing 1 = .ok (.iload_n 1, 1) := by decide +kernel
theorem dX11_isPassing_2 : decode cX11_isPassing 2 = .ok (.invokevirtual 154, 3) := by decide +kernel
theorem dX11_isPassing_5 : decode cX11_isPassing 5 = .ok (.ifCond .eq 21, 3) := by decide +kernel
theorem dX11_isPassing_8 : decode cX11_isPassing 8 = .ok (.iload_n 2, 1) := by decide +kernel
theorem dX11_isPassing_9 : decode cX11_isPassing 9 = .ok (.ifCond .lt 17, 3) := by decide +kernel
theorem dX11_isPassing_12 : decode cX11_isPassing 12 = .ok (.iload_n 2, 1) := by decide +kernel
theorem dX11_isPassing_13 : decode cX11_isPassing 13 = .ok (.aload_n 0, 1) := by decide +kernel
theorem dX11_isPassing_14 : decode cX11_isPassing 14 = .ok (.getfield 25, 3) := by decide +kernel
theorem dX11_isPassing_17 : decode cX11_isPassing 17 = .ok (.iload_n 1, 1) := by decide +kernel
theorem dX11_isPassing_18 : decode cX11_isPassing 18 = .ok (.iaload, 1) := by decide +kernel
theorem dX11_isPassing_19 : decode cX11_isPassing 19 = .ok (.if_icmp .ge 7, 3) := by decide +kernel
theorem dX11_isPassing_22 : decode cX11_isPassing 22 = .ok (.iconst 1, 1) := by decide +kernel
theorem dX11_isPassing_23 : decode cX11_isPassing 23 = .ok (.goto 4, 3) := by decide +kernel
theorem dX11_isPassing_26 : decode cX11_isPassing 26 = .ok (.iconst 0, 1) := by decide +kernel
theorem dX11_isPassing_27 : decode cX11_isPassing 27 = .ok (.ireturn, 1) := by decide +kernel
theorem dX11_now_0 : decode cX11_now 0 = .ok (.iload_n 1, 1) := by decide +kernel
theorem dX11_now_1 : decode cX11_now 1 = .ok (.aload_n 0, 1) := by decide +kernel
theorem dX11_now_2 : decode cX11_now 2 = .ok (.getfield 158, 3) := by decide +kernel
theorem dX11_now_5 : decode cX11_now 5 = .ok (.sipush 599, 3) := by decide +kernel
theorem dX11_now_8 : decode cX11_now 8 = .ok (.invokestatic 161, 3) := by decide +kernel
theorem dX11_now_11 : decode cX11_now 11 = .ok (.ifCond .ne 5, 3) := by decide +kernel
theorem dX11_now_14 : decode cX11_now 14 = .ok (.iconst 0, 1) := by decide +kernel
theorem dX11_now_15 : decode cX11_now 15 = .ok (.ireturn, 1) := by decide +kernel
theorem dX11_now_16 : decode cX11_now 16 = .ok (.aload_n 0, 1) := by decide +kernel
theorem dX11_now_17 : decode cX11_now 17 = .ok (.iload_n 1, 1) := by decide +kernel
theorem dX11_now_18 : decode cX11_now 18 = .ok (.putfield 158, 3) := by decide +kernel
theorem dX11_now_21 : decode cX11_now 21 = .ok (.iconst 1, 1) := by decide +kernel
theorem dX11_now_22 : decode cX11_now 22 = .ok (.ireturn, 1) := by decide +kernel
theorem dX11_person_0 : decode cX11_person 0 = .ok (.iload_n 1, 1) := by decide +kernel
theorem dX11_person_1 : decode cX11_person 1 = .ok (.invokestatic 165, 3) := by decide +kernel
theorem dX11_person_4 : decode cX11_person 4 = .ok (.ifCond .eq 22, 3) := by decide +kernel
theorem dX11_person_7 : decode cX11_person 7 = .ok (.iload_n 2, 1) := by decide +kernel
theorem dX11_person_8 : decode cX11_person 8 = .ok (.iconst 0, 1) := by decide +kernel
theorem dX11_person_9 : decode cX11_person 9 = .ok (.ldc 168, 2) := by decide +kernel
theorem dX11_person_11 : decode cX11_person 11 = .ok (.invokestatic 161, 3) := by decide +kernel
theorem dX11_person_14 : decode cX11_person 14 = .ok (.ifCond .eq 12, 3) := by decide +kernel
theorem dX11_person_17 : decode cX11_person 17 = .ok (.aload_n 0, 1) := by decide +kernel
theorem dX11_person_18 : decode cX11_person 18 = .ok (.getfield 147, 3) := by decide +kernel
theorem dX11_person_21 : decode cX11_person 21 = .ok (.bipush 12, 2) := by decide +kernel
theorem dX11_person_23 : decode cX11_person 23 = .ok (.if_icmp .ne 5, 3) := by decide +kernel
theorem dX11_person_26 : decode cX11_person 26 = .ok (.iconst (-1), 1) := by decide +kernel
theorem dX11_person_27 : decode cX11_person 27 = .ok (.ireturn, 1) := by decide +kernel
theorem dX11_person_28 : decode cX11_person 28 = .ok (.aload_n 0, 1) := by decide +kernel
theorem dX11_person_29 : decode cX11_person 29 = .ok (.getfield 7, 3) := by decide +kernel
theorem dX11_person_32 : decode cX11_person 32 = .ok (.aload_n 0, 1) := by decide +kernel
theorem dX11_person_33 : decode cX11_person 33 = .ok (.getfield 147, 3) := by decide +kernel
theorem dX11_person_36 : decode cX11_person 36 = .ok (.iload_n 1, 1) := by decide +kernel
theorem dX11_person_37 : decode cX11_person 37 = .ok (.iastore, 1) := by decide +kernel
theorem dX11_person_38 : decode cX11_person 38 = .ok (.aload_n 0, 1) := by decide +kernel
theorem dX11_person_39 : decode cX11_person 39 = .ok (.getfield 13, 3) := by decide +kernel
theorem dX11_person_42 : decode cX11_person 42 = .ok (.aload_n 0, 1) := by decide +kernel
theorem dX11_person_43 : decode cX11_person 43 = .ok (.getfield 147, 3) := by decide +kernel
theorem dX11_person_46 : decode cX11_person 46 = .ok (.iload_n 2, 1) := by decide +kernel
theorem dX11_person_47 : decode cX11_person 47 = .ok (.iastore, 1) := by decide +kernel
theorem dX11_person_48 : decode cX11_person 48 = .ok (.aload_n 0, 1) := by decide +kernel
theorem dX11_person_49 : decode cX11_person 49 = .ok (.aload_n 0, 1) := by decide +kernel
theorem dX11_person_50 : decode cX11_person 50 = .ok (.getfield 147, 3) := by decide +kernel
theorem dX11_person_53 : decode cX11_person 53 = .ok (.iconst 1, 1) := by decide +kernel
theorem dX11_person_54 : decode cX11_person 54 = .ok (.iadd, 1) := by decide +kernel
theorem dX11_person_55 : decode cX11_person 55 = .ok (.putfield 147, 3) := by decide +kernel
theorem dX11_person_58 : decode cX11_person 58 = .ok (.aload_n 0, 1) := by decide +kernel
theorem dX11_person_59 : decode cX11_person 59 = .ok (.getfield 147, 3) := by decide +kernel
theorem dX11_person_62 : decode cX11_person 62 = .ok (.iconst 1, 1) := by decide +kernel
theorem dX11_person_63 : decode cX11_person 63 = .ok (.isub, 1) := by decide +kernel
theorem dX11_person_64 : decode cX11_person 64 = .ok (.ireturn, 1) := by decide +kernel
theorem dX11_thing_0 : decode cX11_thing 0 = .ok (.iload_n 1, 1) := by decide +kernel
theorem dX11_thing_1 : decode cX11_thing 1 = .ok (.iconst 1, 1) := by decide +kernel
theorem dX11_thing_2 : decode cX11_thing 2 = .ok (.ldc 168, 2) := by decide +kernel
theorem dX11_thing_4 : decode cX11_thing 4 = .ok (.invokestatic 161, 3) := by decide +kernel
theorem dX11_thing_7 : decode cX11_thing 7 = .ok (.ifCond .eq 26, 3) := by decide +kernel
theorem dX11_thing_10 : decode cX11_thing 10 = .ok (.aload_n 0, 1) := by decide +kernel
theorem dX11_thing_11 : decode cX11_thing 11 = .ok (.iload_n 2, 1) := by decide +kernel
theorem dX11_thing_12 : decode cX11_thing 12 = .ok (.invokevirtual 169, 3) := by decide +kernel
theorem dX11_thing_15 : decode cX11_thing 15 = .ok (.ifCond .eq 18, 3) := by decide +kernel
theorem dX11_thing_18 : decode cX11_thing 18 = .ok (.iload_n 3, 1) := by decide +kernel
theorem dX11_thing_19 : decode cX11_thing 19 = .ok (.invokestatic 165, 3) := by decide +kernel
theorem dX11_thing_22 : decode cX11_thing 22 = .ok (.ifCond .eq 11, 3) := by decide +kernel
theorem dX11_thing_25 : decode cX11_thing 25 = .ok (.aload_n 0, 1) := by decide +kernel
theorem dX11_thing_26 : decode cX11_thing 26 = .ok (.getfield 151, 3) := by decide +kernel
theorem dX11_thing_29 : decode cX11_thing 29 = .ok (.iconst 4, 1) := by decide +kernel
theorem dX11_thing_30 : decode cX11_thing 30 = .ok (.if_icmp .ne 5, 3) := by decide +kernel
theorem dX11_thing_33 : decode cX11_thing 33 = .ok (.iconst (-1), 1) := by decide +kernel
theorem dX11_thing_34 : decode cX11_thing 34 = .ok (.ireturn, 1) := by decide +kernel
theorem dX11_thing_35 : decode cX11_thing 35 = .ok (.aload_n 0, 1) := by decide +kernel
theorem dX11_thing_36 : decode cX11_thing 36 = .ok (.getfield 16, 3) := by decide +kernel
theorem dX11_thing_39 : decode cX11_thing 39 = .ok (.aload_n 0, 1) := by decide +kernel
theorem dX11_thing_40 : decode cX11_thing 40 = .ok (.getfield 151, 3) := by decide +kernel
theorem dX11_thing_43 : decode cX11_thing 43 = .ok (.iload_n 1, 1) := by decide +kernel
theorem dX11_thing_44 : decode cX11_thing 44 = .ok (.iastore, 1) := by decide +kernel
theorem dX11_thing_45 : decode cX11_thing 45 = .ok (.aload_n 0, 1) := by decide +kernel
theorem dX11_thing_46 : decode cX11_thing 46 = .ok (.getfield 19, 3) := by decide +kernel
theorem dX11_thing_49 : decode cX11_thing 49 = .ok (.aload_n 0, 1) := by decide +kernel
theorem dX11_thing_50 : decode cX11_thing 50 = .ok (.getfield 151, 3) := by decide +kernel
theorem dX11_thing_53 : decode cX11_thing 53 = .ok (.iload_n 2, 1) := by decide +kernel
theorem dX11_thing_54 : decode cX11_thing 54 = .ok (.iastore, 1) := by decide +kernel
theorem dX11_thing_55 : decode cX11_thing 55 = .ok (.aload_n 0, 1) := by decide +kernel
theorem dX11_thing_56 : decode cX11_thing 56 = .ok (.getfield 22, 3) := by decide +kernel
theorem dX11_thing_59 : decode cX11_thing 59 = .ok (.aload_n 0, 1) := by decide +kernel
theorem dX11_thing_60 : decode cX11_thing 60 = .ok (.getfield 151, 3) := by decide +kernel
theorem dX11_thing_63 : decode cX11_thing 63 = .ok (.iload_n 3, 1) := by decide +kernel
theorem dX11_thing_64 : decode cX11_thing 64 = .ok (.iastore, 1) := by decide +kernel
theorem dX11_thing_65 : decode cX11_thing 65 = .ok (.aload_n 0, 1) := by decide +kernel
theorem dX11_thing_66 : decode cX11_thing 66 = .ok (.getfield 25, 3) := by decide +kernel
theorem dX11_thing_69 : decode cX11_thing 69 = .ok (.aload_n 0, 1) := by decide +kernel
theorem dX11_thing_70 : decode cX11_thing 70 = .ok (.getfield 151, 3) := by decide +kernel
theorem dX11_thing_73 : decode cX11_thing 73 = .ok (.iconst 0, 1) := by decide +kernel
theorem dX11_thing_74 : decode cX11_thing 74 = .ok (.iastore, 1) := by decide +kernel
theorem dX11_thing_75 : decode cX11_thing 75 = .ok (.aload_n 0, 1) := by decide +kernel
theorem dX11_thing_76 : decode cX11_thing 76 = .ok (.aload_n 0, 1) := by decide +kernel
theorem dX11_thing_77 : decode cX11_thing 77 = .ok (.getfield 151, 3) := by decide +kernel
theorem dX11_thing_80 : decode cX11_thing 80 = .ok (.iconst 1, 1) := by decide +kernel
theorem dX11_thing_81 : decode cX11_thing 81 = .ok (.iadd, 1) := by decide +kernel
theorem dX11_thing_82 : decode cX11_thing 82 = .ok (.putfield 151, 3) := by decide +kernel
theorem dX11_thing_85 : decode cX11_thing 85 = .ok (.aload_n 0, 1) := by decide +kernel
theorem dX11_thing_86 : decode cX11_thing 86 = .ok (.getfield 151, 3) := by decide +kernel
theorem dX11_thing_89 : decode cX11_thing 89 = .ok (.iconst 1, 1) := by decide +kernel
theorem dX11_thing_90 : decode cX11_thing 90 = .ok (.isub, 1) := by decide +kernel
theorem dX11_thing_91 : decode cX11_thing 91 = .ok (.ireturn, 1) := by decide +kernel
theorem dX11_fromOf_0 : decode cX11_fromOf 0 = .ok (.iload_n 2, 1) := by decide +kernel
theorem dX11_fromOf_1 : decode cX11_fromOf 1 = .ok (.ifCond .ne 12, 3) := by decide +kernel
theorem dX11_fromOf_4 : decode cX11_fromOf 4 = .ok (.aload_n 0, 1) := by decide +kernel
theorem dX11_fromOf_5 : decode cX11_fromOf 5 = .ok (.getfield 19, 3) := by decide +kernel
theorem dX11_fromOf_8 : decode cX11_fromOf 8 = .ok (.iload_n 1, 1) := by decide +kernel
theorem dX11_fromOf_9 : decode cX11_fromOf 9 = .ok (.iaload, 1) := by decide +kernel
theorem dX11_fromOf_10 : decode cX11_fromOf 10 = .ok (.goto 16, 3) := by decide +kernel
theorem dX11_fromOf_13 : decode cX11_fromOf 13 = .ok (.aload_n 0, 1) := by decide +kernel
theorem dX11_fromOf_14 : decode cX11_fromOf 14 = .ok (.getfield 31, 3) := by decide +kernel
theorem dX11_fromOf_17 : decode cX11_fromOf 17 = .ok (.bipush 22, 2) := by decide +kernel
theorem dX11_fromOf_19 : decode cX11_fromOf 19 = .ok (.iload_n 1, 1) := by decide +kernel
theorem dX11_fromOf_20 : decode cX11_fromOf 20 = .ok (.imul, 1) := by decide +kernel
theorem dX11_fromOf_21 : decode cX11_fromOf 21 = .ok (.iload_n 2, 1) := by decide +kernel
theorem dX11_fromOf_22 : decode cX11_fromOf 22 = .ok (.iadd, 1) := by decide +kernel
theorem dX11_fromOf_23 : decode cX11_fromOf 23 = .ok (.iconst 1, 1) := by decide +kernel
theorem dX11_fromOf_24 : decode cX11_fromOf 24 = .ok (.isub, 1) := by decide +kernel
theorem dX11_fromOf_25 : decode cX11_fromOf 25 = .ok (.iaload, 1) := by decide +kernel
theorem dX11_fromOf_26 : decode cX11_fromOf 26 = .ok (.ireturn, 1) := by decide +kernel
theorem dX11_moves_0 : decode cX11_moves 0 = .ok (.aload_n 0, 1) := by decide +kernel
theorem dX11_moves_1 : decode cX11_moves 1 = .ok (.getfield 28, 3) := by decide +kernel
theorem dX11_moves_4 : decode cX11_moves 4 = .ok (.iload_n 2, 1) := by decide +kernel
theorem dX11_moves_5 : decode cX11_moves 5 = .ok (.aload_n 0, 1) := by decide +kernel
theorem dX11_moves_6 : decode cX11_moves 6 = .ok (.getfield 28, 3) := by decide +kernel
theorem dX11_moves_9 : decode cX11_moves 9 = .ok (.iload_n 1, 1) := by decide +kernel
theorem dX11_moves_10 : decode cX11_moves 10 = .ok (.iaload, 1) := by decide +kernel
theorem dX11_moves_11 : decode cX11_moves 11 = .ok (.iastore, 1) := by decide +kernel
theorem dX11_moves_12 : decode cX11_moves 12 = .ok (.aload_n 0, 1) := by decide +kernel
theorem dX11_moves_13 : decode cX11_moves 13 = .ok (.getfield 31, 3) := by decide +kernel
theorem dX11_moves_16 : decode cX11_moves 16 = .ok (.iload_n 2, 1) := by decide +kernel
theorem dX11_moves_17 : decode cX11_moves 17 = .ok (.aload_n 0, 1) := by decide +kernel
theorem dX11_moves_18 : decode cX11_moves 18 = .ok (.getfield 31, 3) := by decide +kernel
theorem dX11_moves_21 : decode cX11_moves 21 = .ok (.iload_n 1, 1) := by decide +kernel
theorem dX11_moves_22 : decode cX11_moves 22 = .ok (.iaload, 1) := by decide +kernel
theorem dX11_moves_23 : decode cX11_moves 23 = .ok (.iastore, 1) := by decide +kernel
theorem dX11_moves_24 : decode cX11_moves 24 = .ok (.aload_n 0, 1) := by decide +kernel
theorem dX11_moves_25 : decode cX11_moves 25 = .ok (.getfield 34, 3) := by decide +kernel
theorem dX11_moves_28 : decode cX11_moves 28 = .ok (.iload_n 2, 1) := by decide +kernel
theorem dX11_moves_29 : decode cX11_moves 29 = .ok (.aload_n 0, 1) := by decide +kernel
theorem dX11_moves_30 : decode cX11_moves 30 = .ok (.getfield 34, 3) := by decide +kernel
theorem dX11_moves_33 : decode cX11_moves 33 = .ok (.iload_n 1, 1) := by decide +kernel
theorem dX11_moves_34 : decode cX11_moves 34 = .ok (.iaload, 1) := by decide +kernel
theorem dX11_moves_35 : decode cX11_moves 35 = .ok (.iastore, 1) := by decide +kernel
theorem dX11_moves_36 : decode cX11_moves 36 = .ok (.aload_n 0, 1) := by decide +kernel
theorem dX11_moves_37 : decode cX11_moves 37 = .ok (.getfield 37, 3) := by decide +kernel
theorem dX11_moves_40 : decode cX11_moves 40 = .ok (.iload_n 2, 1) := by decide +kernel
theorem dX11_moves_41 : decode cX11_moves 41 = .ok (.aload_n 0, 1) := by decide +kernel
theorem dX11_moves_42 : decode cX11_moves 42 = .ok (.getfield 37, 3) := by decide +kernel
theorem dX11_moves_45 : decode cX11_moves 45 = .ok (.iload_n 1, 1) := by decide +kernel
theorem dX11_moves_46 : decode cX11_moves 46 = .ok (.iaload, 1) := by decide +kernel
theorem dX11_moves_47 : decode cX11_moves 47 = .ok (.iastore, 1) := by decide +kernel
theorem dX11_moves_48 : decode cX11_moves 48 = .ok (.aload_n 0, 1) := by decide +kernel
theorem dX11_moves_49 : decode cX11_moves 49 = .ok (.getfield 40, 3) := by decide +kernel
theorem dX11_moves_52 : decode cX11_moves 52 = .ok (.iload_n 2, 1) := by decide +kernel
theorem dX11_moves_53 : decode cX11_moves 53 = .ok (.aload_n 0, 1) := by decide +kernel
theorem dX11_moves_54 : decode cX11_moves 54 = .ok (.getfield 40, 3) := by decide +kernel
theorem dX11_moves_57 : decode cX11_moves 57 = .ok (.iload_n 1, 1) := by decide +kernel
theorem dX11_moves_58 : decode cX11_moves 58 = .ok (.iaload, 1) := by decide +kernel
theorem dX11_moves_59 : decode cX11_moves 59 = .ok (.iastore, 1) := by decide +kernel
theorem dX11_moves_60 : decode cX11_moves 60 = .ok (.aload_n 0, 1) := by decide +kernel
theorem dX11_moves_61 : decode cX11_moves 61 = .ok (.getfield 43, 3) := by decide +kernel
theorem dX11_moves_64 : decode cX11_moves 64 = .ok (.iload_n 2, 1) := by decide +kernel
theorem dX11_moves_65 : decode cX11_moves 65 = .ok (.aload_n 0, 1) := by decide +kernel
theorem dX11_moves_66 : decode cX11_moves 66 = .ok (.getfield 43, 3) := by decide +kernel
theorem dX11_moves_69 : decode cX11_moves 69 = .ok (.iload_n 1, 1) := by decide +kernel
theorem dX11_moves_70 : decode cX11_moves 70 = .ok (.iaload, 1) := by decide +kernel
theorem dX11_moves_71 : decode cX11_moves 71 = .ok (.iastore, 1) := by decide +kernel
theorem dX11_moves_72 : decode cX11_moves 72 = .ok (.aload_n 0, 1) := by decide +kernel
theorem dX11_moves_73 : decode cX11_moves 73 = .ok (.getfield 46, 3) := by decide +kernel
theorem dX11_moves_76 : decode cX11_moves 76 = .ok (.iload_n 2, 1) := by decide +kernel
theorem dX11_moves_77 : decode cX11_moves 77 = .ok (.aload_n 0, 1) := by decide +kernel
theorem dX11_moves_78 : decode cX11_moves 78 = .ok (.getfield 46, 3) := by decide +kernel
theorem dX11_moves_81 : decode cX11_moves 81 = .ok (.iload_n 1, 1) := by decide +kernel
theorem dX11_moves_82 : decode cX11_moves 82 = .ok (.iaload, 1) := by decide +kernel
theorem dX11_moves_83 : decode cX11_moves 83 = .ok (.iastore, 1) := by decide +kernel
theorem dX11_moves_84 : decode cX11_moves 84 = .ok (.aload_n 0, 1) := by decide +kernel
theorem dX11_moves_85 : decode cX11_moves 85 = .ok (.getfield 49, 3) := by decide +kernel
theorem dX11_moves_88 : decode cX11_moves 88 = .ok (.iload_n 2, 1) := by decide +kernel
theorem dX11_moves_89 : decode cX11_moves 89 = .ok (.aload_n 0, 1) := by decide +kernel
theorem dX11_moves_90 : decode cX11_moves 90 = .ok (.getfield 49, 3) := by decide +kernel
theorem dX11_moves_93 : decode cX11_moves 93 = .ok (.iload_n 1, 1) := by decide +kernel
theorem dX11_moves_94 : decode cX11_moves 94 = .ok (.iaload, 1) := by decide +kernel
theorem dX11_moves_95 : decode cX11_moves 95 = .ok (.iastore, 1) := by decide +kernel
theorem dX11_moves_96 : decode cX11_moves 96 = .ok (.return_, 1) := by decide +kernel
theorem dX11_puts_0 : decode cX11_puts 0 = .ok (.aload_n 0, 1) := by decide +kernel
theorem dX11_puts_1 : decode cX11_puts 1 = .ok (.getfield 28, 3) := by decide +kernel
theorem dX11_puts_4 : decode cX11_puts 4 = .ok (.iload_n 1, 1) := by decide +kernel
theorem dX11_puts_5 : decode cX11_puts 5 = .ok (.iload_n 2, 1) := by decide +kernel
theorem dX11_puts_6 : decode cX11_puts 6 = .ok (.iastore, 1) := by decide +kernel
theorem dX11_puts_7 : decode cX11_puts 7 = .ok (.aload_n 0, 1) := by decide +kernel
theorem dX11_puts_8 : decode cX11_puts 8 = .ok (.getfield 31, 3) := by decide +kernel
theorem dX11_puts_11 : decode cX11_puts 11 = .ok (.iload_n 1, 1) := by decide +kernel
theorem dX11_puts_12 : decode cX11_puts 12 = .ok (.iload_n 3, 1) := by decide +kernel
theorem dX11_puts_13 : decode cX11_puts 13 = .ok (.iastore, 1) := by decide +kernel
theorem dX11_puts_14 : decode cX11_puts 14 = .ok (.aload_n 0, 1) := by decide +kernel
theorem dX11_puts_15 : decode cX11_puts 15 = .ok (.getfield 34, 3) := by decide +kernel
theorem dX11_puts_18 : decode cX11_puts 18 = .ok (.iload_n 1, 1) := by decide +kernel
theorem dX11_puts_19 : decode cX11_puts 19 = .ok (.iload 4, 2) := by decide +kernel
theorem dX11_puts_21 : decode cX11_puts 21 = .ok (.iastore, 1) := by decide +kernel
theorem dX11_puts_22 : decode cX11_puts 22 = .ok (.aload_n 0, 1) := by decide +kernel
theorem dX11_puts_23 : decode cX11_puts 23 = .ok (.getfield 37, 3) := by decide +kernel
theorem dX11_puts_26 : decode cX11_puts 26 = .ok (.iload_n 1, 1) := by decide +kernel
theorem dX11_puts_27 : decode cX11_puts 27 = .ok (.iload 5, 2) := by decide +kernel
theorem dX11_puts_29 : decode cX11_puts 29 = .ok (.iastore, 1) := by decide +kernel
theorem dX11_puts_30 : decode cX11_puts 30 = .ok (.aload_n 0, 1) := by decide +kernel
theorem dX11_puts_31 : decode cX11_puts 31 = .ok (.getfield 40, 3) := by decide +kernel
theorem dX11_puts_34 : decode cX11_puts 34 = .ok (.iload_n 1, 1) := by decide +kernel
theorem dX11_puts_35 : decode cX11_puts 35 = .ok (.iload 6, 2) := by decide +kernel
theorem dX11_puts_37 : decode cX11_puts 37 = .ok (.iastore, 1) := by decide +kernel
theorem dX11_puts_38 : decode cX11_puts 38 = .ok (.aload_n 0, 1) := by decide +kernel
theorem dX11_puts_39 : decode cX11_puts 39 = .ok (.getfield 43, 3) := by decide +kernel
theorem dX11_puts_42 : decode cX11_puts 42 = .ok (.iload_n 1, 1) := by decide +kernel
theorem dX11_puts_43 : decode cX11_puts 43 = .ok (.iload 7, 2) := by decide +kernel
theorem dX11_puts_45 : decode cX11_puts 45 = .ok (.iastore, 1) := by decide +kernel
theorem dX11_puts_46 : decode cX11_puts 46 = .ok (.aload_n 0, 1) := by decide +kernel
theorem dX11_puts_47 : decode cX11_puts 47 = .ok (.getfield 46, 3) := by decide +kernel
theorem dX11_puts_50 : decode cX11_puts 50 = .ok (.iload_n 1, 1) := by decide +kernel
theorem dX11_puts_51 : decode cX11_puts 51 = .ok (.iload 8, 2) := by decide +kernel
theorem dX11_puts_53 : decode cX11_puts 53 = .ok (.iastore, 1) := by decide +kernel
theorem dX11_puts_54 : decode cX11_puts 54 = .ok (.aload_n 0, 1) := by decide +kernel
theorem dX11_puts_55 : decode cX11_puts 55 = .ok (.getfield 49, 3) := by decide +kernel
theorem dX11_puts_58 : decode cX11_puts 58 = .ok (.iload_n 1, 1) := by decide +kernel
theorem dX11_puts_59 : decode cX11_puts 59 = .ok (.iload 9, 2) := by decide +kernel
theorem dX11_puts_61 : decode cX11_puts 61 = .ok (.iastore, 1) := by decide +kernel
theorem dX11_puts_62 : decode cX11_puts 62 = .ok (.return_, 1) := by decide +kernel
theorem dX11_isMind_0 : decode cX11_isMind 0 = .ok (.iload_n 0, 1) := by decide +kernel
theorem dX11_isMind_1 : decode cX11_isMind 1 = .ok (.iconst 0, 1) := by decide +kernel
theorem dX11_isMind_2 : decode cX11_isMind 2 = .ok (.iconst 2, 1) := by decide +kernel
theorem dX11_isMind_3 : decode cX11_isMind 3 = .ok (.invokestatic 161, 3) := by decide +kernel
theorem dX11_isMind_6 : decode cX11_isMind 6 = .ok (.ifCond .eq 16, 3) := by decide +kernel
theorem dX11_isMind_9 : decode cX11_isMind 9 = .ok (.iload_n 1, 1) := by decide +kernel
theorem dX11_isMind_10 : decode cX11_isMind 10 = .ok (.iload_n 0, 1) := by decide +kernel
theorem dX11_isMind_11 : decode cX11_isMind 11 = .ok (.iconst 2, 1) := by decide +kernel
theorem dX11_isMind_12 : decode cX11_isMind 12 = .ok (.invokestatic 161, 3) := by decide +kernel
theorem dX11_isMind_15 : decode cX11_isMind 15 = .ok (.ifCond .eq 7, 3) := by decide +kernel
theorem dX11_isMind_18 : decode cX11_isMind 18 = .ok (.iconst 1, 1) := by decide +kernel
theorem dX11_isMind_19 : decode cX11_isMind 19 = .ok (.goto 4, 3) := by decide +kernel
theorem dX11_isMind_22 : decode cX11_isMind 22 = .ok (.iconst 0, 1) := by decide +kernel
theorem dX11_isMind_23 : decode cX11_isMind 23 = .ok (.ireturn, 1) := by decide +kernel
theorem dX11_passing_0 : decode cX11_passing 0 = .ok (.aload_n 0, 1) := by decide +kernel
theorem dX11_passing_1 : decode cX11_passing 1 = .ok (.iload_n 1, 1) := by decide +kernel
theorem dX11_passing_2 : decode cX11_passing 2 = .ok (.invokevirtual 154, 3) := by decide +kernel
theorem dX11_passing_5 : decode cX11_passing 5 = .ok (.ifCond .eq 93, 3) := by decide +kernel
theorem dX11_passing_8 : decode cX11_passing 8 = .ok (.iload_n 2, 1) := by decide +kernel
theorem dX11_passing_9 : decode cX11_passing 9 = .ok (.iconst 0, 1) := by decide +kernel
theorem dX11_passing_10 : decode cX11_passing 10 = .ok (.bipush 7, 2) := by decide +kernel
theorem dX11_passing_12 : decode cX11_passing 12 = .ok (.invokestatic 161, 3) := by decide +kernel
theorem dX11_passing_15 : decode cX11_passing 15 = .ok (.ifCond .eq 83, 3) := by decide +kernel
theorem dX11_passing_18 : decode cX11_passing 18 = .ok (.aload_n 0, 1) := by decide +kernel
theorem dX11_passing_19 : decode cX11_passing 19 = .ok (.iload_n 3, 1) := by decide +kernel
theorem dX11_passing_20 : decode cX11_passing 20 = .ok (.invokevirtual 169, 3) := by decide +kernel
theorem dX11_passing_23 : decode cX11_passing 23 = .ok (.ifCond .eq 75, 3) := by decide +kernel
theorem dX11_passing_26 : decode cX11_passing 26 = .ok (.iload 4, 2) := by decide +kernel
theorem dX11_passing_28 : decode cX11_passing 28 = .ok (.invokestatic 165, 3) := by decide +kernel
theorem dX11_passing_31 : decode cX11_passing 31 = .ok (.ifCond .eq 67, 3) := by decide +kernel
theorem dX11_passing_34 : decode cX11_passing 34 = .ok (.iload 5, 2) := by decide +kernel
theorem dX11_passing_36 : decode cX11_passing 36 = .ok (.iconst 0, 1) := by decide +kernel
theorem dX11_passing_37 : decode cX11_passing 37 = .ok (.aload_n 0, 1) := by decide +kernel
theorem dX11_passing_38 : decode cX11_passing 38 = .ok (.getfield 158, 3) := by decide +kernel
theorem dX11_passing_41 : decode cX11_passing 41 = .ok (.invokestatic 161, 3) := by decide +kernel
theorem dX11_passing_44 : decode cX11_passing 44 = .ok (.ifCond .eq 54, 3) := by decide +kernel
theorem dX11_passing_47 : decode cX11_passing 47 = .ok (.iload 6, 2) := by decide +kernel
theorem dX11_passing_49 : decode cX11_passing 49 = .ok (.iconst 0, 1) := by decide +kernel
theorem dX11_passing_50 : decode cX11_passing 50 = .ok (.iload_n 2, 1) := by decide +kernel
theorem dX11_passing_51 : decode cX11_passing 51 = .ok (.ifCond .ne 8, 3) := by decide +kernel
theorem dX11_passing_54 : decode cX11_passing 54 = .ok (.ldc 168, 2) := by decide +kernel
theorem dX11_passing_56 : decode cX11_passing 56 = .ok (.goto 4, 3) := by decide +kernel
theorem dX11_passing_59 : decode cX11_passing 59 = .ok (.iconst 0, 1) := by decide +kernel
theorem dX11_passing_60 : decode cX11_passing 60 = .ok (.invokestatic 161, 3) := by decide +kernel
theorem dX11_passing_63 : decode cX11_passing 63 = .ok (.ifCond .eq 35, 3) := by decide +kernel
theorem dX11_passing_66 : decode cX11_passing 66 = .ok (.iload 7, 2) := by decide +kernel
theorem dX11_passing_68 : decode cX11_passing 68 = .ok (.iconst 0, 1) := by decide +kernel
theorem dX11_passing_69 : decode cX11_passing 69 = .ok (.bipush 7, 2) := by decide +kernel
theorem dX11_passing_71 : decode cX11_passing 71 = .ok (.invokestatic 161, 3) := by decide +kernel
theorem dX11_passing_74 : decode cX11_passing 74 = .ok (.ifCond .eq 24, 3) := by decide +kernel
theorem dX11_passing_77 : decode cX11_passing 77 = .ok (.iload 8, 2) := by decide +kernel
theorem dX11_passing_79 : decode cX11_passing 79 = .ok (.iload 9, 2) := by decide +kernel
theorem dX11_passing_81 : decode cX11_passing 81 = .ok (.invokestatic 172, 3) := by decide +kernel
theorem dX11_passing_84 : decode cX11_passing 84 = .ok (.ifCond .eq 14, 3) := by decide +kernel
theorem dX11_passing_87 : decode cX11_passing 87 = .ok (.aload_n 0, 1) := by decide +kernel
theorem dX11_passing_88 : decode cX11_passing 88 = .ok (.getfield 25, 3) := by decide +kernel
theorem dX11_passing_91 : decode cX11_passing 91 = .ok (.iload_n 1, 1) := by decide +kernel
theorem dX11_passing_92 : decode cX11_passing 92 = .ok (.iaload, 1) := by decide +kernel
theorem dX11_passing_93 : decode cX11_passing 93 = .ok (.bipush 20, 2) := by decide +kernel
theorem dX11_passing_95 : decode cX11_passing 95 = .ok (.if_icmp .ne 5, 3) := by decide +kernel
theorem dX11_passing_98 : decode cX11_passing 98 = .ok (.iconst (-1), 1) := by decide +kernel
theorem dX11_passing_99 : decode cX11_passing 99 = .ok (.ireturn, 1) := by decide +kernel
theorem dX11_passing_100 : decode cX11_passing 100 = .ok (.iconst 0, 1) := by decide +kernel
theorem dX11_passing_101 : decode cX11_passing 101 = .ok (.istore 10, 2) := by decide +kernel
theorem dX11_passing_103 : decode cX11_passing 103 = .ok (.iload 10, 2) := by decide +kernel
theorem dX11_passing_105 : decode cX11_passing 105 = .ok (.aload_n 0, 1) := by decide +kernel
theorem dX11_passing_106 : decode cX11_passing 106 = .ok (.getfield 25, 3) := by decide +kernel
theorem dX11_passing_109 : decode cX11_passing 109 = .ok (.iload_n 1, 1) := by decide +kernel
theorem dX11_passing_110 : decode cX11_passing 110 = .ok (.iaload, 1) := by decide +kernel
theorem dX11_passing_111 : decode cX11_passing 111 = .ok (.if_icmp .ge 29, 3) := by decide +kernel
theorem dX11_passing_114 : decode cX11_passing 114 = .ok (.aload_n 0, 1) := by decide +kernel
theorem dX11_passing_115 : decode cX11_passing 115 = .ok (.getfield 37, 3) := by decide +kernel
theorem dX11_passing_118 : decode cX11_passing 118 = .ok (.bipush 22, 2) := by decide +kernel
theorem dX11_passing_120 : decode cX11_passing 120 = .ok (.iload_n 1, 1) := by decide +kernel
theorem dX11_passing_121 : decode cX11_passing 121 = .ok (.imul, 1) := by decide +kernel
theorem dX11_passing_122 : decode cX11_passing 122 = .ok (.iload 10, 2) := by decide +kernel
theorem dX11_passing_124 : decode cX11_passing 124 = .ok (.iadd, 1) := by decide +kernel
theorem dX11_passing_125 : decode cX11_passing 125 = .ok (.iaload, 1) := by decide +kernel
theorem dX11_passing_126 : decode cX11_passing 126 = .ok (.iload 5, 2) := by decide +kernel
theorem dX11_passing_128 : decode cX11_passing 128 = .ok (.if_icmp .gt 12, 3) := by decide +kernel
theorem dX11_passing_131 : decode cX11_passing 131 = .ok (.iload 10, 2) := by decide +kernel
theorem dX11_passing_133 : decode cX11_passing 133 = .ok (.iconst 1, 1) := by decide +kernel
theorem dX11_passing_134 : decode cX11_passing 134 = .ok (.iadd, 1) := by decide +kernel
theorem dX11_passing_135 : decode cX11_passing 135 = .ok (.istore 10, 2) := by decide +kernel
theorem dX11_passing_137 : decode cX11_passing 137 = .ok (.goto (-34), 3) := by decide +kernel
theorem dX11_passing_140 : decode cX11_passing 140 = .ok (.aload_n 0, 1) := by decide +kernel
theorem dX11_passing_141 : decode cX11_passing 141 = .ok (.iload_n 1, 1) := by decide +kernel
theorem dX11_passing_142 : decode cX11_passing 142 = .ok (.iload 10, 2) := by decide +kernel
theorem dX11_passing_144 : decode cX11_passing 144 = .ok (.invokevirtual 176, 3) := by decide +kernel
theorem dX11_passing_147 : decode cX11_passing 147 = .ok (.iload_n 3, 1) := by decide +kernel
theorem dX11_passing_148 : decode cX11_passing 148 = .ok (.if_icmp .eq 30, 3) := by decide +kernel
theorem dX11_passing_151 : decode cX11_passing 151 = .ok (.iload 10, 2) := by decide +kernel
theorem dX11_passing_153 : decode cX11_passing 153 = .ok (.aload_n 0, 1) := by decide +kernel
theorem dX11_passing_154 : decode cX11_passing 154 = .ok (.getfield 25, 3) := by decide +kernel
theorem dX11_passing_157 : decode cX11_passing 157 = .ok (.iload_n 1, 1) := by decide +kernel
theorem dX11_passing_158 : decode cX11_passing 158 = .ok (.iaload, 1) := by decide +kernel
theorem dX11_passing_159 : decode cX11_passing 159 = .ok (.if_icmp .ge 21, 3) := by decide +kernel
theorem dX11_passing_162 : decode cX11_passing 162 = .ok (.aload_n 0, 1) := by decide +kernel
theorem dX11_passing_163 : decode cX11_passing 163 = .ok (.getfield 31, 3) := by decide +kernel
theorem dX11_passing_166 : decode cX11_passing 166 = .ok (.bipush 22, 2) := by decide +kernel
theorem dX11_passing_168 : decode cX11_passing 168 = .ok (.iload_n 1, 1) := by decide +kernel
theorem dX11_passing_169 : decode cX11_passing 169 = .ok (.imul, 1) := by decide +kernel
theorem dX11_passing_170 : decode cX11_passing 170 = .ok (.iload 10, 2) := by decide +kernel
theorem dX11_passing_172 : decode cX11_passing 172 = .ok (.iadd, 1) := by decide +kernel
theorem dX11_passing_173 : decode cX11_passing 173 = .ok (.iaload, 1) := by decide +kernel
theorem dX11_passing_174 : decode cX11_passing 174 = .ok (.iload_n 3, 1) := by decide +kernel
theorem dX11_passing_175 : decode cX11_passing 175 = .ok (.if_icmp .ne 5, 3) := by decide +kernel
theorem dX11_passing_178 : decode cX11_passing 178 = .ok (.iconst (-1), 1) := by decide +kernel
theorem dX11_passing_179 : decode cX11_passing 179 = .ok (.ireturn, 1) := by decide +kernel
theorem dX11_passing_180 : decode cX11_passing 180 = .ok (.aload_n 0, 1) := by decide +kernel
theorem dX11_passing_181 : decode cX11_passing 181 = .ok (.getfield 25, 3) := by decide +kernel
theorem dX11_passing_184 : decode cX11_passing 184 = .ok (.iload_n 1, 1) := by decide +kernel
theorem dX11_passing_185 : decode cX11_passing 185 = .ok (.iaload, 1) := by decide +kernel
theorem dX11_passing_186 : decode cX11_passing 186 = .ok (.istore 11, 2) := by decide +kernel
theorem dX11_passing_188 : decode cX11_passing 188 = .ok (.iload 11, 2) := by decide +kernel
theorem dX11_passing_190 : decode cX11_passing 190 = .ok (.iload 10, 2) := by decide +kernel
theorem dX11_passing_192 : decode cX11_passing 192 = .ok (.if_icmp .le 29, 3) := by decide +kernel
theorem dX11_passing_195 : decode cX11_passing 195 = .ok (.aload_n 0, 1) := by decide +kernel
theorem dX11_passing_196 : decode cX11_passing 196 = .ok (.bipush 22, 2) := by decide +kernel
theorem dX11_passing_198 : decode cX11_passing 198 = .ok (.iload_n 1, 1) := by decide +kernel
theorem dX11_passing_199 : decode cX11_passing 199 = .ok (.imul, 1) := by decide +kernel
theorem dX11_passing_200 : decode cX11_passing 200 = .ok (.iload 11, 2) := by decide +kernel
theorem dX11_passing_202 : decode cX11_passing 202 = .ok (.iadd, 1) := by decide +kernel
theorem dX11_passing_203 : decode cX11_passing 203 = .ok (.iconst 1, 1) := by decide +kernel
theorem dX11_passing_204 : decode cX11_passing 204 = .ok (.isub, 1) := by decide +kernel
theorem dX11_passing_205 : decode cX11_passing 205 = .ok (.bipush 22, 2) := by decide +kernel
theorem dX11_passing_207 : decode cX11_passing 207 = .ok (.iload_n 1, 1) := by decide +kernel
theorem dX11_passing_208 : decode cX11_passing 208 = .ok (.imul, 1) := by decide +kernel
theorem dX11_passing_209 : decode cX11_passing 209 = .ok (.iload 11, 2) := by decide +kernel
theorem dX11_passing_211 : decode cX11_passing 211 = .ok (.iadd, 1) := by decide +kernel
theorem dX11_passing_212 : decode cX11_passing 212 = .ok (.invokevirtual 180, 3) := by decide +kernel
theorem dX11_passing_215 : decode cX11_passing 215 = .ok (.iinc 11 (-1), 3) := by decide +kernel
theorem dX11_passing_218 : decode cX11_passing 218 = .ok (.goto (-30), 3) := by decide +kernel
theorem dX11_passing_221 : decode cX11_passing 221 = .ok (.aload_n 0, 1) := by decide +kernel
theorem dX11_passing_222 : decode cX11_passing 222 = .ok (.bipush 22, 2) := by decide +kernel
theorem dX11_passing_224 : decode cX11_passing 224 = .ok (.iload_n 1, 1) := by decide +kernel
theorem dX11_passing_225 : decode cX11_passing 225 = .ok (.imul, 1) := by decide +kernel
theorem dX11_passing_226 : decode cX11_passing 226 = .ok (.iload 10, 2) := by decide +kernel
theorem dX11_passing_228 : decode cX11_passing 228 = .ok (.iadd, 1) := by decide +kernel
theorem dX11_passing_229 : decode cX11_passing 229 = .ok (.iload_n 2, 1) := by decide +kernel
theorem dX11_passing_230 : decode cX11_passing 230 = .ok (.iload_n 3, 1) := by decide +kernel
theorem dX11_passing_231 : decode cX11_passing 231 = .ok (.iload 4, 2) := by decide +kernel
theorem dX11_passing_233 : decode cX11_passing 233 = .ok (.iload 5, 2) := by decide +kernel
theorem dX11_passing_235 : decode cX11_passing 235 = .ok (.iload 6, 2) := by decide +kernel
theorem dX11_passing_237 : decode cX11_passing 237 = .ok (.iload 7, 2) := by decide +kernel
theorem dX11_passing_239 : decode cX11_passing 239 = .ok (.iload 8, 2) := by decide +kernel
theorem dX11_passing_241 : decode cX11_passing 241 = .ok (.iload 9, 2) := by decide +kernel
theorem dX11_passing_243 : decode cX11_passing 243 = .ok (.invokevirtual 184, 3) := by decide +kernel
theorem dX11_passing_246 : decode cX11_passing 246 = .ok (.aload_n 0, 1) := by decide +kernel
theorem dX11_passing_247 : decode cX11_passing 247 = .ok (.getfield 25, 3) := by decide +kernel
theorem dX11_passing_250 : decode cX11_passing 250 = .ok (.iload_n 1, 1) := by decide +kernel
theorem dX11_passing_251 : decode cX11_passing 251 = .ok (.aload_n 0, 1) := by decide +kernel
theorem dX11_passing_252 : decode cX11_passing 252 = .ok (.getfield 25, 3) := by decide +kernel
theorem dX11_passing_255 : decode cX11_passing 255 = .ok (.iload_n 1, 1) := by decide +kernel
theorem dX11_passing_256 : decode cX11_passing 256 = .ok (.iaload, 1) := by decide +kernel
theorem dX11_passing_257 : decode cX11_passing 257 = .ok (.iconst 1, 1) := by decide +kernel
theorem dX11_passing_258 : decode cX11_passing 258 = .ok (.iadd, 1) := by decide +kernel
theorem dX11_passing_259 : decode cX11_passing 259 = .ok (.iastore, 1) := by decide +kernel
theorem dX11_passing_260 : decode cX11_passing 260 = .ok (.iload 10, 2) := by decide +kernel
theorem dX11_passing_262 : decode cX11_passing 262 = .ok (.ireturn, 1) := by decide +kernel
theorem dX11_mind_0 : decode cX11_mind 0 = .ok (.aload_n 0, 1) := by decide +kernel
theorem dX11_mind_1 : decode cX11_mind 1 = .ok (.iload_n 1, 1) := by decide +kernel
theorem dX11_mind_2 : decode cX11_mind 2 = .ok (.iload_n 2, 1) := by decide +kernel
theorem dX11_mind_3 : decode cX11_mind 3 = .ok (.invokevirtual 188, 3) := by decide +kernel
