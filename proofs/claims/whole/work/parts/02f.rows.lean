/-! printed: decode rows -/
theorem dX10_act_1 : decode cX10_act 1 = .ok (.getfield 181, 3) := by decide +kernel
theorem dX10_act_4 : decode cX10_act 4 = .ok (.istore_n 1, 1) := by decide +kernel
theorem dX10_act_5 : decode cX10_act 5 = .ok (.aload_n 0, 1) := by decide +kernel
theorem dX10_act_6 : decode cX10_act 6 = .ok (.getfield 66, 3) := by decide +kernel
theorem dX10_act_9 : decode cX10_act 9 = .ok (.iconst 0, 1) := by decide +kernel
theorem dX10_act_10 : decode cX10_act 10 = .ok (.iaload, 1) := by decide +kernel
theorem dX10_act_11 : decode cX10_act 11 = .ok (.istore_n 2, 1) := by decide +kernel
theorem dX10_act_12 : decode cX10_act 12 = .ok (.aload_n 0, 1) := by decide +kernel
theorem dX10_act_13 : decode cX10_act 13 = .ok (.iconst 0, 1) := by decide +kernel
theorem dX10_act_14 : decode cX10_act 14 = .ok (.putfield 181, 3) := by decide +kernel
theorem dX10_act_17 : decode cX10_act 17 = .ok (.aload_n 0, 1) := by decide +kernel
theorem dX10_act_18 : decode cX10_act 18 = .ok (.getfield 72, 3) := by decide +kernel
theorem dX10_act_21 : decode cX10_act 21 = .ok (.iconst 1, 1) := by decide +kernel
theorem dX10_act_22 : decode cX10_act 22 = .ok (.iaload, 1) := by decide +kernel
theorem dX10_act_23 : decode cX10_act 23 = .ok (.ldc 124, 2) := by decide +kernel
theorem dX10_act_25 : decode cX10_act 25 = .ok (.if_icmp .ge 67, 3) := by decide +kernel
theorem dX10_act_28 : decode cX10_act 28 = .ok (.aload_n 0, 1) := by decide +kernel
theorem dX10_act_29 : decode cX10_act 29 = .ok (.getfield 72, 3) := by decide +kernel
theorem dX10_act_32 : decode cX10_act 32 = .ok (.iconst 1, 1) := by decide +kernel
theorem dX10_act_33 : decode cX10_act 33 = .ok (.iaload, 1) := by decide +kernel
theorem dX10_act_34 : decode cX10_act 34 = .ok (.aload_n 0, 1) := by decide +kernel
theorem dX10_act_35 : decode cX10_act 35 = .ok (.getfield 72, 3) := by decide +kernel
theorem dX10_act_38 : decode cX10_act 38 = .ok (.iconst 0, 1) := by decide +kernel
theorem dX10_act_39 : decode cX10_act 39 = .ok (.iaload, 1) := by decide +kernel
theorem dX10_act_40 : decode cX10_act 40 = .ok (.aload_n 0, 1) := by decide +kernel
theorem dX10_act_41 : decode cX10_act 41 = .ok (.getfield 51, 3) := by decide +kernel
theorem dX10_act_44 : decode cX10_act 44 = .ok (.iadd, 1) := by decide +kernel
theorem dX10_act_45 : decode cX10_act 45 = .ok (.if_icmp .ge 47, 3) := by decide +kernel
theorem dX10_act_48 : decode cX10_act 48 = .ok (.aload_n 0, 1) := by decide +kernel
theorem dX10_act_49 : decode cX10_act 49 = .ok (.iconst 2, 1) := by decide +kernel
theorem dX10_act_50 : decode cX10_act 50 = .ok (.putfield 181, 3) := by decide +kernel
theorem dX10_act_53 : decode cX10_act 53 = .ok (.iconst 0, 1) := by decide +kernel
theorem dX10_act_54 : decode cX10_act 54 = .ok (.istore_n 3, 1) := by decide +kernel
theorem dX10_act_55 : decode cX10_act 55 = .ok (.iload_n 3, 1) := by decide +kernel
theorem dX10_act_56 : decode cX10_act 56 = .ok (.iconst 2, 1) := by decide +kernel
theorem dX10_act_57 : decode cX10_act 57 = .ok (.if_icmp .ge 33, 3) := by decide +kernel
theorem dX10_act_60 : decode cX10_act 60 = .ok (.aload_n 0, 1) := by decide +kernel
theorem dX10_act_61 : decode cX10_act 61 = .ok (.getfield 90, 3) := by decide +kernel
theorem dX10_act_64 : decode cX10_act 64 = .ok (.iload_n 3, 1) := by decide +kernel
theorem dX10_act_65 : decode cX10_act 65 = .ok (.aload_n 0, 1) := by decide +kernel
theorem dX10_act_66 : decode cX10_act 66 = .ok (.getfield 66, 3) := by decide +kernel
theorem dX10_act_69 : decode cX10_act 69 = .ok (.iload_n 3, 1) := by decide +kernel
theorem dX10_act_70 : decode cX10_act 70 = .ok (.iaload, 1) := by decide +kernel
theorem dX10_act_71 : decode cX10_act 71 = .ok (.iastore, 1) := by decide +kernel
theorem dX10_act_72 : decode cX10_act 72 = .ok (.aload_n 0, 1) := by decide +kernel
theorem dX10_act_73 : decode cX10_act 73 = .ok (.getfield 93, 3) := by decide +kernel
theorem dX10_act_76 : decode cX10_act 76 = .ok (.iload_n 3, 1) := by decide +kernel
theorem dX10_act_77 : decode cX10_act 77 = .ok (.aload_n 0, 1) := by decide +kernel
theorem dX10_act_78 : decode cX10_act 78 = .ok (.getfield 69, 3) := by decide +kernel
theorem dX10_act_81 : decode cX10_act 81 = .ok (.iload_n 3, 1) := by decide +kernel
theorem dX10_act_82 : decode cX10_act 82 = .ok (.iaload, 1) := by decide +kernel
theorem dX10_act_83 : decode cX10_act 83 = .ok (.iastore, 1) := by decide +kernel
theorem dX10_act_84 : decode cX10_act 84 = .ok (.iinc 3 1, 3) := by decide +kernel
theorem dX10_act_87 : decode cX10_act 87 = .ok (.goto (-32), 3) := by decide +kernel
theorem dX10_act_90 : decode cX10_act 90 = .ok (.iconst 2, 1) := by decide +kernel
theorem dX10_act_91 : decode cX10_act 91 = .ok (.ireturn, 1) := by decide +kernel
theorem dX10_act_92 : decode cX10_act 92 = .ok (.iload_n 1, 1) := by decide +kernel
theorem dX10_act_93 : decode cX10_act 93 = .ok (.iconst 2, 1) := by decide +kernel
theorem dX10_act_94 : decode cX10_act 94 = .ok (.if_icmp .ne 49, 3) := by decide +kernel
theorem dX10_act_97 : decode cX10_act 97 = .ok (.iload_n 2, 1) := by decide +kernel
theorem dX10_act_98 : decode cX10_act 98 = .ok (.iconst 5, 1) := by decide +kernel
theorem dX10_act_99 : decode cX10_act 99 = .ok (.if_icmp .eq 9, 3) := by decide +kernel
theorem dX10_act_102 : decode cX10_act 102 = .ok (.iload_n 2, 1) := by decide +kernel
theorem dX10_act_103 : decode cX10_act 103 = .ok (.bipush 6, 2) := by decide +kernel
theorem dX10_act_105 : decode cX10_act 105 = .ok (.if_icmp .ne 38, 3) := by decide +kernel
theorem dX10_act_108 : decode cX10_act 108 = .ok (.aload_n 0, 1) := by decide +kernel
theorem dX10_act_109 : decode cX10_act 109 = .ok (.aload_n 0, 1) := by decide +kernel
theorem dX10_act_110 : decode cX10_act 110 = .ok (.getfield 90, 3) := by decide +kernel
theorem dX10_act_113 : decode cX10_act 113 = .ok (.iload_n 2, 1) := by decide +kernel
theorem dX10_act_114 : decode cX10_act 114 = .ok (.iconst 5, 1) := by decide +kernel
theorem dX10_act_115 : decode cX10_act 115 = .ok (.if_icmp .ne 7, 3) := by decide +kernel
theorem dX10_act_118 : decode cX10_act 118 = .ok (.iconst 0, 1) := by decide +kernel
theorem dX10_act_119 : decode cX10_act 119 = .ok (.goto 4, 3) := by decide +kernel
theorem dX10_act_122 : decode cX10_act 122 = .ok (.iconst 1, 1) := by decide +kernel
theorem dX10_act_123 : decode cX10_act 123 = .ok (.iaload, 1) := by decide +kernel
theorem dX10_act_124 : decode cX10_act 124 = .ok (.aload_n 0, 1) := by decide +kernel
theorem dX10_act_125 : decode cX10_act 125 = .ok (.getfield 93, 3) := by decide +kernel
theorem dX10_act_128 : decode cX10_act 128 = .ok (.iload_n 2, 1) := by decide +kernel
theorem dX10_act_129 : decode cX10_act 129 = .ok (.iconst 5, 1) := by decide +kernel
theorem dX10_act_130 : decode cX10_act 130 = .ok (.if_icmp .ne 7, 3) := by decide +kernel
theorem dX10_act_133 : decode cX10_act 133 = .ok (.iconst 0, 1) := by decide +kernel
theorem dX10_act_134 : decode cX10_act 134 = .ok (.goto 4, 3) := by decide +kernel
theorem dX10_act_137 : decode cX10_act 137 = .ok (.iconst 1, 1) := by decide +kernel
theorem dX10_act_138 : decode cX10_act 138 = .ok (.iaload, 1) := by decide +kernel
theorem dX10_act_139 : decode cX10_act 139 = .ok (.invokevirtual 206, 3) := by decide +kernel
theorem dX10_act_142 : decode cX10_act 142 = .ok (.ireturn, 1) := by decide +kernel
theorem dX10_act_143 : decode cX10_act 143 = .ok (.iload_n 1, 1) := by decide +kernel
theorem dX10_act_144 : decode cX10_act 144 = .ok (.iconst 1, 1) := by decide +kernel
theorem dX10_act_145 : decode cX10_act 145 = .ok (.if_icmp .ne 22, 3) := by decide +kernel
theorem dX10_act_148 : decode cX10_act 148 = .ok (.iload_n 2, 1) := by decide +kernel
theorem dX10_act_149 : decode cX10_act 149 = .ok (.iconst 5, 1) := by decide +kernel
theorem dX10_act_150 : decode cX10_act 150 = .ok (.if_icmp .ne 17, 3) := by decide +kernel
theorem dX10_act_153 : decode cX10_act 153 = .ok (.aload_n 0, 1) := by decide +kernel
theorem dX10_act_154 : decode cX10_act 154 = .ok (.aload_n 0, 1) := by decide +kernel
theorem dX10_act_155 : decode cX10_act 155 = .ok (.getfield 184, 3) := by decide +kernel
theorem dX10_act_158 : decode cX10_act 158 = .ok (.aload_n 0, 1) := by decide +kernel
theorem dX10_act_159 : decode cX10_act 159 = .ok (.getfield 187, 3) := by decide +kernel
theorem dX10_act_162 : decode cX10_act 162 = .ok (.iconst 1, 1) := by decide +kernel
theorem dX10_act_163 : decode cX10_act 163 = .ok (.invokevirtual 177, 3) := by decide +kernel
theorem dX10_act_166 : decode cX10_act 166 = .ok (.ireturn, 1) := by decide +kernel
theorem dX10_act_167 : decode cX10_act 167 = .ok (.iload_n 1, 1) := by decide +kernel
theorem dX10_act_168 : decode cX10_act 168 = .ok (.iconst 1, 1) := by decide +kernel
theorem dX10_act_169 : decode cX10_act 169 = .ok (.if_icmp .ne 11, 3) := by decide +kernel
theorem dX10_act_172 : decode cX10_act 172 = .ok (.iload_n 2, 1) := by decide +kernel
theorem dX10_act_173 : decode cX10_act 173 = .ok (.bipush 6, 2) := by decide +kernel
theorem dX10_act_175 : decode cX10_act 175 = .ok (.if_icmp .ne 5, 3) := by decide +kernel
theorem dX10_act_178 : decode cX10_act 178 = .ok (.iconst 5, 1) := by decide +kernel
theorem dX10_act_179 : decode cX10_act 179 = .ok (.ireturn, 1) := by decide +kernel
theorem dX10_act_180 : decode cX10_act 180 = .ok (.aload_n 0, 1) := by decide +kernel
theorem dX10_act_181 : decode cX10_act 181 = .ok (.iload_n 2, 1) := by decide +kernel
theorem dX10_act_182 : decode cX10_act 182 = .ok (.aload_n 0, 1) := by decide +kernel
theorem dX10_act_183 : decode cX10_act 183 = .ok (.getfield 69, 3) := by decide +kernel
theorem dX10_act_186 : decode cX10_act 186 = .ok (.iconst 0, 1) := by decide +kernel
theorem dX10_act_187 : decode cX10_act 187 = .ok (.iaload, 1) := by decide +kernel
theorem dX10_act_188 : decode cX10_act 188 = .ok (.invokevirtual 206, 3) := by decide +kernel
theorem dX10_act_191 : decode cX10_act 191 = .ok (.ireturn, 1) := by decide +kernel
theorem dX10_unlike_0 : decode cX10_unlike 0 = .ok (.iconst 0, 1) := by decide +kernel
theorem dX10_unlike_1 : decode cX10_unlike 1 = .ok (.istore_n 1, 1) := by decide +kernel
theorem dX10_unlike_2 : decode cX10_unlike 2 = .ok (.aload_n 0, 1) := by decide +kernel
theorem dX10_unlike_3 : decode cX10_unlike 3 = .ok (.getfield 69, 3) := by decide +kernel
theorem dX10_unlike_6 : decode cX10_unlike 6 = .ok (.iconst 0, 1) := by decide +kernel
theorem dX10_unlike_7 : decode cX10_unlike 7 = .ok (.iaload, 1) := by decide +kernel
theorem dX10_unlike_8 : decode cX10_unlike 8 = .ok (.istore_n 2, 1) := by decide +kernel
theorem dX10_unlike_9 : decode cX10_unlike 9 = .ok (.aload_n 0, 1) := by decide +kernel
theorem dX10_unlike_10 : decode cX10_unlike 10 = .ok (.getfield 69, 3) := by decide +kernel
theorem dX10_unlike_13 : decode cX10_unlike 13 = .ok (.iconst 1, 1) := by decide +kernel
theorem dX10_unlike_14 : decode cX10_unlike 14 = .ok (.iaload, 1) := by decide +kernel
theorem dX10_unlike_15 : decode cX10_unlike 15 = .ok (.istore_n 3, 1) := by decide +kernel
theorem dX10_unlike_16 : decode cX10_unlike 16 = .ok (.aload_n 0, 1) := by decide +kernel
theorem dX10_unlike_17 : decode cX10_unlike 17 = .ok (.getfield 13, 3) := by decide +kernel
theorem dX10_unlike_20 : decode cX10_unlike 20 = .ok (.aload_n 0, 1) := by decide +kernel
theorem dX10_unlike_21 : decode cX10_unlike 21 = .ok (.getfield 81, 3) := by decide +kernel
theorem dX10_unlike_24 : decode cX10_unlike 24 = .ok (.iaload, 1) := by decide +kernel
theorem dX10_unlike_25 : decode cX10_unlike 25 = .ok (.iconst 1, 1) := by decide +kernel
theorem dX10_unlike_26 : decode cX10_unlike 26 = .ok (.isub, 1) := by decide +kernel
theorem dX10_unlike_27 : decode cX10_unlike 27 = .ok (.istore 4, 2) := by decide +kernel
theorem dX10_unlike_29 : decode cX10_unlike 29 = .ok (.iload 4, 2) := by decide +kernel
theorem dX10_unlike_31 : decode cX10_unlike 31 = .ok (.ifCond .lt 37, 3) := by decide +kernel
theorem dX10_unlike_34 : decode cX10_unlike 34 = .ok (.iload_n 2, 1) := by decide +kernel
theorem dX10_unlike_35 : decode cX10_unlike 35 = .ok (.bipush 10, 2) := by decide +kernel
theorem dX10_unlike_37 : decode cX10_unlike 37 = .ok (.irem, 1) := by decide +kernel
theorem dX10_unlike_38 : decode cX10_unlike 38 = .ok (.iload_n 3, 1) := by decide +kernel
theorem dX10_unlike_39 : decode cX10_unlike 39 = .ok (.bipush 10, 2) := by decide +kernel
theorem dX10_unlike_41 : decode cX10_unlike 41 = .ok (.irem, 1) := by decide +kernel
theorem dX10_unlike_42 : decode cX10_unlike 42 = .ok (.if_icmp .eq 10, 3) := by decide +kernel
theorem dX10_unlike_45 : decode cX10_unlike 45 = .ok (.iload_n 1, 1) := by decide +kernel
theorem dX10_unlike_46 : decode cX10_unlike 46 = .ok (.iconst 1, 1) := by decide +kernel
theorem dX10_unlike_47 : decode cX10_unlike 47 = .ok (.iload 4, 2) := by decide +kernel
theorem dX10_unlike_49 : decode cX10_unlike 49 = .ok (.ishl, 1) := by decide +kernel
theorem dX10_unlike_50 : decode cX10_unlike 50 = .ok (.ior, 1) := by decide +kernel
theorem dX10_unlike_51 : decode cX10_unlike 51 = .ok (.istore_n 1, 1) := by decide +kernel
theorem dX10_unlike_52 : decode cX10_unlike 52 = .ok (.iload_n 2, 1) := by decide +kernel
theorem dX10_unlike_53 : decode cX10_unlike 53 = .ok (.bipush 10, 2) := by decide +kernel
theorem dX10_unlike_55 : decode cX10_unlike 55 = .ok (.idiv, 1) := by decide +kernel
theorem dX10_unlike_56 : decode cX10_unlike 56 = .ok (.istore_n 2, 1) := by decide +kernel
theorem dX10_unlike_57 : decode cX10_unlike 57 = .ok (.iload_n 3, 1) := by decide +kernel
theorem dX10_unlike_58 : decode cX10_unlike 58 = .ok (.bipush 10, 2) := by decide +kernel
theorem dX10_unlike_60 : decode cX10_unlike 60 = .ok (.idiv, 1) := by decide +kernel
theorem dX10_unlike_61 : decode cX10_unlike 61 = .ok (.istore_n 3, 1) := by decide +kernel
theorem dX10_unlike_62 : decode cX10_unlike 62 = .ok (.iinc 4 (-1), 3) := by decide +kernel
theorem dX10_unlike_65 : decode cX10_unlike 65 = .ok (.goto (-36), 3) := by decide +kernel
theorem dX10_unlike_68 : decode cX10_unlike 68 = .ok (.iload_n 1, 1) := by decide +kernel
theorem dX10_unlike_69 : decode cX10_unlike 69 = .ok (.ireturn, 1) := by decide +kernel
theorem dX10_say_0 : decode cX10_say 0 = .ok (.aload_n 0, 1) := by decide +kernel
theorem dX10_say_1 : decode cX10_say 1 = .ok (.iconst 1, 1) := by decide +kernel
theorem dX10_say_2 : decode cX10_say 2 = .ok (.putfield 106, 3) := by decide +kernel
theorem dX10_say_5 : decode cX10_say 5 = .ok (.aload_n 0, 1) := by decide +kernel
theorem dX10_say_6 : decode cX10_say 6 = .ok (.iconst 0, 1) := by decide +kernel
theorem dX10_say_7 : decode cX10_say 7 = .ok (.putfield 168, 3) := by decide +kernel
theorem dX10_say_10 : decode cX10_say 10 = .ok (.iconst 0, 1) := by decide +kernel
theorem dX10_say_11 : decode cX10_say 11 = .ok (.istore_n 1, 1) := by decide +kernel
theorem dX10_say_12 : decode cX10_say 12 = .ok (.iload_n 1, 1) := by decide +kernel
theorem dX10_say_13 : decode cX10_say 13 = .ok (.bipush 9, 2) := by decide +kernel
theorem dX10_say_15 : decode cX10_say 15 = .ok (.if_icmp .ge 26, 3) := by decide +kernel
theorem dX10_say_18 : decode cX10_say 18 = .ok (.aload_n 0, 1) := by decide +kernel
theorem dX10_say_19 : decode cX10_say 19 = .ok (.getfield 96, 3) := by decide +kernel
theorem dX10_say_22 : decode cX10_say 22 = .ok (.iload_n 1, 1) := by decide +kernel
theorem dX10_say_23 : decode cX10_say 23 = .ok (.iload_n 1, 1) := by decide +kernel
theorem dX10_say_24 : decode cX10_say 24 = .ok (.bipush 7, 2) := by decide +kernel
theorem dX10_say_26 : decode cX10_say 26 = .ok (.if_icmp .ge 7, 3) := by decide +kernel
theorem dX10_say_29 : decode cX10_say 29 = .ok (.iconst (-1), 1) := by decide +kernel
theorem dX10_say_30 : decode cX10_say 30 = .ok (.goto 4, 3) := by decide +kernel
theorem dX10_say_33 : decode cX10_say 33 = .ok (.iconst 0, 1) := by decide +kernel
theorem dX10_say_34 : decode cX10_say 34 = .ok (.iastore, 1) := by decide +kernel
theorem dX10_say_35 : decode cX10_say 35 = .ok (.iinc 1 1, 3) := by decide +kernel
theorem dX10_say_38 : decode cX10_say 38 = .ok (.goto (-26), 3) := by decide +kernel
theorem dX10_say_41 : decode cX10_say 41 = .ok (.aload_n 0, 1) := by decide +kernel
theorem dX10_say_42 : decode cX10_say 42 = .ok (.getfield 121, 3) := by decide +kernel
theorem dX10_say_45 : decode cX10_say 45 = .ok (.ifCond .ne 14, 3) := by decide +kernel
theorem dX10_say_48 : decode cX10_say 48 = .ok (.aload_n 0, 1) := by decide +kernel
theorem dX10_say_49 : decode cX10_say 49 = .ok (.getfield 200, 3) := by decide +kernel
theorem dX10_say_52 : decode cX10_say 52 = .ok (.ifCond .ne 7, 3) := by decide +kernel
theorem dX10_say_55 : decode cX10_say 55 = .ok (.iconst 0, 1) := by decide +kernel
theorem dX10_say_56 : decode cX10_say 56 = .ok (.goto 4, 3) := by decide +kernel
theorem dX10_say_59 : decode cX10_say 59 = .ok (.iconst 1, 1) := by decide +kernel
theorem dX10_say_60 : decode cX10_say 60 = .ok (.istore_n 1, 1) := by decide +kernel
theorem dX10_say_61 : decode cX10_say 61 = .ok (.aload_n 0, 1) := by decide +kernel
theorem dX10_say_62 : decode cX10_say 62 = .ok (.getfield 121, 3) := by decide +kernel
theorem dX10_say_65 : decode cX10_say 65 = .ok (.ifCond .le 195, 3) := by decide +kernel
theorem dX10_say_68 : decode cX10_say 68 = .ok (.aload_n 0, 1) := by decide +kernel
theorem dX10_say_69 : decode cX10_say 69 = .ok (.getfield 200, 3) := by decide +kernel
theorem dX10_say_72 : decode cX10_say 72 = .ok (.ifCond .ne 188, 3) := by decide +kernel
theorem dX10_say_75 : decode cX10_say 75 = .ok (.aload_n 0, 1) := by decide +kernel
theorem dX10_say_76 : decode cX10_say 76 = .ok (.invokevirtual 209, 3) := by decide +kernel
theorem dX10_say_79 : decode cX10_say 79 = .ok (.aload_n 0, 1) := by decide +kernel
theorem dX10_say_80 : decode cX10_say 80 = .ok (.getfield 72, 3) := by decide +kernel
theorem dX10_say_83 : decode cX10_say 83 = .ok (.iconst 0, 1) := by decide +kernel
theorem dX10_say_84 : decode cX10_say 84 = .ok (.iaload, 1) := by decide +kernel
theorem dX10_say_85 : decode cX10_say 85 = .ok (.ldc 124, 2) := by decide +kernel
theorem dX10_say_87 : decode cX10_say 87 = .ok (.if_icmp .ge 173, 3) := by decide +kernel
theorem dX10_say_90 : decode cX10_say 90 = .ok (.aload_n 0, 1) := by decide +kernel
theorem dX10_say_91 : decode cX10_say 91 = .ok (.getfield 81, 3) := by decide +kernel
theorem dX10_say_94 : decode cX10_say 94 = .ok (.ifCond .lt 48, 3) := by decide +kernel
theorem dX10_say_97 : decode cX10_say 97 = .ok (.aload_n 0, 1) := by decide +kernel
theorem dX10_say_98 : decode cX10_say 98 = .ok (.getfield 13, 3) := by decide +kernel
theorem dX10_say_101 : decode cX10_say 101 = .ok (.aload_n 0, 1) := by decide +kernel
theorem dX10_say_102 : decode cX10_say 102 = .ok (.getfield 81, 3) := by decide +kernel
theorem dX10_say_105 : decode cX10_say 105 = .ok (.iaload, 1) := by decide +kernel
theorem dX10_say_106 : decode cX10_say 106 = .ok (.ifCond .le 36, 3) := by decide +kernel
theorem dX10_say_109 : decode cX10_say 109 = .ok (.aload_n 0, 1) := by decide +kernel
theorem dX10_say_110 : decode cX10_say 110 = .ok (.getfield 72, 3) := by decide +kernel
theorem dX10_say_113 : decode cX10_say 113 = .ok (.iconst 1, 1) := by decide +kernel
theorem dX10_say_114 : decode cX10_say 114 = .ok (.iaload, 1) := by decide +kernel
theorem dX10_say_115 : decode cX10_say 115 = .ok (.ldc 124, 2) := by decide +kernel
theorem dX10_say_117 : decode cX10_say 117 = .ok (.if_icmp .ge 25, 3) := by decide +kernel
theorem dX10_say_120 : decode cX10_say 120 = .ok (.aload_n 0, 1) := by decide +kernel
theorem dX10_say_121 : decode cX10_say 121 = .ok (.getfield 66, 3) := by decide +kernel
theorem dX10_say_124 : decode cX10_say 124 = .ok (.iconst 0, 1) := by decide +kernel
theorem dX10_say_125 : decode cX10_say 125 = .ok (.iaload, 1) := by decide +kernel
theorem dX10_say_126 : decode cX10_say 126 = .ok (.ifCond .ne 16, 3) := by decide +kernel
theorem dX10_say_129 : decode cX10_say 129 = .ok (.aload_n 0, 1) := by decide +kernel
theorem dX10_say_130 : decode cX10_say 130 = .ok (.getfield 66, 3) := by decide +kernel
theorem dX10_say_133 : decode cX10_say 133 = .ok (.iconst 1, 1) := by decide +kernel
theorem dX10_say_134 : decode cX10_say 134 = .ok (.iaload, 1) := by decide +kernel
theorem dX10_say_135 : decode cX10_say 135 = .ok (.ifCond .ne 7, 3) := by decide +kernel
theorem dX10_say_138 : decode cX10_say 138 = .ok (.iconst 1, 1) := by decide +kernel
theorem dX10_say_139 : decode cX10_say 139 = .ok (.goto 4, 3) := by decide +kernel
theorem dX10_say_142 : decode cX10_say 142 = .ok (.iconst 0, 1) := by decide +kernel
theorem dX10_say_143 : decode cX10_say 143 = .ok (.istore_n 2, 1) := by decide +kernel
theorem dX10_say_144 : decode cX10_say 144 = .ok (.aload_n 0, 1) := by decide +kernel
theorem dX10_say_145 : decode cX10_say 145 = .ok (.getfield 96, 3) := by decide +kernel
theorem dX10_say_148 : decode cX10_say 148 = .ok (.bipush 8, 2) := by decide +kernel
theorem dX10_say_150 : decode cX10_say 150 = .ok (.iload_n 2, 1) := by decide +kernel
theorem dX10_say_151 : decode cX10_say 151 = .ok (.ifCond .eq 30, 3) := by decide +kernel
theorem dX10_say_154 : decode cX10_say 154 = .ok (.aload_n 0, 1) := by decide +kernel
theorem dX10_say_155 : decode cX10_say 155 = .ok (.getfield 72, 3) := by decide +kernel
theorem dX10_say_158 : decode cX10_say 158 = .ok (.iconst 1, 1) := by decide +kernel
theorem dX10_say_159 : decode cX10_say 159 = .ok (.iaload, 1) := by decide +kernel
theorem dX10_say_160 : decode cX10_say 160 = .ok (.aload_n 0, 1) := by decide +kernel
theorem dX10_say_161 : decode cX10_say 161 = .ok (.getfield 72, 3) := by decide +kernel
theorem dX10_say_164 : decode cX10_say 164 = .ok (.iconst 0, 1) := by decide +kernel
theorem dX10_say_165 : decode cX10_say 165 = .ok (.iaload, 1) := by decide +kernel
theorem dX10_say_166 : decode cX10_say 166 = .ok (.aload_n 0, 1) := by decide +kernel
theorem dX10_say_167 : decode cX10_say 167 = .ok (.getfield 51, 3) := by decide +kernel
theorem dX10_say_170 : decode cX10_say 170 = .ok (.iadd, 1) := by decide +kernel
theorem dX10_say_171 : decode cX10_say 171 = .ok (.if_icmp .ge 10, 3) := by decide +kernel
theorem dX10_say_174 : decode cX10_say 174 = .ok (.aload_n 0, 1) := by decide +kernel
theorem dX10_say_175 : decode cX10_say 175 = .ok (.invokevirtual 212, 3) := by decide +kernel
theorem dX10_say_178 : decode cX10_say 178 = .ok (.goto 4, 3) := by decide +kernel
theorem dX10_say_181 : decode cX10_say 181 = .ok (.iconst 0, 1) := by decide +kernel
theorem dX10_say_182 : decode cX10_say 182 = .ok (.iastore, 1) := by decide +kernel
theorem dX10_say_183 : decode cX10_say 183 = .ok (.iconst 0, 1) := by decide +kernel
theorem dX10_say_184 : decode cX10_say 184 = .ok (.istore_n 3, 1) := by decide +kernel
theorem dX10_say_185 : decode cX10_say 185 = .ok (.iload_n 3, 1) := by decide +kernel
theorem dX10_say_186 : decode cX10_say 186 = .ok (.iconst 2, 1) := by decide +kernel
theorem dX10_say_187 : decode cX10_say 187 = .ok (.if_icmp .ge 68, 3) := by decide +kernel
theorem dX10_say_190 : decode cX10_say 190 = .ok (.aload_n 0, 1) := by decide +kernel
theorem dX10_say_191 : decode cX10_say 191 = .ok (.getfield 72, 3) := by decide +kernel
theorem dX10_say_194 : decode cX10_say 194 = .ok (.iload_n 3, 1) := by decide +kernel
theorem dX10_say_195 : decode cX10_say 195 = .ok (.iaload, 1) := by decide +kernel
theorem dX10_say_196 : decode cX10_say 196 = .ok (.ldc 124, 2) := by decide +kernel
theorem dX10_say_198 : decode cX10_say 198 = .ok (.if_icmp .ge 57, 3) := by decide +kernel
theorem dX10_say_201 : decode cX10_say 201 = .ok (.aload_n 0, 1) := by decide +kernel
theorem dX10_say_202 : decode cX10_say 202 = .ok (.getfield 96, 3) := by decide +kernel
theorem dX10_say_205 : decode cX10_say 205 = .ok (.iconst 3, 1) := by decide +kernel
theorem dX10_say_206 : decode cX10_say 206 = .ok (.iload_n 3, 1) := by decide +kernel
theorem dX10_say_207 : decode cX10_say 207 = .ok (.imul, 1) := by decide +kernel
theorem dX10_say_208 : decode cX10_say 208 = .ok (.iconst 1, 1) := by decide +kernel
theorem dX10_say_209 : decode cX10_say 209 = .ok (.iadd, 1) := by decide +kernel
theorem dX10_say_210 : decode cX10_say 210 = .ok (.aload_n 0, 1) := by decide +kernel
theorem dX10_say_211 : decode cX10_say 211 = .ok (.getfield 66, 3) := by decide +kernel
theorem dX10_say_214 : decode cX10_say 214 = .ok (.iload_n 3, 1) := by decide +kernel
theorem dX10_say_215 : decode cX10_say 215 = .ok (.iaload, 1) := by decide +kernel
theorem dX10_say_216 : decode cX10_say 216 = .ok (.iastore, 1) := by decide +kernel
theorem dX10_say_217 : decode cX10_say 217 = .ok (.aload_n 0, 1) := by decide +kernel
theorem dX10_say_218 : decode cX10_say 218 = .ok (.getfield 96, 3) := by decide +kernel
theorem dX10_say_221 : decode cX10_say 221 = .ok (.iconst 3, 1) := by decide +kernel
theorem dX10_say_222 : decode cX10_say 222 = .ok (.iload_n 3, 1) := by decide +kernel
theorem dX10_say_223 : decode cX10_say 223 = .ok (.imul, 1) := by decide +kernel
theorem dX10_say_224 : decode cX10_say 224 = .ok (.iconst 2, 1) := by decide +kernel
theorem dX10_say_225 : decode cX10_say 225 = .ok (.iadd, 1) := by decide +kernel
theorem dX10_say_226 : decode cX10_say 226 = .ok (.aload_n 0, 1) := by decide +kernel
theorem dX10_say_227 : decode cX10_say 227 = .ok (.getfield 69, 3) := by decide +kernel
theorem dX10_say_230 : decode cX10_say 230 = .ok (.iload_n 3, 1) := by decide +kernel
theorem dX10_say_231 : decode cX10_say 231 = .ok (.iaload, 1) := by decide +kernel
theorem dX10_say_232 : decode cX10_say 232 = .ok (.iastore, 1) := by decide +kernel
theorem dX10_say_233 : decode cX10_say 233 = .ok (.aload_n 0, 1) := by decide +kernel
theorem dX10_say_234 : decode cX10_say 234 = .ok (.getfield 96, 3) := by decide +kernel
theorem dX10_say_237 : decode cX10_say 237 = .ok (.iconst 3, 1) := by decide +kernel
theorem dX10_say_238 : decode cX10_say 238 = .ok (.iload_n 3, 1) := by decide +kernel
theorem dX10_say_239 : decode cX10_say 239 = .ok (.imul, 1) := by decide +kernel
theorem dX10_say_240 : decode cX10_say 240 = .ok (.iconst 3, 1) := by decide +kernel
theorem dX10_say_241 : decode cX10_say 241 = .ok (.iadd, 1) := by decide +kernel
theorem dX10_say_242 : decode cX10_say 242 = .ok (.aload_n 0, 1) := by decide +kernel
theorem dX10_say_243 : decode cX10_say 243 = .ok (.getfield 72, 3) := by decide +kernel
theorem dX10_say_246 : decode cX10_say 246 = .ok (.iload_n 3, 1) := by decide +kernel
theorem dX10_say_247 : decode cX10_say 247 = .ok (.iaload, 1) := by decide +kernel
theorem dX10_say_248 : decode cX10_say 248 = .ok (.iastore, 1) := by decide +kernel
theorem dX10_say_249 : decode cX10_say 249 = .ok (.iinc 3 1, 3) := by decide +kernel
theorem dX10_say_252 : decode cX10_say 252 = .ok (.goto (-67), 3) := by decide +kernel
theorem dX10_say_255 : decode cX10_say 255 = .ok (.aload_n 0, 1) := by decide +kernel
theorem dX10_say_256 : decode cX10_say 256 = .ok (.invokevirtual 215, 3) := by decide +kernel
theorem dX10_say_259 : decode cX10_say 259 = .ok (.istore_n 1, 1) := by decide +kernel
theorem dX10_say_260 : decode cX10_say 260 = .ok (.aload_n 0, 1) := by decide +kernel
theorem dX10_say_261 : decode cX10_say 261 = .ok (.iconst 0, 1) := by decide +kernel
theorem dX10_say_262 : decode cX10_say 262 = .ok (.putfield 121, 3) := by decide +kernel
theorem dX10_say_265 : decode cX10_say 265 = .ok (.aload_n 0, 1) := by decide +kernel
theorem dX10_say_266 : decode cX10_say 266 = .ok (.getfield 96, 3) := by decide +kernel
theorem dX10_say_269 : decode cX10_say 269 = .ok (.iconst 0, 1) := by decide +kernel
theorem dX10_say_270 : decode cX10_say 270 = .ok (.iload_n 1, 1) := by decide +kernel
theorem dX10_say_271 : decode cX10_say 271 = .ok (.iastore, 1) := by decide +kernel
theorem dX10_say_272 : decode cX10_say 272 = .ok (.aload_n 0, 1) := by decide +kernel
theorem dX10_say_273 : decode cX10_say 273 = .ok (.getfield 96, 3) := by decide +kernel
theorem dX10_say_276 : decode cX10_say 276 = .ok (.bipush 7, 2) := by decide +kernel
theorem dX10_say_278 : decode cX10_say 278 = .ok (.aload_n 0, 1) := by decide +kernel
theorem dX10_say_279 : decode cX10_say 279 = .ok (.getfield 168, 3) := by decide +kernel
theorem dX10_say_282 : decode cX10_say 282 = .ok (.iastore, 1) := by decide +kernel
theorem dX10_say_283 : decode cX10_say 283 = .ok (.aload_n 0, 1) := by decide +kernel
theorem dX10_say_284 : decode cX10_say 284 = .ok (.iload_n 1, 1) := by decide +kernel
theorem dX10_say_285 : decode cX10_say 285 = .ok (.iconst 1, 1) := by decide +kernel
theorem dX10_say_286 : decode cX10_say 286 = .ok (.if_icmp .le 7, 3) := by decide +kernel
theorem dX10_say_289 : decode cX10_say 289 = .ok (.iconst 0, 1) := by decide +kernel
theorem dX10_say_290 : decode cX10_say 290 = .ok (.goto 23, 3) := by decide +kernel
theorem dX10_say_293 : decode cX10_say 293 = .ok (.aload_n 0, 1) := by decide +kernel
theorem dX10_say_294 : decode cX10_say 294 = .ok (.getfield 218, 3) := by decide +kernel
theorem dX10_say_297 : decode cX10_say 297 = .ok (.bipush 9, 2) := by decide +kernel
theorem dX10_say_299 : decode cX10_say 299 = .ok (.if_icmp .ne 8, 3) := by decide +kernel
theorem dX10_say_302 : decode cX10_say 302 = .ok (.bipush 9, 2) := by decide +kernel
theorem dX10_say_304 : decode cX10_say 304 = .ok (.goto 9, 3) := by decide +kernel
theorem dX10_say_307 : decode cX10_say 307 = .ok (.aload_n 0, 1) := by decide +kernel
theorem dX10_say_308 : decode cX10_say 308 = .ok (.getfield 218, 3) := by decide +kernel
theorem dX10_say_311 : decode cX10_say 311 = .ok (.iconst 1, 1) := by decide +kernel
theorem dX10_say_312 : decode cX10_say 312 = .ok (.iadd, 1) := by decide +kernel
theorem dX10_say_313 : decode cX10_say 313 = .ok (.putfield 218, 3) := by decide +kernel
theorem dX10_say_316 : decode cX10_say 316 = .ok (.iload_n 1, 1) := by decide +kernel
theorem dX10_say_317 : decode cX10_say 317 = .ok (.ireturn, 1) := by decide +kernel
theorem dX10_goOn_0 : decode cX10_goOn 0 = .ok (.aload_n 0, 1) := by decide +kernel
theorem dX10_goOn_1 : decode cX10_goOn 1 = .ok (.getfield 200, 3) := by decide +kernel
theorem dX10_goOn_4 : decode cX10_goOn 4 = .ok (.ifCond .ne 5, 3) := by decide +kernel
theorem dX10_goOn_7 : decode cX10_goOn 7 = .ok (.iconst 0, 1) := by decide +kernel
theorem dX10_goOn_8 : decode cX10_goOn 8 = .ok (.ireturn, 1) := by decide +kernel
theorem dX10_goOn_9 : decode cX10_goOn 9 = .ok (.aload_n 0, 1) := by decide +kernel
theorem dX10_goOn_10 : decode cX10_goOn 10 = .ok (.iconst 0, 1) := by decide +kernel
theorem dX10_goOn_11 : decode cX10_goOn 11 = .ok (.putfield 200, 3) := by decide +kernel
theorem dX10_goOn_14 : decode cX10_goOn 14 = .ok (.iconst 1, 1) := by decide +kernel
theorem dX10_goOn_15 : decode cX10_goOn 15 = .ok (.ireturn, 1) := by decide +kernel
theorem dX10_told_0 : decode cX10_told 0 = .ok (.aload_n 0, 1) := by decide +kernel
theorem dX10_told_1 : decode cX10_told 1 = .ok (.getfield 106, 3) := by decide +kernel
theorem dX10_told_4 : decode cX10_told 4 = .ok (.ifCond .eq 22, 3) := by decide +kernel
theorem dX10_told_7 : decode cX10_told 7 = .ok (.iload_n 1, 1) := by decide +kernel
theorem dX10_told_8 : decode cX10_told 8 = .ok (.iconst 0, 1) := by decide +kernel
theorem dX10_told_9 : decode cX10_told 9 = .ok (.bipush 8, 2) := by decide +kernel
theorem dX10_told_11 : decode cX10_told 11 = .ok (.invokestatic 102, 3) := by decide +kernel
theorem dX10_told_14 : decode cX10_told 14 = .ok (.ifCond .eq 12, 3) := by decide +kernel
theorem dX10_told_17 : decode cX10_told 17 = .ok (.aload_n 0, 1) := by decide +kernel
theorem dX10_told_18 : decode cX10_told 18 = .ok (.getfield 96, 3) := by decide +kernel
theorem dX10_told_21 : decode cX10_told 21 = .ok (.iload_n 1, 1) := by decide +kernel
theorem dX10_told_22 : decode cX10_told 22 = .ok (.iaload, 1) := by decide +kernel
theorem dX10_told_23 : decode cX10_told 23 = .ok (.goto 4, 3) := by decide +kernel
theorem dX10_told_26 : decode cX10_told 26 = .ok (.iconst (-1), 1) := by decide +kernel
theorem dX10_told_27 : decode cX10_told 27 = .ok (.ireturn, 1) := by decide +kernel
theorem dX10_about_0 : decode cX10_about 0 = .ok (.iconst 0, 1) := by decide +kernel
theorem dX10_about_1 : decode cX10_about 1 = .ok (.istore_n 2, 1) := by decide +kernel
theorem dX10_about_2 : decode cX10_about 2 = .ok (.iconst 0, 1) := by decide +kernel
theorem dX10_about_3 : decode cX10_about 3 = .ok (.istore_n 3, 1) := by decide +kernel
theorem dX10_about_4 : decode cX10_about 4 = .ok (.iconst 0, 1) := by decide +kernel
theorem dX10_about_5 : decode cX10_about 5 = .ok (.istore 4, 2) := by decide +kernel
theorem dX10_about_7 : decode cX10_about 7 = .ok (.iload 4, 2) := by decide +kernel
theorem dX10_about_9 : decode cX10_about 9 = .ok (.aload_n 0, 1) := by decide +kernel
theorem dX10_about_10 : decode cX10_about 10 = .ok (.getfield 99, 3) := by decide +kernel
theorem dX10_about_13 : decode cX10_about 13 = .ok (.if_icmp .ge 64, 3) := by decide +kernel
theorem dX10_about_16 : decode cX10_about 16 = .ok (.iload_n 2, 1) := by decide +kernel
theorem dX10_about_17 : decode cX10_about 17 = .ok (.aload_n 0, 1) := by decide +kernel
theorem dX10_about_18 : decode cX10_about 18 = .ok (.iload 4, 2) := by decide +kernel
theorem dX10_about_20 : decode cX10_about 20 = .ok (.invokevirtual 159, 3) := by decide +kernel
theorem dX10_about_23 : decode cX10_about 23 = .ok (.ifCond .eq 17, 3) := by decide +kernel
theorem dX10_about_26 : decode cX10_about 26 = .ok (.aload_n 0, 1) := by decide +kernel
theorem dX10_about_27 : decode cX10_about 27 = .ok (.getfield 35, 3) := by decide +kernel
theorem dX10_about_30 : decode cX10_about 30 = .ok (.iload 4, 2) := by decide +kernel
theorem dX10_about_32 : decode cX10_about 32 = .ok (.iaload, 1) := by decide +kernel
theorem dX10_about_33 : decode cX10_about 33 = .ok (.ifCond .ge 7, 3) := by decide +kernel
theorem dX10_about_36 : decode cX10_about 36 = .ok (.iconst 1, 1) := by decide +kernel
theorem dX10_about_37 : decode cX10_about 37 = .ok (.goto 4, 3) := by decide +kernel
theorem dX10_about_40 : decode cX10_about 40 = .ok (.iconst 0, 1) := by decide +kernel
theorem dX10_about_41 : decode cX10_about 41 = .ok (.iadd, 1) := by decide +kernel
theorem dX10_about_42 : decode cX10_about 42 = .ok (.istore_n 2, 1) := by decide +kernel
theorem dX10_about_43 : decode cX10_about 43 = .ok (.iload_n 3, 1) := by decide +kernel
theorem dX10_about_44 : decode cX10_about 44 = .ok (.aload_n 0, 1) := by decide +kernel
theorem dX10_about_45 : decode cX10_about 45 = .ok (.getfield 35, 3) := by decide +kernel
theorem dX10_about_48 : decode cX10_about 48 = .ok (.iload 4, 2) := by decide +kernel
theorem dX10_about_50 : decode cX10_about 50 = .ok (.iaload, 1) := by decide +kernel
theorem dX10_about_51 : decode cX10_about 51 = .ok (.ifCond .lt 17, 3) := by decide +kernel
theorem dX10_about_54 : decode cX10_about 54 = .ok (.aload_n 0, 1) := by decide +kernel
theorem dX10_about_55 : decode cX10_about 55 = .ok (.getfield 38, 3) := by decide +kernel
theorem dX10_about_58 : decode cX10_about 58 = .ok (.iload 4, 2) := by decide +kernel
theorem dX10_about_60 : decode cX10_about 60 = .ok (.baload, 1) := by decide +kernel
theorem dX10_about_61 : decode cX10_about 61 = .ok (.ifCond .ne 7, 3) := by decide +kernel
theorem dX10_about_64 : decode cX10_about 64 = .ok (.iconst 1, 1) := by decide +kernel
theorem dX10_about_65 : decode cX10_about 65 = .ok (.goto 4, 3) := by decide +kernel
theorem dX10_about_68 : decode cX10_about 68 = .ok (.iconst 0, 1) := by decide +kernel
theorem dX10_about_69 : decode cX10_about 69 = .ok (.iadd, 1) := by decide +kernel
theorem dX10_about_70 : decode cX10_about 70 = .ok (.istore_n 3, 1) := by decide +kernel
theorem dX10_about_71 : decode cX10_about 71 = .ok (.iinc 4 1, 3) := by decide +kernel
theorem dX10_about_74 : decode cX10_about 74 = .ok (.goto (-67), 3) := by decide +kernel
theorem dX10_about_77 : decode cX10_about 77 = .ok (.iload_n 1, 1) := by decide +kernel
theorem dX10_about_78 : decode cX10_about 78 = .ok (.tableswitch 97 0 8 #[50, 55, 60, 65, 67, 80, 85, 90, 92], 50) := by decide +kernel
theorem dX10_about_128 : decode cX10_about 128 = .ok (.aload_n 0, 1) := by decide +kernel
theorem dX10_about_129 : decode cX10_about 129 = .ok (.getfield 81, 3) := by decide +kernel
theorem dX10_about_132 : decode cX10_about 132 = .ok (.ireturn, 1) := by decide +kernel
theorem dX10_about_133 : decode cX10_about 133 = .ok (.aload_n 0, 1) := by decide +kernel
theorem dX10_about_134 : decode cX10_about 134 = .ok (.getfield 84, 3) := by decide +kernel
theorem dX10_about_137 : decode cX10_about 137 = .ok (.ireturn, 1) := by decide +kernel
theorem dX10_about_138 : decode cX10_about 138 = .ok (.aload_n 0, 1) := by decide +kernel
theorem dX10_about_139 : decode cX10_about 139 = .ok (.getfield 181, 3) := by decide +kernel
theorem dX10_about_142 : decode cX10_about 142 = .ok (.ireturn, 1) := by decide +kernel
theorem dX10_about_143 : decode cX10_about 143 = .ok (.iload_n 2, 1) := by decide +kernel
theorem dX10_about_144 : decode cX10_about 144 = .ok (.ireturn, 1) := by decide +kernel
theorem dX10_about_145 : decode cX10_about 145 = .ok (.aload_n 0, 1) := by decide +kernel
theorem dX10_about_146 : decode cX10_about 146 = .ok (.getfield 200, 3) := by decide +kernel
theorem dX10_about_149 : decode cX10_about 149 = .ok (.ifCond .eq 7, 3) := by decide +kernel
theorem dX10_about_152 : decode cX10_about 152 = .ok (.iconst 1, 1) := by decide +kernel
theorem dX10_about_153 : decode cX10_about 153 = .ok (.goto 4, 3) := by decide +kernel
theorem dX10_about_156 : decode cX10_about 156 = .ok (.iconst 0, 1) := by decide +kernel
theorem dX10_about_157 : decode cX10_about 157 = .ok (.ireturn, 1) := by decide +kernel
theorem dX10_about_158 : decode cX10_about 158 = .ok (.aload_n 0, 1) := by decide +kernel
theorem dX10_about_159 : decode cX10_about 159 = .ok (.getfield 218, 3) := by decide +kernel
theorem dX10_about_162 : decode cX10_about 162 = .ok (.ireturn, 1) := by decide +kernel
theorem dX10_about_163 : decode cX10_about 163 = .ok (.aload_n 0, 1) := by decide +kernel
theorem dX10_about_164 : decode cX10_about 164 = .ok (.getfield 99, 3) := by decide +kernel
theorem dX10_about_167 : decode cX10_about 167 = .ok (.ireturn, 1) := by decide +kernel
theorem dX10_about_168 : decode cX10_about 168 = .ok (.iload_n 3, 1) := by decide +kernel
theorem dX10_about_169 : decode cX10_about 169 = .ok (.ireturn, 1) := by decide +kernel
theorem dX10_about_170 : decode cX10_about 170 = .ok (.aload_n 0, 1) := by decide +kernel
theorem dX10_about_171 : decode cX10_about 171 = .ok (.getfield 121, 3) := by decide +kernel
theorem dX10_about_174 : decode cX10_about 174 = .ok (.ireturn, 1) := by decide +kernel
theorem dX10_about_175 : decode cX10_about 175 = .ok (.iconst (-1), 1) := by decide +kernel
theorem dX10_about_176 : decode cX10_about 176 = .ok (.ireturn, 1) := by decide +kernel
theorem dX10_field_0 : decode cX10_field 0 = .ok (.aload_n 0, 1) := by decide +kernel
theorem dX10_field_1 : decode cX10_field 1 = .ok (.iload_n 1, 1) := by decide +kernel
theorem dX10_field_2 : decode cX10_field 2 = .ok (.invokevirtual 118, 3) := by decide +kernel
theorem dX10_field_5 : decode cX10_field 5 = .ok (.ifCond .ne 5, 3) := by decide +kernel
theorem dX10_field_8 : decode cX10_field 8 = .ok (.iconst (-1), 1) := by decide +kernel
theorem dX10_field_9 : decode cX10_field 9 = .ok (.ireturn, 1) := by decide +kernel
theorem dX10_field_10 : decode cX10_field 10 = .ok (.iload_n 2, 1) := by decide +kernel
theorem dX10_field_11 : decode cX10_field 11 = .ok (.tableswitch 132 0 7 #[45, 52, 59, 66, 80, 95, 110, 125], 45) := by decide +kernel
theorem dX10_field_56 : decode cX10_field 56 = .ok (.aload_n 0, 1) := by decide +kernel
theorem dX10_field_57 : decode cX10_field 57 = .ok (.getfield 7, 3) := by decide +kernel
theorem dX10_field_60 : decode cX10_field 60 = .ok (.iload_n 1, 1) := by decide +kernel
theorem dX10_field_61 : decode cX10_field 61 = .ok (.iaload, 1) := by decide +kernel
theorem dX10_field_62 : decode cX10_field 62 = .ok (.ireturn, 1) := by decide +kernel
theorem dX10_field_63 : decode cX10_field 63 = .ok (.aload_n 0, 1) := by decide +kernel
theorem dX10_field_64 : decode cX10_field 64 = .ok (.getfield 13, 3) := by decide +kernel
theorem dX10_field_67 : decode cX10_field 67 = .ok (.iload_n 1, 1) := by decide +kernel
theorem dX10_field_68 : decode cX10_field 68 = .ok (.iaload, 1) := by decide +kernel
theorem dX10_field_69 : decode cX10_field 69 = .ok (.ireturn, 1) := by decide +kernel
theorem dX10_field_70 : decode cX10_field 70 = .ok (.aload_n 0, 1) := by decide +kernel
theorem dX10_field_71 : decode cX10_field 71 = .ok (.getfield 16, 3) := by decide +kernel
theorem dX10_field_74 : decode cX10_field 74 = .ok (.iload_n 1, 1) := by decide +kernel
theorem dX10_field_75 : decode cX10_field 75 = .ok (.iaload, 1) := by decide +kernel
theorem dX10_field_76 : decode cX10_field 76 = .ok (.ireturn, 1) := by decide +kernel
theorem dX10_field_77 : decode cX10_field 77 = .ok (.aload_n 0, 1) := by decide +kernel
theorem dX10_field_78 : decode cX10_field 78 = .ok (.iload_n 1, 1) := by decide +kernel
theorem dX10_field_79 : decode cX10_field 79 = .ok (.invokevirtual 159, 3) := by decide +kernel
theorem dX10_field_82 : decode cX10_field 82 = .ok (.ifCond .eq 7, 3) := by decide +kernel
theorem dX10_field_85 : decode cX10_field 85 = .ok (.iconst 1, 1) := by decide +kernel
theorem dX10_field_86 : decode cX10_field 86 = .ok (.goto 4, 3) := by decide +kernel
theorem dX10_field_89 : decode cX10_field 89 = .ok (.iconst 0, 1) := by decide +kernel
theorem dX10_field_90 : decode cX10_field 90 = .ok (.ireturn, 1) := by decide +kernel
theorem dX10_field_91 : decode cX10_field 91 = .ok (.aload_n 0, 1) := by decide +kernel
theorem dX10_field_92 : decode cX10_field 92 = .ok (.getfield 35, 3) := by decide +kernel
theorem dX10_field_95 : decode cX10_field 95 = .ok (.iload_n 1, 1) := by decide +kernel
theorem dX10_field_96 : decode cX10_field 96 = .ok (.iaload, 1) := by decide +kernel
theorem dX10_field_97 : decode cX10_field 97 = .ok (.ifCond .lt 7, 3) := by decide +kernel
theorem dX10_field_100 : decode cX10_field 100 = .ok (.iconst 1, 1) := by decide +kernel
theorem dX10_field_101 : decode cX10_field 101 = .ok (.goto 4, 3) := by decide +kernel
theorem dX10_field_104 : decode cX10_field 104 = .ok (.iconst 0, 1) := by decide +kernel
theorem dX10_field_105 : decode cX10_field 105 = .ok (.ireturn, 1) := by decide +kernel
theorem dX10_field_106 : decode cX10_field 106 = .ok (.aload_n 0, 1) := by decide +kernel
theorem dX10_field_107 : decode cX10_field 107 = .ok (.getfield 38, 3) := by decide +kernel
theorem dX10_field_110 : decode cX10_field 110 = .ok (.iload_n 1, 1) := by decide +kernel
theorem dX10_field_111 : decode cX10_field 111 = .ok (.baload, 1) := by decide +kernel
theorem dX10_field_112 : decode cX10_field 112 = .ok (.ifCond .eq 7, 3) := by decide +kernel
theorem dX10_field_115 : decode cX10_field 115 = .ok (.iconst 1, 1) := by decide +kernel
theorem dX10_field_116 : decode cX10_field 116 = .ok (.goto 4, 3) := by decide +kernel
theorem dX10_field_119 : decode cX10_field 119 = .ok (.iconst 0, 1) := by decide +kernel
theorem dX10_field_120 : decode cX10_field 120 = .ok (.ireturn, 1) := by decide +kernel
theorem dX10_field_121 : decode cX10_field 121 = .ok (.aload_n 0, 1) := by decide +kernel
theorem dX10_field_122 : decode cX10_field 122 = .ok (.getfield 41, 3) := by decide +kernel
theorem dX10_field_125 : decode cX10_field 125 = .ok (.iload_n 1, 1) := by decide +kernel
theorem dX10_field_126 : decode cX10_field 126 = .ok (.baload, 1) := by decide +kernel
theorem dX10_field_127 : decode cX10_field 127 = .ok (.ifCond .eq 7, 3) := by decide +kernel
theorem dX10_field_130 : decode cX10_field 130 = .ok (.iconst 1, 1) := by decide +kernel
theorem dX10_field_131 : decode cX10_field 131 = .ok (.goto 4, 3) := by decide +kernel
theorem dX10_field_134 : decode cX10_field 134 = .ok (.iconst 0, 1) := by decide +kernel
theorem dX10_field_135 : decode cX10_field 135 = .ok (.ireturn, 1) := by decide +kernel
theorem dX10_field_136 : decode cX10_field 136 = .ok (.aload_n 0, 1) := by decide +kernel
theorem dX10_field_137 : decode cX10_field 137 = .ok (.getfield 35, 3) := by decide +kernel
theorem dX10_field_140 : decode cX10_field 140 = .ok (.iload_n 1, 1) := by decide +kernel
theorem dX10_field_141 : decode cX10_field 141 = .ok (.iaload, 1) := by decide +kernel
theorem dX10_field_142 : decode cX10_field 142 = .ok (.ireturn, 1) := by decide +kernel
theorem dX10_field_143 : decode cX10_field 143 = .ok (.iconst (-1), 1) := by decide +kernel
theorem dX10_field_144 : decode cX10_field 144 = .ok (.ireturn, 1) := by decide +kernel
theorem dX10_hearBack_0 : decode cX10_hearBack 0 = .ok (.iconst 0, 1) := by decide +kernel
theorem dX10_hearBack_1 : decode cX10_hearBack 1 = .ok (.istore_n 1, 1) := by decide +kernel
theorem dX10_hearBack_2 : decode cX10_hearBack 2 = .ok (.iconst 0, 1) := by decide +kernel
theorem dX10_hearBack_3 : decode cX10_hearBack 3 = .ok (.istore_n 2, 1) := by decide +kernel
theorem dX10_hearBack_4 : decode cX10_hearBack 4 = .ok (.iload_n 2, 1) := by decide +kernel
theorem dX10_hearBack_5 : decode cX10_hearBack 5 = .ok (.aload_n 0, 1) := by decide +kernel
theorem dX10_hearBack_6 : decode cX10_hearBack 6 = .ok (.getfield 99, 3) := by decide +kernel
theorem dX10_hearBack_9 : decode cX10_hearBack 9 = .ok (.if_icmp .ge 48, 3) := by decide +kernel
theorem dX10_hearBack_12 : decode cX10_hearBack 12 = .ok (.aload_n 0, 1) := by decide +kernel
theorem dX10_hearBack_13 : decode cX10_hearBack 13 = .ok (.getfield 35, 3) := by decide +kernel
theorem dX10_hearBack_16 : decode cX10_hearBack 16 = .ok (.iload_n 2, 1) := by decide +kernel
theorem dX10_hearBack_17 : decode cX10_hearBack 17 = .ok (.iaload, 1) := by decide +kernel
theorem dX10_hearBack_18 : decode cX10_hearBack 18 = .ok (.ifCond .lt 33, 3) := by decide +kernel
theorem dX10_hearBack_21 : decode cX10_hearBack 21 = .ok (.aload_n 0, 1) := by decide +kernel
theorem dX10_hearBack_22 : decode cX10_hearBack 22 = .ok (.iload_n 2, 1) := by decide +kernel
theorem dX10_hearBack_23 : decode cX10_hearBack 23 = .ok (.invokevirtual 159, 3) := by decide +kernel
theorem dX10_hearBack_26 : decode cX10_hearBack 26 = .ok (.ifCond .eq 25, 3) := by decide +kernel
theorem dX10_hearBack_29 : decode cX10_hearBack 29 = .ok (.aload_n 0, 1) := by decide +kernel
theorem dX10_hearBack_30 : decode cX10_hearBack 30 = .ok (.getfield 38, 3) := by decide +kernel
theorem dX10_hearBack_33 : decode cX10_hearBack 33 = .ok (.iload_n 2, 1) := by decide +kernel
theorem dX10_hearBack_34 : decode cX10_hearBack 34 = .ok (.baload, 1) := by decide +kernel
theorem dX10_hearBack_35 : decode cX10_hearBack 35 = .ok (.ifCond .eq 6, 3) := by decide +kernel
theorem dX10_hearBack_38 : decode cX10_hearBack 38 = .ok (.goto 13, 3) := by decide +kernel
theorem dX10_hearBack_41 : decode cX10_hearBack 41 = .ok (.aload_n 0, 1) := by decide +kernel
theorem dX10_hearBack_42 : decode cX10_hearBack 42 = .ok (.getfield 38, 3) := by decide +kernel
theorem dX10_hearBack_45 : decode cX10_hearBack 45 = .ok (.iload_n 2, 1) := by decide +kernel
theorem dX10_hearBack_46 : decode cX10_hearBack 46 = .ok (.iconst 1, 1) := by decide +kernel
theorem dX10_hearBack_47 : decode cX10_hearBack 47 = .ok (.bastore, 1) := by decide +kernel
theorem dX10_hearBack_48 : decode cX10_hearBack 48 = .ok (.iinc 1 1, 3) := by decide +kernel
theorem dX10_hearBack_51 : decode cX10_hearBack 51 = .ok (.iinc 2 1, 3) := by decide +kernel
theorem dX10_hearBack_54 : decode cX10_hearBack 54 = .ok (.goto (-50), 3) := by decide +kernel
theorem dX10_hearBack_57 : decode cX10_hearBack 57 = .ok (.iload_n 1, 1) := by decide +kernel
theorem dX10_hearBack_58 : decode cX10_hearBack 58 = .ok (.ireturn, 1) := by decide +kernel
theorem dX10_send_0 : decode cX10_send 0 = .ok (.aload_n 0, 1) := by decide +kernel
theorem dX10_send_1 : decode cX10_send 1 = .ok (.getfield 165, 3) := by decide +kernel
theorem dX10_send_4 : decode cX10_send 4 = .ok (.ifCond .eq 5, 3) := by decide +kernel
theorem dX10_send_7 : decode cX10_send 7 = .ok (.iconst 0, 1) := by decide +kernel
theorem dX10_send_8 : decode cX10_send 8 = .ok (.ireturn, 1) := by decide +kernel
theorem dX10_send_9 : decode cX10_send 9 = .ok (.iconst 0, 1) := by decide +kernel
theorem dX10_send_10 : decode cX10_send 10 = .ok (.istore_n 1, 1) := by decide +kernel
theorem dX10_send_11 : decode cX10_send 11 = .ok (.iload_n 1, 1) := by decide +kernel
theorem dX10_send_12 : decode cX10_send 12 = .ok (.aload_n 0, 1) := by decide +kernel
theorem dX10_send_13 : decode cX10_send 13 = .ok (.getfield 99, 3) := by decide +kernel
theorem dX10_send_16 : decode cX10_send 16 = .ok (.if_icmp .ge 37, 3) := by decide +kernel
theorem dX10_send_19 : decode cX10_send 19 = .ok (.aload_n 0, 1) := by decide +kernel
theorem dX10_send_20 : decode cX10_send 20 = .ok (.iload_n 1, 1) := by decide +kernel
theorem dX10_send_21 : decode cX10_send 21 = .ok (.invokevirtual 159, 3) := by decide +kernel
theorem dX10_send_24 : decode cX10_send 24 = .ok (.ifCond .eq 23, 3) := by decide +kernel
theorem dX10_send_27 : decode cX10_send 27 = .ok (.aload_n 0, 1) := by decide +kernel
theorem dX10_send_28 : decode cX10_send 28 = .ok (.getfield 35, 3) := by decide +kernel
theorem dX10_send_31 : decode cX10_send 31 = .ok (.iload_n 1, 1) := by decide +kernel
theorem dX10_send_32 : decode cX10_send 32 = .ok (.iaload, 1) := by decide +kernel
theorem dX10_send_33 : decode cX10_send 33 = .ok (.ifCond .lt 12, 3) := by decide +kernel
theorem dX10_send_36 : decode cX10_send 36 = .ok (.aload_n 0, 1) := by decide +kernel
theorem dX10_send_37 : decode cX10_send 37 = .ok (.getfield 38, 3) := by decide +kernel
theorem dX10_send_40 : decode cX10_send 40 = .ok (.iload_n 1, 1) := by decide +kernel
theorem dX10_send_41 : decode cX10_send 41 = .ok (.baload, 1) := by decide +kernel
theorem dX10_send_42 : decode cX10_send 42 = .ok (.ifCond .ne 5, 3) := by decide +kernel
theorem dX10_send_45 : decode cX10_send 45 = .ok (.iconst 0, 1) := by decide +kernel
theorem dX10_send_46 : decode cX10_send 46 = .ok (.ireturn, 1) := by decide +kernel
theorem dX10_send_47 : decode cX10_send 47 = .ok (.iinc 1 1, 3) := by decide +kernel
theorem dX10_send_50 : decode cX10_send 50 = .ok (.goto (-39), 3) := by decide +kernel
theorem dX10_send_53 : decode cX10_send 53 = .ok (.aload_n 0, 1) := by decide +kernel
theorem dX10_send_54 : decode cX10_send 54 = .ok (.iconst 1, 1) := by decide +kernel
theorem dX10_send_55 : decode cX10_send 55 = .ok (.putfield 165, 3) := by decide +kernel
theorem dX10_send_58 : decode cX10_send 58 = .ok (.iconst 1, 1) := by decide +kernel
theorem dX10_send_59 : decode cX10_send 59 = .ok (.ireturn, 1) := by decide +kernel
theorem dJ9_max_7cf53_0 : decode cJ9_max_7cf53 0 = .ok (.iload_n 0, 1) := by decide +kernel
theorem dJ9_max_7cf53_1 : decode cJ9_max_7cf53 1 = .ok (.iload_n 1, 1) := by decide +kernel
theorem dJ9_max_7cf53_2 : decode cJ9_max_7cf53 2 = .ok (.if_icmp .lt 7, 3) := by decide +kernel
theorem dJ9_max_7cf53_5 : decode cJ9_max_7cf53 5 = .ok (.iload_n 0, 1) := by decide +kernel
theorem dJ9_max_7cf53_6 : decode cJ9_max_7cf53 6 = .ok (.goto 4, 3) := by decide +kernel
theorem dJ9_max_7cf53_9 : decode cJ9_max_7cf53 9 = .ok (.iload_n 1, 1) := by decide +kernel
theorem dJ9_max_7cf53_10 : decode cJ9_max_7cf53 10 = .ok (.ireturn, 1) := by decide +kernel
theorem dJ9_min_7cf53_0 : decode cJ9_min_7cf53 0 = .ok (.iload_n 0, 1) := by decide +kernel
theorem dJ9_min_7cf53_1 : decode cJ9_min_7cf53 1 = .ok (.iload_n 1, 1) := by decide +kernel
theorem dJ9_min_7cf53_2 : decode cJ9_min_7cf53 2 = .ok (.if_icmp .gt 7, 3) := by decide +kernel
theorem dJ9_min_7cf53_5 : decode cJ9_min_7cf53 5 = .ok (.iload_n 0, 1) := by decide +kernel
theorem dJ9_min_7cf53_6 : decode cJ9_min_7cf53 6 = .ok (.goto 4, 3) := by decide +kernel
theorem dJ9_min_7cf53_9 : decode cJ9_min_7cf53 9 = .ok (.iload_n 1, 1) := by decide +kernel
theorem dJ9_min_7cf53_10 : decode cJ9_min_7cf53 10 = .ok (.ireturn, 1) := by decide +kernel
theorem dJ7_fill_53178_0 : decode cJ7_fill_53178 0 = .ok (.iconst 0, 1) := by decide +kernel
theorem dJ7_fill_53178_1 : decode cJ7_fill_53178 1 = .ok (.istore_n 2, 1) := by decide +kernel
theorem dJ7_fill_53178_2 : decode cJ7_fill_53178 2 = .ok (.aload_n 0, 1) := by decide +kernel
theorem dJ7_fill_53178_3 : decode cJ7_fill_53178 3 = .ok (.arraylength, 1) := by decide +kernel
theorem dJ7_fill_53178_4 : decode cJ7_fill_53178 4 = .ok (.istore_n 3, 1) := by decide +kernel
theorem dJ7_fill_53178_5 : decode cJ7_fill_53178 5 = .ok (.iload_n 2, 1) := by decide +kernel
theorem dJ7_fill_53178_6 : decode cJ7_fill_53178 6 = .ok (.iload_n 3, 1) := by decide +kernel
theorem dJ7_fill_53178_7 : decode cJ7_fill_53178 7 = .ok (.if_icmp .ge 13, 3) := by decide +kernel
theorem dJ7_fill_53178_10 : decode cJ7_fill_53178 10 = .ok (.aload_n 0, 1) := by decide +kernel
theorem dJ7_fill_53178_11 : decode cJ7_fill_53178 11 = .ok (.iload_n 2, 1) := by decide +kernel
theorem dJ7_fill_53178_12 : decode cJ7_fill_53178 12 = .ok (.iload_n 1, 1) := by decide +kernel
theorem dJ7_fill_53178_13 : decode cJ7_fill_53178 13 = .ok (.iastore, 1) := by decide +kernel
theorem dJ7_fill_53178_14 : decode cJ7_fill_53178 14 = .ok (.iinc 2 1, 3) := by decide +kernel
theorem dJ7_fill_53178_17 : decode cJ7_fill_53178 17 = .ok (.goto (-12), 3) := by decide +kernel
theorem dJ7_fill_53178_20 : decode cJ7_fill_53178 20 = .ok (.return_, 1) := by decide +kernel
theorem dL_law_0 : decode cL_law 0 = .ok (.new 7, 3) := by decide +kernel
theorem dL_law_3 : decode cL_law 3 = .ok (.dup, 1) := by decide +kernel
theorem dL_law_4 : decode cL_law 4 = .ok (.invokespecial 9, 3) := by decide +kernel
theorem dL_law_7 : decode cL_law 7 = .ok (.astore_n 1, 1) := by decide +kernel
theorem dL_law_8 : decode cL_law 8 = .ok (.new 10, 3) := by decide +kernel
theorem dL_law_11 : decode cL_law 11 = .ok (.dup, 1) := by decide +kernel
theorem dL_law_12 : decode cL_law 12 = .ok (.invokespecial 12, 3) := by decide +kernel
theorem dL_law_15 : decode cL_law 15 = .ok (.astore_n 2, 1) := by decide +kernel
theorem dL_law_16 : decode cL_law 16 = .ok (.iconst 0, 1) := by decide +kernel
theorem dL_law_17 : decode cL_law 17 = .ok (.istore_n 3, 1) := by decide +kernel
theorem dL_law_18 : decode cL_law 18 = .ok (.iload_n 3, 1) := by decide +kernel
theorem dL_law_19 : decode cL_law 19 = .ok (.aload_n 0, 1) := by decide +kernel
theorem dL_law_20 : decode cL_law 20 = .ok (.arraylength, 1) := by decide +kernel
theorem dL_law_21 : decode cL_law 21 = .ok (.bipush 9, 2) := by decide +kernel
theorem dL_law_23 : decode cL_law 23 = .ok (.isub, 1) := by decide +kernel
theorem dL_law_24 : decode cL_law 24 = .ok (.if_icmp .gt 545, 3) := by decide +kernel
theorem dL_law_27 : decode cL_law 27 = .ok (.aload_n 0, 1) := by decide +kernel
theorem dL_law_28 : decode cL_law 28 = .ok (.iload_n 3, 1) := by decide +kernel
theorem dL_law_29 : decode cL_law 29 = .ok (.iaload, 1) := by decide +kernel
theorem dL_law_30 : decode cL_law 30 = .ok (.bipush 15, 2) := by decide +kernel
theorem dL_law_32 : decode cL_law 32 = .ok (.iand, 1) := by decide +kernel
theorem dL_law_33 : decode cL_law 33 = .ok (.tableswitch 530 0 12 #[67, 152, 267, 310, 353, 366, 399, 412, 425, 448, 471, 504, 517], 67) := by decide +kernel
theorem dL_law_100 : decode cL_law 100 = .ok (.aload_n 1, 1) := by decide +kernel
theorem dL_law_101 : decode cL_law 101 = .ok (.aload_n 0, 1) := by decide +kernel
theorem dL_law_102 : decode cL_law 102 = .ok (.iload_n 3, 1) := by decide +kernel
theorem dL_law_103 : decode cL_law 103 = .ok (.iconst 1, 1) := by decide +kernel
theorem dL_law_104 : decode cL_law 104 = .ok (.iadd, 1) := by decide +kernel
theorem dL_law_105 : decode cL_law 105 = .ok (.iaload, 1) := by decide +kernel
theorem dL_law_106 : decode cL_law 106 = .ok (.aload_n 0, 1) := by decide +kernel
theorem dL_law_107 : decode cL_law 107 = .ok (.iload_n 3, 1) := by decide +kernel
theorem dL_law_108 : decode cL_law 108 = .ok (.iconst 2, 1) := by decide +kernel
theorem dL_law_109 : decode cL_law 109 = .ok (.iadd, 1) := by decide +kernel
theorem dL_law_110 : decode cL_law 110 = .ok (.iaload, 1) := by decide +kernel
theorem dL_law_111 : decode cL_law 111 = .ok (.aload_n 0, 1) := by decide +kernel
theorem dL_law_112 : decode cL_law 112 = .ok (.iload_n 3, 1) := by decide +kernel
theorem dL_law_113 : decode cL_law 113 = .ok (.iconst 3, 1) := by decide +kernel
theorem dL_law_114 : decode cL_law 114 = .ok (.iadd, 1) := by decide +kernel
theorem dL_law_115 : decode cL_law 115 = .ok (.iaload, 1) := by decide +kernel
theorem dL_law_116 : decode cL_law 116 = .ok (.ifCond .eq 7, 3) := by decide +kernel
theorem dL_law_119 : decode cL_law 119 = .ok (.iconst 1, 1) := by decide +kernel
theorem dL_law_120 : decode cL_law 120 = .ok (.goto 4, 3) := by decide +kernel
theorem dL_law_123 : decode cL_law 123 = .ok (.iconst 0, 1) := by decide +kernel
theorem dL_law_124 : decode cL_law 124 = .ok (.aload_n 0, 1) := by decide +kernel
theorem dL_law_125 : decode cL_law 125 = .ok (.iload_n 3, 1) := by decide +kernel
theorem dL_law_126 : decode cL_law 126 = .ok (.iconst 4, 1) := by decide +kernel
theorem dL_law_127 : decode cL_law 127 = .ok (.iadd, 1) := by decide +kernel
theorem dL_law_128 : decode cL_law 128 = .ok (.iaload, 1) := by decide +kernel
theorem dL_law_129 : decode cL_law 129 = .ok (.ifCond .eq 7, 3) := by decide +kernel
theorem dL_law_132 : decode cL_law 132 = .ok (.iconst 1, 1) := by decide +kernel
theorem dL_law_133 : decode cL_law 133 = .ok (.goto 4, 3) := by decide +kernel
theorem dL_law_136 : decode cL_law 136 = .ok (.iconst 0, 1) := by decide +kernel
theorem dL_law_137 : decode cL_law 137 = .ok (.invokevirtual 13, 3) := by decide +kernel
theorem dL_law_140 : decode cL_law 140 = .ok (.aload_n 2, 1) := by decide +kernel
theorem dL_law_141 : decode cL_law 141 = .ok (.aload_n 0, 1) := by decide +kernel
theorem dL_law_142 : decode cL_law 142 = .ok (.iload_n 3, 1) := by decide +kernel
theorem dL_law_143 : decode cL_law 143 = .ok (.iconst 1, 1) := by decide +kernel
theorem dL_law_144 : decode cL_law 144 = .ok (.iadd, 1) := by decide +kernel
theorem dL_law_145 : decode cL_law 145 = .ok (.iaload, 1) := by decide +kernel
theorem dL_law_146 : decode cL_law 146 = .ok (.aload_n 0, 1) := by decide +kernel
theorem dL_law_147 : decode cL_law 147 = .ok (.iload_n 3, 1) := by decide +kernel
theorem dL_law_148 : decode cL_law 148 = .ok (.iconst 2, 1) := by decide +kernel
theorem dL_law_149 : decode cL_law 149 = .ok (.iadd, 1) := by decide +kernel
theorem dL_law_150 : decode cL_law 150 = .ok (.iaload, 1) := by decide +kernel
theorem dL_law_151 : decode cL_law 151 = .ok (.aload_n 0, 1) := by decide +kernel
theorem dL_law_152 : decode cL_law 152 = .ok (.iload_n 3, 1) := by decide +kernel
theorem dL_law_153 : decode cL_law 153 = .ok (.iconst 3, 1) := by decide +kernel
theorem dL_law_154 : decode cL_law 154 = .ok (.iadd, 1) := by decide +kernel
theorem dL_law_155 : decode cL_law 155 = .ok (.iaload, 1) := by decide +kernel
theorem dL_law_156 : decode cL_law 156 = .ok (.ifCond .eq 7, 3) := by decide +kernel
theorem dL_law_159 : decode cL_law 159 = .ok (.iconst 1, 1) := by decide +kernel
theorem dL_law_160 : decode cL_law 160 = .ok (.goto 4, 3) := by decide +kernel
theorem dL_law_163 : decode cL_law 163 = .ok (.iconst 0, 1) := by decide +kernel
theorem dL_law_164 : decode cL_law 164 = .ok (.aload_n 0, 1) := by decide +kernel
theorem dL_law_165 : decode cL_law 165 = .ok (.iload_n 3, 1) := by decide +kernel
theorem dL_law_166 : decode cL_law 166 = .ok (.iconst 4, 1) := by decide +kernel
theorem dL_law_167 : decode cL_law 167 = .ok (.iadd, 1) := by decide +kernel
theorem dL_law_168 : decode cL_law 168 = .ok (.iaload, 1) := by decide +kernel
theorem dL_law_169 : decode cL_law 169 = .ok (.ifCond .eq 7, 3) := by decide +kernel
theorem dL_law_172 : decode cL_law 172 = .ok (.iconst 1, 1) := by decide +kernel
theorem dL_law_173 : decode cL_law 173 = .ok (.goto 4, 3) := by decide +kernel
theorem dL_law_176 : decode cL_law 176 = .ok (.iconst 0, 1) := by decide +kernel
theorem dL_law_177 : decode cL_law 177 = .ok (.invokevirtual 17, 3) := by decide +kernel
theorem dL_law_180 : decode cL_law 180 = .ok (.if_icmp .eq 383, 3) := by decide +kernel
theorem dL_law_183 : decode cL_law 183 = .ok (.iconst 0, 1) := by decide +kernel
theorem dL_law_184 : decode cL_law 184 = .ok (.ireturn, 1) := by decide +kernel
theorem dL_law_185 : decode cL_law 185 = .ok (.aload_n 1, 1) := by decide +kernel
theorem dL_law_186 : decode cL_law 186 = .ok (.aload_n 0, 1) := by decide +kernel
theorem dL_law_187 : decode cL_law 187 = .ok (.iload_n 3, 1) := by decide +kernel
theorem dL_law_188 : decode cL_law 188 = .ok (.iconst 1, 1) := by decide +kernel
theorem dL_law_189 : decode cL_law 189 = .ok (.iadd, 1) := by decide +kernel
theorem dL_law_190 : decode cL_law 190 = .ok (.iaload, 1) := by decide +kernel
theorem dL_law_191 : decode cL_law 191 = .ok (.aload_n 0, 1) := by decide +kernel
theorem dL_law_192 : decode cL_law 192 = .ok (.iload_n 3, 1) := by decide +kernel
theorem dL_law_193 : decode cL_law 193 = .ok (.iconst 2, 1) := by decide +kernel
theorem dL_law_194 : decode cL_law 194 = .ok (.iadd, 1) := by decide +kernel
theorem dL_law_195 : decode cL_law 195 = .ok (.iaload, 1) := by decide +kernel
theorem dL_law_196 : decode cL_law 196 = .ok (.ifCond .eq 7, 3) := by decide +kernel
theorem dL_law_199 : decode cL_law 199 = .ok (.iconst 1, 1) := by decide +kernel
theorem dL_law_200 : decode cL_law 200 = .ok (.goto 4, 3) := by decide +kernel
theorem dL_law_203 : decode cL_law 203 = .ok (.iconst 0, 1) := by decide +kernel
theorem dL_law_204 : decode cL_law 204 = .ok (.aload_n 0, 1) := by decide +kernel
theorem dL_law_205 : decode cL_law 205 = .ok (.iload_n 3, 1) := by decide +kernel
theorem dL_law_206 : decode cL_law 206 = .ok (.iconst 3, 1) := by decide +kernel
theorem dL_law_207 : decode cL_law 207 = .ok (.iadd, 1) := by decide +kernel
theorem dL_law_208 : decode cL_law 208 = .ok (.iaload, 1) := by decide +kernel
theorem dL_law_209 : decode cL_law 209 = .ok (.aload_n 0, 1) := by decide +kernel
theorem dL_law_210 : decode cL_law 210 = .ok (.iload_n 3, 1) := by decide +kernel
theorem dL_law_211 : decode cL_law 211 = .ok (.iconst 4, 1) := by decide +kernel
theorem dL_law_212 : decode cL_law 212 = .ok (.iadd, 1) := by decide +kernel
theorem dL_law_213 : decode cL_law 213 = .ok (.iaload, 1) := by decide +kernel
theorem dL_law_214 : decode cL_law 214 = .ok (.aload_n 0, 1) := by decide +kernel
theorem dL_law_215 : decode cL_law 215 = .ok (.iload_n 3, 1) := by decide +kernel
theorem dL_law_216 : decode cL_law 216 = .ok (.iconst 5, 1) := by decide +kernel
theorem dL_law_217 : decode cL_law 217 = .ok (.iadd, 1) := by decide +kernel
theorem dL_law_218 : decode cL_law 218 = .ok (.iaload, 1) := by decide +kernel
theorem dL_law_219 : decode cL_law 219 = .ok (.aload_n 0, 1) := by decide +kernel
theorem dL_law_220 : decode cL_law 220 = .ok (.iload_n 3, 1) := by decide +kernel
theorem dL_law_221 : decode cL_law 221 = .ok (.bipush 6, 2) := by decide +kernel
theorem dL_law_223 : decode cL_law 223 = .ok (.iadd, 1) := by decide +kernel
theorem dL_law_224 : decode cL_law 224 = .ok (.iaload, 1) := by decide +kernel
theorem dL_law_225 : decode cL_law 225 = .ok (.aload_n 0, 1) := by decide +kernel
theorem dL_law_226 : decode cL_law 226 = .ok (.iload_n 3, 1) := by decide +kernel
theorem dL_law_227 : decode cL_law 227 = .ok (.bipush 7, 2) := by decide +kernel
theorem dL_law_229 : decode cL_law 229 = .ok (.iadd, 1) := by decide +kernel
theorem dL_law_230 : decode cL_law 230 = .ok (.iaload, 1) := by decide +kernel
theorem dL_law_231 : decode cL_law 231 = .ok (.aload_n 0, 1) := by decide +kernel
theorem dL_law_232 : decode cL_law 232 = .ok (.iload_n 3, 1) := by decide +kernel
theorem dL_law_233 : decode cL_law 233 = .ok (.bipush 8, 2) := by decide +kernel
theorem dL_law_235 : decode cL_law 235 = .ok (.iadd, 1) := by decide +kernel
theorem dL_law_236 : decode cL_law 236 = .ok (.iaload, 1) := by decide +kernel
theorem dL_law_237 : decode cL_law 237 = .ok (.invokevirtual 18, 3) := by decide +kernel
theorem dL_law_240 : decode cL_law 240 = .ok (.aload_n 2, 1) := by decide +kernel
theorem dL_law_241 : decode cL_law 241 = .ok (.aload_n 0, 1) := by decide +kernel
theorem dL_law_242 : decode cL_law 242 = .ok (.iload_n 3, 1) := by decide +kernel
theorem dL_law_243 : decode cL_law 243 = .ok (.iconst 1, 1) := by decide +kernel
theorem dL_law_244 : decode cL_law 244 = .ok (.iadd, 1) := by decide +kernel
theorem dL_law_245 : decode cL_law 245 = .ok (.iaload, 1) := by decide +kernel
theorem dL_law_246 : decode cL_law 246 = .ok (.aload_n 0, 1) := by decide +kernel
theorem dL_law_247 : decode cL_law 247 = .ok (.iload_n 3, 1) := by decide +kernel
theorem dL_law_248 : decode cL_law 248 = .ok (.iconst 2, 1) := by decide +kernel
theorem dL_law_249 : decode cL_law 249 = .ok (.iadd, 1) := by decide +kernel
theorem dL_law_250 : decode cL_law 250 = .ok (.iaload, 1) := by decide +kernel
theorem dL_law_251 : decode cL_law 251 = .ok (.ifCond .eq 7, 3) := by decide +kernel
theorem dL_law_254 : decode cL_law 254 = .ok (.iconst 1, 1) := by decide +kernel
theorem dL_law_255 : decode cL_law 255 = .ok (.goto 4, 3) := by decide +kernel
theorem dL_law_258 : decode cL_law 258 = .ok (.iconst 0, 1) := by decide +kernel
theorem dL_law_259 : decode cL_law 259 = .ok (.aload_n 0, 1) := by decide +kernel
theorem dL_law_260 : decode cL_law 260 = .ok (.iload_n 3, 1) := by decide +kernel
theorem dL_law_261 : decode cL_law 261 = .ok (.iconst 3, 1) := by decide +kernel
theorem dL_law_262 : decode cL_law 262 = .ok (.iadd, 1) := by decide +kernel
theorem dL_law_263 : decode cL_law 263 = .ok (.iaload, 1) := by decide +kernel
theorem dL_law_264 : decode cL_law 264 = .ok (.aload_n 0, 1) := by decide +kernel
theorem dL_law_265 : decode cL_law 265 = .ok (.iload_n 3, 1) := by decide +kernel
theorem dL_law_266 : decode cL_law 266 = .ok (.iconst 4, 1) := by decide +kernel
theorem dL_law_267 : decode cL_law 267 = .ok (.iadd, 1) := by decide +kernel
theorem dL_law_268 : decode cL_law 268 = .ok (.iaload, 1) := by decide +kernel
theorem dL_law_269 : decode cL_law 269 = .ok (.aload_n 0, 1) := by decide +kernel
theorem dL_law_270 : decode cL_law 270 = .ok (.iload_n 3, 1) := by decide +kernel
theorem dL_law_271 : decode cL_law 271 = .ok (.iconst 5, 1) := by decide +kernel
theorem dL_law_272 : decode cL_law 272 = .ok (.iadd, 1) := by decide +kernel
theorem dL_law_273 : decode cL_law 273 = .ok (.iaload, 1) := by decide +kernel
theorem dL_law_274 : decode cL_law 274 = .ok (.aload_n 0, 1) := by decide +kernel
theorem dL_law_275 : decode cL_law 275 = .ok (.iload_n 3, 1) := by decide +kernel
theorem dL_law_276 : decode cL_law 276 = .ok (.bipush 6, 2) := by decide +kernel
theorem dL_law_278 : decode cL_law 278 = .ok (.iadd, 1) := by decide +kernel
theorem dL_law_279 : decode cL_law 279 = .ok (.iaload, 1) := by decide +kernel
theorem dL_law_280 : decode cL_law 280 = .ok (.aload_n 0, 1) := by decide +kernel
theorem dL_law_281 : decode cL_law 281 = .ok (.iload_n 3, 1) := by decide +kernel
theorem dL_law_282 : decode cL_law 282 = .ok (.bipush 7, 2) := by decide +kernel
theorem dL_law_284 : decode cL_law 284 = .ok (.iadd, 1) := by decide +kernel
theorem dL_law_285 : decode cL_law 285 = .ok (.iaload, 1) := by decide +kernel
theorem dL_law_286 : decode cL_law 286 = .ok (.aload_n 0, 1) := by decide +kernel
theorem dL_law_287 : decode cL_law 287 = .ok (.iload_n 3, 1) := by decide +kernel
theorem dL_law_288 : decode cL_law 288 = .ok (.bipush 8, 2) := by decide +kernel
theorem dL_law_290 : decode cL_law 290 = .ok (.iadd, 1) := by decide +kernel
theorem dL_law_291 : decode cL_law 291 = .ok (.iaload, 1) := by decide +kernel
theorem dL_law_292 : decode cL_law 292 = .ok (.invokevirtual 22, 3) := by decide +kernel
theorem dL_law_295 : decode cL_law 295 = .ok (.if_icmp .eq 268, 3) := by decide +kernel
theorem dL_law_298 : decode cL_law 298 = .ok (.iconst 0, 1) := by decide +kernel
theorem dL_law_299 : decode cL_law 299 = .ok (.ireturn, 1) := by decide +kernel
theorem dL_law_300 : decode cL_law 300 = .ok (.aload_n 1, 1) := by decide +kernel
theorem dL_law_301 : decode cL_law 301 = .ok (.aload_n 0, 1) := by decide +kernel
theorem dL_law_302 : decode cL_law 302 = .ok (.iload_n 3, 1) := by decide +kernel
theorem dL_law_303 : decode cL_law 303 = .ok (.iconst 1, 1) := by decide +kernel
theorem dL_law_304 : decode cL_law 304 = .ok (.iadd, 1) := by decide +kernel
theorem dL_law_305 : decode cL_law 305 = .ok (.iaload, 1) := by decide +kernel
theorem dL_law_306 : decode cL_law 306 = .ok (.aload_n 0, 1) := by decide +kernel
theorem dL_law_307 : decode cL_law 307 = .ok (.iload_n 3, 1) := by decide +kernel
theorem dL_law_308 : decode cL_law 308 = .ok (.iconst 2, 1) := by decide +kernel
theorem dL_law_309 : decode cL_law 309 = .ok (.iadd, 1) := by decide +kernel
theorem dL_law_310 : decode cL_law 310 = .ok (.iaload, 1) := by decide +kernel
theorem dL_law_311 : decode cL_law 311 = .ok (.aload_n 0, 1) := by decide +kernel
theorem dL_law_312 : decode cL_law 312 = .ok (.iload_n 3, 1) := by decide +kernel
theorem dL_law_313 : decode cL_law 313 = .ok (.iconst 3, 1) := by decide +kernel
theorem dL_law_314 : decode cL_law 314 = .ok (.iadd, 1) := by decide +kernel
theorem dL_law_315 : decode cL_law 315 = .ok (.iaload, 1) := by decide +kernel
theorem dL_law_316 : decode cL_law 316 = .ok (.invokevirtual 23, 3) := by decide +kernel
theorem dL_law_319 : decode cL_law 319 = .ok (.aload_n 2, 1) := by decide +kernel
theorem dL_law_320 : decode cL_law 320 = .ok (.aload_n 0, 1) := by decide +kernel
theorem dL_law_321 : decode cL_law 321 = .ok (.iload_n 3, 1) := by decide +kernel
theorem dL_law_322 : decode cL_law 322 = .ok (.iconst 1, 1) := by decide +kernel
theorem dL_law_323 : decode cL_law 323 = .ok (.iadd, 1) := by decide +kernel
theorem dL_law_324 : decode cL_law 324 = .ok (.iaload, 1) := by decide +kernel
theorem dL_law_325 : decode cL_law 325 = .ok (.aload_n 0, 1) := by decide +kernel
theorem dL_law_326 : decode cL_law 326 = .ok (.iload_n 3, 1) := by decide +kernel
theorem dL_law_327 : decode cL_law 327 = .ok (.iconst 2, 1) := by decide +kernel
theorem dL_law_328 : decode cL_law 328 = .ok (.iadd, 1) := by decide +kernel
theorem dL_law_329 : decode cL_law 329 = .ok (.iaload, 1) := by decide +kernel
theorem dL_law_330 : decode cL_law 330 = .ok (.aload_n 0, 1) := by decide +kernel
theorem dL_law_331 : decode cL_law 331 = .ok (.iload_n 3, 1) := by decide +kernel
theorem dL_law_332 : decode cL_law 332 = .ok (.iconst 3, 1) := by decide +kernel
theorem dL_law_333 : decode cL_law 333 = .ok (.iadd, 1) := by decide +kernel
theorem dL_law_334 : decode cL_law 334 = .ok (.iaload, 1) := by decide +kernel
theorem dL_law_335 : decode cL_law 335 = .ok (.invokevirtual 27, 3) := by decide +kernel
theorem dL_law_338 : decode cL_law 338 = .ok (.if_icmp .eq 225, 3) := by decide +kernel
theorem dL_law_341 : decode cL_law 341 = .ok (.iconst 0, 1) := by decide +kernel
theorem dL_law_342 : decode cL_law 342 = .ok (.ireturn, 1) := by decide +kernel
theorem dL_law_343 : decode cL_law 343 = .ok (.aload_n 1, 1) := by decide +kernel
theorem dL_law_344 : decode cL_law 344 = .ok (.aload_n 0, 1) := by decide +kernel
theorem dL_law_345 : decode cL_law 345 = .ok (.iload_n 3, 1) := by decide +kernel
theorem dL_law_346 : decode cL_law 346 = .ok (.iconst 1, 1) := by decide +kernel
theorem dL_law_347 : decode cL_law 347 = .ok (.iadd, 1) := by decide +kernel
theorem dL_law_348 : decode cL_law 348 = .ok (.iaload, 1) := by decide +kernel
theorem dL_law_349 : decode cL_law 349 = .ok (.aload_n 0, 1) := by decide +kernel
theorem dL_law_350 : decode cL_law 350 = .ok (.iload_n 3, 1) := by decide +kernel
theorem dL_law_351 : decode cL_law 351 = .ok (.iconst 2, 1) := by decide +kernel
theorem dL_law_352 : decode cL_law 352 = .ok (.iadd, 1) := by decide +kernel
theorem dL_law_353 : decode cL_law 353 = .ok (.iaload, 1) := by decide +kernel
theorem dL_law_354 : decode cL_law 354 = .ok (.aload_n 0, 1) := by decide +kernel
theorem dL_law_355 : decode cL_law 355 = .ok (.iload_n 3, 1) := by decide +kernel
theorem dL_law_356 : decode cL_law 356 = .ok (.iconst 3, 1) := by decide +kernel
theorem dL_law_357 : decode cL_law 357 = .ok (.iadd, 1) := by decide +kernel
theorem dL_law_358 : decode cL_law 358 = .ok (.iaload, 1) := by decide +kernel
theorem dL_law_359 : decode cL_law 359 = .ok (.invokevirtual 28, 3) := by decide +kernel
theorem dL_law_362 : decode cL_law 362 = .ok (.aload_n 2, 1) := by decide +kernel
theorem dL_law_363 : decode cL_law 363 = .ok (.aload_n 0, 1) := by decide +kernel
theorem dL_law_364 : decode cL_law 364 = .ok (.iload_n 3, 1) := by decide +kernel
theorem dL_law_365 : decode cL_law 365 = .ok (.iconst 1, 1) := by decide +kernel
theorem dL_law_366 : decode cL_law 366 = .ok (.iadd, 1) := by decide +kernel
theorem dL_law_367 : decode cL_law 367 = .ok (.iaload, 1) := by decide +kernel
theorem dL_law_368 : decode cL_law 368 = .ok (.aload_n 0, 1) := by decide +kernel
theorem dL_law_369 : decode cL_law 369 = .ok (.iload_n 3, 1) := by decide +kernel
theorem dL_law_370 : decode cL_law 370 = .ok (.iconst 2, 1) := by decide +kernel
theorem dL_law_371 : decode cL_law 371 = .ok (.iadd, 1) := by decide +kernel
theorem dL_law_372 : decode cL_law 372 = .ok (.iaload, 1) := by decide +kernel
theorem dL_law_373 : decode cL_law 373 = .ok (.aload_n 0, 1) := by decide +kernel
theorem dL_law_374 : decode cL_law 374 = .ok (.iload_n 3, 1) := by decide +kernel
theorem dL_law_375 : decode cL_law 375 = .ok (.iconst 3, 1) := by decide +kernel
theorem dL_law_376 : decode cL_law 376 = .ok (.iadd, 1) := by decide +kernel
theorem dL_law_377 : decode cL_law 377 = .ok (.iaload, 1) := by decide +kernel
theorem dL_law_378 : decode cL_law 378 = .ok (.invokevirtual 31, 3) := by decide +kernel
theorem dL_law_381 : decode cL_law 381 = .ok (.if_icmp .eq 182, 3) := by decide +kernel
theorem dL_law_384 : decode cL_law 384 = .ok (.iconst 0, 1) := by decide +kernel
theorem dL_law_385 : decode cL_law 385 = .ok (.ireturn, 1) := by decide +kernel
theorem dL_law_386 : decode cL_law 386 = .ok (.aload_n 1, 1) := by decide +kernel
theorem dL_law_387 : decode cL_law 387 = .ok (.invokevirtual 32, 3) := by decide +kernel
theorem dL_law_390 : decode cL_law 390 = .ok (.aload_n 2, 1) := by decide +kernel
theorem dL_law_391 : decode cL_law 391 = .ok (.invokevirtual 36, 3) := by decide +kernel
theorem dL_law_394 : decode cL_law 394 = .ok (.if_icmp .eq 169, 3) := by decide +kernel
theorem dL_law_397 : decode cL_law 397 = .ok (.iconst 0, 1) := by decide +kernel
theorem dL_law_398 : decode cL_law 398 = .ok (.ireturn, 1) := by decide +kernel
theorem dL_law_399 : decode cL_law 399 = .ok (.aload_n 1, 1) := by decide +kernel
theorem dL_law_400 : decode cL_law 400 = .ok (.aload_n 0, 1) := by decide +kernel
theorem dL_law_401 : decode cL_law 401 = .ok (.iload_n 3, 1) := by decide +kernel
theorem dL_law_402 : decode cL_law 402 = .ok (.iconst 1, 1) := by decide +kernel
theorem dL_law_403 : decode cL_law 403 = .ok (.iadd, 1) := by decide +kernel
theorem dL_law_404 : decode cL_law 404 = .ok (.iaload, 1) := by decide +kernel
theorem dL_law_405 : decode cL_law 405 = .ok (.aload_n 0, 1) := by decide +kernel
theorem dL_law_406 : decode cL_law 406 = .ok (.iload_n 3, 1) := by decide +kernel
theorem dL_law_407 : decode cL_law 407 = .ok (.iconst 2, 1) := by decide +kernel
theorem dL_law_408 : decode cL_law 408 = .ok (.iadd, 1) := by decide +kernel
theorem dL_law_409 : decode cL_law 409 = .ok (.iaload, 1) := by decide +kernel
theorem dL_law_410 : decode cL_law 410 = .ok (.invokevirtual 37, 3) := by decide +kernel
theorem dL_law_413 : decode cL_law 413 = .ok (.aload_n 2, 1) := by decide +kernel
theorem dL_law_414 : decode cL_law 414 = .ok (.aload_n 0, 1) := by decide +kernel
theorem dL_law_415 : decode cL_law 415 = .ok (.iload_n 3, 1) := by decide +kernel
theorem dL_law_416 : decode cL_law 416 = .ok (.iconst 1, 1) := by decide +kernel
theorem dL_law_417 : decode cL_law 417 = .ok (.iadd, 1) := by decide +kernel
theorem dL_law_418 : decode cL_law 418 = .ok (.iaload, 1) := by decide +kernel
theorem dL_law_419 : decode cL_law 419 = .ok (.aload_n 0, 1) := by decide +kernel
theorem dL_law_420 : decode cL_law 420 = .ok (.iload_n 3, 1) := by decide +kernel
theorem dL_law_421 : decode cL_law 421 = .ok (.iconst 2, 1) := by decide +kernel
theorem dL_law_422 : decode cL_law 422 = .ok (.iadd, 1) := by decide +kernel
theorem dL_law_423 : decode cL_law 423 = .ok (.iaload, 1) := by decide +kernel
theorem dL_law_424 : decode cL_law 424 = .ok (.invokevirtual 41, 3) := by decide +kernel
theorem dL_law_427 : decode cL_law 427 = .ok (.if_icmp .eq 136, 3) := by decide +kernel
theorem dL_law_430 : decode cL_law 430 = .ok (.iconst 0, 1) := by decide +kernel
theorem dL_law_431 : decode cL_law 431 = .ok (.ireturn, 1) := by decide +kernel
theorem dL_law_432 : decode cL_law 432 = .ok (.aload_n 1, 1) := by decide +kernel
theorem dL_law_433 : decode cL_law 433 = .ok (.invokevirtual 42, 3) := by decide +kernel
theorem dL_law_436 : decode cL_law 436 = .ok (.aload_n 2, 1) := by decide +kernel
theorem dL_law_437 : decode cL_law 437 = .ok (.invokevirtual 45, 3) := by decide +kernel
theorem dL_law_440 : decode cL_law 440 = .ok (.if_icmp .eq 123, 3) := by decide +kernel
theorem dL_law_443 : decode cL_law 443 = .ok (.iconst 0, 1) := by decide +kernel
theorem dL_law_444 : decode cL_law 444 = .ok (.ireturn, 1) := by decide +kernel
theorem dL_law_445 : decode cL_law 445 = .ok (.aload_n 1, 1) := by decide +kernel
theorem dL_law_446 : decode cL_law 446 = .ok (.invokevirtual 46, 3) := by decide +kernel
theorem dL_law_449 : decode cL_law 449 = .ok (.aload_n 2, 1) := by decide +kernel
theorem dL_law_450 : decode cL_law 450 = .ok (.invokevirtual 50, 3) := by decide +kernel
theorem dL_law_453 : decode cL_law 453 = .ok (.if_icmp .eq 110, 3) := by decide +kernel
theorem dL_law_456 : decode cL_law 456 = .ok (.iconst 0, 1) := by decide +kernel
theorem dL_law_457 : decode cL_law 457 = .ok (.ireturn, 1) := by decide +kernel
theorem dL_law_458 : decode cL_law 458 = .ok (.aload_n 1, 1) := by decide +kernel
theorem dL_law_459 : decode cL_law 459 = .ok (.aload_n 0, 1) := by decide +kernel
theorem dL_law_460 : decode cL_law 460 = .ok (.iload_n 3, 1) := by decide +kernel
theorem dL_law_461 : decode cL_law 461 = .ok (.iconst 1, 1) := by decide +kernel
theorem dL_law_462 : decode cL_law 462 = .ok (.iadd, 1) := by decide +kernel
theorem dL_law_463 : decode cL_law 463 = .ok (.iaload, 1) := by decide +kernel
theorem dL_law_464 : decode cL_law 464 = .ok (.invokevirtual 51, 3) := by decide +kernel
theorem dL_law_467 : decode cL_law 467 = .ok (.aload_n 2, 1) := by decide +kernel
theorem dL_law_468 : decode cL_law 468 = .ok (.aload_n 0, 1) := by decide +kernel
theorem dL_law_469 : decode cL_law 469 = .ok (.iload_n 3, 1) := by decide +kernel
theorem dL_law_470 : decode cL_law 470 = .ok (.iconst 1, 1) := by decide +kernel
theorem dL_law_471 : decode cL_law 471 = .ok (.iadd, 1) := by decide +kernel
theorem dL_law_472 : decode cL_law 472 = .ok (.iaload, 1) := by decide +kernel
theorem dL_law_473 : decode cL_law 473 = .ok (.invokevirtual 55, 3) := by decide +kernel
theorem dL_law_476 : decode cL_law 476 = .ok (.if_icmp .eq 87, 3) := by decide +kernel
theorem dL_law_479 : decode cL_law 479 = .ok (.iconst 0, 1) := by decide +kernel
theorem dL_law_480 : decode cL_law 480 = .ok (.ireturn, 1) := by decide +kernel
theorem dL_law_481 : decode cL_law 481 = .ok (.aload_n 1, 1) := by decide +kernel
theorem dL_law_482 : decode cL_law 482 = .ok (.aload_n 0, 1) := by decide +kernel
theorem dL_law_483 : decode cL_law 483 = .ok (.iload_n 3, 1) := by decide +kernel
theorem dL_law_484 : decode cL_law 484 = .ok (.iconst 1, 1) := by decide +kernel
theorem dL_law_485 : decode cL_law 485 = .ok (.iadd, 1) := by decide +kernel
theorem dL_law_486 : decode cL_law 486 = .ok (.iaload, 1) := by decide +kernel
theorem dL_law_487 : decode cL_law 487 = .ok (.invokevirtual 56, 3) := by decide +kernel
theorem dL_law_490 : decode cL_law 490 = .ok (.aload_n 2, 1) := by decide +kernel
theorem dL_law_491 : decode cL_law 491 = .ok (.aload_n 0, 1) := by decide +kernel
theorem dL_law_492 : decode cL_law 492 = .ok (.iload_n 3, 1) := by decide +kernel
theorem dL_law_493 : decode cL_law 493 = .ok (.iconst 1, 1) := by decide +kernel
theorem dL_law_494 : decode cL_law 494 = .ok (.iadd, 1) := by decide +kernel
theorem dL_law_495 : decode cL_law 495 = .ok (.iaload, 1) := by decide +kernel
theorem dL_law_496 : decode cL_law 496 = .ok (.invokevirtual 59, 3) := by decide +kernel
theorem dL_law_499 : decode cL_law 499 = .ok (.if_icmp .eq 64, 3) := by decide +kernel
theorem dL_law_502 : decode cL_law 502 = .ok (.iconst 0, 1) := by decide +kernel
theorem dL_law_503 : decode cL_law 503 = .ok (.ireturn, 1) := by decide +kernel
theorem dL_law_504 : decode cL_law 504 = .ok (.aload_n 1, 1) := by decide +kernel
theorem dL_law_505 : decode cL_law 505 = .ok (.aload_n 0, 1) := by decide +kernel
theorem dL_law_506 : decode cL_law 506 = .ok (.iload_n 3, 1) := by decide +kernel
theorem dL_law_507 : decode cL_law 507 = .ok (.iconst 1, 1) := by decide +kernel
theorem dL_law_508 : decode cL_law 508 = .ok (.iadd, 1) := by decide +kernel
theorem dL_law_509 : decode cL_law 509 = .ok (.iaload, 1) := by decide +kernel
theorem dL_law_510 : decode cL_law 510 = .ok (.aload_n 0, 1) := by decide +kernel
theorem dL_law_511 : decode cL_law 511 = .ok (.iload_n 3, 1) := by decide +kernel
theorem dL_law_512 : decode cL_law 512 = .ok (.iconst 2, 1) := by decide +kernel
theorem dL_law_513 : decode cL_law 513 = .ok (.iadd, 1) := by decide +kernel
theorem dL_law_514 : decode cL_law 514 = .ok (.iaload, 1) := by decide +kernel
theorem dL_law_515 : decode cL_law 515 = .ok (.invokevirtual 60, 3) := by decide +kernel
theorem dL_law_518 : decode cL_law 518 = .ok (.aload_n 2, 1) := by decide +kernel
theorem dL_law_519 : decode cL_law 519 = .ok (.aload_n 0, 1) := by decide +kernel
theorem dL_law_520 : decode cL_law 520 = .ok (.iload_n 3, 1) := by decide +kernel
theorem dL_law_521 : decode cL_law 521 = .ok (.iconst 1, 1) := by decide +kernel
theorem dL_law_522 : decode cL_law 522 = .ok (.iadd, 1) := by decide +kernel
theorem dL_law_523 : decode cL_law 523 = .ok (.iaload, 1) := by decide +kernel
theorem dL_law_524 : decode cL_law 524 = .ok (.aload_n 0, 1) := by decide +kernel
theorem dL_law_525 : decode cL_law 525 = .ok (.iload_n 3, 1) := by decide +kernel
theorem dL_law_526 : decode cL_law 526 = .ok (.iconst 2, 1) := by decide +kernel
theorem dL_law_527 : decode cL_law 527 = .ok (.iadd, 1) := by decide +kernel
theorem dL_law_528 : decode cL_law 528 = .ok (.iaload, 1) := by decide +kernel
theorem dL_law_529 : decode cL_law 529 = .ok (.invokevirtual 63, 3) := by decide +kernel
theorem dL_law_532 : decode cL_law 532 = .ok (.if_icmp .eq 31, 3) := by decide +kernel
theorem dL_law_535 : decode cL_law 535 = .ok (.iconst 0, 1) := by decide +kernel
theorem dL_law_536 : decode cL_law 536 = .ok (.ireturn, 1) := by decide +kernel
theorem dL_law_537 : decode cL_law 537 = .ok (.aload_n 1, 1) := by decide +kernel
theorem dL_law_538 : decode cL_law 538 = .ok (.invokevirtual 64, 3) := by decide +kernel
theorem dL_law_541 : decode cL_law 541 = .ok (.aload_n 2, 1) := by decide +kernel
theorem dL_law_542 : decode cL_law 542 = .ok (.invokevirtual 67, 3) := by decide +kernel
theorem dL_law_545 : decode cL_law 545 = .ok (.if_icmp .eq 18, 3) := by decide +kernel
theorem dL_law_548 : decode cL_law 548 = .ok (.iconst 0, 1) := by decide +kernel
theorem dL_law_549 : decode cL_law 549 = .ok (.ireturn, 1) := by decide +kernel
theorem dL_law_550 : decode cL_law 550 = .ok (.aload_n 1, 1) := by decide +kernel
theorem dL_law_551 : decode cL_law 551 = .ok (.invokevirtual 68, 3) := by decide +kernel
theorem dL_law_554 : decode cL_law 554 = .ok (.aload_n 2, 1) := by decide +kernel
theorem dL_law_555 : decode cL_law 555 = .ok (.invokevirtual 71, 3) := by decide +kernel
theorem dL_law_558 : decode cL_law 558 = .ok (.if_icmp .eq 5, 3) := by decide +kernel
theorem dL_law_561 : decode cL_law 561 = .ok (.iconst 0, 1) := by decide +kernel
theorem dL_law_562 : decode cL_law 562 = .ok (.ireturn, 1) := by decide +kernel
theorem dL_law_563 : decode cL_law 563 = .ok (.iinc 3 9, 3) := by decide +kernel
theorem dL_law_566 : decode cL_law 566 = .ok (.goto (-548), 3) := by decide +kernel
theorem dL_law_569 : decode cL_law 569 = .ok (.iconst 1, 1) := by decide +kernel
theorem dL_law_570 : decode cL_law 570 = .ok (.ireturn, 1) := by decide +kernel
