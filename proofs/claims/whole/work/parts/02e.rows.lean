/-! printed: decode rows -/
theorem dX10_place_28 : decode cX10_place 28 = .ok (.putfield 121, 3) := by decide +kernel
theorem dX10_place_31 : decode cX10_place 31 = .ok (.aload_n 0, 1) := by decide +kernel
theorem dX10_place_32 : decode cX10_place 32 = .ok (.getfield 121, 3) := by decide +kernel
theorem dX10_place_35 : decode cX10_place 35 = .ok (.ireturn, 1) := by decide +kernel
theorem dX10_word_0 : decode cX10_word 0 = .ok (.aload_n 0, 1) := by decide +kernel
theorem dX10_word_1 : decode cX10_word 1 = .ok (.getfield 121, 3) := by decide +kernel
theorem dX10_word_4 : decode cX10_word 4 = .ok (.ifCond .eq 23, 3) := by decide +kernel
theorem dX10_word_7 : decode cX10_word 7 = .ok (.iload_n 1, 1) := by decide +kernel
theorem dX10_word_8 : decode cX10_word 8 = .ok (.iconst 0, 1) := by decide +kernel
theorem dX10_word_9 : decode cX10_word 9 = .ok (.bipush 59, 2) := by decide +kernel
theorem dX10_word_11 : decode cX10_word 11 = .ok (.invokestatic 102, 3) := by decide +kernel
theorem dX10_word_14 : decode cX10_word 14 = .ok (.ifCond .eq 13, 3) := by decide +kernel
theorem dX10_word_17 : decode cX10_word 17 = .ok (.iload_n 2, 1) := by decide +kernel
theorem dX10_word_18 : decode cX10_word 18 = .ok (.iconst 0, 1) := by decide +kernel
theorem dX10_word_19 : decode cX10_word 19 = .ok (.bipush 99, 2) := by decide +kernel
theorem dX10_word_21 : decode cX10_word 21 = .ok (.invokestatic 102, 3) := by decide +kernel
theorem dX10_word_24 : decode cX10_word 24 = .ok (.ifCond .ne 5, 3) := by decide +kernel
theorem dX10_word_27 : decode cX10_word 27 = .ok (.iconst (-1), 1) := by decide +kernel
theorem dX10_word_28 : decode cX10_word 28 = .ok (.ireturn, 1) := by decide +kernel
theorem dX10_word_29 : decode cX10_word 29 = .ok (.aload_n 0, 1) := by decide +kernel
theorem dX10_word_30 : decode cX10_word 30 = .ok (.getfield 121, 3) := by decide +kernel
theorem dX10_word_33 : decode cX10_word 33 = .ok (.iconst 1, 1) := by decide +kernel
theorem dX10_word_34 : decode cX10_word 34 = .ok (.isub, 1) := by decide +kernel
theorem dX10_word_35 : decode cX10_word 35 = .ok (.istore_n 3, 1) := by decide +kernel
theorem dX10_word_36 : decode cX10_word 36 = .ok (.iconst 0, 1) := by decide +kernel
theorem dX10_word_37 : decode cX10_word 37 = .ok (.istore 4, 2) := by decide +kernel
theorem dX10_word_39 : decode cX10_word 39 = .ok (.iload 4, 2) := by decide +kernel
theorem dX10_word_41 : decode cX10_word 41 = .ok (.aload_n 0, 1) := by decide +kernel
theorem dX10_word_42 : decode cX10_word 42 = .ok (.getfield 57, 3) := by decide +kernel
theorem dX10_word_45 : decode cX10_word 45 = .ok (.iload_n 3, 1) := by decide +kernel
theorem dX10_word_46 : decode cX10_word 46 = .ok (.iaload, 1) := by decide +kernel
theorem dX10_word_47 : decode cX10_word 47 = .ok (.if_icmp .ge 26, 3) := by decide +kernel
theorem dX10_word_50 : decode cX10_word 50 = .ok (.aload_n 0, 1) := by decide +kernel
theorem dX10_word_51 : decode cX10_word 51 = .ok (.getfield 60, 3) := by decide +kernel
theorem dX10_word_54 : decode cX10_word 54 = .ok (.iconst 4, 1) := by decide +kernel
theorem dX10_word_55 : decode cX10_word 55 = .ok (.iload_n 3, 1) := by decide +kernel
theorem dX10_word_56 : decode cX10_word 56 = .ok (.imul, 1) := by decide +kernel
theorem dX10_word_57 : decode cX10_word 57 = .ok (.iload 4, 2) := by decide +kernel
theorem dX10_word_59 : decode cX10_word 59 = .ok (.iadd, 1) := by decide +kernel
theorem dX10_word_60 : decode cX10_word 60 = .ok (.iaload, 1) := by decide +kernel
theorem dX10_word_61 : decode cX10_word 61 = .ok (.iload_n 1, 1) := by decide +kernel
theorem dX10_word_62 : decode cX10_word 62 = .ok (.if_icmp .ne 5, 3) := by decide +kernel
theorem dX10_word_65 : decode cX10_word 65 = .ok (.iconst (-1), 1) := by decide +kernel
theorem dX10_word_66 : decode cX10_word 66 = .ok (.ireturn, 1) := by decide +kernel
theorem dX10_word_67 : decode cX10_word 67 = .ok (.iinc 4 1, 3) := by decide +kernel
theorem dX10_word_70 : decode cX10_word 70 = .ok (.goto (-31), 3) := by decide +kernel
theorem dX10_word_73 : decode cX10_word 73 = .ok (.aload_n 0, 1) := by decide +kernel
theorem dX10_word_74 : decode cX10_word 74 = .ok (.getfield 57, 3) := by decide +kernel
theorem dX10_word_77 : decode cX10_word 77 = .ok (.iload_n 3, 1) := by decide +kernel
theorem dX10_word_78 : decode cX10_word 78 = .ok (.iaload, 1) := by decide +kernel
theorem dX10_word_79 : decode cX10_word 79 = .ok (.iconst 4, 1) := by decide +kernel
theorem dX10_word_80 : decode cX10_word 80 = .ok (.if_icmp .ne 5, 3) := by decide +kernel
theorem dX10_word_83 : decode cX10_word 83 = .ok (.iconst (-1), 1) := by decide +kernel
theorem dX10_word_84 : decode cX10_word 84 = .ok (.ireturn, 1) := by decide +kernel
theorem dX10_word_85 : decode cX10_word 85 = .ok (.aload_n 0, 1) := by decide +kernel
theorem dX10_word_86 : decode cX10_word 86 = .ok (.getfield 60, 3) := by decide +kernel
theorem dX10_word_89 : decode cX10_word 89 = .ok (.iconst 4, 1) := by decide +kernel
theorem dX10_word_90 : decode cX10_word 90 = .ok (.iload_n 3, 1) := by decide +kernel
theorem dX10_word_91 : decode cX10_word 91 = .ok (.imul, 1) := by decide +kernel
theorem dX10_word_92 : decode cX10_word 92 = .ok (.aload_n 0, 1) := by decide +kernel
theorem dX10_word_93 : decode cX10_word 93 = .ok (.getfield 57, 3) := by decide +kernel
theorem dX10_word_96 : decode cX10_word 96 = .ok (.iload_n 3, 1) := by decide +kernel
theorem dX10_word_97 : decode cX10_word 97 = .ok (.iaload, 1) := by decide +kernel
theorem dX10_word_98 : decode cX10_word 98 = .ok (.iadd, 1) := by decide +kernel
theorem dX10_word_99 : decode cX10_word 99 = .ok (.iload_n 1, 1) := by decide +kernel
theorem dX10_word_100 : decode cX10_word 100 = .ok (.iastore, 1) := by decide +kernel
theorem dX10_word_101 : decode cX10_word 101 = .ok (.aload_n 0, 1) := by decide +kernel
theorem dX10_word_102 : decode cX10_word 102 = .ok (.getfield 63, 3) := by decide +kernel
theorem dX10_word_105 : decode cX10_word 105 = .ok (.iconst 4, 1) := by decide +kernel
theorem dX10_word_106 : decode cX10_word 106 = .ok (.iload_n 3, 1) := by decide +kernel
theorem dX10_word_107 : decode cX10_word 107 = .ok (.imul, 1) := by decide +kernel
theorem dX10_word_108 : decode cX10_word 108 = .ok (.aload_n 0, 1) := by decide +kernel
theorem dX10_word_109 : decode cX10_word 109 = .ok (.getfield 57, 3) := by decide +kernel
theorem dX10_word_112 : decode cX10_word 112 = .ok (.iload_n 3, 1) := by decide +kernel
theorem dX10_word_113 : decode cX10_word 113 = .ok (.iaload, 1) := by decide +kernel
theorem dX10_word_114 : decode cX10_word 114 = .ok (.iadd, 1) := by decide +kernel
theorem dX10_word_115 : decode cX10_word 115 = .ok (.iload_n 2, 1) := by decide +kernel
theorem dX10_word_116 : decode cX10_word 116 = .ok (.iastore, 1) := by decide +kernel
theorem dX10_word_117 : decode cX10_word 117 = .ok (.aload_n 0, 1) := by decide +kernel
theorem dX10_word_118 : decode cX10_word 118 = .ok (.getfield 57, 3) := by decide +kernel
theorem dX10_word_121 : decode cX10_word 121 = .ok (.iload_n 3, 1) := by decide +kernel
theorem dX10_word_122 : decode cX10_word 122 = .ok (.dup2, 1) := by decide +kernel
theorem dX10_word_123 : decode cX10_word 123 = .ok (.iaload, 1) := by decide +kernel
theorem dX10_word_124 : decode cX10_word 124 = .ok (.iconst 1, 1) := by decide +kernel
theorem dX10_word_125 : decode cX10_word 125 = .ok (.iadd, 1) := by decide +kernel
theorem dX10_word_126 : decode cX10_word 126 = .ok (.iastore, 1) := by decide +kernel
theorem dX10_word_127 : decode cX10_word 127 = .ok (.aload_n 0, 1) := by decide +kernel
theorem dX10_word_128 : decode cX10_word 128 = .ok (.getfield 57, 3) := by decide +kernel
theorem dX10_word_131 : decode cX10_word 131 = .ok (.iload_n 3, 1) := by decide +kernel
theorem dX10_word_132 : decode cX10_word 132 = .ok (.iaload, 1) := by decide +kernel
theorem dX10_word_133 : decode cX10_word 133 = .ok (.ireturn, 1) := by decide +kernel
theorem dX10_isAhead_0 : decode cX10_isAhead 0 = .ok (.iload_n 0, 1) := by decide +kernel
theorem dX10_isAhead_1 : decode cX10_isAhead 1 = .ok (.iload_n 3, 1) := by decide +kernel
theorem dX10_isAhead_2 : decode cX10_isAhead 2 = .ok (.if_icmp .eq 16, 3) := by decide +kernel
theorem dX10_isAhead_5 : decode cX10_isAhead 5 = .ok (.iload_n 0, 1) := by decide +kernel
theorem dX10_isAhead_6 : decode cX10_isAhead 6 = .ok (.iload_n 3, 1) := by decide +kernel
theorem dX10_isAhead_7 : decode cX10_isAhead 7 = .ok (.if_icmp .ge 7, 3) := by decide +kernel
theorem dX10_isAhead_10 : decode cX10_isAhead 10 = .ok (.iconst 1, 1) := by decide +kernel
theorem dX10_isAhead_11 : decode cX10_isAhead 11 = .ok (.goto 38, 3) := by decide +kernel
theorem dX10_isAhead_14 : decode cX10_isAhead 14 = .ok (.iconst 0, 1) := by decide +kernel
theorem dX10_isAhead_15 : decode cX10_isAhead 15 = .ok (.goto 34, 3) := by decide +kernel
theorem dX10_isAhead_18 : decode cX10_isAhead 18 = .ok (.iload_n 1, 1) := by decide +kernel
theorem dX10_isAhead_19 : decode cX10_isAhead 19 = .ok (.iload 4, 2) := by decide +kernel
theorem dX10_isAhead_21 : decode cX10_isAhead 21 = .ok (.if_icmp .eq 17, 3) := by decide +kernel
theorem dX10_isAhead_24 : decode cX10_isAhead 24 = .ok (.iload_n 1, 1) := by decide +kernel
theorem dX10_isAhead_25 : decode cX10_isAhead 25 = .ok (.iload 4, 2) := by decide +kernel
theorem dX10_isAhead_27 : decode cX10_isAhead 27 = .ok (.if_icmp .ge 7, 3) := by decide +kernel
theorem dX10_isAhead_30 : decode cX10_isAhead 30 = .ok (.iconst 1, 1) := by decide +kernel
theorem dX10_isAhead_31 : decode cX10_isAhead 31 = .ok (.goto 18, 3) := by decide +kernel
theorem dX10_isAhead_34 : decode cX10_isAhead 34 = .ok (.iconst 0, 1) := by decide +kernel
theorem dX10_isAhead_35 : decode cX10_isAhead 35 = .ok (.goto 14, 3) := by decide +kernel
theorem dX10_isAhead_38 : decode cX10_isAhead 38 = .ok (.iload_n 2, 1) := by decide +kernel
theorem dX10_isAhead_39 : decode cX10_isAhead 39 = .ok (.iload 5, 2) := by decide +kernel
theorem dX10_isAhead_41 : decode cX10_isAhead 41 = .ok (.if_icmp .ge 7, 3) := by decide +kernel
theorem dX10_isAhead_44 : decode cX10_isAhead 44 = .ok (.iconst 1, 1) := by decide +kernel
theorem dX10_isAhead_45 : decode cX10_isAhead 45 = .ok (.goto 4, 3) := by decide +kernel
theorem dX10_isAhead_48 : decode cX10_isAhead 48 = .ok (.iconst 0, 1) := by decide +kernel
theorem dX10_isAhead_49 : decode cX10_isAhead 49 = .ok (.ireturn, 1) := by decide +kernel
theorem dX10_set_0 : decode cX10_set 0 = .ok (.aload_n 0, 1) := by decide +kernel
theorem dX10_set_1 : decode cX10_set 1 = .ok (.getfield 72, 3) := by decide +kernel
theorem dX10_set_4 : decode cX10_set 4 = .ok (.iload_n 1, 1) := by decide +kernel
theorem dX10_set_5 : decode cX10_set 5 = .ok (.iload_n 2, 1) := by decide +kernel
theorem dX10_set_6 : decode cX10_set 6 = .ok (.iastore, 1) := by decide +kernel
theorem dX10_set_7 : decode cX10_set 7 = .ok (.aload_n 0, 1) := by decide +kernel
theorem dX10_set_8 : decode cX10_set 8 = .ok (.getfield 66, 3) := by decide +kernel
theorem dX10_set_11 : decode cX10_set 11 = .ok (.iload_n 1, 1) := by decide +kernel
theorem dX10_set_12 : decode cX10_set 12 = .ok (.iload_n 3, 1) := by decide +kernel
theorem dX10_set_13 : decode cX10_set 13 = .ok (.iastore, 1) := by decide +kernel
theorem dX10_set_14 : decode cX10_set 14 = .ok (.aload_n 0, 1) := by decide +kernel
theorem dX10_set_15 : decode cX10_set 15 = .ok (.getfield 69, 3) := by decide +kernel
theorem dX10_set_18 : decode cX10_set 18 = .ok (.iload_n 1, 1) := by decide +kernel
theorem dX10_set_19 : decode cX10_set 19 = .ok (.iload 4, 2) := by decide +kernel
theorem dX10_set_21 : decode cX10_set 21 = .ok (.iastore, 1) := by decide +kernel
theorem dX10_set_22 : decode cX10_set 22 = .ok (.return_, 1) := by decide +kernel
theorem dX10_found_0 : decode cX10_found 0 = .ok (.aload_n 0, 1) := by decide +kernel
theorem dX10_found_1 : decode cX10_found 1 = .ok (.getfield 72, 3) := by decide +kernel
theorem dX10_found_4 : decode cX10_found 4 = .ok (.iconst 0, 1) := by decide +kernel
theorem dX10_found_5 : decode cX10_found 5 = .ok (.iaload, 1) := by decide +kernel
theorem dX10_found_6 : decode cX10_found 6 = .ok (.ldc 124, 2) := by decide +kernel
theorem dX10_found_8 : decode cX10_found 8 = .ok (.if_icmp .ge 41, 3) := by decide +kernel
theorem dX10_found_11 : decode cX10_found 11 = .ok (.aload_n 0, 1) := by decide +kernel
theorem dX10_found_12 : decode cX10_found 12 = .ok (.getfield 66, 3) := by decide +kernel
theorem dX10_found_15 : decode cX10_found 15 = .ok (.iconst 0, 1) := by decide +kernel
theorem dX10_found_16 : decode cX10_found 16 = .ok (.iaload, 1) := by decide +kernel
theorem dX10_found_17 : decode cX10_found 17 = .ok (.iload_n 2, 1) := by decide +kernel
theorem dX10_found_18 : decode cX10_found 18 = .ok (.if_icmp .ne 31, 3) := by decide +kernel
theorem dX10_found_21 : decode cX10_found 21 = .ok (.aload_n 0, 1) := by decide +kernel
theorem dX10_found_22 : decode cX10_found 22 = .ok (.getfield 69, 3) := by decide +kernel
theorem dX10_found_25 : decode cX10_found 25 = .ok (.iconst 0, 1) := by decide +kernel
theorem dX10_found_26 : decode cX10_found 26 = .ok (.iaload, 1) := by decide +kernel
theorem dX10_found_27 : decode cX10_found 27 = .ok (.iload_n 3, 1) := by decide +kernel
theorem dX10_found_28 : decode cX10_found 28 = .ok (.if_icmp .ne 21, 3) := by decide +kernel
theorem dX10_found_31 : decode cX10_found 31 = .ok (.iload_n 1, 1) := by decide +kernel
theorem dX10_found_32 : decode cX10_found 32 = .ok (.aload_n 0, 1) := by decide +kernel
theorem dX10_found_33 : decode cX10_found 33 = .ok (.getfield 72, 3) := by decide +kernel
theorem dX10_found_36 : decode cX10_found 36 = .ok (.iconst 0, 1) := by decide +kernel
theorem dX10_found_37 : decode cX10_found 37 = .ok (.iaload, 1) := by decide +kernel
theorem dX10_found_38 : decode cX10_found 38 = .ok (.if_icmp .ge 10, 3) := by decide +kernel
theorem dX10_found_41 : decode cX10_found 41 = .ok (.aload_n 0, 1) := by decide +kernel
theorem dX10_found_42 : decode cX10_found 42 = .ok (.getfield 72, 3) := by decide +kernel
theorem dX10_found_45 : decode cX10_found 45 = .ok (.iconst 0, 1) := by decide +kernel
theorem dX10_found_46 : decode cX10_found 46 = .ok (.iload_n 1, 1) := by decide +kernel
theorem dX10_found_47 : decode cX10_found 47 = .ok (.iastore, 1) := by decide +kernel
theorem dX10_found_48 : decode cX10_found 48 = .ok (.return_, 1) := by decide +kernel
theorem dX10_found_49 : decode cX10_found 49 = .ok (.iload_n 1, 1) := by decide +kernel
theorem dX10_found_50 : decode cX10_found 50 = .ok (.iload_n 2, 1) := by decide +kernel
theorem dX10_found_51 : decode cX10_found 51 = .ok (.iload_n 3, 1) := by decide +kernel
theorem dX10_found_52 : decode cX10_found 52 = .ok (.aload_n 0, 1) := by decide +kernel
theorem dX10_found_53 : decode cX10_found 53 = .ok (.getfield 72, 3) := by decide +kernel
theorem dX10_found_56 : decode cX10_found 56 = .ok (.iconst 0, 1) := by decide +kernel
theorem dX10_found_57 : decode cX10_found 57 = .ok (.iaload, 1) := by decide +kernel
theorem dX10_found_58 : decode cX10_found 58 = .ok (.aload_n 0, 1) := by decide +kernel
theorem dX10_found_59 : decode cX10_found 59 = .ok (.getfield 66, 3) := by decide +kernel
theorem dX10_found_62 : decode cX10_found 62 = .ok (.iconst 0, 1) := by decide +kernel
theorem dX10_found_63 : decode cX10_found 63 = .ok (.iaload, 1) := by decide +kernel
theorem dX10_found_64 : decode cX10_found 64 = .ok (.aload_n 0, 1) := by decide +kernel
theorem dX10_found_65 : decode cX10_found 65 = .ok (.getfield 69, 3) := by decide +kernel
theorem dX10_found_68 : decode cX10_found 68 = .ok (.iconst 0, 1) := by decide +kernel
theorem dX10_found_69 : decode cX10_found 69 = .ok (.iaload, 1) := by decide +kernel
theorem dX10_found_70 : decode cX10_found 70 = .ok (.invokestatic 125, 3) := by decide +kernel
theorem dX10_found_73 : decode cX10_found 73 = .ok (.ifCond .eq 37, 3) := by decide +kernel
theorem dX10_found_76 : decode cX10_found 76 = .ok (.aload_n 0, 1) := by decide +kernel
theorem dX10_found_77 : decode cX10_found 77 = .ok (.iconst 1, 1) := by decide +kernel
theorem dX10_found_78 : decode cX10_found 78 = .ok (.aload_n 0, 1) := by decide +kernel
theorem dX10_found_79 : decode cX10_found 79 = .ok (.getfield 72, 3) := by decide +kernel
theorem dX10_found_82 : decode cX10_found 82 = .ok (.iconst 0, 1) := by decide +kernel
theorem dX10_found_83 : decode cX10_found 83 = .ok (.iaload, 1) := by decide +kernel
theorem dX10_found_84 : decode cX10_found 84 = .ok (.aload_n 0, 1) := by decide +kernel
theorem dX10_found_85 : decode cX10_found 85 = .ok (.getfield 66, 3) := by decide +kernel
theorem dX10_found_88 : decode cX10_found 88 = .ok (.iconst 0, 1) := by decide +kernel
theorem dX10_found_89 : decode cX10_found 89 = .ok (.iaload, 1) := by decide +kernel
theorem dX10_found_90 : decode cX10_found 90 = .ok (.aload_n 0, 1) := by decide +kernel
theorem dX10_found_91 : decode cX10_found 91 = .ok (.getfield 69, 3) := by decide +kernel
theorem dX10_found_94 : decode cX10_found 94 = .ok (.iconst 0, 1) := by decide +kernel
theorem dX10_found_95 : decode cX10_found 95 = .ok (.iaload, 1) := by decide +kernel
theorem dX10_found_96 : decode cX10_found 96 = .ok (.invokevirtual 129, 3) := by decide +kernel
theorem dX10_found_99 : decode cX10_found 99 = .ok (.aload_n 0, 1) := by decide +kernel
theorem dX10_found_100 : decode cX10_found 100 = .ok (.iconst 0, 1) := by decide +kernel
theorem dX10_found_101 : decode cX10_found 101 = .ok (.iload_n 1, 1) := by decide +kernel
theorem dX10_found_102 : decode cX10_found 102 = .ok (.iload_n 2, 1) := by decide +kernel
theorem dX10_found_103 : decode cX10_found 103 = .ok (.iload_n 3, 1) := by decide +kernel
theorem dX10_found_104 : decode cX10_found 104 = .ok (.invokevirtual 129, 3) := by decide +kernel
theorem dX10_found_107 : decode cX10_found 107 = .ok (.goto 38, 3) := by decide +kernel
theorem dX10_found_110 : decode cX10_found 110 = .ok (.iload_n 1, 1) := by decide +kernel
theorem dX10_found_111 : decode cX10_found 111 = .ok (.iload_n 2, 1) := by decide +kernel
theorem dX10_found_112 : decode cX10_found 112 = .ok (.iload_n 3, 1) := by decide +kernel
theorem dX10_found_113 : decode cX10_found 113 = .ok (.aload_n 0, 1) := by decide +kernel
theorem dX10_found_114 : decode cX10_found 114 = .ok (.getfield 72, 3) := by decide +kernel
theorem dX10_found_117 : decode cX10_found 117 = .ok (.iconst 1, 1) := by decide +kernel
theorem dX10_found_118 : decode cX10_found 118 = .ok (.iaload, 1) := by decide +kernel
theorem dX10_found_119 : decode cX10_found 119 = .ok (.aload_n 0, 1) := by decide +kernel
theorem dX10_found_120 : decode cX10_found 120 = .ok (.getfield 66, 3) := by decide +kernel
theorem dX10_found_123 : decode cX10_found 123 = .ok (.iconst 1, 1) := by decide +kernel
theorem dX10_found_124 : decode cX10_found 124 = .ok (.iaload, 1) := by decide +kernel
theorem dX10_found_125 : decode cX10_found 125 = .ok (.aload_n 0, 1) := by decide +kernel
theorem dX10_found_126 : decode cX10_found 126 = .ok (.getfield 69, 3) := by decide +kernel
theorem dX10_found_129 : decode cX10_found 129 = .ok (.iconst 1, 1) := by decide +kernel
theorem dX10_found_130 : decode cX10_found 130 = .ok (.iaload, 1) := by decide +kernel
theorem dX10_found_131 : decode cX10_found 131 = .ok (.invokestatic 125, 3) := by decide +kernel
theorem dX10_found_134 : decode cX10_found 134 = .ok (.ifCond .eq 11, 3) := by decide +kernel
theorem dX10_found_137 : decode cX10_found 137 = .ok (.aload_n 0, 1) := by decide +kernel
theorem dX10_found_138 : decode cX10_found 138 = .ok (.iconst 1, 1) := by decide +kernel
theorem dX10_found_139 : decode cX10_found 139 = .ok (.iload_n 1, 1) := by decide +kernel
theorem dX10_found_140 : decode cX10_found 140 = .ok (.iload_n 2, 1) := by decide +kernel
theorem dX10_found_141 : decode cX10_found 141 = .ok (.iload_n 3, 1) := by decide +kernel
theorem dX10_found_142 : decode cX10_found 142 = .ok (.invokevirtual 129, 3) := by decide +kernel
theorem dX10_found_145 : decode cX10_found 145 = .ok (.return_, 1) := by decide +kernel
theorem dX10_holds_0 : decode cX10_holds 0 = .ok (.iconst 0, 1) := by decide +kernel
theorem dX10_holds_1 : decode cX10_holds 1 = .ok (.istore_n 3, 1) := by decide +kernel
theorem dX10_holds_2 : decode cX10_holds 2 = .ok (.iload_n 1, 1) := by decide +kernel
theorem dX10_holds_3 : decode cX10_holds 3 = .ok (.istore 4, 2) := by decide +kernel
theorem dX10_holds_5 : decode cX10_holds 5 = .ok (.iconst 0, 1) := by decide +kernel
theorem dX10_holds_6 : decode cX10_holds 6 = .ok (.istore 5, 2) := by decide +kernel
theorem dX10_holds_8 : decode cX10_holds 8 = .ok (.iload 5, 2) := by decide +kernel
theorem dX10_holds_10 : decode cX10_holds 10 = .ok (.iload_n 2, 1) := by decide +kernel
theorem dX10_holds_11 : decode cX10_holds 11 = .ok (.if_icmp .ge 62, 3) := by decide +kernel
theorem dX10_holds_14 : decode cX10_holds 14 = .ok (.iload 4, 2) := by decide +kernel
theorem dX10_holds_16 : decode cX10_holds 16 = .ok (.bipush 10, 2) := by decide +kernel
theorem dX10_holds_18 : decode cX10_holds 18 = .ok (.irem, 1) := by decide +kernel
theorem dX10_holds_19 : decode cX10_holds 19 = .ok (.istore 6, 2) := by decide +kernel
theorem dX10_holds_21 : decode cX10_holds 21 = .ok (.iload 4, 2) := by decide +kernel
theorem dX10_holds_23 : decode cX10_holds 23 = .ok (.bipush 10, 2) := by decide +kernel
theorem dX10_holds_25 : decode cX10_holds 25 = .ok (.idiv, 1) := by decide +kernel
theorem dX10_holds_26 : decode cX10_holds 26 = .ok (.istore 4, 2) := by decide +kernel
theorem dX10_holds_28 : decode cX10_holds 28 = .ok (.iload 5, 2) := by decide +kernel
theorem dX10_holds_30 : decode cX10_holds 30 = .ok (.iconst 2, 1) := by decide +kernel
theorem dX10_holds_31 : decode cX10_holds 31 = .ok (.irem, 1) := by decide +kernel
theorem dX10_holds_32 : decode cX10_holds 32 = .ok (.iconst 1, 1) := by decide +kernel
theorem dX10_holds_33 : decode cX10_holds 33 = .ok (.if_icmp .ne 10, 3) := by decide +kernel
theorem dX10_holds_36 : decode cX10_holds 36 = .ok (.iconst 2, 1) := by decide +kernel
theorem dX10_holds_37 : decode cX10_holds 37 = .ok (.iload 6, 2) := by decide +kernel
theorem dX10_holds_39 : decode cX10_holds 39 = .ok (.imul, 1) := by decide +kernel
theorem dX10_holds_40 : decode cX10_holds 40 = .ok (.goto 5, 3) := by decide +kernel
theorem dX10_holds_43 : decode cX10_holds 43 = .ok (.iload 6, 2) := by decide +kernel
theorem dX10_holds_45 : decode cX10_holds 45 = .ok (.istore 7, 2) := by decide +kernel
theorem dX10_holds_47 : decode cX10_holds 47 = .ok (.iload_n 3, 1) := by decide +kernel
theorem dX10_holds_48 : decode cX10_holds 48 = .ok (.iload 7, 2) := by decide +kernel
theorem dX10_holds_50 : decode cX10_holds 50 = .ok (.bipush 9, 2) := by decide +kernel
theorem dX10_holds_52 : decode cX10_holds 52 = .ok (.if_icmp .le 11, 3) := by decide +kernel
theorem dX10_holds_55 : decode cX10_holds 55 = .ok (.iload 7, 2) := by decide +kernel
theorem dX10_holds_57 : decode cX10_holds 57 = .ok (.bipush 9, 2) := by decide +kernel
theorem dX10_holds_59 : decode cX10_holds 59 = .ok (.isub, 1) := by decide +kernel
theorem dX10_holds_60 : decode cX10_holds 60 = .ok (.goto 5, 3) := by decide +kernel
theorem dX10_holds_63 : decode cX10_holds 63 = .ok (.iload 7, 2) := by decide +kernel
theorem dX10_holds_65 : decode cX10_holds 65 = .ok (.iadd, 1) := by decide +kernel
theorem dX10_holds_66 : decode cX10_holds 66 = .ok (.istore_n 3, 1) := by decide +kernel
theorem dX10_holds_67 : decode cX10_holds 67 = .ok (.iinc 5 1, 3) := by decide +kernel
theorem dX10_holds_70 : decode cX10_holds 70 = .ok (.goto (-62), 3) := by decide +kernel
theorem dX10_holds_73 : decode cX10_holds 73 = .ok (.iload_n 3, 1) := by decide +kernel
theorem dX10_holds_74 : decode cX10_holds 74 = .ok (.bipush 10, 2) := by decide +kernel
theorem dX10_holds_76 : decode cX10_holds 76 = .ok (.irem, 1) := by decide +kernel
theorem dX10_holds_77 : decode cX10_holds 77 = .ok (.ifCond .ne 7, 3) := by decide +kernel
theorem dX10_holds_80 : decode cX10_holds 80 = .ok (.iconst 1, 1) := by decide +kernel
theorem dX10_holds_81 : decode cX10_holds 81 = .ok (.goto 4, 3) := by decide +kernel
theorem dX10_holds_84 : decode cX10_holds 84 = .ok (.iconst 0, 1) := by decide +kernel
theorem dX10_holds_85 : decode cX10_holds 85 = .ok (.ireturn, 1) := by decide +kernel
theorem dX10_answer_0 : decode cX10_answer 0 = .ok (.aload_n 0, 1) := by decide +kernel
theorem dX10_answer_1 : decode cX10_answer 1 = .ok (.getfield 13, 3) := by decide +kernel
theorem dX10_answer_4 : decode cX10_answer 4 = .ok (.iload_n 1, 1) := by decide +kernel
theorem dX10_answer_5 : decode cX10_answer 5 = .ok (.iaload, 1) := by decide +kernel
theorem dX10_answer_6 : decode cX10_answer 6 = .ok (.ifCond .ne 57, 3) := by decide +kernel
theorem dX10_answer_9 : decode cX10_answer 9 = .ok (.aload_n 0, 1) := by decide +kernel
theorem dX10_answer_10 : decode cX10_answer 10 = .ok (.getfield 133, 3) := by decide +kernel
theorem dX10_answer_13 : decode cX10_answer 13 = .ok (.iload_n 2, 1) := by decide +kernel
theorem dX10_answer_14 : decode cX10_answer 14 = .ok (.iconst 1, 1) := by decide +kernel
theorem dX10_answer_15 : decode cX10_answer 15 = .ok (.iadd, 1) := by decide +kernel
theorem dX10_answer_16 : decode cX10_answer 16 = .ok (.if_icmp .eq 5, 3) := by decide +kernel
theorem dX10_answer_19 : decode cX10_answer 19 = .ok (.iconst (-1), 1) := by decide +kernel
theorem dX10_answer_20 : decode cX10_answer 20 = .ok (.ireturn, 1) := by decide +kernel
theorem dX10_answer_21 : decode cX10_answer 21 = .ok (.iconst 0, 1) := by decide +kernel
theorem dX10_answer_22 : decode cX10_answer 22 = .ok (.istore_n 3, 1) := by decide +kernel
theorem dX10_answer_23 : decode cX10_answer 23 = .ok (.iload_n 3, 1) := by decide +kernel
theorem dX10_answer_24 : decode cX10_answer 24 = .ok (.aload_n 0, 1) := by decide +kernel
theorem dX10_answer_25 : decode cX10_answer 25 = .ok (.getfield 16, 3) := by decide +kernel
theorem dX10_answer_28 : decode cX10_answer 28 = .ok (.iload_n 1, 1) := by decide +kernel
theorem dX10_answer_29 : decode cX10_answer 29 = .ok (.iaload, 1) := by decide +kernel
theorem dX10_answer_30 : decode cX10_answer 30 = .ok (.if_icmp .ge 31, 3) := by decide +kernel
theorem dX10_answer_33 : decode cX10_answer 33 = .ok (.aload_n 0, 1) := by decide +kernel
theorem dX10_answer_34 : decode cX10_answer 34 = .ok (.getfield 26, 3) := by decide +kernel
theorem dX10_answer_37 : decode cX10_answer 37 = .ok (.bipush 6, 2) := by decide +kernel
theorem dX10_answer_39 : decode cX10_answer 39 = .ok (.iload_n 1, 1) := by decide +kernel
theorem dX10_answer_40 : decode cX10_answer 40 = .ok (.imul, 1) := by decide +kernel
theorem dX10_answer_41 : decode cX10_answer 41 = .ok (.iload_n 3, 1) := by decide +kernel
theorem dX10_answer_42 : decode cX10_answer 42 = .ok (.iadd, 1) := by decide +kernel
theorem dX10_answer_43 : decode cX10_answer 43 = .ok (.iaload, 1) := by decide +kernel
theorem dX10_answer_44 : decode cX10_answer 44 = .ok (.aload_n 0, 1) := by decide +kernel
theorem dX10_answer_45 : decode cX10_answer 45 = .ok (.getfield 75, 3) := by decide +kernel
theorem dX10_answer_48 : decode cX10_answer 48 = .ok (.iload_n 2, 1) := by decide +kernel
theorem dX10_answer_49 : decode cX10_answer 49 = .ok (.iaload, 1) := by decide +kernel
theorem dX10_answer_50 : decode cX10_answer 50 = .ok (.if_icmp .ne 5, 3) := by decide +kernel
theorem dX10_answer_53 : decode cX10_answer 53 = .ok (.iload_n 3, 1) := by decide +kernel
theorem dX10_answer_54 : decode cX10_answer 54 = .ok (.ireturn, 1) := by decide +kernel
theorem dX10_answer_55 : decode cX10_answer 55 = .ok (.iinc 3 1, 3) := by decide +kernel
theorem dX10_answer_58 : decode cX10_answer 58 = .ok (.goto (-35), 3) := by decide +kernel
theorem dX10_answer_61 : decode cX10_answer 61 = .ok (.iconst (-1), 1) := by decide +kernel
theorem dX10_answer_62 : decode cX10_answer 62 = .ok (.ireturn, 1) := by decide +kernel
theorem dX10_answer_63 : decode cX10_answer 63 = .ok (.iconst 0, 1) := by decide +kernel
theorem dX10_answer_64 : decode cX10_answer 64 = .ok (.istore_n 3, 1) := by decide +kernel
theorem dX10_answer_65 : decode cX10_answer 65 = .ok (.iconst 0, 1) := by decide +kernel
theorem dX10_answer_66 : decode cX10_answer 66 = .ok (.istore 4, 2) := by decide +kernel
theorem dX10_answer_68 : decode cX10_answer 68 = .ok (.iload_n 2, 1) := by decide +kernel
theorem dX10_answer_69 : decode cX10_answer 69 = .ok (.istore 5, 2) := by decide +kernel
theorem dX10_answer_71 : decode cX10_answer 71 = .ok (.iload 5, 2) := by decide +kernel
theorem dX10_answer_73 : decode cX10_answer 73 = .ok (.aload_n 0, 1) := by decide +kernel
theorem dX10_answer_74 : decode cX10_answer 74 = .ok (.getfield 133, 3) := by decide +kernel
theorem dX10_answer_77 : decode cX10_answer 77 = .ok (.if_icmp .ge 116, 3) := by decide +kernel
theorem dX10_answer_80 : decode cX10_answer 80 = .ok (.iload 4, 2) := by decide +kernel
theorem dX10_answer_82 : decode cX10_answer 82 = .ok (.aload_n 0, 1) := by decide +kernel
theorem dX10_answer_83 : decode cX10_answer 83 = .ok (.getfield 13, 3) := by decide +kernel
theorem dX10_answer_86 : decode cX10_answer 86 = .ok (.iload_n 1, 1) := by decide +kernel
theorem dX10_answer_87 : decode cX10_answer 87 = .ok (.iaload, 1) := by decide +kernel
theorem dX10_answer_88 : decode cX10_answer 88 = .ok (.if_icmp .ge 105, 3) := by decide +kernel
theorem dX10_answer_91 : decode cX10_answer 91 = .ok (.aload_n 0, 1) := by decide +kernel
theorem dX10_answer_92 : decode cX10_answer 92 = .ok (.getfield 75, 3) := by decide +kernel
theorem dX10_answer_95 : decode cX10_answer 95 = .ok (.iload 5, 2) := by decide +kernel
theorem dX10_answer_97 : decode cX10_answer 97 = .ok (.iaload, 1) := by decide +kernel
theorem dX10_answer_98 : decode cX10_answer 98 = .ok (.bipush 10, 2) := by decide +kernel
theorem dX10_answer_100 : decode cX10_answer 100 = .ok (.if_icmp .ne 7, 3) := by decide +kernel
theorem dX10_answer_103 : decode cX10_answer 103 = .ok (.iconst 1, 1) := by decide +kernel
theorem dX10_answer_104 : decode cX10_answer 104 = .ok (.goto 4, 3) := by decide +kernel
theorem dX10_answer_107 : decode cX10_answer 107 = .ok (.iconst 0, 1) := by decide +kernel
theorem dX10_answer_108 : decode cX10_answer 108 = .ok (.istore 6, 2) := by decide +kernel
theorem dX10_answer_110 : decode cX10_answer 110 = .ok (.iload 6, 2) := by decide +kernel
theorem dX10_answer_112 : decode cX10_answer 112 = .ok (.ifCond .eq 6, 3) := by decide +kernel
theorem dX10_answer_115 : decode cX10_answer 115 = .ok (.iinc 5 1, 3) := by decide +kernel
theorem dX10_answer_118 : decode cX10_answer 118 = .ok (.iload 5, 2) := by decide +kernel
theorem dX10_answer_120 : decode cX10_answer 120 = .ok (.aload_n 0, 1) := by decide +kernel
theorem dX10_answer_121 : decode cX10_answer 121 = .ok (.getfield 133, 3) := by decide +kernel
theorem dX10_answer_124 : decode cX10_answer 124 = .ok (.if_icmp .eq 15, 3) := by decide +kernel
theorem dX10_answer_127 : decode cX10_answer 127 = .ok (.aload_n 0, 1) := by decide +kernel
theorem dX10_answer_128 : decode cX10_answer 128 = .ok (.getfield 75, 3) := by decide +kernel
theorem dX10_answer_131 : decode cX10_answer 131 = .ok (.iload 5, 2) := by decide +kernel
theorem dX10_answer_133 : decode cX10_answer 133 = .ok (.iaload, 1) := by decide +kernel
theorem dX10_answer_134 : decode cX10_answer 134 = .ok (.bipush 9, 2) := by decide +kernel
theorem dX10_answer_136 : decode cX10_answer 136 = .ok (.if_icmp .le 5, 3) := by decide +kernel
theorem dX10_answer_139 : decode cX10_answer 139 = .ok (.iconst (-1), 1) := by decide +kernel
theorem dX10_answer_140 : decode cX10_answer 140 = .ok (.ireturn, 1) := by decide +kernel
theorem dX10_answer_141 : decode cX10_answer 141 = .ok (.bipush 10, 2) := by decide +kernel
theorem dX10_answer_143 : decode cX10_answer 143 = .ok (.iload_n 3, 1) := by decide +kernel
theorem dX10_answer_144 : decode cX10_answer 144 = .ok (.imul, 1) := by decide +kernel
theorem dX10_answer_145 : decode cX10_answer 145 = .ok (.aload_n 0, 1) := by decide +kernel
theorem dX10_answer_146 : decode cX10_answer 146 = .ok (.getfield 75, 3) := by decide +kernel
theorem dX10_answer_149 : decode cX10_answer 149 = .ok (.iload 5, 2) := by decide +kernel
theorem dX10_answer_151 : decode cX10_answer 151 = .ok (.iaload, 1) := by decide +kernel
theorem dX10_answer_152 : decode cX10_answer 152 = .ok (.iadd, 1) := by decide +kernel
theorem dX10_answer_153 : decode cX10_answer 153 = .ok (.istore_n 3, 1) := by decide +kernel
theorem dX10_answer_154 : decode cX10_answer 154 = .ok (.iload 6, 2) := by decide +kernel
theorem dX10_answer_156 : decode cX10_answer 156 = .ok (.ifCond .eq 16, 3) := by decide +kernel
theorem dX10_answer_159 : decode cX10_answer 159 = .ok (.bipush 10, 2) := by decide +kernel
theorem dX10_answer_161 : decode cX10_answer 161 = .ok (.iload_n 3, 1) := by decide +kernel
theorem dX10_answer_162 : decode cX10_answer 162 = .ok (.imul, 1) := by decide +kernel
theorem dX10_answer_163 : decode cX10_answer 163 = .ok (.aload_n 0, 1) := by decide +kernel
theorem dX10_answer_164 : decode cX10_answer 164 = .ok (.getfield 75, 3) := by decide +kernel
theorem dX10_answer_167 : decode cX10_answer 167 = .ok (.iload 5, 2) := by decide +kernel
theorem dX10_answer_169 : decode cX10_answer 169 = .ok (.iaload, 1) := by decide +kernel
theorem dX10_answer_170 : decode cX10_answer 170 = .ok (.iadd, 1) := by decide +kernel
theorem dX10_answer_171 : decode cX10_answer 171 = .ok (.istore_n 3, 1) := by decide +kernel
theorem dX10_answer_172 : decode cX10_answer 172 = .ok (.iload 4, 2) := by decide +kernel
theorem dX10_answer_174 : decode cX10_answer 174 = .ok (.iload 6, 2) := by decide +kernel
theorem dX10_answer_176 : decode cX10_answer 176 = .ok (.ifCond .eq 7, 3) := by decide +kernel
theorem dX10_answer_179 : decode cX10_answer 179 = .ok (.iconst 2, 1) := by decide +kernel
theorem dX10_answer_180 : decode cX10_answer 180 = .ok (.goto 4, 3) := by decide +kernel
theorem dX10_answer_183 : decode cX10_answer 183 = .ok (.iconst 1, 1) := by decide +kernel
theorem dX10_answer_184 : decode cX10_answer 184 = .ok (.iadd, 1) := by decide +kernel
theorem dX10_answer_185 : decode cX10_answer 185 = .ok (.istore 4, 2) := by decide +kernel
theorem dX10_answer_187 : decode cX10_answer 187 = .ok (.iinc 5 1, 3) := by decide +kernel
theorem dX10_answer_190 : decode cX10_answer 190 = .ok (.goto (-119), 3) := by decide +kernel
theorem dX10_answer_193 : decode cX10_answer 193 = .ok (.iload 5, 2) := by decide +kernel
theorem dX10_answer_195 : decode cX10_answer 195 = .ok (.aload_n 0, 1) := by decide +kernel
theorem dX10_answer_196 : decode cX10_answer 196 = .ok (.getfield 133, 3) := by decide +kernel
theorem dX10_answer_199 : decode cX10_answer 199 = .ok (.if_icmp .lt 33, 3) := by decide +kernel
theorem dX10_answer_202 : decode cX10_answer 202 = .ok (.iload 4, 2) := by decide +kernel
theorem dX10_answer_204 : decode cX10_answer 204 = .ok (.aload_n 0, 1) := by decide +kernel
theorem dX10_answer_205 : decode cX10_answer 205 = .ok (.getfield 13, 3) := by decide +kernel
theorem dX10_answer_208 : decode cX10_answer 208 = .ok (.iload_n 1, 1) := by decide +kernel
theorem dX10_answer_209 : decode cX10_answer 209 = .ok (.iaload, 1) := by decide +kernel
theorem dX10_answer_210 : decode cX10_answer 210 = .ok (.if_icmp .ne 22, 3) := by decide +kernel
theorem dX10_answer_213 : decode cX10_answer 213 = .ok (.aload_n 0, 1) := by decide +kernel
theorem dX10_answer_214 : decode cX10_answer 214 = .ok (.getfield 19, 3) := by decide +kernel
theorem dX10_answer_217 : decode cX10_answer 217 = .ok (.iload_n 1, 1) := by decide +kernel
theorem dX10_answer_218 : decode cX10_answer 218 = .ok (.baload, 1) := by decide +kernel
theorem dX10_answer_219 : decode cX10_answer 219 = .ok (.ifCond .eq 17, 3) := by decide +kernel
theorem dX10_answer_222 : decode cX10_answer 222 = .ok (.aload_n 0, 1) := by decide +kernel
theorem dX10_answer_223 : decode cX10_answer 223 = .ok (.iload_n 3, 1) := by decide +kernel
theorem dX10_answer_224 : decode cX10_answer 224 = .ok (.iload 4, 2) := by decide +kernel
theorem dX10_answer_226 : decode cX10_answer 226 = .ok (.invokevirtual 136, 3) := by decide +kernel
theorem dX10_answer_229 : decode cX10_answer 229 = .ok (.ifCond .ne 7, 3) := by decide +kernel
theorem dX10_answer_232 : decode cX10_answer 232 = .ok (.iconst (-1), 1) := by decide +kernel
theorem dX10_answer_233 : decode cX10_answer 233 = .ok (.goto 4, 3) := by decide +kernel
theorem dX10_answer_236 : decode cX10_answer 236 = .ok (.iload_n 3, 1) := by decide +kernel
theorem dX10_answer_237 : decode cX10_answer 237 = .ok (.ireturn, 1) := by decide +kernel
theorem dX10_fieldNamed_0 : decode cX10_fieldNamed 0 = .ok (.iconst 0, 1) := by decide +kernel
theorem dX10_fieldNamed_1 : decode cX10_fieldNamed 1 = .ok (.istore_n 2, 1) := by decide +kernel
theorem dX10_fieldNamed_2 : decode cX10_fieldNamed 2 = .ok (.iload_n 2, 1) := by decide +kernel
theorem dX10_fieldNamed_3 : decode cX10_fieldNamed 3 = .ok (.aload_n 0, 1) := by decide +kernel
theorem dX10_fieldNamed_4 : decode cX10_fieldNamed 4 = .ok (.getfield 99, 3) := by decide +kernel
theorem dX10_fieldNamed_7 : decode cX10_fieldNamed 7 = .ok (.if_icmp .ge 21, 3) := by decide +kernel
theorem dX10_fieldNamed_10 : decode cX10_fieldNamed 10 = .ok (.aload_n 0, 1) := by decide +kernel
theorem dX10_fieldNamed_11 : decode cX10_fieldNamed 11 = .ok (.getfield 7, 3) := by decide +kernel
theorem dX10_fieldNamed_14 : decode cX10_fieldNamed 14 = .ok (.iload_n 2, 1) := by decide +kernel
theorem dX10_fieldNamed_15 : decode cX10_fieldNamed 15 = .ok (.iaload, 1) := by decide +kernel
theorem dX10_fieldNamed_16 : decode cX10_fieldNamed 16 = .ok (.iload_n 1, 1) := by decide +kernel
theorem dX10_fieldNamed_17 : decode cX10_fieldNamed 17 = .ok (.if_icmp .ne 5, 3) := by decide +kernel
theorem dX10_fieldNamed_20 : decode cX10_fieldNamed 20 = .ok (.iload_n 2, 1) := by decide +kernel
theorem dX10_fieldNamed_21 : decode cX10_fieldNamed 21 = .ok (.ireturn, 1) := by decide +kernel
theorem dX10_fieldNamed_22 : decode cX10_fieldNamed 22 = .ok (.iinc 2 1, 3) := by decide +kernel
theorem dX10_fieldNamed_25 : decode cX10_fieldNamed 25 = .ok (.goto (-23), 3) := by decide +kernel
theorem dX10_fieldNamed_28 : decode cX10_fieldNamed 28 = .ok (.iconst (-1), 1) := by decide +kernel
theorem dX10_fieldNamed_29 : decode cX10_fieldNamed 29 = .ok (.ireturn, 1) := by decide +kernel
theorem dX10_read_0 : decode cX10_read 0 = .ok (.aload_n 0, 1) := by decide +kernel
theorem dX10_read_1 : decode cX10_read 1 = .ok (.getfield 133, 3) := by decide +kernel
theorem dX10_read_4 : decode cX10_read 4 = .ok (.ifCond .ne 4, 3) := by decide +kernel
theorem dX10_read_7 : decode cX10_read 7 = .ok (.return_, 1) := by decide +kernel
theorem dX10_read_8 : decode cX10_read 8 = .ok (.aload_n 0, 1) := by decide +kernel
theorem dX10_read_9 : decode cX10_read 9 = .ok (.getfield 81, 3) := by decide +kernel
theorem dX10_read_12 : decode cX10_read 12 = .ok (.ifCond .ge 7, 3) := by decide +kernel
theorem dX10_read_15 : decode cX10_read 15 = .ok (.iconst (-1), 1) := by decide +kernel
theorem dX10_read_16 : decode cX10_read 16 = .ok (.goto 12, 3) := by decide +kernel
theorem dX10_read_19 : decode cX10_read 19 = .ok (.aload_n 0, 1) := by decide +kernel
theorem dX10_read_20 : decode cX10_read 20 = .ok (.aload_n 0, 1) := by decide +kernel
theorem dX10_read_21 : decode cX10_read 21 = .ok (.getfield 81, 3) := by decide +kernel
theorem dX10_read_24 : decode cX10_read 24 = .ok (.iconst 0, 1) := by decide +kernel
theorem dX10_read_25 : decode cX10_read 25 = .ok (.invokevirtual 140, 3) := by decide +kernel
theorem dX10_read_28 : decode cX10_read 28 = .ok (.istore_n 2, 1) := by decide +kernel
theorem dX10_read_29 : decode cX10_read 29 = .ok (.iload_n 2, 1) := by decide +kernel
theorem dX10_read_30 : decode cX10_read 30 = .ok (.ifCond .lt 10, 3) := by decide +kernel
theorem dX10_read_33 : decode cX10_read 33 = .ok (.aload_n 0, 1) := by decide +kernel
theorem dX10_read_34 : decode cX10_read 34 = .ok (.iload_n 1, 1) := by decide +kernel
theorem dX10_read_35 : decode cX10_read 35 = .ok (.iconst 0, 1) := by decide +kernel
theorem dX10_read_36 : decode cX10_read 36 = .ok (.iload_n 2, 1) := by decide +kernel
theorem dX10_read_37 : decode cX10_read 37 = .ok (.invokevirtual 144, 3) := by decide +kernel
theorem dX10_read_40 : decode cX10_read 40 = .ok (.aload_n 0, 1) := by decide +kernel
theorem dX10_read_41 : decode cX10_read 41 = .ok (.getfield 133, 3) := by decide +kernel
theorem dX10_read_44 : decode cX10_read 44 = .ok (.iconst 1, 1) := by decide +kernel
theorem dX10_read_45 : decode cX10_read 45 = .ok (.if_icmp .ne 39, 3) := by decide +kernel
theorem dX10_read_48 : decode cX10_read 48 = .ok (.aload_n 0, 1) := by decide +kernel
theorem dX10_read_49 : decode cX10_read 49 = .ok (.getfield 75, 3) := by decide +kernel
theorem dX10_read_52 : decode cX10_read 52 = .ok (.iconst 0, 1) := by decide +kernel
theorem dX10_read_53 : decode cX10_read 53 = .ok (.iaload, 1) := by decide +kernel
theorem dX10_read_54 : decode cX10_read 54 = .ok (.bipush 11, 2) := by decide +kernel
theorem dX10_read_56 : decode cX10_read 56 = .ok (.bipush 16, 2) := by decide +kernel
theorem dX10_read_58 : decode cX10_read 58 = .ok (.invokestatic 102, 3) := by decide +kernel
theorem dX10_read_61 : decode cX10_read 61 = .ok (.ifCond .eq 23, 3) := by decide +kernel
theorem dX10_read_64 : decode cX10_read 64 = .ok (.aload_n 0, 1) := by decide +kernel
theorem dX10_read_65 : decode cX10_read 65 = .ok (.iload_n 1, 1) := by decide +kernel
theorem dX10_read_66 : decode cX10_read 66 = .ok (.aload_n 0, 1) := by decide +kernel
theorem dX10_read_67 : decode cX10_read 67 = .ok (.getfield 48, 3) := by decide +kernel
theorem dX10_read_70 : decode cX10_read 70 = .ok (.iadd, 1) := by decide +kernel
theorem dX10_read_71 : decode cX10_read 71 = .ok (.aload_n 0, 1) := by decide +kernel
theorem dX10_read_72 : decode cX10_read 72 = .ok (.getfield 75, 3) := by decide +kernel
theorem dX10_read_75 : decode cX10_read 75 = .ok (.iconst 0, 1) := by decide +kernel
theorem dX10_read_76 : decode cX10_read 76 = .ok (.iaload, 1) := by decide +kernel
theorem dX10_read_77 : decode cX10_read 77 = .ok (.bipush 10, 2) := by decide +kernel
theorem dX10_read_79 : decode cX10_read 79 = .ok (.isub, 1) := by decide +kernel
theorem dX10_read_80 : decode cX10_read 80 = .ok (.iconst 0, 1) := by decide +kernel
theorem dX10_read_81 : decode cX10_read 81 = .ok (.invokevirtual 144, 3) := by decide +kernel
theorem dX10_read_84 : decode cX10_read 84 = .ok (.aload_n 0, 1) := by decide +kernel
theorem dX10_read_85 : decode cX10_read 85 = .ok (.getfield 133, 3) := by decide +kernel
theorem dX10_read_88 : decode cX10_read 88 = .ok (.iconst 2, 1) := by decide +kernel
theorem dX10_read_89 : decode cX10_read 89 = .ok (.if_icmp .ne 27, 3) := by decide +kernel
theorem dX10_read_92 : decode cX10_read 92 = .ok (.aload_n 0, 1) := by decide +kernel
theorem dX10_read_93 : decode cX10_read 93 = .ok (.getfield 75, 3) := by decide +kernel
theorem dX10_read_96 : decode cX10_read 96 = .ok (.iconst 0, 1) := by decide +kernel
theorem dX10_read_97 : decode cX10_read 97 = .ok (.iaload, 1) := by decide +kernel
theorem dX10_read_98 : decode cX10_read 98 = .ok (.bipush 17, 2) := by decide +kernel
theorem dX10_read_100 : decode cX10_read 100 = .ok (.if_icmp .ne 16, 3) := by decide +kernel
theorem dX10_read_103 : decode cX10_read 103 = .ok (.aload_n 0, 1) := by decide +kernel
theorem dX10_read_104 : decode cX10_read 104 = .ok (.aload_n 0, 1) := by decide +kernel
theorem dX10_read_105 : decode cX10_read 105 = .ok (.getfield 75, 3) := by decide +kernel
theorem dX10_read_108 : decode cX10_read 108 = .ok (.iconst 1, 1) := by decide +kernel
theorem dX10_read_109 : decode cX10_read 109 = .ok (.iaload, 1) := by decide +kernel
theorem dX10_read_110 : decode cX10_read 110 = .ok (.invokevirtual 148, 3) := by decide +kernel
theorem dX10_read_113 : decode cX10_read 113 = .ok (.goto 4, 3) := by decide +kernel
theorem dX10_read_116 : decode cX10_read 116 = .ok (.iconst (-1), 1) := by decide +kernel
theorem dX10_read_117 : decode cX10_read 117 = .ok (.istore_n 3, 1) := by decide +kernel
theorem dX10_read_118 : decode cX10_read 118 = .ok (.iload_n 3, 1) := by decide +kernel
theorem dX10_read_119 : decode cX10_read 119 = .ok (.ifCond .lt 16, 3) := by decide +kernel
theorem dX10_read_122 : decode cX10_read 122 = .ok (.aload_n 0, 1) := by decide +kernel
theorem dX10_read_123 : decode cX10_read 123 = .ok (.iload_n 1, 1) := by decide +kernel
theorem dX10_read_124 : decode cX10_read 124 = .ok (.aload_n 0, 1) := by decide +kernel
theorem dX10_read_125 : decode cX10_read 125 = .ok (.getfield 48, 3) := by decide +kernel
theorem dX10_read_128 : decode cX10_read 128 = .ok (.iadd, 1) := by decide +kernel
theorem dX10_read_129 : decode cX10_read 129 = .ok (.bipush 7, 2) := by decide +kernel
theorem dX10_read_131 : decode cX10_read 131 = .ok (.iload_n 3, 1) := by decide +kernel
theorem dX10_read_132 : decode cX10_read 132 = .ok (.invokevirtual 144, 3) := by decide +kernel
theorem dX10_read_135 : decode cX10_read 135 = .ok (.aload_n 0, 1) := by decide +kernel
theorem dX10_read_136 : decode cX10_read 136 = .ok (.getfield 133, 3) := by decide +kernel
theorem dX10_read_139 : decode cX10_read 139 = .ok (.iconst 1, 1) := by decide +kernel
theorem dX10_read_140 : decode cX10_read 140 = .ok (.if_icmp .le 33, 3) := by decide +kernel
theorem dX10_read_143 : decode cX10_read 143 = .ok (.aload_n 0, 1) := by decide +kernel
theorem dX10_read_144 : decode cX10_read 144 = .ok (.getfield 75, 3) := by decide +kernel
theorem dX10_read_147 : decode cX10_read 147 = .ok (.iconst 0, 1) := by decide +kernel
theorem dX10_read_148 : decode cX10_read 148 = .ok (.iaload, 1) := by decide +kernel
theorem dX10_read_149 : decode cX10_read 149 = .ok (.bipush 16, 2) := by decide +kernel
theorem dX10_read_151 : decode cX10_read 151 = .ok (.if_icmp .ne 22, 3) := by decide +kernel
theorem dX10_read_154 : decode cX10_read 154 = .ok (.aload_n 0, 1) := by decide +kernel
theorem dX10_read_155 : decode cX10_read 155 = .ok (.getfield 84, 3) := by decide +kernel
theorem dX10_read_158 : decode cX10_read 158 = .ok (.ifCond .lt 15, 3) := by decide +kernel
theorem dX10_read_161 : decode cX10_read 161 = .ok (.aload_n 0, 1) := by decide +kernel
theorem dX10_read_162 : decode cX10_read 162 = .ok (.aload_n 0, 1) := by decide +kernel
theorem dX10_read_163 : decode cX10_read 163 = .ok (.getfield 84, 3) := by decide +kernel
theorem dX10_read_166 : decode cX10_read 166 = .ok (.iconst 1, 1) := by decide +kernel
theorem dX10_read_167 : decode cX10_read 167 = .ok (.invokevirtual 140, 3) := by decide +kernel
theorem dX10_read_170 : decode cX10_read 170 = .ok (.goto 4, 3) := by decide +kernel
theorem dX10_read_173 : decode cX10_read 173 = .ok (.iconst (-1), 1) := by decide +kernel
theorem dX10_read_174 : decode cX10_read 174 = .ok (.istore 4, 2) := by decide +kernel
theorem dX10_read_176 : decode cX10_read 176 = .ok (.iload 4, 2) := by decide +kernel
theorem dX10_read_178 : decode cX10_read 178 = .ok (.ifCond .lt 17, 3) := by decide +kernel
theorem dX10_read_181 : decode cX10_read 181 = .ok (.aload_n 0, 1) := by decide +kernel
theorem dX10_read_182 : decode cX10_read 182 = .ok (.iload_n 1, 1) := by decide +kernel
theorem dX10_read_183 : decode cX10_read 183 = .ok (.aload_n 0, 1) := by decide +kernel
theorem dX10_read_184 : decode cX10_read 184 = .ok (.getfield 48, 3) := by decide +kernel
theorem dX10_read_187 : decode cX10_read 187 = .ok (.iadd, 1) := by decide +kernel
theorem dX10_read_188 : decode cX10_read 188 = .ok (.bipush 8, 2) := by decide +kernel
theorem dX10_read_190 : decode cX10_read 190 = .ok (.iload 4, 2) := by decide +kernel
theorem dX10_read_192 : decode cX10_read 192 = .ok (.invokevirtual 144, 3) := by decide +kernel
theorem dX10_read_195 : decode cX10_read 195 = .ok (.return_, 1) := by decide +kernel
theorem dX10_readAll_0 : decode cX10_readAll 0 = .ok (.aload_n 0, 1) := by decide +kernel
theorem dX10_readAll_1 : decode cX10_readAll 1 = .ok (.iconst 0, 1) := by decide +kernel
theorem dX10_readAll_2 : decode cX10_readAll 2 = .ok (.ldc 124, 2) := by decide +kernel
theorem dX10_readAll_4 : decode cX10_readAll 4 = .ok (.iconst 0, 1) := by decide +kernel
theorem dX10_readAll_5 : decode cX10_readAll 5 = .ok (.iconst 0, 1) := by decide +kernel
theorem dX10_readAll_6 : decode cX10_readAll 6 = .ok (.invokevirtual 129, 3) := by decide +kernel
theorem dX10_readAll_9 : decode cX10_readAll 9 = .ok (.aload_n 0, 1) := by decide +kernel
theorem dX10_readAll_10 : decode cX10_readAll 10 = .ok (.iconst 1, 1) := by decide +kernel
theorem dX10_readAll_11 : decode cX10_readAll 11 = .ok (.ldc 124, 2) := by decide +kernel
theorem dX10_readAll_13 : decode cX10_readAll 13 = .ok (.iconst 0, 1) := by decide +kernel
theorem dX10_readAll_14 : decode cX10_readAll 14 = .ok (.iconst 0, 1) := by decide +kernel
theorem dX10_readAll_15 : decode cX10_readAll 15 = .ok (.invokevirtual 129, 3) := by decide +kernel
theorem dX10_readAll_18 : decode cX10_readAll 18 = .ok (.iconst 0, 1) := by decide +kernel
theorem dX10_readAll_19 : decode cX10_readAll 19 = .ok (.istore_n 1, 1) := by decide +kernel
theorem dX10_readAll_20 : decode cX10_readAll 20 = .ok (.iload_n 1, 1) := by decide +kernel
theorem dX10_readAll_21 : decode cX10_readAll 21 = .ok (.aload_n 0, 1) := by decide +kernel
theorem dX10_readAll_22 : decode cX10_readAll 22 = .ok (.getfield 121, 3) := by decide +kernel
theorem dX10_readAll_25 : decode cX10_readAll 25 = .ok (.if_icmp .ge 16, 3) := by decide +kernel
theorem dX10_readAll_28 : decode cX10_readAll 28 = .ok (.aload_n 0, 1) := by decide +kernel
theorem dX10_readAll_29 : decode cX10_readAll 29 = .ok (.getfield 78, 3) := by decide +kernel
theorem dX10_readAll_32 : decode cX10_readAll 32 = .ok (.iload_n 1, 1) := by decide +kernel
theorem dX10_readAll_33 : decode cX10_readAll 33 = .ok (.iconst 0, 1) := by decide +kernel
theorem dX10_readAll_34 : decode cX10_readAll 34 = .ok (.iastore, 1) := by decide +kernel
theorem dX10_readAll_35 : decode cX10_readAll 35 = .ok (.iinc 1 1, 3) := by decide +kernel
theorem dX10_readAll_38 : decode cX10_readAll 38 = .ok (.goto (-18), 3) := by decide +kernel
theorem dX10_readAll_41 : decode cX10_readAll 41 = .ok (.iconst 1, 1) := by decide +kernel
theorem dX10_readAll_42 : decode cX10_readAll 42 = .ok (.istore_n 1, 1) := by decide +kernel
theorem dX10_readAll_43 : decode cX10_readAll 43 = .ok (.iload_n 1, 1) := by decide +kernel
theorem dX10_readAll_44 : decode cX10_readAll 44 = .ok (.ifCond .eq 191, 3) := by decide +kernel
theorem dX10_readAll_47 : decode cX10_readAll 47 = .ok (.iconst 0, 1) := by decide +kernel
theorem dX10_readAll_48 : decode cX10_readAll 48 = .ok (.istore_n 2, 1) := by decide +kernel
theorem dX10_readAll_49 : decode cX10_readAll 49 = .ok (.aload_n 0, 1) := by decide +kernel
theorem dX10_readAll_50 : decode cX10_readAll 50 = .ok (.iconst 0, 1) := by decide +kernel
theorem dX10_readAll_51 : decode cX10_readAll 51 = .ok (.putfield 133, 3) := by decide +kernel
theorem dX10_readAll_54 : decode cX10_readAll 54 = .ok (.iconst 0, 1) := by decide +kernel
theorem dX10_readAll_55 : decode cX10_readAll 55 = .ok (.istore_n 3, 1) := by decide +kernel
theorem dX10_readAll_56 : decode cX10_readAll 56 = .ok (.iload_n 3, 1) := by decide +kernel
theorem dX10_readAll_57 : decode cX10_readAll 57 = .ok (.aload_n 0, 1) := by decide +kernel
theorem dX10_readAll_58 : decode cX10_readAll 58 = .ok (.getfield 121, 3) := by decide +kernel
theorem dX10_readAll_61 : decode cX10_readAll 61 = .ok (.if_icmp .ge 103, 3) := by decide +kernel
theorem dX10_readAll_64 : decode cX10_readAll 64 = .ok (.aload_n 0, 1) := by decide +kernel
theorem dX10_readAll_65 : decode cX10_readAll 65 = .ok (.getfield 78, 3) := by decide +kernel
theorem dX10_readAll_68 : decode cX10_readAll 68 = .ok (.iload_n 3, 1) := by decide +kernel
theorem dX10_readAll_69 : decode cX10_readAll 69 = .ok (.iaload, 1) := by decide +kernel
theorem dX10_readAll_70 : decode cX10_readAll 70 = .ok (.aload_n 0, 1) := by decide +kernel
theorem dX10_readAll_71 : decode cX10_readAll 71 = .ok (.getfield 57, 3) := by decide +kernel
theorem dX10_readAll_74 : decode cX10_readAll 74 = .ok (.iload_n 3, 1) := by decide +kernel
theorem dX10_readAll_75 : decode cX10_readAll 75 = .ok (.iaload, 1) := by decide +kernel
theorem dX10_readAll_76 : decode cX10_readAll 76 = .ok (.if_icmp .ne 7, 3) := by decide +kernel
theorem dX10_readAll_79 : decode cX10_readAll 79 = .ok (.iconst 1, 1) := by decide +kernel
theorem dX10_readAll_80 : decode cX10_readAll 80 = .ok (.goto 4, 3) := by decide +kernel
theorem dX10_readAll_83 : decode cX10_readAll 83 = .ok (.iconst 0, 1) := by decide +kernel
theorem dX10_readAll_84 : decode cX10_readAll 84 = .ok (.istore 4, 2) := by decide +kernel
theorem dX10_readAll_86 : decode cX10_readAll 86 = .ok (.iload_n 2, 1) := by decide +kernel
theorem dX10_readAll_87 : decode cX10_readAll 87 = .ok (.iload 4, 2) := by decide +kernel
theorem dX10_readAll_89 : decode cX10_readAll 89 = .ok (.ifCond .eq 10, 3) := by decide +kernel
theorem dX10_readAll_92 : decode cX10_readAll 92 = .ok (.aload_n 0, 1) := by decide +kernel
theorem dX10_readAll_93 : decode cX10_readAll 93 = .ok (.getfield 44, 3) := by decide +kernel
theorem dX10_readAll_96 : decode cX10_readAll 96 = .ok (.goto 18, 3) := by decide +kernel
theorem dX10_readAll_99 : decode cX10_readAll 99 = .ok (.aload_n 0, 1) := by decide +kernel
theorem dX10_readAll_100 : decode cX10_readAll 100 = .ok (.getfield 63, 3) := by decide +kernel
theorem dX10_readAll_103 : decode cX10_readAll 103 = .ok (.iconst 4, 1) := by decide +kernel
theorem dX10_readAll_104 : decode cX10_readAll 104 = .ok (.iload_n 3, 1) := by decide +kernel
theorem dX10_readAll_105 : decode cX10_readAll 105 = .ok (.imul, 1) := by decide +kernel
theorem dX10_readAll_106 : decode cX10_readAll 106 = .ok (.aload_n 0, 1) := by decide +kernel
theorem dX10_readAll_107 : decode cX10_readAll 107 = .ok (.getfield 78, 3) := by decide +kernel
theorem dX10_readAll_110 : decode cX10_readAll 110 = .ok (.iload_n 3, 1) := by decide +kernel
theorem dX10_readAll_111 : decode cX10_readAll 111 = .ok (.iaload, 1) := by decide +kernel
theorem dX10_readAll_112 : decode cX10_readAll 112 = .ok (.iadd, 1) := by decide +kernel
theorem dX10_readAll_113 : decode cX10_readAll 113 = .ok (.iaload, 1) := by decide +kernel
theorem dX10_readAll_114 : decode cX10_readAll 114 = .ok (.iadd, 1) := by decide +kernel
theorem dX10_readAll_115 : decode cX10_readAll 115 = .ok (.istore_n 2, 1) := by decide +kernel
theorem dX10_readAll_116 : decode cX10_readAll 116 = .ok (.iload 4, 2) := by decide +kernel
theorem dX10_readAll_118 : decode cX10_readAll 118 = .ok (.ifCond .eq 6, 3) := by decide +kernel
theorem dX10_readAll_121 : decode cX10_readAll 121 = .ok (.goto 37, 3) := by decide +kernel
theorem dX10_readAll_124 : decode cX10_readAll 124 = .ok (.aload_n 0, 1) := by decide +kernel
theorem dX10_readAll_125 : decode cX10_readAll 125 = .ok (.getfield 75, 3) := by decide +kernel
theorem dX10_readAll_128 : decode cX10_readAll 128 = .ok (.aload_n 0, 1) := by decide +kernel
theorem dX10_readAll_129 : decode cX10_readAll 129 = .ok (.getfield 133, 3) := by decide +kernel
theorem dX10_readAll_132 : decode cX10_readAll 132 = .ok (.aload_n 0, 1) := by decide +kernel
theorem dX10_readAll_133 : decode cX10_readAll 133 = .ok (.getfield 60, 3) := by decide +kernel
theorem dX10_readAll_136 : decode cX10_readAll 136 = .ok (.iconst 4, 1) := by decide +kernel
theorem dX10_readAll_137 : decode cX10_readAll 137 = .ok (.iload_n 3, 1) := by decide +kernel
theorem dX10_readAll_138 : decode cX10_readAll 138 = .ok (.imul, 1) := by decide +kernel
theorem dX10_readAll_139 : decode cX10_readAll 139 = .ok (.aload_n 0, 1) := by decide +kernel
theorem dX10_readAll_140 : decode cX10_readAll 140 = .ok (.getfield 78, 3) := by decide +kernel
theorem dX10_readAll_143 : decode cX10_readAll 143 = .ok (.iload_n 3, 1) := by decide +kernel
theorem dX10_readAll_144 : decode cX10_readAll 144 = .ok (.iaload, 1) := by decide +kernel
theorem dX10_readAll_145 : decode cX10_readAll 145 = .ok (.iadd, 1) := by decide +kernel
theorem dX10_readAll_146 : decode cX10_readAll 146 = .ok (.iaload, 1) := by decide +kernel
theorem dX10_readAll_147 : decode cX10_readAll 147 = .ok (.iastore, 1) := by decide +kernel
theorem dX10_readAll_148 : decode cX10_readAll 148 = .ok (.aload_n 0, 1) := by decide +kernel
theorem dX10_readAll_149 : decode cX10_readAll 149 = .ok (.dup, 1) := by decide +kernel
theorem dX10_readAll_150 : decode cX10_readAll 150 = .ok (.getfield 133, 3) := by decide +kernel
theorem dX10_readAll_153 : decode cX10_readAll 153 = .ok (.iconst 1, 1) := by decide +kernel
theorem dX10_readAll_154 : decode cX10_readAll 154 = .ok (.iadd, 1) := by decide +kernel
theorem dX10_readAll_155 : decode cX10_readAll 155 = .ok (.putfield 133, 3) := by decide +kernel
theorem dX10_readAll_158 : decode cX10_readAll 158 = .ok (.iinc 3 1, 3) := by decide +kernel
theorem dX10_readAll_161 : decode cX10_readAll 161 = .ok (.goto (-105), 3) := by decide +kernel
theorem dX10_readAll_164 : decode cX10_readAll 164 = .ok (.aload_n 0, 1) := by decide +kernel
theorem dX10_readAll_165 : decode cX10_readAll 165 = .ok (.iload_n 2, 1) := by decide +kernel
theorem dX10_readAll_166 : decode cX10_readAll 166 = .ok (.invokevirtual 152, 3) := by decide +kernel
theorem dX10_readAll_169 : decode cX10_readAll 169 = .ok (.aload_n 0, 1) := by decide +kernel
theorem dX10_readAll_170 : decode cX10_readAll 170 = .ok (.getfield 121, 3) := by decide +kernel
theorem dX10_readAll_173 : decode cX10_readAll 173 = .ok (.iconst 1, 1) := by decide +kernel
theorem dX10_readAll_174 : decode cX10_readAll 174 = .ok (.isub, 1) := by decide +kernel
theorem dX10_readAll_175 : decode cX10_readAll 175 = .ok (.istore_n 3, 1) := by decide +kernel
theorem dX10_readAll_176 : decode cX10_readAll 176 = .ok (.iload_n 3, 1) := by decide +kernel
theorem dX10_readAll_177 : decode cX10_readAll 177 = .ok (.ifCond .lt 31, 3) := by decide +kernel
theorem dX10_readAll_180 : decode cX10_readAll 180 = .ok (.aload_n 0, 1) := by decide +kernel
theorem dX10_readAll_181 : decode cX10_readAll 181 = .ok (.getfield 78, 3) := by decide +kernel
theorem dX10_readAll_184 : decode cX10_readAll 184 = .ok (.iload_n 3, 1) := by decide +kernel
theorem dX10_readAll_185 : decode cX10_readAll 185 = .ok (.iaload, 1) := by decide +kernel
theorem dX10_readAll_186 : decode cX10_readAll 186 = .ok (.aload_n 0, 1) := by decide +kernel
theorem dX10_readAll_187 : decode cX10_readAll 187 = .ok (.getfield 57, 3) := by decide +kernel
theorem dX10_readAll_190 : decode cX10_readAll 190 = .ok (.iload_n 3, 1) := by decide +kernel
theorem dX10_readAll_191 : decode cX10_readAll 191 = .ok (.iaload, 1) := by decide +kernel
theorem dX10_readAll_192 : decode cX10_readAll 192 = .ok (.if_icmp .ne 16, 3) := by decide +kernel
theorem dX10_readAll_195 : decode cX10_readAll 195 = .ok (.aload_n 0, 1) := by decide +kernel
theorem dX10_readAll_196 : decode cX10_readAll 196 = .ok (.getfield 78, 3) := by decide +kernel
theorem dX10_readAll_199 : decode cX10_readAll 199 = .ok (.iload_n 3, 1) := by decide +kernel
theorem dX10_readAll_200 : decode cX10_readAll 200 = .ok (.iconst 0, 1) := by decide +kernel
theorem dX10_readAll_201 : decode cX10_readAll 201 = .ok (.iastore, 1) := by decide +kernel
theorem dX10_readAll_202 : decode cX10_readAll 202 = .ok (.iinc 3 (-1), 3) := by decide +kernel
theorem dX10_readAll_205 : decode cX10_readAll 205 = .ok (.goto (-29), 3) := by decide +kernel
theorem dX10_readAll_208 : decode cX10_readAll 208 = .ok (.iload_n 3, 1) := by decide +kernel
theorem dX10_readAll_209 : decode cX10_readAll 209 = .ok (.ifCond .lt 7, 3) := by decide +kernel
theorem dX10_readAll_212 : decode cX10_readAll 212 = .ok (.iconst 1, 1) := by decide +kernel
theorem dX10_readAll_213 : decode cX10_readAll 213 = .ok (.goto 4, 3) := by decide +kernel
theorem dX10_readAll_216 : decode cX10_readAll 216 = .ok (.iconst 0, 1) := by decide +kernel
theorem dX10_readAll_217 : decode cX10_readAll 217 = .ok (.istore_n 1, 1) := by decide +kernel
theorem dX10_readAll_218 : decode cX10_readAll 218 = .ok (.iload_n 1, 1) := by decide +kernel
theorem dX10_readAll_219 : decode cX10_readAll 219 = .ok (.ifCond .eq 13, 3) := by decide +kernel
theorem dX10_readAll_222 : decode cX10_readAll 222 = .ok (.aload_n 0, 1) := by decide +kernel
theorem dX10_readAll_223 : decode cX10_readAll 223 = .ok (.getfield 78, 3) := by decide +kernel
theorem dX10_readAll_226 : decode cX10_readAll 226 = .ok (.iload_n 3, 1) := by decide +kernel
theorem dX10_readAll_227 : decode cX10_readAll 227 = .ok (.dup2, 1) := by decide +kernel
theorem dX10_readAll_228 : decode cX10_readAll 228 = .ok (.iaload, 1) := by decide +kernel
theorem dX10_readAll_229 : decode cX10_readAll 229 = .ok (.iconst 1, 1) := by decide +kernel
theorem dX10_readAll_230 : decode cX10_readAll 230 = .ok (.iadd, 1) := by decide +kernel
theorem dX10_readAll_231 : decode cX10_readAll 231 = .ok (.iastore, 1) := by decide +kernel
theorem dX10_readAll_232 : decode cX10_readAll 232 = .ok (.goto (-189), 3) := by decide +kernel
theorem dX10_readAll_235 : decode cX10_readAll 235 = .ok (.return_, 1) := by decide +kernel
theorem dX10_comesNow_0 : decode cX10_comesNow 0 = .ok (.iload_n 1, 1) := by decide +kernel
theorem dX10_comesNow_1 : decode cX10_comesNow 1 = .ok (.aload_n 0, 1) := by decide +kernel
theorem dX10_comesNow_2 : decode cX10_comesNow 2 = .ok (.getfield 81, 3) := by decide +kernel
theorem dX10_comesNow_5 : decode cX10_comesNow 5 = .ok (.if_icmp .ne 4, 3) := by decide +kernel
theorem dX10_comesNow_8 : decode cX10_comesNow 8 = .ok (.return_, 1) := by decide +kernel
theorem dX10_comesNow_9 : decode cX10_comesNow 9 = .ok (.aload_n 0, 1) := by decide +kernel
theorem dX10_comesNow_10 : decode cX10_comesNow 10 = .ok (.getfield 81, 3) := by decide +kernel
theorem dX10_comesNow_13 : decode cX10_comesNow 13 = .ok (.ifCond .lt 73, 3) := by decide +kernel
theorem dX10_comesNow_16 : decode cX10_comesNow 16 = .ok (.aload_n 0, 1) := by decide +kernel
theorem dX10_comesNow_17 : decode cX10_comesNow 17 = .ok (.getfield 156, 3) := by decide +kernel
theorem dX10_comesNow_20 : decode cX10_comesNow 20 = .ok (.bipush 20, 2) := by decide +kernel
theorem dX10_comesNow_22 : decode cX10_comesNow 22 = .ok (.if_icmp .ne 41, 3) := by decide +kernel
theorem dX10_comesNow_25 : decode cX10_comesNow 25 = .ok (.iconst 1, 1) := by decide +kernel
theorem dX10_comesNow_26 : decode cX10_comesNow 26 = .ok (.istore_n 2, 1) := by decide +kernel
theorem dX10_comesNow_27 : decode cX10_comesNow 27 = .ok (.iload_n 2, 1) := by decide +kernel
theorem dX10_comesNow_28 : decode cX10_comesNow 28 = .ok (.bipush 20, 2) := by decide +kernel
theorem dX10_comesNow_30 : decode cX10_comesNow 30 = .ok (.if_icmp .ge 23, 3) := by decide +kernel
theorem dX10_comesNow_33 : decode cX10_comesNow 33 = .ok (.aload_n 0, 1) := by decide +kernel
theorem dX10_comesNow_34 : decode cX10_comesNow 34 = .ok (.getfield 87, 3) := by decide +kernel
theorem dX10_comesNow_37 : decode cX10_comesNow 37 = .ok (.iload_n 2, 1) := by decide +kernel
theorem dX10_comesNow_38 : decode cX10_comesNow 38 = .ok (.iconst 1, 1) := by decide +kernel
theorem dX10_comesNow_39 : decode cX10_comesNow 39 = .ok (.isub, 1) := by decide +kernel
theorem dX10_comesNow_40 : decode cX10_comesNow 40 = .ok (.aload_n 0, 1) := by decide +kernel
theorem dX10_comesNow_41 : decode cX10_comesNow 41 = .ok (.getfield 87, 3) := by decide +kernel
theorem dX10_comesNow_44 : decode cX10_comesNow 44 = .ok (.iload_n 2, 1) := by decide +kernel
theorem dX10_comesNow_45 : decode cX10_comesNow 45 = .ok (.iaload, 1) := by decide +kernel
theorem dX10_comesNow_46 : decode cX10_comesNow 46 = .ok (.iastore, 1) := by decide +kernel
theorem dX10_comesNow_47 : decode cX10_comesNow 47 = .ok (.iinc 2 1, 3) := by decide +kernel
theorem dX10_comesNow_50 : decode cX10_comesNow 50 = .ok (.goto (-23), 3) := by decide +kernel
theorem dX10_comesNow_53 : decode cX10_comesNow 53 = .ok (.aload_n 0, 1) := by decide +kernel
theorem dX10_comesNow_54 : decode cX10_comesNow 54 = .ok (.dup, 1) := by decide +kernel
theorem dX10_comesNow_55 : decode cX10_comesNow 55 = .ok (.getfield 156, 3) := by decide +kernel
theorem dX10_comesNow_58 : decode cX10_comesNow 58 = .ok (.iconst 1, 1) := by decide +kernel
theorem dX10_comesNow_59 : decode cX10_comesNow 59 = .ok (.isub, 1) := by decide +kernel
theorem dX10_comesNow_60 : decode cX10_comesNow 60 = .ok (.putfield 156, 3) := by decide +kernel
theorem dX10_comesNow_63 : decode cX10_comesNow 63 = .ok (.aload_n 0, 1) := by decide +kernel
theorem dX10_comesNow_64 : decode cX10_comesNow 64 = .ok (.getfield 87, 3) := by decide +kernel
theorem dX10_comesNow_67 : decode cX10_comesNow 67 = .ok (.aload_n 0, 1) := by decide +kernel
theorem dX10_comesNow_68 : decode cX10_comesNow 68 = .ok (.getfield 156, 3) := by decide +kernel
theorem dX10_comesNow_71 : decode cX10_comesNow 71 = .ok (.aload_n 0, 1) := by decide +kernel
theorem dX10_comesNow_72 : decode cX10_comesNow 72 = .ok (.getfield 81, 3) := by decide +kernel
theorem dX10_comesNow_75 : decode cX10_comesNow 75 = .ok (.iastore, 1) := by decide +kernel
theorem dX10_comesNow_76 : decode cX10_comesNow 76 = .ok (.aload_n 0, 1) := by decide +kernel
theorem dX10_comesNow_77 : decode cX10_comesNow 77 = .ok (.dup, 1) := by decide +kernel
theorem dX10_comesNow_78 : decode cX10_comesNow 78 = .ok (.getfield 156, 3) := by decide +kernel
theorem dX10_comesNow_81 : decode cX10_comesNow 81 = .ok (.iconst 1, 1) := by decide +kernel
theorem dX10_comesNow_82 : decode cX10_comesNow 82 = .ok (.iadd, 1) := by decide +kernel
theorem dX10_comesNow_83 : decode cX10_comesNow 83 = .ok (.putfield 156, 3) := by decide +kernel
theorem dX10_comesNow_86 : decode cX10_comesNow 86 = .ok (.aload_n 0, 1) := by decide +kernel
theorem dX10_comesNow_87 : decode cX10_comesNow 87 = .ok (.iload_n 1, 1) := by decide +kernel
theorem dX10_comesNow_88 : decode cX10_comesNow 88 = .ok (.putfield 81, 3) := by decide +kernel
theorem dX10_comesNow_91 : decode cX10_comesNow 91 = .ok (.return_, 1) := by decide +kernel
theorem dX10_isOpen_0 : decode cX10_isOpen 0 = .ok (.aload_n 0, 1) := by decide +kernel
theorem dX10_isOpen_1 : decode cX10_isOpen 1 = .ok (.iload_n 1, 1) := by decide +kernel
theorem dX10_isOpen_2 : decode cX10_isOpen 2 = .ok (.invokevirtual 159, 3) := by decide +kernel
theorem dX10_isOpen_5 : decode cX10_isOpen 5 = .ok (.ifCond .eq 25, 3) := by decide +kernel
theorem dX10_isOpen_8 : decode cX10_isOpen 8 = .ok (.aload_n 0, 1) := by decide +kernel
theorem dX10_isOpen_9 : decode cX10_isOpen 9 = .ok (.getfield 35, 3) := by decide +kernel
theorem dX10_isOpen_12 : decode cX10_isOpen 12 = .ok (.iload_n 1, 1) := by decide +kernel
theorem dX10_isOpen_13 : decode cX10_isOpen 13 = .ok (.iaload, 1) := by decide +kernel
theorem dX10_isOpen_14 : decode cX10_isOpen 14 = .ok (.ifCond .ge 16, 3) := by decide +kernel
theorem dX10_isOpen_17 : decode cX10_isOpen 17 = .ok (.aload_n 0, 1) := by decide +kernel
theorem dX10_isOpen_18 : decode cX10_isOpen 18 = .ok (.getfield 41, 3) := by decide +kernel
theorem dX10_isOpen_21 : decode cX10_isOpen 21 = .ok (.iload_n 1, 1) := by decide +kernel
theorem dX10_isOpen_22 : decode cX10_isOpen 22 = .ok (.baload, 1) := by decide +kernel
theorem dX10_isOpen_23 : decode cX10_isOpen 23 = .ok (.ifCond .ne 7, 3) := by decide +kernel
theorem dX10_isOpen_26 : decode cX10_isOpen 26 = .ok (.iconst 1, 1) := by decide +kernel
theorem dX10_isOpen_27 : decode cX10_isOpen 27 = .ok (.goto 4, 3) := by decide +kernel
theorem dX10_isOpen_30 : decode cX10_isOpen 30 = .ok (.iconst 0, 1) := by decide +kernel
theorem dX10_isOpen_31 : decode cX10_isOpen 31 = .ok (.ireturn, 1) := by decide +kernel
theorem dX10_nextBehind_0 : decode cX10_nextBehind 0 = .ok (.iload_n 1, 1) := by decide +kernel
theorem dX10_nextBehind_1 : decode cX10_nextBehind 1 = .ok (.iconst 1, 1) := by decide +kernel
theorem dX10_nextBehind_2 : decode cX10_nextBehind 2 = .ok (.iadd, 1) := by decide +kernel
theorem dX10_nextBehind_3 : decode cX10_nextBehind 3 = .ok (.istore_n 2, 1) := by decide +kernel
theorem dX10_nextBehind_4 : decode cX10_nextBehind 4 = .ok (.iload_n 2, 1) := by decide +kernel
theorem dX10_nextBehind_5 : decode cX10_nextBehind 5 = .ok (.aload_n 0, 1) := by decide +kernel
theorem dX10_nextBehind_6 : decode cX10_nextBehind 6 = .ok (.getfield 99, 3) := by decide +kernel
theorem dX10_nextBehind_9 : decode cX10_nextBehind 9 = .ok (.if_icmp .ge 19, 3) := by decide +kernel
theorem dX10_nextBehind_12 : decode cX10_nextBehind 12 = .ok (.aload_n 0, 1) := by decide +kernel
theorem dX10_nextBehind_13 : decode cX10_nextBehind 13 = .ok (.iload_n 2, 1) := by decide +kernel
theorem dX10_nextBehind_14 : decode cX10_nextBehind 14 = .ok (.invokevirtual 162, 3) := by decide +kernel
theorem dX10_nextBehind_17 : decode cX10_nextBehind 17 = .ok (.ifCond .eq 5, 3) := by decide +kernel
theorem dX10_nextBehind_20 : decode cX10_nextBehind 20 = .ok (.iload_n 2, 1) := by decide +kernel
theorem dX10_nextBehind_21 : decode cX10_nextBehind 21 = .ok (.ireturn, 1) := by decide +kernel
theorem dX10_nextBehind_22 : decode cX10_nextBehind 22 = .ok (.iinc 2 1, 3) := by decide +kernel
theorem dX10_nextBehind_25 : decode cX10_nextBehind 25 = .ok (.goto (-21), 3) := by decide +kernel
theorem dX10_nextBehind_28 : decode cX10_nextBehind 28 = .ok (.iconst 0, 1) := by decide +kernel
theorem dX10_nextBehind_29 : decode cX10_nextBehind 29 = .ok (.istore_n 2, 1) := by decide +kernel
theorem dX10_nextBehind_30 : decode cX10_nextBehind 30 = .ok (.iload_n 2, 1) := by decide +kernel
theorem dX10_nextBehind_31 : decode cX10_nextBehind 31 = .ok (.aload_n 0, 1) := by decide +kernel
theorem dX10_nextBehind_32 : decode cX10_nextBehind 32 = .ok (.getfield 99, 3) := by decide +kernel
theorem dX10_nextBehind_35 : decode cX10_nextBehind 35 = .ok (.if_icmp .ge 19, 3) := by decide +kernel
theorem dX10_nextBehind_38 : decode cX10_nextBehind 38 = .ok (.aload_n 0, 1) := by decide +kernel
theorem dX10_nextBehind_39 : decode cX10_nextBehind 39 = .ok (.iload_n 2, 1) := by decide +kernel
theorem dX10_nextBehind_40 : decode cX10_nextBehind 40 = .ok (.invokevirtual 162, 3) := by decide +kernel
theorem dX10_nextBehind_43 : decode cX10_nextBehind 43 = .ok (.ifCond .eq 5, 3) := by decide +kernel
theorem dX10_nextBehind_46 : decode cX10_nextBehind 46 = .ok (.iload_n 2, 1) := by decide +kernel
theorem dX10_nextBehind_47 : decode cX10_nextBehind 47 = .ok (.ireturn, 1) := by decide +kernel
theorem dX10_nextBehind_48 : decode cX10_nextBehind 48 = .ok (.iinc 2 1, 3) := by decide +kernel
theorem dX10_nextBehind_51 : decode cX10_nextBehind 51 = .ok (.goto (-21), 3) := by decide +kernel
theorem dX10_nextBehind_54 : decode cX10_nextBehind 54 = .ok (.iconst (-1), 1) := by decide +kernel
theorem dX10_nextBehind_55 : decode cX10_nextBehind 55 = .ok (.ireturn, 1) := by decide +kernel
theorem dX10_keep_0 : decode cX10_keep 0 = .ok (.aload_n 0, 1) := by decide +kernel
theorem dX10_keep_1 : decode cX10_keep 1 = .ok (.getfield 35, 3) := by decide +kernel
theorem dX10_keep_4 : decode cX10_keep 4 = .ok (.iload_n 1, 1) := by decide +kernel
theorem dX10_keep_5 : decode cX10_keep 5 = .ok (.iload_n 2, 1) := by decide +kernel
theorem dX10_keep_6 : decode cX10_keep 6 = .ok (.iastore, 1) := by decide +kernel
theorem dX10_keep_7 : decode cX10_keep 7 = .ok (.aload_n 0, 1) := by decide +kernel
theorem dX10_keep_8 : decode cX10_keep 8 = .ok (.getfield 38, 3) := by decide +kernel
theorem dX10_keep_11 : decode cX10_keep 11 = .ok (.iload_n 1, 1) := by decide +kernel
theorem dX10_keep_12 : decode cX10_keep 12 = .ok (.iload_n 3, 1) := by decide +kernel
theorem dX10_keep_13 : decode cX10_keep 13 = .ok (.bastore, 1) := by decide +kernel
theorem dX10_keep_14 : decode cX10_keep 14 = .ok (.aload_n 0, 1) := by decide +kernel
theorem dX10_keep_15 : decode cX10_keep 15 = .ok (.iload_n 1, 1) := by decide +kernel
theorem dX10_keep_16 : decode cX10_keep 16 = .ok (.putfield 84, 3) := by decide +kernel
theorem dX10_keep_19 : decode cX10_keep 19 = .ok (.aload_n 0, 1) := by decide +kernel
theorem dX10_keep_20 : decode cX10_keep 20 = .ok (.iconst 0, 1) := by decide +kernel
theorem dX10_keep_21 : decode cX10_keep 21 = .ok (.putfield 165, 3) := by decide +kernel
theorem dX10_keep_24 : decode cX10_keep 24 = .ok (.iconst 0, 1) := by decide +kernel
theorem dX10_keep_25 : decode cX10_keep 25 = .ok (.istore 4, 2) := by decide +kernel
theorem dX10_keep_27 : decode cX10_keep 27 = .ok (.iload 4, 2) := by decide +kernel
theorem dX10_keep_29 : decode cX10_keep 29 = .ok (.aload_n 0, 1) := by decide +kernel
theorem dX10_keep_30 : decode cX10_keep 30 = .ok (.getfield 99, 3) := by decide +kernel
theorem dX10_keep_33 : decode cX10_keep 33 = .ok (.if_icmp .ge 71, 3) := by decide +kernel
theorem dX10_keep_36 : decode cX10_keep 36 = .ok (.aload_n 0, 1) := by decide +kernel
theorem dX10_keep_37 : decode cX10_keep 37 = .ok (.getfield 35, 3) := by decide +kernel
theorem dX10_keep_40 : decode cX10_keep 40 = .ok (.iload 4, 2) := by decide +kernel
theorem dX10_keep_42 : decode cX10_keep 42 = .ok (.iaload, 1) := by decide +kernel
theorem dX10_keep_43 : decode cX10_keep 43 = .ok (.ifCond .lt 55, 3) := by decide +kernel
theorem dX10_keep_46 : decode cX10_keep 46 = .ok (.aload_n 0, 1) := by decide +kernel
theorem dX10_keep_47 : decode cX10_keep 47 = .ok (.iload 4, 2) := by decide +kernel
theorem dX10_keep_49 : decode cX10_keep 49 = .ok (.invokevirtual 159, 3) := by decide +kernel
theorem dX10_keep_52 : decode cX10_keep 52 = .ok (.ifCond .eq 6, 3) := by decide +kernel
theorem dX10_keep_55 : decode cX10_keep 55 = .ok (.goto 43, 3) := by decide +kernel
theorem dX10_keep_58 : decode cX10_keep 58 = .ok (.aload_n 0, 1) := by decide +kernel
theorem dX10_keep_59 : decode cX10_keep 59 = .ok (.getfield 35, 3) := by decide +kernel
theorem dX10_keep_62 : decode cX10_keep 62 = .ok (.iload 4, 2) := by decide +kernel
theorem dX10_keep_64 : decode cX10_keep 64 = .ok (.iconst (-1), 1) := by decide +kernel
theorem dX10_keep_65 : decode cX10_keep 65 = .ok (.iastore, 1) := by decide +kernel
theorem dX10_keep_66 : decode cX10_keep 66 = .ok (.aload_n 0, 1) := by decide +kernel
theorem dX10_keep_67 : decode cX10_keep 67 = .ok (.getfield 38, 3) := by decide +kernel
theorem dX10_keep_70 : decode cX10_keep 70 = .ok (.iload 4, 2) := by decide +kernel
theorem dX10_keep_72 : decode cX10_keep 72 = .ok (.iconst 0, 1) := by decide +kernel
theorem dX10_keep_73 : decode cX10_keep 73 = .ok (.bastore, 1) := by decide +kernel
theorem dX10_keep_74 : decode cX10_keep 74 = .ok (.aload_n 0, 1) := by decide +kernel
theorem dX10_keep_75 : decode cX10_keep 75 = .ok (.dup, 1) := by decide +kernel
theorem dX10_keep_76 : decode cX10_keep 76 = .ok (.getfield 168, 3) := by decide +kernel
theorem dX10_keep_79 : decode cX10_keep 79 = .ok (.iconst 1, 1) := by decide +kernel
theorem dX10_keep_80 : decode cX10_keep 80 = .ok (.iadd, 1) := by decide +kernel
theorem dX10_keep_81 : decode cX10_keep 81 = .ok (.putfield 168, 3) := by decide +kernel
theorem dX10_keep_84 : decode cX10_keep 84 = .ok (.aload_n 0, 1) := by decide +kernel
theorem dX10_keep_85 : decode cX10_keep 85 = .ok (.getfield 84, 3) := by decide +kernel
theorem dX10_keep_88 : decode cX10_keep 88 = .ok (.iload 4, 2) := by decide +kernel
theorem dX10_keep_90 : decode cX10_keep 90 = .ok (.if_icmp .ne 8, 3) := by decide +kernel
theorem dX10_keep_93 : decode cX10_keep 93 = .ok (.aload_n 0, 1) := by decide +kernel
theorem dX10_keep_94 : decode cX10_keep 94 = .ok (.iconst (-1), 1) := by decide +kernel
theorem dX10_keep_95 : decode cX10_keep 95 = .ok (.putfield 84, 3) := by decide +kernel
theorem dX10_keep_98 : decode cX10_keep 98 = .ok (.iinc 4 1, 3) := by decide +kernel
theorem dX10_keep_101 : decode cX10_keep 101 = .ok (.goto (-74), 3) := by decide +kernel
theorem dX10_keep_104 : decode cX10_keep 104 = .ok (.aload_n 0, 1) := by decide +kernel
theorem dX10_keep_105 : decode cX10_keep 105 = .ok (.getfield 81, 3) := by decide +kernel
theorem dX10_keep_108 : decode cX10_keep 108 = .ok (.ifCond .lt 34, 3) := by decide +kernel
theorem dX10_keep_111 : decode cX10_keep 111 = .ok (.iload_n 1, 1) := by decide +kernel
theorem dX10_keep_112 : decode cX10_keep 112 = .ok (.aload_n 0, 1) := by decide +kernel
theorem dX10_keep_113 : decode cX10_keep 113 = .ok (.getfield 81, 3) := by decide +kernel
theorem dX10_keep_116 : decode cX10_keep 116 = .ok (.if_icmp .eq 14, 3) := by decide +kernel
theorem dX10_keep_119 : decode cX10_keep 119 = .ok (.aload_n 0, 1) := by decide +kernel
theorem dX10_keep_120 : decode cX10_keep 120 = .ok (.aload_n 0, 1) := by decide +kernel
theorem dX10_keep_121 : decode cX10_keep 121 = .ok (.getfield 81, 3) := by decide +kernel
theorem dX10_keep_124 : decode cX10_keep 124 = .ok (.invokevirtual 159, 3) := by decide +kernel
theorem dX10_keep_127 : decode cX10_keep 127 = .ok (.ifCond .ne 15, 3) := by decide +kernel
theorem dX10_keep_130 : decode cX10_keep 130 = .ok (.aload_n 0, 1) := by decide +kernel
theorem dX10_keep_131 : decode cX10_keep 131 = .ok (.aload_n 0, 1) := by decide +kernel
theorem dX10_keep_132 : decode cX10_keep 132 = .ok (.aload_n 0, 1) := by decide +kernel
theorem dX10_keep_133 : decode cX10_keep 133 = .ok (.getfield 81, 3) := by decide +kernel
theorem dX10_keep_136 : decode cX10_keep 136 = .ok (.invokevirtual 171, 3) := by decide +kernel
theorem dX10_keep_139 : decode cX10_keep 139 = .ok (.invokevirtual 174, 3) := by decide +kernel
theorem dX10_keep_142 : decode cX10_keep 142 = .ok (.iconst 4, 1) := by decide +kernel
theorem dX10_keep_143 : decode cX10_keep 143 = .ok (.ireturn, 1) := by decide +kernel
theorem dX10_answered_0 : decode cX10_answered 0 = .ok (.aload_n 0, 1) := by decide +kernel
theorem dX10_answered_1 : decode cX10_answered 1 = .ok (.getfield 23, 3) := by decide +kernel
theorem dX10_answered_4 : decode cX10_answered 4 = .ok (.iload_n 1, 1) := by decide +kernel
theorem dX10_answered_5 : decode cX10_answered 5 = .ok (.baload, 1) := by decide +kernel
theorem dX10_answered_6 : decode cX10_answered 6 = .ok (.ifCond .eq 21, 3) := by decide +kernel
theorem dX10_answered_9 : decode cX10_answered 9 = .ok (.aload_n 0, 1) := by decide +kernel
theorem dX10_answered_10 : decode cX10_answered 10 = .ok (.getfield 13, 3) := by decide +kernel
theorem dX10_answered_13 : decode cX10_answered 13 = .ok (.iload_n 1, 1) := by decide +kernel
theorem dX10_answered_14 : decode cX10_answered 14 = .ok (.iaload, 1) := by decide +kernel
theorem dX10_answered_15 : decode cX10_answered 15 = .ok (.ifCond .le 20, 3) := by decide +kernel
theorem dX10_answered_18 : decode cX10_answered 18 = .ok (.aload_n 0, 1) := by decide +kernel
theorem dX10_answered_19 : decode cX10_answered 19 = .ok (.getfield 19, 3) := by decide +kernel
theorem dX10_answered_22 : decode cX10_answered 22 = .ok (.iload_n 1, 1) := by decide +kernel
theorem dX10_answered_23 : decode cX10_answered 23 = .ok (.baload, 1) := by decide +kernel
theorem dX10_answered_24 : decode cX10_answered 24 = .ok (.ifCond .eq 11, 3) := by decide +kernel
theorem dX10_answered_27 : decode cX10_answered 27 = .ok (.aload_n 0, 1) := by decide +kernel
theorem dX10_answered_28 : decode cX10_answered 28 = .ok (.iload_n 1, 1) := by decide +kernel
theorem dX10_answered_29 : decode cX10_answered 29 = .ok (.iload_n 2, 1) := by decide +kernel
theorem dX10_answered_30 : decode cX10_answered 30 = .ok (.iconst 0, 1) := by decide +kernel
theorem dX10_answered_31 : decode cX10_answered 31 = .ok (.invokevirtual 177, 3) := by decide +kernel
theorem dX10_answered_34 : decode cX10_answered 34 = .ok (.ireturn, 1) := by decide +kernel
theorem dX10_answered_35 : decode cX10_answered 35 = .ok (.aload_n 0, 1) := by decide +kernel
theorem dX10_answered_36 : decode cX10_answered 36 = .ok (.iconst 1, 1) := by decide +kernel
theorem dX10_answered_37 : decode cX10_answered 37 = .ok (.putfield 181, 3) := by decide +kernel
theorem dX10_answered_40 : decode cX10_answered 40 = .ok (.aload_n 0, 1) := by decide +kernel
theorem dX10_answered_41 : decode cX10_answered 41 = .ok (.iload_n 1, 1) := by decide +kernel
theorem dX10_answered_42 : decode cX10_answered 42 = .ok (.putfield 184, 3) := by decide +kernel
theorem dX10_answered_45 : decode cX10_answered 45 = .ok (.aload_n 0, 1) := by decide +kernel
theorem dX10_answered_46 : decode cX10_answered 46 = .ok (.iload_n 2, 1) := by decide +kernel
theorem dX10_answered_47 : decode cX10_answered 47 = .ok (.putfield 187, 3) := by decide +kernel
theorem dX10_answered_50 : decode cX10_answered 50 = .ok (.iconst 3, 1) := by decide +kernel
theorem dX10_answered_51 : decode cX10_answered 51 = .ok (.ireturn, 1) := by decide +kernel
theorem dX10_goBack_0 : decode cX10_goBack 0 = .ok (.aload_n 0, 1) := by decide +kernel
theorem dX10_goBack_1 : decode cX10_goBack 1 = .ok (.getfield 156, 3) := by decide +kernel
theorem dX10_goBack_4 : decode cX10_goBack 4 = .ok (.ifCond .le 47, 3) := by decide +kernel
theorem dX10_goBack_7 : decode cX10_goBack 7 = .ok (.aload_n 0, 1) := by decide +kernel
theorem dX10_goBack_8 : decode cX10_goBack 8 = .ok (.dup, 1) := by decide +kernel
theorem dX10_goBack_9 : decode cX10_goBack 9 = .ok (.getfield 156, 3) := by decide +kernel
theorem dX10_goBack_12 : decode cX10_goBack 12 = .ok (.iconst 1, 1) := by decide +kernel
theorem dX10_goBack_13 : decode cX10_goBack 13 = .ok (.isub, 1) := by decide +kernel
theorem dX10_goBack_14 : decode cX10_goBack 14 = .ok (.putfield 156, 3) := by decide +kernel
theorem dX10_goBack_17 : decode cX10_goBack 17 = .ok (.aload_n 0, 1) := by decide +kernel
theorem dX10_goBack_18 : decode cX10_goBack 18 = .ok (.aload_n 0, 1) := by decide +kernel
theorem dX10_goBack_19 : decode cX10_goBack 19 = .ok (.getfield 87, 3) := by decide +kernel
theorem dX10_goBack_22 : decode cX10_goBack 22 = .ok (.aload_n 0, 1) := by decide +kernel
theorem dX10_goBack_23 : decode cX10_goBack 23 = .ok (.getfield 156, 3) := by decide +kernel
theorem dX10_goBack_26 : decode cX10_goBack 26 = .ok (.iaload, 1) := by decide +kernel
theorem dX10_goBack_27 : decode cX10_goBack 27 = .ok (.invokevirtual 159, 3) := by decide +kernel
theorem dX10_goBack_30 : decode cX10_goBack 30 = .ok (.ifCond .ne 6, 3) := by decide +kernel
theorem dX10_goBack_33 : decode cX10_goBack 33 = .ok (.goto (-33), 3) := by decide +kernel
theorem dX10_goBack_36 : decode cX10_goBack 36 = .ok (.aload_n 0, 1) := by decide +kernel
theorem dX10_goBack_37 : decode cX10_goBack 37 = .ok (.aload_n 0, 1) := by decide +kernel
theorem dX10_goBack_38 : decode cX10_goBack 38 = .ok (.getfield 87, 3) := by decide +kernel
theorem dX10_goBack_41 : decode cX10_goBack 41 = .ok (.aload_n 0, 1) := by decide +kernel
theorem dX10_goBack_42 : decode cX10_goBack 42 = .ok (.getfield 156, 3) := by decide +kernel
theorem dX10_goBack_45 : decode cX10_goBack 45 = .ok (.iaload, 1) := by decide +kernel
theorem dX10_goBack_46 : decode cX10_goBack 46 = .ok (.putfield 81, 3) := by decide +kernel
theorem dX10_goBack_49 : decode cX10_goBack 49 = .ok (.iconst 5, 1) := by decide +kernel
theorem dX10_goBack_50 : decode cX10_goBack 50 = .ok (.ireturn, 1) := by decide +kernel
theorem dX10_goBack_51 : decode cX10_goBack 51 = .ok (.bipush 6, 2) := by decide +kernel
theorem dX10_goBack_53 : decode cX10_goBack 53 = .ok (.ireturn, 1) := by decide +kernel
theorem dX10_skip_0 : decode cX10_skip 0 = .ok (.aload_n 0, 1) := by decide +kernel
theorem dX10_skip_1 : decode cX10_skip 1 = .ok (.getfield 81, 3) := by decide +kernel
theorem dX10_skip_4 : decode cX10_skip 4 = .ok (.ifCond .ge 6, 3) := by decide +kernel
theorem dX10_skip_7 : decode cX10_skip 7 = .ok (.bipush 6, 2) := by decide +kernel
theorem dX10_skip_9 : decode cX10_skip 9 = .ok (.ireturn, 1) := by decide +kernel
theorem dX10_skip_10 : decode cX10_skip 10 = .ok (.aload_n 0, 1) := by decide +kernel
theorem dX10_skip_11 : decode cX10_skip 11 = .ok (.getfield 41, 3) := by decide +kernel
theorem dX10_skip_14 : decode cX10_skip 14 = .ok (.aload_n 0, 1) := by decide +kernel
theorem dX10_skip_15 : decode cX10_skip 15 = .ok (.getfield 81, 3) := by decide +kernel
theorem dX10_skip_18 : decode cX10_skip 18 = .ok (.iconst 1, 1) := by decide +kernel
theorem dX10_skip_19 : decode cX10_skip 19 = .ok (.bastore, 1) := by decide +kernel
theorem dX10_skip_20 : decode cX10_skip 20 = .ok (.aload_n 0, 1) := by decide +kernel
theorem dX10_skip_21 : decode cX10_skip 21 = .ok (.aload_n 0, 1) := by decide +kernel
theorem dX10_skip_22 : decode cX10_skip 22 = .ok (.aload_n 0, 1) := by decide +kernel
theorem dX10_skip_23 : decode cX10_skip 23 = .ok (.getfield 81, 3) := by decide +kernel
theorem dX10_skip_26 : decode cX10_skip 26 = .ok (.invokevirtual 171, 3) := by decide +kernel
theorem dX10_skip_29 : decode cX10_skip 29 = .ok (.invokevirtual 174, 3) := by decide +kernel
theorem dX10_skip_32 : decode cX10_skip 32 = .ok (.iconst 5, 1) := by decide +kernel
theorem dX10_skip_33 : decode cX10_skip 33 = .ok (.ireturn, 1) := by decide +kernel
theorem dX10_go_0 : decode cX10_go 0 = .ok (.aload_n 0, 1) := by decide +kernel
theorem dX10_go_1 : decode cX10_go 1 = .ok (.iload_n 1, 1) := by decide +kernel
theorem dX10_go_2 : decode cX10_go 2 = .ok (.invokevirtual 159, 3) := by decide +kernel
theorem dX10_go_5 : decode cX10_go 5 = .ok (.ifCond .ne 6, 3) := by decide +kernel
theorem dX10_go_8 : decode cX10_go 8 = .ok (.bipush 6, 2) := by decide +kernel
theorem dX10_go_10 : decode cX10_go 10 = .ok (.ireturn, 1) := by decide +kernel
theorem dX10_go_11 : decode cX10_go 11 = .ok (.aload_n 0, 1) := by decide +kernel
theorem dX10_go_12 : decode cX10_go 12 = .ok (.getfield 41, 3) := by decide +kernel
theorem dX10_go_15 : decode cX10_go 15 = .ok (.iload_n 1, 1) := by decide +kernel
theorem dX10_go_16 : decode cX10_go 16 = .ok (.iconst 0, 1) := by decide +kernel
theorem dX10_go_17 : decode cX10_go 17 = .ok (.bastore, 1) := by decide +kernel
theorem dX10_go_18 : decode cX10_go 18 = .ok (.aload_n 0, 1) := by decide +kernel
theorem dX10_go_19 : decode cX10_go 19 = .ok (.iload_n 1, 1) := by decide +kernel
theorem dX10_go_20 : decode cX10_go 20 = .ok (.invokevirtual 174, 3) := by decide +kernel
theorem dX10_go_23 : decode cX10_go 23 = .ok (.iconst 5, 1) := by decide +kernel
theorem dX10_go_24 : decode cX10_go 24 = .ok (.ireturn, 1) := by decide +kernel
theorem dX10_take_0 : decode cX10_take 0 = .ok (.iload_n 1, 1) := by decide +kernel
theorem dX10_take_1 : decode cX10_take 1 = .ok (.tableswitch 96 0 8 #[51, 71, 76, 81, 83, 96, 96, 90, 61], 51) := by decide +kernel
theorem dX10_take_52 : decode cX10_take 52 = .ok (.aload_n 0, 1) := by decide +kernel
theorem dX10_take_53 : decode cX10_take 53 = .ok (.aload_n 0, 1) := by decide +kernel
theorem dX10_take_54 : decode cX10_take 54 = .ok (.getfield 81, 3) := by decide +kernel
theorem dX10_take_57 : decode cX10_take 57 = .ok (.iload_n 2, 1) := by decide +kernel
theorem dX10_take_58 : decode cX10_take 58 = .ok (.invokevirtual 190, 3) := by decide +kernel
theorem dX10_take_61 : decode cX10_take 61 = .ok (.ireturn, 1) := by decide +kernel
theorem dX10_take_62 : decode cX10_take 62 = .ok (.aload_n 0, 1) := by decide +kernel
theorem dX10_take_63 : decode cX10_take 63 = .ok (.aload_n 0, 1) := by decide +kernel
theorem dX10_take_64 : decode cX10_take 64 = .ok (.getfield 84, 3) := by decide +kernel
theorem dX10_take_67 : decode cX10_take 67 = .ok (.iload_n 2, 1) := by decide +kernel
theorem dX10_take_68 : decode cX10_take 68 = .ok (.invokevirtual 190, 3) := by decide +kernel
theorem dX10_take_71 : decode cX10_take 71 = .ok (.ireturn, 1) := by decide +kernel
theorem dX10_take_72 : decode cX10_take 72 = .ok (.aload_n 0, 1) := by decide +kernel
theorem dX10_take_73 : decode cX10_take 73 = .ok (.invokevirtual 193, 3) := by decide +kernel
theorem dX10_take_76 : decode cX10_take 76 = .ok (.ireturn, 1) := by decide +kernel
theorem dX10_take_77 : decode cX10_take 77 = .ok (.aload_n 0, 1) := by decide +kernel
theorem dX10_take_78 : decode cX10_take 78 = .ok (.invokevirtual 197, 3) := by decide +kernel
theorem dX10_take_81 : decode cX10_take 81 = .ok (.ireturn, 1) := by decide +kernel
theorem dX10_take_82 : decode cX10_take 82 = .ok (.iconst 5, 1) := by decide +kernel
theorem dX10_take_83 : decode cX10_take 83 = .ok (.ireturn, 1) := by decide +kernel
theorem dX10_take_84 : decode cX10_take 84 = .ok (.aload_n 0, 1) := by decide +kernel
theorem dX10_take_85 : decode cX10_take 85 = .ok (.iconst 1, 1) := by decide +kernel
theorem dX10_take_86 : decode cX10_take 86 = .ok (.putfield 200, 3) := by decide +kernel
theorem dX10_take_89 : decode cX10_take 89 = .ok (.iconst 5, 1) := by decide +kernel
theorem dX10_take_90 : decode cX10_take 90 = .ok (.ireturn, 1) := by decide +kernel
theorem dX10_take_91 : decode cX10_take 91 = .ok (.aload_n 0, 1) := by decide +kernel
theorem dX10_take_92 : decode cX10_take 92 = .ok (.iload_n 2, 1) := by decide +kernel
theorem dX10_take_93 : decode cX10_take 93 = .ok (.invokevirtual 203, 3) := by decide +kernel
theorem dX10_take_96 : decode cX10_take 96 = .ok (.ireturn, 1) := by decide +kernel
theorem dX10_take_97 : decode cX10_take 97 = .ok (.bipush 6, 2) := by decide +kernel
theorem dX10_take_99 : decode cX10_take 99 = .ok (.ireturn, 1) := by decide +kernel
theorem dX10_act_0 : decode cX10_act 0 = .ok (.aload_n 0, 1) := by decide +kernel
