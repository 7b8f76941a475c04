/-! printed: decode rows -/
theorem dX9_digits_47 : decode cX9_digits 47 = .ok (.iload 4, 2) := by decide +kernel
theorem dX9_digits_49 : decode cX9_digits 49 = .ok (.invokevirtual 56, 3) := by decide +kernel
theorem dX9_digits_52 : decode cX9_digits 52 = .ok (.ireturn, 1) := by decide +kernel
theorem dX9_choice_0 : decode cX9_choice 0 = .ok (.aload_n 0, 1) := by decide +kernel
theorem dX9_choice_1 : decode cX9_choice 1 = .ok (.getfield 41, 3) := by decide +kernel
theorem dX9_choice_4 : decode cX9_choice 4 = .ok (.iconst 0, 1) := by decide +kernel
theorem dX9_choice_5 : decode cX9_choice 5 = .ok (.iload_n 3, 1) := by decide +kernel
theorem dX9_choice_6 : decode cX9_choice 6 = .ok (.iastore, 1) := by decide +kernel
theorem dX9_choice_7 : decode cX9_choice 7 = .ok (.aload_n 0, 1) := by decide +kernel
theorem dX9_choice_8 : decode cX9_choice 8 = .ok (.getfield 41, 3) := by decide +kernel
theorem dX9_choice_11 : decode cX9_choice 11 = .ok (.iconst 1, 1) := by decide +kernel
theorem dX9_choice_12 : decode cX9_choice 12 = .ok (.iload 4, 2) := by decide +kernel
theorem dX9_choice_14 : decode cX9_choice 14 = .ok (.iastore, 1) := by decide +kernel
theorem dX9_choice_15 : decode cX9_choice 15 = .ok (.aload_n 0, 1) := by decide +kernel
theorem dX9_choice_16 : decode cX9_choice 16 = .ok (.getfield 41, 3) := by decide +kernel
theorem dX9_choice_19 : decode cX9_choice 19 = .ok (.iconst 2, 1) := by decide +kernel
theorem dX9_choice_20 : decode cX9_choice 20 = .ok (.iload 5, 2) := by decide +kernel
theorem dX9_choice_22 : decode cX9_choice 22 = .ok (.iastore, 1) := by decide +kernel
theorem dX9_choice_23 : decode cX9_choice 23 = .ok (.aload_n 0, 1) := by decide +kernel
theorem dX9_choice_24 : decode cX9_choice 24 = .ok (.getfield 41, 3) := by decide +kernel
theorem dX9_choice_27 : decode cX9_choice 27 = .ok (.iconst 3, 1) := by decide +kernel
theorem dX9_choice_28 : decode cX9_choice 28 = .ok (.iload 6, 2) := by decide +kernel
theorem dX9_choice_30 : decode cX9_choice 30 = .ok (.iastore, 1) := by decide +kernel
theorem dX9_choice_31 : decode cX9_choice 31 = .ok (.aload_n 0, 1) := by decide +kernel
theorem dX9_choice_32 : decode cX9_choice 32 = .ok (.getfield 41, 3) := by decide +kernel
theorem dX9_choice_35 : decode cX9_choice 35 = .ok (.iconst 4, 1) := by decide +kernel
theorem dX9_choice_36 : decode cX9_choice 36 = .ok (.iload 7, 2) := by decide +kernel
theorem dX9_choice_38 : decode cX9_choice 38 = .ok (.iastore, 1) := by decide +kernel
theorem dX9_choice_39 : decode cX9_choice 39 = .ok (.aload_n 0, 1) := by decide +kernel
theorem dX9_choice_40 : decode cX9_choice 40 = .ok (.getfield 41, 3) := by decide +kernel
theorem dX9_choice_43 : decode cX9_choice 43 = .ok (.iconst 5, 1) := by decide +kernel
theorem dX9_choice_44 : decode cX9_choice 44 = .ok (.iload 8, 2) := by decide +kernel
theorem dX9_choice_46 : decode cX9_choice 46 = .ok (.iastore, 1) := by decide +kernel
theorem dX9_choice_47 : decode cX9_choice 47 = .ok (.aload_n 0, 1) := by decide +kernel
theorem dX9_choice_48 : decode cX9_choice 48 = .ok (.invokevirtual 60, 3) := by decide +kernel
theorem dX9_choice_51 : decode cX9_choice 51 = .ok (.istore 9, 2) := by decide +kernel
theorem dX9_choice_53 : decode cX9_choice 53 = .ok (.aload_n 0, 1) := by decide +kernel
theorem dX9_choice_54 : decode cX9_choice 54 = .ok (.getfield 45, 3) := by decide +kernel
theorem dX9_choice_57 : decode cX9_choice 57 = .ok (.iconst (-1), 1) := by decide +kernel
theorem dX9_choice_58 : decode cX9_choice 58 = .ok (.if_icmp .ne 19, 3) := by decide +kernel
theorem dX9_choice_61 : decode cX9_choice 61 = .ok (.aload_n 0, 1) := by decide +kernel
theorem dX9_choice_62 : decode cX9_choice 62 = .ok (.getfield 10, 3) := by decide +kernel
theorem dX9_choice_65 : decode cX9_choice 65 = .ok (.iload_n 1, 1) := by decide +kernel
theorem dX9_choice_66 : decode cX9_choice 66 = .ok (.invokevirtual 49, 3) := by decide +kernel
theorem dX9_choice_69 : decode cX9_choice 69 = .ok (.ifCond .eq 8, 3) := by decide +kernel
theorem dX9_choice_72 : decode cX9_choice 72 = .ok (.iload 9, 2) := by decide +kernel
theorem dX9_choice_74 : decode cX9_choice 74 = .ok (.ifCond .ne 5, 3) := by decide +kernel
theorem dX9_choice_77 : decode cX9_choice 77 = .ok (.iconst (-1), 1) := by decide +kernel
theorem dX9_choice_78 : decode cX9_choice 78 = .ok (.ireturn, 1) := by decide +kernel
theorem dX9_choice_79 : decode cX9_choice 79 = .ok (.aload_n 0, 1) := by decide +kernel
theorem dX9_choice_80 : decode cX9_choice 80 = .ok (.getfield 37, 3) := by decide +kernel
theorem dX9_choice_83 : decode cX9_choice 83 = .ok (.iconst 0, 1) := by decide +kernel
theorem dX9_choice_84 : decode cX9_choice 84 = .ok (.putfield 53, 3) := by decide +kernel
theorem dX9_choice_87 : decode cX9_choice 87 = .ok (.aload_n 0, 1) := by decide +kernel
theorem dX9_choice_88 : decode cX9_choice 88 = .ok (.getfield 10, 3) := by decide +kernel
theorem dX9_choice_91 : decode cX9_choice 91 = .ok (.iload_n 1, 1) := by decide +kernel
theorem dX9_choice_92 : decode cX9_choice 92 = .ok (.iload_n 2, 1) := by decide +kernel
theorem dX9_choice_93 : decode cX9_choice 93 = .ok (.aload_n 0, 1) := by decide +kernel
theorem dX9_choice_94 : decode cX9_choice 94 = .ok (.getfield 41, 3) := by decide +kernel
theorem dX9_choice_97 : decode cX9_choice 97 = .ok (.iload 9, 2) := by decide +kernel
theorem dX9_choice_99 : decode cX9_choice 99 = .ok (.invokevirtual 64, 3) := by decide +kernel
theorem dX9_choice_102 : decode cX9_choice 102 = .ok (.ireturn, 1) := by decide +kernel
theorem dX9_needs_0 : decode cX9_needs 0 = .ok (.aload_n 0, 1) := by decide +kernel
theorem dX9_needs_1 : decode cX9_needs 1 = .ok (.getfield 45, 3) := by decide +kernel
theorem dX9_needs_4 : decode cX9_needs 4 = .ok (.iconst (-1), 1) := by decide +kernel
theorem dX9_needs_5 : decode cX9_needs 5 = .ok (.if_icmp .ne 20, 3) := by decide +kernel
theorem dX9_needs_8 : decode cX9_needs 8 = .ok (.aload_n 0, 1) := by decide +kernel
theorem dX9_needs_9 : decode cX9_needs 9 = .ok (.getfield 10, 3) := by decide +kernel
theorem dX9_needs_12 : decode cX9_needs 12 = .ok (.iload_n 1, 1) := by decide +kernel
theorem dX9_needs_13 : decode cX9_needs 13 = .ok (.iload_n 2, 1) := by decide +kernel
theorem dX9_needs_14 : decode cX9_needs 14 = .ok (.iload_n 3, 1) := by decide +kernel
theorem dX9_needs_15 : decode cX9_needs 15 = .ok (.invokevirtual 68, 3) := by decide +kernel
theorem dX9_needs_18 : decode cX9_needs 18 = .ok (.ifCond .eq 7, 3) := by decide +kernel
theorem dX9_needs_21 : decode cX9_needs 21 = .ok (.iconst 1, 1) := by decide +kernel
theorem dX9_needs_22 : decode cX9_needs 22 = .ok (.goto 4, 3) := by decide +kernel
theorem dX9_needs_25 : decode cX9_needs 25 = .ok (.iconst 0, 1) := by decide +kernel
theorem dX9_needs_26 : decode cX9_needs 26 = .ok (.ireturn, 1) := by decide +kernel
theorem dX9_costs_0 : decode cX9_costs 0 = .ok (.iload_n 1, 1) := by decide +kernel
theorem dX9_costs_1 : decode cX9_costs 1 = .ok (.bipush 99, 2) := by decide +kernel
theorem dX9_costs_3 : decode cX9_costs 3 = .ok (.invokestatic 72, 3) := by decide +kernel
theorem dX9_costs_6 : decode cX9_costs 6 = .ok (.ifCond .eq 22, 3) := by decide +kernel
theorem dX9_costs_9 : decode cX9_costs 9 = .ok (.iload_n 2, 1) := by decide +kernel
theorem dX9_costs_10 : decode cX9_costs 10 = .ok (.bipush 99, 2) := by decide +kernel
theorem dX9_costs_12 : decode cX9_costs 12 = .ok (.invokestatic 72, 3) := by decide +kernel
theorem dX9_costs_15 : decode cX9_costs 15 = .ok (.ifCond .eq 13, 3) := by decide +kernel
theorem dX9_costs_18 : decode cX9_costs 18 = .ok (.iload_n 3, 1) := by decide +kernel
theorem dX9_costs_19 : decode cX9_costs 19 = .ok (.sipush 200, 3) := by decide +kernel
theorem dX9_costs_22 : decode cX9_costs 22 = .ok (.invokestatic 72, 3) := by decide +kernel
theorem dX9_costs_25 : decode cX9_costs 25 = .ok (.ifCond .ne 5, 3) := by decide +kernel
theorem dX9_costs_28 : decode cX9_costs 28 = .ok (.iconst 0, 1) := by decide +kernel
theorem dX9_costs_29 : decode cX9_costs 29 = .ok (.ireturn, 1) := by decide +kernel
theorem dX9_costs_30 : decode cX9_costs 30 = .ok (.aload_n 0, 1) := by decide +kernel
theorem dX9_costs_31 : decode cX9_costs 31 = .ok (.getfield 28, 3) := by decide +kernel
theorem dX9_costs_34 : decode cX9_costs 34 = .ok (.iload_n 1, 1) := by decide +kernel
theorem dX9_costs_35 : decode cX9_costs 35 = .ok (.putfield 76, 3) := by decide +kernel
theorem dX9_costs_38 : decode cX9_costs 38 = .ok (.aload_n 0, 1) := by decide +kernel
theorem dX9_costs_39 : decode cX9_costs 39 = .ok (.getfield 28, 3) := by decide +kernel
theorem dX9_costs_42 : decode cX9_costs 42 = .ok (.iload_n 2, 1) := by decide +kernel
theorem dX9_costs_43 : decode cX9_costs 43 = .ok (.putfield 79, 3) := by decide +kernel
theorem dX9_costs_46 : decode cX9_costs 46 = .ok (.aload_n 0, 1) := by decide +kernel
theorem dX9_costs_47 : decode cX9_costs 47 = .ok (.getfield 28, 3) := by decide +kernel
theorem dX9_costs_50 : decode cX9_costs 50 = .ok (.iload_n 3, 1) := by decide +kernel
theorem dX9_costs_51 : decode cX9_costs 51 = .ok (.putfield 82, 3) := by decide +kernel
theorem dX9_costs_54 : decode cX9_costs 54 = .ok (.iconst 1, 1) := by decide +kernel
theorem dX9_costs_55 : decode cX9_costs 55 = .ok (.ireturn, 1) := by decide +kernel
theorem dX9_place_0 : decode cX9_place 0 = .ok (.aload_n 0, 1) := by decide +kernel
theorem dX9_place_1 : decode cX9_place 1 = .ok (.getfield 19, 3) := by decide +kernel
theorem dX9_place_4 : decode cX9_place 4 = .ok (.invokevirtual 85, 3) := by decide +kernel
theorem dX9_place_7 : decode cX9_place 7 = .ok (.ireturn, 1) := by decide +kernel
theorem dX9_word_0 : decode cX9_word 0 = .ok (.iload_n 1, 1) := by decide +kernel
theorem dX9_word_1 : decode cX9_word 1 = .ok (.bipush 59, 2) := by decide +kernel
theorem dX9_word_3 : decode cX9_word 3 = .ok (.invokestatic 72, 3) := by decide +kernel
theorem dX9_word_6 : decode cX9_word 6 = .ok (.ifCond .eq 12, 3) := by decide +kernel
theorem dX9_word_9 : decode cX9_word 9 = .ok (.iload_n 2, 1) := by decide +kernel
theorem dX9_word_10 : decode cX9_word 10 = .ok (.bipush 99, 2) := by decide +kernel
theorem dX9_word_12 : decode cX9_word 12 = .ok (.invokestatic 72, 3) := by decide +kernel
theorem dX9_word_15 : decode cX9_word 15 = .ok (.ifCond .ne 5, 3) := by decide +kernel
theorem dX9_word_18 : decode cX9_word 18 = .ok (.iconst (-1), 1) := by decide +kernel
theorem dX9_word_19 : decode cX9_word 19 = .ok (.ireturn, 1) := by decide +kernel
theorem dX9_word_20 : decode cX9_word 20 = .ok (.aload_n 0, 1) := by decide +kernel
theorem dX9_word_21 : decode cX9_word 21 = .ok (.getfield 19, 3) := by decide +kernel
theorem dX9_word_24 : decode cX9_word 24 = .ok (.iload_n 1, 1) := by decide +kernel
theorem dX9_word_25 : decode cX9_word 25 = .ok (.iload_n 2, 1) := by decide +kernel
theorem dX9_word_26 : decode cX9_word 26 = .ok (.invokevirtual 88, 3) := by decide +kernel
theorem dX9_word_29 : decode cX9_word 29 = .ok (.ireturn, 1) := by decide +kernel
theorem dX9_say_0 : decode cX9_say 0 = .ok (.aload_n 0, 1) := by decide +kernel
theorem dX9_say_1 : decode cX9_say 1 = .ok (.getfield 37, 3) := by decide +kernel
theorem dX9_say_4 : decode cX9_say 4 = .ok (.iconst 0, 1) := by decide +kernel
theorem dX9_say_5 : decode cX9_say 5 = .ok (.putfield 92, 3) := by decide +kernel
theorem dX9_say_8 : decode cX9_say 8 = .ok (.aload_n 0, 1) := by decide +kernel
theorem dX9_say_9 : decode cX9_say 9 = .ok (.getfield 28, 3) := by decide +kernel
theorem dX9_say_12 : decode cX9_say 12 = .ok (.invokevirtual 95, 3) := by decide +kernel
theorem dX9_say_15 : decode cX9_say 15 = .ok (.aload_n 0, 1) := by decide +kernel
theorem dX9_say_16 : decode cX9_say 16 = .ok (.getfield 37, 3) := by decide +kernel
theorem dX9_say_19 : decode cX9_say 19 = .ok (.getfield 98, 3) := by decide +kernel
theorem dX9_say_22 : decode cX9_say 22 = .ok (.ifCond .ne 24, 3) := by decide +kernel
theorem dX9_say_25 : decode cX9_say 25 = .ok (.aload_n 0, 1) := by decide +kernel
theorem dX9_say_26 : decode cX9_say 26 = .ok (.getfield 28, 3) := by decide +kernel
theorem dX9_say_29 : decode cX9_say 29 = .ok (.aload_n 0, 1) := by decide +kernel
theorem dX9_say_30 : decode cX9_say 30 = .ok (.getfield 37, 3) := by decide +kernel
theorem dX9_say_33 : decode cX9_say 33 = .ok (.getfield 53, 3) := by decide +kernel
theorem dX9_say_36 : decode cX9_say 36 = .ok (.aload_n 0, 1) := by decide +kernel
theorem dX9_say_37 : decode cX9_say 37 = .ok (.getfield 37, 3) := by decide +kernel
theorem dX9_say_40 : decode cX9_say 40 = .ok (.getfield 102, 3) := by decide +kernel
theorem dX9_say_43 : decode cX9_say 43 = .ok (.invokevirtual 105, 3) := by decide +kernel
theorem dX9_say_46 : decode cX9_say 46 = .ok (.aload_n 0, 1) := by decide +kernel
theorem dX9_say_47 : decode cX9_say 47 = .ok (.getfield 28, 3) := by decide +kernel
theorem dX9_say_50 : decode cX9_say 50 = .ok (.iconst 0, 1) := by decide +kernel
theorem dX9_say_51 : decode cX9_say 51 = .ok (.invokevirtual 109, 3) := by decide +kernel
theorem dX9_say_54 : decode cX9_say 54 = .ok (.ifCond .eq 17, 3) := by decide +kernel
theorem dX9_say_57 : decode cX9_say 57 = .ok (.aload_n 0, 1) := by decide +kernel
theorem dX9_say_58 : decode cX9_say 58 = .ok (.aload_n 0, 1) := by decide +kernel
theorem dX9_say_59 : decode cX9_say 59 = .ok (.getfield 37, 3) := by decide +kernel
theorem dX9_say_62 : decode cX9_say 62 = .ok (.invokevirtual 112, 3) := by decide +kernel
theorem dX9_say_65 : decode cX9_say 65 = .ok (.putfield 45, 3) := by decide +kernel
theorem dX9_say_68 : decode cX9_say 68 = .ok (.goto 32, 3) := by decide +kernel
theorem dX9_say_71 : decode cX9_say 71 = .ok (.aload_n 0, 1) := by decide +kernel
theorem dX9_say_72 : decode cX9_say 72 = .ok (.aload_n 0, 1) := by decide +kernel
theorem dX9_say_73 : decode cX9_say 73 = .ok (.getfield 19, 3) := by decide +kernel
theorem dX9_say_76 : decode cX9_say 76 = .ok (.getfield 115, 3) := by decide +kernel
theorem dX9_say_79 : decode cX9_say 79 = .ok (.ifCond .ne 17, 3) := by decide +kernel
theorem dX9_say_82 : decode cX9_say 82 = .ok (.aload_n 0, 1) := by decide +kernel
theorem dX9_say_83 : decode cX9_say 83 = .ok (.getfield 37, 3) := by decide +kernel
theorem dX9_say_86 : decode cX9_say 86 = .ok (.getfield 98, 3) := by decide +kernel
theorem dX9_say_89 : decode cX9_say 89 = .ok (.ifCond .ne 7, 3) := by decide +kernel
theorem dX9_say_92 : decode cX9_say 92 = .ok (.iconst 0, 1) := by decide +kernel
theorem dX9_say_93 : decode cX9_say 93 = .ok (.goto 4, 3) := by decide +kernel
theorem dX9_say_96 : decode cX9_say 96 = .ok (.iconst 1, 1) := by decide +kernel
theorem dX9_say_97 : decode cX9_say 97 = .ok (.putfield 45, 3) := by decide +kernel
theorem dX9_say_100 : decode cX9_say 100 = .ok (.aload_n 0, 1) := by decide +kernel
theorem dX9_say_101 : decode cX9_say 101 = .ok (.getfield 19, 3) := by decide +kernel
theorem dX9_say_104 : decode cX9_say 104 = .ok (.invokevirtual 118, 3) := by decide +kernel
theorem dX9_say_107 : decode cX9_say 107 = .ok (.aload_n 0, 1) := by decide +kernel
theorem dX9_say_108 : decode cX9_say 108 = .ok (.aload_n 0, 1) := by decide +kernel
theorem dX9_say_109 : decode cX9_say 109 = .ok (.getfield 45, 3) := by decide +kernel
theorem dX9_say_112 : decode cX9_say 112 = .ok (.iconst 1, 1) := by decide +kernel
theorem dX9_say_113 : decode cX9_say 113 = .ok (.if_icmp .gt 17, 3) := by decide +kernel
theorem dX9_say_116 : decode cX9_say 116 = .ok (.aload_n 0, 1) := by decide +kernel
theorem dX9_say_117 : decode cX9_say 117 = .ok (.getfield 121, 3) := by decide +kernel
theorem dX9_say_120 : decode cX9_say 120 = .ok (.iconst 1, 1) := by decide +kernel
theorem dX9_say_121 : decode cX9_say 121 = .ok (.iadd, 1) := by decide +kernel
theorem dX9_say_122 : decode cX9_say 122 = .ok (.bipush 9, 2) := by decide +kernel
theorem dX9_say_124 : decode cX9_say 124 = .ok (.invokestatic 124, 3) := by decide +kernel
theorem dX9_say_127 : decode cX9_say 127 = .ok (.goto 4, 3) := by decide +kernel
theorem dX9_say_130 : decode cX9_say 130 = .ok (.iconst 0, 1) := by decide +kernel
theorem dX9_say_131 : decode cX9_say 131 = .ok (.putfield 121, 3) := by decide +kernel
theorem dX9_say_134 : decode cX9_say 134 = .ok (.aload_n 0, 1) := by decide +kernel
theorem dX9_say_135 : decode cX9_say 135 = .ok (.aload_n 0, 1) := by decide +kernel
theorem dX9_say_136 : decode cX9_say 136 = .ok (.getfield 45, 3) := by decide +kernel
theorem dX9_say_139 : decode cX9_say 139 = .ok (.iconst 2, 1) := by decide +kernel
theorem dX9_say_140 : decode cX9_say 140 = .ok (.if_icmp .ne 10, 3) := by decide +kernel
theorem dX9_say_143 : decode cX9_say 143 = .ok (.aload_n 0, 1) := by decide +kernel
theorem dX9_say_144 : decode cX9_say 144 = .ok (.invokevirtual 129, 3) := by decide +kernel
theorem dX9_say_147 : decode cX9_say 147 = .ok (.goto 4, 3) := by decide +kernel
theorem dX9_say_150 : decode cX9_say 150 = .ok (.iconst 0, 1) := by decide +kernel
theorem dX9_say_151 : decode cX9_say 151 = .ok (.putfield 132, 3) := by decide +kernel
theorem dX9_say_154 : decode cX9_say 154 = .ok (.aload_n 0, 1) := by decide +kernel
theorem dX9_say_155 : decode cX9_say 155 = .ok (.getfield 45, 3) := by decide +kernel
theorem dX9_say_158 : decode cX9_say 158 = .ok (.ireturn, 1) := by decide +kernel
theorem dX9_goOn_0 : decode cX9_goOn 0 = .ok (.aload_n 0, 1) := by decide +kernel
theorem dX9_goOn_1 : decode cX9_goOn 1 = .ok (.getfield 37, 3) := by decide +kernel
theorem dX9_goOn_4 : decode cX9_goOn 4 = .ok (.getfield 98, 3) := by decide +kernel
theorem dX9_goOn_7 : decode cX9_goOn 7 = .ok (.istore_n 1, 1) := by decide +kernel
theorem dX9_goOn_8 : decode cX9_goOn 8 = .ok (.aload_n 0, 1) := by decide +kernel
theorem dX9_goOn_9 : decode cX9_goOn 9 = .ok (.getfield 37, 3) := by decide +kernel
theorem dX9_goOn_12 : decode cX9_goOn 12 = .ok (.iconst 0, 1) := by decide +kernel
theorem dX9_goOn_13 : decode cX9_goOn 13 = .ok (.putfield 98, 3) := by decide +kernel
theorem dX9_goOn_16 : decode cX9_goOn 16 = .ok (.iload_n 1, 1) := by decide +kernel
theorem dX9_goOn_17 : decode cX9_goOn 17 = .ok (.ireturn, 1) := by decide +kernel
theorem dX9_told_0 : decode cX9_told 0 = .ok (.aload_n 0, 1) := by decide +kernel
theorem dX9_told_1 : decode cX9_told 1 = .ok (.getfield 45, 3) := by decide +kernel
theorem dX9_told_4 : decode cX9_told 4 = .ok (.iconst (-1), 1) := by decide +kernel
theorem dX9_told_5 : decode cX9_told 5 = .ok (.if_icmp .ne 5, 3) := by decide +kernel
theorem dX9_told_8 : decode cX9_told 8 = .ok (.iconst (-1), 1) := by decide +kernel
theorem dX9_told_9 : decode cX9_told 9 = .ok (.ireturn, 1) := by decide +kernel
theorem dX9_told_10 : decode cX9_told 10 = .ok (.iload_n 1, 1) := by decide +kernel
theorem dX9_told_11 : decode cX9_told 11 = .ok (.tableswitch 121 0 8 #[49, 54, 63, 72, 81, 90, 99, 108, 116], 49) := by decide +kernel
theorem dX9_told_60 : decode cX9_told 60 = .ok (.aload_n 0, 1) := by decide +kernel
theorem dX9_told_61 : decode cX9_told 61 = .ok (.getfield 45, 3) := by decide +kernel
theorem dX9_told_64 : decode cX9_told 64 = .ok (.ireturn, 1) := by decide +kernel
theorem dX9_told_65 : decode cX9_told 65 = .ok (.aload_n 0, 1) := by decide +kernel
theorem dX9_told_66 : decode cX9_told 66 = .ok (.getfield 28, 3) := by decide +kernel
theorem dX9_told_69 : decode cX9_told 69 = .ok (.iconst 0, 1) := by decide +kernel
theorem dX9_told_70 : decode cX9_told 70 = .ok (.invokevirtual 135, 3) := by decide +kernel
theorem dX9_told_73 : decode cX9_told 73 = .ok (.ireturn, 1) := by decide +kernel
theorem dX9_told_74 : decode cX9_told 74 = .ok (.aload_n 0, 1) := by decide +kernel
theorem dX9_told_75 : decode cX9_told 75 = .ok (.getfield 28, 3) := by decide +kernel
theorem dX9_told_78 : decode cX9_told 78 = .ok (.iconst 0, 1) := by decide +kernel
theorem dX9_told_79 : decode cX9_told 79 = .ok (.invokevirtual 139, 3) := by decide +kernel
theorem dX9_told_82 : decode cX9_told 82 = .ok (.ireturn, 1) := by decide +kernel
theorem dX9_told_83 : decode cX9_told 83 = .ok (.aload_n 0, 1) := by decide +kernel
theorem dX9_told_84 : decode cX9_told 84 = .ok (.getfield 28, 3) := by decide +kernel
theorem dX9_told_87 : decode cX9_told 87 = .ok (.iconst 0, 1) := by decide +kernel
theorem dX9_told_88 : decode cX9_told 88 = .ok (.invokevirtual 142, 3) := by decide +kernel
theorem dX9_told_91 : decode cX9_told 91 = .ok (.ireturn, 1) := by decide +kernel
theorem dX9_told_92 : decode cX9_told 92 = .ok (.aload_n 0, 1) := by decide +kernel
theorem dX9_told_93 : decode cX9_told 93 = .ok (.getfield 28, 3) := by decide +kernel
theorem dX9_told_96 : decode cX9_told 96 = .ok (.iconst 1, 1) := by decide +kernel
theorem dX9_told_97 : decode cX9_told 97 = .ok (.invokevirtual 135, 3) := by decide +kernel
theorem dX9_told_100 : decode cX9_told 100 = .ok (.ireturn, 1) := by decide +kernel
theorem dX9_told_101 : decode cX9_told 101 = .ok (.aload_n 0, 1) := by decide +kernel
theorem dX9_told_102 : decode cX9_told 102 = .ok (.getfield 28, 3) := by decide +kernel
theorem dX9_told_105 : decode cX9_told 105 = .ok (.iconst 1, 1) := by decide +kernel
theorem dX9_told_106 : decode cX9_told 106 = .ok (.invokevirtual 139, 3) := by decide +kernel
theorem dX9_told_109 : decode cX9_told 109 = .ok (.ireturn, 1) := by decide +kernel
theorem dX9_told_110 : decode cX9_told 110 = .ok (.aload_n 0, 1) := by decide +kernel
theorem dX9_told_111 : decode cX9_told 111 = .ok (.getfield 28, 3) := by decide +kernel
theorem dX9_told_114 : decode cX9_told 114 = .ok (.iconst 1, 1) := by decide +kernel
theorem dX9_told_115 : decode cX9_told 115 = .ok (.invokevirtual 142, 3) := by decide +kernel
theorem dX9_told_118 : decode cX9_told 118 = .ok (.ireturn, 1) := by decide +kernel
theorem dX9_told_119 : decode cX9_told 119 = .ok (.aload_n 0, 1) := by decide +kernel
theorem dX9_told_120 : decode cX9_told 120 = .ok (.getfield 37, 3) := by decide +kernel
theorem dX9_told_123 : decode cX9_told 123 = .ok (.getfield 92, 3) := by decide +kernel
theorem dX9_told_126 : decode cX9_told 126 = .ok (.ireturn, 1) := by decide +kernel
theorem dX9_told_127 : decode cX9_told 127 = .ok (.aload_n 0, 1) := by decide +kernel
theorem dX9_told_128 : decode cX9_told 128 = .ok (.getfield 132, 3) := by decide +kernel
theorem dX9_told_131 : decode cX9_told 131 = .ok (.ireturn, 1) := by decide +kernel
theorem dX9_told_132 : decode cX9_told 132 = .ok (.iconst (-1), 1) := by decide +kernel
theorem dX9_told_133 : decode cX9_told 133 = .ok (.ireturn, 1) := by decide +kernel
theorem dX9_about_0 : decode cX9_about 0 = .ok (.iload_n 1, 1) := by decide +kernel
theorem dX9_about_1 : decode cX9_about 1 = .ok (.tableswitch 123 0 8 #[51, 59, 67, 75, 83, 94, 99, 107, 115], 51) := by decide +kernel
theorem dX9_about_52 : decode cX9_about 52 = .ok (.aload_n 0, 1) := by decide +kernel
theorem dX9_about_53 : decode cX9_about 53 = .ok (.getfield 37, 3) := by decide +kernel
theorem dX9_about_56 : decode cX9_about 56 = .ok (.getfield 53, 3) := by decide +kernel
theorem dX9_about_59 : decode cX9_about 59 = .ok (.ireturn, 1) := by decide +kernel
theorem dX9_about_60 : decode cX9_about 60 = .ok (.aload_n 0, 1) := by decide +kernel
theorem dX9_about_61 : decode cX9_about 61 = .ok (.getfield 37, 3) := by decide +kernel
theorem dX9_about_64 : decode cX9_about 64 = .ok (.getfield 102, 3) := by decide +kernel
theorem dX9_about_67 : decode cX9_about 67 = .ok (.ireturn, 1) := by decide +kernel
theorem dX9_about_68 : decode cX9_about 68 = .ok (.aload_n 0, 1) := by decide +kernel
theorem dX9_about_69 : decode cX9_about 69 = .ok (.getfield 37, 3) := by decide +kernel
theorem dX9_about_72 : decode cX9_about 72 = .ok (.getfield 145, 3) := by decide +kernel
theorem dX9_about_75 : decode cX9_about 75 = .ok (.ireturn, 1) := by decide +kernel
theorem dX9_about_76 : decode cX9_about 76 = .ok (.aload_n 0, 1) := by decide +kernel
theorem dX9_about_77 : decode cX9_about 77 = .ok (.getfield 10, 3) := by decide +kernel
theorem dX9_about_80 : decode cX9_about 80 = .ok (.invokevirtual 148, 3) := by decide +kernel
theorem dX9_about_83 : decode cX9_about 83 = .ok (.ireturn, 1) := by decide +kernel
theorem dX9_about_84 : decode cX9_about 84 = .ok (.aload_n 0, 1) := by decide +kernel
theorem dX9_about_85 : decode cX9_about 85 = .ok (.getfield 37, 3) := by decide +kernel
theorem dX9_about_88 : decode cX9_about 88 = .ok (.getfield 98, 3) := by decide +kernel
theorem dX9_about_91 : decode cX9_about 91 = .ok (.invokestatic 151, 3) := by decide +kernel
theorem dX9_about_94 : decode cX9_about 94 = .ok (.ireturn, 1) := by decide +kernel
theorem dX9_about_95 : decode cX9_about 95 = .ok (.aload_n 0, 1) := by decide +kernel
theorem dX9_about_96 : decode cX9_about 96 = .ok (.getfield 121, 3) := by decide +kernel
theorem dX9_about_99 : decode cX9_about 99 = .ok (.ireturn, 1) := by decide +kernel
theorem dX9_about_100 : decode cX9_about 100 = .ok (.aload_n 0, 1) := by decide +kernel
theorem dX9_about_101 : decode cX9_about 101 = .ok (.getfield 10, 3) := by decide +kernel
theorem dX9_about_104 : decode cX9_about 104 = .ok (.getfield 155, 3) := by decide +kernel
theorem dX9_about_107 : decode cX9_about 107 = .ok (.ireturn, 1) := by decide +kernel
theorem dX9_about_108 : decode cX9_about 108 = .ok (.aload_n 0, 1) := by decide +kernel
theorem dX9_about_109 : decode cX9_about 109 = .ok (.getfield 10, 3) := by decide +kernel
theorem dX9_about_112 : decode cX9_about 112 = .ok (.invokevirtual 158, 3) := by decide +kernel
theorem dX9_about_115 : decode cX9_about 115 = .ok (.ireturn, 1) := by decide +kernel
theorem dX9_about_116 : decode cX9_about 116 = .ok (.aload_n 0, 1) := by decide +kernel
theorem dX9_about_117 : decode cX9_about 117 = .ok (.getfield 19, 3) := by decide +kernel
theorem dX9_about_120 : decode cX9_about 120 = .ok (.getfield 115, 3) := by decide +kernel
theorem dX9_about_123 : decode cX9_about 123 = .ok (.ireturn, 1) := by decide +kernel
theorem dX9_about_124 : decode cX9_about 124 = .ok (.iconst (-1), 1) := by decide +kernel
theorem dX9_about_125 : decode cX9_about 125 = .ok (.ireturn, 1) := by decide +kernel
theorem dX9_field_0 : decode cX9_field 0 = .ok (.aload_n 0, 1) := by decide +kernel
theorem dX9_field_1 : decode cX9_field 1 = .ok (.getfield 10, 3) := by decide +kernel
theorem dX9_field_4 : decode cX9_field 4 = .ok (.iload_n 1, 1) := by decide +kernel
theorem dX9_field_5 : decode cX9_field 5 = .ok (.invokevirtual 161, 3) := by decide +kernel
theorem dX9_field_8 : decode cX9_field 8 = .ok (.astore_n 3, 1) := by decide +kernel
theorem dX9_field_9 : decode cX9_field 9 = .ok (.aload_n 3, 1) := by decide +kernel
theorem dX9_field_10 : decode cX9_field 10 = .ok (.ifnonnull 5, 3) := by decide +kernel
theorem dX9_field_13 : decode cX9_field 13 = .ok (.iconst (-1), 1) := by decide +kernel
theorem dX9_field_14 : decode cX9_field 14 = .ok (.ireturn, 1) := by decide +kernel
theorem dX9_field_15 : decode cX9_field 15 = .ok (.iload_n 2, 1) := by decide +kernel
theorem dX9_field_16 : decode cX9_field 16 = .ok (.tableswitch 126 0 7 #[48, 53, 58, 63, 71, 79, 102, 110], 48) := by decide +kernel
theorem dX9_field_64 : decode cX9_field 64 = .ok (.aload_n 3, 1) := by decide +kernel
theorem dX9_field_65 : decode cX9_field 65 = .ok (.getfield 165, 3) := by decide +kernel
theorem dX9_field_68 : decode cX9_field 68 = .ok (.ireturn, 1) := by decide +kernel
theorem dX9_field_69 : decode cX9_field 69 = .ok (.aload_n 3, 1) := by decide +kernel
theorem dX9_field_70 : decode cX9_field 70 = .ok (.getfield 170, 3) := by decide +kernel
theorem dX9_field_73 : decode cX9_field 73 = .ok (.ireturn, 1) := by decide +kernel
theorem dX9_field_74 : decode cX9_field 74 = .ok (.aload_n 3, 1) := by decide +kernel
theorem dX9_field_75 : decode cX9_field 75 = .ok (.getfield 173, 3) := by decide +kernel
theorem dX9_field_78 : decode cX9_field 78 = .ok (.ireturn, 1) := by decide +kernel
theorem dX9_field_79 : decode cX9_field 79 = .ok (.aload_n 3, 1) := by decide +kernel
theorem dX9_field_80 : decode cX9_field 80 = .ok (.getfield 176, 3) := by decide +kernel
theorem dX9_field_83 : decode cX9_field 83 = .ok (.invokestatic 151, 3) := by decide +kernel
theorem dX9_field_86 : decode cX9_field 86 = .ok (.ireturn, 1) := by decide +kernel
theorem dX9_field_87 : decode cX9_field 87 = .ok (.aload_n 3, 1) := by decide +kernel
theorem dX9_field_88 : decode cX9_field 88 = .ok (.getfield 179, 3) := by decide +kernel
theorem dX9_field_91 : decode cX9_field 91 = .ok (.invokestatic 151, 3) := by decide +kernel
theorem dX9_field_94 : decode cX9_field 94 = .ok (.ireturn, 1) := by decide +kernel
theorem dX9_field_95 : decode cX9_field 95 = .ok (.aload_n 3, 1) := by decide +kernel
theorem dX9_field_96 : decode cX9_field 96 = .ok (.getfield 179, 3) := by decide +kernel
theorem dX9_field_99 : decode cX9_field 99 = .ok (.ifCond .eq 14, 3) := by decide +kernel
theorem dX9_field_102 : decode cX9_field 102 = .ok (.aload_n 3, 1) := by decide +kernel
theorem dX9_field_103 : decode cX9_field 103 = .ok (.getfield 182, 3) := by decide +kernel
theorem dX9_field_106 : decode cX9_field 106 = .ok (.ifCond .eq 7, 3) := by decide +kernel
theorem dX9_field_109 : decode cX9_field 109 = .ok (.iconst 1, 1) := by decide +kernel
theorem dX9_field_110 : decode cX9_field 110 = .ok (.goto 4, 3) := by decide +kernel
theorem dX9_field_113 : decode cX9_field 113 = .ok (.iconst 0, 1) := by decide +kernel
theorem dX9_field_114 : decode cX9_field 114 = .ok (.invokestatic 151, 3) := by decide +kernel
theorem dX9_field_117 : decode cX9_field 117 = .ok (.ireturn, 1) := by decide +kernel
theorem dX9_field_118 : decode cX9_field 118 = .ok (.aload_n 3, 1) := by decide +kernel
theorem dX9_field_119 : decode cX9_field 119 = .ok (.getfield 185, 3) := by decide +kernel
theorem dX9_field_122 : decode cX9_field 122 = .ok (.invokestatic 151, 3) := by decide +kernel
theorem dX9_field_125 : decode cX9_field 125 = .ok (.ireturn, 1) := by decide +kernel
theorem dX9_field_126 : decode cX9_field 126 = .ok (.aload_n 3, 1) := by decide +kernel
theorem dX9_field_127 : decode cX9_field 127 = .ok (.getfield 179, 3) := by decide +kernel
theorem dX9_field_130 : decode cX9_field 130 = .ok (.ifCond .eq 10, 3) := by decide +kernel
theorem dX9_field_133 : decode cX9_field 133 = .ok (.aload_n 3, 1) := by decide +kernel
theorem dX9_field_134 : decode cX9_field 134 = .ok (.getfield 188, 3) := by decide +kernel
theorem dX9_field_137 : decode cX9_field 137 = .ok (.goto 4, 3) := by decide +kernel
theorem dX9_field_140 : decode cX9_field 140 = .ok (.iconst (-1), 1) := by decide +kernel
theorem dX9_field_141 : decode cX9_field 141 = .ok (.ireturn, 1) := by decide +kernel
theorem dX9_field_142 : decode cX9_field 142 = .ok (.iconst (-1), 1) := by decide +kernel
theorem dX9_field_143 : decode cX9_field 143 = .ok (.ireturn, 1) := by decide +kernel
theorem dX9_hearBack_0 : decode cX9_hearBack 0 = .ok (.aload_n 0, 1) := by decide +kernel
theorem dX9_hearBack_1 : decode cX9_hearBack 1 = .ok (.getfield 10, 3) := by decide +kernel
theorem dX9_hearBack_4 : decode cX9_hearBack 4 = .ok (.invokevirtual 190, 3) := by decide +kernel
theorem dX9_hearBack_7 : decode cX9_hearBack 7 = .ok (.ireturn, 1) := by decide +kernel
theorem dX9_send_0 : decode cX9_send 0 = .ok (.aload_n 0, 1) := by decide +kernel
theorem dX9_send_1 : decode cX9_send 1 = .ok (.getfield 37, 3) := by decide +kernel
theorem dX9_send_4 : decode cX9_send 4 = .ok (.getfield 193, 3) := by decide +kernel
theorem dX9_send_7 : decode cX9_send 7 = .ok (.ifCond .ne 23, 3) := by decide +kernel
theorem dX9_send_10 : decode cX9_send 10 = .ok (.aload_n 0, 1) := by decide +kernel
theorem dX9_send_11 : decode cX9_send 11 = .ok (.getfield 10, 3) := by decide +kernel
theorem dX9_send_14 : decode cX9_send 14 = .ok (.invokevirtual 148, 3) := by decide +kernel
theorem dX9_send_17 : decode cX9_send 17 = .ok (.ifCond .gt 13, 3) := by decide +kernel
theorem dX9_send_20 : decode cX9_send 20 = .ok (.aload_n 0, 1) := by decide +kernel
theorem dX9_send_21 : decode cX9_send 21 = .ok (.getfield 10, 3) := by decide +kernel
theorem dX9_send_24 : decode cX9_send 24 = .ok (.invokevirtual 158, 3) := by decide +kernel
theorem dX9_send_27 : decode cX9_send 27 = .ok (.ifCond .le 5, 3) := by decide +kernel
theorem dX9_send_30 : decode cX9_send 30 = .ok (.iconst 0, 1) := by decide +kernel
theorem dX9_send_31 : decode cX9_send 31 = .ok (.ireturn, 1) := by decide +kernel
theorem dX9_send_32 : decode cX9_send 32 = .ok (.aload_n 0, 1) := by decide +kernel
theorem dX9_send_33 : decode cX9_send 33 = .ok (.getfield 37, 3) := by decide +kernel
theorem dX9_send_36 : decode cX9_send 36 = .ok (.iconst 1, 1) := by decide +kernel
theorem dX9_send_37 : decode cX9_send 37 = .ok (.putfield 193, 3) := by decide +kernel
theorem dX9_send_40 : decode cX9_send 40 = .ok (.iconst 1, 1) := by decide +kernel
theorem dX9_send_41 : decode cX9_send 41 = .ok (.ireturn, 1) := by decide +kernel
theorem dX9_differingDigits_0 : decode cX9_differingDigits 0 = .ok (.aload_n 0, 1) := by decide +kernel
theorem dX9_differingDigits_1 : decode cX9_differingDigits 1 = .ok (.getfield 10, 3) := by decide +kernel
theorem dX9_differingDigits_4 : decode cX9_differingDigits 4 = .ok (.aload_n 0, 1) := by decide +kernel
theorem dX9_differingDigits_5 : decode cX9_differingDigits 5 = .ok (.getfield 37, 3) := by decide +kernel
theorem dX9_differingDigits_8 : decode cX9_differingDigits 8 = .ok (.getfield 53, 3) := by decide +kernel
theorem dX9_differingDigits_11 : decode cX9_differingDigits 11 = .ok (.invokevirtual 161, 3) := by decide +kernel
theorem dX9_differingDigits_14 : decode cX9_differingDigits 14 = .ok (.astore_n 1, 1) := by decide +kernel
theorem dX9_differingDigits_15 : decode cX9_differingDigits 15 = .ok (.aload_n 1, 1) := by decide +kernel
theorem dX9_differingDigits_16 : decode cX9_differingDigits 16 = .ok (.ifnull 25, 3) := by decide +kernel
theorem dX9_differingDigits_19 : decode cX9_differingDigits 19 = .ok (.aload_n 0, 1) := by decide +kernel
theorem dX9_differingDigits_20 : decode cX9_differingDigits 20 = .ok (.getfield 28, 3) := by decide +kernel
theorem dX9_differingDigits_23 : decode cX9_differingDigits 23 = .ok (.iconst 0, 1) := by decide +kernel
theorem dX9_differingDigits_24 : decode cX9_differingDigits 24 = .ok (.invokevirtual 135, 3) := by decide +kernel
theorem dX9_differingDigits_27 : decode cX9_differingDigits 27 = .ok (.ifCond .ne 14, 3) := by decide +kernel
theorem dX9_differingDigits_30 : decode cX9_differingDigits 30 = .ok (.aload_n 0, 1) := by decide +kernel
theorem dX9_differingDigits_31 : decode cX9_differingDigits 31 = .ok (.getfield 28, 3) := by decide +kernel
theorem dX9_differingDigits_34 : decode cX9_differingDigits 34 = .ok (.iconst 1, 1) := by decide +kernel
theorem dX9_differingDigits_35 : decode cX9_differingDigits 35 = .ok (.invokevirtual 135, 3) := by decide +kernel
theorem dX9_differingDigits_38 : decode cX9_differingDigits 38 = .ok (.ifCond .eq 5, 3) := by decide +kernel
theorem dX9_differingDigits_41 : decode cX9_differingDigits 41 = .ok (.iconst 0, 1) := by decide +kernel
theorem dX9_differingDigits_42 : decode cX9_differingDigits 42 = .ok (.ireturn, 1) := by decide +kernel
theorem dX9_differingDigits_43 : decode cX9_differingDigits 43 = .ok (.iconst 0, 1) := by decide +kernel
theorem dX9_differingDigits_44 : decode cX9_differingDigits 44 = .ok (.istore_n 2, 1) := by decide +kernel
theorem dX9_differingDigits_45 : decode cX9_differingDigits 45 = .ok (.aload_n 0, 1) := by decide +kernel
theorem dX9_differingDigits_46 : decode cX9_differingDigits 46 = .ok (.getfield 28, 3) := by decide +kernel
theorem dX9_differingDigits_49 : decode cX9_differingDigits 49 = .ok (.iconst 0, 1) := by decide +kernel
theorem dX9_differingDigits_50 : decode cX9_differingDigits 50 = .ok (.invokevirtual 139, 3) := by decide +kernel
theorem dX9_differingDigits_53 : decode cX9_differingDigits 53 = .ok (.istore_n 3, 1) := by decide +kernel
theorem dX9_differingDigits_54 : decode cX9_differingDigits 54 = .ok (.aload_n 0, 1) := by decide +kernel
theorem dX9_differingDigits_55 : decode cX9_differingDigits 55 = .ok (.getfield 28, 3) := by decide +kernel
theorem dX9_differingDigits_58 : decode cX9_differingDigits 58 = .ok (.iconst 1, 1) := by decide +kernel
theorem dX9_differingDigits_59 : decode cX9_differingDigits 59 = .ok (.invokevirtual 139, 3) := by decide +kernel
theorem dX9_differingDigits_62 : decode cX9_differingDigits 62 = .ok (.istore 4, 2) := by decide +kernel
theorem dX9_differingDigits_64 : decode cX9_differingDigits 64 = .ok (.aload_n 1, 1) := by decide +kernel
theorem dX9_differingDigits_65 : decode cX9_differingDigits 65 = .ok (.getfield 170, 3) := by decide +kernel
theorem dX9_differingDigits_68 : decode cX9_differingDigits 68 = .ok (.iconst 1, 1) := by decide +kernel
theorem dX9_differingDigits_69 : decode cX9_differingDigits 69 = .ok (.isub, 1) := by decide +kernel
theorem dX9_differingDigits_70 : decode cX9_differingDigits 70 = .ok (.istore 5, 2) := by decide +kernel
theorem dX9_differingDigits_72 : decode cX9_differingDigits 72 = .ok (.iload 5, 2) := by decide +kernel
theorem dX9_differingDigits_74 : decode cX9_differingDigits 74 = .ok (.ifCond .lt 40, 3) := by decide +kernel
theorem dX9_differingDigits_77 : decode cX9_differingDigits 77 = .ok (.iload_n 3, 1) := by decide +kernel
theorem dX9_differingDigits_78 : decode cX9_differingDigits 78 = .ok (.bipush 10, 2) := by decide +kernel
theorem dX9_differingDigits_80 : decode cX9_differingDigits 80 = .ok (.irem, 1) := by decide +kernel
theorem dX9_differingDigits_81 : decode cX9_differingDigits 81 = .ok (.iload 4, 2) := by decide +kernel
theorem dX9_differingDigits_83 : decode cX9_differingDigits 83 = .ok (.bipush 10, 2) := by decide +kernel
theorem dX9_differingDigits_85 : decode cX9_differingDigits 85 = .ok (.irem, 1) := by decide +kernel
theorem dX9_differingDigits_86 : decode cX9_differingDigits 86 = .ok (.if_icmp .eq 10, 3) := by decide +kernel
theorem dX9_differingDigits_89 : decode cX9_differingDigits 89 = .ok (.iload_n 2, 1) := by decide +kernel
theorem dX9_differingDigits_90 : decode cX9_differingDigits 90 = .ok (.iconst 1, 1) := by decide +kernel
theorem dX9_differingDigits_91 : decode cX9_differingDigits 91 = .ok (.iload 5, 2) := by decide +kernel
theorem dX9_differingDigits_93 : decode cX9_differingDigits 93 = .ok (.ishl, 1) := by decide +kernel
theorem dX9_differingDigits_94 : decode cX9_differingDigits 94 = .ok (.ior, 1) := by decide +kernel
theorem dX9_differingDigits_95 : decode cX9_differingDigits 95 = .ok (.istore_n 2, 1) := by decide +kernel
theorem dX9_differingDigits_96 : decode cX9_differingDigits 96 = .ok (.iload_n 3, 1) := by decide +kernel
theorem dX9_differingDigits_97 : decode cX9_differingDigits 97 = .ok (.bipush 10, 2) := by decide +kernel
theorem dX9_differingDigits_99 : decode cX9_differingDigits 99 = .ok (.idiv, 1) := by decide +kernel
theorem dX9_differingDigits_100 : decode cX9_differingDigits 100 = .ok (.istore_n 3, 1) := by decide +kernel
theorem dX9_differingDigits_101 : decode cX9_differingDigits 101 = .ok (.iload 4, 2) := by decide +kernel
theorem dX9_differingDigits_103 : decode cX9_differingDigits 103 = .ok (.bipush 10, 2) := by decide +kernel
theorem dX9_differingDigits_105 : decode cX9_differingDigits 105 = .ok (.idiv, 1) := by decide +kernel
theorem dX9_differingDigits_106 : decode cX9_differingDigits 106 = .ok (.istore 4, 2) := by decide +kernel
theorem dX9_differingDigits_108 : decode cX9_differingDigits 108 = .ok (.iinc 5 (-1), 3) := by decide +kernel
theorem dX9_differingDigits_111 : decode cX9_differingDigits 111 = .ok (.goto (-39), 3) := by decide +kernel
theorem dX9_differingDigits_114 : decode cX9_differingDigits 114 = .ok (.iload_n 2, 1) := by decide +kernel
theorem dX9_differingDigits_115 : decode cX9_differingDigits 115 = .ok (.ireturn, 1) := by decide +kernel
theorem dX9_countOffered_0 : decode cX9_countOffered 0 = .ok (.iconst 0, 1) := by decide +kernel
theorem dX9_countOffered_1 : decode cX9_countOffered 1 = .ok (.istore_n 1, 1) := by decide +kernel
theorem dX9_countOffered_2 : decode cX9_countOffered 2 = .ok (.iload_n 1, 1) := by decide +kernel
theorem dX9_countOffered_3 : decode cX9_countOffered 3 = .ok (.bipush 6, 2) := by decide +kernel
theorem dX9_countOffered_5 : decode cX9_countOffered 5 = .ok (.if_icmp .ge 63, 3) := by decide +kernel
theorem dX9_countOffered_8 : decode cX9_countOffered 8 = .ok (.aload_n 0, 1) := by decide +kernel
theorem dX9_countOffered_9 : decode cX9_countOffered 9 = .ok (.getfield 41, 3) := by decide +kernel
theorem dX9_countOffered_12 : decode cX9_countOffered 12 = .ok (.iload_n 1, 1) := by decide +kernel
theorem dX9_countOffered_13 : decode cX9_countOffered 13 = .ok (.iaload, 1) := by decide +kernel
theorem dX9_countOffered_14 : decode cX9_countOffered 14 = .ok (.iconst (-1), 1) := by decide +kernel
theorem dX9_countOffered_15 : decode cX9_countOffered 15 = .ok (.if_icmp .eq 53, 3) := by decide +kernel
theorem dX9_countOffered_18 : decode cX9_countOffered 18 = .ok (.aload_n 0, 1) := by decide +kernel
theorem dX9_countOffered_19 : decode cX9_countOffered 19 = .ok (.getfield 41, 3) := by decide +kernel
theorem dX9_countOffered_22 : decode cX9_countOffered 22 = .ok (.iload_n 1, 1) := by decide +kernel
theorem dX9_countOffered_23 : decode cX9_countOffered 23 = .ok (.iaload, 1) := by decide +kernel
theorem dX9_countOffered_24 : decode cX9_countOffered 24 = .ok (.invokestatic 196, 3) := by decide +kernel
theorem dX9_countOffered_27 : decode cX9_countOffered 27 = .ok (.ifCond .ne 5, 3) := by decide +kernel
theorem dX9_countOffered_30 : decode cX9_countOffered 30 = .ok (.iconst 0, 1) := by decide +kernel
theorem dX9_countOffered_31 : decode cX9_countOffered 31 = .ok (.ireturn, 1) := by decide +kernel
theorem dX9_countOffered_32 : decode cX9_countOffered 32 = .ok (.iconst 0, 1) := by decide +kernel
theorem dX9_countOffered_33 : decode cX9_countOffered 33 = .ok (.istore_n 2, 1) := by decide +kernel
theorem dX9_countOffered_34 : decode cX9_countOffered 34 = .ok (.iload_n 2, 1) := by decide +kernel
theorem dX9_countOffered_35 : decode cX9_countOffered 35 = .ok (.iload_n 1, 1) := by decide +kernel
theorem dX9_countOffered_36 : decode cX9_countOffered 36 = .ok (.if_icmp .ge 26, 3) := by decide +kernel
theorem dX9_countOffered_39 : decode cX9_countOffered 39 = .ok (.aload_n 0, 1) := by decide +kernel
theorem dX9_countOffered_40 : decode cX9_countOffered 40 = .ok (.getfield 41, 3) := by decide +kernel
theorem dX9_countOffered_43 : decode cX9_countOffered 43 = .ok (.iload_n 2, 1) := by decide +kernel
theorem dX9_countOffered_44 : decode cX9_countOffered 44 = .ok (.iaload, 1) := by decide +kernel
theorem dX9_countOffered_45 : decode cX9_countOffered 45 = .ok (.aload_n 0, 1) := by decide +kernel
theorem dX9_countOffered_46 : decode cX9_countOffered 46 = .ok (.getfield 41, 3) := by decide +kernel
theorem dX9_countOffered_49 : decode cX9_countOffered 49 = .ok (.iload_n 1, 1) := by decide +kernel
theorem dX9_countOffered_50 : decode cX9_countOffered 50 = .ok (.iaload, 1) := by decide +kernel
theorem dX9_countOffered_51 : decode cX9_countOffered 51 = .ok (.if_icmp .ne 5, 3) := by decide +kernel
theorem dX9_countOffered_54 : decode cX9_countOffered 54 = .ok (.iconst 0, 1) := by decide +kernel
theorem dX9_countOffered_55 : decode cX9_countOffered 55 = .ok (.ireturn, 1) := by decide +kernel
theorem dX9_countOffered_56 : decode cX9_countOffered 56 = .ok (.iinc 2 1, 3) := by decide +kernel
theorem dX9_countOffered_59 : decode cX9_countOffered 59 = .ok (.goto (-25), 3) := by decide +kernel
theorem dX9_countOffered_62 : decode cX9_countOffered 62 = .ok (.iinc 1 1, 3) := by decide +kernel
theorem dX9_countOffered_65 : decode cX9_countOffered 65 = .ok (.goto (-63), 3) := by decide +kernel
theorem dX9_countOffered_68 : decode cX9_countOffered 68 = .ok (.iload_n 1, 1) := by decide +kernel
theorem dX9_countOffered_69 : decode cX9_countOffered 69 = .ok (.ireturn, 1) := by decide +kernel
theorem dX9_isWithin_0 : decode cX9_isWithin 0 = .ok (.iload_n 0, 1) := by decide +kernel
theorem dX9_isWithin_1 : decode cX9_isWithin 1 = .ok (.ifCond .lt 12, 3) := by decide +kernel
theorem dX9_isWithin_4 : decode cX9_isWithin 4 = .ok (.iload_n 0, 1) := by decide +kernel
theorem dX9_isWithin_5 : decode cX9_isWithin 5 = .ok (.iload_n 1, 1) := by decide +kernel
theorem dX9_isWithin_6 : decode cX9_isWithin 6 = .ok (.if_icmp .gt 7, 3) := by decide +kernel
theorem dX9_isWithin_9 : decode cX9_isWithin 9 = .ok (.iconst 1, 1) := by decide +kernel
theorem dX9_isWithin_10 : decode cX9_isWithin 10 = .ok (.goto 4, 3) := by decide +kernel
theorem dX9_isWithin_13 : decode cX9_isWithin 13 = .ok (.iconst 0, 1) := by decide +kernel
theorem dX9_isWithin_14 : decode cX9_isWithin 14 = .ok (.ireturn, 1) := by decide +kernel
theorem dX9_isName_0 : decode cX9_isName 0 = .ok (.iload_n 0, 1) := by decide +kernel
theorem dX9_isName_1 : decode cX9_isName 1 = .ok (.bipush 20, 2) := by decide +kernel
theorem dX9_isName_3 : decode cX9_isName 3 = .ok (.if_icmp .lt 13, 3) := by decide +kernel
theorem dX9_isName_6 : decode cX9_isName 6 = .ok (.iload_n 0, 1) := by decide +kernel
theorem dX9_isName_7 : decode cX9_isName 7 = .ok (.bipush 59, 2) := by decide +kernel
theorem dX9_isName_9 : decode cX9_isName 9 = .ok (.if_icmp .gt 7, 3) := by decide +kernel
theorem dX9_isName_12 : decode cX9_isName 12 = .ok (.iconst 1, 1) := by decide +kernel
theorem dX9_isName_13 : decode cX9_isName 13 = .ok (.goto 4, 3) := by decide +kernel
theorem dX9_isName_16 : decode cX9_isName 16 = .ok (.iconst 0, 1) := by decide +kernel
theorem dX9_isName_17 : decode cX9_isName 17 = .ok (.ireturn, 1) := by decide +kernel
theorem dX9_oneIf_0 : decode cX9_oneIf 0 = .ok (.iload_n 0, 1) := by decide +kernel
theorem dX9_oneIf_1 : decode cX9_oneIf 1 = .ok (.ifCond .eq 7, 3) := by decide +kernel
theorem dX9_oneIf_4 : decode cX9_oneIf 4 = .ok (.iconst 1, 1) := by decide +kernel
theorem dX9_oneIf_5 : decode cX9_oneIf 5 = .ok (.goto 4, 3) := by decide +kernel
theorem dX9_oneIf_8 : decode cX9_oneIf 8 = .ok (.iconst 0, 1) := by decide +kernel
theorem dX9_oneIf_9 : decode cX9_oneIf 9 = .ok (.ireturn, 1) := by decide +kernel
theorem dX10_init_0 : decode cX10_init 0 = .ok (.aload_n 0, 1) := by decide +kernel
theorem dX10_init_1 : decode cX10_init 1 = .ok (.invokespecial 1, 3) := by decide +kernel
theorem dX10_init_4 : decode cX10_init 4 = .ok (.aload_n 0, 1) := by decide +kernel
theorem dX10_init_5 : decode cX10_init 5 = .ok (.bipush 12, 2) := by decide +kernel
theorem dX10_init_7 : decode cX10_init 7 = .ok (.newarray .int, 2) := by decide +kernel
theorem dX10_init_9 : decode cX10_init 9 = .ok (.putfield 7, 3) := by decide +kernel
theorem dX10_init_12 : decode cX10_init 12 = .ok (.aload_n 0, 1) := by decide +kernel
theorem dX10_init_13 : decode cX10_init 13 = .ok (.bipush 12, 2) := by decide +kernel
theorem dX10_init_15 : decode cX10_init 15 = .ok (.newarray .int, 2) := by decide +kernel
theorem dX10_init_17 : decode cX10_init 17 = .ok (.putfield 13, 3) := by decide +kernel
theorem dX10_init_20 : decode cX10_init 20 = .ok (.aload_n 0, 1) := by decide +kernel
theorem dX10_init_21 : decode cX10_init 21 = .ok (.bipush 12, 2) := by decide +kernel
theorem dX10_init_23 : decode cX10_init 23 = .ok (.newarray .int, 2) := by decide +kernel
theorem dX10_init_25 : decode cX10_init 25 = .ok (.putfield 16, 3) := by decide +kernel
theorem dX10_init_28 : decode cX10_init 28 = .ok (.aload_n 0, 1) := by decide +kernel
theorem dX10_init_29 : decode cX10_init 29 = .ok (.bipush 12, 2) := by decide +kernel
theorem dX10_init_31 : decode cX10_init 31 = .ok (.newarray .boolean, 2) := by decide +kernel
theorem dX10_init_33 : decode cX10_init 33 = .ok (.putfield 19, 3) := by decide +kernel
theorem dX10_init_36 : decode cX10_init 36 = .ok (.aload_n 0, 1) := by decide +kernel
theorem dX10_init_37 : decode cX10_init 37 = .ok (.bipush 12, 2) := by decide +kernel
theorem dX10_init_39 : decode cX10_init 39 = .ok (.newarray .boolean, 2) := by decide +kernel
theorem dX10_init_41 : decode cX10_init 41 = .ok (.putfield 23, 3) := by decide +kernel
theorem dX10_init_44 : decode cX10_init 44 = .ok (.aload_n 0, 1) := by decide +kernel
theorem dX10_init_45 : decode cX10_init 45 = .ok (.bipush 72, 2) := by decide +kernel
theorem dX10_init_47 : decode cX10_init 47 = .ok (.newarray .int, 2) := by decide +kernel
theorem dX10_init_49 : decode cX10_init 49 = .ok (.putfield 26, 3) := by decide +kernel
theorem dX10_init_52 : decode cX10_init 52 = .ok (.aload_n 0, 1) := by decide +kernel
theorem dX10_init_53 : decode cX10_init 53 = .ok (.bipush 12, 2) := by decide +kernel
theorem dX10_init_55 : decode cX10_init 55 = .ok (.newarray .int, 2) := by decide +kernel
theorem dX10_init_57 : decode cX10_init 57 = .ok (.putfield 29, 3) := by decide +kernel
theorem dX10_init_60 : decode cX10_init 60 = .ok (.aload_n 0, 1) := by decide +kernel
theorem dX10_init_61 : decode cX10_init 61 = .ok (.bipush 12, 2) := by decide +kernel
theorem dX10_init_63 : decode cX10_init 63 = .ok (.newarray .int, 2) := by decide +kernel
theorem dX10_init_65 : decode cX10_init 65 = .ok (.putfield 32, 3) := by decide +kernel
theorem dX10_init_68 : decode cX10_init 68 = .ok (.aload_n 0, 1) := by decide +kernel
theorem dX10_init_69 : decode cX10_init 69 = .ok (.bipush 12, 2) := by decide +kernel
theorem dX10_init_71 : decode cX10_init 71 = .ok (.newarray .int, 2) := by decide +kernel
theorem dX10_init_73 : decode cX10_init 73 = .ok (.putfield 35, 3) := by decide +kernel
theorem dX10_init_76 : decode cX10_init 76 = .ok (.aload_n 0, 1) := by decide +kernel
theorem dX10_init_77 : decode cX10_init 77 = .ok (.bipush 12, 2) := by decide +kernel
theorem dX10_init_79 : decode cX10_init 79 = .ok (.newarray .boolean, 2) := by decide +kernel
theorem dX10_init_81 : decode cX10_init 81 = .ok (.putfield 38, 3) := by decide +kernel
theorem dX10_init_84 : decode cX10_init 84 = .ok (.aload_n 0, 1) := by decide +kernel
theorem dX10_init_85 : decode cX10_init 85 = .ok (.bipush 12, 2) := by decide +kernel
theorem dX10_init_87 : decode cX10_init 87 = .ok (.newarray .boolean, 2) := by decide +kernel
theorem dX10_init_89 : decode cX10_init 89 = .ok (.putfield 41, 3) := by decide +kernel
theorem dX10_init_92 : decode cX10_init 92 = .ok (.aload_n 0, 1) := by decide +kernel
theorem dX10_init_93 : decode cX10_init 93 = .ok (.bipush 30, 2) := by decide +kernel
theorem dX10_init_95 : decode cX10_init 95 = .ok (.putfield 44, 3) := by decide +kernel
theorem dX10_init_98 : decode cX10_init 98 = .ok (.aload_n 0, 1) := by decide +kernel
theorem dX10_init_99 : decode cX10_init 99 = .ok (.iconst 5, 1) := by decide +kernel
theorem dX10_init_100 : decode cX10_init 100 = .ok (.putfield 48, 3) := by decide +kernel
theorem dX10_init_103 : decode cX10_init 103 = .ok (.aload_n 0, 1) := by decide +kernel
theorem dX10_init_104 : decode cX10_init 104 = .ok (.bipush 10, 2) := by decide +kernel
theorem dX10_init_106 : decode cX10_init 106 = .ok (.putfield 51, 3) := by decide +kernel
theorem dX10_init_109 : decode cX10_init 109 = .ok (.aload_n 0, 1) := by decide +kernel
theorem dX10_init_110 : decode cX10_init 110 = .ok (.bipush 6, 2) := by decide +kernel
theorem dX10_init_112 : decode cX10_init 112 = .ok (.newarray .int, 2) := by decide +kernel
theorem dX10_init_114 : decode cX10_init 114 = .ok (.putfield 54, 3) := by decide +kernel
theorem dX10_init_117 : decode cX10_init 117 = .ok (.aload_n 0, 1) := by decide +kernel
theorem dX10_init_118 : decode cX10_init 118 = .ok (.bipush 8, 2) := by decide +kernel
theorem dX10_init_120 : decode cX10_init 120 = .ok (.newarray .int, 2) := by decide +kernel
theorem dX10_init_122 : decode cX10_init 122 = .ok (.putfield 57, 3) := by decide +kernel
theorem dX10_init_125 : decode cX10_init 125 = .ok (.aload_n 0, 1) := by decide +kernel
theorem dX10_init_126 : decode cX10_init 126 = .ok (.bipush 32, 2) := by decide +kernel
theorem dX10_init_128 : decode cX10_init 128 = .ok (.newarray .int, 2) := by decide +kernel
theorem dX10_init_130 : decode cX10_init 130 = .ok (.putfield 60, 3) := by decide +kernel
theorem dX10_init_133 : decode cX10_init 133 = .ok (.aload_n 0, 1) := by decide +kernel
theorem dX10_init_134 : decode cX10_init 134 = .ok (.bipush 32, 2) := by decide +kernel
theorem dX10_init_136 : decode cX10_init 136 = .ok (.newarray .int, 2) := by decide +kernel
theorem dX10_init_138 : decode cX10_init 138 = .ok (.putfield 63, 3) := by decide +kernel
theorem dX10_init_141 : decode cX10_init 141 = .ok (.aload_n 0, 1) := by decide +kernel
theorem dX10_init_142 : decode cX10_init 142 = .ok (.iconst 2, 1) := by decide +kernel
theorem dX10_init_143 : decode cX10_init 143 = .ok (.newarray .int, 2) := by decide +kernel
theorem dX10_init_145 : decode cX10_init 145 = .ok (.putfield 66, 3) := by decide +kernel
theorem dX10_init_148 : decode cX10_init 148 = .ok (.aload_n 0, 1) := by decide +kernel
theorem dX10_init_149 : decode cX10_init 149 = .ok (.iconst 2, 1) := by decide +kernel
theorem dX10_init_150 : decode cX10_init 150 = .ok (.newarray .int, 2) := by decide +kernel
theorem dX10_init_152 : decode cX10_init 152 = .ok (.putfield 69, 3) := by decide +kernel
theorem dX10_init_155 : decode cX10_init 155 = .ok (.aload_n 0, 1) := by decide +kernel
theorem dX10_init_156 : decode cX10_init 156 = .ok (.iconst 2, 1) := by decide +kernel
theorem dX10_init_157 : decode cX10_init 157 = .ok (.newarray .int, 2) := by decide +kernel
theorem dX10_init_159 : decode cX10_init 159 = .ok (.putfield 72, 3) := by decide +kernel
theorem dX10_init_162 : decode cX10_init 162 = .ok (.aload_n 0, 1) := by decide +kernel
theorem dX10_init_163 : decode cX10_init 163 = .ok (.bipush 8, 2) := by decide +kernel
theorem dX10_init_165 : decode cX10_init 165 = .ok (.newarray .int, 2) := by decide +kernel
theorem dX10_init_167 : decode cX10_init 167 = .ok (.putfield 75, 3) := by decide +kernel
theorem dX10_init_170 : decode cX10_init 170 = .ok (.aload_n 0, 1) := by decide +kernel
theorem dX10_init_171 : decode cX10_init 171 = .ok (.bipush 8, 2) := by decide +kernel
theorem dX10_init_173 : decode cX10_init 173 = .ok (.newarray .int, 2) := by decide +kernel
theorem dX10_init_175 : decode cX10_init 175 = .ok (.putfield 78, 3) := by decide +kernel
theorem dX10_init_178 : decode cX10_init 178 = .ok (.aload_n 0, 1) := by decide +kernel
theorem dX10_init_179 : decode cX10_init 179 = .ok (.iconst (-1), 1) := by decide +kernel
theorem dX10_init_180 : decode cX10_init 180 = .ok (.putfield 81, 3) := by decide +kernel
theorem dX10_init_183 : decode cX10_init 183 = .ok (.aload_n 0, 1) := by decide +kernel
theorem dX10_init_184 : decode cX10_init 184 = .ok (.iconst (-1), 1) := by decide +kernel
theorem dX10_init_185 : decode cX10_init 185 = .ok (.putfield 84, 3) := by decide +kernel
theorem dX10_init_188 : decode cX10_init 188 = .ok (.aload_n 0, 1) := by decide +kernel
theorem dX10_init_189 : decode cX10_init 189 = .ok (.bipush 20, 2) := by decide +kernel
theorem dX10_init_191 : decode cX10_init 191 = .ok (.newarray .int, 2) := by decide +kernel
theorem dX10_init_193 : decode cX10_init 193 = .ok (.putfield 87, 3) := by decide +kernel
theorem dX10_init_196 : decode cX10_init 196 = .ok (.aload_n 0, 1) := by decide +kernel
theorem dX10_init_197 : decode cX10_init 197 = .ok (.iconst 2, 1) := by decide +kernel
theorem dX10_init_198 : decode cX10_init 198 = .ok (.newarray .int, 2) := by decide +kernel
theorem dX10_init_200 : decode cX10_init 200 = .ok (.putfield 90, 3) := by decide +kernel
theorem dX10_init_203 : decode cX10_init 203 = .ok (.aload_n 0, 1) := by decide +kernel
theorem dX10_init_204 : decode cX10_init 204 = .ok (.iconst 2, 1) := by decide +kernel
theorem dX10_init_205 : decode cX10_init 205 = .ok (.newarray .int, 2) := by decide +kernel
theorem dX10_init_207 : decode cX10_init 207 = .ok (.putfield 93, 3) := by decide +kernel
theorem dX10_init_210 : decode cX10_init 210 = .ok (.aload_n 0, 1) := by decide +kernel
theorem dX10_init_211 : decode cX10_init 211 = .ok (.bipush 9, 2) := by decide +kernel
theorem dX10_init_213 : decode cX10_init 213 = .ok (.newarray .int, 2) := by decide +kernel
theorem dX10_init_215 : decode cX10_init 215 = .ok (.putfield 96, 3) := by decide +kernel
theorem dX10_init_218 : decode cX10_init 218 = .ok (.return_, 1) := by decide +kernel
theorem dX10_isIn_0 : decode cX10_isIn 0 = .ok (.iload_n 0, 1) := by decide +kernel
theorem dX10_isIn_1 : decode cX10_isIn 1 = .ok (.iload_n 1, 1) := by decide +kernel
theorem dX10_isIn_2 : decode cX10_isIn 2 = .ok (.if_icmp .lt 12, 3) := by decide +kernel
theorem dX10_isIn_5 : decode cX10_isIn 5 = .ok (.iload_n 0, 1) := by decide +kernel
theorem dX10_isIn_6 : decode cX10_isIn 6 = .ok (.iload_n 2, 1) := by decide +kernel
theorem dX10_isIn_7 : decode cX10_isIn 7 = .ok (.if_icmp .gt 7, 3) := by decide +kernel
theorem dX10_isIn_10 : decode cX10_isIn 10 = .ok (.iconst 1, 1) := by decide +kernel
theorem dX10_isIn_11 : decode cX10_isIn 11 = .ok (.goto 4, 3) := by decide +kernel
theorem dX10_isIn_14 : decode cX10_isIn 14 = .ok (.iconst 0, 1) := by decide +kernel
theorem dX10_isIn_15 : decode cX10_isIn 15 = .ok (.ireturn, 1) := by decide +kernel
theorem dX10_isField_0 : decode cX10_isField 0 = .ok (.iload_n 1, 1) := by decide +kernel
theorem dX10_isField_1 : decode cX10_isField 1 = .ok (.iconst 0, 1) := by decide +kernel
theorem dX10_isField_2 : decode cX10_isField 2 = .ok (.aload_n 0, 1) := by decide +kernel
theorem dX10_isField_3 : decode cX10_isField 3 = .ok (.getfield 99, 3) := by decide +kernel
theorem dX10_isField_6 : decode cX10_isField 6 = .ok (.iconst 1, 1) := by decide +kernel
theorem dX10_isField_7 : decode cX10_isField 7 = .ok (.isub, 1) := by decide +kernel
theorem dX10_isField_8 : decode cX10_isField 8 = .ok (.invokestatic 102, 3) := by decide +kernel
theorem dX10_isField_11 : decode cX10_isField 11 = .ok (.ireturn, 1) := by decide +kernel
theorem dX10_isNew_0 : decode cX10_isNew 0 = .ok (.iload_n 1, 1) := by decide +kernel
theorem dX10_isNew_1 : decode cX10_isNew 1 = .ok (.bipush 20, 2) := by decide +kernel
theorem dX10_isNew_3 : decode cX10_isNew 3 = .ok (.bipush 59, 2) := by decide +kernel
theorem dX10_isNew_5 : decode cX10_isNew 5 = .ok (.invokestatic 102, 3) := by decide +kernel
theorem dX10_isNew_8 : decode cX10_isNew 8 = .ok (.ifCond .eq 19, 3) := by decide +kernel
theorem dX10_isNew_11 : decode cX10_isNew 11 = .ok (.aload_n 0, 1) := by decide +kernel
theorem dX10_isNew_12 : decode cX10_isNew 12 = .ok (.getfield 99, 3) := by decide +kernel
theorem dX10_isNew_15 : decode cX10_isNew 15 = .ok (.bipush 12, 2) := by decide +kernel
theorem dX10_isNew_17 : decode cX10_isNew 17 = .ok (.if_icmp .eq 10, 3) := by decide +kernel
theorem dX10_isNew_20 : decode cX10_isNew 20 = .ok (.aload_n 0, 1) := by decide +kernel
theorem dX10_isNew_21 : decode cX10_isNew 21 = .ok (.getfield 106, 3) := by decide +kernel
theorem dX10_isNew_24 : decode cX10_isNew 24 = .ok (.ifCond .eq 5, 3) := by decide +kernel
theorem dX10_isNew_27 : decode cX10_isNew 27 = .ok (.iconst 0, 1) := by decide +kernel
theorem dX10_isNew_28 : decode cX10_isNew 28 = .ok (.ireturn, 1) := by decide +kernel
theorem dX10_isNew_29 : decode cX10_isNew 29 = .ok (.iconst 0, 1) := by decide +kernel
theorem dX10_isNew_30 : decode cX10_isNew 30 = .ok (.istore_n 2, 1) := by decide +kernel
theorem dX10_isNew_31 : decode cX10_isNew 31 = .ok (.iload_n 2, 1) := by decide +kernel
theorem dX10_isNew_32 : decode cX10_isNew 32 = .ok (.aload_n 0, 1) := by decide +kernel
theorem dX10_isNew_33 : decode cX10_isNew 33 = .ok (.getfield 99, 3) := by decide +kernel
theorem dX10_isNew_36 : decode cX10_isNew 36 = .ok (.if_icmp .ge 21, 3) := by decide +kernel
theorem dX10_isNew_39 : decode cX10_isNew 39 = .ok (.aload_n 0, 1) := by decide +kernel
theorem dX10_isNew_40 : decode cX10_isNew 40 = .ok (.getfield 7, 3) := by decide +kernel
theorem dX10_isNew_43 : decode cX10_isNew 43 = .ok (.iload_n 2, 1) := by decide +kernel
theorem dX10_isNew_44 : decode cX10_isNew 44 = .ok (.iaload, 1) := by decide +kernel
theorem dX10_isNew_45 : decode cX10_isNew 45 = .ok (.iload_n 1, 1) := by decide +kernel
theorem dX10_isNew_46 : decode cX10_isNew 46 = .ok (.if_icmp .ne 5, 3) := by decide +kernel
theorem dX10_isNew_49 : decode cX10_isNew 49 = .ok (.iconst 0, 1) := by decide +kernel
theorem dX10_isNew_50 : decode cX10_isNew 50 = .ok (.ireturn, 1) := by decide +kernel
theorem dX10_isNew_51 : decode cX10_isNew 51 = .ok (.iinc 2 1, 3) := by decide +kernel
theorem dX10_isNew_54 : decode cX10_isNew 54 = .ok (.goto (-23), 3) := by decide +kernel
theorem dX10_isNew_57 : decode cX10_isNew 57 = .ok (.iconst 1, 1) := by decide +kernel
theorem dX10_isNew_58 : decode cX10_isNew 58 = .ok (.ireturn, 1) := by decide +kernel
theorem dX10_comes_0 : decode cX10_comes 0 = .ok (.aload_n 0, 1) := by decide +kernel
theorem dX10_comes_1 : decode cX10_comes 1 = .ok (.getfield 7, 3) := by decide +kernel
theorem dX10_comes_4 : decode cX10_comes 4 = .ok (.aload_n 0, 1) := by decide +kernel
theorem dX10_comes_5 : decode cX10_comes 5 = .ok (.getfield 99, 3) := by decide +kernel
theorem dX10_comes_8 : decode cX10_comes 8 = .ok (.iload_n 1, 1) := by decide +kernel
theorem dX10_comes_9 : decode cX10_comes 9 = .ok (.iastore, 1) := by decide +kernel
theorem dX10_comes_10 : decode cX10_comes 10 = .ok (.aload_n 0, 1) := by decide +kernel
theorem dX10_comes_11 : decode cX10_comes 11 = .ok (.getfield 23, 3) := by decide +kernel
theorem dX10_comes_14 : decode cX10_comes 14 = .ok (.aload_n 0, 1) := by decide +kernel
theorem dX10_comes_15 : decode cX10_comes 15 = .ok (.getfield 99, 3) := by decide +kernel
theorem dX10_comes_18 : decode cX10_comes 18 = .ok (.iload_n 2, 1) := by decide +kernel
theorem dX10_comes_19 : decode cX10_comes 19 = .ok (.bastore, 1) := by decide +kernel
theorem dX10_comes_20 : decode cX10_comes 20 = .ok (.aload_n 0, 1) := by decide +kernel
theorem dX10_comes_21 : decode cX10_comes 21 = .ok (.getfield 29, 3) := by decide +kernel
theorem dX10_comes_24 : decode cX10_comes 24 = .ok (.aload_n 0, 1) := by decide +kernel
theorem dX10_comes_25 : decode cX10_comes 25 = .ok (.getfield 99, 3) := by decide +kernel
theorem dX10_comes_28 : decode cX10_comes 28 = .ok (.iconst (-1), 1) := by decide +kernel
theorem dX10_comes_29 : decode cX10_comes 29 = .ok (.iastore, 1) := by decide +kernel
theorem dX10_comes_30 : decode cX10_comes 30 = .ok (.aload_n 0, 1) := by decide +kernel
theorem dX10_comes_31 : decode cX10_comes 31 = .ok (.getfield 35, 3) := by decide +kernel
theorem dX10_comes_34 : decode cX10_comes 34 = .ok (.aload_n 0, 1) := by decide +kernel
theorem dX10_comes_35 : decode cX10_comes 35 = .ok (.getfield 99, 3) := by decide +kernel
theorem dX10_comes_38 : decode cX10_comes 38 = .ok (.iconst (-1), 1) := by decide +kernel
theorem dX10_comes_39 : decode cX10_comes 39 = .ok (.iastore, 1) := by decide +kernel
theorem dX10_comes_40 : decode cX10_comes 40 = .ok (.aload_n 0, 1) := by decide +kernel
theorem dX10_comes_41 : decode cX10_comes 41 = .ok (.getfield 99, 3) := by decide +kernel
theorem dX10_comes_44 : decode cX10_comes 44 = .ok (.ifCond .ne 8, 3) := by decide +kernel
theorem dX10_comes_47 : decode cX10_comes 47 = .ok (.aload_n 0, 1) := by decide +kernel
theorem dX10_comes_48 : decode cX10_comes 48 = .ok (.iconst 0, 1) := by decide +kernel
theorem dX10_comes_49 : decode cX10_comes 49 = .ok (.putfield 81, 3) := by decide +kernel
theorem dX10_comes_52 : decode cX10_comes 52 = .ok (.aload_n 0, 1) := by decide +kernel
theorem dX10_comes_53 : decode cX10_comes 53 = .ok (.dup, 1) := by decide +kernel
theorem dX10_comes_54 : decode cX10_comes 54 = .ok (.getfield 99, 3) := by decide +kernel
theorem dX10_comes_57 : decode cX10_comes 57 = .ok (.iconst 1, 1) := by decide +kernel
theorem dX10_comes_58 : decode cX10_comes 58 = .ok (.iadd, 1) := by decide +kernel
theorem dX10_comes_59 : decode cX10_comes 59 = .ok (.putfield 99, 3) := by decide +kernel
theorem dX10_comes_62 : decode cX10_comes 62 = .ok (.aload_n 0, 1) := by decide +kernel
theorem dX10_comes_63 : decode cX10_comes 63 = .ok (.getfield 99, 3) := by decide +kernel
theorem dX10_comes_66 : decode cX10_comes 66 = .ok (.iconst 1, 1) := by decide +kernel
theorem dX10_comes_67 : decode cX10_comes 67 = .ok (.isub, 1) := by decide +kernel
theorem dX10_comes_68 : decode cX10_comes 68 = .ok (.ireturn, 1) := by decide +kernel
theorem dX10_digits_0 : decode cX10_digits 0 = .ok (.aload_n 0, 1) := by decide +kernel
theorem dX10_digits_1 : decode cX10_digits 1 = .ok (.iload_n 1, 1) := by decide +kernel
theorem dX10_digits_2 : decode cX10_digits 2 = .ok (.invokevirtual 110, 3) := by decide +kernel
theorem dX10_digits_5 : decode cX10_digits 5 = .ok (.ifCond .eq 13, 3) := by decide +kernel
theorem dX10_digits_8 : decode cX10_digits 8 = .ok (.iload_n 2, 1) := by decide +kernel
theorem dX10_digits_9 : decode cX10_digits 9 = .ok (.iconst 1, 1) := by decide +kernel
theorem dX10_digits_10 : decode cX10_digits 10 = .ok (.bipush 8, 2) := by decide +kernel
theorem dX10_digits_12 : decode cX10_digits 12 = .ok (.invokestatic 102, 3) := by decide +kernel
theorem dX10_digits_15 : decode cX10_digits 15 = .ok (.ifCond .ne 5, 3) := by decide +kernel
theorem dX10_digits_18 : decode cX10_digits 18 = .ok (.iconst (-1), 1) := by decide +kernel
theorem dX10_digits_19 : decode cX10_digits 19 = .ok (.ireturn, 1) := by decide +kernel
theorem dX10_digits_20 : decode cX10_digits 20 = .ok (.aload_n 0, 1) := by decide +kernel
theorem dX10_digits_21 : decode cX10_digits 21 = .ok (.getfield 13, 3) := by decide +kernel
theorem dX10_digits_24 : decode cX10_digits 24 = .ok (.aload_n 0, 1) := by decide +kernel
theorem dX10_digits_25 : decode cX10_digits 25 = .ok (.getfield 99, 3) := by decide +kernel
theorem dX10_digits_28 : decode cX10_digits 28 = .ok (.iload_n 2, 1) := by decide +kernel
theorem dX10_digits_29 : decode cX10_digits 29 = .ok (.iastore, 1) := by decide +kernel
theorem dX10_digits_30 : decode cX10_digits 30 = .ok (.aload_n 0, 1) := by decide +kernel
theorem dX10_digits_31 : decode cX10_digits 31 = .ok (.getfield 19, 3) := by decide +kernel
theorem dX10_digits_34 : decode cX10_digits 34 = .ok (.aload_n 0, 1) := by decide +kernel
theorem dX10_digits_35 : decode cX10_digits 35 = .ok (.getfield 99, 3) := by decide +kernel
theorem dX10_digits_38 : decode cX10_digits 38 = .ok (.iload_n 3, 1) := by decide +kernel
theorem dX10_digits_39 : decode cX10_digits 39 = .ok (.bastore, 1) := by decide +kernel
theorem dX10_digits_40 : decode cX10_digits 40 = .ok (.aload_n 0, 1) := by decide +kernel
theorem dX10_digits_41 : decode cX10_digits 41 = .ok (.iload_n 1, 1) := by decide +kernel
theorem dX10_digits_42 : decode cX10_digits 42 = .ok (.iload 4, 2) := by decide +kernel
theorem dX10_digits_44 : decode cX10_digits 44 = .ok (.invokevirtual 114, 3) := by decide +kernel
theorem dX10_digits_47 : decode cX10_digits 47 = .ok (.ireturn, 1) := by decide +kernel
theorem dX10_choice_0 : decode cX10_choice 0 = .ok (.aload_n 0, 1) := by decide +kernel
theorem dX10_choice_1 : decode cX10_choice 1 = .ok (.getfield 54, 3) := by decide +kernel
theorem dX10_choice_4 : decode cX10_choice 4 = .ok (.iconst 0, 1) := by decide +kernel
theorem dX10_choice_5 : decode cX10_choice 5 = .ok (.iload_n 3, 1) := by decide +kernel
theorem dX10_choice_6 : decode cX10_choice 6 = .ok (.iastore, 1) := by decide +kernel
theorem dX10_choice_7 : decode cX10_choice 7 = .ok (.aload_n 0, 1) := by decide +kernel
theorem dX10_choice_8 : decode cX10_choice 8 = .ok (.getfield 54, 3) := by decide +kernel
theorem dX10_choice_11 : decode cX10_choice 11 = .ok (.iconst 1, 1) := by decide +kernel
theorem dX10_choice_12 : decode cX10_choice 12 = .ok (.iload 4, 2) := by decide +kernel
theorem dX10_choice_14 : decode cX10_choice 14 = .ok (.iastore, 1) := by decide +kernel
theorem dX10_choice_15 : decode cX10_choice 15 = .ok (.aload_n 0, 1) := by decide +kernel
theorem dX10_choice_16 : decode cX10_choice 16 = .ok (.getfield 54, 3) := by decide +kernel
theorem dX10_choice_19 : decode cX10_choice 19 = .ok (.iconst 2, 1) := by decide +kernel
theorem dX10_choice_20 : decode cX10_choice 20 = .ok (.iload 5, 2) := by decide +kernel
theorem dX10_choice_22 : decode cX10_choice 22 = .ok (.iastore, 1) := by decide +kernel
theorem dX10_choice_23 : decode cX10_choice 23 = .ok (.aload_n 0, 1) := by decide +kernel
theorem dX10_choice_24 : decode cX10_choice 24 = .ok (.getfield 54, 3) := by decide +kernel
theorem dX10_choice_27 : decode cX10_choice 27 = .ok (.iconst 3, 1) := by decide +kernel
theorem dX10_choice_28 : decode cX10_choice 28 = .ok (.iload 6, 2) := by decide +kernel
theorem dX10_choice_30 : decode cX10_choice 30 = .ok (.iastore, 1) := by decide +kernel
theorem dX10_choice_31 : decode cX10_choice 31 = .ok (.aload_n 0, 1) := by decide +kernel
theorem dX10_choice_32 : decode cX10_choice 32 = .ok (.getfield 54, 3) := by decide +kernel
theorem dX10_choice_35 : decode cX10_choice 35 = .ok (.iconst 4, 1) := by decide +kernel
theorem dX10_choice_36 : decode cX10_choice 36 = .ok (.iload 7, 2) := by decide +kernel
theorem dX10_choice_38 : decode cX10_choice 38 = .ok (.iastore, 1) := by decide +kernel
theorem dX10_choice_39 : decode cX10_choice 39 = .ok (.aload_n 0, 1) := by decide +kernel
theorem dX10_choice_40 : decode cX10_choice 40 = .ok (.getfield 54, 3) := by decide +kernel
theorem dX10_choice_43 : decode cX10_choice 43 = .ok (.iconst 5, 1) := by decide +kernel
theorem dX10_choice_44 : decode cX10_choice 44 = .ok (.iload 8, 2) := by decide +kernel
theorem dX10_choice_46 : decode cX10_choice 46 = .ok (.iastore, 1) := by decide +kernel
theorem dX10_choice_47 : decode cX10_choice 47 = .ok (.iconst 0, 1) := by decide +kernel
theorem dX10_choice_48 : decode cX10_choice 48 = .ok (.istore 9, 2) := by decide +kernel
theorem dX10_choice_50 : decode cX10_choice 50 = .ok (.iload 9, 2) := by decide +kernel
theorem dX10_choice_52 : decode cX10_choice 52 = .ok (.bipush 6, 2) := by decide +kernel
theorem dX10_choice_54 : decode cX10_choice 54 = .ok (.if_icmp .ge 20, 3) := by decide +kernel
theorem dX10_choice_57 : decode cX10_choice 57 = .ok (.aload_n 0, 1) := by decide +kernel
theorem dX10_choice_58 : decode cX10_choice 58 = .ok (.getfield 54, 3) := by decide +kernel
theorem dX10_choice_61 : decode cX10_choice 61 = .ok (.iload 9, 2) := by decide +kernel
theorem dX10_choice_63 : decode cX10_choice 63 = .ok (.iaload, 1) := by decide +kernel
theorem dX10_choice_64 : decode cX10_choice 64 = .ok (.iconst (-1), 1) := by decide +kernel
theorem dX10_choice_65 : decode cX10_choice 65 = .ok (.if_icmp .eq 9, 3) := by decide +kernel
theorem dX10_choice_68 : decode cX10_choice 68 = .ok (.iinc 9 1, 3) := by decide +kernel
theorem dX10_choice_71 : decode cX10_choice 71 = .ok (.goto (-21), 3) := by decide +kernel
theorem dX10_choice_74 : decode cX10_choice 74 = .ok (.aload_n 0, 1) := by decide +kernel
theorem dX10_choice_75 : decode cX10_choice 75 = .ok (.iload_n 1, 1) := by decide +kernel
theorem dX10_choice_76 : decode cX10_choice 76 = .ok (.invokevirtual 110, 3) := by decide +kernel
theorem dX10_choice_79 : decode cX10_choice 79 = .ok (.ifCond .eq 12, 3) := by decide +kernel
theorem dX10_choice_82 : decode cX10_choice 82 = .ok (.iload 9, 2) := by decide +kernel
theorem dX10_choice_84 : decode cX10_choice 84 = .ok (.ifCond .le 7, 3) := by decide +kernel
theorem dX10_choice_87 : decode cX10_choice 87 = .ok (.iconst 1, 1) := by decide +kernel
theorem dX10_choice_88 : decode cX10_choice 88 = .ok (.goto 4, 3) := by decide +kernel
theorem dX10_choice_91 : decode cX10_choice 91 = .ok (.iconst 0, 1) := by decide +kernel
theorem dX10_choice_92 : decode cX10_choice 92 = .ok (.istore 10, 2) := by decide +kernel
theorem dX10_choice_94 : decode cX10_choice 94 = .ok (.iconst 0, 1) := by decide +kernel
theorem dX10_choice_95 : decode cX10_choice 95 = .ok (.istore 11, 2) := by decide +kernel
theorem dX10_choice_97 : decode cX10_choice 97 = .ok (.iload 11, 2) := by decide +kernel
theorem dX10_choice_99 : decode cX10_choice 99 = .ok (.iload 9, 2) := by decide +kernel
theorem dX10_choice_101 : decode cX10_choice 101 = .ok (.if_icmp .ge 83, 3) := by decide +kernel
theorem dX10_choice_104 : decode cX10_choice 104 = .ok (.iload 10, 2) := by decide +kernel
theorem dX10_choice_106 : decode cX10_choice 106 = .ok (.ifCond .eq 24, 3) := by decide +kernel
theorem dX10_choice_109 : decode cX10_choice 109 = .ok (.aload_n 0, 1) := by decide +kernel
theorem dX10_choice_110 : decode cX10_choice 110 = .ok (.getfield 54, 3) := by decide +kernel
theorem dX10_choice_113 : decode cX10_choice 113 = .ok (.iload 11, 2) := by decide +kernel
theorem dX10_choice_115 : decode cX10_choice 115 = .ok (.iaload, 1) := by decide +kernel
theorem dX10_choice_116 : decode cX10_choice 116 = .ok (.bipush 20, 2) := by decide +kernel
theorem dX10_choice_118 : decode cX10_choice 118 = .ok (.bipush 59, 2) := by decide +kernel
theorem dX10_choice_120 : decode cX10_choice 120 = .ok (.invokestatic 102, 3) := by decide +kernel
theorem dX10_choice_123 : decode cX10_choice 123 = .ok (.ifCond .eq 7, 3) := by decide +kernel
theorem dX10_choice_126 : decode cX10_choice 126 = .ok (.iconst 1, 1) := by decide +kernel
theorem dX10_choice_127 : decode cX10_choice 127 = .ok (.goto 4, 3) := by decide +kernel
theorem dX10_choice_130 : decode cX10_choice 130 = .ok (.iconst 0, 1) := by decide +kernel
theorem dX10_choice_131 : decode cX10_choice 131 = .ok (.istore 10, 2) := by decide +kernel
theorem dX10_choice_133 : decode cX10_choice 133 = .ok (.iconst 0, 1) := by decide +kernel
theorem dX10_choice_134 : decode cX10_choice 134 = .ok (.istore 12, 2) := by decide +kernel
theorem dX10_choice_136 : decode cX10_choice 136 = .ok (.iload 12, 2) := by decide +kernel
theorem dX10_choice_138 : decode cX10_choice 138 = .ok (.iload 11, 2) := by decide +kernel
theorem dX10_choice_140 : decode cX10_choice 140 = .ok (.if_icmp .ge 38, 3) := by decide +kernel
theorem dX10_choice_143 : decode cX10_choice 143 = .ok (.iload 10, 2) := by decide +kernel
theorem dX10_choice_145 : decode cX10_choice 145 = .ok (.ifCond .eq 24, 3) := by decide +kernel
theorem dX10_choice_148 : decode cX10_choice 148 = .ok (.aload_n 0, 1) := by decide +kernel
theorem dX10_choice_149 : decode cX10_choice 149 = .ok (.getfield 54, 3) := by decide +kernel
theorem dX10_choice_152 : decode cX10_choice 152 = .ok (.iload 12, 2) := by decide +kernel
theorem dX10_choice_154 : decode cX10_choice 154 = .ok (.iaload, 1) := by decide +kernel
theorem dX10_choice_155 : decode cX10_choice 155 = .ok (.aload_n 0, 1) := by decide +kernel
theorem dX10_choice_156 : decode cX10_choice 156 = .ok (.getfield 54, 3) := by decide +kernel
theorem dX10_choice_159 : decode cX10_choice 159 = .ok (.iload 11, 2) := by decide +kernel
theorem dX10_choice_161 : decode cX10_choice 161 = .ok (.iaload, 1) := by decide +kernel
theorem dX10_choice_162 : decode cX10_choice 162 = .ok (.if_icmp .eq 7, 3) := by decide +kernel
theorem dX10_choice_165 : decode cX10_choice 165 = .ok (.iconst 1, 1) := by decide +kernel
theorem dX10_choice_166 : decode cX10_choice 166 = .ok (.goto 4, 3) := by decide +kernel
theorem dX10_choice_169 : decode cX10_choice 169 = .ok (.iconst 0, 1) := by decide +kernel
theorem dX10_choice_170 : decode cX10_choice 170 = .ok (.istore 10, 2) := by decide +kernel
theorem dX10_choice_172 : decode cX10_choice 172 = .ok (.iinc 12 1, 3) := by decide +kernel
theorem dX10_choice_175 : decode cX10_choice 175 = .ok (.goto (-39), 3) := by decide +kernel
theorem dX10_choice_178 : decode cX10_choice 178 = .ok (.iinc 11 1, 3) := by decide +kernel
theorem dX10_choice_181 : decode cX10_choice 181 = .ok (.goto (-84), 3) := by decide +kernel
theorem dX10_choice_184 : decode cX10_choice 184 = .ok (.iload 10, 2) := by decide +kernel
theorem dX10_choice_186 : decode cX10_choice 186 = .ok (.ifCond .ne 5, 3) := by decide +kernel
theorem dX10_choice_189 : decode cX10_choice 189 = .ok (.iconst (-1), 1) := by decide +kernel
theorem dX10_choice_190 : decode cX10_choice 190 = .ok (.ireturn, 1) := by decide +kernel
theorem dX10_choice_191 : decode cX10_choice 191 = .ok (.iconst 0, 1) := by decide +kernel
theorem dX10_choice_192 : decode cX10_choice 192 = .ok (.istore 11, 2) := by decide +kernel
theorem dX10_choice_194 : decode cX10_choice 194 = .ok (.iload 11, 2) := by decide +kernel
theorem dX10_choice_196 : decode cX10_choice 196 = .ok (.iload 9, 2) := by decide +kernel
theorem dX10_choice_198 : decode cX10_choice 198 = .ok (.if_icmp .ge 31, 3) := by decide +kernel
theorem dX10_choice_201 : decode cX10_choice 201 = .ok (.aload_n 0, 1) := by decide +kernel
theorem dX10_choice_202 : decode cX10_choice 202 = .ok (.getfield 26, 3) := by decide +kernel
theorem dX10_choice_205 : decode cX10_choice 205 = .ok (.bipush 6, 2) := by decide +kernel
theorem dX10_choice_207 : decode cX10_choice 207 = .ok (.aload_n 0, 1) := by decide +kernel
theorem dX10_choice_208 : decode cX10_choice 208 = .ok (.getfield 99, 3) := by decide +kernel
theorem dX10_choice_211 : decode cX10_choice 211 = .ok (.imul, 1) := by decide +kernel
theorem dX10_choice_212 : decode cX10_choice 212 = .ok (.iload 11, 2) := by decide +kernel
theorem dX10_choice_214 : decode cX10_choice 214 = .ok (.iadd, 1) := by decide +kernel
theorem dX10_choice_215 : decode cX10_choice 215 = .ok (.aload_n 0, 1) := by decide +kernel
theorem dX10_choice_216 : decode cX10_choice 216 = .ok (.getfield 54, 3) := by decide +kernel
theorem dX10_choice_219 : decode cX10_choice 219 = .ok (.iload 11, 2) := by decide +kernel
theorem dX10_choice_221 : decode cX10_choice 221 = .ok (.iaload, 1) := by decide +kernel
theorem dX10_choice_222 : decode cX10_choice 222 = .ok (.iastore, 1) := by decide +kernel
theorem dX10_choice_223 : decode cX10_choice 223 = .ok (.iinc 11 1, 3) := by decide +kernel
theorem dX10_choice_226 : decode cX10_choice 226 = .ok (.goto (-32), 3) := by decide +kernel
theorem dX10_choice_229 : decode cX10_choice 229 = .ok (.aload_n 0, 1) := by decide +kernel
theorem dX10_choice_230 : decode cX10_choice 230 = .ok (.getfield 16, 3) := by decide +kernel
theorem dX10_choice_233 : decode cX10_choice 233 = .ok (.aload_n 0, 1) := by decide +kernel
theorem dX10_choice_234 : decode cX10_choice 234 = .ok (.getfield 99, 3) := by decide +kernel
theorem dX10_choice_237 : decode cX10_choice 237 = .ok (.iload 9, 2) := by decide +kernel
theorem dX10_choice_239 : decode cX10_choice 239 = .ok (.iastore, 1) := by decide +kernel
theorem dX10_choice_240 : decode cX10_choice 240 = .ok (.aload_n 0, 1) := by decide +kernel
theorem dX10_choice_241 : decode cX10_choice 241 = .ok (.iload_n 1, 1) := by decide +kernel
theorem dX10_choice_242 : decode cX10_choice 242 = .ok (.iload_n 2, 1) := by decide +kernel
theorem dX10_choice_243 : decode cX10_choice 243 = .ok (.invokevirtual 114, 3) := by decide +kernel
theorem dX10_choice_246 : decode cX10_choice 246 = .ok (.ireturn, 1) := by decide +kernel
theorem dX10_needs_0 : decode cX10_needs 0 = .ok (.aload_n 0, 1) := by decide +kernel
theorem dX10_needs_1 : decode cX10_needs 1 = .ok (.iload_n 1, 1) := by decide +kernel
theorem dX10_needs_2 : decode cX10_needs 2 = .ok (.invokevirtual 118, 3) := by decide +kernel
theorem dX10_needs_5 : decode cX10_needs 5 = .ok (.ifCond .eq 46, 3) := by decide +kernel
theorem dX10_needs_8 : decode cX10_needs 8 = .ok (.iload_n 2, 1) := by decide +kernel
theorem dX10_needs_9 : decode cX10_needs 9 = .ok (.iconst 0, 1) := by decide +kernel
theorem dX10_needs_10 : decode cX10_needs 10 = .ok (.iload_n 1, 1) := by decide +kernel
theorem dX10_needs_11 : decode cX10_needs 11 = .ok (.iconst 1, 1) := by decide +kernel
theorem dX10_needs_12 : decode cX10_needs 12 = .ok (.isub, 1) := by decide +kernel
theorem dX10_needs_13 : decode cX10_needs 13 = .ok (.invokestatic 102, 3) := by decide +kernel
theorem dX10_needs_16 : decode cX10_needs 16 = .ok (.ifCond .eq 35, 3) := by decide +kernel
theorem dX10_needs_19 : decode cX10_needs 19 = .ok (.aload_n 0, 1) := by decide +kernel
theorem dX10_needs_20 : decode cX10_needs 20 = .ok (.getfield 16, 3) := by decide +kernel
theorem dX10_needs_23 : decode cX10_needs 23 = .ok (.iload_n 2, 1) := by decide +kernel
theorem dX10_needs_24 : decode cX10_needs 24 = .ok (.iaload, 1) := by decide +kernel
theorem dX10_needs_25 : decode cX10_needs 25 = .ok (.ifCond .eq 26, 3) := by decide +kernel
theorem dX10_needs_28 : decode cX10_needs 28 = .ok (.iload_n 3, 1) := by decide +kernel
theorem dX10_needs_29 : decode cX10_needs 29 = .ok (.iconst 0, 1) := by decide +kernel
theorem dX10_needs_30 : decode cX10_needs 30 = .ok (.aload_n 0, 1) := by decide +kernel
theorem dX10_needs_31 : decode cX10_needs 31 = .ok (.getfield 16, 3) := by decide +kernel
theorem dX10_needs_34 : decode cX10_needs 34 = .ok (.iload_n 2, 1) := by decide +kernel
theorem dX10_needs_35 : decode cX10_needs 35 = .ok (.iaload, 1) := by decide +kernel
theorem dX10_needs_36 : decode cX10_needs 36 = .ok (.iconst 1, 1) := by decide +kernel
theorem dX10_needs_37 : decode cX10_needs 37 = .ok (.isub, 1) := by decide +kernel
theorem dX10_needs_38 : decode cX10_needs 38 = .ok (.invokestatic 102, 3) := by decide +kernel
theorem dX10_needs_41 : decode cX10_needs 41 = .ok (.ifCond .eq 10, 3) := by decide +kernel
theorem dX10_needs_44 : decode cX10_needs 44 = .ok (.aload_n 0, 1) := by decide +kernel
theorem dX10_needs_45 : decode cX10_needs 45 = .ok (.getfield 106, 3) := by decide +kernel
theorem dX10_needs_48 : decode cX10_needs 48 = .ok (.ifCond .eq 5, 3) := by decide +kernel
theorem dX10_needs_51 : decode cX10_needs 51 = .ok (.iconst 0, 1) := by decide +kernel
theorem dX10_needs_52 : decode cX10_needs 52 = .ok (.ireturn, 1) := by decide +kernel
theorem dX10_needs_53 : decode cX10_needs 53 = .ok (.aload_n 0, 1) := by decide +kernel
theorem dX10_needs_54 : decode cX10_needs 54 = .ok (.getfield 29, 3) := by decide +kernel
theorem dX10_needs_57 : decode cX10_needs 57 = .ok (.iload_n 1, 1) := by decide +kernel
theorem dX10_needs_58 : decode cX10_needs 58 = .ok (.iload_n 2, 1) := by decide +kernel
theorem dX10_needs_59 : decode cX10_needs 59 = .ok (.iastore, 1) := by decide +kernel
theorem dX10_needs_60 : decode cX10_needs 60 = .ok (.aload_n 0, 1) := by decide +kernel
theorem dX10_needs_61 : decode cX10_needs 61 = .ok (.getfield 32, 3) := by decide +kernel
theorem dX10_needs_64 : decode cX10_needs 64 = .ok (.iload_n 1, 1) := by decide +kernel
theorem dX10_needs_65 : decode cX10_needs 65 = .ok (.iload_n 3, 1) := by decide +kernel
theorem dX10_needs_66 : decode cX10_needs 66 = .ok (.iastore, 1) := by decide +kernel
theorem dX10_needs_67 : decode cX10_needs 67 = .ok (.iconst 1, 1) := by decide +kernel
theorem dX10_needs_68 : decode cX10_needs 68 = .ok (.ireturn, 1) := by decide +kernel
theorem dX10_costs_0 : decode cX10_costs 0 = .ok (.iload_n 1, 1) := by decide +kernel
theorem dX10_costs_1 : decode cX10_costs 1 = .ok (.iconst 0, 1) := by decide +kernel
theorem dX10_costs_2 : decode cX10_costs 2 = .ok (.bipush 99, 2) := by decide +kernel
theorem dX10_costs_4 : decode cX10_costs 4 = .ok (.invokestatic 102, 3) := by decide +kernel
theorem dX10_costs_7 : decode cX10_costs 7 = .ok (.ifCond .eq 24, 3) := by decide +kernel
theorem dX10_costs_10 : decode cX10_costs 10 = .ok (.iload_n 2, 1) := by decide +kernel
theorem dX10_costs_11 : decode cX10_costs 11 = .ok (.iconst 0, 1) := by decide +kernel
theorem dX10_costs_12 : decode cX10_costs 12 = .ok (.bipush 99, 2) := by decide +kernel
theorem dX10_costs_14 : decode cX10_costs 14 = .ok (.invokestatic 102, 3) := by decide +kernel
theorem dX10_costs_17 : decode cX10_costs 17 = .ok (.ifCond .eq 14, 3) := by decide +kernel
theorem dX10_costs_20 : decode cX10_costs 20 = .ok (.iload_n 3, 1) := by decide +kernel
theorem dX10_costs_21 : decode cX10_costs 21 = .ok (.iconst 0, 1) := by decide +kernel
theorem dX10_costs_22 : decode cX10_costs 22 = .ok (.sipush 200, 3) := by decide +kernel
theorem dX10_costs_25 : decode cX10_costs 25 = .ok (.invokestatic 102, 3) := by decide +kernel
theorem dX10_costs_28 : decode cX10_costs 28 = .ok (.ifCond .ne 5, 3) := by decide +kernel
theorem dX10_costs_31 : decode cX10_costs 31 = .ok (.iconst 0, 1) := by decide +kernel
theorem dX10_costs_32 : decode cX10_costs 32 = .ok (.ireturn, 1) := by decide +kernel
theorem dX10_costs_33 : decode cX10_costs 33 = .ok (.aload_n 0, 1) := by decide +kernel
theorem dX10_costs_34 : decode cX10_costs 34 = .ok (.iload_n 1, 1) := by decide +kernel
theorem dX10_costs_35 : decode cX10_costs 35 = .ok (.putfield 44, 3) := by decide +kernel
theorem dX10_costs_38 : decode cX10_costs 38 = .ok (.aload_n 0, 1) := by decide +kernel
theorem dX10_costs_39 : decode cX10_costs 39 = .ok (.iload_n 2, 1) := by decide +kernel
theorem dX10_costs_40 : decode cX10_costs 40 = .ok (.putfield 48, 3) := by decide +kernel
theorem dX10_costs_43 : decode cX10_costs 43 = .ok (.aload_n 0, 1) := by decide +kernel
theorem dX10_costs_44 : decode cX10_costs 44 = .ok (.iload_n 3, 1) := by decide +kernel
theorem dX10_costs_45 : decode cX10_costs 45 = .ok (.putfield 51, 3) := by decide +kernel
theorem dX10_costs_48 : decode cX10_costs 48 = .ok (.iconst 1, 1) := by decide +kernel
theorem dX10_costs_49 : decode cX10_costs 49 = .ok (.ireturn, 1) := by decide +kernel
theorem dX10_isAsked_0 : decode cX10_isAsked 0 = .ok (.iload_n 1, 1) := by decide +kernel
theorem dX10_isAsked_1 : decode cX10_isAsked 1 = .ok (.istore_n 2, 1) := by decide +kernel
theorem dX10_isAsked_2 : decode cX10_isAsked 2 = .ok (.aload_n 0, 1) := by decide +kernel
theorem dX10_isAsked_3 : decode cX10_isAsked 3 = .ok (.getfield 29, 3) := by decide +kernel
theorem dX10_isAsked_6 : decode cX10_isAsked 6 = .ok (.iload_n 2, 1) := by decide +kernel
theorem dX10_isAsked_7 : decode cX10_isAsked 7 = .ok (.iaload, 1) := by decide +kernel
theorem dX10_isAsked_8 : decode cX10_isAsked 8 = .ok (.ifCond .lt 35, 3) := by decide +kernel
theorem dX10_isAsked_11 : decode cX10_isAsked 11 = .ok (.aload_n 0, 1) := by decide +kernel
theorem dX10_isAsked_12 : decode cX10_isAsked 12 = .ok (.getfield 35, 3) := by decide +kernel
theorem dX10_isAsked_15 : decode cX10_isAsked 15 = .ok (.aload_n 0, 1) := by decide +kernel
theorem dX10_isAsked_16 : decode cX10_isAsked 16 = .ok (.getfield 29, 3) := by decide +kernel
theorem dX10_isAsked_19 : decode cX10_isAsked 19 = .ok (.iload_n 2, 1) := by decide +kernel
theorem dX10_isAsked_20 : decode cX10_isAsked 20 = .ok (.iaload, 1) := by decide +kernel
theorem dX10_isAsked_21 : decode cX10_isAsked 21 = .ok (.iaload, 1) := by decide +kernel
theorem dX10_isAsked_22 : decode cX10_isAsked 22 = .ok (.aload_n 0, 1) := by decide +kernel
theorem dX10_isAsked_23 : decode cX10_isAsked 23 = .ok (.getfield 32, 3) := by decide +kernel
theorem dX10_isAsked_26 : decode cX10_isAsked 26 = .ok (.iload_n 2, 1) := by decide +kernel
theorem dX10_isAsked_27 : decode cX10_isAsked 27 = .ok (.iaload, 1) := by decide +kernel
theorem dX10_isAsked_28 : decode cX10_isAsked 28 = .ok (.if_icmp .eq 5, 3) := by decide +kernel
theorem dX10_isAsked_31 : decode cX10_isAsked 31 = .ok (.iconst 0, 1) := by decide +kernel
theorem dX10_isAsked_32 : decode cX10_isAsked 32 = .ok (.ireturn, 1) := by decide +kernel
theorem dX10_isAsked_33 : decode cX10_isAsked 33 = .ok (.aload_n 0, 1) := by decide +kernel
theorem dX10_isAsked_34 : decode cX10_isAsked 34 = .ok (.getfield 29, 3) := by decide +kernel
theorem dX10_isAsked_37 : decode cX10_isAsked 37 = .ok (.iload_n 2, 1) := by decide +kernel
theorem dX10_isAsked_38 : decode cX10_isAsked 38 = .ok (.iaload, 1) := by decide +kernel
theorem dX10_isAsked_39 : decode cX10_isAsked 39 = .ok (.istore_n 2, 1) := by decide +kernel
theorem dX10_isAsked_40 : decode cX10_isAsked 40 = .ok (.goto (-38), 3) := by decide +kernel
theorem dX10_isAsked_43 : decode cX10_isAsked 43 = .ok (.iconst 1, 1) := by decide +kernel
theorem dX10_isAsked_44 : decode cX10_isAsked 44 = .ok (.ireturn, 1) := by decide +kernel
theorem dX10_place_0 : decode cX10_place 0 = .ok (.aload_n 0, 1) := by decide +kernel
theorem dX10_place_1 : decode cX10_place 1 = .ok (.getfield 121, 3) := by decide +kernel
theorem dX10_place_4 : decode cX10_place 4 = .ok (.bipush 8, 2) := by decide +kernel
theorem dX10_place_6 : decode cX10_place 6 = .ok (.if_icmp .ne 5, 3) := by decide +kernel
theorem dX10_place_9 : decode cX10_place 9 = .ok (.iconst (-1), 1) := by decide +kernel
theorem dX10_place_10 : decode cX10_place 10 = .ok (.ireturn, 1) := by decide +kernel
theorem dX10_place_11 : decode cX10_place 11 = .ok (.aload_n 0, 1) := by decide +kernel
theorem dX10_place_12 : decode cX10_place 12 = .ok (.getfield 57, 3) := by decide +kernel
theorem dX10_place_15 : decode cX10_place 15 = .ok (.aload_n 0, 1) := by decide +kernel
theorem dX10_place_16 : decode cX10_place 16 = .ok (.getfield 121, 3) := by decide +kernel
theorem dX10_place_19 : decode cX10_place 19 = .ok (.iconst 0, 1) := by decide +kernel
theorem dX10_place_20 : decode cX10_place 20 = .ok (.iastore, 1) := by decide +kernel
theorem dX10_place_21 : decode cX10_place 21 = .ok (.aload_n 0, 1) := by decide +kernel
theorem dX10_place_22 : decode cX10_place 22 = .ok (.dup, 1) := by decide +kernel
theorem dX10_place_23 : decode cX10_place 23 = .ok (.getfield 121, 3) := by decide +kernel
theorem dX10_place_26 : decode cX10_place 26 = .ok (.iconst 1, 1) := by decide +kernel
theorem dX10_place_27 : decode cX10_place 27 = .ok (.iadd, 1) := by decide +kernel
