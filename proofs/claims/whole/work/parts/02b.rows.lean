/-! printed: decode rows -/
theorem dX0_init_0 : decode cX0_init 0 = .ok (.aload_n 0, 1) := by decide +kernel
theorem dX0_init_1 : decode cX0_init 1 = .ok (.invokespecial 3, 3) := by decide +kernel
theorem dX0_init_4 : decode cX0_init 4 = .ok (.aload_n 0, 1) := by decide +kernel
theorem dX0_init_5 : decode cX0_init 5 = .ok (.new 9, 3) := by decide +kernel
theorem dX0_init_8 : decode cX0_init 8 = .ok (.dup, 1) := by decide +kernel
theorem dX0_init_9 : decode cX0_init 9 = .ok (.sipush 180, 3) := by decide +kernel
theorem dX0_init_12 : decode cX0_init 12 = .ok (.invokespecial 13, 3) := by decide +kernel
theorem dX0_init_15 : decode cX0_init 15 = .ok (.putfield 16, 3) := by decide +kernel
theorem dX0_init_18 : decode cX0_init 18 = .ok (.return_, 1) := by decide +kernel
theorem dX0_clear_0 : decode cX0_clear 0 = .ok (.aload_n 0, 1) := by decide +kernel
theorem dX0_clear_1 : decode cX0_clear 1 = .ok (.getfield 16, 3) := by decide +kernel
theorem dX0_clear_4 : decode cX0_clear 4 = .ok (.invokevirtual 20, 3) := by decide +kernel
theorem dX0_clear_7 : decode cX0_clear 7 = .ok (.aload_n 0, 1) := by decide +kernel
theorem dX0_clear_8 : decode cX0_clear 8 = .ok (.iload_n 1, 1) := by decide +kernel
theorem dX0_clear_9 : decode cX0_clear 9 = .ok (.putfield 23, 3) := by decide +kernel
theorem dX0_clear_12 : decode cX0_clear 12 = .ok (.aload_n 0, 1) := by decide +kernel
theorem dX0_clear_13 : decode cX0_clear 13 = .ok (.iload_n 2, 1) := by decide +kernel
theorem dX0_clear_14 : decode cX0_clear 14 = .ok (.putfield 27, 3) := by decide +kernel
theorem dX0_clear_17 : decode cX0_clear 17 = .ok (.return_, 1) := by decide +kernel
theorem dX0_begin_0 : decode cX0_begin 0 = .ok (.aload_n 0, 1) := by decide +kernel
theorem dX0_begin_1 : decode cX0_begin 1 = .ok (.getfield 16, 3) := by decide +kernel
theorem dX0_begin_4 : decode cX0_begin 4 = .ok (.iconst 0, 1) := by decide +kernel
theorem dX0_begin_5 : decode cX0_begin 5 = .ok (.iload_n 1, 1) := by decide +kernel
theorem dX0_begin_6 : decode cX0_begin 6 = .ok (.iconst 0, 1) := by decide +kernel
theorem dX0_begin_7 : decode cX0_begin 7 = .ok (.invokevirtual 31, 3) := by decide +kernel
theorem dX0_begin_10 : decode cX0_begin 10 = .ok (.return_, 1) := by decide +kernel
theorem dX0_hearPlace_0 : decode cX0_hearPlace 0 = .ok (.iconst 2, 1) := by decide +kernel
theorem dX0_hearPlace_1 : decode cX0_hearPlace 1 = .ok (.aload_n 0, 1) := by decide +kernel
theorem dX0_hearPlace_2 : decode cX0_hearPlace 2 = .ok (.getfield 23, 3) := by decide +kernel
theorem dX0_hearPlace_5 : decode cX0_hearPlace 5 = .ok (.imul, 1) := by decide +kernel
theorem dX0_hearPlace_6 : decode cX0_hearPlace 6 = .ok (.iconst 1, 1) := by decide +kernel
theorem dX0_hearPlace_7 : decode cX0_hearPlace 7 = .ok (.isub, 1) := by decide +kernel
theorem dX0_hearPlace_8 : decode cX0_hearPlace 8 = .ok (.istore 4, 2) := by decide +kernel
theorem dX0_hearPlace_10 : decode cX0_hearPlace 10 = .ok (.iload 4, 2) := by decide +kernel
theorem dX0_hearPlace_12 : decode cX0_hearPlace 12 = .ok (.ifCond .lt 72, 3) := by decide +kernel
theorem dX0_hearPlace_15 : decode cX0_hearPlace 15 = .ok (.iconst 0, 1) := by decide +kernel
theorem dX0_hearPlace_16 : decode cX0_hearPlace 16 = .ok (.istore 5, 2) := by decide +kernel
theorem dX0_hearPlace_18 : decode cX0_hearPlace 18 = .ok (.iload 5, 2) := by decide +kernel
theorem dX0_hearPlace_20 : decode cX0_hearPlace 20 = .ok (.aload_n 1, 1) := by decide +kernel
theorem dX0_hearPlace_21 : decode cX0_hearPlace 21 = .ok (.iload_n 2, 1) := by decide +kernel
theorem dX0_hearPlace_22 : decode cX0_hearPlace 22 = .ok (.invokevirtual 35, 3) := by decide +kernel
theorem dX0_hearPlace_25 : decode cX0_hearPlace 25 = .ok (.if_icmp .ge 53, 3) := by decide +kernel
theorem dX0_hearPlace_28 : decode cX0_hearPlace 28 = .ok (.aload_n 1, 1) := by decide +kernel
theorem dX0_hearPlace_29 : decode cX0_hearPlace 29 = .ok (.iload_n 2, 1) := by decide +kernel
theorem dX0_hearPlace_30 : decode cX0_hearPlace 30 = .ok (.iload 5, 2) := by decide +kernel
theorem dX0_hearPlace_32 : decode cX0_hearPlace 32 = .ok (.invokevirtual 41, 3) := by decide +kernel
theorem dX0_hearPlace_35 : decode cX0_hearPlace 35 = .ok (.istore 6, 2) := by decide +kernel
theorem dX0_hearPlace_37 : decode cX0_hearPlace 37 = .ok (.aload_n 0, 1) := by decide +kernel
theorem dX0_hearPlace_38 : decode cX0_hearPlace 38 = .ok (.iload 4, 2) := by decide +kernel
theorem dX0_hearPlace_40 : decode cX0_hearPlace 40 = .ok (.iload 6, 2) := by decide +kernel
theorem dX0_hearPlace_42 : decode cX0_hearPlace 42 = .ok (.invokevirtual 45, 3) := by decide +kernel
theorem dX0_hearPlace_45 : decode cX0_hearPlace 45 = .ok (.istore 7, 2) := by decide +kernel
theorem dX0_hearPlace_47 : decode cX0_hearPlace 47 = .ok (.iload 7, 2) := by decide +kernel
theorem dX0_hearPlace_49 : decode cX0_hearPlace 49 = .ok (.iconst (-1), 1) := by decide +kernel
theorem dX0_hearPlace_50 : decode cX0_hearPlace 50 = .ok (.if_icmp .eq 22, 3) := by decide +kernel
theorem dX0_hearPlace_53 : decode cX0_hearPlace 53 = .ok (.aload_n 0, 1) := by decide +kernel
theorem dX0_hearPlace_54 : decode cX0_hearPlace 54 = .ok (.iload 4, 2) := by decide +kernel
theorem dX0_hearPlace_56 : decode cX0_hearPlace 56 = .ok (.iload 7, 2) := by decide +kernel
theorem dX0_hearPlace_58 : decode cX0_hearPlace 58 = .ok (.iload 6, 2) := by decide +kernel
theorem dX0_hearPlace_60 : decode cX0_hearPlace 60 = .ok (.aload_n 1, 1) := by decide +kernel
theorem dX0_hearPlace_61 : decode cX0_hearPlace 61 = .ok (.iload_n 2, 1) := by decide +kernel
theorem dX0_hearPlace_62 : decode cX0_hearPlace 62 = .ok (.iload 5, 2) := by decide +kernel
theorem dX0_hearPlace_64 : decode cX0_hearPlace 64 = .ok (.invokevirtual 48, 3) := by decide +kernel
theorem dX0_hearPlace_67 : decode cX0_hearPlace 67 = .ok (.iload_n 3, 1) := by decide +kernel
theorem dX0_hearPlace_68 : decode cX0_hearPlace 68 = .ok (.isub, 1) := by decide +kernel
theorem dX0_hearPlace_69 : decode cX0_hearPlace 69 = .ok (.invokevirtual 51, 3) := by decide +kernel
theorem dX0_hearPlace_72 : decode cX0_hearPlace 72 = .ok (.iinc 5 1, 3) := by decide +kernel
theorem dX0_hearPlace_75 : decode cX0_hearPlace 75 = .ok (.goto (-57), 3) := by decide +kernel
theorem dX0_hearPlace_78 : decode cX0_hearPlace 78 = .ok (.iinc 4 (-1), 3) := by decide +kernel
theorem dX0_hearPlace_81 : decode cX0_hearPlace 81 = .ok (.goto (-71), 3) := by decide +kernel
theorem dX0_hearPlace_84 : decode cX0_hearPlace 84 = .ok (.return_, 1) := by decide +kernel
theorem dX0_cost_0 : decode cX0_cost 0 = .ok (.aload_n 0, 1) := by decide +kernel
theorem dX0_cost_1 : decode cX0_cost 1 = .ok (.getfield 16, 3) := by decide +kernel
theorem dX0_cost_4 : decode cX0_cost 4 = .ok (.iconst 2, 1) := by decide +kernel
theorem dX0_cost_5 : decode cX0_cost 5 = .ok (.aload_n 0, 1) := by decide +kernel
theorem dX0_cost_6 : decode cX0_cost 6 = .ok (.getfield 23, 3) := by decide +kernel
theorem dX0_cost_9 : decode cX0_cost 9 = .ok (.imul, 1) := by decide +kernel
theorem dX0_cost_10 : decode cX0_cost 10 = .ok (.bipush 10, 2) := by decide +kernel
theorem dX0_cost_12 : decode cX0_cost 12 = .ok (.imul, 1) := by decide +kernel
theorem dX0_cost_13 : decode cX0_cost 13 = .ok (.iload_n 1, 1) := by decide +kernel
theorem dX0_cost_14 : decode cX0_cost 14 = .ok (.invokevirtual 55, 3) := by decide +kernel
theorem dX0_cost_17 : decode cX0_cost 17 = .ok (.ireturn, 1) := by decide +kernel
theorem dX0_value_0 : decode cX0_value 0 = .ok (.aload_n 0, 1) := by decide +kernel
theorem dX0_value_1 : decode cX0_value 1 = .ok (.getfield 16, 3) := by decide +kernel
theorem dX0_value_4 : decode cX0_value 4 = .ok (.iconst 2, 1) := by decide +kernel
theorem dX0_value_5 : decode cX0_value 5 = .ok (.aload_n 0, 1) := by decide +kernel
theorem dX0_value_6 : decode cX0_value 6 = .ok (.getfield 23, 3) := by decide +kernel
theorem dX0_value_9 : decode cX0_value 9 = .ok (.imul, 1) := by decide +kernel
theorem dX0_value_10 : decode cX0_value 10 = .ok (.bipush 10, 2) := by decide +kernel
theorem dX0_value_12 : decode cX0_value 12 = .ok (.imul, 1) := by decide +kernel
theorem dX0_value_13 : decode cX0_value 13 = .ok (.iload_n 1, 1) := by decide +kernel
theorem dX0_value_14 : decode cX0_value 14 = .ok (.invokevirtual 58, 3) := by decide +kernel
theorem dX0_value_17 : decode cX0_value 17 = .ok (.ireturn, 1) := by decide +kernel
theorem dX0_standBehind_0 : decode cX0_standBehind 0 = .ok (.iload_n 1, 1) := by decide +kernel
theorem dX0_standBehind_1 : decode cX0_standBehind 1 = .ok (.iconst 2, 1) := by decide +kernel
theorem dX0_standBehind_2 : decode cX0_standBehind 2 = .ok (.irem, 1) := by decide +kernel
theorem dX0_standBehind_3 : decode cX0_standBehind 3 = .ok (.iconst 1, 1) := by decide +kernel
theorem dX0_standBehind_4 : decode cX0_standBehind 4 = .ok (.if_icmp .ne 7, 3) := by decide +kernel
theorem dX0_standBehind_7 : decode cX0_standBehind 7 = .ok (.iconst 1, 1) := by decide +kernel
theorem dX0_standBehind_8 : decode cX0_standBehind 8 = .ok (.goto 4, 3) := by decide +kernel
theorem dX0_standBehind_11 : decode cX0_standBehind 11 = .ok (.iconst 0, 1) := by decide +kernel
theorem dX0_standBehind_12 : decode cX0_standBehind 12 = .ok (.istore_n 3, 1) := by decide +kernel
theorem dX0_standBehind_13 : decode cX0_standBehind 13 = .ok (.iload_n 2, 1) := by decide +kernel
theorem dX0_standBehind_14 : decode cX0_standBehind 14 = .ok (.bipush 10, 2) := by decide +kernel
theorem dX0_standBehind_16 : decode cX0_standBehind 16 = .ok (.if_icmp .ne 23, 3) := by decide +kernel
theorem dX0_standBehind_19 : decode cX0_standBehind 19 = .ok (.iload_n 3, 1) := by decide +kernel
theorem dX0_standBehind_20 : decode cX0_standBehind 20 = .ok (.ifCond .ne 19, 3) := by decide +kernel
theorem dX0_standBehind_23 : decode cX0_standBehind 23 = .ok (.iload_n 1, 1) := by decide +kernel
theorem dX0_standBehind_24 : decode cX0_standBehind 24 = .ok (.iconst 4, 1) := by decide +kernel
theorem dX0_standBehind_25 : decode cX0_standBehind 25 = .ok (.iadd, 1) := by decide +kernel
theorem dX0_standBehind_26 : decode cX0_standBehind 26 = .ok (.iconst 2, 1) := by decide +kernel
theorem dX0_standBehind_27 : decode cX0_standBehind 27 = .ok (.aload_n 0, 1) := by decide +kernel
theorem dX0_standBehind_28 : decode cX0_standBehind 28 = .ok (.getfield 23, 3) := by decide +kernel
theorem dX0_standBehind_31 : decode cX0_standBehind 31 = .ok (.imul, 1) := by decide +kernel
theorem dX0_standBehind_32 : decode cX0_standBehind 32 = .ok (.if_icmp .gt 7, 3) := by decide +kernel
theorem dX0_standBehind_35 : decode cX0_standBehind 35 = .ok (.iload_n 1, 1) := by decide +kernel
theorem dX0_standBehind_36 : decode cX0_standBehind 36 = .ok (.iconst 1, 1) := by decide +kernel
theorem dX0_standBehind_37 : decode cX0_standBehind 37 = .ok (.iadd, 1) := by decide +kernel
theorem dX0_standBehind_38 : decode cX0_standBehind 38 = .ok (.ireturn, 1) := by decide +kernel
theorem dX0_standBehind_39 : decode cX0_standBehind 39 = .ok (.iload_n 3, 1) := by decide +kernel
theorem dX0_standBehind_40 : decode cX0_standBehind 40 = .ok (.ifCond .eq 9, 3) := by decide +kernel
theorem dX0_standBehind_43 : decode cX0_standBehind 43 = .ok (.iload_n 1, 1) := by decide +kernel
theorem dX0_standBehind_44 : decode cX0_standBehind 44 = .ok (.iconst 3, 1) := by decide +kernel
theorem dX0_standBehind_45 : decode cX0_standBehind 45 = .ok (.iadd, 1) := by decide +kernel
theorem dX0_standBehind_46 : decode cX0_standBehind 46 = .ok (.goto 6, 3) := by decide +kernel
theorem dX0_standBehind_49 : decode cX0_standBehind 49 = .ok (.iload_n 1, 1) := by decide +kernel
theorem dX0_standBehind_50 : decode cX0_standBehind 50 = .ok (.iconst 2, 1) := by decide +kernel
theorem dX0_standBehind_51 : decode cX0_standBehind 51 = .ok (.iadd, 1) := by decide +kernel
theorem dX0_standBehind_52 : decode cX0_standBehind 52 = .ok (.istore 4, 2) := by decide +kernel
theorem dX0_standBehind_54 : decode cX0_standBehind 54 = .ok (.iload_n 2, 1) := by decide +kernel
theorem dX0_standBehind_55 : decode cX0_standBehind 55 = .ok (.bipush 9, 2) := by decide +kernel
theorem dX0_standBehind_57 : decode cX0_standBehind 57 = .ok (.invokestatic 61, 3) := by decide +kernel
theorem dX0_standBehind_60 : decode cX0_standBehind 60 = .ok (.ifCond .eq 19, 3) := by decide +kernel
theorem dX0_standBehind_63 : decode cX0_standBehind 63 = .ok (.iload 4, 2) := by decide +kernel
theorem dX0_standBehind_65 : decode cX0_standBehind 65 = .ok (.iconst 2, 1) := by decide +kernel
theorem dX0_standBehind_66 : decode cX0_standBehind 66 = .ok (.aload_n 0, 1) := by decide +kernel
theorem dX0_standBehind_67 : decode cX0_standBehind 67 = .ok (.getfield 23, 3) := by decide +kernel
theorem dX0_standBehind_70 : decode cX0_standBehind 70 = .ok (.imul, 1) := by decide +kernel
theorem dX0_standBehind_71 : decode cX0_standBehind 71 = .ok (.if_icmp .gt 8, 3) := by decide +kernel
theorem dX0_standBehind_74 : decode cX0_standBehind 74 = .ok (.iload 4, 2) := by decide +kernel
theorem dX0_standBehind_76 : decode cX0_standBehind 76 = .ok (.goto 4, 3) := by decide +kernel
theorem dX0_standBehind_79 : decode cX0_standBehind 79 = .ok (.iconst (-1), 1) := by decide +kernel
theorem dX0_standBehind_80 : decode cX0_standBehind 80 = .ok (.ireturn, 1) := by decide +kernel
theorem dX0_grow_0 : decode cX0_grow 0 = .ok (.iconst 0, 1) := by decide +kernel
theorem dX0_grow_1 : decode cX0_grow 1 = .ok (.istore 5, 2) := by decide +kernel
theorem dX0_grow_3 : decode cX0_grow 3 = .ok (.iconst 1, 1) := by decide +kernel
theorem dX0_grow_4 : decode cX0_grow 4 = .ok (.istore 6, 2) := by decide +kernel
theorem dX0_grow_6 : decode cX0_grow 6 = .ok (.iconst 0, 1) := by decide +kernel
theorem dX0_grow_7 : decode cX0_grow 7 = .ok (.istore 7, 2) := by decide +kernel
theorem dX0_grow_9 : decode cX0_grow 9 = .ok (.iload_n 1, 1) := by decide +kernel
theorem dX0_grow_10 : decode cX0_grow 10 = .ok (.iconst 2, 1) := by decide +kernel
theorem dX0_grow_11 : decode cX0_grow 11 = .ok (.idiv, 1) := by decide +kernel
theorem dX0_grow_12 : decode cX0_grow 12 = .ok (.istore 8, 2) := by decide +kernel
theorem dX0_grow_14 : decode cX0_grow 14 = .ok (.iload 8, 2) := by decide +kernel
theorem dX0_grow_16 : decode cX0_grow 16 = .ok (.iload_n 2, 1) := by decide +kernel
theorem dX0_grow_17 : decode cX0_grow 17 = .ok (.iconst 2, 1) := by decide +kernel
theorem dX0_grow_18 : decode cX0_grow 18 = .ok (.idiv, 1) := by decide +kernel
theorem dX0_grow_19 : decode cX0_grow 19 = .ok (.if_icmp .ge 37, 3) := by decide +kernel
theorem dX0_grow_22 : decode cX0_grow 22 = .ok (.iload 5, 2) := by decide +kernel
theorem dX0_grow_24 : decode cX0_grow 24 = .ok (.aload_n 0, 1) := by decide +kernel
theorem dX0_grow_25 : decode cX0_grow 25 = .ok (.iload 8, 2) := by decide +kernel
theorem dX0_grow_27 : decode cX0_grow 27 = .ok (.iload_n 3, 1) := by decide +kernel
theorem dX0_grow_28 : decode cX0_grow 28 = .ok (.invokevirtual 65, 3) := by decide +kernel
theorem dX0_grow_31 : decode cX0_grow 31 = .ok (.iadd, 1) := by decide +kernel
theorem dX0_grow_32 : decode cX0_grow 32 = .ok (.istore 5, 2) := by decide +kernel
theorem dX0_grow_34 : decode cX0_grow 34 = .ok (.iload 6, 2) := by decide +kernel
theorem dX0_grow_36 : decode cX0_grow 36 = .ok (.bipush 10, 2) := by decide +kernel
theorem dX0_grow_38 : decode cX0_grow 38 = .ok (.imul, 1) := by decide +kernel
theorem dX0_grow_39 : decode cX0_grow 39 = .ok (.istore 6, 2) := by decide +kernel
theorem dX0_grow_41 : decode cX0_grow 41 = .ok (.bipush 10, 2) := by decide +kernel
theorem dX0_grow_43 : decode cX0_grow 43 = .ok (.iload 7, 2) := by decide +kernel
theorem dX0_grow_45 : decode cX0_grow 45 = .ok (.imul, 1) := by decide +kernel
theorem dX0_grow_46 : decode cX0_grow 46 = .ok (.iload_n 3, 1) := by decide +kernel
theorem dX0_grow_47 : decode cX0_grow 47 = .ok (.iadd, 1) := by decide +kernel
theorem dX0_grow_48 : decode cX0_grow 48 = .ok (.istore 7, 2) := by decide +kernel
theorem dX0_grow_50 : decode cX0_grow 50 = .ok (.iinc 8 1, 3) := by decide +kernel
theorem dX0_grow_53 : decode cX0_grow 53 = .ok (.goto (-39), 3) := by decide +kernel
theorem dX0_grow_56 : decode cX0_grow 56 = .ok (.aload_n 0, 1) := by decide +kernel
theorem dX0_grow_57 : decode cX0_grow 57 = .ok (.getfield 27, 3) := by decide +kernel
theorem dX0_grow_60 : decode cX0_grow 60 = .ok (.ifCond .eq 8, 3) := by decide +kernel
theorem dX0_grow_63 : decode cX0_grow 63 = .ok (.bipush 10, 2) := by decide +kernel
theorem dX0_grow_65 : decode cX0_grow 65 = .ok (.goto 4, 3) := by decide +kernel
theorem dX0_grow_68 : decode cX0_grow 68 = .ok (.iconst 1, 1) := by decide +kernel
theorem dX0_grow_69 : decode cX0_grow 69 = .ok (.istore 8, 2) := by decide +kernel
theorem dX0_grow_71 : decode cX0_grow 71 = .ok (.iconst 0, 1) := by decide +kernel
theorem dX0_grow_72 : decode cX0_grow 72 = .ok (.istore 9, 2) := by decide +kernel
theorem dX0_grow_74 : decode cX0_grow 74 = .ok (.iload 9, 2) := by decide +kernel
theorem dX0_grow_76 : decode cX0_grow 76 = .ok (.iload 8, 2) := by decide +kernel
theorem dX0_grow_78 : decode cX0_grow 78 = .ok (.if_icmp .ge 100, 3) := by decide +kernel
theorem dX0_grow_81 : decode cX0_grow 81 = .ok (.iconst 0, 1) := by decide +kernel
theorem dX0_grow_82 : decode cX0_grow 82 = .ok (.istore 10, 2) := by decide +kernel
theorem dX0_grow_84 : decode cX0_grow 84 = .ok (.iload 10, 2) := by decide +kernel
theorem dX0_grow_86 : decode cX0_grow 86 = .ok (.iconst 2, 1) := by decide +kernel
theorem dX0_grow_87 : decode cX0_grow 87 = .ok (.if_icmp .ge 85, 3) := by decide +kernel
theorem dX0_grow_90 : decode cX0_grow 90 = .ok (.aload_n 0, 1) := by decide +kernel
theorem dX0_grow_91 : decode cX0_grow 91 = .ok (.getfield 16, 3) := by decide +kernel
theorem dX0_grow_94 : decode cX0_grow 94 = .ok (.iload_n 1, 1) := by decide +kernel
theorem dX0_grow_95 : decode cX0_grow 95 = .ok (.bipush 10, 2) := by decide +kernel
theorem dX0_grow_97 : decode cX0_grow 97 = .ok (.imul, 1) := by decide +kernel
theorem dX0_grow_98 : decode cX0_grow 98 = .ok (.iload 9, 2) := by decide +kernel
theorem dX0_grow_100 : decode cX0_grow 100 = .ok (.iadd, 1) := by decide +kernel
theorem dX0_grow_101 : decode cX0_grow 101 = .ok (.iload 10, 2) := by decide +kernel
theorem dX0_grow_103 : decode cX0_grow 103 = .ok (.invokevirtual 55, 3) := by decide +kernel
theorem dX0_grow_106 : decode cX0_grow 106 = .ok (.istore 11, 2) := by decide +kernel
theorem dX0_grow_108 : decode cX0_grow 108 = .ok (.iload 11, 2) := by decide +kernel
theorem dX0_grow_110 : decode cX0_grow 110 = .ok (.ldc 68, 2) := by decide +kernel
theorem dX0_grow_112 : decode cX0_grow 112 = .ok (.if_icmp .ge 54, 3) := by decide +kernel
theorem dX0_grow_115 : decode cX0_grow 115 = .ok (.aload_n 0, 1) := by decide +kernel
theorem dX0_grow_116 : decode cX0_grow 116 = .ok (.getfield 16, 3) := by decide +kernel
theorem dX0_grow_119 : decode cX0_grow 119 = .ok (.iload_n 1, 1) := by decide +kernel
theorem dX0_grow_120 : decode cX0_grow 120 = .ok (.bipush 10, 2) := by decide +kernel
theorem dX0_grow_122 : decode cX0_grow 122 = .ok (.imul, 1) := by decide +kernel
theorem dX0_grow_123 : decode cX0_grow 123 = .ok (.iload 9, 2) := by decide +kernel
theorem dX0_grow_125 : decode cX0_grow 125 = .ok (.iadd, 1) := by decide +kernel
theorem dX0_grow_126 : decode cX0_grow 126 = .ok (.iload 10, 2) := by decide +kernel
theorem dX0_grow_128 : decode cX0_grow 128 = .ok (.invokevirtual 58, 3) := by decide +kernel
theorem dX0_grow_131 : decode cX0_grow 131 = .ok (.iload 6, 2) := by decide +kernel
theorem dX0_grow_133 : decode cX0_grow 133 = .ok (.imul, 1) := by decide +kernel
theorem dX0_grow_134 : decode cX0_grow 134 = .ok (.iload 7, 2) := by decide +kernel
theorem dX0_grow_136 : decode cX0_grow 136 = .ok (.iadd, 1) := by decide +kernel
theorem dX0_grow_137 : decode cX0_grow 137 = .ok (.istore 12, 2) := by decide +kernel
theorem dX0_grow_139 : decode cX0_grow 139 = .ok (.aload_n 0, 1) := by decide +kernel
theorem dX0_grow_140 : decode cX0_grow 140 = .ok (.getfield 16, 3) := by decide +kernel
theorem dX0_grow_143 : decode cX0_grow 143 = .ok (.iload_n 2, 1) := by decide +kernel
theorem dX0_grow_144 : decode cX0_grow 144 = .ok (.bipush 10, 2) := by decide +kernel
theorem dX0_grow_146 : decode cX0_grow 146 = .ok (.imul, 1) := by decide +kernel
theorem dX0_grow_147 : decode cX0_grow 147 = .ok (.iload 9, 2) := by decide +kernel
theorem dX0_grow_149 : decode cX0_grow 149 = .ok (.iload 5, 2) := by decide +kernel
theorem dX0_grow_151 : decode cX0_grow 151 = .ok (.iadd, 1) := by decide +kernel
theorem dX0_grow_152 : decode cX0_grow 152 = .ok (.bipush 10, 2) := by decide +kernel
theorem dX0_grow_154 : decode cX0_grow 154 = .ok (.irem, 1) := by decide +kernel
theorem dX0_grow_155 : decode cX0_grow 155 = .ok (.iadd, 1) := by decide +kernel
theorem dX0_grow_156 : decode cX0_grow 156 = .ok (.iload 11, 2) := by decide +kernel
theorem dX0_grow_158 : decode cX0_grow 158 = .ok (.iload 4, 2) := by decide +kernel
theorem dX0_grow_160 : decode cX0_grow 160 = .ok (.iadd, 1) := by decide +kernel
theorem dX0_grow_161 : decode cX0_grow 161 = .ok (.iload 12, 2) := by decide +kernel
theorem dX0_grow_163 : decode cX0_grow 163 = .ok (.invokevirtual 31, 3) := by decide +kernel
theorem dX0_grow_166 : decode cX0_grow 166 = .ok (.iinc 10 1, 3) := by decide +kernel
theorem dX0_grow_169 : decode cX0_grow 169 = .ok (.goto (-85), 3) := by decide +kernel
theorem dX0_grow_172 : decode cX0_grow 172 = .ok (.iinc 9 1, 3) := by decide +kernel
theorem dX0_grow_175 : decode cX0_grow 175 = .ok (.goto (-101), 3) := by decide +kernel
theorem dX0_grow_178 : decode cX0_grow 178 = .ok (.return_, 1) := by decide +kernel
theorem dX0_weight_0 : decode cX0_weight 0 = .ok (.aload_n 0, 1) := by decide +kernel
theorem dX0_weight_1 : decode cX0_weight 1 = .ok (.getfield 27, 3) := by decide +kernel
theorem dX0_weight_4 : decode cX0_weight 4 = .ok (.ifCond .ne 5, 3) := by decide +kernel
theorem dX0_weight_7 : decode cX0_weight 7 = .ok (.iconst 0, 1) := by decide +kernel
theorem dX0_weight_8 : decode cX0_weight 8 = .ok (.ireturn, 1) := by decide +kernel
theorem dX0_weight_9 : decode cX0_weight 9 = .ok (.aload_n 0, 1) := by decide +kernel
theorem dX0_weight_10 : decode cX0_weight 10 = .ok (.getfield 23, 3) := by decide +kernel
theorem dX0_weight_13 : decode cX0_weight 13 = .ok (.iconst 1, 1) := by decide +kernel
theorem dX0_weight_14 : decode cX0_weight 14 = .ok (.isub, 1) := by decide +kernel
theorem dX0_weight_15 : decode cX0_weight 15 = .ok (.iload_n 1, 1) := by decide +kernel
theorem dX0_weight_16 : decode cX0_weight 16 = .ok (.isub, 1) := by decide +kernel
theorem dX0_weight_17 : decode cX0_weight 17 = .ok (.iconst 2, 1) := by decide +kernel
theorem dX0_weight_18 : decode cX0_weight 18 = .ok (.irem, 1) := by decide +kernel
theorem dX0_weight_19 : decode cX0_weight 19 = .ok (.ifCond .ne 5, 3) := by decide +kernel
theorem dX0_weight_22 : decode cX0_weight 22 = .ok (.iload_n 2, 1) := by decide +kernel
theorem dX0_weight_23 : decode cX0_weight 23 = .ok (.ireturn, 1) := by decide +kernel
theorem dX0_weight_24 : decode cX0_weight 24 = .ok (.iload_n 2, 1) := by decide +kernel
theorem dX0_weight_25 : decode cX0_weight 25 = .ok (.iconst 4, 1) := by decide +kernel
theorem dX0_weight_26 : decode cX0_weight 26 = .ok (.if_icmp .le 12, 3) := by decide +kernel
theorem dX0_weight_29 : decode cX0_weight 29 = .ok (.iconst 2, 1) := by decide +kernel
theorem dX0_weight_30 : decode cX0_weight 30 = .ok (.iload_n 2, 1) := by decide +kernel
theorem dX0_weight_31 : decode cX0_weight 31 = .ok (.imul, 1) := by decide +kernel
theorem dX0_weight_32 : decode cX0_weight 32 = .ok (.bipush 9, 2) := by decide +kernel
theorem dX0_weight_34 : decode cX0_weight 34 = .ok (.isub, 1) := by decide +kernel
theorem dX0_weight_35 : decode cX0_weight 35 = .ok (.goto 6, 3) := by decide +kernel
theorem dX0_weight_38 : decode cX0_weight 38 = .ok (.iconst 2, 1) := by decide +kernel
theorem dX0_weight_39 : decode cX0_weight 39 = .ok (.iload_n 2, 1) := by decide +kernel
theorem dX0_weight_40 : decode cX0_weight 40 = .ok (.imul, 1) := by decide +kernel
theorem dX0_weight_41 : decode cX0_weight 41 = .ok (.ireturn, 1) := by decide +kernel
theorem dX1_init_0 : decode cX1_init 0 = .ok (.aload_n 0, 1) := by decide +kernel
theorem dX1_init_1 : decode cX1_init 1 = .ok (.invokespecial 3, 3) := by decide +kernel
theorem dX1_init_4 : decode cX1_init 4 = .ok (.aload_n 0, 1) := by decide +kernel
theorem dX1_init_5 : decode cX1_init 5 = .ok (.bipush 12, 2) := by decide +kernel
theorem dX1_init_7 : decode cX1_init 7 = .ok (.anewarray 9, 3) := by decide +kernel
theorem dX1_init_10 : decode cX1_init 10 = .ok (.putfield 11, 3) := by decide +kernel
theorem dX1_init_13 : decode cX1_init 13 = .ok (.iconst 0, 1) := by decide +kernel
theorem dX1_init_14 : decode cX1_init 14 = .ok (.istore_n 1, 1) := by decide +kernel
theorem dX1_init_15 : decode cX1_init 15 = .ok (.iload_n 1, 1) := by decide +kernel
theorem dX1_init_16 : decode cX1_init 16 = .ok (.bipush 12, 2) := by decide +kernel
theorem dX1_init_18 : decode cX1_init 18 = .ok (.if_icmp .ge 22, 3) := by decide +kernel
theorem dX1_init_21 : decode cX1_init 21 = .ok (.aload_n 0, 1) := by decide +kernel
theorem dX1_init_22 : decode cX1_init 22 = .ok (.getfield 11, 3) := by decide +kernel
theorem dX1_init_25 : decode cX1_init 25 = .ok (.iload_n 1, 1) := by decide +kernel
theorem dX1_init_26 : decode cX1_init 26 = .ok (.new 9, 3) := by decide +kernel
theorem dX1_init_29 : decode cX1_init 29 = .ok (.dup, 1) := by decide +kernel
theorem dX1_init_30 : decode cX1_init 30 = .ok (.invokespecial 17, 3) := by decide +kernel
theorem dX1_init_33 : decode cX1_init 33 = .ok (.aastore, 1) := by decide +kernel
theorem dX1_init_34 : decode cX1_init 34 = .ok (.iinc 1 1, 3) := by decide +kernel
theorem dX1_init_37 : decode cX1_init 37 = .ok (.goto (-22), 3) := by decide +kernel
theorem dX1_init_40 : decode cX1_init 40 = .ok (.return_, 1) := by decide +kernel
theorem dX1_slotAt_0 : decode cX1_slotAt 0 = .ok (.iload_n 1, 1) := by decide +kernel
theorem dX1_slotAt_1 : decode cX1_slotAt 1 = .ok (.ifCond .lt 29, 3) := by decide +kernel
theorem dX1_slotAt_4 : decode cX1_slotAt 4 = .ok (.iload_n 1, 1) := by decide +kernel
theorem dX1_slotAt_5 : decode cX1_slotAt 5 = .ok (.aload_n 0, 1) := by decide +kernel
theorem dX1_slotAt_6 : decode cX1_slotAt 6 = .ok (.getfield 18, 3) := by decide +kernel
theorem dX1_slotAt_9 : decode cX1_slotAt 9 = .ok (.if_icmp .ge 21, 3) := by decide +kernel
theorem dX1_slotAt_12 : decode cX1_slotAt 12 = .ok (.iload_n 1, 1) := by decide +kernel
theorem dX1_slotAt_13 : decode cX1_slotAt 13 = .ok (.aload_n 0, 1) := by decide +kernel
theorem dX1_slotAt_14 : decode cX1_slotAt 14 = .ok (.getfield 11, 3) := by decide +kernel
theorem dX1_slotAt_17 : decode cX1_slotAt 17 = .ok (.arraylength, 1) := by decide +kernel
theorem dX1_slotAt_18 : decode cX1_slotAt 18 = .ok (.if_icmp .ge 12, 3) := by decide +kernel
theorem dX1_slotAt_21 : decode cX1_slotAt 21 = .ok (.aload_n 0, 1) := by decide +kernel
theorem dX1_slotAt_22 : decode cX1_slotAt 22 = .ok (.getfield 11, 3) := by decide +kernel
theorem dX1_slotAt_25 : decode cX1_slotAt 25 = .ok (.iload_n 1, 1) := by decide +kernel
theorem dX1_slotAt_26 : decode cX1_slotAt 26 = .ok (.aaload, 1) := by decide +kernel
theorem dX1_slotAt_27 : decode cX1_slotAt 27 = .ok (.goto 4, 3) := by decide +kernel
theorem dX1_slotAt_30 : decode cX1_slotAt 30 = .ok (.aconst_null, 1) := by decide +kernel
theorem dX1_slotAt_31 : decode cX1_slotAt 31 = .ok (.areturn, 1) := by decide +kernel
theorem dX1_numberOf_0 : decode cX1_numberOf 0 = .ok (.iconst 0, 1) := by decide +kernel
theorem dX1_numberOf_1 : decode cX1_numberOf 1 = .ok (.istore_n 2, 1) := by decide +kernel
theorem dX1_numberOf_2 : decode cX1_numberOf 2 = .ok (.iload_n 2, 1) := by decide +kernel
theorem dX1_numberOf_3 : decode cX1_numberOf 3 = .ok (.aload_n 0, 1) := by decide +kernel
theorem dX1_numberOf_4 : decode cX1_numberOf 4 = .ok (.getfield 18, 3) := by decide +kernel
theorem dX1_numberOf_7 : decode cX1_numberOf 7 = .ok (.if_icmp .ge 33, 3) := by decide +kernel
theorem dX1_numberOf_10 : decode cX1_numberOf 10 = .ok (.iload_n 2, 1) := by decide +kernel
theorem dX1_numberOf_11 : decode cX1_numberOf 11 = .ok (.aload_n 0, 1) := by decide +kernel
theorem dX1_numberOf_12 : decode cX1_numberOf 12 = .ok (.getfield 11, 3) := by decide +kernel
theorem dX1_numberOf_15 : decode cX1_numberOf 15 = .ok (.arraylength, 1) := by decide +kernel
theorem dX1_numberOf_16 : decode cX1_numberOf 16 = .ok (.if_icmp .ge 24, 3) := by decide +kernel
theorem dX1_numberOf_19 : decode cX1_numberOf 19 = .ok (.aload_n 0, 1) := by decide +kernel
theorem dX1_numberOf_20 : decode cX1_numberOf 20 = .ok (.getfield 11, 3) := by decide +kernel
theorem dX1_numberOf_23 : decode cX1_numberOf 23 = .ok (.iload_n 2, 1) := by decide +kernel
theorem dX1_numberOf_24 : decode cX1_numberOf 24 = .ok (.aaload, 1) := by decide +kernel
theorem dX1_numberOf_25 : decode cX1_numberOf 25 = .ok (.getfield 22, 3) := by decide +kernel
theorem dX1_numberOf_28 : decode cX1_numberOf 28 = .ok (.iload_n 1, 1) := by decide +kernel
theorem dX1_numberOf_29 : decode cX1_numberOf 29 = .ok (.if_icmp .ne 5, 3) := by decide +kernel
theorem dX1_numberOf_32 : decode cX1_numberOf 32 = .ok (.iload_n 2, 1) := by decide +kernel
theorem dX1_numberOf_33 : decode cX1_numberOf 33 = .ok (.ireturn, 1) := by decide +kernel
theorem dX1_numberOf_34 : decode cX1_numberOf 34 = .ok (.iinc 2 1, 3) := by decide +kernel
theorem dX1_numberOf_37 : decode cX1_numberOf 37 = .ok (.goto (-35), 3) := by decide +kernel
theorem dX1_numberOf_40 : decode cX1_numberOf 40 = .ok (.iconst (-1), 1) := by decide +kernel
theorem dX1_numberOf_41 : decode cX1_numberOf 41 = .ok (.ireturn, 1) := by decide +kernel
theorem dX1_canName_0 : decode cX1_canName 0 = .ok (.aload_n 0, 1) := by decide +kernel
theorem dX1_canName_1 : decode cX1_canName 1 = .ok (.getfield 18, 3) := by decide +kernel
theorem dX1_canName_4 : decode cX1_canName 4 = .ok (.aload_n 0, 1) := by decide +kernel
theorem dX1_canName_5 : decode cX1_canName 5 = .ok (.getfield 11, 3) := by decide +kernel
theorem dX1_canName_8 : decode cX1_canName 8 = .ok (.arraylength, 1) := by decide +kernel
theorem dX1_canName_9 : decode cX1_canName 9 = .ok (.if_icmp .ge 23, 3) := by decide +kernel
theorem dX1_canName_12 : decode cX1_canName 12 = .ok (.iload_n 1, 1) := by decide +kernel
theorem dX1_canName_13 : decode cX1_canName 13 = .ok (.invokestatic 25, 3) := by decide +kernel
theorem dX1_canName_16 : decode cX1_canName 16 = .ok (.ifCond .eq 16, 3) := by decide +kernel
theorem dX1_canName_19 : decode cX1_canName 19 = .ok (.aload_n 0, 1) := by decide +kernel
theorem dX1_canName_20 : decode cX1_canName 20 = .ok (.iload_n 1, 1) := by decide +kernel
theorem dX1_canName_21 : decode cX1_canName 21 = .ok (.invokevirtual 29, 3) := by decide +kernel
theorem dX1_canName_24 : decode cX1_canName 24 = .ok (.iconst (-1), 1) := by decide +kernel
theorem dX1_canName_25 : decode cX1_canName 25 = .ok (.if_icmp .ne 7, 3) := by decide +kernel
theorem dX1_canName_28 : decode cX1_canName 28 = .ok (.iconst 1, 1) := by decide +kernel
theorem dX1_canName_29 : decode cX1_canName 29 = .ok (.goto 4, 3) := by decide +kernel
theorem dX1_canName_32 : decode cX1_canName 32 = .ok (.iconst 0, 1) := by decide +kernel
theorem dX1_canName_33 : decode cX1_canName 33 = .ok (.ireturn, 1) := by decide +kernel
theorem dX1_addDigits_0 : decode cX1_addDigits 0 = .ok (.aload_n 0, 1) := by decide +kernel
theorem dX1_addDigits_1 : decode cX1_addDigits 1 = .ok (.iload_n 1, 1) := by decide +kernel
theorem dX1_addDigits_2 : decode cX1_addDigits 2 = .ok (.iload 4, 2) := by decide +kernel
theorem dX1_addDigits_4 : decode cX1_addDigits 4 = .ok (.invokevirtual 33, 3) := by decide +kernel
theorem dX1_addDigits_7 : decode cX1_addDigits 7 = .ok (.istore 5, 2) := by decide +kernel
theorem dX1_addDigits_9 : decode cX1_addDigits 9 = .ok (.aload_n 0, 1) := by decide +kernel
theorem dX1_addDigits_10 : decode cX1_addDigits 10 = .ok (.iload 5, 2) := by decide +kernel
theorem dX1_addDigits_12 : decode cX1_addDigits 12 = .ok (.invokevirtual 37, 3) := by decide +kernel
theorem dX1_addDigits_15 : decode cX1_addDigits 15 = .ok (.astore 6, 2) := by decide +kernel
theorem dX1_addDigits_17 : decode cX1_addDigits 17 = .ok (.aload 6, 2) := by decide +kernel
theorem dX1_addDigits_19 : decode cX1_addDigits 19 = .ok (.ifnull 15, 3) := by decide +kernel
theorem dX1_addDigits_22 : decode cX1_addDigits 22 = .ok (.aload 6, 2) := by decide +kernel
theorem dX1_addDigits_24 : decode cX1_addDigits 24 = .ok (.iload_n 2, 1) := by decide +kernel
theorem dX1_addDigits_25 : decode cX1_addDigits 25 = .ok (.putfield 41, 3) := by decide +kernel
theorem dX1_addDigits_28 : decode cX1_addDigits 28 = .ok (.aload 6, 2) := by decide +kernel
theorem dX1_addDigits_30 : decode cX1_addDigits 30 = .ok (.iload_n 3, 1) := by decide +kernel
theorem dX1_addDigits_31 : decode cX1_addDigits 31 = .ok (.putfield 44, 3) := by decide +kernel
theorem dX1_addDigits_34 : decode cX1_addDigits 34 = .ok (.iload 5, 2) := by decide +kernel
theorem dX1_addDigits_36 : decode cX1_addDigits 36 = .ok (.ireturn, 1) := by decide +kernel
theorem dX1_addChoice_0 : decode cX1_addChoice 0 = .ok (.aload_n 0, 1) := by decide +kernel
theorem dX1_addChoice_1 : decode cX1_addChoice 1 = .ok (.iload_n 1, 1) := by decide +kernel
theorem dX1_addChoice_2 : decode cX1_addChoice 2 = .ok (.iload_n 2, 1) := by decide +kernel
theorem dX1_addChoice_3 : decode cX1_addChoice 3 = .ok (.invokevirtual 33, 3) := by decide +kernel
theorem dX1_addChoice_6 : decode cX1_addChoice 6 = .ok (.istore 5, 2) := by decide +kernel
theorem dX1_addChoice_8 : decode cX1_addChoice 8 = .ok (.aload_n 0, 1) := by decide +kernel
theorem dX1_addChoice_9 : decode cX1_addChoice 9 = .ok (.iload 5, 2) := by decide +kernel
theorem dX1_addChoice_11 : decode cX1_addChoice 11 = .ok (.invokevirtual 37, 3) := by decide +kernel
theorem dX1_addChoice_14 : decode cX1_addChoice 14 = .ok (.astore 6, 2) := by decide +kernel
theorem dX1_addChoice_16 : decode cX1_addChoice 16 = .ok (.aload 6, 2) := by decide +kernel
theorem dX1_addChoice_18 : decode cX1_addChoice 18 = .ok (.ifnull 56, 3) := by decide +kernel
theorem dX1_addChoice_21 : decode cX1_addChoice 21 = .ok (.iconst 0, 1) := by decide +kernel
theorem dX1_addChoice_22 : decode cX1_addChoice 22 = .ok (.istore 7, 2) := by decide +kernel
theorem dX1_addChoice_24 : decode cX1_addChoice 24 = .ok (.iload 7, 2) := by decide +kernel
theorem dX1_addChoice_26 : decode cX1_addChoice 26 = .ok (.iload 4, 2) := by decide +kernel
theorem dX1_addChoice_28 : decode cX1_addChoice 28 = .ok (.if_icmp .ge 39, 3) := by decide +kernel
theorem dX1_addChoice_31 : decode cX1_addChoice 31 = .ok (.iload 7, 2) := by decide +kernel
theorem dX1_addChoice_33 : decode cX1_addChoice 33 = .ok (.aload_n 3, 1) := by decide +kernel
theorem dX1_addChoice_34 : decode cX1_addChoice 34 = .ok (.arraylength, 1) := by decide +kernel
theorem dX1_addChoice_35 : decode cX1_addChoice 35 = .ok (.if_icmp .ge 32, 3) := by decide +kernel
theorem dX1_addChoice_38 : decode cX1_addChoice 38 = .ok (.iload 7, 2) := by decide +kernel
theorem dX1_addChoice_40 : decode cX1_addChoice 40 = .ok (.aload 6, 2) := by decide +kernel
theorem dX1_addChoice_42 : decode cX1_addChoice 42 = .ok (.getfield 48, 3) := by decide +kernel
theorem dX1_addChoice_45 : decode cX1_addChoice 45 = .ok (.arraylength, 1) := by decide +kernel
theorem dX1_addChoice_46 : decode cX1_addChoice 46 = .ok (.if_icmp .ge 21, 3) := by decide +kernel
theorem dX1_addChoice_49 : decode cX1_addChoice 49 = .ok (.aload 6, 2) := by decide +kernel
theorem dX1_addChoice_51 : decode cX1_addChoice 51 = .ok (.getfield 48, 3) := by decide +kernel
theorem dX1_addChoice_54 : decode cX1_addChoice 54 = .ok (.iload 7, 2) := by decide +kernel
theorem dX1_addChoice_56 : decode cX1_addChoice 56 = .ok (.aload_n 3, 1) := by decide +kernel
theorem dX1_addChoice_57 : decode cX1_addChoice 57 = .ok (.iload 7, 2) := by decide +kernel
theorem dX1_addChoice_59 : decode cX1_addChoice 59 = .ok (.iaload, 1) := by decide +kernel
theorem dX1_addChoice_60 : decode cX1_addChoice 60 = .ok (.iastore, 1) := by decide +kernel
theorem dX1_addChoice_61 : decode cX1_addChoice 61 = .ok (.iinc 7 1, 3) := by decide +kernel
theorem dX1_addChoice_64 : decode cX1_addChoice 64 = .ok (.goto (-40), 3) := by decide +kernel
theorem dX1_addChoice_67 : decode cX1_addChoice 67 = .ok (.aload 6, 2) := by decide +kernel
theorem dX1_addChoice_69 : decode cX1_addChoice 69 = .ok (.iload 4, 2) := by decide +kernel
theorem dX1_addChoice_71 : decode cX1_addChoice 71 = .ok (.putfield 52, 3) := by decide +kernel
theorem dX1_addChoice_74 : decode cX1_addChoice 74 = .ok (.iload 5, 2) := by decide +kernel
theorem dX1_addChoice_76 : decode cX1_addChoice 76 = .ok (.ireturn, 1) := by decide +kernel
theorem dX1_addSlot_0 : decode cX1_addSlot 0 = .ok (.aload_n 0, 1) := by decide +kernel
theorem dX1_addSlot_1 : decode cX1_addSlot 1 = .ok (.iload_n 1, 1) := by decide +kernel
theorem dX1_addSlot_2 : decode cX1_addSlot 2 = .ok (.invokevirtual 55, 3) := by decide +kernel
theorem dX1_addSlot_5 : decode cX1_addSlot 5 = .ok (.ifCond .ne 5, 3) := by decide +kernel
theorem dX1_addSlot_8 : decode cX1_addSlot 8 = .ok (.iconst (-1), 1) := by decide +kernel
theorem dX1_addSlot_9 : decode cX1_addSlot 9 = .ok (.ireturn, 1) := by decide +kernel
theorem dX1_addSlot_10 : decode cX1_addSlot 10 = .ok (.aload_n 0, 1) := by decide +kernel
theorem dX1_addSlot_11 : decode cX1_addSlot 11 = .ok (.dup, 1) := by decide +kernel
theorem dX1_addSlot_12 : decode cX1_addSlot 12 = .ok (.getfield 18, 3) := by decide +kernel
theorem dX1_addSlot_15 : decode cX1_addSlot 15 = .ok (.iconst 1, 1) := by decide +kernel
theorem dX1_addSlot_16 : decode cX1_addSlot 16 = .ok (.iadd, 1) := by decide +kernel
theorem dX1_addSlot_17 : decode cX1_addSlot 17 = .ok (.putfield 18, 3) := by decide +kernel
theorem dX1_addSlot_20 : decode cX1_addSlot 20 = .ok (.aload_n 0, 1) := by decide +kernel
theorem dX1_addSlot_21 : decode cX1_addSlot 21 = .ok (.aload_n 0, 1) := by decide +kernel
theorem dX1_addSlot_22 : decode cX1_addSlot 22 = .ok (.getfield 18, 3) := by decide +kernel
theorem dX1_addSlot_25 : decode cX1_addSlot 25 = .ok (.iconst 1, 1) := by decide +kernel
theorem dX1_addSlot_26 : decode cX1_addSlot 26 = .ok (.isub, 1) := by decide +kernel
theorem dX1_addSlot_27 : decode cX1_addSlot 27 = .ok (.invokevirtual 37, 3) := by decide +kernel
theorem dX1_addSlot_30 : decode cX1_addSlot 30 = .ok (.astore_n 3, 1) := by decide +kernel
theorem dX1_addSlot_31 : decode cX1_addSlot 31 = .ok (.aload_n 3, 1) := by decide +kernel
theorem dX1_addSlot_32 : decode cX1_addSlot 32 = .ok (.ifnull 13, 3) := by decide +kernel
theorem dX1_addSlot_35 : decode cX1_addSlot 35 = .ok (.aload_n 3, 1) := by decide +kernel
theorem dX1_addSlot_36 : decode cX1_addSlot 36 = .ok (.iload_n 1, 1) := by decide +kernel
theorem dX1_addSlot_37 : decode cX1_addSlot 37 = .ok (.putfield 22, 3) := by decide +kernel
theorem dX1_addSlot_40 : decode cX1_addSlot 40 = .ok (.aload_n 3, 1) := by decide +kernel
theorem dX1_addSlot_41 : decode cX1_addSlot 41 = .ok (.iload_n 2, 1) := by decide +kernel
theorem dX1_addSlot_42 : decode cX1_addSlot 42 = .ok (.putfield 58, 3) := by decide +kernel
theorem dX1_addSlot_45 : decode cX1_addSlot 45 = .ok (.aload_n 0, 1) := by decide +kernel
theorem dX1_addSlot_46 : decode cX1_addSlot 46 = .ok (.invokevirtual 61, 3) := by decide +kernel
theorem dX1_addSlot_49 : decode cX1_addSlot 49 = .ok (.pop, 1) := by decide +kernel
theorem dX1_addSlot_50 : decode cX1_addSlot 50 = .ok (.aload_n 0, 1) := by decide +kernel
theorem dX1_addSlot_51 : decode cX1_addSlot 51 = .ok (.getfield 18, 3) := by decide +kernel
theorem dX1_addSlot_54 : decode cX1_addSlot 54 = .ok (.iconst 1, 1) := by decide +kernel
theorem dX1_addSlot_55 : decode cX1_addSlot 55 = .ok (.isub, 1) := by decide +kernel
theorem dX1_addSlot_56 : decode cX1_addSlot 56 = .ok (.ireturn, 1) := by decide +kernel
theorem dX1_addNeed_0 : decode cX1_addNeed 0 = .ok (.aload_n 0, 1) := by decide +kernel
theorem dX1_addNeed_1 : decode cX1_addNeed 1 = .ok (.iload_n 1, 1) := by decide +kernel
theorem dX1_addNeed_2 : decode cX1_addNeed 2 = .ok (.invokevirtual 37, 3) := by decide +kernel
theorem dX1_addNeed_5 : decode cX1_addNeed 5 = .ok (.astore 4, 2) := by decide +kernel
theorem dX1_addNeed_7 : decode cX1_addNeed 7 = .ok (.aload_n 0, 1) := by decide +kernel
theorem dX1_addNeed_8 : decode cX1_addNeed 8 = .ok (.iload_n 2, 1) := by decide +kernel
theorem dX1_addNeed_9 : decode cX1_addNeed 9 = .ok (.invokevirtual 37, 3) := by decide +kernel
theorem dX1_addNeed_12 : decode cX1_addNeed 12 = .ok (.astore 5, 2) := by decide +kernel
theorem dX1_addNeed_14 : decode cX1_addNeed 14 = .ok (.aload 4, 2) := by decide +kernel
theorem dX1_addNeed_16 : decode cX1_addNeed 16 = .ok (.ifnull 26, 3) := by decide +kernel
theorem dX1_addNeed_19 : decode cX1_addNeed 19 = .ok (.aload 5, 2) := by decide +kernel
theorem dX1_addNeed_21 : decode cX1_addNeed 21 = .ok (.ifnull 21, 3) := by decide +kernel
theorem dX1_addNeed_24 : decode cX1_addNeed 24 = .ok (.iload_n 2, 1) := by decide +kernel
theorem dX1_addNeed_25 : decode cX1_addNeed 25 = .ok (.iload_n 1, 1) := by decide +kernel
theorem dX1_addNeed_26 : decode cX1_addNeed 26 = .ok (.if_icmp .ge 16, 3) := by decide +kernel
theorem dX1_addNeed_29 : decode cX1_addNeed 29 = .ok (.iload_n 3, 1) := by decide +kernel
theorem dX1_addNeed_30 : decode cX1_addNeed 30 = .ok (.ifCond .lt 12, 3) := by decide +kernel
theorem dX1_addNeed_33 : decode cX1_addNeed 33 = .ok (.iload_n 3, 1) := by decide +kernel
theorem dX1_addNeed_34 : decode cX1_addNeed 34 = .ok (.aload 5, 2) := by decide +kernel
theorem dX1_addNeed_36 : decode cX1_addNeed 36 = .ok (.getfield 52, 3) := by decide +kernel
theorem dX1_addNeed_39 : decode cX1_addNeed 39 = .ok (.if_icmp .lt 5, 3) := by decide +kernel
theorem dX1_addNeed_42 : decode cX1_addNeed 42 = .ok (.iconst 0, 1) := by decide +kernel
theorem dX1_addNeed_43 : decode cX1_addNeed 43 = .ok (.ireturn, 1) := by decide +kernel
theorem dX1_addNeed_44 : decode cX1_addNeed 44 = .ok (.aload 4, 2) := by decide +kernel
theorem dX1_addNeed_46 : decode cX1_addNeed 46 = .ok (.iload_n 2, 1) := by decide +kernel
theorem dX1_addNeed_47 : decode cX1_addNeed 47 = .ok (.putfield 65, 3) := by decide +kernel
theorem dX1_addNeed_50 : decode cX1_addNeed 50 = .ok (.aload 4, 2) := by decide +kernel
theorem dX1_addNeed_52 : decode cX1_addNeed 52 = .ok (.iload_n 3, 1) := by decide +kernel
theorem dX1_addNeed_53 : decode cX1_addNeed 53 = .ok (.putfield 68, 3) := by decide +kernel
theorem dX1_addNeed_56 : decode cX1_addNeed 56 = .ok (.aload_n 0, 1) := by decide +kernel
theorem dX1_addNeed_57 : decode cX1_addNeed 57 = .ok (.invokevirtual 61, 3) := by decide +kernel
theorem dX1_addNeed_60 : decode cX1_addNeed 60 = .ok (.pop, 1) := by decide +kernel
theorem dX1_addNeed_61 : decode cX1_addNeed 61 = .ok (.iconst 1, 1) := by decide +kernel
theorem dX1_addNeed_62 : decode cX1_addNeed 62 = .ok (.ireturn, 1) := by decide +kernel
theorem dX1_countOpen_0 : decode cX1_countOpen 0 = .ok (.iconst 0, 1) := by decide +kernel
theorem dX1_countOpen_1 : decode cX1_countOpen 1 = .ok (.istore_n 1, 1) := by decide +kernel
theorem dX1_countOpen_2 : decode cX1_countOpen 2 = .ok (.iconst 0, 1) := by decide +kernel
theorem dX1_countOpen_3 : decode cX1_countOpen 3 = .ok (.istore_n 2, 1) := by decide +kernel
theorem dX1_countOpen_4 : decode cX1_countOpen 4 = .ok (.iload_n 2, 1) := by decide +kernel
theorem dX1_countOpen_5 : decode cX1_countOpen 5 = .ok (.aload_n 0, 1) := by decide +kernel
theorem dX1_countOpen_6 : decode cX1_countOpen 6 = .ok (.getfield 18, 3) := by decide +kernel
theorem dX1_countOpen_9 : decode cX1_countOpen 9 = .ok (.if_icmp .ge 33, 3) := by decide +kernel
theorem dX1_countOpen_12 : decode cX1_countOpen 12 = .ok (.iload_n 2, 1) := by decide +kernel
theorem dX1_countOpen_13 : decode cX1_countOpen 13 = .ok (.aload_n 0, 1) := by decide +kernel
theorem dX1_countOpen_14 : decode cX1_countOpen 14 = .ok (.getfield 11, 3) := by decide +kernel
theorem dX1_countOpen_17 : decode cX1_countOpen 17 = .ok (.arraylength, 1) := by decide +kernel
theorem dX1_countOpen_18 : decode cX1_countOpen 18 = .ok (.if_icmp .ge 24, 3) := by decide +kernel
theorem dX1_countOpen_21 : decode cX1_countOpen 21 = .ok (.iload_n 1, 1) := by decide +kernel
theorem dX1_countOpen_22 : decode cX1_countOpen 22 = .ok (.aload_n 0, 1) := by decide +kernel
theorem dX1_countOpen_23 : decode cX1_countOpen 23 = .ok (.getfield 11, 3) := by decide +kernel
theorem dX1_countOpen_26 : decode cX1_countOpen 26 = .ok (.iload_n 2, 1) := by decide +kernel
theorem dX1_countOpen_27 : decode cX1_countOpen 27 = .ok (.aaload, 1) := by decide +kernel
theorem dX1_countOpen_28 : decode cX1_countOpen 28 = .ok (.invokevirtual 71, 3) := by decide +kernel
theorem dX1_countOpen_31 : decode cX1_countOpen 31 = .ok (.invokestatic 75, 3) := by decide +kernel
theorem dX1_countOpen_34 : decode cX1_countOpen 34 = .ok (.iadd, 1) := by decide +kernel
theorem dX1_countOpen_35 : decode cX1_countOpen 35 = .ok (.istore_n 1, 1) := by decide +kernel
theorem dX1_countOpen_36 : decode cX1_countOpen 36 = .ok (.iinc 2 1, 3) := by decide +kernel
theorem dX1_countOpen_39 : decode cX1_countOpen 39 = .ok (.goto (-35), 3) := by decide +kernel
theorem dX1_countOpen_42 : decode cX1_countOpen 42 = .ok (.iload_n 1, 1) := by decide +kernel
theorem dX1_countOpen_43 : decode cX1_countOpen 43 = .ok (.ireturn, 1) := by decide +kernel
theorem dX1_countUnheard_0 : decode cX1_countUnheard 0 = .ok (.iconst 0, 1) := by decide +kernel
theorem dX1_countUnheard_1 : decode cX1_countUnheard 1 = .ok (.istore_n 1, 1) := by decide +kernel
theorem dX1_countUnheard_2 : decode cX1_countUnheard 2 = .ok (.iconst 0, 1) := by decide +kernel
theorem dX1_countUnheard_3 : decode cX1_countUnheard 3 = .ok (.istore_n 2, 1) := by decide +kernel
theorem dX1_countUnheard_4 : decode cX1_countUnheard 4 = .ok (.iload_n 2, 1) := by decide +kernel
theorem dX1_countUnheard_5 : decode cX1_countUnheard 5 = .ok (.aload_n 0, 1) := by decide +kernel
theorem dX1_countUnheard_6 : decode cX1_countUnheard 6 = .ok (.getfield 18, 3) := by decide +kernel
theorem dX1_countUnheard_9 : decode cX1_countUnheard 9 = .ok (.if_icmp .ge 33, 3) := by decide +kernel
theorem dX1_countUnheard_12 : decode cX1_countUnheard 12 = .ok (.iload_n 2, 1) := by decide +kernel
theorem dX1_countUnheard_13 : decode cX1_countUnheard 13 = .ok (.aload_n 0, 1) := by decide +kernel
theorem dX1_countUnheard_14 : decode cX1_countUnheard 14 = .ok (.getfield 11, 3) := by decide +kernel
theorem dX1_countUnheard_17 : decode cX1_countUnheard 17 = .ok (.arraylength, 1) := by decide +kernel
theorem dX1_countUnheard_18 : decode cX1_countUnheard 18 = .ok (.if_icmp .ge 24, 3) := by decide +kernel
theorem dX1_countUnheard_21 : decode cX1_countUnheard 21 = .ok (.iload_n 1, 1) := by decide +kernel
theorem dX1_countUnheard_22 : decode cX1_countUnheard 22 = .ok (.aload_n 0, 1) := by decide +kernel
theorem dX1_countUnheard_23 : decode cX1_countUnheard 23 = .ok (.getfield 11, 3) := by decide +kernel
theorem dX1_countUnheard_26 : decode cX1_countUnheard 26 = .ok (.iload_n 2, 1) := by decide +kernel
theorem dX1_countUnheard_27 : decode cX1_countUnheard 27 = .ok (.aaload, 1) := by decide +kernel
theorem dX1_countUnheard_28 : decode cX1_countUnheard 28 = .ok (.invokevirtual 79, 3) := by decide +kernel
theorem dX1_countUnheard_31 : decode cX1_countUnheard 31 = .ok (.invokestatic 75, 3) := by decide +kernel
theorem dX1_countUnheard_34 : decode cX1_countUnheard 34 = .ok (.iadd, 1) := by decide +kernel
theorem dX1_countUnheard_35 : decode cX1_countUnheard 35 = .ok (.istore_n 1, 1) := by decide +kernel
theorem dX1_countUnheard_36 : decode cX1_countUnheard 36 = .ok (.iinc 2 1, 3) := by decide +kernel
theorem dX1_countUnheard_39 : decode cX1_countUnheard 39 = .ok (.goto (-35), 3) := by decide +kernel
theorem dX1_countUnheard_42 : decode cX1_countUnheard 42 = .ok (.iload_n 1, 1) := by decide +kernel
theorem dX1_countUnheard_43 : decode cX1_countUnheard 43 = .ok (.ireturn, 1) := by decide +kernel
theorem dX1_hearAllBack_0 : decode cX1_hearAllBack 0 = .ok (.aload_n 0, 1) := by decide +kernel
theorem dX1_hearAllBack_1 : decode cX1_hearAllBack 1 = .ok (.invokevirtual 82, 3) := by decide +kernel
theorem dX1_hearAllBack_4 : decode cX1_hearAllBack 4 = .ok (.istore_n 1, 1) := by decide +kernel
theorem dX1_hearAllBack_5 : decode cX1_hearAllBack 5 = .ok (.iconst 0, 1) := by decide +kernel
theorem dX1_hearAllBack_6 : decode cX1_hearAllBack 6 = .ok (.istore_n 2, 1) := by decide +kernel
theorem dX1_hearAllBack_7 : decode cX1_hearAllBack 7 = .ok (.iload_n 2, 1) := by decide +kernel
theorem dX1_hearAllBack_8 : decode cX1_hearAllBack 8 = .ok (.aload_n 0, 1) := by decide +kernel
theorem dX1_hearAllBack_9 : decode cX1_hearAllBack 9 = .ok (.getfield 18, 3) := by decide +kernel
theorem dX1_hearAllBack_12 : decode cX1_hearAllBack 12 = .ok (.if_icmp .ge 36, 3) := by decide +kernel
theorem dX1_hearAllBack_15 : decode cX1_hearAllBack 15 = .ok (.iload_n 2, 1) := by decide +kernel
theorem dX1_hearAllBack_16 : decode cX1_hearAllBack 16 = .ok (.aload_n 0, 1) := by decide +kernel
theorem dX1_hearAllBack_17 : decode cX1_hearAllBack 17 = .ok (.getfield 11, 3) := by decide +kernel
theorem dX1_hearAllBack_20 : decode cX1_hearAllBack 20 = .ok (.arraylength, 1) := by decide +kernel
theorem dX1_hearAllBack_21 : decode cX1_hearAllBack 21 = .ok (.if_icmp .ge 27, 3) := by decide +kernel
theorem dX1_hearAllBack_24 : decode cX1_hearAllBack 24 = .ok (.aload_n 0, 1) := by decide +kernel
theorem dX1_hearAllBack_25 : decode cX1_hearAllBack 25 = .ok (.getfield 11, 3) := by decide +kernel
theorem dX1_hearAllBack_28 : decode cX1_hearAllBack 28 = .ok (.iload_n 2, 1) := by decide +kernel
theorem dX1_hearAllBack_29 : decode cX1_hearAllBack 29 = .ok (.aaload, 1) := by decide +kernel
theorem dX1_hearAllBack_30 : decode cX1_hearAllBack 30 = .ok (.aload_n 0, 1) := by decide +kernel
theorem dX1_hearAllBack_31 : decode cX1_hearAllBack 31 = .ok (.getfield 11, 3) := by decide +kernel
theorem dX1_hearAllBack_34 : decode cX1_hearAllBack 34 = .ok (.iload_n 2, 1) := by decide +kernel
theorem dX1_hearAllBack_35 : decode cX1_hearAllBack 35 = .ok (.aaload, 1) := by decide +kernel
theorem dX1_hearAllBack_36 : decode cX1_hearAllBack 36 = .ok (.getfield 85, 3) := by decide +kernel
theorem dX1_hearAllBack_39 : decode cX1_hearAllBack 39 = .ok (.putfield 88, 3) := by decide +kernel
theorem dX1_hearAllBack_42 : decode cX1_hearAllBack 42 = .ok (.iinc 2 1, 3) := by decide +kernel
theorem dX1_hearAllBack_45 : decode cX1_hearAllBack 45 = .ok (.goto (-38), 3) := by decide +kernel
theorem dX1_hearAllBack_48 : decode cX1_hearAllBack 48 = .ok (.iload_n 1, 1) := by decide +kernel
theorem dX1_hearAllBack_49 : decode cX1_hearAllBack 49 = .ok (.ireturn, 1) := by decide +kernel
theorem dX1_nextBehind_0 : decode cX1_nextBehind 0 = .ok (.aload_n 0, 1) := by decide +kernel
theorem dX1_nextBehind_1 : decode cX1_nextBehind 1 = .ok (.iload_n 1, 1) := by decide +kernel
theorem dX1_nextBehind_2 : decode cX1_nextBehind 2 = .ok (.iconst 1, 1) := by decide +kernel
theorem dX1_nextBehind_3 : decode cX1_nextBehind 3 = .ok (.iadd, 1) := by decide +kernel
theorem dX1_nextBehind_4 : decode cX1_nextBehind 4 = .ok (.invokevirtual 91, 3) := by decide +kernel
theorem dX1_nextBehind_7 : decode cX1_nextBehind 7 = .ok (.istore_n 2, 1) := by decide +kernel
theorem dX1_nextBehind_8 : decode cX1_nextBehind 8 = .ok (.iload_n 2, 1) := by decide +kernel
theorem dX1_nextBehind_9 : decode cX1_nextBehind 9 = .ok (.iconst (-1), 1) := by decide +kernel
theorem dX1_nextBehind_10 : decode cX1_nextBehind 10 = .ok (.if_icmp .ne 11, 3) := by decide +kernel
theorem dX1_nextBehind_13 : decode cX1_nextBehind 13 = .ok (.aload_n 0, 1) := by decide +kernel
theorem dX1_nextBehind_14 : decode cX1_nextBehind 14 = .ok (.iconst 0, 1) := by decide +kernel
theorem dX1_nextBehind_15 : decode cX1_nextBehind 15 = .ok (.invokevirtual 91, 3) := by decide +kernel
theorem dX1_nextBehind_18 : decode cX1_nextBehind 18 = .ok (.goto 4, 3) := by decide +kernel
theorem dX1_nextBehind_21 : decode cX1_nextBehind 21 = .ok (.iload_n 2, 1) := by decide +kernel
theorem dX1_nextBehind_22 : decode cX1_nextBehind 22 = .ok (.ireturn, 1) := by decide +kernel
theorem dX1_firstToCome_0 : decode cX1_firstToCome 0 = .ok (.iload_n 1, 1) := by decide +kernel
theorem dX1_firstToCome_1 : decode cX1_firstToCome 1 = .ok (.iconst 0, 1) := by decide +kernel
theorem dX1_firstToCome_2 : decode cX1_firstToCome 2 = .ok (.invokestatic 94, 3) := by decide +kernel
theorem dX1_firstToCome_5 : decode cX1_firstToCome 5 = .ok (.istore_n 2, 1) := by decide +kernel
theorem dX1_firstToCome_6 : decode cX1_firstToCome 6 = .ok (.iload_n 2, 1) := by decide +kernel
theorem dX1_firstToCome_7 : decode cX1_firstToCome 7 = .ok (.aload_n 0, 1) := by decide +kernel
theorem dX1_firstToCome_8 : decode cX1_firstToCome 8 = .ok (.getfield 18, 3) := by decide +kernel
theorem dX1_firstToCome_11 : decode cX1_firstToCome 11 = .ok (.if_icmp .ge 44, 3) := by decide +kernel
theorem dX1_firstToCome_14 : decode cX1_firstToCome 14 = .ok (.iload_n 2, 1) := by decide +kernel
theorem dX1_firstToCome_15 : decode cX1_firstToCome 15 = .ok (.aload_n 0, 1) := by decide +kernel
theorem dX1_firstToCome_16 : decode cX1_firstToCome 16 = .ok (.getfield 11, 3) := by decide +kernel
theorem dX1_firstToCome_19 : decode cX1_firstToCome 19 = .ok (.arraylength, 1) := by decide +kernel
theorem dX1_firstToCome_20 : decode cX1_firstToCome 20 = .ok (.if_icmp .ge 35, 3) := by decide +kernel
theorem dX1_firstToCome_23 : decode cX1_firstToCome 23 = .ok (.aload_n 0, 1) := by decide +kernel
theorem dX1_firstToCome_24 : decode cX1_firstToCome 24 = .ok (.getfield 11, 3) := by decide +kernel
theorem dX1_firstToCome_27 : decode cX1_firstToCome 27 = .ok (.iload_n 2, 1) := by decide +kernel
theorem dX1_firstToCome_28 : decode cX1_firstToCome 28 = .ok (.aaload, 1) := by decide +kernel
theorem dX1_firstToCome_29 : decode cX1_firstToCome 29 = .ok (.invokevirtual 71, 3) := by decide +kernel
theorem dX1_firstToCome_32 : decode cX1_firstToCome 32 = .ok (.ifCond .eq 17, 3) := by decide +kernel
theorem dX1_firstToCome_35 : decode cX1_firstToCome 35 = .ok (.aload_n 0, 1) := by decide +kernel
theorem dX1_firstToCome_36 : decode cX1_firstToCome 36 = .ok (.getfield 11, 3) := by decide +kernel
theorem dX1_firstToCome_39 : decode cX1_firstToCome 39 = .ok (.iload_n 2, 1) := by decide +kernel
theorem dX1_firstToCome_40 : decode cX1_firstToCome 40 = .ok (.aaload, 1) := by decide +kernel
theorem dX1_firstToCome_41 : decode cX1_firstToCome 41 = .ok (.getfield 100, 3) := by decide +kernel
theorem dX1_firstToCome_44 : decode cX1_firstToCome 44 = .ok (.ifCond .ne 5, 3) := by decide +kernel
theorem dX1_firstToCome_47 : decode cX1_firstToCome 47 = .ok (.iload_n 2, 1) := by decide +kernel
theorem dX1_firstToCome_48 : decode cX1_firstToCome 48 = .ok (.ireturn, 1) := by decide +kernel
theorem dX1_firstToCome_49 : decode cX1_firstToCome 49 = .ok (.iinc 2 1, 3) := by decide +kernel
theorem dX1_firstToCome_52 : decode cX1_firstToCome 52 = .ok (.goto (-46), 3) := by decide +kernel
theorem dX1_firstToCome_55 : decode cX1_firstToCome 55 = .ok (.iconst (-1), 1) := by decide +kernel
theorem dX1_firstToCome_56 : decode cX1_firstToCome 56 = .ok (.ireturn, 1) := by decide +kernel
theorem dX1_keepValue_0 : decode cX1_keepValue 0 = .ok (.aload_n 0, 1) := by decide +kernel
theorem dX1_keepValue_1 : decode cX1_keepValue 1 = .ok (.iload_n 1, 1) := by decide +kernel
theorem dX1_keepValue_2 : decode cX1_keepValue 2 = .ok (.invokevirtual 37, 3) := by decide +kernel
theorem dX1_keepValue_5 : decode cX1_keepValue 5 = .ok (.astore 4, 2) := by decide +kernel
theorem dX1_keepValue_7 : decode cX1_keepValue 7 = .ok (.aload 4, 2) := by decide +kernel
theorem dX1_keepValue_9 : decode cX1_keepValue 9 = .ok (.ifnonnull 5, 3) := by decide +kernel
theorem dX1_keepValue_12 : decode cX1_keepValue 12 = .ok (.iconst 0, 1) := by decide +kernel
theorem dX1_keepValue_13 : decode cX1_keepValue 13 = .ok (.ireturn, 1) := by decide +kernel
theorem dX1_keepValue_14 : decode cX1_keepValue 14 = .ok (.aload 4, 2) := by decide +kernel
theorem dX1_keepValue_16 : decode cX1_keepValue 16 = .ok (.iconst 1, 1) := by decide +kernel
theorem dX1_keepValue_17 : decode cX1_keepValue 17 = .ok (.putfield 85, 3) := by decide +kernel
theorem dX1_keepValue_20 : decode cX1_keepValue 20 = .ok (.aload 4, 2) := by decide +kernel
theorem dX1_keepValue_22 : decode cX1_keepValue 22 = .ok (.iload_n 2, 1) := by decide +kernel
theorem dX1_keepValue_23 : decode cX1_keepValue 23 = .ok (.putfield 103, 3) := by decide +kernel
theorem dX1_keepValue_26 : decode cX1_keepValue 26 = .ok (.aload 4, 2) := by decide +kernel
theorem dX1_keepValue_28 : decode cX1_keepValue 28 = .ok (.iload_n 3, 1) := by decide +kernel
theorem dX1_keepValue_29 : decode cX1_keepValue 29 = .ok (.putfield 88, 3) := by decide +kernel
theorem dX1_keepValue_32 : decode cX1_keepValue 32 = .ok (.aload_n 0, 1) := by decide +kernel
theorem dX1_keepValue_33 : decode cX1_keepValue 33 = .ok (.invokevirtual 61, 3) := by decide +kernel
theorem dX1_keepValue_36 : decode cX1_keepValue 36 = .ok (.ireturn, 1) := by decide +kernel
theorem dX1_reckonNeeds_0 : decode cX1_reckonNeeds 0 = .ok (.iconst 0, 1) := by decide +kernel
theorem dX1_reckonNeeds_1 : decode cX1_reckonNeeds 1 = .ok (.istore_n 1, 1) := by decide +kernel
theorem dX1_reckonNeeds_2 : decode cX1_reckonNeeds 2 = .ok (.iconst 0, 1) := by decide +kernel
theorem dX1_reckonNeeds_3 : decode cX1_reckonNeeds 3 = .ok (.istore_n 2, 1) := by decide +kernel
theorem dX1_reckonNeeds_4 : decode cX1_reckonNeeds 4 = .ok (.iload_n 2, 1) := by decide +kernel
theorem dX1_reckonNeeds_5 : decode cX1_reckonNeeds 5 = .ok (.aload_n 0, 1) := by decide +kernel
theorem dX1_reckonNeeds_6 : decode cX1_reckonNeeds 6 = .ok (.getfield 18, 3) := by decide +kernel
theorem dX1_reckonNeeds_9 : decode cX1_reckonNeeds 9 = .ok (.if_icmp .ge 84, 3) := by decide +kernel
theorem dX1_reckonNeeds_12 : decode cX1_reckonNeeds 12 = .ok (.iload_n 2, 1) := by decide +kernel
theorem dX1_reckonNeeds_13 : decode cX1_reckonNeeds 13 = .ok (.aload_n 0, 1) := by decide +kernel
theorem dX1_reckonNeeds_14 : decode cX1_reckonNeeds 14 = .ok (.getfield 11, 3) := by decide +kernel
theorem dX1_reckonNeeds_17 : decode cX1_reckonNeeds 17 = .ok (.arraylength, 1) := by decide +kernel
theorem dX1_reckonNeeds_18 : decode cX1_reckonNeeds 18 = .ok (.if_icmp .ge 75, 3) := by decide +kernel
theorem dX1_reckonNeeds_21 : decode cX1_reckonNeeds 21 = .ok (.aload_n 0, 1) := by decide +kernel
theorem dX1_reckonNeeds_22 : decode cX1_reckonNeeds 22 = .ok (.getfield 11, 3) := by decide +kernel
theorem dX1_reckonNeeds_25 : decode cX1_reckonNeeds 25 = .ok (.iload_n 2, 1) := by decide +kernel
theorem dX1_reckonNeeds_26 : decode cX1_reckonNeeds 26 = .ok (.aaload, 1) := by decide +kernel
theorem dX1_reckonNeeds_27 : decode cX1_reckonNeeds 27 = .ok (.astore_n 3, 1) := by decide +kernel
theorem dX1_reckonNeeds_28 : decode cX1_reckonNeeds 28 = .ok (.aload_n 3, 1) := by decide +kernel
theorem dX1_reckonNeeds_29 : decode cX1_reckonNeeds 29 = .ok (.aload_n 3, 1) := by decide +kernel
theorem dX1_reckonNeeds_30 : decode cX1_reckonNeeds 30 = .ok (.getfield 65, 3) := by decide +kernel
theorem dX1_reckonNeeds_33 : decode cX1_reckonNeeds 33 = .ok (.iconst (-1), 1) := by decide +kernel
theorem dX1_reckonNeeds_34 : decode cX1_reckonNeeds 34 = .ok (.if_icmp .eq 18, 3) := by decide +kernel
theorem dX1_reckonNeeds_37 : decode cX1_reckonNeeds 37 = .ok (.aload_n 3, 1) := by decide +kernel
theorem dX1_reckonNeeds_38 : decode cX1_reckonNeeds 38 = .ok (.aload_n 0, 1) := by decide +kernel
theorem dX1_reckonNeeds_39 : decode cX1_reckonNeeds 39 = .ok (.aload_n 3, 1) := by decide +kernel
theorem dX1_reckonNeeds_40 : decode cX1_reckonNeeds 40 = .ok (.getfield 65, 3) := by decide +kernel
theorem dX1_reckonNeeds_43 : decode cX1_reckonNeeds 43 = .ok (.invokevirtual 37, 3) := by decide +kernel
theorem dX1_reckonNeeds_46 : decode cX1_reckonNeeds 46 = .ok (.invokevirtual 106, 3) := by decide +kernel
theorem dX1_reckonNeeds_49 : decode cX1_reckonNeeds 49 = .ok (.ifCond .eq 7, 3) := by decide +kernel
theorem dX1_reckonNeeds_52 : decode cX1_reckonNeeds 52 = .ok (.iconst 1, 1) := by decide +kernel
theorem dX1_reckonNeeds_53 : decode cX1_reckonNeeds 53 = .ok (.goto 4, 3) := by decide +kernel
theorem dX1_reckonNeeds_56 : decode cX1_reckonNeeds 56 = .ok (.iconst 0, 1) := by decide +kernel
theorem dX1_reckonNeeds_57 : decode cX1_reckonNeeds 57 = .ok (.putfield 110, 3) := by decide +kernel
theorem dX1_reckonNeeds_60 : decode cX1_reckonNeeds 60 = .ok (.aload_n 3, 1) := by decide +kernel
theorem dX1_reckonNeeds_61 : decode cX1_reckonNeeds 61 = .ok (.getfield 85, 3) := by decide +kernel
theorem dX1_reckonNeeds_64 : decode cX1_reckonNeeds 64 = .ok (.ifCond .eq 23, 3) := by decide +kernel
theorem dX1_reckonNeeds_67 : decode cX1_reckonNeeds 67 = .ok (.aload_n 3, 1) := by decide +kernel
theorem dX1_reckonNeeds_68 : decode cX1_reckonNeeds 68 = .ok (.getfield 110, 3) := by decide +kernel
theorem dX1_reckonNeeds_71 : decode cX1_reckonNeeds 71 = .ok (.ifCond .ne 16, 3) := by decide +kernel
theorem dX1_reckonNeeds_74 : decode cX1_reckonNeeds 74 = .ok (.aload_n 3, 1) := by decide +kernel
theorem dX1_reckonNeeds_75 : decode cX1_reckonNeeds 75 = .ok (.iconst 0, 1) := by decide +kernel
theorem dX1_reckonNeeds_76 : decode cX1_reckonNeeds 76 = .ok (.putfield 85, 3) := by decide +kernel
theorem dX1_reckonNeeds_79 : decode cX1_reckonNeeds 79 = .ok (.aload_n 3, 1) := by decide +kernel
theorem dX1_reckonNeeds_80 : decode cX1_reckonNeeds 80 = .ok (.iconst 0, 1) := by decide +kernel
theorem dX1_reckonNeeds_81 : decode cX1_reckonNeeds 81 = .ok (.putfield 88, 3) := by decide +kernel
theorem dX1_reckonNeeds_84 : decode cX1_reckonNeeds 84 = .ok (.iinc 1 1, 3) := by decide +kernel
theorem dX1_reckonNeeds_87 : decode cX1_reckonNeeds 87 = .ok (.iinc 2 1, 3) := by decide +kernel
theorem dX1_reckonNeeds_90 : decode cX1_reckonNeeds 90 = .ok (.goto (-86), 3) := by decide +kernel
theorem dX1_reckonNeeds_93 : decode cX1_reckonNeeds 93 = .ok (.iload_n 1, 1) := by decide +kernel
theorem dX1_reckonNeeds_94 : decode cX1_reckonNeeds 94 = .ok (.ireturn, 1) := by decide +kernel
theorem dX2_init_0 : decode cX2_init 0 = .ok (.aload_n 0, 1) := by decide +kernel
theorem dX2_init_1 : decode cX2_init 1 = .ok (.invokespecial 3, 3) := by decide +kernel
theorem dX2_init_4 : decode cX2_init 4 = .ok (.aload_n 0, 1) := by decide +kernel
theorem dX2_init_5 : decode cX2_init 5 = .ok (.bipush 32, 2) := by decide +kernel
theorem dX2_init_7 : decode cX2_init 7 = .ok (.newarray .int, 2) := by decide +kernel
theorem dX2_init_9 : decode cX2_init 9 = .ok (.putfield 9, 3) := by decide +kernel
theorem dX2_init_12 : decode cX2_init 12 = .ok (.aload_n 0, 1) := by decide +kernel
theorem dX2_init_13 : decode cX2_init 13 = .ok (.bipush 32, 2) := by decide +kernel
theorem dX2_init_15 : decode cX2_init 15 = .ok (.newarray .int, 2) := by decide +kernel
theorem dX2_init_17 : decode cX2_init 17 = .ok (.putfield 15, 3) := by decide +kernel
theorem dX2_init_20 : decode cX2_init 20 = .ok (.aload_n 0, 1) := by decide +kernel
theorem dX2_init_21 : decode cX2_init 21 = .ok (.bipush 8, 2) := by decide +kernel
theorem dX2_init_23 : decode cX2_init 23 = .ok (.newarray .int, 2) := by decide +kernel
theorem dX2_init_25 : decode cX2_init 25 = .ok (.putfield 18, 3) := by decide +kernel
theorem dX2_init_28 : decode cX2_init 28 = .ok (.return_, 1) := by decide +kernel
theorem dX2_clear_0 : decode cX2_clear 0 = .ok (.aload_n 0, 1) := by decide +kernel
theorem dX2_clear_1 : decode cX2_clear 1 = .ok (.iconst 0, 1) := by decide +kernel
theorem dX2_clear_2 : decode cX2_clear 2 = .ok (.putfield 21, 3) := by decide +kernel
theorem dX2_clear_5 : decode cX2_clear 5 = .ok (.return_, 1) := by decide +kernel
theorem dX2_addPlace_0 : decode cX2_addPlace 0 = .ok (.aload_n 0, 1) := by decide +kernel
theorem dX2_addPlace_1 : decode cX2_addPlace 1 = .ok (.getfield 21, 3) := by decide +kernel
theorem dX2_addPlace_4 : decode cX2_addPlace 4 = .ok (.aload_n 0, 1) := by decide +kernel
theorem dX2_addPlace_5 : decode cX2_addPlace 5 = .ok (.getfield 18, 3) := by decide +kernel
theorem dX2_addPlace_8 : decode cX2_addPlace 8 = .ok (.arraylength, 1) := by decide +kernel
theorem dX2_addPlace_9 : decode cX2_addPlace 9 = .ok (.if_icmp .lt 5, 3) := by decide +kernel
theorem dX2_addPlace_12 : decode cX2_addPlace 12 = .ok (.iconst (-1), 1) := by decide +kernel
theorem dX2_addPlace_13 : decode cX2_addPlace 13 = .ok (.ireturn, 1) := by decide +kernel
theorem dX2_addPlace_14 : decode cX2_addPlace 14 = .ok (.aload_n 0, 1) := by decide +kernel
theorem dX2_addPlace_15 : decode cX2_addPlace 15 = .ok (.getfield 18, 3) := by decide +kernel
theorem dX2_addPlace_18 : decode cX2_addPlace 18 = .ok (.aload_n 0, 1) := by decide +kernel
theorem dX2_addPlace_19 : decode cX2_addPlace 19 = .ok (.getfield 21, 3) := by decide +kernel
theorem dX2_addPlace_22 : decode cX2_addPlace 22 = .ok (.iconst 0, 1) := by decide +kernel
theorem dX2_addPlace_23 : decode cX2_addPlace 23 = .ok (.iastore, 1) := by decide +kernel
theorem dX2_addPlace_24 : decode cX2_addPlace 24 = .ok (.aload_n 0, 1) := by decide +kernel
theorem dX2_addPlace_25 : decode cX2_addPlace 25 = .ok (.dup, 1) := by decide +kernel
theorem dX2_addPlace_26 : decode cX2_addPlace 26 = .ok (.getfield 21, 3) := by decide +kernel
theorem dX2_addPlace_29 : decode cX2_addPlace 29 = .ok (.iconst 1, 1) := by decide +kernel
theorem dX2_addPlace_30 : decode cX2_addPlace 30 = .ok (.iadd, 1) := by decide +kernel
theorem dX2_addPlace_31 : decode cX2_addPlace 31 = .ok (.putfield 21, 3) := by decide +kernel
theorem dX2_addPlace_34 : decode cX2_addPlace 34 = .ok (.aload_n 0, 1) := by decide +kernel
theorem dX2_addPlace_35 : decode cX2_addPlace 35 = .ok (.getfield 21, 3) := by decide +kernel
theorem dX2_addPlace_38 : decode cX2_addPlace 38 = .ok (.ireturn, 1) := by decide +kernel
theorem dX2_addWord_0 : decode cX2_addWord 0 = .ok (.aload_n 0, 1) := by decide +kernel
theorem dX2_addWord_1 : decode cX2_addWord 1 = .ok (.getfield 21, 3) := by decide +kernel
theorem dX2_addWord_4 : decode cX2_addWord 4 = .ok (.iconst 1, 1) := by decide +kernel
theorem dX2_addWord_5 : decode cX2_addWord 5 = .ok (.isub, 1) := by decide +kernel
theorem dX2_addWord_6 : decode cX2_addWord 6 = .ok (.istore_n 3, 1) := by decide +kernel
theorem dX2_addWord_7 : decode cX2_addWord 7 = .ok (.iload_n 3, 1) := by decide +kernel
theorem dX2_addWord_8 : decode cX2_addWord 8 = .ok (.ifCond .lt 32, 3) := by decide +kernel
theorem dX2_addWord_11 : decode cX2_addWord 11 = .ok (.iload_n 3, 1) := by decide +kernel
theorem dX2_addWord_12 : decode cX2_addWord 12 = .ok (.aload_n 0, 1) := by decide +kernel
theorem dX2_addWord_13 : decode cX2_addWord 13 = .ok (.getfield 18, 3) := by decide +kernel
theorem dX2_addWord_16 : decode cX2_addWord 16 = .ok (.arraylength, 1) := by decide +kernel
theorem dX2_addWord_17 : decode cX2_addWord 17 = .ok (.if_icmp .ge 23, 3) := by decide +kernel
theorem dX2_addWord_20 : decode cX2_addWord 20 = .ok (.aload_n 0, 1) := by decide +kernel
theorem dX2_addWord_21 : decode cX2_addWord 21 = .ok (.getfield 18, 3) := by decide +kernel
theorem dX2_addWord_24 : decode cX2_addWord 24 = .ok (.iload_n 3, 1) := by decide +kernel
theorem dX2_addWord_25 : decode cX2_addWord 25 = .ok (.iaload, 1) := by decide +kernel
theorem dX2_addWord_26 : decode cX2_addWord 26 = .ok (.iconst 4, 1) := by decide +kernel
theorem dX2_addWord_27 : decode cX2_addWord 27 = .ok (.if_icmp .ge 13, 3) := by decide +kernel
theorem dX2_addWord_30 : decode cX2_addWord 30 = .ok (.aload_n 0, 1) := by decide +kernel
theorem dX2_addWord_31 : decode cX2_addWord 31 = .ok (.iload_n 3, 1) := by decide +kernel
theorem dX2_addWord_32 : decode cX2_addWord 32 = .ok (.iload_n 1, 1) := by decide +kernel
theorem dX2_addWord_33 : decode cX2_addWord 33 = .ok (.invokevirtual 25, 3) := by decide +kernel
theorem dX2_addWord_36 : decode cX2_addWord 36 = .ok (.iconst (-1), 1) := by decide +kernel
theorem dX2_addWord_37 : decode cX2_addWord 37 = .ok (.if_icmp .eq 5, 3) := by decide +kernel
theorem dX2_addWord_40 : decode cX2_addWord 40 = .ok (.iconst (-1), 1) := by decide +kernel
theorem dX2_addWord_41 : decode cX2_addWord 41 = .ok (.ireturn, 1) := by decide +kernel
theorem dX2_addWord_42 : decode cX2_addWord 42 = .ok (.iload_n 3, 1) := by decide +kernel
theorem dX2_addWord_43 : decode cX2_addWord 43 = .ok (.iconst 4, 1) := by decide +kernel
theorem dX2_addWord_44 : decode cX2_addWord 44 = .ok (.imul, 1) := by decide +kernel
theorem dX2_addWord_45 : decode cX2_addWord 45 = .ok (.aload_n 0, 1) := by decide +kernel
theorem dX2_addWord_46 : decode cX2_addWord 46 = .ok (.getfield 18, 3) := by decide +kernel
theorem dX2_addWord_49 : decode cX2_addWord 49 = .ok (.iload_n 3, 1) := by decide +kernel
theorem dX2_addWord_50 : decode cX2_addWord 50 = .ok (.iaload, 1) := by decide +kernel
theorem dX2_addWord_51 : decode cX2_addWord 51 = .ok (.iadd, 1) := by decide +kernel
theorem dX2_addWord_52 : decode cX2_addWord 52 = .ok (.istore 4, 2) := by decide +kernel
theorem dX2_addWord_54 : decode cX2_addWord 54 = .ok (.iload 4, 2) := by decide +kernel
theorem dX2_addWord_56 : decode cX2_addWord 56 = .ok (.ifCond .lt 23, 3) := by decide +kernel
theorem dX2_addWord_59 : decode cX2_addWord 59 = .ok (.iload 4, 2) := by decide +kernel
theorem dX2_addWord_61 : decode cX2_addWord 61 = .ok (.aload_n 0, 1) := by decide +kernel
theorem dX2_addWord_62 : decode cX2_addWord 62 = .ok (.getfield 9, 3) := by decide +kernel
theorem dX2_addWord_65 : decode cX2_addWord 65 = .ok (.arraylength, 1) := by decide +kernel
theorem dX2_addWord_66 : decode cX2_addWord 66 = .ok (.if_icmp .ge 13, 3) := by decide +kernel
theorem dX2_addWord_69 : decode cX2_addWord 69 = .ok (.iload 4, 2) := by decide +kernel
theorem dX2_addWord_71 : decode cX2_addWord 71 = .ok (.aload_n 0, 1) := by decide +kernel
theorem dX2_addWord_72 : decode cX2_addWord 72 = .ok (.getfield 15, 3) := by decide +kernel
theorem dX2_addWord_75 : decode cX2_addWord 75 = .ok (.arraylength, 1) := by decide +kernel
theorem dX2_addWord_76 : decode cX2_addWord 76 = .ok (.if_icmp .lt 5, 3) := by decide +kernel
theorem dX2_addWord_79 : decode cX2_addWord 79 = .ok (.iconst (-1), 1) := by decide +kernel
theorem dX2_addWord_80 : decode cX2_addWord 80 = .ok (.ireturn, 1) := by decide +kernel
theorem dX2_addWord_81 : decode cX2_addWord 81 = .ok (.aload_n 0, 1) := by decide +kernel
theorem dX2_addWord_82 : decode cX2_addWord 82 = .ok (.getfield 9, 3) := by decide +kernel
theorem dX2_addWord_85 : decode cX2_addWord 85 = .ok (.iload 4, 2) := by decide +kernel
theorem dX2_addWord_87 : decode cX2_addWord 87 = .ok (.iload_n 1, 1) := by decide +kernel
theorem dX2_addWord_88 : decode cX2_addWord 88 = .ok (.iastore, 1) := by decide +kernel
theorem dX2_addWord_89 : decode cX2_addWord 89 = .ok (.aload_n 0, 1) := by decide +kernel
theorem dX2_addWord_90 : decode cX2_addWord 90 = .ok (.getfield 15, 3) := by decide +kernel
theorem dX2_addWord_93 : decode cX2_addWord 93 = .ok (.iload 4, 2) := by decide +kernel
theorem dX2_addWord_95 : decode cX2_addWord 95 = .ok (.iload_n 2, 1) := by decide +kernel
theorem dX2_addWord_96 : decode cX2_addWord 96 = .ok (.iastore, 1) := by decide +kernel
theorem dX2_addWord_97 : decode cX2_addWord 97 = .ok (.aload_n 0, 1) := by decide +kernel
theorem dX2_addWord_98 : decode cX2_addWord 98 = .ok (.getfield 18, 3) := by decide +kernel
theorem dX2_addWord_101 : decode cX2_addWord 101 = .ok (.iload_n 3, 1) := by decide +kernel
theorem dX2_addWord_102 : decode cX2_addWord 102 = .ok (.dup2, 1) := by decide +kernel
theorem dX2_addWord_103 : decode cX2_addWord 103 = .ok (.iaload, 1) := by decide +kernel
theorem dX2_addWord_104 : decode cX2_addWord 104 = .ok (.iconst 1, 1) := by decide +kernel
theorem dX2_addWord_105 : decode cX2_addWord 105 = .ok (.iadd, 1) := by decide +kernel
theorem dX2_addWord_106 : decode cX2_addWord 106 = .ok (.iastore, 1) := by decide +kernel
theorem dX2_addWord_107 : decode cX2_addWord 107 = .ok (.aload_n 0, 1) := by decide +kernel
theorem dX2_addWord_108 : decode cX2_addWord 108 = .ok (.getfield 18, 3) := by decide +kernel
theorem dX2_addWord_111 : decode cX2_addWord 111 = .ok (.iload_n 3, 1) := by decide +kernel
theorem dX2_addWord_112 : decode cX2_addWord 112 = .ok (.iaload, 1) := by decide +kernel
theorem dX2_addWord_113 : decode cX2_addWord 113 = .ok (.ireturn, 1) := by decide +kernel
theorem dX2_wordsIn_0 : decode cX2_wordsIn 0 = .ok (.iload_n 1, 1) := by decide +kernel
theorem dX2_wordsIn_1 : decode cX2_wordsIn 1 = .ok (.ifCond .lt 29, 3) := by decide +kernel
theorem dX2_wordsIn_4 : decode cX2_wordsIn 4 = .ok (.iload_n 1, 1) := by decide +kernel
theorem dX2_wordsIn_5 : decode cX2_wordsIn 5 = .ok (.aload_n 0, 1) := by decide +kernel
theorem dX2_wordsIn_6 : decode cX2_wordsIn 6 = .ok (.getfield 21, 3) := by decide +kernel
theorem dX2_wordsIn_9 : decode cX2_wordsIn 9 = .ok (.if_icmp .ge 21, 3) := by decide +kernel
theorem dX2_wordsIn_12 : decode cX2_wordsIn 12 = .ok (.iload_n 1, 1) := by decide +kernel
theorem dX2_wordsIn_13 : decode cX2_wordsIn 13 = .ok (.aload_n 0, 1) := by decide +kernel
theorem dX2_wordsIn_14 : decode cX2_wordsIn 14 = .ok (.getfield 18, 3) := by decide +kernel
theorem dX2_wordsIn_17 : decode cX2_wordsIn 17 = .ok (.arraylength, 1) := by decide +kernel
theorem dX2_wordsIn_18 : decode cX2_wordsIn 18 = .ok (.if_icmp .ge 12, 3) := by decide +kernel
theorem dX2_wordsIn_21 : decode cX2_wordsIn 21 = .ok (.aload_n 0, 1) := by decide +kernel
theorem dX2_wordsIn_22 : decode cX2_wordsIn 22 = .ok (.getfield 18, 3) := by decide +kernel
theorem dX2_wordsIn_25 : decode cX2_wordsIn 25 = .ok (.iload_n 1, 1) := by decide +kernel
theorem dX2_wordsIn_26 : decode cX2_wordsIn 26 = .ok (.iaload, 1) := by decide +kernel
theorem dX2_wordsIn_27 : decode cX2_wordsIn 27 = .ok (.goto 4, 3) := by decide +kernel
theorem dX2_wordsIn_30 : decode cX2_wordsIn 30 = .ok (.iconst 0, 1) := by decide +kernel
theorem dX2_wordsIn_31 : decode cX2_wordsIn 31 = .ok (.ireturn, 1) := by decide +kernel
theorem dX2_wordAt_0 : decode cX2_wordAt 0 = .ok (.iload_n 1, 1) := by decide +kernel
theorem dX2_wordAt_1 : decode cX2_wordAt 1 = .ok (.iconst 4, 1) := by decide +kernel
theorem dX2_wordAt_2 : decode cX2_wordAt 2 = .ok (.imul, 1) := by decide +kernel
theorem dX2_wordAt_3 : decode cX2_wordAt 3 = .ok (.iload_n 2, 1) := by decide +kernel
theorem dX2_wordAt_4 : decode cX2_wordAt 4 = .ok (.iadd, 1) := by decide +kernel
theorem dX2_wordAt_5 : decode cX2_wordAt 5 = .ok (.istore_n 3, 1) := by decide +kernel
theorem dX2_wordAt_6 : decode cX2_wordAt 6 = .ok (.iload_n 2, 1) := by decide +kernel
theorem dX2_wordAt_7 : decode cX2_wordAt 7 = .ok (.ifCond .lt 30, 3) := by decide +kernel
theorem dX2_wordAt_10 : decode cX2_wordAt 10 = .ok (.iload_n 2, 1) := by decide +kernel
theorem dX2_wordAt_11 : decode cX2_wordAt 11 = .ok (.aload_n 0, 1) := by decide +kernel
theorem dX2_wordAt_12 : decode cX2_wordAt 12 = .ok (.iload_n 1, 1) := by decide +kernel
theorem dX2_wordAt_13 : decode cX2_wordAt 13 = .ok (.invokevirtual 29, 3) := by decide +kernel
theorem dX2_wordAt_16 : decode cX2_wordAt 16 = .ok (.if_icmp .ge 21, 3) := by decide +kernel
theorem dX2_wordAt_19 : decode cX2_wordAt 19 = .ok (.iload_n 3, 1) := by decide +kernel
theorem dX2_wordAt_20 : decode cX2_wordAt 20 = .ok (.aload_n 0, 1) := by decide +kernel
theorem dX2_wordAt_21 : decode cX2_wordAt 21 = .ok (.getfield 9, 3) := by decide +kernel
theorem dX2_wordAt_24 : decode cX2_wordAt 24 = .ok (.arraylength, 1) := by decide +kernel
theorem dX2_wordAt_25 : decode cX2_wordAt 25 = .ok (.if_icmp .ge 12, 3) := by decide +kernel
theorem dX2_wordAt_28 : decode cX2_wordAt 28 = .ok (.aload_n 0, 1) := by decide +kernel
theorem dX2_wordAt_29 : decode cX2_wordAt 29 = .ok (.getfield 9, 3) := by decide +kernel
theorem dX2_wordAt_32 : decode cX2_wordAt 32 = .ok (.iload_n 3, 1) := by decide +kernel
theorem dX2_wordAt_33 : decode cX2_wordAt 33 = .ok (.iaload, 1) := by decide +kernel
theorem dX2_wordAt_34 : decode cX2_wordAt 34 = .ok (.goto 4, 3) := by decide +kernel
theorem dX2_wordAt_37 : decode cX2_wordAt 37 = .ok (.iconst (-1), 1) := by decide +kernel
theorem dX2_wordAt_38 : decode cX2_wordAt 38 = .ok (.ireturn, 1) := by decide +kernel
theorem dX2_costAt_0 : decode cX2_costAt 0 = .ok (.iload_n 1, 1) := by decide +kernel
theorem dX2_costAt_1 : decode cX2_costAt 1 = .ok (.iconst 4, 1) := by decide +kernel
theorem dX2_costAt_2 : decode cX2_costAt 2 = .ok (.imul, 1) := by decide +kernel
theorem dX2_costAt_3 : decode cX2_costAt 3 = .ok (.iload_n 2, 1) := by decide +kernel
theorem dX2_costAt_4 : decode cX2_costAt 4 = .ok (.iadd, 1) := by decide +kernel
theorem dX2_costAt_5 : decode cX2_costAt 5 = .ok (.istore_n 3, 1) := by decide +kernel
theorem dX2_costAt_6 : decode cX2_costAt 6 = .ok (.iload_n 2, 1) := by decide +kernel
theorem dX2_costAt_7 : decode cX2_costAt 7 = .ok (.ifCond .lt 30, 3) := by decide +kernel
theorem dX2_costAt_10 : decode cX2_costAt 10 = .ok (.iload_n 2, 1) := by decide +kernel
theorem dX2_costAt_11 : decode cX2_costAt 11 = .ok (.aload_n 0, 1) := by decide +kernel
theorem dX2_costAt_12 : decode cX2_costAt 12 = .ok (.iload_n 1, 1) := by decide +kernel
theorem dX2_costAt_13 : decode cX2_costAt 13 = .ok (.invokevirtual 29, 3) := by decide +kernel
theorem dX2_costAt_16 : decode cX2_costAt 16 = .ok (.if_icmp .ge 21, 3) := by decide +kernel
theorem dX2_costAt_19 : decode cX2_costAt 19 = .ok (.iload_n 3, 1) := by decide +kernel
theorem dX2_costAt_20 : decode cX2_costAt 20 = .ok (.aload_n 0, 1) := by decide +kernel
theorem dX2_costAt_21 : decode cX2_costAt 21 = .ok (.getfield 15, 3) := by decide +kernel
theorem dX2_costAt_24 : decode cX2_costAt 24 = .ok (.arraylength, 1) := by decide +kernel
theorem dX2_costAt_25 : decode cX2_costAt 25 = .ok (.if_icmp .ge 12, 3) := by decide +kernel
theorem dX2_costAt_28 : decode cX2_costAt 28 = .ok (.aload_n 0, 1) := by decide +kernel
theorem dX2_costAt_29 : decode cX2_costAt 29 = .ok (.getfield 15, 3) := by decide +kernel
theorem dX2_costAt_32 : decode cX2_costAt 32 = .ok (.iload_n 3, 1) := by decide +kernel
theorem dX2_costAt_33 : decode cX2_costAt 33 = .ok (.iaload, 1) := by decide +kernel
theorem dX2_costAt_34 : decode cX2_costAt 34 = .ok (.goto 4, 3) := by decide +kernel
theorem dX2_costAt_37 : decode cX2_costAt 37 = .ok (.iconst (-1), 1) := by decide +kernel
theorem dX2_costAt_38 : decode cX2_costAt 38 = .ok (.ireturn, 1) := by decide +kernel
theorem dX2_costOf_0 : decode cX2_costOf 0 = .ok (.iconst 0, 1) := by decide +kernel
theorem dX2_costOf_1 : decode cX2_costOf 1 = .ok (.istore_n 3, 1) := by decide +kernel
theorem dX2_costOf_2 : decode cX2_costOf 2 = .ok (.iload_n 3, 1) := by decide +kernel
theorem dX2_costOf_3 : decode cX2_costOf 3 = .ok (.aload_n 0, 1) := by decide +kernel
theorem dX2_costOf_4 : decode cX2_costOf 4 = .ok (.iload_n 1, 1) := by decide +kernel
theorem dX2_costOf_5 : decode cX2_costOf 5 = .ok (.invokevirtual 29, 3) := by decide +kernel
theorem dX2_costOf_8 : decode cX2_costOf 8 = .ok (.if_icmp .ge 26, 3) := by decide +kernel
theorem dX2_costOf_11 : decode cX2_costOf 11 = .ok (.aload_n 0, 1) := by decide +kernel
theorem dX2_costOf_12 : decode cX2_costOf 12 = .ok (.iload_n 1, 1) := by decide +kernel
theorem dX2_costOf_13 : decode cX2_costOf 13 = .ok (.iload_n 3, 1) := by decide +kernel
theorem dX2_costOf_14 : decode cX2_costOf 14 = .ok (.invokevirtual 33, 3) := by decide +kernel
theorem dX2_costOf_17 : decode cX2_costOf 17 = .ok (.iload_n 2, 1) := by decide +kernel
theorem dX2_costOf_18 : decode cX2_costOf 18 = .ok (.if_icmp .ne 10, 3) := by decide +kernel
theorem dX2_costOf_21 : decode cX2_costOf 21 = .ok (.aload_n 0, 1) := by decide +kernel
theorem dX2_costOf_22 : decode cX2_costOf 22 = .ok (.iload_n 1, 1) := by decide +kernel
theorem dX2_costOf_23 : decode cX2_costOf 23 = .ok (.iload_n 3, 1) := by decide +kernel
theorem dX2_costOf_24 : decode cX2_costOf 24 = .ok (.invokevirtual 36, 3) := by decide +kernel
theorem dX2_costOf_27 : decode cX2_costOf 27 = .ok (.ireturn, 1) := by decide +kernel
theorem dX2_costOf_28 : decode cX2_costOf 28 = .ok (.iinc 3 1, 3) := by decide +kernel
theorem dX2_costOf_31 : decode cX2_costOf 31 = .ok (.goto (-29), 3) := by decide +kernel
theorem dX2_costOf_34 : decode cX2_costOf 34 = .ok (.iconst (-1), 1) := by decide +kernel
theorem dX2_costOf_35 : decode cX2_costOf 35 = .ok (.ireturn, 1) := by decide +kernel
theorem dX3_init_0 : decode cX3_init 0 = .ok (.aload_n 0, 1) := by decide +kernel
theorem dX3_init_1 : decode cX3_init 1 = .ok (.invokespecial 3, 3) := by decide +kernel
theorem dX3_init_4 : decode cX3_init 4 = .ok (.aload_n 0, 1) := by decide +kernel
theorem dX3_init_5 : decode cX3_init 5 = .ok (.bipush 20, 2) := by decide +kernel
theorem dX3_init_7 : decode cX3_init 7 = .ok (.newarray .int, 2) := by decide +kernel
theorem dX3_init_9 : decode cX3_init 9 = .ok (.putfield 9, 3) := by decide +kernel
theorem dX3_init_12 : decode cX3_init 12 = .ok (.return_, 1) := by decide +kernel
theorem dX3_push_0 : decode cX3_push 0 = .ok (.aload_n 0, 1) := by decide +kernel
theorem dX3_push_1 : decode cX3_push 1 = .ok (.getfield 15, 3) := by decide +kernel
theorem dX3_push_4 : decode cX3_push 4 = .ok (.aload_n 0, 1) := by decide +kernel
theorem dX3_push_5 : decode cX3_push 5 = .ok (.getfield 9, 3) := by decide +kernel
theorem dX3_push_8 : decode cX3_push 8 = .ok (.arraylength, 1) := by decide +kernel
theorem dX3_push_9 : decode cX3_push 9 = .ok (.if_icmp .lt 45, 3) := by decide +kernel
theorem dX3_push_12 : decode cX3_push 12 = .ok (.iconst 1, 1) := by decide +kernel
theorem dX3_push_13 : decode cX3_push 13 = .ok (.istore_n 2, 1) := by decide +kernel
theorem dX3_push_14 : decode cX3_push 14 = .ok (.iload_n 2, 1) := by decide +kernel
theorem dX3_push_15 : decode cX3_push 15 = .ok (.aload_n 0, 1) := by decide +kernel
theorem dX3_push_16 : decode cX3_push 16 = .ok (.getfield 9, 3) := by decide +kernel
theorem dX3_push_19 : decode cX3_push 19 = .ok (.arraylength, 1) := by decide +kernel
theorem dX3_push_20 : decode cX3_push 20 = .ok (.if_icmp .ge 23, 3) := by decide +kernel
theorem dX3_push_23 : decode cX3_push 23 = .ok (.aload_n 0, 1) := by decide +kernel
theorem dX3_push_24 : decode cX3_push 24 = .ok (.getfield 9, 3) := by decide +kernel
theorem dX3_push_27 : decode cX3_push 27 = .ok (.iload_n 2, 1) := by decide +kernel
theorem dX3_push_28 : decode cX3_push 28 = .ok (.iconst 1, 1) := by decide +kernel
theorem dX3_push_29 : decode cX3_push 29 = .ok (.isub, 1) := by decide +kernel
theorem dX3_push_30 : decode cX3_push 30 = .ok (.aload_n 0, 1) := by decide +kernel
theorem dX3_push_31 : decode cX3_push 31 = .ok (.getfield 9, 3) := by decide +kernel
theorem dX3_push_34 : decode cX3_push 34 = .ok (.iload_n 2, 1) := by decide +kernel
theorem dX3_push_35 : decode cX3_push 35 = .ok (.iaload, 1) := by decide +kernel
theorem dX3_push_36 : decode cX3_push 36 = .ok (.iastore, 1) := by decide +kernel
theorem dX3_push_37 : decode cX3_push 37 = .ok (.iinc 2 1, 3) := by decide +kernel
theorem dX3_push_40 : decode cX3_push 40 = .ok (.goto (-26), 3) := by decide +kernel
theorem dX3_push_43 : decode cX3_push 43 = .ok (.aload_n 0, 1) := by decide +kernel
theorem dX3_push_44 : decode cX3_push 44 = .ok (.aload_n 0, 1) := by decide +kernel
theorem dX3_push_45 : decode cX3_push 45 = .ok (.getfield 9, 3) := by decide +kernel
theorem dX3_push_48 : decode cX3_push 48 = .ok (.arraylength, 1) := by decide +kernel
theorem dX3_push_49 : decode cX3_push 49 = .ok (.iconst 1, 1) := by decide +kernel
theorem dX3_push_50 : decode cX3_push 50 = .ok (.isub, 1) := by decide +kernel
theorem dX3_push_51 : decode cX3_push 51 = .ok (.putfield 15, 3) := by decide +kernel
theorem dX3_push_54 : decode cX3_push 54 = .ok (.aload_n 0, 1) := by decide +kernel
theorem dX3_push_55 : decode cX3_push 55 = .ok (.getfield 15, 3) := by decide +kernel
theorem dX3_push_58 : decode cX3_push 58 = .ok (.ifCond .lt 35, 3) := by decide +kernel
theorem dX3_push_61 : decode cX3_push 61 = .ok (.aload_n 0, 1) := by decide +kernel
theorem dX3_push_62 : decode cX3_push 62 = .ok (.getfield 15, 3) := by decide +kernel
theorem dX3_push_65 : decode cX3_push 65 = .ok (.aload_n 0, 1) := by decide +kernel
theorem dX3_push_66 : decode cX3_push 66 = .ok (.getfield 9, 3) := by decide +kernel
theorem dX3_push_69 : decode cX3_push 69 = .ok (.arraylength, 1) := by decide +kernel
theorem dX3_push_70 : decode cX3_push 70 = .ok (.if_icmp .ge 23, 3) := by decide +kernel
theorem dX3_push_73 : decode cX3_push 73 = .ok (.aload_n 0, 1) := by decide +kernel
theorem dX3_push_74 : decode cX3_push 74 = .ok (.getfield 9, 3) := by decide +kernel
theorem dX3_push_77 : decode cX3_push 77 = .ok (.aload_n 0, 1) := by decide +kernel
theorem dX3_push_78 : decode cX3_push 78 = .ok (.getfield 15, 3) := by decide +kernel
theorem dX3_push_81 : decode cX3_push 81 = .ok (.iload_n 1, 1) := by decide +kernel
theorem dX3_push_82 : decode cX3_push 82 = .ok (.iastore, 1) := by decide +kernel
theorem dX3_push_83 : decode cX3_push 83 = .ok (.aload_n 0, 1) := by decide +kernel
theorem dX3_push_84 : decode cX3_push 84 = .ok (.dup, 1) := by decide +kernel
theorem dX3_push_85 : decode cX3_push 85 = .ok (.getfield 15, 3) := by decide +kernel
theorem dX3_push_88 : decode cX3_push 88 = .ok (.iconst 1, 1) := by decide +kernel
theorem dX3_push_89 : decode cX3_push 89 = .ok (.iadd, 1) := by decide +kernel
theorem dX3_push_90 : decode cX3_push 90 = .ok (.putfield 15, 3) := by decide +kernel
theorem dX3_push_93 : decode cX3_push 93 = .ok (.return_, 1) := by decide +kernel
theorem dX3_pop_0 : decode cX3_pop 0 = .ok (.aload_n 0, 1) := by decide +kernel
theorem dX3_pop_1 : decode cX3_pop 1 = .ok (.getfield 15, 3) := by decide +kernel
theorem dX3_pop_4 : decode cX3_pop 4 = .ok (.ifCond .le 15, 3) := by decide +kernel
theorem dX3_pop_7 : decode cX3_pop 7 = .ok (.aload_n 0, 1) := by decide +kernel
theorem dX3_pop_8 : decode cX3_pop 8 = .ok (.getfield 15, 3) := by decide +kernel
theorem dX3_pop_11 : decode cX3_pop 11 = .ok (.aload_n 0, 1) := by decide +kernel
theorem dX3_pop_12 : decode cX3_pop 12 = .ok (.getfield 9, 3) := by decide +kernel
theorem dX3_pop_15 : decode cX3_pop 15 = .ok (.arraylength, 1) := by decide +kernel
theorem dX3_pop_16 : decode cX3_pop 16 = .ok (.if_icmp .le 5, 3) := by decide +kernel
theorem dX3_pop_19 : decode cX3_pop 19 = .ok (.iconst (-1), 1) := by decide +kernel
theorem dX3_pop_20 : decode cX3_pop 20 = .ok (.ireturn, 1) := by decide +kernel
theorem dX3_pop_21 : decode cX3_pop 21 = .ok (.aload_n 0, 1) := by decide +kernel
theorem dX3_pop_22 : decode cX3_pop 22 = .ok (.dup, 1) := by decide +kernel
theorem dX3_pop_23 : decode cX3_pop 23 = .ok (.getfield 15, 3) := by decide +kernel
theorem dX3_pop_26 : decode cX3_pop 26 = .ok (.iconst 1, 1) := by decide +kernel
theorem dX3_pop_27 : decode cX3_pop 27 = .ok (.isub, 1) := by decide +kernel
theorem dX3_pop_28 : decode cX3_pop 28 = .ok (.putfield 15, 3) := by decide +kernel
theorem dX3_pop_31 : decode cX3_pop 31 = .ok (.aload_n 0, 1) := by decide +kernel
theorem dX3_pop_32 : decode cX3_pop 32 = .ok (.getfield 9, 3) := by decide +kernel
theorem dX3_pop_35 : decode cX3_pop 35 = .ok (.aload_n 0, 1) := by decide +kernel
theorem dX3_pop_36 : decode cX3_pop 36 = .ok (.getfield 15, 3) := by decide +kernel
theorem dX3_pop_39 : decode cX3_pop 39 = .ok (.iaload, 1) := by decide +kernel
theorem dX3_pop_40 : decode cX3_pop 40 = .ok (.ireturn, 1) := by decide +kernel
theorem dX4_init_0 : decode cX4_init 0 = .ok (.aload_n 0, 1) := by decide +kernel
theorem dX4_init_1 : decode cX4_init 1 = .ok (.invokespecial 3, 3) := by decide +kernel
theorem dX4_init_4 : decode cX4_init 4 = .ok (.aload_n 0, 1) := by decide +kernel
theorem dX4_init_5 : decode cX4_init 5 = .ok (.aload_n 1, 1) := by decide +kernel
theorem dX4_init_6 : decode cX4_init 6 = .ok (.putfield 9, 3) := by decide +kernel
theorem dX4_init_9 : decode cX4_init 9 = .ok (.aload_n 0, 1) := by decide +kernel
theorem dX4_init_10 : decode cX4_init 10 = .ok (.aload_n 2, 1) := by decide +kernel
theorem dX4_init_11 : decode cX4_init 11 = .ok (.putfield 15, 3) := by decide +kernel
theorem dX4_init_14 : decode cX4_init 14 = .ok (.aload_n 0, 1) := by decide +kernel
theorem dX4_init_15 : decode cX4_init 15 = .ok (.new 19, 3) := by decide +kernel
theorem dX4_init_18 : decode cX4_init 18 = .ok (.dup, 1) := by decide +kernel
theorem dX4_init_19 : decode cX4_init 19 = .ok (.iconst 1, 1) := by decide +kernel
theorem dX4_init_20 : decode cX4_init 20 = .ok (.invokespecial 21, 3) := by decide +kernel
theorem dX4_init_23 : decode cX4_init 23 = .ok (.putfield 24, 3) := by decide +kernel
theorem dX4_init_26 : decode cX4_init 26 = .ok (.aload_n 0, 1) := by decide +kernel
theorem dX4_init_27 : decode cX4_init 27 = .ok (.new 28, 3) := by decide +kernel
theorem dX4_init_30 : decode cX4_init 30 = .ok (.dup, 1) := by decide +kernel
theorem dX4_init_31 : decode cX4_init 31 = .ok (.invokespecial 30, 3) := by decide +kernel
theorem dX4_init_34 : decode cX4_init 34 = .ok (.putfield 31, 3) := by decide +kernel
theorem dX4_init_37 : decode cX4_init 37 = .ok (.aload_n 0, 1) := by decide +kernel
theorem dX4_init_38 : decode cX4_init 38 = .ok (.getfield 24, 3) := by decide +kernel
theorem dX4_init_41 : decode cX4_init 41 = .ok (.invokevirtual 35, 3) := by decide +kernel
theorem dX4_init_44 : decode cX4_init 44 = .ok (.aload_n 0, 1) := by decide +kernel
theorem dX4_init_45 : decode cX4_init 45 = .ok (.bipush 30, 2) := by decide +kernel
