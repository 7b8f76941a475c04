/-! printed: decode rows -/
theorem dX4_init_47 : decode cX4_init 47 = .ok (.putfield 38, 3) := by decide +kernel
theorem dX4_init_50 : decode cX4_init 50 = .ok (.aload_n 0, 1) := by decide +kernel
theorem dX4_init_51 : decode cX4_init 51 = .ok (.iconst 5, 1) := by decide +kernel
theorem dX4_init_52 : decode cX4_init 52 = .ok (.putfield 42, 3) := by decide +kernel
theorem dX4_init_55 : decode cX4_init 55 = .ok (.aload_n 0, 1) := by decide +kernel
theorem dX4_init_56 : decode cX4_init 56 = .ok (.bipush 10, 2) := by decide +kernel
theorem dX4_init_58 : decode cX4_init 58 = .ok (.putfield 45, 3) := by decide +kernel
theorem dX4_init_61 : decode cX4_init 61 = .ok (.return_, 1) := by decide +kernel
theorem dX4_forget_0 : decode cX4_forget 0 = .ok (.aload_n 0, 1) := by decide +kernel
theorem dX4_forget_1 : decode cX4_forget 1 = .ok (.getfield 24, 3) := by decide +kernel
theorem dX4_forget_4 : decode cX4_forget 4 = .ok (.invokevirtual 35, 3) := by decide +kernel
theorem dX4_forget_7 : decode cX4_forget 7 = .ok (.return_, 1) := by decide +kernel
theorem dX4_read_0 : decode cX4_read 0 = .ok (.aload_n 0, 1) := by decide +kernel
theorem dX4_read_1 : decode cX4_read 1 = .ok (.aload_n 0, 1) := by decide +kernel
theorem dX4_read_2 : decode cX4_read 2 = .ok (.getfield 9, 3) := by decide +kernel
theorem dX4_read_5 : decode cX4_read 5 = .ok (.iload_n 1, 1) := by decide +kernel
theorem dX4_read_6 : decode cX4_read 6 = .ok (.invokevirtual 48, 3) := by decide +kernel
theorem dX4_read_9 : decode cX4_read 9 = .ok (.iconst 0, 1) := by decide +kernel
theorem dX4_read_10 : decode cX4_read 10 = .ok (.invokevirtual 54, 3) := by decide +kernel
theorem dX4_read_13 : decode cX4_read 13 = .ok (.aload_n 0, 1) := by decide +kernel
theorem dX4_read_14 : decode cX4_read 14 = .ok (.invokevirtual 58, 3) := by decide +kernel
theorem dX4_read_17 : decode cX4_read 17 = .ok (.aload_n 0, 1) := by decide +kernel
theorem dX4_read_18 : decode cX4_read 18 = .ok (.aload_n 0, 1) := by decide +kernel
theorem dX4_read_19 : decode cX4_read 19 = .ok (.getfield 9, 3) := by decide +kernel
theorem dX4_read_22 : decode cX4_read 22 = .ok (.bipush 7, 2) := by decide +kernel
theorem dX4_read_24 : decode cX4_read 24 = .ok (.invokevirtual 61, 3) := by decide +kernel
theorem dX4_read_27 : decode cX4_read 27 = .ok (.aload_n 0, 1) := by decide +kernel
theorem dX4_read_28 : decode cX4_read 28 = .ok (.aload_n 0, 1) := by decide +kernel
theorem dX4_read_29 : decode cX4_read 29 = .ok (.getfield 9, 3) := by decide +kernel
theorem dX4_read_32 : decode cX4_read 32 = .ok (.iload_n 2, 1) := by decide +kernel
theorem dX4_read_33 : decode cX4_read 33 = .ok (.invokevirtual 48, 3) := by decide +kernel
theorem dX4_read_36 : decode cX4_read 36 = .ok (.bipush 8, 2) := by decide +kernel
theorem dX4_read_38 : decode cX4_read 38 = .ok (.invokevirtual 54, 3) := by decide +kernel
theorem dX4_read_41 : decode cX4_read 41 = .ok (.return_, 1) := by decide +kernel
theorem dX4_found_0 : decode cX4_found 0 = .ok (.aload_n 0, 1) := by decide +kernel
theorem dX4_found_1 : decode cX4_found 1 = .ok (.iload_n 1, 1) := by decide +kernel
theorem dX4_found_2 : decode cX4_found 2 = .ok (.invokevirtual 65, 3) := by decide +kernel
theorem dX4_found_5 : decode cX4_found 5 = .ok (.iconst (-1), 1) := by decide +kernel
theorem dX4_found_6 : decode cX4_found 6 = .ok (.if_icmp .eq 7, 3) := by decide +kernel
theorem dX4_found_9 : decode cX4_found 9 = .ok (.iconst 1, 1) := by decide +kernel
theorem dX4_found_10 : decode cX4_found 10 = .ok (.goto 4, 3) := by decide +kernel
theorem dX4_found_13 : decode cX4_found 13 = .ok (.iconst 0, 1) := by decide +kernel
theorem dX4_found_14 : decode cX4_found 14 = .ok (.ireturn, 1) := by decide +kernel
theorem dX4_key_0 : decode cX4_key 0 = .ok (.aload_n 0, 1) := by decide +kernel
theorem dX4_key_1 : decode cX4_key 1 = .ok (.getfield 24, 3) := by decide +kernel
theorem dX4_key_4 : decode cX4_key 4 = .ok (.iconst 0, 1) := by decide +kernel
theorem dX4_key_5 : decode cX4_key 5 = .ok (.iload_n 1, 1) := by decide +kernel
theorem dX4_key_6 : decode cX4_key 6 = .ok (.invokevirtual 69, 3) := by decide +kernel
theorem dX4_key_9 : decode cX4_key 9 = .ok (.ireturn, 1) := by decide +kernel
theorem dX4_sort_0 : decode cX4_sort 0 = .ok (.aload_n 0, 1) := by decide +kernel
theorem dX4_sort_1 : decode cX4_sort 1 = .ok (.iload_n 1, 1) := by decide +kernel
theorem dX4_sort_2 : decode cX4_sort 2 = .ok (.invokevirtual 72, 3) := by decide +kernel
theorem dX4_sort_5 : decode cX4_sort 5 = .ok (.ifCond .eq 14, 3) := by decide +kernel
theorem dX4_sort_8 : decode cX4_sort 8 = .ok (.aload_n 0, 1) := by decide +kernel
theorem dX4_sort_9 : decode cX4_sort 9 = .ok (.iload_n 1, 1) := by decide +kernel
theorem dX4_sort_10 : decode cX4_sort 10 = .ok (.invokevirtual 65, 3) := by decide +kernel
theorem dX4_sort_13 : decode cX4_sort 13 = .ok (.invokestatic 76, 3) := by decide +kernel
theorem dX4_sort_16 : decode cX4_sort 16 = .ok (.goto 4, 3) := by decide +kernel
theorem dX4_sort_19 : decode cX4_sort 19 = .ok (.iconst (-1), 1) := by decide +kernel
theorem dX4_sort_20 : decode cX4_sort 20 = .ok (.ireturn, 1) := by decide +kernel
theorem dX4_value_0 : decode cX4_value 0 = .ok (.aload_n 0, 1) := by decide +kernel
theorem dX4_value_1 : decode cX4_value 1 = .ok (.iload_n 1, 1) := by decide +kernel
theorem dX4_value_2 : decode cX4_value 2 = .ok (.invokevirtual 72, 3) := by decide +kernel
theorem dX4_value_5 : decode cX4_value 5 = .ok (.ifCond .eq 14, 3) := by decide +kernel
theorem dX4_value_8 : decode cX4_value 8 = .ok (.aload_n 0, 1) := by decide +kernel
theorem dX4_value_9 : decode cX4_value 9 = .ok (.iload_n 1, 1) := by decide +kernel
theorem dX4_value_10 : decode cX4_value 10 = .ok (.invokevirtual 65, 3) := by decide +kernel
theorem dX4_value_13 : decode cX4_value 13 = .ok (.invokestatic 79, 3) := by decide +kernel
theorem dX4_value_16 : decode cX4_value 16 = .ok (.goto 4, 3) := by decide +kernel
theorem dX4_value_19 : decode cX4_value 19 = .ok (.iconst (-1), 1) := by decide +kernel
theorem dX4_value_20 : decode cX4_value 20 = .ok (.ireturn, 1) := by decide +kernel
theorem dX4_cost_0 : decode cX4_cost 0 = .ok (.aload_n 0, 1) := by decide +kernel
theorem dX4_cost_1 : decode cX4_cost 1 = .ok (.iload_n 1, 1) := by decide +kernel
theorem dX4_cost_2 : decode cX4_cost 2 = .ok (.invokevirtual 72, 3) := by decide +kernel
theorem dX4_cost_5 : decode cX4_cost 5 = .ok (.ifCond .eq 15, 3) := by decide +kernel
theorem dX4_cost_8 : decode cX4_cost 8 = .ok (.aload_n 0, 1) := by decide +kernel
theorem dX4_cost_9 : decode cX4_cost 9 = .ok (.getfield 24, 3) := by decide +kernel
theorem dX4_cost_12 : decode cX4_cost 12 = .ok (.iconst 0, 1) := by decide +kernel
theorem dX4_cost_13 : decode cX4_cost 13 = .ok (.iload_n 1, 1) := by decide +kernel
theorem dX4_cost_14 : decode cX4_cost 14 = .ok (.invokevirtual 82, 3) := by decide +kernel
theorem dX4_cost_17 : decode cX4_cost 17 = .ok (.goto 4, 3) := by decide +kernel
theorem dX4_cost_20 : decode cX4_cost 20 = .ok (.iconst (-1), 1) := by decide +kernel
theorem dX4_cost_21 : decode cX4_cost 21 = .ok (.ireturn, 1) := by decide +kernel
theorem dX4_isOtherNear_0 : decode cX4_isOtherNear 0 = .ok (.aload_n 0, 1) := by decide +kernel
theorem dX4_isOtherNear_1 : decode cX4_isOtherNear 1 = .ok (.iconst 0, 1) := by decide +kernel
theorem dX4_isOtherNear_2 : decode cX4_isOtherNear 2 = .ok (.invokevirtual 72, 3) := by decide +kernel
theorem dX4_isOtherNear_5 : decode cX4_isOtherNear 5 = .ok (.ifCond .eq 33, 3) := by decide +kernel
theorem dX4_isOtherNear_8 : decode cX4_isOtherNear 8 = .ok (.aload_n 0, 1) := by decide +kernel
theorem dX4_isOtherNear_9 : decode cX4_isOtherNear 9 = .ok (.iconst 1, 1) := by decide +kernel
theorem dX4_isOtherNear_10 : decode cX4_isOtherNear 10 = .ok (.invokevirtual 72, 3) := by decide +kernel
theorem dX4_isOtherNear_13 : decode cX4_isOtherNear 13 = .ok (.ifCond .eq 25, 3) := by decide +kernel
theorem dX4_isOtherNear_16 : decode cX4_isOtherNear 16 = .ok (.aload_n 0, 1) := by decide +kernel
theorem dX4_isOtherNear_17 : decode cX4_isOtherNear 17 = .ok (.iconst 1, 1) := by decide +kernel
theorem dX4_isOtherNear_18 : decode cX4_isOtherNear 18 = .ok (.invokevirtual 85, 3) := by decide +kernel
theorem dX4_isOtherNear_21 : decode cX4_isOtherNear 21 = .ok (.aload_n 0, 1) := by decide +kernel
theorem dX4_isOtherNear_22 : decode cX4_isOtherNear 22 = .ok (.iconst 0, 1) := by decide +kernel
theorem dX4_isOtherNear_23 : decode cX4_isOtherNear 23 = .ok (.invokevirtual 85, 3) := by decide +kernel
theorem dX4_isOtherNear_26 : decode cX4_isOtherNear 26 = .ok (.aload_n 0, 1) := by decide +kernel
theorem dX4_isOtherNear_27 : decode cX4_isOtherNear 27 = .ok (.getfield 45, 3) := by decide +kernel
theorem dX4_isOtherNear_30 : decode cX4_isOtherNear 30 = .ok (.iadd, 1) := by decide +kernel
theorem dX4_isOtherNear_31 : decode cX4_isOtherNear 31 = .ok (.if_icmp .ge 7, 3) := by decide +kernel
theorem dX4_isOtherNear_34 : decode cX4_isOtherNear 34 = .ok (.iconst 1, 1) := by decide +kernel
theorem dX4_isOtherNear_35 : decode cX4_isOtherNear 35 = .ok (.goto 4, 3) := by decide +kernel
theorem dX4_isOtherNear_38 : decode cX4_isOtherNear 38 = .ok (.iconst 0, 1) := by decide +kernel
theorem dX4_isOtherNear_39 : decode cX4_isOtherNear 39 = .ok (.ireturn, 1) := by decide +kernel
theorem dX4_sortOf_0 : decode cX4_sortOf 0 = .ok (.iload_n 0, 1) := by decide +kernel
theorem dX4_sortOf_1 : decode cX4_sortOf 1 = .ok (.ldc 87, 2) := by decide +kernel
theorem dX4_sortOf_3 : decode cX4_sortOf 3 = .ok (.idiv, 1) := by decide +kernel
theorem dX4_sortOf_4 : decode cX4_sortOf 4 = .ok (.ireturn, 1) := by decide +kernel
theorem dX4_valueOf_0 : decode cX4_valueOf 0 = .ok (.iload_n 0, 1) := by decide +kernel
theorem dX4_valueOf_1 : decode cX4_valueOf 1 = .ok (.ldc 87, 2) := by decide +kernel
theorem dX4_valueOf_3 : decode cX4_valueOf 3 = .ok (.irem, 1) := by decide +kernel
theorem dX4_valueOf_4 : decode cX4_valueOf 4 = .ok (.ireturn, 1) := by decide +kernel
theorem dX4_offerAnswers_0 : decode cX4_offerAnswers 0 = .ok (.aload_n 1, 1) := by decide +kernel
theorem dX4_offerAnswers_1 : decode cX4_offerAnswers 1 = .ok (.ifnonnull 4, 3) := by decide +kernel
theorem dX4_offerAnswers_4 : decode cX4_offerAnswers 4 = .ok (.return_, 1) := by decide +kernel
theorem dX4_offerAnswers_5 : decode cX4_offerAnswers 5 = .ok (.aload_n 1, 1) := by decide +kernel
theorem dX4_offerAnswers_6 : decode cX4_offerAnswers 6 = .ok (.getfield 88, 3) := by decide +kernel
theorem dX4_offerAnswers_9 : decode cX4_offerAnswers 9 = .ok (.ifCond .le 12, 3) := by decide +kernel
theorem dX4_offerAnswers_12 : decode cX4_offerAnswers 12 = .ok (.aload_n 0, 1) := by decide +kernel
theorem dX4_offerAnswers_13 : decode cX4_offerAnswers 13 = .ok (.aload_n 1, 1) := by decide +kernel
theorem dX4_offerAnswers_14 : decode cX4_offerAnswers 14 = .ok (.iload_n 2, 1) := by decide +kernel
theorem dX4_offerAnswers_15 : decode cX4_offerAnswers 15 = .ok (.invokevirtual 93, 3) := by decide +kernel
theorem dX4_offerAnswers_18 : decode cX4_offerAnswers 18 = .ok (.goto 9, 3) := by decide +kernel
theorem dX4_offerAnswers_21 : decode cX4_offerAnswers 21 = .ok (.aload_n 0, 1) := by decide +kernel
theorem dX4_offerAnswers_22 : decode cX4_offerAnswers 22 = .ok (.aload_n 1, 1) := by decide +kernel
theorem dX4_offerAnswers_23 : decode cX4_offerAnswers 23 = .ok (.iload_n 2, 1) := by decide +kernel
theorem dX4_offerAnswers_24 : decode cX4_offerAnswers 24 = .ok (.invokevirtual 61, 3) := by decide +kernel
theorem dX4_offerAnswers_27 : decode cX4_offerAnswers 27 = .ok (.return_, 1) := by decide +kernel
theorem dX4_offerOrders_0 : decode cX4_offerOrders 0 = .ok (.iconst 0, 1) := by decide +kernel
theorem dX4_offerOrders_1 : decode cX4_offerOrders 1 = .ok (.istore_n 1, 1) := by decide +kernel
theorem dX4_offerOrders_2 : decode cX4_offerOrders 2 = .ok (.iload_n 1, 1) := by decide +kernel
theorem dX4_offerOrders_3 : decode cX4_offerOrders 3 = .ok (.aload_n 0, 1) := by decide +kernel
theorem dX4_offerOrders_4 : decode cX4_offerOrders 4 = .ok (.getfield 15, 3) := by decide +kernel
theorem dX4_offerOrders_7 : decode cX4_offerOrders 7 = .ok (.getfield 96, 3) := by decide +kernel
theorem dX4_offerOrders_10 : decode cX4_offerOrders 10 = .ok (.if_icmp .ge 76, 3) := by decide +kernel
theorem dX4_offerOrders_13 : decode cX4_offerOrders 13 = .ok (.iconst 0, 1) := by decide +kernel
theorem dX4_offerOrders_14 : decode cX4_offerOrders 14 = .ok (.istore_n 2, 1) := by decide +kernel
theorem dX4_offerOrders_15 : decode cX4_offerOrders 15 = .ok (.iload_n 2, 1) := by decide +kernel
theorem dX4_offerOrders_16 : decode cX4_offerOrders 16 = .ok (.aload_n 0, 1) := by decide +kernel
theorem dX4_offerOrders_17 : decode cX4_offerOrders 17 = .ok (.getfield 15, 3) := by decide +kernel
theorem dX4_offerOrders_20 : decode cX4_offerOrders 20 = .ok (.iload_n 1, 1) := by decide +kernel
theorem dX4_offerOrders_21 : decode cX4_offerOrders 21 = .ok (.invokevirtual 101, 3) := by decide +kernel
theorem dX4_offerOrders_24 : decode cX4_offerOrders 24 = .ok (.if_icmp .ge 56, 3) := by decide +kernel
theorem dX4_offerOrders_27 : decode cX4_offerOrders 27 = .ok (.aload_n 0, 1) := by decide +kernel
theorem dX4_offerOrders_28 : decode cX4_offerOrders 28 = .ok (.getfield 15, 3) := by decide +kernel
theorem dX4_offerOrders_31 : decode cX4_offerOrders 31 = .ok (.iload_n 1, 1) := by decide +kernel
theorem dX4_offerOrders_32 : decode cX4_offerOrders 32 = .ok (.iload_n 2, 1) := by decide +kernel
theorem dX4_offerOrders_33 : decode cX4_offerOrders 33 = .ok (.invokevirtual 104, 3) := by decide +kernel
theorem dX4_offerOrders_36 : decode cX4_offerOrders 36 = .ok (.istore_n 3, 1) := by decide +kernel
theorem dX4_offerOrders_37 : decode cX4_offerOrders 37 = .ok (.iload_n 3, 1) := by decide +kernel
theorem dX4_offerOrders_38 : decode cX4_offerOrders 38 = .ok (.bipush 11, 2) := by decide +kernel
theorem dX4_offerOrders_40 : decode cX4_offerOrders 40 = .ok (.if_icmp .lt 34, 3) := by decide +kernel
theorem dX4_offerOrders_43 : decode cX4_offerOrders 43 = .ok (.iload_n 3, 1) := by decide +kernel
theorem dX4_offerOrders_44 : decode cX4_offerOrders 44 = .ok (.bipush 16, 2) := by decide +kernel
theorem dX4_offerOrders_46 : decode cX4_offerOrders 46 = .ok (.if_icmp .gt 28, 3) := by decide +kernel
theorem dX4_offerOrders_49 : decode cX4_offerOrders 49 = .ok (.aload_n 0, 1) := by decide +kernel
theorem dX4_offerOrders_50 : decode cX4_offerOrders 50 = .ok (.iconst 1, 1) := by decide +kernel
theorem dX4_offerOrders_51 : decode cX4_offerOrders 51 = .ok (.iload_n 3, 1) := by decide +kernel
theorem dX4_offerOrders_52 : decode cX4_offerOrders 52 = .ok (.iadd, 1) := by decide +kernel
theorem dX4_offerOrders_53 : decode cX4_offerOrders 53 = .ok (.bipush 11, 2) := by decide +kernel
theorem dX4_offerOrders_55 : decode cX4_offerOrders 55 = .ok (.isub, 1) := by decide +kernel
theorem dX4_offerOrders_56 : decode cX4_offerOrders 56 = .ok (.iconst 0, 1) := by decide +kernel
theorem dX4_offerOrders_57 : decode cX4_offerOrders 57 = .ok (.aload_n 0, 1) := by decide +kernel
theorem dX4_offerOrders_58 : decode cX4_offerOrders 58 = .ok (.getfield 15, 3) := by decide +kernel
theorem dX4_offerOrders_61 : decode cX4_offerOrders 61 = .ok (.iload_n 1, 1) := by decide +kernel
theorem dX4_offerOrders_62 : decode cX4_offerOrders 62 = .ok (.iload_n 2, 1) := by decide +kernel
theorem dX4_offerOrders_63 : decode cX4_offerOrders 63 = .ok (.invokevirtual 107, 3) := by decide +kernel
theorem dX4_offerOrders_66 : decode cX4_offerOrders 66 = .ok (.aload_n 0, 1) := by decide +kernel
theorem dX4_offerOrders_67 : decode cX4_offerOrders 67 = .ok (.getfield 38, 3) := by decide +kernel
theorem dX4_offerOrders_70 : decode cX4_offerOrders 70 = .ok (.isub, 1) := by decide +kernel
theorem dX4_offerOrders_71 : decode cX4_offerOrders 71 = .ok (.invokevirtual 110, 3) := by decide +kernel
theorem dX4_offerOrders_74 : decode cX4_offerOrders 74 = .ok (.iinc 2 1, 3) := by decide +kernel
theorem dX4_offerOrders_77 : decode cX4_offerOrders 77 = .ok (.goto (-62), 3) := by decide +kernel
theorem dX4_offerOrders_80 : decode cX4_offerOrders 80 = .ok (.iinc 1 1, 3) := by decide +kernel
theorem dX4_offerOrders_83 : decode cX4_offerOrders 83 = .ok (.goto (-81), 3) := by decide +kernel
theorem dX4_offerOrders_86 : decode cX4_offerOrders 86 = .ok (.return_, 1) := by decide +kernel
theorem dX4_offerListed_0 : decode cX4_offerListed 0 = .ok (.iload_n 2, 1) := by decide +kernel
theorem dX4_offerListed_1 : decode cX4_offerListed 1 = .ok (.invokestatic 114, 3) := by decide +kernel
theorem dX4_offerListed_4 : decode cX4_offerListed 4 = .ok (.istore_n 3, 1) := by decide +kernel
theorem dX4_offerListed_5 : decode cX4_offerListed 5 = .ok (.iconst 0, 1) := by decide +kernel
theorem dX4_offerListed_6 : decode cX4_offerListed 6 = .ok (.istore 4, 2) := by decide +kernel
theorem dX4_offerListed_8 : decode cX4_offerListed 8 = .ok (.iload 4, 2) := by decide +kernel
theorem dX4_offerListed_10 : decode cX4_offerListed 10 = .ok (.aload_n 0, 1) := by decide +kernel
theorem dX4_offerListed_11 : decode cX4_offerListed 11 = .ok (.getfield 15, 3) := by decide +kernel
theorem dX4_offerListed_14 : decode cX4_offerListed 14 = .ok (.getfield 96, 3) := by decide +kernel
theorem dX4_offerListed_17 : decode cX4_offerListed 17 = .ok (.if_icmp .ge 100, 3) := by decide +kernel
theorem dX4_offerListed_20 : decode cX4_offerListed 20 = .ok (.iconst 0, 1) := by decide +kernel
theorem dX4_offerListed_21 : decode cX4_offerListed 21 = .ok (.istore 5, 2) := by decide +kernel
theorem dX4_offerListed_23 : decode cX4_offerListed 23 = .ok (.iload 5, 2) := by decide +kernel
theorem dX4_offerListed_25 : decode cX4_offerListed 25 = .ok (.aload_n 0, 1) := by decide +kernel
theorem dX4_offerListed_26 : decode cX4_offerListed 26 = .ok (.getfield 15, 3) := by decide +kernel
theorem dX4_offerListed_29 : decode cX4_offerListed 29 = .ok (.iload 4, 2) := by decide +kernel
theorem dX4_offerListed_31 : decode cX4_offerListed 31 = .ok (.invokevirtual 101, 3) := by decide +kernel
theorem dX4_offerListed_34 : decode cX4_offerListed 34 = .ok (.if_icmp .ge 65, 3) := by decide +kernel
theorem dX4_offerListed_37 : decode cX4_offerListed 37 = .ok (.iload_n 3, 1) := by decide +kernel
theorem dX4_offerListed_38 : decode cX4_offerListed 38 = .ok (.ldc 117, 2) := by decide +kernel
theorem dX4_offerListed_40 : decode cX4_offerListed 40 = .ok (.if_icmp .ge 59, 3) := by decide +kernel
theorem dX4_offerListed_43 : decode cX4_offerListed 43 = .ok (.aload_n 1, 1) := by decide +kernel
theorem dX4_offerListed_44 : decode cX4_offerListed 44 = .ok (.aload_n 0, 1) := by decide +kernel
theorem dX4_offerListed_45 : decode cX4_offerListed 45 = .ok (.getfield 15, 3) := by decide +kernel
theorem dX4_offerListed_48 : decode cX4_offerListed 48 = .ok (.iload 4, 2) := by decide +kernel
theorem dX4_offerListed_50 : decode cX4_offerListed 50 = .ok (.iload 5, 2) := by decide +kernel
theorem dX4_offerListed_52 : decode cX4_offerListed 52 = .ok (.invokevirtual 104, 3) := by decide +kernel
theorem dX4_offerListed_55 : decode cX4_offerListed 55 = .ok (.invokeinterface 118 2, 5) := by decide +kernel
theorem dX4_offerListed_60 : decode cX4_offerListed 60 = .ok (.istore 6, 2) := by decide +kernel
theorem dX4_offerListed_62 : decode cX4_offerListed 62 = .ok (.iload 6, 2) := by decide +kernel
theorem dX4_offerListed_64 : decode cX4_offerListed 64 = .ok (.iconst (-1), 1) := by decide +kernel
theorem dX4_offerListed_65 : decode cX4_offerListed 65 = .ok (.if_icmp .eq 28, 3) := by decide +kernel
theorem dX4_offerListed_68 : decode cX4_offerListed 68 = .ok (.aload_n 0, 1) := by decide +kernel
theorem dX4_offerListed_69 : decode cX4_offerListed 69 = .ok (.iload_n 2, 1) := by decide +kernel
theorem dX4_offerListed_70 : decode cX4_offerListed 70 = .ok (.iload 6, 2) := by decide +kernel
theorem dX4_offerListed_72 : decode cX4_offerListed 72 = .ok (.iload_n 3, 1) := by decide +kernel
theorem dX4_offerListed_73 : decode cX4_offerListed 73 = .ok (.aload_n 0, 1) := by decide +kernel
theorem dX4_offerListed_74 : decode cX4_offerListed 74 = .ok (.getfield 15, 3) := by decide +kernel
theorem dX4_offerListed_77 : decode cX4_offerListed 77 = .ok (.iload 4, 2) := by decide +kernel
theorem dX4_offerListed_79 : decode cX4_offerListed 79 = .ok (.iload 5, 2) := by decide +kernel
theorem dX4_offerListed_81 : decode cX4_offerListed 81 = .ok (.invokevirtual 107, 3) := by decide +kernel
theorem dX4_offerListed_84 : decode cX4_offerListed 84 = .ok (.iadd, 1) := by decide +kernel
theorem dX4_offerListed_85 : decode cX4_offerListed 85 = .ok (.aload_n 0, 1) := by decide +kernel
theorem dX4_offerListed_86 : decode cX4_offerListed 86 = .ok (.getfield 38, 3) := by decide +kernel
theorem dX4_offerListed_89 : decode cX4_offerListed 89 = .ok (.isub, 1) := by decide +kernel
theorem dX4_offerListed_90 : decode cX4_offerListed 90 = .ok (.invokevirtual 110, 3) := by decide +kernel
theorem dX4_offerListed_93 : decode cX4_offerListed 93 = .ok (.iinc 5 1, 3) := by decide +kernel
theorem dX4_offerListed_96 : decode cX4_offerListed 96 = .ok (.goto (-73), 3) := by decide +kernel
theorem dX4_offerListed_99 : decode cX4_offerListed 99 = .ok (.iload_n 3, 1) := by decide +kernel
theorem dX4_offerListed_100 : decode cX4_offerListed 100 = .ok (.aload_n 0, 1) := by decide +kernel
theorem dX4_offerListed_101 : decode cX4_offerListed 101 = .ok (.iload 4, 2) := by decide +kernel
theorem dX4_offerListed_103 : decode cX4_offerListed 103 = .ok (.iload_n 2, 1) := by decide +kernel
theorem dX4_offerListed_104 : decode cX4_offerListed 104 = .ok (.invokevirtual 123, 3) := by decide +kernel
theorem dX4_offerListed_107 : decode cX4_offerListed 107 = .ok (.invokestatic 126, 3) := by decide +kernel
theorem dX4_offerListed_110 : decode cX4_offerListed 110 = .ok (.istore_n 3, 1) := by decide +kernel
theorem dX4_offerListed_111 : decode cX4_offerListed 111 = .ok (.iinc 4 1, 3) := by decide +kernel
theorem dX4_offerListed_114 : decode cX4_offerListed 114 = .ok (.goto (-106), 3) := by decide +kernel
theorem dX4_offerListed_117 : decode cX4_offerListed 117 = .ok (.return_, 1) := by decide +kernel
theorem dX4_offerDigits_0 : decode cX4_offerDigits 0 = .ok (.aload_n 0, 1) := by decide +kernel
theorem dX4_offerDigits_1 : decode cX4_offerDigits 1 = .ok (.getfield 15, 3) := by decide +kernel
theorem dX4_offerDigits_4 : decode cX4_offerDigits 4 = .ok (.getfield 96, 3) := by decide +kernel
theorem dX4_offerDigits_7 : decode cX4_offerDigits 7 = .ok (.aload_n 1, 1) := by decide +kernel
theorem dX4_offerDigits_8 : decode cX4_offerDigits 8 = .ok (.getfield 88, 3) := by decide +kernel
theorem dX4_offerDigits_11 : decode cX4_offerDigits 11 = .ok (.if_icmp .ge 4, 3) := by decide +kernel
theorem dX4_offerDigits_14 : decode cX4_offerDigits 14 = .ok (.return_, 1) := by decide +kernel
theorem dX4_offerDigits_15 : decode cX4_offerDigits 15 = .ok (.aload_n 0, 1) := by decide +kernel
theorem dX4_offerDigits_16 : decode cX4_offerDigits 16 = .ok (.getfield 31, 3) := by decide +kernel
theorem dX4_offerDigits_19 : decode cX4_offerDigits 19 = .ok (.aload_n 1, 1) := by decide +kernel
theorem dX4_offerDigits_20 : decode cX4_offerDigits 20 = .ok (.getfield 88, 3) := by decide +kernel
theorem dX4_offerDigits_23 : decode cX4_offerDigits 23 = .ok (.aload_n 1, 1) := by decide +kernel
theorem dX4_offerDigits_24 : decode cX4_offerDigits 24 = .ok (.getfield 131, 3) := by decide +kernel
theorem dX4_offerDigits_27 : decode cX4_offerDigits 27 = .ok (.invokevirtual 135, 3) := by decide +kernel
theorem dX4_offerDigits_30 : decode cX4_offerDigits 30 = .ok (.iload_n 2, 1) := by decide +kernel
theorem dX4_offerDigits_31 : decode cX4_offerDigits 31 = .ok (.invokestatic 114, 3) := by decide +kernel
theorem dX4_offerDigits_34 : decode cX4_offerDigits 34 = .ok (.istore_n 3, 1) := by decide +kernel
theorem dX4_offerDigits_35 : decode cX4_offerDigits 35 = .ok (.iload_n 3, 1) := by decide +kernel
theorem dX4_offerDigits_36 : decode cX4_offerDigits 36 = .ok (.ldc 117, 2) := by decide +kernel
theorem dX4_offerDigits_38 : decode cX4_offerDigits 38 = .ok (.if_icmp .ge 11, 3) := by decide +kernel
theorem dX4_offerDigits_41 : decode cX4_offerDigits 41 = .ok (.aload_n 0, 1) := by decide +kernel
theorem dX4_offerDigits_42 : decode cX4_offerDigits 42 = .ok (.getfield 31, 3) := by decide +kernel
theorem dX4_offerDigits_45 : decode cX4_offerDigits 45 = .ok (.iload_n 3, 1) := by decide +kernel
theorem dX4_offerDigits_46 : decode cX4_offerDigits 46 = .ok (.invokevirtual 138, 3) := by decide +kernel
theorem dX4_offerDigits_49 : decode cX4_offerDigits 49 = .ok (.iconst 0, 1) := by decide +kernel
theorem dX4_offerDigits_50 : decode cX4_offerDigits 50 = .ok (.istore 4, 2) := by decide +kernel
theorem dX4_offerDigits_52 : decode cX4_offerDigits 52 = .ok (.iload 4, 2) := by decide +kernel
theorem dX4_offerDigits_54 : decode cX4_offerDigits 54 = .ok (.aload_n 0, 1) := by decide +kernel
theorem dX4_offerDigits_55 : decode cX4_offerDigits 55 = .ok (.getfield 15, 3) := by decide +kernel
theorem dX4_offerDigits_58 : decode cX4_offerDigits 58 = .ok (.getfield 96, 3) := by decide +kernel
theorem dX4_offerDigits_61 : decode cX4_offerDigits 61 = .ok (.if_icmp .ge 48, 3) := by decide +kernel
theorem dX4_offerDigits_64 : decode cX4_offerDigits 64 = .ok (.aload_n 0, 1) := by decide +kernel
theorem dX4_offerDigits_65 : decode cX4_offerDigits 65 = .ok (.getfield 31, 3) := by decide +kernel
theorem dX4_offerDigits_68 : decode cX4_offerDigits 68 = .ok (.aload_n 0, 1) := by decide +kernel
theorem dX4_offerDigits_69 : decode cX4_offerDigits 69 = .ok (.getfield 15, 3) := by decide +kernel
theorem dX4_offerDigits_72 : decode cX4_offerDigits 72 = .ok (.iload 4, 2) := by decide +kernel
theorem dX4_offerDigits_74 : decode cX4_offerDigits 74 = .ok (.aload_n 0, 1) := by decide +kernel
theorem dX4_offerDigits_75 : decode cX4_offerDigits 75 = .ok (.getfield 38, 3) := by decide +kernel
theorem dX4_offerDigits_78 : decode cX4_offerDigits 78 = .ok (.invokevirtual 141, 3) := by decide +kernel
theorem dX4_offerDigits_81 : decode cX4_offerDigits 81 = .ok (.aload_n 0, 1) := by decide +kernel
theorem dX4_offerDigits_82 : decode cX4_offerDigits 82 = .ok (.iload 4, 2) := by decide +kernel
theorem dX4_offerDigits_84 : decode cX4_offerDigits 84 = .ok (.iload_n 2, 1) := by decide +kernel
theorem dX4_offerDigits_85 : decode cX4_offerDigits 85 = .ok (.invokevirtual 123, 3) := by decide +kernel
theorem dX4_offerDigits_88 : decode cX4_offerDigits 88 = .ok (.istore_n 3, 1) := by decide +kernel
theorem dX4_offerDigits_89 : decode cX4_offerDigits 89 = .ok (.iload_n 3, 1) := by decide +kernel
theorem dX4_offerDigits_90 : decode cX4_offerDigits 90 = .ok (.ldc 117, 2) := by decide +kernel
theorem dX4_offerDigits_92 : decode cX4_offerDigits 92 = .ok (.if_icmp .ge 11, 3) := by decide +kernel
theorem dX4_offerDigits_95 : decode cX4_offerDigits 95 = .ok (.aload_n 0, 1) := by decide +kernel
theorem dX4_offerDigits_96 : decode cX4_offerDigits 96 = .ok (.getfield 31, 3) := by decide +kernel
theorem dX4_offerDigits_99 : decode cX4_offerDigits 99 = .ok (.iload_n 3, 1) := by decide +kernel
theorem dX4_offerDigits_100 : decode cX4_offerDigits 100 = .ok (.invokevirtual 138, 3) := by decide +kernel
theorem dX4_offerDigits_103 : decode cX4_offerDigits 103 = .ok (.iinc 4 1, 3) := by decide +kernel
theorem dX4_offerDigits_106 : decode cX4_offerDigits 106 = .ok (.goto (-54), 3) := by decide +kernel
theorem dX4_offerDigits_109 : decode cX4_offerDigits 109 = .ok (.iconst 0, 1) := by decide +kernel
theorem dX4_offerDigits_110 : decode cX4_offerDigits 110 = .ok (.istore 4, 2) := by decide +kernel
theorem dX4_offerDigits_112 : decode cX4_offerDigits 112 = .ok (.iload 4, 2) := by decide +kernel
theorem dX4_offerDigits_114 : decode cX4_offerDigits 114 = .ok (.iconst 2, 1) := by decide +kernel
theorem dX4_offerDigits_115 : decode cX4_offerDigits 115 = .ok (.if_icmp .ge 46, 3) := by decide +kernel
theorem dX4_offerDigits_118 : decode cX4_offerDigits 118 = .ok (.aload_n 0, 1) := by decide +kernel
theorem dX4_offerDigits_119 : decode cX4_offerDigits 119 = .ok (.getfield 31, 3) := by decide +kernel
theorem dX4_offerDigits_122 : decode cX4_offerDigits 122 = .ok (.iload 4, 2) := by decide +kernel
theorem dX4_offerDigits_124 : decode cX4_offerDigits 124 = .ok (.invokevirtual 145, 3) := by decide +kernel
theorem dX4_offerDigits_127 : decode cX4_offerDigits 127 = .ok (.ldc 117, 2) := by decide +kernel
theorem dX4_offerDigits_129 : decode cX4_offerDigits 129 = .ok (.if_icmp .ge 26, 3) := by decide +kernel
theorem dX4_offerDigits_132 : decode cX4_offerDigits 132 = .ok (.aload_n 0, 1) := by decide +kernel
theorem dX4_offerDigits_133 : decode cX4_offerDigits 133 = .ok (.iload_n 2, 1) := by decide +kernel
theorem dX4_offerDigits_134 : decode cX4_offerDigits 134 = .ok (.aload_n 0, 1) := by decide +kernel
theorem dX4_offerDigits_135 : decode cX4_offerDigits 135 = .ok (.getfield 31, 3) := by decide +kernel
theorem dX4_offerDigits_138 : decode cX4_offerDigits 138 = .ok (.iload 4, 2) := by decide +kernel
theorem dX4_offerDigits_140 : decode cX4_offerDigits 140 = .ok (.invokevirtual 146, 3) := by decide +kernel
theorem dX4_offerDigits_143 : decode cX4_offerDigits 143 = .ok (.aload_n 0, 1) := by decide +kernel
theorem dX4_offerDigits_144 : decode cX4_offerDigits 144 = .ok (.getfield 31, 3) := by decide +kernel
theorem dX4_offerDigits_147 : decode cX4_offerDigits 147 = .ok (.iload 4, 2) := by decide +kernel
theorem dX4_offerDigits_149 : decode cX4_offerDigits 149 = .ok (.invokevirtual 145, 3) := by decide +kernel
theorem dX4_offerDigits_152 : decode cX4_offerDigits 152 = .ok (.invokevirtual 110, 3) := by decide +kernel
theorem dX4_offerDigits_155 : decode cX4_offerDigits 155 = .ok (.iinc 4 1, 3) := by decide +kernel
theorem dX4_offerDigits_158 : decode cX4_offerDigits 158 = .ok (.goto (-46), 3) := by decide +kernel
theorem dX4_offerDigits_161 : decode cX4_offerDigits 161 = .ok (.return_, 1) := by decide +kernel
theorem dX4_leadAtFirst_0 : decode cX4_leadAtFirst 0 = .ok (.iload_n 0, 1) := by decide +kernel
theorem dX4_leadAtFirst_1 : decode cX4_leadAtFirst 1 = .ok (.ifCond .ne 7, 3) := by decide +kernel
theorem dX4_leadAtFirst_4 : decode cX4_leadAtFirst 4 = .ok (.iconst 0, 1) := by decide +kernel
theorem dX4_leadAtFirst_5 : decode cX4_leadAtFirst 5 = .ok (.goto 5, 3) := by decide +kernel
theorem dX4_leadAtFirst_8 : decode cX4_leadAtFirst 8 = .ok (.ldc 117, 2) := by decide +kernel
theorem dX4_leadAtFirst_10 : decode cX4_leadAtFirst 10 = .ok (.ireturn, 1) := by decide +kernel
theorem dX4_leadIn_0 : decode cX4_leadIn 0 = .ok (.iload_n 2, 1) := by decide +kernel
theorem dX4_leadIn_1 : decode cX4_leadIn 1 = .ok (.ifCond .ne 6, 3) := by decide +kernel
theorem dX4_leadIn_4 : decode cX4_leadIn 4 = .ok (.ldc 117, 2) := by decide +kernel
theorem dX4_leadIn_6 : decode cX4_leadIn 6 = .ok (.ireturn, 1) := by decide +kernel
theorem dX4_leadIn_7 : decode cX4_leadIn 7 = .ok (.aload_n 0, 1) := by decide +kernel
theorem dX4_leadIn_8 : decode cX4_leadIn 8 = .ok (.getfield 15, 3) := by decide +kernel
theorem dX4_leadIn_11 : decode cX4_leadIn 11 = .ok (.iload_n 1, 1) := by decide +kernel
theorem dX4_leadIn_12 : decode cX4_leadIn 12 = .ok (.iload_n 2, 1) := by decide +kernel
theorem dX4_leadIn_13 : decode cX4_leadIn 13 = .ok (.bipush 7, 2) := by decide +kernel
theorem dX4_leadIn_15 : decode cX4_leadIn 15 = .ok (.if_icmp .ne 8, 3) := by decide +kernel
theorem dX4_leadIn_18 : decode cX4_leadIn 18 = .ok (.bipush 17, 2) := by decide +kernel
theorem dX4_leadIn_20 : decode cX4_leadIn 20 = .ok (.goto 5, 3) := by decide +kernel
theorem dX4_leadIn_23 : decode cX4_leadIn 23 = .ok (.bipush 16, 2) := by decide +kernel
theorem dX4_leadIn_25 : decode cX4_leadIn 25 = .ok (.invokevirtual 149, 3) := by decide +kernel
theorem dX4_leadIn_28 : decode cX4_leadIn 28 = .ok (.istore_n 3, 1) := by decide +kernel
theorem dX4_leadIn_29 : decode cX4_leadIn 29 = .ok (.iload_n 3, 1) := by decide +kernel
theorem dX4_leadIn_30 : decode cX4_leadIn 30 = .ok (.iconst (-1), 1) := by decide +kernel
theorem dX4_leadIn_31 : decode cX4_leadIn 31 = .ok (.if_icmp .ne 8, 3) := by decide +kernel
theorem dX4_leadIn_34 : decode cX4_leadIn 34 = .ok (.ldc 117, 2) := by decide +kernel
theorem dX4_leadIn_36 : decode cX4_leadIn 36 = .ok (.goto 9, 3) := by decide +kernel
theorem dX4_leadIn_39 : decode cX4_leadIn 39 = .ok (.iload_n 3, 1) := by decide +kernel
theorem dX4_leadIn_40 : decode cX4_leadIn 40 = .ok (.aload_n 0, 1) := by decide +kernel
theorem dX4_leadIn_41 : decode cX4_leadIn 41 = .ok (.getfield 38, 3) := by decide +kernel
theorem dX4_leadIn_44 : decode cX4_leadIn 44 = .ok (.isub, 1) := by decide +kernel
theorem dX4_leadIn_45 : decode cX4_leadIn 45 = .ok (.ireturn, 1) := by decide +kernel
theorem dX4_offer_0 : decode cX4_offer 0 = .ok (.aload_n 0, 1) := by decide +kernel
theorem dX4_offer_1 : decode cX4_offer 1 = .ok (.getfield 15, 3) := by decide +kernel
theorem dX4_offer_4 : decode cX4_offer 4 = .ok (.getfield 96, 3) := by decide +kernel
theorem dX4_offer_7 : decode cX4_offer 7 = .ok (.aload_n 0, 1) := by decide +kernel
theorem dX4_offer_8 : decode cX4_offer 8 = .ok (.getfield 38, 3) := by decide +kernel
theorem dX4_offer_11 : decode cX4_offer 11 = .ok (.imul, 1) := by decide +kernel
theorem dX4_offer_12 : decode cX4_offer 12 = .ok (.iload_n 3, 1) := by decide +kernel
theorem dX4_offer_13 : decode cX4_offer 13 = .ok (.iadd, 1) := by decide +kernel
theorem dX4_offer_14 : decode cX4_offer 14 = .ok (.iload_n 1, 1) := by decide +kernel
theorem dX4_offer_15 : decode cX4_offer 15 = .ok (.ifCond .ne 7, 3) := by decide +kernel
theorem dX4_offer_18 : decode cX4_offer 18 = .ok (.iconst 0, 1) := by decide +kernel
theorem dX4_offer_19 : decode cX4_offer 19 = .ok (.goto 7, 3) := by decide +kernel
theorem dX4_offer_22 : decode cX4_offer 22 = .ok (.aload_n 0, 1) := by decide +kernel
theorem dX4_offer_23 : decode cX4_offer 23 = .ok (.getfield 42, 3) := by decide +kernel
theorem dX4_offer_26 : decode cX4_offer 26 = .ok (.iadd, 1) := by decide +kernel
theorem dX4_offer_27 : decode cX4_offer 27 = .ok (.istore 4, 2) := by decide +kernel
theorem dX4_offer_29 : decode cX4_offer 29 = .ok (.aload_n 0, 1) := by decide +kernel
theorem dX4_offer_30 : decode cX4_offer 30 = .ok (.getfield 24, 3) := by decide +kernel
theorem dX4_offer_33 : decode cX4_offer 33 = .ok (.iconst 0, 1) := by decide +kernel
theorem dX4_offer_34 : decode cX4_offer 34 = .ok (.iload 4, 2) := by decide +kernel
theorem dX4_offer_36 : decode cX4_offer 36 = .ok (.iload_n 1, 1) := by decide +kernel
theorem dX4_offer_37 : decode cX4_offer 37 = .ok (.ldc 87, 2) := by decide +kernel
theorem dX4_offer_39 : decode cX4_offer 39 = .ok (.imul, 1) := by decide +kernel
theorem dX4_offer_40 : decode cX4_offer 40 = .ok (.iload_n 2, 1) := by decide +kernel
theorem dX4_offer_41 : decode cX4_offer 41 = .ok (.iadd, 1) := by decide +kernel
theorem dX4_offer_42 : decode cX4_offer 42 = .ok (.invokevirtual 152, 3) := by decide +kernel
theorem dX4_offer_45 : decode cX4_offer 45 = .ok (.return_, 1) := by decide +kernel
theorem dX5_init_0 : decode cX5_init 0 = .ok (.aload_n 0, 1) := by decide +kernel
theorem dX5_init_1 : decode cX5_init 1 = .ok (.invokespecial 3, 3) := by decide +kernel
theorem dX5_init_4 : decode cX5_init 4 = .ok (.aload_n 0, 1) := by decide +kernel
theorem dX5_init_5 : decode cX5_init 5 = .ok (.bipush 6, 2) := by decide +kernel
theorem dX5_init_7 : decode cX5_init 7 = .ok (.newarray .int, 2) := by decide +kernel
theorem dX5_init_9 : decode cX5_init 9 = .ok (.putfield 9, 3) := by decide +kernel
theorem dX5_init_12 : decode cX5_init 12 = .ok (.aload_n 0, 1) := by decide +kernel
theorem dX5_init_13 : decode cX5_init 13 = .ok (.iconst (-1), 1) := by decide +kernel
theorem dX5_init_14 : decode cX5_init 14 = .ok (.putfield 15, 3) := by decide +kernel
theorem dX5_init_17 : decode cX5_init 17 = .ok (.return_, 1) := by decide +kernel
theorem dX5_numberOf_0 : decode cX5_numberOf 0 = .ok (.iconst 0, 1) := by decide +kernel
theorem dX5_numberOf_1 : decode cX5_numberOf 1 = .ok (.istore_n 2, 1) := by decide +kernel
theorem dX5_numberOf_2 : decode cX5_numberOf 2 = .ok (.iload_n 2, 1) := by decide +kernel
theorem dX5_numberOf_3 : decode cX5_numberOf 3 = .ok (.aload_n 0, 1) := by decide +kernel
theorem dX5_numberOf_4 : decode cX5_numberOf 4 = .ok (.getfield 19, 3) := by decide +kernel
theorem dX5_numberOf_7 : decode cX5_numberOf 7 = .ok (.if_icmp .ge 30, 3) := by decide +kernel
theorem dX5_numberOf_10 : decode cX5_numberOf 10 = .ok (.iload_n 2, 1) := by decide +kernel
theorem dX5_numberOf_11 : decode cX5_numberOf 11 = .ok (.aload_n 0, 1) := by decide +kernel
theorem dX5_numberOf_12 : decode cX5_numberOf 12 = .ok (.getfield 9, 3) := by decide +kernel
theorem dX5_numberOf_15 : decode cX5_numberOf 15 = .ok (.arraylength, 1) := by decide +kernel
theorem dX5_numberOf_16 : decode cX5_numberOf 16 = .ok (.if_icmp .ge 21, 3) := by decide +kernel
theorem dX5_numberOf_19 : decode cX5_numberOf 19 = .ok (.aload_n 0, 1) := by decide +kernel
theorem dX5_numberOf_20 : decode cX5_numberOf 20 = .ok (.getfield 9, 3) := by decide +kernel
theorem dX5_numberOf_23 : decode cX5_numberOf 23 = .ok (.iload_n 2, 1) := by decide +kernel
theorem dX5_numberOf_24 : decode cX5_numberOf 24 = .ok (.iaload, 1) := by decide +kernel
theorem dX5_numberOf_25 : decode cX5_numberOf 25 = .ok (.iload_n 1, 1) := by decide +kernel
theorem dX5_numberOf_26 : decode cX5_numberOf 26 = .ok (.if_icmp .ne 5, 3) := by decide +kernel
theorem dX5_numberOf_29 : decode cX5_numberOf 29 = .ok (.iload_n 2, 1) := by decide +kernel
theorem dX5_numberOf_30 : decode cX5_numberOf 30 = .ok (.ireturn, 1) := by decide +kernel
theorem dX5_numberOf_31 : decode cX5_numberOf 31 = .ok (.iinc 2 1, 3) := by decide +kernel
theorem dX5_numberOf_34 : decode cX5_numberOf 34 = .ok (.goto (-32), 3) := by decide +kernel
theorem dX5_numberOf_37 : decode cX5_numberOf 37 = .ok (.iconst (-1), 1) := by decide +kernel
theorem dX5_numberOf_38 : decode cX5_numberOf 38 = .ok (.ireturn, 1) := by decide +kernel
theorem dX5_isReadBack_0 : decode cX5_isReadBack 0 = .ok (.aload_n 0, 1) := by decide +kernel
theorem dX5_isReadBack_1 : decode cX5_isReadBack 1 = .ok (.getfield 22, 3) := by decide +kernel
theorem dX5_isReadBack_4 : decode cX5_isReadBack 4 = .ok (.ifCond .eq 14, 3) := by decide +kernel
theorem dX5_isReadBack_7 : decode cX5_isReadBack 7 = .ok (.aload_n 0, 1) := by decide +kernel
theorem dX5_isReadBack_8 : decode cX5_isReadBack 8 = .ok (.getfield 26, 3) := by decide +kernel
theorem dX5_isReadBack_11 : decode cX5_isReadBack 11 = .ok (.ifCond .ne 7, 3) := by decide +kernel
theorem dX5_isReadBack_14 : decode cX5_isReadBack 14 = .ok (.iconst 1, 1) := by decide +kernel
theorem dX5_isReadBack_15 : decode cX5_isReadBack 15 = .ok (.goto 4, 3) := by decide +kernel
theorem dX5_isReadBack_18 : decode cX5_isReadBack 18 = .ok (.iconst 0, 1) := by decide +kernel
theorem dX5_isReadBack_19 : decode cX5_isReadBack 19 = .ok (.ireturn, 1) := by decide +kernel
theorem dX5_isMetBy_0 : decode cX5_isMetBy 0 = .ok (.aload_n 1, 1) := by decide +kernel
theorem dX5_isMetBy_1 : decode cX5_isMetBy 1 = .ok (.ifnull 32, 3) := by decide +kernel
theorem dX5_isMetBy_4 : decode cX5_isMetBy 4 = .ok (.aload_n 1, 1) := by decide +kernel
theorem dX5_isMetBy_5 : decode cX5_isMetBy 5 = .ok (.getfield 29, 3) := by decide +kernel
theorem dX5_isMetBy_8 : decode cX5_isMetBy 8 = .ok (.ifCond .eq 25, 3) := by decide +kernel
theorem dX5_isMetBy_11 : decode cX5_isMetBy 11 = .ok (.aload_n 1, 1) := by decide +kernel
theorem dX5_isMetBy_12 : decode cX5_isMetBy 12 = .ok (.getfield 32, 3) := by decide +kernel
theorem dX5_isMetBy_15 : decode cX5_isMetBy 15 = .ok (.ifCond .eq 18, 3) := by decide +kernel
theorem dX5_isMetBy_18 : decode cX5_isMetBy 18 = .ok (.aload_n 1, 1) := by decide +kernel
theorem dX5_isMetBy_19 : decode cX5_isMetBy 19 = .ok (.getfield 35, 3) := by decide +kernel
theorem dX5_isMetBy_22 : decode cX5_isMetBy 22 = .ok (.aload_n 0, 1) := by decide +kernel
theorem dX5_isMetBy_23 : decode cX5_isMetBy 23 = .ok (.getfield 38, 3) := by decide +kernel
theorem dX5_isMetBy_26 : decode cX5_isMetBy 26 = .ok (.if_icmp .ne 7, 3) := by decide +kernel
theorem dX5_isMetBy_29 : decode cX5_isMetBy 29 = .ok (.iconst 1, 1) := by decide +kernel
theorem dX5_isMetBy_30 : decode cX5_isMetBy 30 = .ok (.goto 4, 3) := by decide +kernel
theorem dX5_isMetBy_33 : decode cX5_isMetBy 33 = .ok (.iconst 0, 1) := by decide +kernel
theorem dX5_isMetBy_34 : decode cX5_isMetBy 34 = .ok (.ireturn, 1) := by decide +kernel
theorem dX5_isOpen_0 : decode cX5_isOpen 0 = .ok (.aload_n 0, 1) := by decide +kernel
theorem dX5_isOpen_1 : decode cX5_isOpen 1 = .ok (.getfield 29, 3) := by decide +kernel
theorem dX5_isOpen_4 : decode cX5_isOpen 4 = .ok (.ifCond .eq 14, 3) := by decide +kernel
theorem dX5_isOpen_7 : decode cX5_isOpen 7 = .ok (.aload_n 0, 1) := by decide +kernel
theorem dX5_isOpen_8 : decode cX5_isOpen 8 = .ok (.getfield 32, 3) := by decide +kernel
theorem dX5_isOpen_11 : decode cX5_isOpen 11 = .ok (.ifCond .ne 7, 3) := by decide +kernel
theorem dX5_isOpen_14 : decode cX5_isOpen 14 = .ok (.iconst 1, 1) := by decide +kernel
theorem dX5_isOpen_15 : decode cX5_isOpen 15 = .ok (.goto 4, 3) := by decide +kernel
theorem dX5_isOpen_18 : decode cX5_isOpen 18 = .ok (.iconst 0, 1) := by decide +kernel
theorem dX5_isOpen_19 : decode cX5_isOpen 19 = .ok (.ireturn, 1) := by decide +kernel
theorem dX5_isUnheard_0 : decode cX5_isUnheard 0 = .ok (.aload_n 0, 1) := by decide +kernel
theorem dX5_isUnheard_1 : decode cX5_isUnheard 1 = .ok (.getfield 29, 3) := by decide +kernel
theorem dX5_isUnheard_4 : decode cX5_isUnheard 4 = .ok (.ifCond .eq 21, 3) := by decide +kernel
theorem dX5_isUnheard_7 : decode cX5_isUnheard 7 = .ok (.aload_n 0, 1) := by decide +kernel
theorem dX5_isUnheard_8 : decode cX5_isUnheard 8 = .ok (.getfield 32, 3) := by decide +kernel
theorem dX5_isUnheard_11 : decode cX5_isUnheard 11 = .ok (.ifCond .eq 14, 3) := by decide +kernel
theorem dX5_isUnheard_14 : decode cX5_isUnheard 14 = .ok (.aload_n 0, 1) := by decide +kernel
theorem dX5_isUnheard_15 : decode cX5_isUnheard 15 = .ok (.getfield 41, 3) := by decide +kernel
theorem dX5_isUnheard_18 : decode cX5_isUnheard 18 = .ok (.ifCond .ne 7, 3) := by decide +kernel
theorem dX5_isUnheard_21 : decode cX5_isUnheard 21 = .ok (.iconst 1, 1) := by decide +kernel
theorem dX5_isUnheard_22 : decode cX5_isUnheard 22 = .ok (.goto 4, 3) := by decide +kernel
theorem dX5_isUnheard_25 : decode cX5_isUnheard 25 = .ok (.iconst 0, 1) := by decide +kernel
theorem dX5_isUnheard_26 : decode cX5_isUnheard 26 = .ok (.ireturn, 1) := by decide +kernel
theorem dX6_init_0 : decode cX6_init 0 = .ok (.aload_n 0, 1) := by decide +kernel
theorem dX6_init_1 : decode cX6_init 1 = .ok (.invokespecial 3, 3) := by decide +kernel
theorem dX6_init_4 : decode cX6_init 4 = .ok (.aload_n 0, 1) := by decide +kernel
theorem dX6_init_5 : decode cX6_init 5 = .ok (.aload_n 1, 1) := by decide +kernel
theorem dX6_init_6 : decode cX6_init 6 = .ok (.putfield 9, 3) := by decide +kernel
theorem dX6_init_9 : decode cX6_init 9 = .ok (.aload_n 0, 1) := by decide +kernel
theorem dX6_init_10 : decode cX6_init 10 = .ok (.aload_n 2, 1) := by decide +kernel
theorem dX6_init_11 : decode cX6_init 11 = .ok (.putfield 15, 3) := by decide +kernel
theorem dX6_init_14 : decode cX6_init 14 = .ok (.aload_n 0, 1) := by decide +kernel
theorem dX6_init_15 : decode cX6_init 15 = .ok (.new 19, 3) := by decide +kernel
theorem dX6_init_18 : decode cX6_init 18 = .ok (.dup, 1) := by decide +kernel
theorem dX6_init_19 : decode cX6_init 19 = .ok (.invokespecial 21, 3) := by decide +kernel
theorem dX6_init_22 : decode cX6_init 22 = .ok (.putfield 22, 3) := by decide +kernel
theorem dX6_init_25 : decode cX6_init 25 = .ok (.aload_n 0, 1) := by decide +kernel
theorem dX6_init_26 : decode cX6_init 26 = .ok (.iconst (-1), 1) := by decide +kernel
theorem dX6_init_27 : decode cX6_init 27 = .ok (.putfield 26, 3) := by decide +kernel
theorem dX6_init_30 : decode cX6_init 30 = .ok (.aload_n 0, 1) := by decide +kernel
theorem dX6_init_31 : decode cX6_init 31 = .ok (.iconst (-1), 1) := by decide +kernel
theorem dX6_init_32 : decode cX6_init 32 = .ok (.putfield 30, 3) := by decide +kernel
theorem dX6_init_35 : decode cX6_init 35 = .ok (.aload_n 0, 1) := by decide +kernel
theorem dX6_init_36 : decode cX6_init 36 = .ok (.iconst 0, 1) := by decide +kernel
theorem dX6_init_37 : decode cX6_init 37 = .ok (.putfield 33, 3) := by decide +kernel
theorem dX6_init_40 : decode cX6_init 40 = .ok (.return_, 1) := by decide +kernel
theorem dX6_hear_0 : decode cX6_hear 0 = .ok (.aload_n 0, 1) := by decide +kernel
theorem dX6_hear_1 : decode cX6_hear 1 = .ok (.getfield 33, 3) := by decide +kernel
theorem dX6_hear_4 : decode cX6_hear 4 = .ok (.istore_n 1, 1) := by decide +kernel
theorem dX6_hear_5 : decode cX6_hear 5 = .ok (.aload_n 0, 1) := by decide +kernel
theorem dX6_hear_6 : decode cX6_hear 6 = .ok (.iconst 0, 1) := by decide +kernel
theorem dX6_hear_7 : decode cX6_hear 7 = .ok (.putfield 33, 3) := by decide +kernel
theorem dX6_hear_10 : decode cX6_hear 10 = .ok (.aload_n 0, 1) := by decide +kernel
theorem dX6_hear_11 : decode cX6_hear 11 = .ok (.getfield 15, 3) := by decide +kernel
theorem dX6_hear_14 : decode cX6_hear 14 = .ok (.invokevirtual 36, 3) := by decide +kernel
theorem dX6_hear_17 : decode cX6_hear 17 = .ok (.ifCond .eq 34, 3) := by decide +kernel
theorem dX6_hear_20 : decode cX6_hear 20 = .ok (.aload_n 0, 1) := by decide +kernel
theorem dX6_hear_21 : decode cX6_hear 21 = .ok (.iconst 2, 1) := by decide +kernel
theorem dX6_hear_22 : decode cX6_hear 22 = .ok (.putfield 33, 3) := by decide +kernel
theorem dX6_hear_25 : decode cX6_hear 25 = .ok (.aload_n 0, 1) := by decide +kernel
theorem dX6_hear_26 : decode cX6_hear 26 = .ok (.aload_n 0, 1) := by decide +kernel
theorem dX6_hear_27 : decode cX6_hear 27 = .ok (.getfield 15, 3) := by decide +kernel
theorem dX6_hear_30 : decode cX6_hear 30 = .ok (.iconst 0, 1) := by decide +kernel
theorem dX6_hear_31 : decode cX6_hear 31 = .ok (.invokevirtual 42, 3) := by decide +kernel
theorem dX6_hear_34 : decode cX6_hear 34 = .ok (.putfield 46, 3) := by decide +kernel
theorem dX6_hear_37 : decode cX6_hear 37 = .ok (.aload_n 0, 1) := by decide +kernel
theorem dX6_hear_38 : decode cX6_hear 38 = .ok (.aload_n 0, 1) := by decide +kernel
theorem dX6_hear_39 : decode cX6_hear 39 = .ok (.getfield 15, 3) := by decide +kernel
theorem dX6_hear_42 : decode cX6_hear 42 = .ok (.iconst 1, 1) := by decide +kernel
theorem dX6_hear_43 : decode cX6_hear 43 = .ok (.invokevirtual 42, 3) := by decide +kernel
theorem dX6_hear_46 : decode cX6_hear 46 = .ok (.putfield 49, 3) := by decide +kernel
theorem dX6_hear_49 : decode cX6_hear 49 = .ok (.iconst 2, 1) := by decide +kernel
theorem dX6_hear_50 : decode cX6_hear 50 = .ok (.ireturn, 1) := by decide +kernel
theorem dX6_hear_51 : decode cX6_hear 51 = .ok (.aload_n 0, 1) := by decide +kernel
theorem dX6_hear_52 : decode cX6_hear 52 = .ok (.getfield 15, 3) := by decide +kernel
theorem dX6_hear_55 : decode cX6_hear 55 = .ok (.iconst 0, 1) := by decide +kernel
theorem dX6_hear_56 : decode cX6_hear 56 = .ok (.invokevirtual 52, 3) := by decide +kernel
theorem dX6_hear_59 : decode cX6_hear 59 = .ok (.istore_n 2, 1) := by decide +kernel
theorem dX6_hear_60 : decode cX6_hear 60 = .ok (.iload_n 2, 1) := by decide +kernel
theorem dX6_hear_61 : decode cX6_hear 61 = .ok (.iconst 5, 1) := by decide +kernel
theorem dX6_hear_62 : decode cX6_hear 62 = .ok (.if_icmp .ne 7, 3) := by decide +kernel
theorem dX6_hear_65 : decode cX6_hear 65 = .ok (.iconst 1, 1) := by decide +kernel
theorem dX6_hear_66 : decode cX6_hear 66 = .ok (.goto 4, 3) := by decide +kernel
theorem dX6_hear_69 : decode cX6_hear 69 = .ok (.iconst 0, 1) := by decide +kernel
theorem dX6_hear_70 : decode cX6_hear 70 = .ok (.istore_n 3, 1) := by decide +kernel
theorem dX6_hear_71 : decode cX6_hear 71 = .ok (.iload_n 1, 1) := by decide +kernel
theorem dX6_hear_72 : decode cX6_hear 72 = .ok (.ifCond .eq 13, 3) := by decide +kernel
theorem dX6_hear_75 : decode cX6_hear 75 = .ok (.iload_n 3, 1) := by decide +kernel
theorem dX6_hear_76 : decode cX6_hear 76 = .ok (.ifCond .ne 22, 3) := by decide +kernel
theorem dX6_hear_79 : decode cX6_hear 79 = .ok (.iload_n 2, 1) := by decide +kernel
theorem dX6_hear_80 : decode cX6_hear 80 = .ok (.bipush 6, 2) := by decide +kernel
theorem dX6_hear_82 : decode cX6_hear 82 = .ok (.if_icmp .eq 16, 3) := by decide +kernel
theorem dX6_hear_85 : decode cX6_hear 85 = .ok (.aload_n 0, 1) := by decide +kernel
theorem dX6_hear_86 : decode cX6_hear 86 = .ok (.aload_n 0, 1) := by decide +kernel
theorem dX6_hear_87 : decode cX6_hear 87 = .ok (.getfield 15, 3) := by decide +kernel
theorem dX6_hear_90 : decode cX6_hear 90 = .ok (.iconst 0, 1) := by decide +kernel
theorem dX6_hear_91 : decode cX6_hear 91 = .ok (.invokevirtual 42, 3) := by decide +kernel
theorem dX6_hear_94 : decode cX6_hear 94 = .ok (.invokevirtual 55, 3) := by decide +kernel
theorem dX6_hear_97 : decode cX6_hear 97 = .ok (.ireturn, 1) := by decide +kernel
theorem dX6_hear_98 : decode cX6_hear 98 = .ok (.iload_n 1, 1) := by decide +kernel
theorem dX6_hear_99 : decode cX6_hear 99 = .ok (.iconst 2, 1) := by decide +kernel
theorem dX6_hear_100 : decode cX6_hear 100 = .ok (.if_icmp .ne 23, 3) := by decide +kernel
theorem dX6_hear_103 : decode cX6_hear 103 = .ok (.aload_n 0, 1) := by decide +kernel
theorem dX6_hear_104 : decode cX6_hear 104 = .ok (.iload_n 3, 1) := by decide +kernel
theorem dX6_hear_105 : decode cX6_hear 105 = .ok (.ifCond .eq 10, 3) := by decide +kernel
theorem dX6_hear_108 : decode cX6_hear 108 = .ok (.aload_n 0, 1) := by decide +kernel
theorem dX6_hear_109 : decode cX6_hear 109 = .ok (.getfield 46, 3) := by decide +kernel
theorem dX6_hear_112 : decode cX6_hear 112 = .ok (.goto 7, 3) := by decide +kernel
theorem dX6_hear_115 : decode cX6_hear 115 = .ok (.aload_n 0, 1) := by decide +kernel
theorem dX6_hear_116 : decode cX6_hear 116 = .ok (.getfield 49, 3) := by decide +kernel
theorem dX6_hear_119 : decode cX6_hear 119 = .ok (.invokevirtual 55, 3) := by decide +kernel
theorem dX6_hear_122 : decode cX6_hear 122 = .ok (.ireturn, 1) := by decide +kernel
theorem dX6_hear_123 : decode cX6_hear 123 = .ok (.iload_n 3, 1) := by decide +kernel
theorem dX6_hear_124 : decode cX6_hear 124 = .ok (.ifCond .eq 19, 3) := by decide +kernel
theorem dX6_hear_127 : decode cX6_hear 127 = .ok (.aload_n 0, 1) := by decide +kernel
theorem dX6_hear_128 : decode cX6_hear 128 = .ok (.aload_n 0, 1) := by decide +kernel
theorem dX6_hear_129 : decode cX6_hear 129 = .ok (.getfield 58, 3) := by decide +kernel
theorem dX6_hear_132 : decode cX6_hear 132 = .ok (.aload_n 0, 1) := by decide +kernel
theorem dX6_hear_133 : decode cX6_hear 133 = .ok (.getfield 61, 3) := by decide +kernel
theorem dX6_hear_136 : decode cX6_hear 136 = .ok (.iconst 1, 1) := by decide +kernel
theorem dX6_hear_137 : decode cX6_hear 137 = .ok (.invokevirtual 64, 3) := by decide +kernel
theorem dX6_hear_140 : decode cX6_hear 140 = .ok (.goto 4, 3) := by decide +kernel
theorem dX6_hear_143 : decode cX6_hear 143 = .ok (.iconst 5, 1) := by decide +kernel
theorem dX6_hear_144 : decode cX6_hear 144 = .ok (.ireturn, 1) := by decide +kernel
theorem dX6_take_0 : decode cX6_take 0 = .ok (.iload_n 1, 1) := by decide +kernel
theorem dX6_take_1 : decode cX6_take 1 = .ok (.invokestatic 68, 3) := by decide +kernel
theorem dX6_take_4 : decode cX6_take 4 = .ok (.istore_n 2, 1) := by decide +kernel
theorem dX6_take_5 : decode cX6_take 5 = .ok (.iload_n 1, 1) := by decide +kernel
theorem dX6_take_6 : decode cX6_take 6 = .ok (.invokestatic 71, 3) := by decide +kernel
theorem dX6_take_9 : decode cX6_take 9 = .ok (.tableswitch 96 0 8 #[51, 61, 66, 71, 73, 96, 96, 80, 86], 51) := by decide +kernel
theorem dX6_take_60 : decode cX6_take 60 = .ok (.aload_n 0, 1) := by decide +kernel
theorem dX6_take_61 : decode cX6_take 61 = .ok (.aload_n 0, 1) := by decide +kernel
theorem dX6_take_62 : decode cX6_take 62 = .ok (.getfield 26, 3) := by decide +kernel
theorem dX6_take_65 : decode cX6_take 65 = .ok (.iload_n 2, 1) := by decide +kernel
theorem dX6_take_66 : decode cX6_take 66 = .ok (.invokevirtual 74, 3) := by decide +kernel
theorem dX6_take_69 : decode cX6_take 69 = .ok (.ireturn, 1) := by decide +kernel
theorem dX6_take_70 : decode cX6_take 70 = .ok (.aload_n 0, 1) := by decide +kernel
theorem dX6_take_71 : decode cX6_take 71 = .ok (.invokevirtual 78, 3) := by decide +kernel
theorem dX6_take_74 : decode cX6_take 74 = .ok (.ireturn, 1) := by decide +kernel
theorem dX6_take_75 : decode cX6_take 75 = .ok (.aload_n 0, 1) := by decide +kernel
theorem dX6_take_76 : decode cX6_take 76 = .ok (.invokevirtual 82, 3) := by decide +kernel
theorem dX6_take_79 : decode cX6_take 79 = .ok (.ireturn, 1) := by decide +kernel
theorem dX6_take_80 : decode cX6_take 80 = .ok (.iconst 5, 1) := by decide +kernel
theorem dX6_take_81 : decode cX6_take 81 = .ok (.ireturn, 1) := by decide +kernel
theorem dX6_take_82 : decode cX6_take 82 = .ok (.aload_n 0, 1) := by decide +kernel
theorem dX6_take_83 : decode cX6_take 83 = .ok (.iconst 1, 1) := by decide +kernel
theorem dX6_take_84 : decode cX6_take 84 = .ok (.putfield 85, 3) := by decide +kernel
theorem dX6_take_87 : decode cX6_take 87 = .ok (.iconst 5, 1) := by decide +kernel
theorem dX6_take_88 : decode cX6_take 88 = .ok (.ireturn, 1) := by decide +kernel
theorem dX6_take_89 : decode cX6_take 89 = .ok (.aload_n 0, 1) := by decide +kernel
theorem dX6_take_90 : decode cX6_take 90 = .ok (.iload_n 2, 1) := by decide +kernel
theorem dX6_take_91 : decode cX6_take 91 = .ok (.invokevirtual 89, 3) := by decide +kernel
theorem dX6_take_94 : decode cX6_take 94 = .ok (.ireturn, 1) := by decide +kernel
theorem dX6_take_95 : decode cX6_take 95 = .ok (.aload_n 0, 1) := by decide +kernel
theorem dX6_take_96 : decode cX6_take 96 = .ok (.aload_n 0, 1) := by decide +kernel
theorem dX6_take_97 : decode cX6_take 97 = .ok (.getfield 30, 3) := by decide +kernel
theorem dX6_take_100 : decode cX6_take 100 = .ok (.iload_n 2, 1) := by decide +kernel
theorem dX6_take_101 : decode cX6_take 101 = .ok (.invokevirtual 74, 3) := by decide +kernel
theorem dX6_take_104 : decode cX6_take 104 = .ok (.ireturn, 1) := by decide +kernel
theorem dX6_take_105 : decode cX6_take 105 = .ok (.bipush 6, 2) := by decide +kernel
theorem dX6_take_107 : decode cX6_take 107 = .ok (.ireturn, 1) := by decide +kernel
theorem dX6_takeAnswer_0 : decode cX6_takeAnswer 0 = .ok (.aload_n 0, 1) := by decide +kernel
theorem dX6_takeAnswer_1 : decode cX6_takeAnswer 1 = .ok (.getfield 9, 3) := by decide +kernel
theorem dX6_takeAnswer_4 : decode cX6_takeAnswer 4 = .ok (.iload_n 1, 1) := by decide +kernel
theorem dX6_takeAnswer_5 : decode cX6_takeAnswer 5 = .ok (.invokevirtual 92, 3) := by decide +kernel
theorem dX6_takeAnswer_8 : decode cX6_takeAnswer 8 = .ok (.astore_n 3, 1) := by decide +kernel
theorem dX6_takeAnswer_9 : decode cX6_takeAnswer 9 = .ok (.aload_n 3, 1) := by decide +kernel
theorem dX6_takeAnswer_10 : decode cX6_takeAnswer 10 = .ok (.ifnull 10, 3) := by decide +kernel
theorem dX6_takeAnswer_13 : decode cX6_takeAnswer 13 = .ok (.aload_n 3, 1) := by decide +kernel
theorem dX6_takeAnswer_14 : decode cX6_takeAnswer 14 = .ok (.invokevirtual 98, 3) := by decide +kernel
theorem dX6_takeAnswer_17 : decode cX6_takeAnswer 17 = .ok (.ifCond .ne 11, 3) := by decide +kernel
theorem dX6_takeAnswer_20 : decode cX6_takeAnswer 20 = .ok (.aload_n 0, 1) := by decide +kernel
theorem dX6_takeAnswer_21 : decode cX6_takeAnswer 21 = .ok (.iload_n 1, 1) := by decide +kernel
theorem dX6_takeAnswer_22 : decode cX6_takeAnswer 22 = .ok (.iload_n 2, 1) := by decide +kernel
theorem dX6_takeAnswer_23 : decode cX6_takeAnswer 23 = .ok (.iconst 0, 1) := by decide +kernel
theorem dX6_takeAnswer_24 : decode cX6_takeAnswer 24 = .ok (.invokevirtual 64, 3) := by decide +kernel
theorem dX6_takeAnswer_27 : decode cX6_takeAnswer 27 = .ok (.ireturn, 1) := by decide +kernel
theorem dX6_takeAnswer_28 : decode cX6_takeAnswer 28 = .ok (.aload_n 0, 1) := by decide +kernel
theorem dX6_takeAnswer_29 : decode cX6_takeAnswer 29 = .ok (.iconst 1, 1) := by decide +kernel
theorem dX6_takeAnswer_30 : decode cX6_takeAnswer 30 = .ok (.putfield 33, 3) := by decide +kernel
theorem dX6_takeAnswer_33 : decode cX6_takeAnswer 33 = .ok (.aload_n 0, 1) := by decide +kernel
theorem dX6_takeAnswer_34 : decode cX6_takeAnswer 34 = .ok (.iload_n 1, 1) := by decide +kernel
theorem dX6_takeAnswer_35 : decode cX6_takeAnswer 35 = .ok (.putfield 58, 3) := by decide +kernel
theorem dX6_takeAnswer_38 : decode cX6_takeAnswer 38 = .ok (.aload_n 0, 1) := by decide +kernel
theorem dX6_takeAnswer_39 : decode cX6_takeAnswer 39 = .ok (.iload_n 2, 1) := by decide +kernel
theorem dX6_takeAnswer_40 : decode cX6_takeAnswer 40 = .ok (.putfield 61, 3) := by decide +kernel
theorem dX6_takeAnswer_43 : decode cX6_takeAnswer 43 = .ok (.iconst 3, 1) := by decide +kernel
theorem dX6_takeAnswer_44 : decode cX6_takeAnswer 44 = .ok (.ireturn, 1) := by decide +kernel
theorem dX6_keep_0 : decode cX6_keep 0 = .ok (.aload_n 0, 1) := by decide +kernel
theorem dX6_keep_1 : decode cX6_keep 1 = .ok (.aload_n 0, 1) := by decide +kernel
theorem dX6_keep_2 : decode cX6_keep 2 = .ok (.getfield 9, 3) := by decide +kernel
theorem dX6_keep_5 : decode cX6_keep 5 = .ok (.iload_n 1, 1) := by decide +kernel
theorem dX6_keep_6 : decode cX6_keep 6 = .ok (.iload_n 2, 1) := by decide +kernel
theorem dX6_keep_7 : decode cX6_keep 7 = .ok (.iload_n 3, 1) := by decide +kernel
theorem dX6_keep_8 : decode cX6_keep 8 = .ok (.invokevirtual 103, 3) := by decide +kernel
theorem dX6_keep_11 : decode cX6_keep 11 = .ok (.putfield 106, 3) := by decide +kernel
theorem dX6_keep_14 : decode cX6_keep 14 = .ok (.aload_n 0, 1) := by decide +kernel
theorem dX6_keep_15 : decode cX6_keep 15 = .ok (.iload_n 1, 1) := by decide +kernel
theorem dX6_keep_16 : decode cX6_keep 16 = .ok (.putfield 30, 3) := by decide +kernel
theorem dX6_keep_19 : decode cX6_keep 19 = .ok (.aload_n 0, 1) := by decide +kernel
theorem dX6_keep_20 : decode cX6_keep 20 = .ok (.iconst 0, 1) := by decide +kernel
theorem dX6_keep_21 : decode cX6_keep 21 = .ok (.putfield 109, 3) := by decide +kernel
theorem dX6_keep_24 : decode cX6_keep 24 = .ok (.aload_n 0, 1) := by decide +kernel
theorem dX6_keep_25 : decode cX6_keep 25 = .ok (.getfield 9, 3) := by decide +kernel
theorem dX6_keep_28 : decode cX6_keep 28 = .ok (.aload_n 0, 1) := by decide +kernel
theorem dX6_keep_29 : decode cX6_keep 29 = .ok (.getfield 26, 3) := by decide +kernel
theorem dX6_keep_32 : decode cX6_keep 32 = .ok (.invokevirtual 92, 3) := by decide +kernel
theorem dX6_keep_35 : decode cX6_keep 35 = .ok (.astore 4, 2) := by decide +kernel
theorem dX6_keep_37 : decode cX6_keep 37 = .ok (.aload 4, 2) := by decide +kernel
theorem dX6_keep_39 : decode cX6_keep 39 = .ok (.ifnull 34, 3) := by decide +kernel
theorem dX6_keep_42 : decode cX6_keep 42 = .ok (.iload_n 1, 1) := by decide +kernel
theorem dX6_keep_43 : decode cX6_keep 43 = .ok (.aload_n 0, 1) := by decide +kernel
theorem dX6_keep_44 : decode cX6_keep 44 = .ok (.getfield 26, 3) := by decide +kernel
theorem dX6_keep_47 : decode cX6_keep 47 = .ok (.if_icmp .eq 11, 3) := by decide +kernel
theorem dX6_keep_50 : decode cX6_keep 50 = .ok (.aload 4, 2) := by decide +kernel
theorem dX6_keep_52 : decode cX6_keep 52 = .ok (.getfield 112, 3) := by decide +kernel
theorem dX6_keep_55 : decode cX6_keep 55 = .ok (.ifCond .ne 18, 3) := by decide +kernel
theorem dX6_keep_58 : decode cX6_keep 58 = .ok (.aload_n 0, 1) := by decide +kernel
theorem dX6_keep_59 : decode cX6_keep 59 = .ok (.aload_n 0, 1) := by decide +kernel
theorem dX6_keep_60 : decode cX6_keep 60 = .ok (.getfield 9, 3) := by decide +kernel
theorem dX6_keep_63 : decode cX6_keep 63 = .ok (.aload_n 0, 1) := by decide +kernel
theorem dX6_keep_64 : decode cX6_keep 64 = .ok (.getfield 26, 3) := by decide +kernel
theorem dX6_keep_67 : decode cX6_keep 67 = .ok (.invokevirtual 115, 3) := by decide +kernel
theorem dX6_keep_70 : decode cX6_keep 70 = .ok (.invokevirtual 118, 3) := by decide +kernel
theorem dX6_keep_73 : decode cX6_keep 73 = .ok (.iconst 4, 1) := by decide +kernel
theorem dX6_keep_74 : decode cX6_keep 74 = .ok (.ireturn, 1) := by decide +kernel
theorem dX6_come_0 : decode cX6_come 0 = .ok (.iload_n 1, 1) := by decide +kernel
theorem dX6_come_1 : decode cX6_come 1 = .ok (.aload_n 0, 1) := by decide +kernel
theorem dX6_come_2 : decode cX6_come 2 = .ok (.getfield 26, 3) := by decide +kernel
theorem dX6_come_5 : decode cX6_come 5 = .ok (.if_icmp .ne 4, 3) := by decide +kernel
theorem dX6_come_8 : decode cX6_come 8 = .ok (.return_, 1) := by decide +kernel
theorem dX6_come_9 : decode cX6_come 9 = .ok (.aload_n 0, 1) := by decide +kernel
theorem dX6_come_10 : decode cX6_come 10 = .ok (.getfield 26, 3) := by decide +kernel
theorem dX6_come_13 : decode cX6_come 13 = .ok (.iconst (-1), 1) := by decide +kernel
theorem dX6_come_14 : decode cX6_come 14 = .ok (.if_icmp .eq 14, 3) := by decide +kernel
theorem dX6_come_17 : decode cX6_come 17 = .ok (.aload_n 0, 1) := by decide +kernel
theorem dX6_come_18 : decode cX6_come 18 = .ok (.getfield 22, 3) := by decide +kernel
theorem dX6_come_21 : decode cX6_come 21 = .ok (.aload_n 0, 1) := by decide +kernel
theorem dX6_come_22 : decode cX6_come 22 = .ok (.getfield 26, 3) := by decide +kernel
theorem dX6_come_25 : decode cX6_come 25 = .ok (.invokevirtual 122, 3) := by decide +kernel
theorem dX6_come_28 : decode cX6_come 28 = .ok (.aload_n 0, 1) := by decide +kernel
theorem dX6_come_29 : decode cX6_come 29 = .ok (.iload_n 1, 1) := by decide +kernel
theorem dX6_come_30 : decode cX6_come 30 = .ok (.putfield 26, 3) := by decide +kernel
theorem dX6_come_33 : decode cX6_come 33 = .ok (.return_, 1) := by decide +kernel
theorem dX6_goBack_0 : decode cX6_goBack 0 = .ok (.iconst 0, 1) := by decide +kernel
theorem dX6_goBack_1 : decode cX6_goBack 1 = .ok (.istore_n 1, 1) := by decide +kernel
theorem dX6_goBack_2 : decode cX6_goBack 2 = .ok (.iload_n 1, 1) := by decide +kernel
theorem dX6_goBack_3 : decode cX6_goBack 3 = .ok (.bipush 20, 2) := by decide +kernel
theorem dX6_goBack_5 : decode cX6_goBack 5 = .ok (.if_icmp .ge 44, 3) := by decide +kernel
theorem dX6_goBack_8 : decode cX6_goBack 8 = .ok (.aload_n 0, 1) := by decide +kernel
theorem dX6_goBack_9 : decode cX6_goBack 9 = .ok (.getfield 22, 3) := by decide +kernel
theorem dX6_goBack_12 : decode cX6_goBack 12 = .ok (.invokevirtual 125, 3) := by decide +kernel
theorem dX6_goBack_15 : decode cX6_goBack 15 = .ok (.istore_n 2, 1) := by decide +kernel
theorem dX6_goBack_16 : decode cX6_goBack 16 = .ok (.aload_n 0, 1) := by decide +kernel
theorem dX6_goBack_17 : decode cX6_goBack 17 = .ok (.getfield 9, 3) := by decide +kernel
theorem dX6_goBack_20 : decode cX6_goBack 20 = .ok (.iload_n 2, 1) := by decide +kernel
theorem dX6_goBack_21 : decode cX6_goBack 21 = .ok (.invokevirtual 92, 3) := by decide +kernel
theorem dX6_goBack_24 : decode cX6_goBack 24 = .ok (.astore_n 3, 1) := by decide +kernel
theorem dX6_goBack_25 : decode cX6_goBack 25 = .ok (.aload_n 3, 1) := by decide +kernel
theorem dX6_goBack_26 : decode cX6_goBack 26 = .ok (.ifnull 17, 3) := by decide +kernel
theorem dX6_goBack_29 : decode cX6_goBack 29 = .ok (.aload_n 3, 1) := by decide +kernel
theorem dX6_goBack_30 : decode cX6_goBack 30 = .ok (.getfield 112, 3) := by decide +kernel
theorem dX6_goBack_33 : decode cX6_goBack 33 = .ok (.ifCond .eq 10, 3) := by decide +kernel
theorem dX6_goBack_36 : decode cX6_goBack 36 = .ok (.aload_n 0, 1) := by decide +kernel
theorem dX6_goBack_37 : decode cX6_goBack 37 = .ok (.iload_n 2, 1) := by decide +kernel
theorem dX6_goBack_38 : decode cX6_goBack 38 = .ok (.putfield 26, 3) := by decide +kernel
theorem dX6_goBack_41 : decode cX6_goBack 41 = .ok (.iconst 5, 1) := by decide +kernel
theorem dX6_goBack_42 : decode cX6_goBack 42 = .ok (.ireturn, 1) := by decide +kernel
theorem dX6_goBack_43 : decode cX6_goBack 43 = .ok (.iinc 1 1, 3) := by decide +kernel
theorem dX6_goBack_46 : decode cX6_goBack 46 = .ok (.goto (-44), 3) := by decide +kernel
theorem dX6_goBack_49 : decode cX6_goBack 49 = .ok (.bipush 6, 2) := by decide +kernel
theorem dX6_goBack_51 : decode cX6_goBack 51 = .ok (.ireturn, 1) := by decide +kernel
theorem dX6_skip_0 : decode cX6_skip 0 = .ok (.aload_n 0, 1) := by decide +kernel
theorem dX6_skip_1 : decode cX6_skip 1 = .ok (.getfield 9, 3) := by decide +kernel
theorem dX6_skip_4 : decode cX6_skip 4 = .ok (.aload_n 0, 1) := by decide +kernel
theorem dX6_skip_5 : decode cX6_skip 5 = .ok (.getfield 26, 3) := by decide +kernel
theorem dX6_skip_8 : decode cX6_skip 8 = .ok (.invokevirtual 92, 3) := by decide +kernel
theorem dX6_skip_11 : decode cX6_skip 11 = .ok (.astore_n 1, 1) := by decide +kernel
theorem dX6_skip_12 : decode cX6_skip 12 = .ok (.aload_n 1, 1) := by decide +kernel
theorem dX6_skip_13 : decode cX6_skip 13 = .ok (.ifnonnull 6, 3) := by decide +kernel
theorem dX6_skip_16 : decode cX6_skip 16 = .ok (.bipush 6, 2) := by decide +kernel
theorem dX6_skip_18 : decode cX6_skip 18 = .ok (.ireturn, 1) := by decide +kernel
theorem dX6_skip_19 : decode cX6_skip 19 = .ok (.aload_n 1, 1) := by decide +kernel
theorem dX6_skip_20 : decode cX6_skip 20 = .ok (.iconst 1, 1) := by decide +kernel
theorem dX6_skip_21 : decode cX6_skip 21 = .ok (.putfield 128, 3) := by decide +kernel
theorem dX6_skip_24 : decode cX6_skip 24 = .ok (.aload_n 0, 1) := by decide +kernel
theorem dX6_skip_25 : decode cX6_skip 25 = .ok (.aload_n 0, 1) := by decide +kernel
theorem dX6_skip_26 : decode cX6_skip 26 = .ok (.getfield 9, 3) := by decide +kernel
theorem dX6_skip_29 : decode cX6_skip 29 = .ok (.aload_n 0, 1) := by decide +kernel
theorem dX6_skip_30 : decode cX6_skip 30 = .ok (.getfield 26, 3) := by decide +kernel
theorem dX6_skip_33 : decode cX6_skip 33 = .ok (.invokevirtual 115, 3) := by decide +kernel
theorem dX6_skip_36 : decode cX6_skip 36 = .ok (.invokevirtual 118, 3) := by decide +kernel
theorem dX6_skip_39 : decode cX6_skip 39 = .ok (.iconst 5, 1) := by decide +kernel
theorem dX6_skip_40 : decode cX6_skip 40 = .ok (.ireturn, 1) := by decide +kernel
theorem dX6_goTo_0 : decode cX6_goTo 0 = .ok (.aload_n 0, 1) := by decide +kernel
theorem dX6_goTo_1 : decode cX6_goTo 1 = .ok (.getfield 9, 3) := by decide +kernel
theorem dX6_goTo_4 : decode cX6_goTo 4 = .ok (.iload_n 1, 1) := by decide +kernel
theorem dX6_goTo_5 : decode cX6_goTo 5 = .ok (.invokevirtual 92, 3) := by decide +kernel
theorem dX6_goTo_8 : decode cX6_goTo 8 = .ok (.astore_n 2, 1) := by decide +kernel
theorem dX6_goTo_9 : decode cX6_goTo 9 = .ok (.aload_n 2, 1) := by decide +kernel
theorem dX6_goTo_10 : decode cX6_goTo 10 = .ok (.ifnull 10, 3) := by decide +kernel
theorem dX6_goTo_13 : decode cX6_goTo 13 = .ok (.aload_n 2, 1) := by decide +kernel
theorem dX6_goTo_14 : decode cX6_goTo 14 = .ok (.getfield 112, 3) := by decide +kernel
theorem dX6_goTo_17 : decode cX6_goTo 17 = .ok (.ifCond .ne 6, 3) := by decide +kernel
theorem dX6_goTo_20 : decode cX6_goTo 20 = .ok (.bipush 6, 2) := by decide +kernel
theorem dX6_goTo_22 : decode cX6_goTo 22 = .ok (.ireturn, 1) := by decide +kernel
theorem dX6_goTo_23 : decode cX6_goTo 23 = .ok (.aload_n 2, 1) := by decide +kernel
theorem dX6_goTo_24 : decode cX6_goTo 24 = .ok (.iconst 0, 1) := by decide +kernel
theorem dX6_goTo_25 : decode cX6_goTo 25 = .ok (.putfield 128, 3) := by decide +kernel
theorem dX6_goTo_28 : decode cX6_goTo 28 = .ok (.aload_n 0, 1) := by decide +kernel
theorem dX6_goTo_29 : decode cX6_goTo 29 = .ok (.iload_n 1, 1) := by decide +kernel
theorem dX6_goTo_30 : decode cX6_goTo 30 = .ok (.invokevirtual 118, 3) := by decide +kernel
theorem dX6_goTo_33 : decode cX6_goTo 33 = .ok (.iconst 5, 1) := by decide +kernel
theorem dX6_goTo_34 : decode cX6_goTo 34 = .ok (.ireturn, 1) := by decide +kernel
theorem dX7_init_0 : decode cX7_init 0 = .ok (.aload_n 0, 1) := by decide +kernel
theorem dX7_init_1 : decode cX7_init 1 = .ok (.invokespecial 3, 3) := by decide +kernel
theorem dX7_init_4 : decode cX7_init 4 = .ok (.iload_n 1, 1) := by decide +kernel
theorem dX7_init_5 : decode cX7_init 5 = .ok (.ifCond .le 9, 3) := by decide +kernel
theorem dX7_init_8 : decode cX7_init 8 = .ok (.iconst 2, 1) := by decide +kernel
theorem dX7_init_9 : decode cX7_init 9 = .ok (.iload_n 1, 1) := by decide +kernel
theorem dX7_init_10 : decode cX7_init 10 = .ok (.imul, 1) := by decide +kernel
theorem dX7_init_11 : decode cX7_init 11 = .ok (.goto 4, 3) := by decide +kernel
theorem dX7_init_14 : decode cX7_init 14 = .ok (.iconst 0, 1) := by decide +kernel
theorem dX7_init_15 : decode cX7_init 15 = .ok (.istore_n 2, 1) := by decide +kernel
theorem dX7_init_16 : decode cX7_init 16 = .ok (.aload_n 0, 1) := by decide +kernel
theorem dX7_init_17 : decode cX7_init 17 = .ok (.iload_n 2, 1) := by decide +kernel
theorem dX7_init_18 : decode cX7_init 18 = .ok (.newarray .int, 2) := by decide +kernel
theorem dX7_init_20 : decode cX7_init 20 = .ok (.putfield 9, 3) := by decide +kernel
theorem dX7_init_23 : decode cX7_init 23 = .ok (.aload_n 0, 1) := by decide +kernel
theorem dX7_init_24 : decode cX7_init 24 = .ok (.iload_n 2, 1) := by decide +kernel
theorem dX7_init_25 : decode cX7_init 25 = .ok (.newarray .int, 2) := by decide +kernel
theorem dX7_init_27 : decode cX7_init 27 = .ok (.putfield 15, 3) := by decide +kernel
theorem dX7_init_30 : decode cX7_init 30 = .ok (.return_, 1) := by decide +kernel
theorem dX7_clear_0 : decode cX7_clear 0 = .ok (.aload_n 0, 1) := by decide +kernel
theorem dX7_clear_1 : decode cX7_clear 1 = .ok (.getfield 9, 3) := by decide +kernel
theorem dX7_clear_4 : decode cX7_clear 4 = .ok (.ldc 18, 2) := by decide +kernel
theorem dX7_clear_6 : decode cX7_clear 6 = .ok (.invokestatic 19, 3) := by decide +kernel
theorem dX7_clear_9 : decode cX7_clear 9 = .ok (.aload_n 0, 1) := by decide +kernel
theorem dX7_clear_10 : decode cX7_clear 10 = .ok (.getfield 15, 3) := by decide +kernel
theorem dX7_clear_13 : decode cX7_clear 13 = .ok (.iconst (-1), 1) := by decide +kernel
theorem dX7_clear_14 : decode cX7_clear 14 = .ok (.invokestatic 19, 3) := by decide +kernel
theorem dX7_clear_17 : decode cX7_clear 17 = .ok (.return_, 1) := by decide +kernel
theorem dX7_cost_0 : decode cX7_cost 0 = .ok (.iconst 2, 1) := by decide +kernel
theorem dX7_cost_1 : decode cX7_cost 1 = .ok (.iload_n 1, 1) := by decide +kernel
theorem dX7_cost_2 : decode cX7_cost 2 = .ok (.imul, 1) := by decide +kernel
theorem dX7_cost_3 : decode cX7_cost 3 = .ok (.iload_n 2, 1) := by decide +kernel
theorem dX7_cost_4 : decode cX7_cost 4 = .ok (.iadd, 1) := by decide +kernel
theorem dX7_cost_5 : decode cX7_cost 5 = .ok (.istore_n 3, 1) := by decide +kernel
theorem dX7_cost_6 : decode cX7_cost 6 = .ok (.iload_n 3, 1) := by decide +kernel
theorem dX7_cost_7 : decode cX7_cost 7 = .ok (.ifCond .lt 21, 3) := by decide +kernel
theorem dX7_cost_10 : decode cX7_cost 10 = .ok (.iload_n 3, 1) := by decide +kernel
theorem dX7_cost_11 : decode cX7_cost 11 = .ok (.aload_n 0, 1) := by decide +kernel
theorem dX7_cost_12 : decode cX7_cost 12 = .ok (.getfield 9, 3) := by decide +kernel
theorem dX7_cost_15 : decode cX7_cost 15 = .ok (.arraylength, 1) := by decide +kernel
theorem dX7_cost_16 : decode cX7_cost 16 = .ok (.if_icmp .ge 12, 3) := by decide +kernel
theorem dX7_cost_19 : decode cX7_cost 19 = .ok (.aload_n 0, 1) := by decide +kernel
theorem dX7_cost_20 : decode cX7_cost 20 = .ok (.getfield 9, 3) := by decide +kernel
theorem dX7_cost_23 : decode cX7_cost 23 = .ok (.iload_n 3, 1) := by decide +kernel
theorem dX7_cost_24 : decode cX7_cost 24 = .ok (.iaload, 1) := by decide +kernel
theorem dX7_cost_25 : decode cX7_cost 25 = .ok (.goto 5, 3) := by decide +kernel
theorem dX7_cost_28 : decode cX7_cost 28 = .ok (.ldc 18, 2) := by decide +kernel
theorem dX7_cost_30 : decode cX7_cost 30 = .ok (.ireturn, 1) := by decide +kernel
theorem dX7_key_0 : decode cX7_key 0 = .ok (.iconst 2, 1) := by decide +kernel
theorem dX7_key_1 : decode cX7_key 1 = .ok (.iload_n 1, 1) := by decide +kernel
theorem dX7_key_2 : decode cX7_key 2 = .ok (.imul, 1) := by decide +kernel
theorem dX7_key_3 : decode cX7_key 3 = .ok (.iload_n 2, 1) := by decide +kernel
theorem dX7_key_4 : decode cX7_key 4 = .ok (.iadd, 1) := by decide +kernel
theorem dX7_key_5 : decode cX7_key 5 = .ok (.istore_n 3, 1) := by decide +kernel
theorem dX7_key_6 : decode cX7_key 6 = .ok (.iload_n 3, 1) := by decide +kernel
theorem dX7_key_7 : decode cX7_key 7 = .ok (.ifCond .lt 21, 3) := by decide +kernel
theorem dX7_key_10 : decode cX7_key 10 = .ok (.iload_n 3, 1) := by decide +kernel
theorem dX7_key_11 : decode cX7_key 11 = .ok (.aload_n 0, 1) := by decide +kernel
theorem dX7_key_12 : decode cX7_key 12 = .ok (.getfield 15, 3) := by decide +kernel
theorem dX7_key_15 : decode cX7_key 15 = .ok (.arraylength, 1) := by decide +kernel
theorem dX7_key_16 : decode cX7_key 16 = .ok (.if_icmp .ge 12, 3) := by decide +kernel
theorem dX7_key_19 : decode cX7_key 19 = .ok (.aload_n 0, 1) := by decide +kernel
theorem dX7_key_20 : decode cX7_key 20 = .ok (.getfield 15, 3) := by decide +kernel
theorem dX7_key_23 : decode cX7_key 23 = .ok (.iload_n 3, 1) := by decide +kernel
theorem dX7_key_24 : decode cX7_key 24 = .ok (.iaload, 1) := by decide +kernel
theorem dX7_key_25 : decode cX7_key 25 = .ok (.goto 4, 3) := by decide +kernel
theorem dX7_key_28 : decode cX7_key 28 = .ok (.iconst (-1), 1) := by decide +kernel
theorem dX7_key_29 : decode cX7_key 29 = .ok (.ireturn, 1) := by decide +kernel
theorem dX7_offer_0 : decode cX7_offer 0 = .ok (.iconst 2, 1) := by decide +kernel
theorem dX7_offer_1 : decode cX7_offer 1 = .ok (.iload_n 1, 1) := by decide +kernel
theorem dX7_offer_2 : decode cX7_offer 2 = .ok (.imul, 1) := by decide +kernel
theorem dX7_offer_3 : decode cX7_offer 3 = .ok (.istore 4, 2) := by decide +kernel
theorem dX7_offer_5 : decode cX7_offer 5 = .ok (.iload 4, 2) := by decide +kernel
theorem dX7_offer_7 : decode cX7_offer 7 = .ok (.iconst 1, 1) := by decide +kernel
theorem dX7_offer_8 : decode cX7_offer 8 = .ok (.iadd, 1) := by decide +kernel
theorem dX7_offer_9 : decode cX7_offer 9 = .ok (.istore 5, 2) := by decide +kernel
theorem dX7_offer_11 : decode cX7_offer 11 = .ok (.iload 4, 2) := by decide +kernel
theorem dX7_offer_13 : decode cX7_offer 13 = .ok (.ifCond .lt 23, 3) := by decide +kernel
theorem dX7_offer_16 : decode cX7_offer 16 = .ok (.iload 5, 2) := by decide +kernel
theorem dX7_offer_18 : decode cX7_offer 18 = .ok (.aload_n 0, 1) := by decide +kernel
theorem dX7_offer_19 : decode cX7_offer 19 = .ok (.getfield 9, 3) := by decide +kernel
theorem dX7_offer_22 : decode cX7_offer 22 = .ok (.arraylength, 1) := by decide +kernel
theorem dX7_offer_23 : decode cX7_offer 23 = .ok (.if_icmp .ge 13, 3) := by decide +kernel
theorem dX7_offer_26 : decode cX7_offer 26 = .ok (.iload 5, 2) := by decide +kernel
theorem dX7_offer_28 : decode cX7_offer 28 = .ok (.aload_n 0, 1) := by decide +kernel
theorem dX7_offer_29 : decode cX7_offer 29 = .ok (.getfield 15, 3) := by decide +kernel
theorem dX7_offer_32 : decode cX7_offer 32 = .ok (.arraylength, 1) := by decide +kernel
theorem dX7_offer_33 : decode cX7_offer 33 = .ok (.if_icmp .lt 4, 3) := by decide +kernel
theorem dX7_offer_36 : decode cX7_offer 36 = .ok (.return_, 1) := by decide +kernel
theorem dX7_offer_37 : decode cX7_offer 37 = .ok (.iload_n 3, 1) := by decide +kernel
theorem dX7_offer_38 : decode cX7_offer 38 = .ok (.aload_n 0, 1) := by decide +kernel
theorem dX7_offer_39 : decode cX7_offer 39 = .ok (.getfield 15, 3) := by decide +kernel
theorem dX7_offer_42 : decode cX7_offer 42 = .ok (.iload 4, 2) := by decide +kernel
theorem dX7_offer_44 : decode cX7_offer 44 = .ok (.iaload, 1) := by decide +kernel
theorem dX7_offer_45 : decode cX7_offer 45 = .ok (.if_icmp .ne 24, 3) := by decide +kernel
theorem dX7_offer_48 : decode cX7_offer 48 = .ok (.aload_n 0, 1) := by decide +kernel
theorem dX7_offer_49 : decode cX7_offer 49 = .ok (.getfield 9, 3) := by decide +kernel
theorem dX7_offer_52 : decode cX7_offer 52 = .ok (.iload 4, 2) := by decide +kernel
theorem dX7_offer_54 : decode cX7_offer 54 = .ok (.iload_n 2, 1) := by decide +kernel
theorem dX7_offer_55 : decode cX7_offer 55 = .ok (.aload_n 0, 1) := by decide +kernel
theorem dX7_offer_56 : decode cX7_offer 56 = .ok (.getfield 9, 3) := by decide +kernel
theorem dX7_offer_59 : decode cX7_offer 59 = .ok (.iload 4, 2) := by decide +kernel
theorem dX7_offer_61 : decode cX7_offer 61 = .ok (.iaload, 1) := by decide +kernel
theorem dX7_offer_62 : decode cX7_offer 62 = .ok (.invokestatic 25, 3) := by decide +kernel
theorem dX7_offer_65 : decode cX7_offer 65 = .ok (.iastore, 1) := by decide +kernel
theorem dX7_offer_66 : decode cX7_offer 66 = .ok (.goto 132, 3) := by decide +kernel
theorem dX7_offer_69 : decode cX7_offer 69 = .ok (.iload_n 2, 1) := by decide +kernel
theorem dX7_offer_70 : decode cX7_offer 70 = .ok (.aload_n 0, 1) := by decide +kernel
theorem dX7_offer_71 : decode cX7_offer 71 = .ok (.getfield 9, 3) := by decide +kernel
theorem dX7_offer_74 : decode cX7_offer 74 = .ok (.iload 4, 2) := by decide +kernel
theorem dX7_offer_76 : decode cX7_offer 76 = .ok (.iaload, 1) := by decide +kernel
theorem dX7_offer_77 : decode cX7_offer 77 = .ok (.if_icmp .lt 25, 3) := by decide +kernel
theorem dX7_offer_80 : decode cX7_offer 80 = .ok (.iload_n 2, 1) := by decide +kernel
theorem dX7_offer_81 : decode cX7_offer 81 = .ok (.aload_n 0, 1) := by decide +kernel
theorem dX7_offer_82 : decode cX7_offer 82 = .ok (.getfield 9, 3) := by decide +kernel
theorem dX7_offer_85 : decode cX7_offer 85 = .ok (.iload 4, 2) := by decide +kernel
theorem dX7_offer_87 : decode cX7_offer 87 = .ok (.iaload, 1) := by decide +kernel
theorem dX7_offer_88 : decode cX7_offer 88 = .ok (.if_icmp .ne 61, 3) := by decide +kernel
theorem dX7_offer_91 : decode cX7_offer 91 = .ok (.iload_n 3, 1) := by decide +kernel
theorem dX7_offer_92 : decode cX7_offer 92 = .ok (.aload_n 0, 1) := by decide +kernel
theorem dX7_offer_93 : decode cX7_offer 93 = .ok (.getfield 15, 3) := by decide +kernel
theorem dX7_offer_96 : decode cX7_offer 96 = .ok (.iload 4, 2) := by decide +kernel
theorem dX7_offer_98 : decode cX7_offer 98 = .ok (.iaload, 1) := by decide +kernel
theorem dX7_offer_99 : decode cX7_offer 99 = .ok (.if_icmp .ge 50, 3) := by decide +kernel
theorem dX7_offer_102 : decode cX7_offer 102 = .ok (.aload_n 0, 1) := by decide +kernel
theorem dX7_offer_103 : decode cX7_offer 103 = .ok (.getfield 9, 3) := by decide +kernel
theorem dX7_offer_106 : decode cX7_offer 106 = .ok (.iload 5, 2) := by decide +kernel
theorem dX7_offer_108 : decode cX7_offer 108 = .ok (.aload_n 0, 1) := by decide +kernel
theorem dX7_offer_109 : decode cX7_offer 109 = .ok (.getfield 9, 3) := by decide +kernel
theorem dX7_offer_112 : decode cX7_offer 112 = .ok (.iload 4, 2) := by decide +kernel
theorem dX7_offer_114 : decode cX7_offer 114 = .ok (.iaload, 1) := by decide +kernel
theorem dX7_offer_115 : decode cX7_offer 115 = .ok (.iastore, 1) := by decide +kernel
theorem dX7_offer_116 : decode cX7_offer 116 = .ok (.aload_n 0, 1) := by decide +kernel
theorem dX7_offer_117 : decode cX7_offer 117 = .ok (.getfield 15, 3) := by decide +kernel
theorem dX7_offer_120 : decode cX7_offer 120 = .ok (.iload 5, 2) := by decide +kernel
theorem dX7_offer_122 : decode cX7_offer 122 = .ok (.aload_n 0, 1) := by decide +kernel
theorem dX7_offer_123 : decode cX7_offer 123 = .ok (.getfield 15, 3) := by decide +kernel
theorem dX7_offer_126 : decode cX7_offer 126 = .ok (.iload 4, 2) := by decide +kernel
theorem dX7_offer_128 : decode cX7_offer 128 = .ok (.iaload, 1) := by decide +kernel
theorem dX7_offer_129 : decode cX7_offer 129 = .ok (.iastore, 1) := by decide +kernel
theorem dX7_offer_130 : decode cX7_offer 130 = .ok (.aload_n 0, 1) := by decide +kernel
theorem dX7_offer_131 : decode cX7_offer 131 = .ok (.getfield 9, 3) := by decide +kernel
theorem dX7_offer_134 : decode cX7_offer 134 = .ok (.iload 4, 2) := by decide +kernel
theorem dX7_offer_136 : decode cX7_offer 136 = .ok (.iload_n 2, 1) := by decide +kernel
theorem dX7_offer_137 : decode cX7_offer 137 = .ok (.iastore, 1) := by decide +kernel
theorem dX7_offer_138 : decode cX7_offer 138 = .ok (.aload_n 0, 1) := by decide +kernel
theorem dX7_offer_139 : decode cX7_offer 139 = .ok (.getfield 15, 3) := by decide +kernel
theorem dX7_offer_142 : decode cX7_offer 142 = .ok (.iload 4, 2) := by decide +kernel
theorem dX7_offer_144 : decode cX7_offer 144 = .ok (.iload_n 3, 1) := by decide +kernel
theorem dX7_offer_145 : decode cX7_offer 145 = .ok (.iastore, 1) := by decide +kernel
theorem dX7_offer_146 : decode cX7_offer 146 = .ok (.goto 52, 3) := by decide +kernel
theorem dX7_offer_149 : decode cX7_offer 149 = .ok (.iload_n 2, 1) := by decide +kernel
theorem dX7_offer_150 : decode cX7_offer 150 = .ok (.aload_n 0, 1) := by decide +kernel
theorem dX7_offer_151 : decode cX7_offer 151 = .ok (.getfield 9, 3) := by decide +kernel
theorem dX7_offer_154 : decode cX7_offer 154 = .ok (.iload 5, 2) := by decide +kernel
theorem dX7_offer_156 : decode cX7_offer 156 = .ok (.iaload, 1) := by decide +kernel
theorem dX7_offer_157 : decode cX7_offer 157 = .ok (.if_icmp .lt 25, 3) := by decide +kernel
theorem dX7_offer_160 : decode cX7_offer 160 = .ok (.iload_n 2, 1) := by decide +kernel
theorem dX7_offer_161 : decode cX7_offer 161 = .ok (.aload_n 0, 1) := by decide +kernel
theorem dX7_offer_162 : decode cX7_offer 162 = .ok (.getfield 9, 3) := by decide +kernel
theorem dX7_offer_165 : decode cX7_offer 165 = .ok (.iload 5, 2) := by decide +kernel
theorem dX7_offer_167 : decode cX7_offer 167 = .ok (.iaload, 1) := by decide +kernel
theorem dX7_offer_168 : decode cX7_offer 168 = .ok (.if_icmp .ne 30, 3) := by decide +kernel
theorem dX7_offer_171 : decode cX7_offer 171 = .ok (.iload_n 3, 1) := by decide +kernel
theorem dX7_offer_172 : decode cX7_offer 172 = .ok (.aload_n 0, 1) := by decide +kernel
theorem dX7_offer_173 : decode cX7_offer 173 = .ok (.getfield 15, 3) := by decide +kernel
theorem dX7_offer_176 : decode cX7_offer 176 = .ok (.iload 5, 2) := by decide +kernel
theorem dX7_offer_178 : decode cX7_offer 178 = .ok (.iaload, 1) := by decide +kernel
theorem dX7_offer_179 : decode cX7_offer 179 = .ok (.if_icmp .ge 19, 3) := by decide +kernel
theorem dX7_offer_182 : decode cX7_offer 182 = .ok (.aload_n 0, 1) := by decide +kernel
theorem dX7_offer_183 : decode cX7_offer 183 = .ok (.getfield 9, 3) := by decide +kernel
theorem dX7_offer_186 : decode cX7_offer 186 = .ok (.iload 5, 2) := by decide +kernel
theorem dX7_offer_188 : decode cX7_offer 188 = .ok (.iload_n 2, 1) := by decide +kernel
theorem dX7_offer_189 : decode cX7_offer 189 = .ok (.iastore, 1) := by decide +kernel
theorem dX7_offer_190 : decode cX7_offer 190 = .ok (.aload_n 0, 1) := by decide +kernel
theorem dX7_offer_191 : decode cX7_offer 191 = .ok (.getfield 15, 3) := by decide +kernel
theorem dX7_offer_194 : decode cX7_offer 194 = .ok (.iload 5, 2) := by decide +kernel
theorem dX7_offer_196 : decode cX7_offer 196 = .ok (.iload_n 3, 1) := by decide +kernel
theorem dX7_offer_197 : decode cX7_offer 197 = .ok (.iastore, 1) := by decide +kernel
theorem dX7_offer_198 : decode cX7_offer 198 = .ok (.return_, 1) := by decide +kernel
theorem dX9_init_0 : decode cX9_init 0 = .ok (.aload_n 0, 1) := by decide +kernel
theorem dX9_init_1 : decode cX9_init 1 = .ok (.invokespecial 1, 3) := by decide +kernel
theorem dX9_init_4 : decode cX9_init 4 = .ok (.aload_n 0, 1) := by decide +kernel
theorem dX9_init_5 : decode cX9_init 5 = .ok (.new 7, 3) := by decide +kernel
theorem dX9_init_8 : decode cX9_init 8 = .ok (.dup, 1) := by decide +kernel
theorem dX9_init_9 : decode cX9_init 9 = .ok (.invokespecial 9, 3) := by decide +kernel
theorem dX9_init_12 : decode cX9_init 12 = .ok (.putfield 10, 3) := by decide +kernel
theorem dX9_init_15 : decode cX9_init 15 = .ok (.aload_n 0, 1) := by decide +kernel
theorem dX9_init_16 : decode cX9_init 16 = .ok (.new 16, 3) := by decide +kernel
theorem dX9_init_19 : decode cX9_init 19 = .ok (.dup, 1) := by decide +kernel
theorem dX9_init_20 : decode cX9_init 20 = .ok (.invokespecial 18, 3) := by decide +kernel
theorem dX9_init_23 : decode cX9_init 23 = .ok (.putfield 19, 3) := by decide +kernel
theorem dX9_init_26 : decode cX9_init 26 = .ok (.aload_n 0, 1) := by decide +kernel
theorem dX9_init_27 : decode cX9_init 27 = .ok (.new 23, 3) := by decide +kernel
theorem dX9_init_30 : decode cX9_init 30 = .ok (.dup, 1) := by decide +kernel
theorem dX9_init_31 : decode cX9_init 31 = .ok (.aload_n 0, 1) := by decide +kernel
theorem dX9_init_32 : decode cX9_init 32 = .ok (.getfield 10, 3) := by decide +kernel
theorem dX9_init_35 : decode cX9_init 35 = .ok (.aload_n 0, 1) := by decide +kernel
theorem dX9_init_36 : decode cX9_init 36 = .ok (.getfield 19, 3) := by decide +kernel
theorem dX9_init_39 : decode cX9_init 39 = .ok (.invokespecial 25, 3) := by decide +kernel
theorem dX9_init_42 : decode cX9_init 42 = .ok (.putfield 28, 3) := by decide +kernel
theorem dX9_init_45 : decode cX9_init 45 = .ok (.aload_n 0, 1) := by decide +kernel
theorem dX9_init_46 : decode cX9_init 46 = .ok (.new 32, 3) := by decide +kernel
theorem dX9_init_49 : decode cX9_init 49 = .ok (.dup, 1) := by decide +kernel
theorem dX9_init_50 : decode cX9_init 50 = .ok (.aload_n 0, 1) := by decide +kernel
theorem dX9_init_51 : decode cX9_init 51 = .ok (.getfield 10, 3) := by decide +kernel
theorem dX9_init_54 : decode cX9_init 54 = .ok (.aload_n 0, 1) := by decide +kernel
theorem dX9_init_55 : decode cX9_init 55 = .ok (.getfield 28, 3) := by decide +kernel
theorem dX9_init_58 : decode cX9_init 58 = .ok (.invokespecial 34, 3) := by decide +kernel
theorem dX9_init_61 : decode cX9_init 61 = .ok (.putfield 37, 3) := by decide +kernel
theorem dX9_init_64 : decode cX9_init 64 = .ok (.aload_n 0, 1) := by decide +kernel
theorem dX9_init_65 : decode cX9_init 65 = .ok (.bipush 6, 2) := by decide +kernel
theorem dX9_init_67 : decode cX9_init 67 = .ok (.newarray .int, 2) := by decide +kernel
theorem dX9_init_69 : decode cX9_init 69 = .ok (.putfield 41, 3) := by decide +kernel
theorem dX9_init_72 : decode cX9_init 72 = .ok (.aload_n 0, 1) := by decide +kernel
theorem dX9_init_73 : decode cX9_init 73 = .ok (.iconst (-1), 1) := by decide +kernel
theorem dX9_init_74 : decode cX9_init 74 = .ok (.putfield 45, 3) := by decide +kernel
theorem dX9_init_77 : decode cX9_init 77 = .ok (.return_, 1) := by decide +kernel
theorem dX9_digits_0 : decode cX9_digits 0 = .ok (.aload_n 0, 1) := by decide +kernel
theorem dX9_digits_1 : decode cX9_digits 1 = .ok (.getfield 45, 3) := by decide +kernel
theorem dX9_digits_4 : decode cX9_digits 4 = .ok (.iconst (-1), 1) := by decide +kernel
theorem dX9_digits_5 : decode cX9_digits 5 = .ok (.if_icmp .ne 25, 3) := by decide +kernel
theorem dX9_digits_8 : decode cX9_digits 8 = .ok (.aload_n 0, 1) := by decide +kernel
theorem dX9_digits_9 : decode cX9_digits 9 = .ok (.getfield 10, 3) := by decide +kernel
theorem dX9_digits_12 : decode cX9_digits 12 = .ok (.iload_n 1, 1) := by decide +kernel
theorem dX9_digits_13 : decode cX9_digits 13 = .ok (.invokevirtual 49, 3) := by decide +kernel
theorem dX9_digits_16 : decode cX9_digits 16 = .ok (.ifCond .eq 14, 3) := by decide +kernel
theorem dX9_digits_19 : decode cX9_digits 19 = .ok (.iload_n 2, 1) := by decide +kernel
theorem dX9_digits_20 : decode cX9_digits 20 = .ok (.iconst 1, 1) := by decide +kernel
theorem dX9_digits_21 : decode cX9_digits 21 = .ok (.if_icmp .lt 9, 3) := by decide +kernel
theorem dX9_digits_24 : decode cX9_digits 24 = .ok (.iload_n 2, 1) := by decide +kernel
theorem dX9_digits_25 : decode cX9_digits 25 = .ok (.bipush 8, 2) := by decide +kernel
theorem dX9_digits_27 : decode cX9_digits 27 = .ok (.if_icmp .le 5, 3) := by decide +kernel
theorem dX9_digits_30 : decode cX9_digits 30 = .ok (.iconst (-1), 1) := by decide +kernel
theorem dX9_digits_31 : decode cX9_digits 31 = .ok (.ireturn, 1) := by decide +kernel
theorem dX9_digits_32 : decode cX9_digits 32 = .ok (.aload_n 0, 1) := by decide +kernel
theorem dX9_digits_33 : decode cX9_digits 33 = .ok (.getfield 37, 3) := by decide +kernel
theorem dX9_digits_36 : decode cX9_digits 36 = .ok (.iconst 0, 1) := by decide +kernel
theorem dX9_digits_37 : decode cX9_digits 37 = .ok (.putfield 53, 3) := by decide +kernel
theorem dX9_digits_40 : decode cX9_digits 40 = .ok (.aload_n 0, 1) := by decide +kernel
theorem dX9_digits_41 : decode cX9_digits 41 = .ok (.getfield 10, 3) := by decide +kernel
theorem dX9_digits_44 : decode cX9_digits 44 = .ok (.iload_n 1, 1) := by decide +kernel
theorem dX9_digits_45 : decode cX9_digits 45 = .ok (.iload_n 2, 1) := by decide +kernel
theorem dX9_digits_46 : decode cX9_digits 46 = .ok (.iload_n 3, 1) := by decide +kernel
