/-! The class: decode rows. -/
theorem dG_init_0 : decode prog_1_method_1_code 0 = .ok (.aload_n 0, 1) := by decide +kernel
theorem dG_init_1 : decode prog_1_method_1_code 1 = .ok (.invokespecial 3, 3) := by decide +kernel
theorem dG_init_4 : decode prog_1_method_1_code 4 = .ok (.aload_n 0, 1) := by decide +kernel
theorem dG_init_5 : decode prog_1_method_1_code 5 = .ok (.new 9, 3) := by decide +kernel
theorem dG_init_8 : decode prog_1_method_1_code 8 = .ok (.dup, 1) := by decide +kernel
theorem dG_init_9 : decode prog_1_method_1_code 9 = .ok (.invokespecial 11, 3) := by decide +kernel
theorem dG_init_12 : decode prog_1_method_1_code 12 = .ok (.putfield 12, 3) := by decide +kernel
theorem dG_init_15 : decode prog_1_method_1_code 15 = .ok (.aload_n 0, 1) := by decide +kernel
theorem dG_init_16 : decode prog_1_method_1_code 16 = .ok (.new 16, 3) := by decide +kernel
theorem dG_init_19 : decode prog_1_method_1_code 19 = .ok (.dup, 1) := by decide +kernel
theorem dG_init_20 : decode prog_1_method_1_code 20 = .ok (.invokespecial 18, 3) := by decide +kernel
theorem dG_init_23 : decode prog_1_method_1_code 23 = .ok (.putfield 19, 3) := by decide +kernel
theorem dG_init_26 : decode prog_1_method_1_code 26 = .ok (.aload_n 0, 1) := by decide +kernel
theorem dG_init_27 : decode prog_1_method_1_code 27 = .ok (.new 23, 3) := by decide +kernel
theorem dG_init_30 : decode prog_1_method_1_code 30 = .ok (.dup, 1) := by decide +kernel
theorem dG_init_31 : decode prog_1_method_1_code 31 = .ok (.invokespecial 25, 3) := by decide +kernel
theorem dG_init_34 : decode prog_1_method_1_code 34 = .ok (.putfield 26, 3) := by decide +kernel
theorem dG_init_37 : decode prog_1_method_1_code 37 = .ok (.aload_n 0, 1) := by decide +kernel
theorem dG_init_38 : decode prog_1_method_1_code 38 = .ok (.iconst 0, 1) := by decide +kernel
theorem dG_init_39 : decode prog_1_method_1_code 39 = .ok (.putfield 30, 3) := by decide +kernel
theorem dG_init_42 : decode prog_1_method_1_code 42 = .ok (.return_, 1) := by decide +kernel
theorem dG_put_0 : decode prog_1_method_2_code 0 = .ok (.iload_n 1, 1) := by decide +kernel
theorem dG_put_1 : decode prog_1_method_2_code 1 = .ok (.iconst 0, 1) := by decide +kernel
theorem dG_put_2 : decode prog_1_method_2_code 2 = .ok (.invokestatic 34, 3) := by decide +kernel
theorem dG_put_5 : decode prog_1_method_2_code 5 = .ok (.aload_n 0, 1) := by decide +kernel
theorem dG_put_6 : decode prog_1_method_2_code 6 = .ok (.invokevirtual 38, 3) := by decide +kernel
theorem dG_put_9 : decode prog_1_method_2_code 9 = .ok (.aload_n 0, 1) := by decide +kernel
theorem dG_put_10 : decode prog_1_method_2_code 10 = .ok (.getfield 26, 3) := by decide +kernel
theorem dG_put_13 : decode prog_1_method_2_code 13 = .ok (.iload_n 1, 1) := by decide +kernel
theorem dG_put_14 : decode prog_1_method_2_code 14 = .ok (.iload_n 2, 1) := by decide +kernel
theorem dG_put_15 : decode prog_1_method_2_code 15 = .ok (.i2l, 1) := by decide +kernel
theorem dG_put_16 : decode prog_1_method_2_code 16 = .ok (.invokevirtual 41, 3) := by decide +kernel
theorem dG_put_19 : decode prog_1_method_2_code 19 = .ok (.aload_n 0, 1) := by decide +kernel
theorem dG_put_20 : decode prog_1_method_2_code 20 = .ok (.iload_n 1, 1) := by decide +kernel
theorem dG_put_21 : decode prog_1_method_2_code 21 = .ok (.invokevirtual 45, 3) := by decide +kernel
theorem dG_put_24 : decode prog_1_method_2_code 24 = .ok (.ireturn, 1) := by decide +kernel
theorem dG_add_0 : decode prog_1_method_3_code 0 = .ok (.iload_n 1, 1) := by decide +kernel
theorem dG_add_1 : decode prog_1_method_3_code 1 = .ok (.iconst 2, 1) := by decide +kernel
theorem dG_add_2 : decode prog_1_method_3_code 2 = .ok (.invokestatic 34, 3) := by decide +kernel
theorem dG_add_5 : decode prog_1_method_3_code 5 = .ok (.aload_n 0, 1) := by decide +kernel
theorem dG_add_6 : decode prog_1_method_3_code 6 = .ok (.invokevirtual 38, 3) := by decide +kernel
theorem dG_add_9 : decode prog_1_method_3_code 9 = .ok (.aload_n 0, 1) := by decide +kernel
theorem dG_add_10 : decode prog_1_method_3_code 10 = .ok (.getfield 26, 3) := by decide +kernel
theorem dG_add_13 : decode prog_1_method_3_code 13 = .ok (.iload_n 1, 1) := by decide +kernel
theorem dG_add_14 : decode prog_1_method_3_code 14 = .ok (.aload_n 0, 1) := by decide +kernel
theorem dG_add_15 : decode prog_1_method_3_code 15 = .ok (.getfield 26, 3) := by decide +kernel
theorem dG_add_18 : decode prog_1_method_3_code 18 = .ok (.iload_n 1, 1) := by decide +kernel
theorem dG_add_19 : decode prog_1_method_3_code 19 = .ok (.invokevirtual 49, 3) := by decide +kernel
theorem dG_add_22 : decode prog_1_method_3_code 22 = .ok (.iload_n 2, 1) := by decide +kernel
theorem dG_add_23 : decode prog_1_method_3_code 23 = .ok (.i2l, 1) := by decide +kernel
theorem dG_add_24 : decode prog_1_method_3_code 24 = .ok (.ladd, 1) := by decide +kernel
theorem dG_add_25 : decode prog_1_method_3_code 25 = .ok (.invokevirtual 41, 3) := by decide +kernel
theorem dG_add_28 : decode prog_1_method_3_code 28 = .ok (.aload_n 0, 1) := by decide +kernel
theorem dG_add_29 : decode prog_1_method_3_code 29 = .ok (.iload_n 1, 1) := by decide +kernel
theorem dG_add_30 : decode prog_1_method_3_code 30 = .ok (.invokevirtual 45, 3) := by decide +kernel
theorem dG_add_33 : decode prog_1_method_3_code 33 = .ok (.ireturn, 1) := by decide +kernel
theorem dG_mark_0 : decode prog_1_method_4_code 0 = .ok (.iload_n 1, 1) := by decide +kernel
theorem dG_mark_1 : decode prog_1_method_4_code 1 = .ok (.iconst 4, 1) := by decide +kernel
theorem dG_mark_2 : decode prog_1_method_4_code 2 = .ok (.invokestatic 34, 3) := by decide +kernel
theorem dG_mark_5 : decode prog_1_method_4_code 5 = .ok (.iload_n 2, 1) := by decide +kernel
theorem dG_mark_6 : decode prog_1_method_4_code 6 = .ok (.ifCond .lt 9, 3) := by decide +kernel
theorem dG_mark_9 : decode prog_1_method_4_code 9 = .ok (.iload_n 2, 1) := by decide +kernel
theorem dG_mark_10 : decode prog_1_method_4_code 10 = .ok (.bipush 32, 2) := by decide +kernel
theorem dG_mark_12 : decode prog_1_method_4_code 12 = .ok (.if_icmp .lt 13, 3) := by decide +kernel
theorem dG_mark_15 : decode prog_1_method_4_code 15 = .ok (.new 53, 3) := by decide +kernel
theorem dG_mark_18 : decode prog_1_method_4_code 18 = .ok (.dup, 1) := by decide +kernel
theorem dG_mark_19 : decode prog_1_method_4_code 19 = .ok (.ldc 55, 2) := by decide +kernel
theorem dG_mark_21 : decode prog_1_method_4_code 21 = .ok (.invokespecial 57, 3) := by decide +kernel
theorem dG_mark_24 : decode prog_1_method_4_code 24 = .ok (.athrow, 1) := by decide +kernel
theorem dG_mark_25 : decode prog_1_method_4_code 25 = .ok (.lconst 1, 1) := by decide +kernel
theorem dG_mark_26 : decode prog_1_method_4_code 26 = .ok (.iload_n 2, 1) := by decide +kernel
theorem dG_mark_27 : decode prog_1_method_4_code 27 = .ok (.lshl, 1) := by decide +kernel
theorem dG_mark_28 : decode prog_1_method_4_code 28 = .ok (.lstore 4, 2) := by decide +kernel
theorem dG_mark_30 : decode prog_1_method_4_code 30 = .ok (.aload_n 0, 1) := by decide +kernel
theorem dG_mark_31 : decode prog_1_method_4_code 31 = .ok (.invokevirtual 38, 3) := by decide +kernel
theorem dG_mark_34 : decode prog_1_method_4_code 34 = .ok (.aload_n 0, 1) := by decide +kernel
theorem dG_mark_35 : decode prog_1_method_4_code 35 = .ok (.getfield 26, 3) := by decide +kernel
theorem dG_mark_38 : decode prog_1_method_4_code 38 = .ok (.iload_n 1, 1) := by decide +kernel
theorem dG_mark_39 : decode prog_1_method_4_code 39 = .ok (.iload_n 3, 1) := by decide +kernel
theorem dG_mark_40 : decode prog_1_method_4_code 40 = .ok (.ifCond .eq 17, 3) := by decide +kernel
theorem dG_mark_43 : decode prog_1_method_4_code 43 = .ok (.aload_n 0, 1) := by decide +kernel
theorem dG_mark_44 : decode prog_1_method_4_code 44 = .ok (.getfield 26, 3) := by decide +kernel
theorem dG_mark_47 : decode prog_1_method_4_code 47 = .ok (.iload_n 1, 1) := by decide +kernel
theorem dG_mark_48 : decode prog_1_method_4_code 48 = .ok (.invokevirtual 49, 3) := by decide +kernel
theorem dG_mark_51 : decode prog_1_method_4_code 51 = .ok (.lload 4, 2) := by decide +kernel
theorem dG_mark_53 : decode prog_1_method_4_code 53 = .ok (.lor, 1) := by decide +kernel
theorem dG_mark_54 : decode prog_1_method_4_code 54 = .ok (.goto 18, 3) := by decide +kernel
theorem dG_mark_57 : decode prog_1_method_4_code 57 = .ok (.aload_n 0, 1) := by decide +kernel
theorem dG_mark_58 : decode prog_1_method_4_code 58 = .ok (.getfield 26, 3) := by decide +kernel
theorem dG_mark_61 : decode prog_1_method_4_code 61 = .ok (.iload_n 1, 1) := by decide +kernel
theorem dG_mark_62 : decode prog_1_method_4_code 62 = .ok (.invokevirtual 49, 3) := by decide +kernel
theorem dG_mark_65 : decode prog_1_method_4_code 65 = .ok (.lload 4, 2) := by decide +kernel
theorem dG_mark_67 : decode prog_1_method_4_code 67 = .ok (.ldc2_w 60, 3) := by decide +kernel
theorem dG_mark_70 : decode prog_1_method_4_code 70 = .ok (.lxor, 1) := by decide +kernel
theorem dG_mark_71 : decode prog_1_method_4_code 71 = .ok (.land, 1) := by decide +kernel
theorem dG_mark_72 : decode prog_1_method_4_code 72 = .ok (.invokevirtual 41, 3) := by decide +kernel
theorem dG_mark_75 : decode prog_1_method_4_code 75 = .ok (.aload_n 0, 1) := by decide +kernel
theorem dG_mark_76 : decode prog_1_method_4_code 76 = .ok (.iload_n 1, 1) := by decide +kernel
theorem dG_mark_77 : decode prog_1_method_4_code 77 = .ok (.invokevirtual 45, 3) := by decide +kernel
theorem dG_mark_80 : decode prog_1_method_4_code 80 = .ok (.ireturn, 1) := by decide +kernel
theorem dG_insert_0 : decode prog_1_method_5_code 0 = .ok (.iload_n 1, 1) := by decide +kernel
theorem dG_insert_1 : decode prog_1_method_5_code 1 = .ok (.bipush 6, 2) := by decide +kernel
theorem dG_insert_3 : decode prog_1_method_5_code 3 = .ok (.invokestatic 34, 3) := by decide +kernel
theorem dG_insert_6 : decode prog_1_method_5_code 6 = .ok (.aload_n 0, 1) := by decide +kernel
theorem dG_insert_7 : decode prog_1_method_5_code 7 = .ok (.invokevirtual 38, 3) := by decide +kernel
theorem dG_insert_10 : decode prog_1_method_5_code 10 = .ok (.iload_n 2, 1) := by decide +kernel
theorem dG_insert_11 : decode prog_1_method_5_code 11 = .ok (.ifCond .lt 15, 3) := by decide +kernel
theorem dG_insert_14 : decode prog_1_method_5_code 14 = .ok (.iload_n 2, 1) := by decide +kernel
theorem dG_insert_15 : decode prog_1_method_5_code 15 = .ok (.aload_n 0, 1) := by decide +kernel
theorem dG_insert_16 : decode prog_1_method_5_code 16 = .ok (.getfield 26, 3) := by decide +kernel
theorem dG_insert_19 : decode prog_1_method_5_code 19 = .ok (.iload_n 1, 1) := by decide +kernel
theorem dG_insert_20 : decode prog_1_method_5_code 20 = .ok (.invokevirtual 62, 3) := by decide +kernel
theorem dG_insert_23 : decode prog_1_method_5_code 23 = .ok (.if_icmp .le 13, 3) := by decide +kernel
theorem dG_insert_26 : decode prog_1_method_5_code 26 = .ok (.new 65, 3) := by decide +kernel
theorem dG_insert_29 : decode prog_1_method_5_code 29 = .ok (.dup, 1) := by decide +kernel
theorem dG_insert_30 : decode prog_1_method_5_code 30 = .ok (.ldc 67, 2) := by decide +kernel
theorem dG_insert_32 : decode prog_1_method_5_code 32 = .ok (.invokespecial 69, 3) := by decide +kernel
theorem dG_insert_35 : decode prog_1_method_5_code 35 = .ok (.athrow, 1) := by decide +kernel
theorem dG_insert_36 : decode prog_1_method_5_code 36 = .ok (.aload_n 0, 1) := by decide +kernel
theorem dG_insert_37 : decode prog_1_method_5_code 37 = .ok (.getfield 26, 3) := by decide +kernel
theorem dG_insert_40 : decode prog_1_method_5_code 40 = .ok (.iload_n 1, 1) := by decide +kernel
theorem dG_insert_41 : decode prog_1_method_5_code 41 = .ok (.invokevirtual 62, 3) := by decide +kernel
theorem dG_insert_44 : decode prog_1_method_5_code 44 = .ok (.bipush 8, 2) := by decide +kernel
theorem dG_insert_46 : decode prog_1_method_5_code 46 = .ok (.if_icmp .ne 13, 3) := by decide +kernel
theorem dG_insert_49 : decode prog_1_method_5_code 49 = .ok (.new 70, 3) := by decide +kernel
theorem dG_insert_52 : decode prog_1_method_5_code 52 = .ok (.dup, 1) := by decide +kernel
theorem dG_insert_53 : decode prog_1_method_5_code 53 = .ok (.ldc 72, 2) := by decide +kernel
theorem dG_insert_55 : decode prog_1_method_5_code 55 = .ok (.invokespecial 74, 3) := by decide +kernel
theorem dG_insert_58 : decode prog_1_method_5_code 58 = .ok (.athrow, 1) := by decide +kernel
theorem dG_insert_59 : decode prog_1_method_5_code 59 = .ok (.aload_n 0, 1) := by decide +kernel
theorem dG_insert_60 : decode prog_1_method_5_code 60 = .ok (.getfield 26, 3) := by decide +kernel
theorem dG_insert_63 : decode prog_1_method_5_code 63 = .ok (.iload_n 1, 1) := by decide +kernel
theorem dG_insert_64 : decode prog_1_method_5_code 64 = .ok (.iload_n 2, 1) := by decide +kernel
theorem dG_insert_65 : decode prog_1_method_5_code 65 = .ok (.iload_n 3, 1) := by decide +kernel
theorem dG_insert_66 : decode prog_1_method_5_code 66 = .ok (.invokevirtual 75, 3) := by decide +kernel
theorem dG_insert_69 : decode prog_1_method_5_code 69 = .ok (.aload_n 0, 1) := by decide +kernel
theorem dG_insert_70 : decode prog_1_method_5_code 70 = .ok (.iload_n 1, 1) := by decide +kernel
theorem dG_insert_71 : decode prog_1_method_5_code 71 = .ok (.invokevirtual 45, 3) := by decide +kernel
theorem dG_insert_74 : decode prog_1_method_5_code 74 = .ok (.ireturn, 1) := by decide +kernel
theorem dG_remove_0 : decode prog_1_method_6_code 0 = .ok (.iload_n 1, 1) := by decide +kernel
theorem dG_remove_1 : decode prog_1_method_6_code 1 = .ok (.bipush 6, 2) := by decide +kernel
theorem dG_remove_3 : decode prog_1_method_6_code 3 = .ok (.invokestatic 34, 3) := by decide +kernel
theorem dG_remove_6 : decode prog_1_method_6_code 6 = .ok (.aload_n 0, 1) := by decide +kernel
theorem dG_remove_7 : decode prog_1_method_6_code 7 = .ok (.invokevirtual 38, 3) := by decide +kernel
theorem dG_remove_10 : decode prog_1_method_6_code 10 = .ok (.aload_n 0, 1) := by decide +kernel
theorem dG_remove_11 : decode prog_1_method_6_code 11 = .ok (.getfield 26, 3) := by decide +kernel
theorem dG_remove_14 : decode prog_1_method_6_code 14 = .ok (.iload_n 1, 1) := by decide +kernel
theorem dG_remove_15 : decode prog_1_method_6_code 15 = .ok (.iload_n 2, 1) := by decide +kernel
theorem dG_remove_16 : decode prog_1_method_6_code 16 = .ok (.invokevirtual 79, 3) := by decide +kernel
theorem dG_remove_19 : decode prog_1_method_6_code 19 = .ok (.ifCond .ne 13, 3) := by decide +kernel
theorem dG_remove_22 : decode prog_1_method_6_code 22 = .ok (.new 65, 3) := by decide +kernel
theorem dG_remove_25 : decode prog_1_method_6_code 25 = .ok (.dup, 1) := by decide +kernel
theorem dG_remove_26 : decode prog_1_method_6_code 26 = .ok (.ldc 83, 2) := by decide +kernel
theorem dG_remove_28 : decode prog_1_method_6_code 28 = .ok (.invokespecial 69, 3) := by decide +kernel
theorem dG_remove_31 : decode prog_1_method_6_code 31 = .ok (.athrow, 1) := by decide +kernel
theorem dG_remove_32 : decode prog_1_method_6_code 32 = .ok (.aload_n 0, 1) := by decide +kernel
theorem dG_remove_33 : decode prog_1_method_6_code 33 = .ok (.getfield 26, 3) := by decide +kernel
theorem dG_remove_36 : decode prog_1_method_6_code 36 = .ok (.iload_n 1, 1) := by decide +kernel
theorem dG_remove_37 : decode prog_1_method_6_code 37 = .ok (.iload_n 2, 1) := by decide +kernel
theorem dG_remove_38 : decode prog_1_method_6_code 38 = .ok (.invokevirtual 85, 3) := by decide +kernel
theorem dG_remove_41 : decode prog_1_method_6_code 41 = .ok (.aload_n 0, 1) := by decide +kernel
theorem dG_remove_42 : decode prog_1_method_6_code 42 = .ok (.iload_n 1, 1) := by decide +kernel
theorem dG_remove_43 : decode prog_1_method_6_code 43 = .ok (.invokevirtual 45, 3) := by decide +kernel
theorem dG_remove_46 : decode prog_1_method_6_code 46 = .ok (.ireturn, 1) := by decide +kernel
theorem dG_point_0 : decode prog_1_method_7_code 0 = .ok (.iload_n 1, 1) := by decide +kernel
theorem dG_point_1 : decode prog_1_method_7_code 1 = .ok (.invokestatic 88, 3) := by decide +kernel
theorem dG_point_4 : decode prog_1_method_7_code 4 = .ok (.iload_n 1, 1) := by decide +kernel
theorem dG_point_5 : decode prog_1_method_7_code 5 = .ok (.aload_n 0, 1) := by decide +kernel
theorem dG_point_6 : decode prog_1_method_7_code 6 = .ok (.getfield 19, 3) := by decide +kernel
theorem dG_point_9 : decode prog_1_method_7_code 9 = .ok (.invokevirtual 92, 3) := by decide +kernel
theorem dG_point_12 : decode prog_1_method_7_code 12 = .ok (.if_icmp .eq 18, 3) := by decide +kernel
theorem dG_point_15 : decode prog_1_method_7_code 15 = .ok (.aload_n 0, 1) := by decide +kernel
theorem dG_point_16 : decode prog_1_method_7_code 16 = .ok (.getfield 19, 3) := by decide +kernel
theorem dG_point_19 : decode prog_1_method_7_code 19 = .ok (.iload_n 1, 1) := by decide +kernel
theorem dG_point_20 : decode prog_1_method_7_code 20 = .ok (.aload_n 0, 1) := by decide +kernel
theorem dG_point_21 : decode prog_1_method_7_code 21 = .ok (.getfield 19, 3) := by decide +kernel
theorem dG_point_24 : decode prog_1_method_7_code 24 = .ok (.invokevirtual 96, 3) := by decide +kernel
theorem dG_point_27 : decode prog_1_method_7_code 27 = .ok (.invokevirtual 99, 3) := by decide +kernel
theorem dG_point_30 : decode prog_1_method_7_code 30 = .ok (.return_, 1) := by decide +kernel
theorem dG_turn_0 : decode prog_1_method_8_code 0 = .ok (.iload_n 1, 1) := by decide +kernel
theorem dG_turn_1 : decode prog_1_method_8_code 1 = .ok (.invokestatic 88, 3) := by decide +kernel
theorem dG_turn_4 : decode prog_1_method_8_code 4 = .ok (.aload_n 0, 1) := by decide +kernel
theorem dG_turn_5 : decode prog_1_method_8_code 5 = .ok (.getfield 19, 3) := by decide +kernel
theorem dG_turn_8 : decode prog_1_method_8_code 8 = .ok (.iload_n 1, 1) := by decide +kernel
theorem dG_turn_9 : decode prog_1_method_8_code 9 = .ok (.invokevirtual 102, 3) := by decide +kernel
theorem dG_turn_12 : decode prog_1_method_8_code 12 = .ok (.aload_n 0, 1) := by decide +kernel
theorem dG_turn_13 : decode prog_1_method_8_code 13 = .ok (.getfield 19, 3) := by decide +kernel
theorem dG_turn_16 : decode prog_1_method_8_code 16 = .ok (.invokevirtual 96, 3) := by decide +kernel
theorem dG_turn_19 : decode prog_1_method_8_code 19 = .ok (.ireturn, 1) := by decide +kernel
theorem dG_go_0 : decode prog_1_method_9_code 0 = .ok (.aload_n 0, 1) := by decide +kernel
theorem dG_go_1 : decode prog_1_method_9_code 1 = .ok (.iload_n 1, 1) := by decide +kernel
theorem dG_go_2 : decode prog_1_method_9_code 2 = .ok (.invokevirtual 105, 3) := by decide +kernel
theorem dG_go_5 : decode prog_1_method_9_code 5 = .ok (.aload_n 0, 1) := by decide +kernel
theorem dG_go_6 : decode prog_1_method_9_code 6 = .ok (.getfield 19, 3) := by decide +kernel
theorem dG_go_9 : decode prog_1_method_9_code 9 = .ok (.iload_n 1, 1) := by decide +kernel
theorem dG_go_10 : decode prog_1_method_9_code 10 = .ok (.invokevirtual 108, 3) := by decide +kernel
theorem dG_go_13 : decode prog_1_method_9_code 13 = .ok (.return_, 1) := by decide +kernel
theorem dG_undo_0 : decode prog_1_method_10_code 0 = .ok (.aload_n 0, 1) := by decide +kernel
theorem dG_undo_1 : decode prog_1_method_10_code 1 = .ok (.getfield 12, 3) := by decide +kernel
theorem dG_undo_4 : decode prog_1_method_10_code 4 = .ok (.aload_n 0, 1) := by decide +kernel
theorem dG_undo_5 : decode prog_1_method_10_code 5 = .ok (.getfield 19, 3) := by decide +kernel
theorem dG_undo_8 : decode prog_1_method_10_code 8 = .ok (.invokevirtual 96, 3) := by decide +kernel
theorem dG_undo_11 : decode prog_1_method_10_code 11 = .ok (.invokevirtual 111, 3) := by decide +kernel
theorem dG_undo_14 : decode prog_1_method_10_code 14 = .ok (.istore_n 1, 1) := by decide +kernel
theorem dG_undo_15 : decode prog_1_method_10_code 15 = .ok (.iload_n 1, 1) := by decide +kernel
theorem dG_undo_16 : decode prog_1_method_10_code 16 = .ok (.iconst (-1), 1) := by decide +kernel
theorem dG_undo_17 : decode prog_1_method_10_code 17 = .ok (.if_icmp .ne 13, 3) := by decide +kernel
theorem dG_undo_20 : decode prog_1_method_10_code 20 = .ok (.new 114, 3) := by decide +kernel
theorem dG_undo_23 : decode prog_1_method_10_code 23 = .ok (.dup, 1) := by decide +kernel
theorem dG_undo_24 : decode prog_1_method_10_code 24 = .ok (.ldc 116, 2) := by decide +kernel
theorem dG_undo_26 : decode prog_1_method_10_code 26 = .ok (.invokespecial 118, 3) := by decide +kernel
theorem dG_undo_29 : decode prog_1_method_10_code 29 = .ok (.athrow, 1) := by decide +kernel
theorem dG_undo_30 : decode prog_1_method_10_code 30 = .ok (.aload_n 0, 1) := by decide +kernel
theorem dG_undo_31 : decode prog_1_method_10_code 31 = .ok (.getfield 19, 3) := by decide +kernel
theorem dG_undo_34 : decode prog_1_method_10_code 34 = .ok (.iload_n 1, 1) := by decide +kernel
theorem dG_undo_35 : decode prog_1_method_10_code 35 = .ok (.invokevirtual 119, 3) := by decide +kernel
theorem dG_undo_38 : decode prog_1_method_10_code 38 = .ok (.iload_n 1, 1) := by decide +kernel
theorem dG_undo_39 : decode prog_1_method_10_code 39 = .ok (.ireturn, 1) := by decide +kernel
theorem dG_redo_0 : decode prog_1_method_11_code 0 = .ok (.aload_n 0, 1) := by decide +kernel
theorem dG_redo_1 : decode prog_1_method_11_code 1 = .ok (.getfield 19, 3) := by decide +kernel
theorem dG_redo_4 : decode prog_1_method_11_code 4 = .ok (.invokevirtual 122, 3) := by decide +kernel
theorem dG_redo_7 : decode prog_1_method_11_code 7 = .ok (.ifCond .ne 13, 3) := by decide +kernel
theorem dG_redo_10 : decode prog_1_method_11_code 10 = .ok (.new 114, 3) := by decide +kernel
theorem dG_redo_13 : decode prog_1_method_11_code 13 = .ok (.dup, 1) := by decide +kernel
theorem dG_redo_14 : decode prog_1_method_11_code 14 = .ok (.ldc 125, 2) := by decide +kernel
theorem dG_redo_16 : decode prog_1_method_11_code 16 = .ok (.invokespecial 118, 3) := by decide +kernel
theorem dG_redo_19 : decode prog_1_method_11_code 19 = .ok (.athrow, 1) := by decide +kernel
theorem dG_redo_20 : decode prog_1_method_11_code 20 = .ok (.aload_n 0, 1) := by decide +kernel
theorem dG_redo_21 : decode prog_1_method_11_code 21 = .ok (.getfield 19, 3) := by decide +kernel
theorem dG_redo_24 : decode prog_1_method_11_code 24 = .ok (.invokevirtual 127, 3) := by decide +kernel
theorem dG_redo_27 : decode prog_1_method_11_code 27 = .ok (.aload_n 0, 1) := by decide +kernel
theorem dG_redo_28 : decode prog_1_method_11_code 28 = .ok (.getfield 19, 3) := by decide +kernel
theorem dG_redo_31 : decode prog_1_method_11_code 31 = .ok (.invokevirtual 96, 3) := by decide +kernel
theorem dG_redo_34 : decode prog_1_method_11_code 34 = .ok (.ireturn, 1) := by decide +kernel
theorem dG_merge_0 : decode prog_1_method_12_code 0 = .ok (.aload_n 0, 1) := by decide +kernel
theorem dG_merge_1 : decode prog_1_method_12_code 1 = .ok (.iconst 0, 1) := by decide +kernel
theorem dG_merge_2 : decode prog_1_method_12_code 2 = .ok (.putfield 30, 3) := by decide +kernel
theorem dG_merge_5 : decode prog_1_method_12_code 5 = .ok (.iload_n 1, 1) := by decide +kernel
theorem dG_merge_6 : decode prog_1_method_12_code 6 = .ok (.invokestatic 88, 3) := by decide +kernel
theorem dG_merge_9 : decode prog_1_method_12_code 9 = .ok (.iload_n 2, 1) := by decide +kernel
theorem dG_merge_10 : decode prog_1_method_12_code 10 = .ok (.ifCond .lt 8, 3) := by decide +kernel
theorem dG_merge_13 : decode prog_1_method_12_code 13 = .ok (.iload_n 2, 1) := by decide +kernel
theorem dG_merge_14 : decode prog_1_method_12_code 14 = .ok (.iconst 2, 1) := by decide +kernel
theorem dG_merge_15 : decode prog_1_method_12_code 15 = .ok (.if_icmp .le 13, 3) := by decide +kernel
theorem dG_merge_18 : decode prog_1_method_12_code 18 = .ok (.new 53, 3) := by decide +kernel
theorem dG_merge_21 : decode prog_1_method_12_code 21 = .ok (.dup, 1) := by decide +kernel
theorem dG_merge_22 : decode prog_1_method_12_code 22 = .ok (.ldc 130, 2) := by decide +kernel
theorem dG_merge_24 : decode prog_1_method_12_code 24 = .ok (.invokespecial 57, 3) := by decide +kernel
theorem dG_merge_27 : decode prog_1_method_12_code 27 = .ok (.athrow, 1) := by decide +kernel
theorem dG_merge_28 : decode prog_1_method_12_code 28 = .ok (.aload_n 0, 1) := by decide +kernel
theorem dG_merge_29 : decode prog_1_method_12_code 29 = .ok (.getfield 19, 3) := by decide +kernel
theorem dG_merge_32 : decode prog_1_method_12_code 32 = .ok (.invokevirtual 96, 3) := by decide +kernel
theorem dG_merge_35 : decode prog_1_method_12_code 35 = .ok (.istore_n 3, 1) := by decide +kernel
theorem dG_merge_36 : decode prog_1_method_12_code 36 = .ok (.aload_n 0, 1) := by decide +kernel
theorem dG_merge_37 : decode prog_1_method_12_code 37 = .ok (.getfield 19, 3) := by decide +kernel
theorem dG_merge_40 : decode prog_1_method_12_code 40 = .ok (.iload_n 1, 1) := by decide +kernel
theorem dG_merge_41 : decode prog_1_method_12_code 41 = .ok (.invokevirtual 132, 3) := by decide +kernel
theorem dG_merge_44 : decode prog_1_method_12_code 44 = .ok (.istore 4, 2) := by decide +kernel
theorem dG_merge_46 : decode prog_1_method_12_code 46 = .ok (.aload_n 0, 1) := by decide +kernel
theorem dG_merge_47 : decode prog_1_method_12_code 47 = .ok (.getfield 12, 3) := by decide +kernel
theorem dG_merge_50 : decode prog_1_method_12_code 50 = .ok (.iload 4, 2) := by decide +kernel
theorem dG_merge_52 : decode prog_1_method_12_code 52 = .ok (.iload_n 3, 1) := by decide +kernel
theorem dG_merge_53 : decode prog_1_method_12_code 53 = .ok (.invokevirtual 135, 3) := by decide +kernel
theorem dG_merge_56 : decode prog_1_method_12_code 56 = .ok (.ifCond .eq 5, 3) := by decide +kernel
theorem dG_merge_59 : decode prog_1_method_12_code 59 = .ok (.iconst 0, 1) := by decide +kernel
theorem dG_merge_60 : decode prog_1_method_12_code 60 = .ok (.ireturn, 1) := by decide +kernel
theorem dG_merge_61 : decode prog_1_method_12_code 61 = .ok (.aload_n 0, 1) := by decide +kernel
theorem dG_merge_62 : decode prog_1_method_12_code 62 = .ok (.getfield 12, 3) := by decide +kernel
theorem dG_merge_65 : decode prog_1_method_12_code 65 = .ok (.iload_n 3, 1) := by decide +kernel
theorem dG_merge_66 : decode prog_1_method_12_code 66 = .ok (.iload 4, 2) := by decide +kernel
theorem dG_merge_68 : decode prog_1_method_12_code 68 = .ok (.invokevirtual 135, 3) := by decide +kernel
theorem dG_merge_71 : decode prog_1_method_12_code 71 = .ok (.ifCond .eq 14, 3) := by decide +kernel
theorem dG_merge_74 : decode prog_1_method_12_code 74 = .ok (.aload_n 0, 1) := by decide +kernel
theorem dG_merge_75 : decode prog_1_method_12_code 75 = .ok (.getfield 19, 3) := by decide +kernel
theorem dG_merge_78 : decode prog_1_method_12_code 78 = .ok (.iload 4, 2) := by decide +kernel
theorem dG_merge_80 : decode prog_1_method_12_code 80 = .ok (.invokevirtual 108, 3) := by decide +kernel
theorem dG_merge_83 : decode prog_1_method_12_code 83 = .ok (.iconst 1, 1) := by decide +kernel
theorem dG_merge_84 : decode prog_1_method_12_code 84 = .ok (.ireturn, 1) := by decide +kernel
theorem dG_merge_85 : decode prog_1_method_12_code 85 = .ok (.aload_n 0, 1) := by decide +kernel
theorem dG_merge_86 : decode prog_1_method_12_code 86 = .ok (.aload_n 0, 1) := by decide +kernel
theorem dG_merge_87 : decode prog_1_method_12_code 87 = .ok (.iload_n 3, 1) := by decide +kernel
theorem dG_merge_88 : decode prog_1_method_12_code 88 = .ok (.iload 4, 2) := by decide +kernel
theorem dG_merge_90 : decode prog_1_method_12_code 90 = .ok (.iload_n 2, 1) := by decide +kernel
theorem dG_merge_91 : decode prog_1_method_12_code 91 = .ok (.invokevirtual 138, 3) := by decide +kernel
theorem dG_merge_94 : decode prog_1_method_12_code 94 = .ok (.putfield 30, 3) := by decide +kernel
theorem dG_merge_97 : decode prog_1_method_12_code 97 = .ok (.aload_n 0, 1) := by decide +kernel
theorem dG_merge_98 : decode prog_1_method_12_code 98 = .ok (.getfield 30, 3) := by decide +kernel
theorem dG_merge_101 : decode prog_1_method_12_code 101 = .ok (.ifCond .eq 17, 3) := by decide +kernel
theorem dG_merge_104 : decode prog_1_method_12_code 104 = .ok (.iload_n 2, 1) := by decide +kernel
theorem dG_merge_105 : decode prog_1_method_12_code 105 = .ok (.ifCond .ne 13, 3) := by decide +kernel
theorem dG_merge_108 : decode prog_1_method_12_code 108 = .ok (.new 70, 3) := by decide +kernel
theorem dG_merge_111 : decode prog_1_method_12_code 111 = .ok (.dup, 1) := by decide +kernel
theorem dG_merge_112 : decode prog_1_method_12_code 112 = .ok (.ldc 142, 2) := by decide +kernel
theorem dG_merge_114 : decode prog_1_method_12_code 114 = .ok (.invokespecial 74, 3) := by decide +kernel
theorem dG_merge_117 : decode prog_1_method_12_code 117 = .ok (.athrow, 1) := by decide +kernel
theorem dG_merge_118 : decode prog_1_method_12_code 118 = .ok (.aload_n 0, 1) := by decide +kernel
theorem dG_merge_119 : decode prog_1_method_12_code 119 = .ok (.iload 4, 2) := by decide +kernel
theorem dG_merge_121 : decode prog_1_method_12_code 121 = .ok (.invokevirtual 144, 3) := by decide +kernel
theorem dG_merge_124 : decode prog_1_method_12_code 124 = .ok (.iconst 2, 1) := by decide +kernel
theorem dG_merge_125 : decode prog_1_method_12_code 125 = .ok (.ireturn, 1) := by decide +kernel
theorem dG_conflicts_0 : decode prog_1_method_13_code 0 = .ok (.aload_n 0, 1) := by decide +kernel
theorem dG_conflicts_1 : decode prog_1_method_13_code 1 = .ok (.getfield 30, 3) := by decide +kernel
theorem dG_conflicts_4 : decode prog_1_method_13_code 4 = .ok (.ireturn, 1) := by decide +kernel
theorem dG_base_0 : decode prog_1_method_14_code 0 = .ok (.iload_n 1, 1) := by decide +kernel
theorem dG_base_1 : decode prog_1_method_14_code 1 = .ok (.invokestatic 88, 3) := by decide +kernel
theorem dG_base_4 : decode prog_1_method_14_code 4 = .ok (.aload_n 0, 1) := by decide +kernel
theorem dG_base_5 : decode prog_1_method_14_code 5 = .ok (.getfield 12, 3) := by decide +kernel
theorem dG_base_8 : decode prog_1_method_14_code 8 = .ok (.aload_n 0, 1) := by decide +kernel
theorem dG_base_9 : decode prog_1_method_14_code 9 = .ok (.getfield 19, 3) := by decide +kernel
theorem dG_base_12 : decode prog_1_method_14_code 12 = .ok (.invokevirtual 96, 3) := by decide +kernel
theorem dG_base_15 : decode prog_1_method_14_code 15 = .ok (.aload_n 0, 1) := by decide +kernel
theorem dG_base_16 : decode prog_1_method_14_code 16 = .ok (.getfield 19, 3) := by decide +kernel
theorem dG_base_19 : decode prog_1_method_14_code 19 = .ok (.iload_n 1, 1) := by decide +kernel
theorem dG_base_20 : decode prog_1_method_14_code 20 = .ok (.invokevirtual 132, 3) := by decide +kernel
theorem dG_base_23 : decode prog_1_method_14_code 23 = .ok (.invokevirtual 147, 3) := by decide +kernel
theorem dG_base_26 : decode prog_1_method_14_code 26 = .ok (.ireturn, 1) := by decide +kernel
theorem dG_value_0 : decode prog_1_method_15_code 0 = .ok (.aload_n 0, 1) := by decide +kernel
theorem dG_value_1 : decode prog_1_method_15_code 1 = .ok (.iload_n 1, 1) := by decide +kernel
theorem dG_value_2 : decode prog_1_method_15_code 2 = .ok (.invokevirtual 105, 3) := by decide +kernel
theorem dG_value_5 : decode prog_1_method_15_code 5 = .ok (.iload_n 2, 1) := by decide +kernel
theorem dG_value_6 : decode prog_1_method_15_code 6 = .ok (.ifCond .lt 9, 3) := by decide +kernel
theorem dG_value_9 : decode prog_1_method_15_code 9 = .ok (.iload_n 2, 1) := by decide +kernel
theorem dG_value_10 : decode prog_1_method_15_code 10 = .ok (.bipush 8, 2) := by decide +kernel
theorem dG_value_12 : decode prog_1_method_15_code 12 = .ok (.if_icmp .lt 13, 3) := by decide +kernel
theorem dG_value_15 : decode prog_1_method_15_code 15 = .ok (.new 53, 3) := by decide +kernel
theorem dG_value_18 : decode prog_1_method_15_code 18 = .ok (.dup, 1) := by decide +kernel
theorem dG_value_19 : decode prog_1_method_15_code 19 = .ok (.ldc 151, 2) := by decide +kernel
theorem dG_value_21 : decode prog_1_method_15_code 21 = .ok (.invokespecial 57, 3) := by decide +kernel
theorem dG_value_24 : decode prog_1_method_15_code 24 = .ok (.athrow, 1) := by decide +kernel
theorem dG_value_25 : decode prog_1_method_15_code 25 = .ok (.aload_n 0, 1) := by decide +kernel
theorem dG_value_26 : decode prog_1_method_15_code 26 = .ok (.getfield 12, 3) := by decide +kernel
theorem dG_value_29 : decode prog_1_method_15_code 29 = .ok (.iload_n 1, 1) := by decide +kernel
theorem dG_value_30 : decode prog_1_method_15_code 30 = .ok (.invokevirtual 153, 3) := by decide +kernel
theorem dG_value_33 : decode prog_1_method_15_code 33 = .ok (.astore 4, 2) := by decide +kernel
theorem dG_value_35 : decode prog_1_method_15_code 35 = .ok (.iload_n 2, 1) := by decide +kernel
theorem dG_value_36 : decode prog_1_method_15_code 36 = .ok (.bipush 6, 2) := by decide +kernel
theorem dG_value_38 : decode prog_1_method_15_code 38 = .ok (.if_icmp .ge 10, 3) := by decide +kernel
theorem dG_value_41 : decode prog_1_method_15_code 41 = .ok (.aload 4, 2) := by decide +kernel
theorem dG_value_43 : decode prog_1_method_15_code 43 = .ok (.iload_n 2, 1) := by decide +kernel
theorem dG_value_44 : decode prog_1_method_15_code 44 = .ok (.invokevirtual 49, 3) := by decide +kernel
theorem dG_value_47 : decode prog_1_method_15_code 47 = .ok (.lreturn, 1) := by decide +kernel
theorem dG_value_48 : decode prog_1_method_15_code 48 = .ok (.iload_n 3, 1) := by decide +kernel
theorem dG_value_49 : decode prog_1_method_15_code 49 = .ok (.iconst (-1), 1) := by decide +kernel
theorem dG_value_50 : decode prog_1_method_15_code 50 = .ok (.if_icmp .ne 11, 3) := by decide +kernel
theorem dG_value_53 : decode prog_1_method_15_code 53 = .ok (.aload 4, 2) := by decide +kernel
theorem dG_value_55 : decode prog_1_method_15_code 55 = .ok (.iload_n 2, 1) := by decide +kernel
theorem dG_value_56 : decode prog_1_method_15_code 56 = .ok (.invokevirtual 62, 3) := by decide +kernel
theorem dG_value_59 : decode prog_1_method_15_code 59 = .ok (.i2l, 1) := by decide +kernel
theorem dG_value_60 : decode prog_1_method_15_code 60 = .ok (.lreturn, 1) := by decide +kernel
theorem dG_value_61 : decode prog_1_method_15_code 61 = .ok (.aload 4, 2) := by decide +kernel
theorem dG_value_63 : decode prog_1_method_15_code 63 = .ok (.iload_n 2, 1) := by decide +kernel
theorem dG_value_64 : decode prog_1_method_15_code 64 = .ok (.iload_n 3, 1) := by decide +kernel
theorem dG_value_65 : decode prog_1_method_15_code 65 = .ok (.invokevirtual 79, 3) := by decide +kernel
theorem dG_value_68 : decode prog_1_method_15_code 68 = .ok (.ifCond .ne 13, 3) := by decide +kernel
theorem dG_value_71 : decode prog_1_method_15_code 71 = .ok (.new 65, 3) := by decide +kernel
theorem dG_value_74 : decode prog_1_method_15_code 74 = .ok (.dup, 1) := by decide +kernel
theorem dG_value_75 : decode prog_1_method_15_code 75 = .ok (.ldc 83, 2) := by decide +kernel
theorem dG_value_77 : decode prog_1_method_15_code 77 = .ok (.invokespecial 69, 3) := by decide +kernel
theorem dG_value_80 : decode prog_1_method_15_code 80 = .ok (.athrow, 1) := by decide +kernel
theorem dG_value_81 : decode prog_1_method_15_code 81 = .ok (.aload 4, 2) := by decide +kernel
theorem dG_value_83 : decode prog_1_method_15_code 83 = .ok (.iload_n 2, 1) := by decide +kernel
theorem dG_value_84 : decode prog_1_method_15_code 84 = .ok (.iload_n 3, 1) := by decide +kernel
theorem dG_value_85 : decode prog_1_method_15_code 85 = .ok (.invokevirtual 157, 3) := by decide +kernel
theorem dG_value_88 : decode prog_1_method_15_code 88 = .ok (.lreturn, 1) := by decide +kernel
theorem dG_differ_0 : decode prog_1_method_16_code 0 = .ok (.aload_n 0, 1) := by decide +kernel
theorem dG_differ_1 : decode prog_1_method_16_code 1 = .ok (.iload_n 1, 1) := by decide +kernel
theorem dG_differ_2 : decode prog_1_method_16_code 2 = .ok (.invokevirtual 105, 3) := by decide +kernel
theorem dG_differ_5 : decode prog_1_method_16_code 5 = .ok (.aload_n 0, 1) := by decide +kernel
theorem dG_differ_6 : decode prog_1_method_16_code 6 = .ok (.iload_n 2, 1) := by decide +kernel
theorem dG_differ_7 : decode prog_1_method_16_code 7 = .ok (.invokevirtual 105, 3) := by decide +kernel
theorem dG_differ_10 : decode prog_1_method_16_code 10 = .ok (.aload_n 0, 1) := by decide +kernel
theorem dG_differ_11 : decode prog_1_method_16_code 11 = .ok (.getfield 12, 3) := by decide +kernel
theorem dG_differ_14 : decode prog_1_method_16_code 14 = .ok (.iload_n 1, 1) := by decide +kernel
theorem dG_differ_15 : decode prog_1_method_16_code 15 = .ok (.invokevirtual 153, 3) := by decide +kernel
theorem dG_differ_18 : decode prog_1_method_16_code 18 = .ok (.astore_n 3, 1) := by decide +kernel
theorem dG_differ_19 : decode prog_1_method_16_code 19 = .ok (.aload_n 0, 1) := by decide +kernel
theorem dG_differ_20 : decode prog_1_method_16_code 20 = .ok (.getfield 12, 3) := by decide +kernel
theorem dG_differ_23 : decode prog_1_method_16_code 23 = .ok (.iload_n 2, 1) := by decide +kernel
theorem dG_differ_24 : decode prog_1_method_16_code 24 = .ok (.invokevirtual 153, 3) := by decide +kernel
theorem dG_differ_27 : decode prog_1_method_16_code 27 = .ok (.astore 4, 2) := by decide +kernel
theorem dG_differ_29 : decode prog_1_method_16_code 29 = .ok (.iconst 0, 1) := by decide +kernel
theorem dG_differ_30 : decode prog_1_method_16_code 30 = .ok (.istore 5, 2) := by decide +kernel
theorem dG_differ_32 : decode prog_1_method_16_code 32 = .ok (.iconst 0, 1) := by decide +kernel
theorem dG_differ_33 : decode prog_1_method_16_code 33 = .ok (.istore 6, 2) := by decide +kernel
theorem dG_differ_35 : decode prog_1_method_16_code 35 = .ok (.iload 6, 2) := by decide +kernel
theorem dG_differ_37 : decode prog_1_method_16_code 37 = .ok (.bipush 8, 2) := by decide +kernel
theorem dG_differ_39 : decode prog_1_method_16_code 39 = .ok (.if_icmp .ge 29, 3) := by decide +kernel
theorem dG_differ_42 : decode prog_1_method_16_code 42 = .ok (.aload_n 3, 1) := by decide +kernel
theorem dG_differ_43 : decode prog_1_method_16_code 43 = .ok (.aload 4, 2) := by decide +kernel
theorem dG_differ_45 : decode prog_1_method_16_code 45 = .ok (.iload 6, 2) := by decide +kernel
theorem dG_differ_47 : decode prog_1_method_16_code 47 = .ok (.invokevirtual 161, 3) := by decide +kernel
theorem dG_differ_50 : decode prog_1_method_16_code 50 = .ok (.ifCond .ne 12, 3) := by decide +kernel
theorem dG_differ_53 : decode prog_1_method_16_code 53 = .ok (.iload 5, 2) := by decide +kernel
theorem dG_differ_55 : decode prog_1_method_16_code 55 = .ok (.iconst 1, 1) := by decide +kernel
theorem dG_differ_56 : decode prog_1_method_16_code 56 = .ok (.iload 6, 2) := by decide +kernel
theorem dG_differ_58 : decode prog_1_method_16_code 58 = .ok (.ishl, 1) := by decide +kernel
theorem dG_differ_59 : decode prog_1_method_16_code 59 = .ok (.ior, 1) := by decide +kernel
theorem dG_differ_60 : decode prog_1_method_16_code 60 = .ok (.istore 5, 2) := by decide +kernel
theorem dG_differ_62 : decode prog_1_method_16_code 62 = .ok (.iinc 6 1, 3) := by decide +kernel
theorem dG_differ_65 : decode prog_1_method_16_code 65 = .ok (.goto (-30), 3) := by decide +kernel
theorem dG_differ_68 : decode prog_1_method_16_code 68 = .ok (.iload 5, 2) := by decide +kernel
theorem dG_differ_70 : decode prog_1_method_16_code 70 = .ok (.ireturn, 1) := by decide +kernel
theorem dG_parent_0 : decode prog_1_method_17_code 0 = .ok (.aload_n 0, 1) := by decide +kernel
theorem dG_parent_1 : decode prog_1_method_17_code 1 = .ok (.iload_n 1, 1) := by decide +kernel
theorem dG_parent_2 : decode prog_1_method_17_code 2 = .ok (.invokevirtual 105, 3) := by decide +kernel
theorem dG_parent_5 : decode prog_1_method_17_code 5 = .ok (.iload_n 2, 1) := by decide +kernel
theorem dG_parent_6 : decode prog_1_method_17_code 6 = .ok (.ifCond .eq 14, 3) := by decide +kernel
theorem dG_parent_9 : decode prog_1_method_17_code 9 = .ok (.aload_n 0, 1) := by decide +kernel
theorem dG_parent_10 : decode prog_1_method_17_code 10 = .ok (.getfield 12, 3) := by decide +kernel
theorem dG_parent_13 : decode prog_1_method_17_code 13 = .ok (.iload_n 1, 1) := by decide +kernel
theorem dG_parent_14 : decode prog_1_method_17_code 14 = .ok (.invokevirtual 165, 3) := by decide +kernel
theorem dG_parent_17 : decode prog_1_method_17_code 17 = .ok (.goto 11, 3) := by decide +kernel
theorem dG_parent_20 : decode prog_1_method_17_code 20 = .ok (.aload_n 0, 1) := by decide +kernel
theorem dG_parent_21 : decode prog_1_method_17_code 21 = .ok (.getfield 12, 3) := by decide +kernel
theorem dG_parent_24 : decode prog_1_method_17_code 24 = .ok (.iload_n 1, 1) := by decide +kernel
theorem dG_parent_25 : decode prog_1_method_17_code 25 = .ok (.invokevirtual 111, 3) := by decide +kernel
theorem dG_parent_28 : decode prog_1_method_17_code 28 = .ok (.ireturn, 1) := by decide +kernel
theorem dG_prune_0 : decode prog_1_method_18_code 0 = .ok (.aload_n 0, 1) := by decide +kernel
theorem dG_prune_1 : decode prog_1_method_18_code 1 = .ok (.getfield 12, 3) := by decide +kernel
theorem dG_prune_4 : decode prog_1_method_18_code 4 = .ok (.invokevirtual 168, 3) := by decide +kernel
theorem dG_prune_7 : decode prog_1_method_18_code 7 = .ok (.istore_n 1, 1) := by decide +kernel
theorem dG_prune_8 : decode prog_1_method_18_code 8 = .ok (.aload_n 0, 1) := by decide +kernel
theorem dG_prune_9 : decode prog_1_method_18_code 9 = .ok (.getfield 12, 3) := by decide +kernel
theorem dG_prune_12 : decode prog_1_method_18_code 12 = .ok (.aload_n 0, 1) := by decide +kernel
theorem dG_prune_13 : decode prog_1_method_18_code 13 = .ok (.getfield 19, 3) := by decide +kernel
theorem dG_prune_16 : decode prog_1_method_18_code 16 = .ok (.aload_n 0, 1) := by decide +kernel
theorem dG_prune_17 : decode prog_1_method_18_code 17 = .ok (.getfield 12, 3) := by decide +kernel
theorem dG_prune_20 : decode prog_1_method_18_code 20 = .ok (.invokevirtual 171, 3) := by decide +kernel
theorem dG_prune_23 : decode prog_1_method_18_code 23 = .ok (.invokevirtual 175, 3) := by decide +kernel
theorem dG_prune_26 : decode prog_1_method_18_code 26 = .ok (.aload_n 0, 1) := by decide +kernel
theorem dG_prune_27 : decode prog_1_method_18_code 27 = .ok (.getfield 19, 3) := by decide +kernel
theorem dG_prune_30 : decode prog_1_method_18_code 30 = .ok (.aload_n 0, 1) := by decide +kernel
theorem dG_prune_31 : decode prog_1_method_18_code 31 = .ok (.getfield 12, 3) := by decide +kernel
theorem dG_prune_34 : decode prog_1_method_18_code 34 = .ok (.invokevirtual 179, 3) := by decide +kernel
theorem dG_prune_37 : decode prog_1_method_18_code 37 = .ok (.iload_n 1, 1) := by decide +kernel
theorem dG_prune_38 : decode prog_1_method_18_code 38 = .ok (.aload_n 0, 1) := by decide +kernel
theorem dG_prune_39 : decode prog_1_method_18_code 39 = .ok (.getfield 12, 3) := by decide +kernel
theorem dG_prune_42 : decode prog_1_method_18_code 42 = .ok (.invokevirtual 168, 3) := by decide +kernel
theorem dG_prune_45 : decode prog_1_method_18_code 45 = .ok (.isub, 1) := by decide +kernel
theorem dG_prune_46 : decode prog_1_method_18_code 46 = .ok (.ireturn, 1) := by decide +kernel
theorem dG_figure_0 : decode prog_1_method_19_code 0 = .ok (.iload_n 1, 1) := by decide +kernel
theorem dG_figure_1 : decode prog_1_method_19_code 1 = .ok (.tableswitch 90 0 7 #[47, 55, 63, 71, 79, 79, 79, 79], 47) := by decide +kernel
theorem dG_figure_48 : decode prog_1_method_19_code 48 = .ok (.aload_n 0, 1) := by decide +kernel
theorem dG_figure_49 : decode prog_1_method_19_code 49 = .ok (.getfield 19, 3) := by decide +kernel
theorem dG_figure_52 : decode prog_1_method_19_code 52 = .ok (.invokevirtual 96, 3) := by decide +kernel
theorem dG_figure_55 : decode prog_1_method_19_code 55 = .ok (.ireturn, 1) := by decide +kernel
theorem dG_figure_56 : decode prog_1_method_19_code 56 = .ok (.aload_n 0, 1) := by decide +kernel
theorem dG_figure_57 : decode prog_1_method_19_code 57 = .ok (.getfield 12, 3) := by decide +kernel
theorem dG_figure_60 : decode prog_1_method_19_code 60 = .ok (.invokevirtual 168, 3) := by decide +kernel
theorem dG_figure_63 : decode prog_1_method_19_code 63 = .ok (.ireturn, 1) := by decide +kernel
theorem dG_figure_64 : decode prog_1_method_19_code 64 = .ok (.aload_n 0, 1) := by decide +kernel
theorem dG_figure_65 : decode prog_1_method_19_code 65 = .ok (.getfield 19, 3) := by decide +kernel
theorem dG_figure_68 : decode prog_1_method_19_code 68 = .ok (.invokevirtual 92, 3) := by decide +kernel
theorem dG_figure_71 : decode prog_1_method_19_code 71 = .ok (.ireturn, 1) := by decide +kernel
theorem dG_figure_72 : decode prog_1_method_19_code 72 = .ok (.aload_n 0, 1) := by decide +kernel
theorem dG_figure_73 : decode prog_1_method_19_code 73 = .ok (.getfield 19, 3) := by decide +kernel
theorem dG_figure_76 : decode prog_1_method_19_code 76 = .ok (.invokevirtual 122, 3) := by decide +kernel
theorem dG_figure_79 : decode prog_1_method_19_code 79 = .ok (.ireturn, 1) := by decide +kernel
theorem dG_figure_80 : decode prog_1_method_19_code 80 = .ok (.aload_n 0, 1) := by decide +kernel
theorem dG_figure_81 : decode prog_1_method_19_code 81 = .ok (.getfield 19, 3) := by decide +kernel
theorem dG_figure_84 : decode prog_1_method_19_code 84 = .ok (.iload_n 1, 1) := by decide +kernel
theorem dG_figure_85 : decode prog_1_method_19_code 85 = .ok (.iconst 4, 1) := by decide +kernel
theorem dG_figure_86 : decode prog_1_method_19_code 86 = .ok (.isub, 1) := by decide +kernel
theorem dG_figure_87 : decode prog_1_method_19_code 87 = .ok (.invokevirtual 132, 3) := by decide +kernel
theorem dG_figure_90 : decode prog_1_method_19_code 90 = .ok (.ireturn, 1) := by decide +kernel
theorem dG_figure_91 : decode prog_1_method_19_code 91 = .ok (.new 53, 3) := by decide +kernel
theorem dG_figure_94 : decode prog_1_method_19_code 94 = .ok (.dup, 1) := by decide +kernel
theorem dG_figure_95 : decode prog_1_method_19_code 95 = .ok (.ldc 183, 2) := by decide +kernel
theorem dG_figure_97 : decode prog_1_method_19_code 97 = .ok (.invokespecial 57, 3) := by decide +kernel
theorem dG_figure_100 : decode prog_1_method_19_code 100 = .ok (.athrow, 1) := by decide +kernel
theorem dG_requireKind_0 : decode prog_1_method_20_code 0 = .ok (.iload_n 0, 1) := by decide +kernel
theorem dG_requireKind_1 : decode prog_1_method_20_code 1 = .ok (.iload_n 1, 1) := by decide +kernel
theorem dG_requireKind_2 : decode prog_1_method_20_code 2 = .ok (.if_icmp .eq 20, 3) := by decide +kernel
theorem dG_requireKind_5 : decode prog_1_method_20_code 5 = .ok (.iload_n 0, 1) := by decide +kernel
theorem dG_requireKind_6 : decode prog_1_method_20_code 6 = .ok (.iload_n 1, 1) := by decide +kernel
theorem dG_requireKind_7 : decode prog_1_method_20_code 7 = .ok (.iconst 1, 1) := by decide +kernel
theorem dG_requireKind_8 : decode prog_1_method_20_code 8 = .ok (.iadd, 1) := by decide +kernel
theorem dG_requireKind_9 : decode prog_1_method_20_code 9 = .ok (.if_icmp .eq 13, 3) := by decide +kernel
theorem dG_requireKind_12 : decode prog_1_method_20_code 12 = .ok (.new 53, 3) := by decide +kernel
theorem dG_requireKind_15 : decode prog_1_method_20_code 15 = .ok (.dup, 1) := by decide +kernel
theorem dG_requireKind_16 : decode prog_1_method_20_code 16 = .ok (.ldc 185, 2) := by decide +kernel
theorem dG_requireKind_18 : decode prog_1_method_20_code 18 = .ok (.invokespecial 57, 3) := by decide +kernel
theorem dG_requireKind_21 : decode prog_1_method_20_code 21 = .ok (.athrow, 1) := by decide +kernel
theorem dG_requireKind_22 : decode prog_1_method_20_code 22 = .ok (.return_, 1) := by decide +kernel
theorem dG_requireBranch_0 : decode prog_1_method_21_code 0 = .ok (.iload_n 0, 1) := by decide +kernel
theorem dG_requireBranch_1 : decode prog_1_method_21_code 1 = .ok (.ifCond .lt 8, 3) := by decide +kernel
theorem dG_requireBranch_4 : decode prog_1_method_21_code 4 = .ok (.iload_n 0, 1) := by decide +kernel
theorem dG_requireBranch_5 : decode prog_1_method_21_code 5 = .ok (.iconst 4, 1) := by decide +kernel
theorem dG_requireBranch_6 : decode prog_1_method_21_code 6 = .ok (.if_icmp .lt 13, 3) := by decide +kernel
theorem dG_requireBranch_9 : decode prog_1_method_21_code 9 = .ok (.new 53, 3) := by decide +kernel
theorem dG_requireBranch_12 : decode prog_1_method_21_code 12 = .ok (.dup, 1) := by decide +kernel
theorem dG_requireBranch_13 : decode prog_1_method_21_code 13 = .ok (.ldc 187, 2) := by decide +kernel
theorem dG_requireBranch_15 : decode prog_1_method_21_code 15 = .ok (.invokespecial 57, 3) := by decide +kernel
theorem dG_requireBranch_18 : decode prog_1_method_21_code 18 = .ok (.athrow, 1) := by decide +kernel
theorem dG_requireBranch_19 : decode prog_1_method_21_code 19 = .ok (.return_, 1) := by decide +kernel
theorem dG_requireRevision_0 : decode prog_1_method_22_code 0 = .ok (.aload_n 0, 1) := by decide +kernel
theorem dG_requireRevision_1 : decode prog_1_method_22_code 1 = .ok (.getfield 12, 3) := by decide +kernel
theorem dG_requireRevision_4 : decode prog_1_method_22_code 4 = .ok (.iload_n 1, 1) := by decide +kernel
theorem dG_requireRevision_5 : decode prog_1_method_22_code 5 = .ok (.invokevirtual 189, 3) := by decide +kernel
theorem dG_requireRevision_8 : decode prog_1_method_22_code 8 = .ok (.ifCond .ne 13, 3) := by decide +kernel
theorem dG_requireRevision_11 : decode prog_1_method_22_code 11 = .ok (.new 53, 3) := by decide +kernel
theorem dG_requireRevision_14 : decode prog_1_method_22_code 14 = .ok (.dup, 1) := by decide +kernel
theorem dG_requireRevision_15 : decode prog_1_method_22_code 15 = .ok (.ldc 193, 2) := by decide +kernel
theorem dG_requireRevision_17 : decode prog_1_method_22_code 17 = .ok (.invokespecial 57, 3) := by decide +kernel
theorem dG_requireRevision_20 : decode prog_1_method_22_code 20 = .ok (.athrow, 1) := by decide +kernel
theorem dG_requireRevision_21 : decode prog_1_method_22_code 21 = .ok (.return_, 1) := by decide +kernel
theorem dG_draftPresent_0 : decode prog_1_method_23_code 0 = .ok (.aload_n 0, 1) := by decide +kernel
theorem dG_draftPresent_1 : decode prog_1_method_23_code 1 = .ok (.getfield 26, 3) := by decide +kernel
theorem dG_draftPresent_4 : decode prog_1_method_23_code 4 = .ok (.aload_n 0, 1) := by decide +kernel
theorem dG_draftPresent_5 : decode prog_1_method_23_code 5 = .ok (.getfield 12, 3) := by decide +kernel
theorem dG_draftPresent_8 : decode prog_1_method_23_code 8 = .ok (.aload_n 0, 1) := by decide +kernel
theorem dG_draftPresent_9 : decode prog_1_method_23_code 9 = .ok (.getfield 19, 3) := by decide +kernel
theorem dG_draftPresent_12 : decode prog_1_method_23_code 12 = .ok (.invokevirtual 96, 3) := by decide +kernel
theorem dG_draftPresent_15 : decode prog_1_method_23_code 15 = .ok (.invokevirtual 153, 3) := by decide +kernel
theorem dG_draftPresent_18 : decode prog_1_method_23_code 18 = .ok (.invokevirtual 195, 3) := by decide +kernel
theorem dG_draftPresent_21 : decode prog_1_method_23_code 21 = .ok (.return_, 1) := by decide +kernel
theorem dG_draftJoined_0 : decode prog_1_method_24_code 0 = .ok (.aload_n 0, 1) := by decide +kernel
theorem dG_draftJoined_1 : decode prog_1_method_24_code 1 = .ok (.getfield 12, 3) := by decide +kernel
theorem dG_draftJoined_4 : decode prog_1_method_24_code 4 = .ok (.aload_n 0, 1) := by decide +kernel
theorem dG_draftJoined_5 : decode prog_1_method_24_code 5 = .ok (.getfield 12, 3) := by decide +kernel
theorem dG_draftJoined_8 : decode prog_1_method_24_code 8 = .ok (.iload_n 1, 1) := by decide +kernel
theorem dG_draftJoined_9 : decode prog_1_method_24_code 9 = .ok (.iload_n 2, 1) := by decide +kernel
theorem dG_draftJoined_10 : decode prog_1_method_24_code 10 = .ok (.invokevirtual 147, 3) := by decide +kernel
theorem dG_draftJoined_13 : decode prog_1_method_24_code 13 = .ok (.invokevirtual 153, 3) := by decide +kernel
theorem dG_draftJoined_16 : decode prog_1_method_24_code 16 = .ok (.astore 4, 2) := by decide +kernel
theorem dG_draftJoined_18 : decode prog_1_method_24_code 18 = .ok (.aload_n 0, 1) := by decide +kernel
theorem dG_draftJoined_19 : decode prog_1_method_24_code 19 = .ok (.getfield 12, 3) := by decide +kernel
theorem dG_draftJoined_22 : decode prog_1_method_24_code 22 = .ok (.iload_n 1, 1) := by decide +kernel
theorem dG_draftJoined_23 : decode prog_1_method_24_code 23 = .ok (.invokevirtual 153, 3) := by decide +kernel
theorem dG_draftJoined_26 : decode prog_1_method_24_code 26 = .ok (.astore 5, 2) := by decide +kernel
theorem dG_draftJoined_28 : decode prog_1_method_24_code 28 = .ok (.aload_n 0, 1) := by decide +kernel
theorem dG_draftJoined_29 : decode prog_1_method_24_code 29 = .ok (.getfield 12, 3) := by decide +kernel
theorem dG_draftJoined_32 : decode prog_1_method_24_code 32 = .ok (.iload_n 2, 1) := by decide +kernel
theorem dG_draftJoined_33 : decode prog_1_method_24_code 33 = .ok (.invokevirtual 153, 3) := by decide +kernel
theorem dG_draftJoined_36 : decode prog_1_method_24_code 36 = .ok (.astore 6, 2) := by decide +kernel
theorem dG_draftJoined_38 : decode prog_1_method_24_code 38 = .ok (.aload_n 0, 1) := by decide +kernel
theorem dG_draftJoined_39 : decode prog_1_method_24_code 39 = .ok (.getfield 26, 3) := by decide +kernel
theorem dG_draftJoined_42 : decode prog_1_method_24_code 42 = .ok (.aload 4, 2) := by decide +kernel
theorem dG_draftJoined_44 : decode prog_1_method_24_code 44 = .ok (.aload 5, 2) := by decide +kernel
theorem dG_draftJoined_46 : decode prog_1_method_24_code 46 = .ok (.aload 6, 2) := by decide +kernel
theorem dG_draftJoined_48 : decode prog_1_method_24_code 48 = .ok (.iload_n 3, 1) := by decide +kernel
theorem dG_draftJoined_49 : decode prog_1_method_24_code 49 = .ok (.iconst 2, 1) := by decide +kernel
theorem dG_draftJoined_50 : decode prog_1_method_24_code 50 = .ok (.if_icmp .ne 8, 3) := by decide +kernel
theorem dG_draftJoined_53 : decode prog_1_method_24_code 53 = .ok (.aload 6, 2) := by decide +kernel
theorem dG_draftJoined_55 : decode prog_1_method_24_code 55 = .ok (.goto 5, 3) := by decide +kernel
theorem dG_draftJoined_58 : decode prog_1_method_24_code 58 = .ok (.aload 5, 2) := by decide +kernel
theorem dG_draftJoined_60 : decode prog_1_method_24_code 60 = .ok (.invokestatic 199, 3) := by decide +kernel
theorem dG_draftJoined_63 : decode prog_1_method_24_code 63 = .ok (.ireturn, 1) := by decide +kernel
theorem dG_comeToChanged_0 : decode prog_1_method_25_code 0 = .ok (.aload_n 0, 1) := by decide +kernel
theorem dG_comeToChanged_1 : decode prog_1_method_25_code 1 = .ok (.getfield 19, 3) := by decide +kernel
theorem dG_comeToChanged_4 : decode prog_1_method_25_code 4 = .ok (.invokevirtual 96, 3) := by decide +kernel
theorem dG_comeToChanged_7 : decode prog_1_method_25_code 7 = .ok (.istore_n 2, 1) := by decide +kernel
theorem dG_comeToChanged_8 : decode prog_1_method_25_code 8 = .ok (.aload_n 0, 1) := by decide +kernel
theorem dG_comeToChanged_9 : decode prog_1_method_25_code 9 = .ok (.getfield 26, 3) := by decide +kernel
theorem dG_comeToChanged_12 : decode prog_1_method_25_code 12 = .ok (.aload_n 0, 1) := by decide +kernel
theorem dG_comeToChanged_13 : decode prog_1_method_25_code 13 = .ok (.getfield 12, 3) := by decide +kernel
theorem dG_comeToChanged_16 : decode prog_1_method_25_code 16 = .ok (.iload_n 2, 1) := by decide +kernel
theorem dG_comeToChanged_17 : decode prog_1_method_25_code 17 = .ok (.invokevirtual 153, 3) := by decide +kernel
theorem dG_comeToChanged_20 : decode prog_1_method_25_code 20 = .ok (.iload_n 1, 1) := by decide +kernel
theorem dG_comeToChanged_21 : decode prog_1_method_25_code 21 = .ok (.invokevirtual 161, 3) := by decide +kernel
theorem dG_comeToChanged_24 : decode prog_1_method_25_code 24 = .ok (.ifCond .eq 5, 3) := by decide +kernel
theorem dG_comeToChanged_27 : decode prog_1_method_25_code 27 = .ok (.iload_n 2, 1) := by decide +kernel
theorem dG_comeToChanged_28 : decode prog_1_method_25_code 28 = .ok (.ireturn, 1) := by decide +kernel
theorem dG_comeToChanged_29 : decode prog_1_method_25_code 29 = .ok (.aload_n 0, 1) := by decide +kernel
theorem dG_comeToChanged_30 : decode prog_1_method_25_code 30 = .ok (.iconst (-1), 1) := by decide +kernel
theorem dG_comeToChanged_31 : decode prog_1_method_25_code 31 = .ok (.invokevirtual 144, 3) := by decide +kernel
theorem dG_comeToChanged_34 : decode prog_1_method_25_code 34 = .ok (.aload_n 0, 1) := by decide +kernel
theorem dG_comeToChanged_35 : decode prog_1_method_25_code 35 = .ok (.getfield 19, 3) := by decide +kernel
theorem dG_comeToChanged_38 : decode prog_1_method_25_code 38 = .ok (.invokevirtual 96, 3) := by decide +kernel
theorem dG_comeToChanged_41 : decode prog_1_method_25_code 41 = .ok (.ireturn, 1) := by decide +kernel
theorem dG_comeToDraft_0 : decode prog_1_method_26_code 0 = .ok (.aload_n 0, 1) := by decide +kernel
theorem dG_comeToDraft_1 : decode prog_1_method_26_code 1 = .ok (.getfield 12, 3) := by decide +kernel
theorem dG_comeToDraft_4 : decode prog_1_method_26_code 4 = .ok (.invokevirtual 168, 3) := by decide +kernel
theorem dG_comeToDraft_7 : decode prog_1_method_26_code 7 = .ok (.bipush 60, 2) := by decide +kernel
theorem dG_comeToDraft_9 : decode prog_1_method_26_code 9 = .ok (.if_icmp .ne 13, 3) := by decide +kernel
theorem dG_comeToDraft_12 : decode prog_1_method_26_code 12 = .ok (.new 70, 3) := by decide +kernel
theorem dG_comeToDraft_15 : decode prog_1_method_26_code 15 = .ok (.dup, 1) := by decide +kernel
theorem dG_comeToDraft_16 : decode prog_1_method_26_code 16 = .ok (.ldc 205, 2) := by decide +kernel
theorem dG_comeToDraft_18 : decode prog_1_method_26_code 18 = .ok (.invokespecial 74, 3) := by decide +kernel
theorem dG_comeToDraft_21 : decode prog_1_method_26_code 21 = .ok (.athrow, 1) := by decide +kernel
theorem dG_comeToDraft_22 : decode prog_1_method_26_code 22 = .ok (.aload_n 0, 1) := by decide +kernel
theorem dG_comeToDraft_23 : decode prog_1_method_26_code 23 = .ok (.getfield 19, 3) := by decide +kernel
theorem dG_comeToDraft_26 : decode prog_1_method_26_code 26 = .ok (.aload_n 0, 1) := by decide +kernel
theorem dG_comeToDraft_27 : decode prog_1_method_26_code 27 = .ok (.getfield 12, 3) := by decide +kernel
theorem dG_comeToDraft_30 : decode prog_1_method_26_code 30 = .ok (.aload_n 0, 1) := by decide +kernel
theorem dG_comeToDraft_31 : decode prog_1_method_26_code 31 = .ok (.getfield 26, 3) := by decide +kernel
theorem dG_comeToDraft_34 : decode prog_1_method_26_code 34 = .ok (.aload_n 0, 1) := by decide +kernel
theorem dG_comeToDraft_35 : decode prog_1_method_26_code 35 = .ok (.getfield 19, 3) := by decide +kernel
theorem dG_comeToDraft_38 : decode prog_1_method_26_code 38 = .ok (.invokevirtual 96, 3) := by decide +kernel
theorem dG_comeToDraft_41 : decode prog_1_method_26_code 41 = .ok (.iload_n 1, 1) := by decide +kernel
theorem dG_comeToDraft_42 : decode prog_1_method_26_code 42 = .ok (.invokevirtual 207, 3) := by decide +kernel
theorem dG_comeToDraft_45 : decode prog_1_method_26_code 45 = .ok (.invokevirtual 108, 3) := by decide +kernel
theorem dG_comeToDraft_48 : decode prog_1_method_26_code 48 = .ok (.return_, 1) := by decide +kernel
theorem dR_init_0 : decode prog_6_method_1_code 0 = .ok (.aload_n 0, 1) := by decide +kernel
theorem dR_init_1 : decode prog_6_method_1_code 1 = .ok (.invokespecial 3, 3) := by decide +kernel
theorem dR_init_4 : decode prog_6_method_1_code 4 = .ok (.aload_n 0, 1) := by decide +kernel
theorem dR_init_5 : decode prog_6_method_1_code 5 = .ok (.bipush 60, 2) := by decide +kernel
theorem dR_init_7 : decode prog_6_method_1_code 7 = .ok (.anewarray 9, 3) := by decide +kernel
theorem dR_init_10 : decode prog_6_method_1_code 10 = .ok (.putfield 11, 3) := by decide +kernel
theorem dR_init_13 : decode prog_6_method_1_code 13 = .ok (.aload_n 0, 1) := by decide +kernel
theorem dR_init_14 : decode prog_6_method_1_code 14 = .ok (.bipush 60, 2) := by decide +kernel
theorem dR_init_16 : decode prog_6_method_1_code 16 = .ok (.newarray .int, 2) := by decide +kernel
theorem dR_init_18 : decode prog_6_method_1_code 18 = .ok (.putfield 17, 3) := by decide +kernel
theorem dR_init_21 : decode prog_6_method_1_code 21 = .ok (.aload_n 0, 1) := by decide +kernel
theorem dR_init_22 : decode prog_6_method_1_code 22 = .ok (.bipush 60, 2) := by decide +kernel
theorem dR_init_24 : decode prog_6_method_1_code 24 = .ok (.newarray .int, 2) := by decide +kernel
theorem dR_init_26 : decode prog_6_method_1_code 26 = .ok (.putfield 21, 3) := by decide +kernel
theorem dR_init_29 : decode prog_6_method_1_code 29 = .ok (.aload_n 0, 1) := by decide +kernel
theorem dR_init_30 : decode prog_6_method_1_code 30 = .ok (.bipush 60, 2) := by decide +kernel
theorem dR_init_32 : decode prog_6_method_1_code 32 = .ok (.newarray .long, 2) := by decide +kernel
theorem dR_init_34 : decode prog_6_method_1_code 34 = .ok (.putfield 24, 3) := by decide +kernel
theorem dR_init_37 : decode prog_6_method_1_code 37 = .ok (.aload_n 0, 1) := by decide +kernel
theorem dR_init_38 : decode prog_6_method_1_code 38 = .ok (.bipush 60, 2) := by decide +kernel
theorem dR_init_40 : decode prog_6_method_1_code 40 = .ok (.newarray .int, 2) := by decide +kernel
theorem dR_init_42 : decode prog_6_method_1_code 42 = .ok (.putfield 28, 3) := by decide +kernel
theorem dR_init_45 : decode prog_6_method_1_code 45 = .ok (.iconst 0, 1) := by decide +kernel
theorem dR_init_46 : decode prog_6_method_1_code 46 = .ok (.istore_n 1, 1) := by decide +kernel
theorem dR_init_47 : decode prog_6_method_1_code 47 = .ok (.iload_n 1, 1) := by decide +kernel
theorem dR_init_48 : decode prog_6_method_1_code 48 = .ok (.bipush 60, 2) := by decide +kernel
theorem dR_init_50 : decode prog_6_method_1_code 50 = .ok (.if_icmp .ge 22, 3) := by decide +kernel
theorem dR_init_53 : decode prog_6_method_1_code 53 = .ok (.aload_n 0, 1) := by decide +kernel
theorem dR_init_54 : decode prog_6_method_1_code 54 = .ok (.getfield 11, 3) := by decide +kernel
theorem dR_init_57 : decode prog_6_method_1_code 57 = .ok (.iload_n 1, 1) := by decide +kernel
theorem dR_init_58 : decode prog_6_method_1_code 58 = .ok (.new 9, 3) := by decide +kernel
theorem dR_init_61 : decode prog_6_method_1_code 61 = .ok (.dup, 1) := by decide +kernel
theorem dR_init_62 : decode prog_6_method_1_code 62 = .ok (.invokespecial 31, 3) := by decide +kernel
theorem dR_init_65 : decode prog_6_method_1_code 65 = .ok (.aastore, 1) := by decide +kernel
theorem dR_init_66 : decode prog_6_method_1_code 66 = .ok (.iinc 1 1, 3) := by decide +kernel
theorem dR_init_69 : decode prog_6_method_1_code 69 = .ok (.goto (-22), 3) := by decide +kernel
theorem dR_init_72 : decode prog_6_method_1_code 72 = .ok (.aload_n 0, 1) := by decide +kernel
theorem dR_init_73 : decode prog_6_method_1_code 73 = .ok (.getfield 17, 3) := by decide +kernel
theorem dR_init_76 : decode prog_6_method_1_code 76 = .ok (.iconst 0, 1) := by decide +kernel
theorem dR_init_77 : decode prog_6_method_1_code 77 = .ok (.iconst (-1), 1) := by decide +kernel
theorem dR_init_78 : decode prog_6_method_1_code 78 = .ok (.iastore, 1) := by decide +kernel
theorem dR_init_79 : decode prog_6_method_1_code 79 = .ok (.aload_n 0, 1) := by decide +kernel
theorem dR_init_80 : decode prog_6_method_1_code 80 = .ok (.getfield 21, 3) := by decide +kernel
theorem dR_init_83 : decode prog_6_method_1_code 83 = .ok (.iconst 0, 1) := by decide +kernel
theorem dR_init_84 : decode prog_6_method_1_code 84 = .ok (.iconst (-1), 1) := by decide +kernel
theorem dR_init_85 : decode prog_6_method_1_code 85 = .ok (.iastore, 1) := by decide +kernel
theorem dR_init_86 : decode prog_6_method_1_code 86 = .ok (.aload_n 0, 1) := by decide +kernel
theorem dR_init_87 : decode prog_6_method_1_code 87 = .ok (.getfield 24, 3) := by decide +kernel
theorem dR_init_90 : decode prog_6_method_1_code 90 = .ok (.iconst 0, 1) := by decide +kernel
theorem dR_init_91 : decode prog_6_method_1_code 91 = .ok (.lconst 1, 1) := by decide +kernel
theorem dR_init_92 : decode prog_6_method_1_code 92 = .ok (.lastore, 1) := by decide +kernel
theorem dR_init_93 : decode prog_6_method_1_code 93 = .ok (.aload_n 0, 1) := by decide +kernel
theorem dR_init_94 : decode prog_6_method_1_code 94 = .ok (.iconst 1, 1) := by decide +kernel
theorem dR_init_95 : decode prog_6_method_1_code 95 = .ok (.putfield 32, 3) := by decide +kernel
theorem dR_init_98 : decode prog_6_method_1_code 98 = .ok (.return_, 1) := by decide +kernel
theorem dR_count_0 : decode prog_6_method_2_code 0 = .ok (.aload_n 0, 1) := by decide +kernel
theorem dR_count_1 : decode prog_6_method_2_code 1 = .ok (.getfield 32, 3) := by decide +kernel
theorem dR_count_4 : decode prog_6_method_2_code 4 = .ok (.ireturn, 1) := by decide +kernel
theorem dR_has_0 : decode prog_6_method_3_code 0 = .ok (.iload_n 1, 1) := by decide +kernel
theorem dR_has_1 : decode prog_6_method_3_code 1 = .ok (.ifCond .lt 15, 3) := by decide +kernel
theorem dR_has_4 : decode prog_6_method_3_code 4 = .ok (.iload_n 1, 1) := by decide +kernel
theorem dR_has_5 : decode prog_6_method_3_code 5 = .ok (.aload_n 0, 1) := by decide +kernel
theorem dR_has_6 : decode prog_6_method_3_code 6 = .ok (.getfield 32, 3) := by decide +kernel
theorem dR_has_9 : decode prog_6_method_3_code 9 = .ok (.if_icmp .ge 7, 3) := by decide +kernel
theorem dR_has_12 : decode prog_6_method_3_code 12 = .ok (.iconst 1, 1) := by decide +kernel
theorem dR_has_13 : decode prog_6_method_3_code 13 = .ok (.goto 4, 3) := by decide +kernel
theorem dR_has_16 : decode prog_6_method_3_code 16 = .ok (.iconst 0, 1) := by decide +kernel
theorem dR_has_17 : decode prog_6_method_3_code 17 = .ok (.ireturn, 1) := by decide +kernel
theorem dR_fields_0 : decode prog_6_method_4_code 0 = .ok (.aload_n 0, 1) := by decide +kernel
theorem dR_fields_1 : decode prog_6_method_4_code 1 = .ok (.getfield 11, 3) := by decide +kernel
theorem dR_fields_4 : decode prog_6_method_4_code 4 = .ok (.iload_n 1, 1) := by decide +kernel
theorem dR_fields_5 : decode prog_6_method_4_code 5 = .ok (.aaload, 1) := by decide +kernel
theorem dR_fields_6 : decode prog_6_method_4_code 6 = .ok (.areturn, 1) := by decide +kernel
theorem dR_firstParent_0 : decode prog_6_method_5_code 0 = .ok (.aload_n 0, 1) := by decide +kernel
theorem dR_firstParent_1 : decode prog_6_method_5_code 1 = .ok (.getfield 17, 3) := by decide +kernel
theorem dR_firstParent_4 : decode prog_6_method_5_code 4 = .ok (.iload_n 1, 1) := by decide +kernel
theorem dR_firstParent_5 : decode prog_6_method_5_code 5 = .ok (.iaload, 1) := by decide +kernel
theorem dR_firstParent_6 : decode prog_6_method_5_code 6 = .ok (.ireturn, 1) := by decide +kernel
theorem dR_secondParent_0 : decode prog_6_method_6_code 0 = .ok (.aload_n 0, 1) := by decide +kernel
theorem dR_secondParent_1 : decode prog_6_method_6_code 1 = .ok (.getfield 21, 3) := by decide +kernel
theorem dR_secondParent_4 : decode prog_6_method_6_code 4 = .ok (.iload_n 1, 1) := by decide +kernel
theorem dR_secondParent_5 : decode prog_6_method_6_code 5 = .ok (.iaload, 1) := by decide +kernel
theorem dR_secondParent_6 : decode prog_6_method_6_code 6 = .ok (.ireturn, 1) := by decide +kernel
theorem dR_ancestorsOf_0 : decode prog_6_method_7_code 0 = .ok (.aload_n 0, 1) := by decide +kernel
theorem dR_ancestorsOf_1 : decode prog_6_method_7_code 1 = .ok (.getfield 24, 3) := by decide +kernel
theorem dR_ancestorsOf_4 : decode prog_6_method_7_code 4 = .ok (.iload_n 1, 1) := by decide +kernel
theorem dR_ancestorsOf_5 : decode prog_6_method_7_code 5 = .ok (.laload, 1) := by decide +kernel
theorem dR_ancestorsOf_6 : decode prog_6_method_7_code 6 = .ok (.lreturn, 1) := by decide +kernel
theorem dR_isAncestor_0 : decode prog_6_method_8_code 0 = .ok (.aload_n 0, 1) := by decide +kernel
theorem dR_isAncestor_1 : decode prog_6_method_8_code 1 = .ok (.getfield 24, 3) := by decide +kernel
theorem dR_isAncestor_4 : decode prog_6_method_8_code 4 = .ok (.iload_n 2, 1) := by decide +kernel
theorem dR_isAncestor_5 : decode prog_6_method_8_code 5 = .ok (.laload, 1) := by decide +kernel
theorem dR_isAncestor_6 : decode prog_6_method_8_code 6 = .ok (.iload_n 1, 1) := by decide +kernel
theorem dR_isAncestor_7 : decode prog_6_method_8_code 7 = .ok (.invokestatic 36, 3) := by decide +kernel
theorem dR_isAncestor_10 : decode prog_6_method_8_code 10 = .ok (.ireturn, 1) := by decide +kernel
theorem dR_latestShared_0 : decode prog_6_method_9_code 0 = .ok (.aload_n 0, 1) := by decide +kernel
theorem dR_latestShared_1 : decode prog_6_method_9_code 1 = .ok (.getfield 24, 3) := by decide +kernel
theorem dR_latestShared_4 : decode prog_6_method_9_code 4 = .ok (.iload_n 1, 1) := by decide +kernel
theorem dR_latestShared_5 : decode prog_6_method_9_code 5 = .ok (.laload, 1) := by decide +kernel
theorem dR_latestShared_6 : decode prog_6_method_9_code 6 = .ok (.aload_n 0, 1) := by decide +kernel
theorem dR_latestShared_7 : decode prog_6_method_9_code 7 = .ok (.getfield 24, 3) := by decide +kernel
theorem dR_latestShared_10 : decode prog_6_method_9_code 10 = .ok (.iload_n 2, 1) := by decide +kernel
theorem dR_latestShared_11 : decode prog_6_method_9_code 11 = .ok (.laload, 1) := by decide +kernel
theorem dR_latestShared_12 : decode prog_6_method_9_code 12 = .ok (.land, 1) := by decide +kernel
theorem dR_latestShared_13 : decode prog_6_method_9_code 13 = .ok (.lstore_n 3, 1) := by decide +kernel
theorem dR_latestShared_14 : decode prog_6_method_9_code 14 = .ok (.iload_n 1, 1) := by decide +kernel
theorem dR_latestShared_15 : decode prog_6_method_9_code 15 = .ok (.iload_n 2, 1) := by decide +kernel
theorem dR_latestShared_16 : decode prog_6_method_9_code 16 = .ok (.invokestatic 40, 3) := by decide +kernel
theorem dR_latestShared_19 : decode prog_6_method_9_code 19 = .ok (.istore 5, 2) := by decide +kernel
theorem dR_latestShared_21 : decode prog_6_method_9_code 21 = .ok (.iload 5, 2) := by decide +kernel
theorem dR_latestShared_23 : decode prog_6_method_9_code 23 = .ok (.ifCond .le 21, 3) := by decide +kernel
theorem dR_latestShared_26 : decode prog_6_method_9_code 26 = .ok (.lload_n 3, 1) := by decide +kernel
theorem dR_latestShared_27 : decode prog_6_method_9_code 27 = .ok (.iload 5, 2) := by decide +kernel
theorem dR_latestShared_29 : decode prog_6_method_9_code 29 = .ok (.invokestatic 36, 3) := by decide +kernel
theorem dR_latestShared_32 : decode prog_6_method_9_code 32 = .ok (.ifCond .eq 6, 3) := by decide +kernel
theorem dR_latestShared_35 : decode prog_6_method_9_code 35 = .ok (.iload 5, 2) := by decide +kernel
theorem dR_latestShared_37 : decode prog_6_method_9_code 37 = .ok (.ireturn, 1) := by decide +kernel
theorem dR_latestShared_38 : decode prog_6_method_9_code 38 = .ok (.iinc 5 (-1), 3) := by decide +kernel
theorem dR_latestShared_41 : decode prog_6_method_9_code 41 = .ok (.goto (-20), 3) := by decide +kernel
theorem dR_latestShared_44 : decode prog_6_method_9_code 44 = .ok (.iconst 0, 1) := by decide +kernel
theorem dR_latestShared_45 : decode prog_6_method_9_code 45 = .ok (.ireturn, 1) := by decide +kernel
theorem dR_make_0 : decode prog_6_method_10_code 0 = .ok (.aload_n 0, 1) := by decide +kernel
theorem dR_make_1 : decode prog_6_method_10_code 1 = .ok (.getfield 32, 3) := by decide +kernel
theorem dR_make_4 : decode prog_6_method_10_code 4 = .ok (.istore 4, 2) := by decide +kernel
theorem dR_make_6 : decode prog_6_method_10_code 6 = .ok (.aload_n 0, 1) := by decide +kernel
theorem dR_make_7 : decode prog_6_method_10_code 7 = .ok (.dup, 1) := by decide +kernel
theorem dR_make_8 : decode prog_6_method_10_code 8 = .ok (.getfield 32, 3) := by decide +kernel
theorem dR_make_11 : decode prog_6_method_10_code 11 = .ok (.iconst 1, 1) := by decide +kernel
theorem dR_make_12 : decode prog_6_method_10_code 12 = .ok (.iadd, 1) := by decide +kernel
theorem dR_make_13 : decode prog_6_method_10_code 13 = .ok (.putfield 32, 3) := by decide +kernel
theorem dR_make_16 : decode prog_6_method_10_code 16 = .ok (.aload_n 0, 1) := by decide +kernel
theorem dR_make_17 : decode prog_6_method_10_code 17 = .ok (.getfield 11, 3) := by decide +kernel
theorem dR_make_20 : decode prog_6_method_10_code 20 = .ok (.iload 4, 2) := by decide +kernel
theorem dR_make_22 : decode prog_6_method_10_code 22 = .ok (.aaload, 1) := by decide +kernel
theorem dR_make_23 : decode prog_6_method_10_code 23 = .ok (.aload_n 1, 1) := by decide +kernel
theorem dR_make_24 : decode prog_6_method_10_code 24 = .ok (.invokevirtual 46, 3) := by decide +kernel
theorem dR_make_27 : decode prog_6_method_10_code 27 = .ok (.aload_n 0, 1) := by decide +kernel
theorem dR_make_28 : decode prog_6_method_10_code 28 = .ok (.iload 4, 2) := by decide +kernel
theorem dR_make_30 : decode prog_6_method_10_code 30 = .ok (.iload_n 2, 1) := by decide +kernel
theorem dR_make_31 : decode prog_6_method_10_code 31 = .ok (.iload_n 3, 1) := by decide +kernel
theorem dR_make_32 : decode prog_6_method_10_code 32 = .ok (.invokevirtual 50, 3) := by decide +kernel
theorem dR_make_35 : decode prog_6_method_10_code 35 = .ok (.iload 4, 2) := by decide +kernel
theorem dR_make_37 : decode prog_6_method_10_code 37 = .ok (.ireturn, 1) := by decide +kernel
theorem dR_keepOnly_0 : decode prog_6_method_11_code 0 = .ok (.iconst 0, 1) := by decide +kernel
theorem dR_keepOnly_1 : decode prog_6_method_11_code 1 = .ok (.istore_n 3, 1) := by decide +kernel
theorem dR_keepOnly_2 : decode prog_6_method_11_code 2 = .ok (.iconst 0, 1) := by decide +kernel
theorem dR_keepOnly_3 : decode prog_6_method_11_code 3 = .ok (.istore 4, 2) := by decide +kernel
theorem dR_keepOnly_5 : decode prog_6_method_11_code 5 = .ok (.iload 4, 2) := by decide +kernel
theorem dR_keepOnly_7 : decode prog_6_method_11_code 7 = .ok (.aload_n 0, 1) := by decide +kernel
theorem dR_keepOnly_8 : decode prog_6_method_11_code 8 = .ok (.getfield 32, 3) := by decide +kernel
theorem dR_keepOnly_11 : decode prog_6_method_11_code 11 = .ok (.if_icmp .ge 72, 3) := by decide +kernel
theorem dR_keepOnly_14 : decode prog_6_method_11_code 14 = .ok (.lload_n 1, 1) := by decide +kernel
theorem dR_keepOnly_15 : decode prog_6_method_11_code 15 = .ok (.iload 4, 2) := by decide +kernel
theorem dR_keepOnly_17 : decode prog_6_method_11_code 17 = .ok (.invokestatic 36, 3) := by decide +kernel
theorem dR_keepOnly_20 : decode prog_6_method_11_code 20 = .ok (.ifCond .eq 57, 3) := by decide +kernel
theorem dR_keepOnly_23 : decode prog_6_method_11_code 23 = .ok (.aload_n 0, 1) := by decide +kernel
theorem dR_keepOnly_24 : decode prog_6_method_11_code 24 = .ok (.getfield 28, 3) := by decide +kernel
theorem dR_keepOnly_27 : decode prog_6_method_11_code 27 = .ok (.iload 4, 2) := by decide +kernel
theorem dR_keepOnly_29 : decode prog_6_method_11_code 29 = .ok (.iload_n 3, 1) := by decide +kernel
theorem dR_keepOnly_30 : decode prog_6_method_11_code 30 = .ok (.iastore, 1) := by decide +kernel
theorem dR_keepOnly_31 : decode prog_6_method_11_code 31 = .ok (.aload_n 0, 1) := by decide +kernel
theorem dR_keepOnly_32 : decode prog_6_method_11_code 32 = .ok (.getfield 11, 3) := by decide +kernel
theorem dR_keepOnly_35 : decode prog_6_method_11_code 35 = .ok (.iload_n 3, 1) := by decide +kernel
theorem dR_keepOnly_36 : decode prog_6_method_11_code 36 = .ok (.aaload, 1) := by decide +kernel
theorem dR_keepOnly_37 : decode prog_6_method_11_code 37 = .ok (.aload_n 0, 1) := by decide +kernel
theorem dR_keepOnly_38 : decode prog_6_method_11_code 38 = .ok (.getfield 11, 3) := by decide +kernel
theorem dR_keepOnly_41 : decode prog_6_method_11_code 41 = .ok (.iload 4, 2) := by decide +kernel
theorem dR_keepOnly_43 : decode prog_6_method_11_code 43 = .ok (.aaload, 1) := by decide +kernel
theorem dR_keepOnly_44 : decode prog_6_method_11_code 44 = .ok (.invokevirtual 46, 3) := by decide +kernel
theorem dR_keepOnly_47 : decode prog_6_method_11_code 47 = .ok (.aload_n 0, 1) := by decide +kernel
theorem dR_keepOnly_48 : decode prog_6_method_11_code 48 = .ok (.iload_n 3, 1) := by decide +kernel
theorem dR_keepOnly_49 : decode prog_6_method_11_code 49 = .ok (.aload_n 0, 1) := by decide +kernel
theorem dR_keepOnly_50 : decode prog_6_method_11_code 50 = .ok (.aload_n 0, 1) := by decide +kernel
theorem dR_keepOnly_51 : decode prog_6_method_11_code 51 = .ok (.getfield 17, 3) := by decide +kernel
theorem dR_keepOnly_54 : decode prog_6_method_11_code 54 = .ok (.iload 4, 2) := by decide +kernel
theorem dR_keepOnly_56 : decode prog_6_method_11_code 56 = .ok (.iaload, 1) := by decide +kernel
theorem dR_keepOnly_57 : decode prog_6_method_11_code 57 = .ok (.invokevirtual 54, 3) := by decide +kernel
theorem dR_keepOnly_60 : decode prog_6_method_11_code 60 = .ok (.aload_n 0, 1) := by decide +kernel
theorem dR_keepOnly_61 : decode prog_6_method_11_code 61 = .ok (.aload_n 0, 1) := by decide +kernel
theorem dR_keepOnly_62 : decode prog_6_method_11_code 62 = .ok (.getfield 21, 3) := by decide +kernel
theorem dR_keepOnly_65 : decode prog_6_method_11_code 65 = .ok (.iload 4, 2) := by decide +kernel
theorem dR_keepOnly_67 : decode prog_6_method_11_code 67 = .ok (.iaload, 1) := by decide +kernel
theorem dR_keepOnly_68 : decode prog_6_method_11_code 68 = .ok (.invokevirtual 54, 3) := by decide +kernel
theorem dR_keepOnly_71 : decode prog_6_method_11_code 71 = .ok (.invokevirtual 50, 3) := by decide +kernel
theorem dR_keepOnly_74 : decode prog_6_method_11_code 74 = .ok (.iinc 3 1, 3) := by decide +kernel
theorem dR_keepOnly_77 : decode prog_6_method_11_code 77 = .ok (.iinc 4 1, 3) := by decide +kernel
theorem dR_keepOnly_80 : decode prog_6_method_11_code 80 = .ok (.goto (-75), 3) := by decide +kernel
theorem dR_keepOnly_83 : decode prog_6_method_11_code 83 = .ok (.aload_n 0, 1) := by decide +kernel
theorem dR_keepOnly_84 : decode prog_6_method_11_code 84 = .ok (.iload_n 3, 1) := by decide +kernel
theorem dR_keepOnly_85 : decode prog_6_method_11_code 85 = .ok (.putfield 32, 3) := by decide +kernel
theorem dR_keepOnly_88 : decode prog_6_method_11_code 88 = .ok (.return_, 1) := by decide +kernel
theorem dR_newNumber_0 : decode prog_6_method_12_code 0 = .ok (.iload_n 1, 1) := by decide +kernel
theorem dR_newNumber_1 : decode prog_6_method_12_code 1 = .ok (.iconst (-1), 1) := by decide +kernel
theorem dR_newNumber_2 : decode prog_6_method_12_code 2 = .ok (.if_icmp .ne 7, 3) := by decide +kernel
theorem dR_newNumber_5 : decode prog_6_method_12_code 5 = .ok (.iconst (-1), 1) := by decide +kernel
theorem dR_newNumber_6 : decode prog_6_method_12_code 6 = .ok (.goto 9, 3) := by decide +kernel
theorem dR_newNumber_9 : decode prog_6_method_12_code 9 = .ok (.aload_n 0, 1) := by decide +kernel
theorem dR_newNumber_10 : decode prog_6_method_12_code 10 = .ok (.getfield 28, 3) := by decide +kernel
theorem dR_newNumber_13 : decode prog_6_method_12_code 13 = .ok (.iload_n 1, 1) := by decide +kernel
theorem dR_newNumber_14 : decode prog_6_method_12_code 14 = .ok (.iaload, 1) := by decide +kernel
theorem dR_newNumber_15 : decode prog_6_method_12_code 15 = .ok (.ireturn, 1) := by decide +kernel
theorem dR_link_0 : decode prog_6_method_13_code 0 = .ok (.aload_n 0, 1) := by decide +kernel
theorem dR_link_1 : decode prog_6_method_13_code 1 = .ok (.getfield 17, 3) := by decide +kernel
theorem dR_link_4 : decode prog_6_method_13_code 4 = .ok (.iload_n 1, 1) := by decide +kernel
theorem dR_link_5 : decode prog_6_method_13_code 5 = .ok (.iload_n 2, 1) := by decide +kernel
theorem dR_link_6 : decode prog_6_method_13_code 6 = .ok (.iastore, 1) := by decide +kernel
theorem dR_link_7 : decode prog_6_method_13_code 7 = .ok (.aload_n 0, 1) := by decide +kernel
theorem dR_link_8 : decode prog_6_method_13_code 8 = .ok (.getfield 21, 3) := by decide +kernel
theorem dR_link_11 : decode prog_6_method_13_code 11 = .ok (.iload_n 1, 1) := by decide +kernel
theorem dR_link_12 : decode prog_6_method_13_code 12 = .ok (.iload_n 3, 1) := by decide +kernel
theorem dR_link_13 : decode prog_6_method_13_code 13 = .ok (.iastore, 1) := by decide +kernel
theorem dR_link_14 : decode prog_6_method_13_code 14 = .ok (.aload_n 0, 1) := by decide +kernel
theorem dR_link_15 : decode prog_6_method_13_code 15 = .ok (.getfield 24, 3) := by decide +kernel
theorem dR_link_18 : decode prog_6_method_13_code 18 = .ok (.iload_n 1, 1) := by decide +kernel
theorem dR_link_19 : decode prog_6_method_13_code 19 = .ok (.lconst 1, 1) := by decide +kernel
theorem dR_link_20 : decode prog_6_method_13_code 20 = .ok (.iload_n 1, 1) := by decide +kernel
theorem dR_link_21 : decode prog_6_method_13_code 21 = .ok (.lshl, 1) := by decide +kernel
theorem dR_link_22 : decode prog_6_method_13_code 22 = .ok (.aload_n 0, 1) := by decide +kernel
theorem dR_link_23 : decode prog_6_method_13_code 23 = .ok (.iload_n 2, 1) := by decide +kernel
theorem dR_link_24 : decode prog_6_method_13_code 24 = .ok (.invokevirtual 58, 3) := by decide +kernel
theorem dR_link_27 : decode prog_6_method_13_code 27 = .ok (.lor, 1) := by decide +kernel
theorem dR_link_28 : decode prog_6_method_13_code 28 = .ok (.aload_n 0, 1) := by decide +kernel
theorem dR_link_29 : decode prog_6_method_13_code 29 = .ok (.iload_n 3, 1) := by decide +kernel
theorem dR_link_30 : decode prog_6_method_13_code 30 = .ok (.invokevirtual 58, 3) := by decide +kernel
theorem dR_link_33 : decode prog_6_method_13_code 33 = .ok (.lor, 1) := by decide +kernel
theorem dR_link_34 : decode prog_6_method_13_code 34 = .ok (.lastore, 1) := by decide +kernel
theorem dR_link_35 : decode prog_6_method_13_code 35 = .ok (.return_, 1) := by decide +kernel
theorem dR_ancestorsOrNone_0 : decode prog_6_method_14_code 0 = .ok (.iload_n 1, 1) := by decide +kernel
theorem dR_ancestorsOrNone_1 : decode prog_6_method_14_code 1 = .ok (.iconst (-1), 1) := by decide +kernel
theorem dR_ancestorsOrNone_2 : decode prog_6_method_14_code 2 = .ok (.if_icmp .ne 7, 3) := by decide +kernel
theorem dR_ancestorsOrNone_5 : decode prog_6_method_14_code 5 = .ok (.lconst 0, 1) := by decide +kernel
theorem dR_ancestorsOrNone_6 : decode prog_6_method_14_code 6 = .ok (.goto 9, 3) := by decide +kernel
theorem dR_ancestorsOrNone_9 : decode prog_6_method_14_code 9 = .ok (.aload_n 0, 1) := by decide +kernel
theorem dR_ancestorsOrNone_10 : decode prog_6_method_14_code 10 = .ok (.getfield 24, 3) := by decide +kernel
theorem dR_ancestorsOrNone_13 : decode prog_6_method_14_code 13 = .ok (.iload_n 1, 1) := by decide +kernel
theorem dR_ancestorsOrNone_14 : decode prog_6_method_14_code 14 = .ok (.laload, 1) := by decide +kernel
theorem dR_ancestorsOrNone_15 : decode prog_6_method_14_code 15 = .ok (.lreturn, 1) := by decide +kernel
theorem dR_holds_0 : decode prog_6_method_15_code 0 = .ok (.lload_n 0, 1) := by decide +kernel
theorem dR_holds_1 : decode prog_6_method_15_code 1 = .ok (.iload_n 2, 1) := by decide +kernel
theorem dR_holds_2 : decode prog_6_method_15_code 2 = .ok (.lushr, 1) := by decide +kernel
theorem dR_holds_3 : decode prog_6_method_15_code 3 = .ok (.lconst 1, 1) := by decide +kernel
theorem dR_holds_4 : decode prog_6_method_15_code 4 = .ok (.land, 1) := by decide +kernel
theorem dR_holds_5 : decode prog_6_method_15_code 5 = .ok (.lconst 0, 1) := by decide +kernel
theorem dR_holds_6 : decode prog_6_method_15_code 6 = .ok (.lcmp, 1) := by decide +kernel
theorem dR_holds_7 : decode prog_6_method_15_code 7 = .ok (.ifCond .eq 7, 3) := by decide +kernel
theorem dR_holds_10 : decode prog_6_method_15_code 10 = .ok (.iconst 1, 1) := by decide +kernel
theorem dR_holds_11 : decode prog_6_method_15_code 11 = .ok (.goto 4, 3) := by decide +kernel
theorem dR_holds_14 : decode prog_6_method_15_code 14 = .ok (.iconst 0, 1) := by decide +kernel
theorem dR_holds_15 : decode prog_6_method_15_code 15 = .ok (.ireturn, 1) := by decide +kernel
theorem dB_init_0 : decode prog_2_method_1_code 0 = .ok (.aload_n 0, 1) := by decide +kernel
theorem dB_init_1 : decode prog_2_method_1_code 1 = .ok (.invokespecial 3, 3) := by decide +kernel
theorem dB_init_4 : decode prog_2_method_1_code 4 = .ok (.aload_n 0, 1) := by decide +kernel
theorem dB_init_5 : decode prog_2_method_1_code 5 = .ok (.iconst 4, 1) := by decide +kernel
theorem dB_init_6 : decode prog_2_method_1_code 6 = .ok (.newarray .int, 2) := by decide +kernel
theorem dB_init_8 : decode prog_2_method_1_code 8 = .ok (.putfield 9, 3) := by decide +kernel
theorem dB_init_11 : decode prog_2_method_1_code 11 = .ok (.aload_n 0, 1) := by decide +kernel
theorem dB_init_12 : decode prog_2_method_1_code 12 = .ok (.iconst 4, 1) := by decide +kernel
theorem dB_init_13 : decode prog_2_method_1_code 13 = .ok (.bipush 60, 2) := by decide +kernel
theorem dB_init_15 : decode prog_2_method_1_code 15 = .ok (.multianewarray 15 2, 4) := by decide +kernel
theorem dB_init_19 : decode prog_2_method_1_code 19 = .ok (.putfield 17, 3) := by decide +kernel
theorem dB_init_22 : decode prog_2_method_1_code 22 = .ok (.aload_n 0, 1) := by decide +kernel
theorem dB_init_23 : decode prog_2_method_1_code 23 = .ok (.iconst 4, 1) := by decide +kernel
theorem dB_init_24 : decode prog_2_method_1_code 24 = .ok (.newarray .int, 2) := by decide +kernel
theorem dB_init_26 : decode prog_2_method_1_code 26 = .ok (.putfield 20, 3) := by decide +kernel
theorem dB_init_29 : decode prog_2_method_1_code 29 = .ok (.return_, 1) := by decide +kernel
theorem dB_presentBranch_0 : decode prog_2_method_2_code 0 = .ok (.aload_n 0, 1) := by decide +kernel
theorem dB_presentBranch_1 : decode prog_2_method_2_code 1 = .ok (.getfield 23, 3) := by decide +kernel
theorem dB_presentBranch_4 : decode prog_2_method_2_code 4 = .ok (.ireturn, 1) := by decide +kernel
theorem dB_presentRevision_0 : decode prog_2_method_3_code 0 = .ok (.aload_n 0, 1) := by decide +kernel
theorem dB_presentRevision_1 : decode prog_2_method_3_code 1 = .ok (.getfield 9, 3) := by decide +kernel
theorem dB_presentRevision_4 : decode prog_2_method_3_code 4 = .ok (.aload_n 0, 1) := by decide +kernel
theorem dB_presentRevision_5 : decode prog_2_method_3_code 5 = .ok (.getfield 23, 3) := by decide +kernel
theorem dB_presentRevision_8 : decode prog_2_method_3_code 8 = .ok (.iaload, 1) := by decide +kernel
theorem dB_presentRevision_9 : decode prog_2_method_3_code 9 = .ok (.ireturn, 1) := by decide +kernel
theorem dB_revisionOf_0 : decode prog_2_method_4_code 0 = .ok (.aload_n 0, 1) := by decide +kernel
theorem dB_revisionOf_1 : decode prog_2_method_4_code 1 = .ok (.getfield 9, 3) := by decide +kernel
theorem dB_revisionOf_4 : decode prog_2_method_4_code 4 = .ok (.iload_n 1, 1) := by decide +kernel
theorem dB_revisionOf_5 : decode prog_2_method_4_code 5 = .ok (.iaload, 1) := by decide +kernel
theorem dB_revisionOf_6 : decode prog_2_method_4_code 6 = .ok (.ireturn, 1) := by decide +kernel
theorem dB_undoneCount_0 : decode prog_2_method_5_code 0 = .ok (.aload_n 0, 1) := by decide +kernel
theorem dB_undoneCount_1 : decode prog_2_method_5_code 1 = .ok (.getfield 20, 3) := by decide +kernel
theorem dB_undoneCount_4 : decode prog_2_method_5_code 4 = .ok (.aload_n 0, 1) := by decide +kernel
theorem dB_undoneCount_5 : decode prog_2_method_5_code 5 = .ok (.getfield 23, 3) := by decide +kernel
theorem dB_undoneCount_8 : decode prog_2_method_5_code 8 = .ok (.iaload, 1) := by decide +kernel
theorem dB_undoneCount_9 : decode prog_2_method_5_code 9 = .ok (.ireturn, 1) := by decide +kernel
theorem dB_makePresent_0 : decode prog_2_method_6_code 0 = .ok (.aload_n 0, 1) := by decide +kernel
theorem dB_makePresent_1 : decode prog_2_method_6_code 1 = .ok (.iload_n 1, 1) := by decide +kernel
theorem dB_makePresent_2 : decode prog_2_method_6_code 2 = .ok (.putfield 23, 3) := by decide +kernel
theorem dB_makePresent_5 : decode prog_2_method_6_code 5 = .ok (.return_, 1) := by decide +kernel
theorem dB_lead_0 : decode prog_2_method_7_code 0 = .ok (.aload_n 0, 1) := by decide +kernel
theorem dB_lead_1 : decode prog_2_method_7_code 1 = .ok (.getfield 9, 3) := by decide +kernel
theorem dB_lead_4 : decode prog_2_method_7_code 4 = .ok (.iload_n 1, 1) := by decide +kernel
theorem dB_lead_5 : decode prog_2_method_7_code 5 = .ok (.iload_n 2, 1) := by decide +kernel
theorem dB_lead_6 : decode prog_2_method_7_code 6 = .ok (.iastore, 1) := by decide +kernel
theorem dB_lead_7 : decode prog_2_method_7_code 7 = .ok (.aload_n 0, 1) := by decide +kernel
theorem dB_lead_8 : decode prog_2_method_7_code 8 = .ok (.getfield 20, 3) := by decide +kernel
theorem dB_lead_11 : decode prog_2_method_7_code 11 = .ok (.iload_n 1, 1) := by decide +kernel
theorem dB_lead_12 : decode prog_2_method_7_code 12 = .ok (.iconst 0, 1) := by decide +kernel
theorem dB_lead_13 : decode prog_2_method_7_code 13 = .ok (.iastore, 1) := by decide +kernel
theorem dB_lead_14 : decode prog_2_method_7_code 14 = .ok (.return_, 1) := by decide +kernel
theorem dB_come_0 : decode prog_2_method_8_code 0 = .ok (.aload_n 0, 1) := by decide +kernel
theorem dB_come_1 : decode prog_2_method_8_code 1 = .ok (.aload_n 0, 1) := by decide +kernel
theorem dB_come_2 : decode prog_2_method_8_code 2 = .ok (.getfield 23, 3) := by decide +kernel
theorem dB_come_5 : decode prog_2_method_8_code 5 = .ok (.iload_n 1, 1) := by decide +kernel
theorem dB_come_6 : decode prog_2_method_8_code 6 = .ok (.invokevirtual 27, 3) := by decide +kernel
theorem dB_come_9 : decode prog_2_method_8_code 9 = .ok (.return_, 1) := by decide +kernel
theorem dB_stepBack_0 : decode prog_2_method_9_code 0 = .ok (.aload_n 0, 1) := by decide +kernel
theorem dB_stepBack_1 : decode prog_2_method_9_code 1 = .ok (.getfield 17, 3) := by decide +kernel
theorem dB_stepBack_4 : decode prog_2_method_9_code 4 = .ok (.aload_n 0, 1) := by decide +kernel
theorem dB_stepBack_5 : decode prog_2_method_9_code 5 = .ok (.getfield 23, 3) := by decide +kernel
theorem dB_stepBack_8 : decode prog_2_method_9_code 8 = .ok (.aaload, 1) := by decide +kernel
theorem dB_stepBack_9 : decode prog_2_method_9_code 9 = .ok (.aload_n 0, 1) := by decide +kernel
theorem dB_stepBack_10 : decode prog_2_method_9_code 10 = .ok (.getfield 20, 3) := by decide +kernel
theorem dB_stepBack_13 : decode prog_2_method_9_code 13 = .ok (.aload_n 0, 1) := by decide +kernel
theorem dB_stepBack_14 : decode prog_2_method_9_code 14 = .ok (.getfield 23, 3) := by decide +kernel
theorem dB_stepBack_17 : decode prog_2_method_9_code 17 = .ok (.iaload, 1) := by decide +kernel
theorem dB_stepBack_18 : decode prog_2_method_9_code 18 = .ok (.aload_n 0, 1) := by decide +kernel
theorem dB_stepBack_19 : decode prog_2_method_9_code 19 = .ok (.getfield 9, 3) := by decide +kernel
theorem dB_stepBack_22 : decode prog_2_method_9_code 22 = .ok (.aload_n 0, 1) := by decide +kernel
theorem dB_stepBack_23 : decode prog_2_method_9_code 23 = .ok (.getfield 23, 3) := by decide +kernel
theorem dB_stepBack_26 : decode prog_2_method_9_code 26 = .ok (.iaload, 1) := by decide +kernel
theorem dB_stepBack_27 : decode prog_2_method_9_code 27 = .ok (.iastore, 1) := by decide +kernel
theorem dB_stepBack_28 : decode prog_2_method_9_code 28 = .ok (.aload_n 0, 1) := by decide +kernel
theorem dB_stepBack_29 : decode prog_2_method_9_code 29 = .ok (.getfield 20, 3) := by decide +kernel
theorem dB_stepBack_32 : decode prog_2_method_9_code 32 = .ok (.aload_n 0, 1) := by decide +kernel
theorem dB_stepBack_33 : decode prog_2_method_9_code 33 = .ok (.getfield 23, 3) := by decide +kernel
theorem dB_stepBack_36 : decode prog_2_method_9_code 36 = .ok (.dup2, 1) := by decide +kernel
theorem dB_stepBack_37 : decode prog_2_method_9_code 37 = .ok (.iaload, 1) := by decide +kernel
theorem dB_stepBack_38 : decode prog_2_method_9_code 38 = .ok (.iconst 1, 1) := by decide +kernel
theorem dB_stepBack_39 : decode prog_2_method_9_code 39 = .ok (.iadd, 1) := by decide +kernel
theorem dB_stepBack_40 : decode prog_2_method_9_code 40 = .ok (.iastore, 1) := by decide +kernel
theorem dB_stepBack_41 : decode prog_2_method_9_code 41 = .ok (.aload_n 0, 1) := by decide +kernel
theorem dB_stepBack_42 : decode prog_2_method_9_code 42 = .ok (.getfield 9, 3) := by decide +kernel
theorem dB_stepBack_45 : decode prog_2_method_9_code 45 = .ok (.aload_n 0, 1) := by decide +kernel
theorem dB_stepBack_46 : decode prog_2_method_9_code 46 = .ok (.getfield 23, 3) := by decide +kernel
theorem dB_stepBack_49 : decode prog_2_method_9_code 49 = .ok (.iload_n 1, 1) := by decide +kernel
theorem dB_stepBack_50 : decode prog_2_method_9_code 50 = .ok (.iastore, 1) := by decide +kernel
theorem dB_stepBack_51 : decode prog_2_method_9_code 51 = .ok (.return_, 1) := by decide +kernel
theorem dB_stepForward_0 : decode prog_2_method_10_code 0 = .ok (.aload_n 0, 1) := by decide +kernel
theorem dB_stepForward_1 : decode prog_2_method_10_code 1 = .ok (.getfield 20, 3) := by decide +kernel
theorem dB_stepForward_4 : decode prog_2_method_10_code 4 = .ok (.aload_n 0, 1) := by decide +kernel
theorem dB_stepForward_5 : decode prog_2_method_10_code 5 = .ok (.getfield 23, 3) := by decide +kernel
theorem dB_stepForward_8 : decode prog_2_method_10_code 8 = .ok (.dup2, 1) := by decide +kernel
theorem dB_stepForward_9 : decode prog_2_method_10_code 9 = .ok (.iaload, 1) := by decide +kernel
theorem dB_stepForward_10 : decode prog_2_method_10_code 10 = .ok (.iconst 1, 1) := by decide +kernel
theorem dB_stepForward_11 : decode prog_2_method_10_code 11 = .ok (.isub, 1) := by decide +kernel
theorem dB_stepForward_12 : decode prog_2_method_10_code 12 = .ok (.iastore, 1) := by decide +kernel
theorem dB_stepForward_13 : decode prog_2_method_10_code 13 = .ok (.aload_n 0, 1) := by decide +kernel
theorem dB_stepForward_14 : decode prog_2_method_10_code 14 = .ok (.getfield 9, 3) := by decide +kernel
theorem dB_stepForward_17 : decode prog_2_method_10_code 17 = .ok (.aload_n 0, 1) := by decide +kernel
theorem dB_stepForward_18 : decode prog_2_method_10_code 18 = .ok (.getfield 23, 3) := by decide +kernel
theorem dB_stepForward_21 : decode prog_2_method_10_code 21 = .ok (.aload_n 0, 1) := by decide +kernel
theorem dB_stepForward_22 : decode prog_2_method_10_code 22 = .ok (.getfield 17, 3) := by decide +kernel
theorem dB_stepForward_25 : decode prog_2_method_10_code 25 = .ok (.aload_n 0, 1) := by decide +kernel
theorem dB_stepForward_26 : decode prog_2_method_10_code 26 = .ok (.getfield 23, 3) := by decide +kernel
theorem dB_stepForward_29 : decode prog_2_method_10_code 29 = .ok (.aaload, 1) := by decide +kernel
theorem dB_stepForward_30 : decode prog_2_method_10_code 30 = .ok (.aload_n 0, 1) := by decide +kernel
theorem dB_stepForward_31 : decode prog_2_method_10_code 31 = .ok (.getfield 20, 3) := by decide +kernel
theorem dB_stepForward_34 : decode prog_2_method_10_code 34 = .ok (.aload_n 0, 1) := by decide +kernel
theorem dB_stepForward_35 : decode prog_2_method_10_code 35 = .ok (.getfield 23, 3) := by decide +kernel
theorem dB_stepForward_38 : decode prog_2_method_10_code 38 = .ok (.iaload, 1) := by decide +kernel
theorem dB_stepForward_39 : decode prog_2_method_10_code 39 = .ok (.iaload, 1) := by decide +kernel
theorem dB_stepForward_40 : decode prog_2_method_10_code 40 = .ok (.iastore, 1) := by decide +kernel
theorem dB_stepForward_41 : decode prog_2_method_10_code 41 = .ok (.return_, 1) := by decide +kernel
theorem dB_needed_0 : decode prog_2_method_11_code 0 = .ok (.lconst 0, 1) := by decide +kernel
theorem dB_needed_1 : decode prog_2_method_11_code 1 = .ok (.lstore_n 2, 1) := by decide +kernel
theorem dB_needed_2 : decode prog_2_method_11_code 2 = .ok (.iconst 0, 1) := by decide +kernel
theorem dB_needed_3 : decode prog_2_method_11_code 3 = .ok (.istore 4, 2) := by decide +kernel
theorem dB_needed_5 : decode prog_2_method_11_code 5 = .ok (.iload 4, 2) := by decide +kernel
theorem dB_needed_7 : decode prog_2_method_11_code 7 = .ok (.iconst 4, 1) := by decide +kernel
theorem dB_needed_8 : decode prog_2_method_11_code 8 = .ok (.if_icmp .ge 61, 3) := by decide +kernel
theorem dB_needed_11 : decode prog_2_method_11_code 11 = .ok (.lload_n 2, 1) := by decide +kernel
theorem dB_needed_12 : decode prog_2_method_11_code 12 = .ok (.aload_n 1, 1) := by decide +kernel
theorem dB_needed_13 : decode prog_2_method_11_code 13 = .ok (.aload_n 0, 1) := by decide +kernel
theorem dB_needed_14 : decode prog_2_method_11_code 14 = .ok (.getfield 9, 3) := by decide +kernel
theorem dB_needed_17 : decode prog_2_method_11_code 17 = .ok (.iload 4, 2) := by decide +kernel
theorem dB_needed_19 : decode prog_2_method_11_code 19 = .ok (.iaload, 1) := by decide +kernel
theorem dB_needed_20 : decode prog_2_method_11_code 20 = .ok (.invokevirtual 31, 3) := by decide +kernel
theorem dB_needed_23 : decode prog_2_method_11_code 23 = .ok (.lor, 1) := by decide +kernel
theorem dB_needed_24 : decode prog_2_method_11_code 24 = .ok (.lstore_n 2, 1) := by decide +kernel
theorem dB_needed_25 : decode prog_2_method_11_code 25 = .ok (.iconst 0, 1) := by decide +kernel
theorem dB_needed_26 : decode prog_2_method_11_code 26 = .ok (.istore 5, 2) := by decide +kernel
theorem dB_needed_28 : decode prog_2_method_11_code 28 = .ok (.iload 5, 2) := by decide +kernel
theorem dB_needed_30 : decode prog_2_method_11_code 30 = .ok (.aload_n 0, 1) := by decide +kernel
theorem dB_needed_31 : decode prog_2_method_11_code 31 = .ok (.getfield 20, 3) := by decide +kernel
theorem dB_needed_34 : decode prog_2_method_11_code 34 = .ok (.iload 4, 2) := by decide +kernel
theorem dB_needed_36 : decode prog_2_method_11_code 36 = .ok (.iaload, 1) := by decide +kernel
theorem dB_needed_37 : decode prog_2_method_11_code 37 = .ok (.if_icmp .ge 26, 3) := by decide +kernel
theorem dB_needed_40 : decode prog_2_method_11_code 40 = .ok (.lload_n 2, 1) := by decide +kernel
theorem dB_needed_41 : decode prog_2_method_11_code 41 = .ok (.aload_n 1, 1) := by decide +kernel
theorem dB_needed_42 : decode prog_2_method_11_code 42 = .ok (.aload_n 0, 1) := by decide +kernel
theorem dB_needed_43 : decode prog_2_method_11_code 43 = .ok (.getfield 17, 3) := by decide +kernel
theorem dB_needed_46 : decode prog_2_method_11_code 46 = .ok (.iload 4, 2) := by decide +kernel
theorem dB_needed_48 : decode prog_2_method_11_code 48 = .ok (.aaload, 1) := by decide +kernel
theorem dB_needed_49 : decode prog_2_method_11_code 49 = .ok (.iload 5, 2) := by decide +kernel
theorem dB_needed_51 : decode prog_2_method_11_code 51 = .ok (.iaload, 1) := by decide +kernel
theorem dB_needed_52 : decode prog_2_method_11_code 52 = .ok (.invokevirtual 31, 3) := by decide +kernel
theorem dB_needed_55 : decode prog_2_method_11_code 55 = .ok (.lor, 1) := by decide +kernel
theorem dB_needed_56 : decode prog_2_method_11_code 56 = .ok (.lstore_n 2, 1) := by decide +kernel
theorem dB_needed_57 : decode prog_2_method_11_code 57 = .ok (.iinc 5 1, 3) := by decide +kernel
theorem dB_needed_60 : decode prog_2_method_11_code 60 = .ok (.goto (-32), 3) := by decide +kernel
theorem dB_needed_63 : decode prog_2_method_11_code 63 = .ok (.iinc 4 1, 3) := by decide +kernel
theorem dB_needed_66 : decode prog_2_method_11_code 66 = .ok (.goto (-61), 3) := by decide +kernel
theorem dB_needed_69 : decode prog_2_method_11_code 69 = .ok (.lload_n 2, 1) := by decide +kernel
theorem dB_needed_70 : decode prog_2_method_11_code 70 = .ok (.lreturn, 1) := by decide +kernel
theorem dB_renumber_0 : decode prog_2_method_12_code 0 = .ok (.iconst 0, 1) := by decide +kernel
theorem dB_renumber_1 : decode prog_2_method_12_code 1 = .ok (.istore_n 2, 1) := by decide +kernel
theorem dB_renumber_2 : decode prog_2_method_12_code 2 = .ok (.iload_n 2, 1) := by decide +kernel
theorem dB_renumber_3 : decode prog_2_method_12_code 3 = .ok (.iconst 4, 1) := by decide +kernel
theorem dB_renumber_4 : decode prog_2_method_12_code 4 = .ok (.if_icmp .ge 63, 3) := by decide +kernel
theorem dB_renumber_7 : decode prog_2_method_12_code 7 = .ok (.aload_n 0, 1) := by decide +kernel
theorem dB_renumber_8 : decode prog_2_method_12_code 8 = .ok (.getfield 9, 3) := by decide +kernel
theorem dB_renumber_11 : decode prog_2_method_12_code 11 = .ok (.iload_n 2, 1) := by decide +kernel
theorem dB_renumber_12 : decode prog_2_method_12_code 12 = .ok (.aload_n 1, 1) := by decide +kernel
theorem dB_renumber_13 : decode prog_2_method_12_code 13 = .ok (.aload_n 0, 1) := by decide +kernel
theorem dB_renumber_14 : decode prog_2_method_12_code 14 = .ok (.getfield 9, 3) := by decide +kernel
theorem dB_renumber_17 : decode prog_2_method_12_code 17 = .ok (.iload_n 2, 1) := by decide +kernel
theorem dB_renumber_18 : decode prog_2_method_12_code 18 = .ok (.iaload, 1) := by decide +kernel
theorem dB_renumber_19 : decode prog_2_method_12_code 19 = .ok (.invokevirtual 37, 3) := by decide +kernel
theorem dB_renumber_22 : decode prog_2_method_12_code 22 = .ok (.iastore, 1) := by decide +kernel
theorem dB_renumber_23 : decode prog_2_method_12_code 23 = .ok (.iconst 0, 1) := by decide +kernel
theorem dB_renumber_24 : decode prog_2_method_12_code 24 = .ok (.istore_n 3, 1) := by decide +kernel
theorem dB_renumber_25 : decode prog_2_method_12_code 25 = .ok (.iload_n 3, 1) := by decide +kernel
theorem dB_renumber_26 : decode prog_2_method_12_code 26 = .ok (.aload_n 0, 1) := by decide +kernel
theorem dB_renumber_27 : decode prog_2_method_12_code 27 = .ok (.getfield 20, 3) := by decide +kernel
theorem dB_renumber_30 : decode prog_2_method_12_code 30 = .ok (.iload_n 2, 1) := by decide +kernel
theorem dB_renumber_31 : decode prog_2_method_12_code 31 = .ok (.iaload, 1) := by decide +kernel
theorem dB_renumber_32 : decode prog_2_method_12_code 32 = .ok (.if_icmp .ge 29, 3) := by decide +kernel
theorem dB_renumber_35 : decode prog_2_method_12_code 35 = .ok (.aload_n 0, 1) := by decide +kernel
theorem dB_renumber_36 : decode prog_2_method_12_code 36 = .ok (.getfield 17, 3) := by decide +kernel
theorem dB_renumber_39 : decode prog_2_method_12_code 39 = .ok (.iload_n 2, 1) := by decide +kernel
theorem dB_renumber_40 : decode prog_2_method_12_code 40 = .ok (.aaload, 1) := by decide +kernel
theorem dB_renumber_41 : decode prog_2_method_12_code 41 = .ok (.iload_n 3, 1) := by decide +kernel
theorem dB_renumber_42 : decode prog_2_method_12_code 42 = .ok (.aload_n 1, 1) := by decide +kernel
theorem dB_renumber_43 : decode prog_2_method_12_code 43 = .ok (.aload_n 0, 1) := by decide +kernel
theorem dB_renumber_44 : decode prog_2_method_12_code 44 = .ok (.getfield 17, 3) := by decide +kernel
theorem dB_renumber_47 : decode prog_2_method_12_code 47 = .ok (.iload_n 2, 1) := by decide +kernel
theorem dB_renumber_48 : decode prog_2_method_12_code 48 = .ok (.aaload, 1) := by decide +kernel
theorem dB_renumber_49 : decode prog_2_method_12_code 49 = .ok (.iload_n 3, 1) := by decide +kernel
theorem dB_renumber_50 : decode prog_2_method_12_code 50 = .ok (.iaload, 1) := by decide +kernel
theorem dB_renumber_51 : decode prog_2_method_12_code 51 = .ok (.invokevirtual 37, 3) := by decide +kernel
theorem dB_renumber_54 : decode prog_2_method_12_code 54 = .ok (.iastore, 1) := by decide +kernel
theorem dB_renumber_55 : decode prog_2_method_12_code 55 = .ok (.iinc 3 1, 3) := by decide +kernel
theorem dB_renumber_58 : decode prog_2_method_12_code 58 = .ok (.goto (-33), 3) := by decide +kernel
theorem dB_renumber_61 : decode prog_2_method_12_code 61 = .ok (.iinc 2 1, 3) := by decide +kernel
theorem dB_renumber_64 : decode prog_2_method_12_code 64 = .ok (.goto (-62), 3) := by decide +kernel
theorem dB_renumber_67 : decode prog_2_method_12_code 67 = .ok (.return_, 1) := by decide +kernel
theorem dF_init_0 : decode prog_4_method_1_code 0 = .ok (.aload_n 0, 1) := by decide +kernel
theorem dF_init_1 : decode prog_4_method_1_code 1 = .ok (.invokespecial 3, 3) := by decide +kernel
theorem dF_init_4 : decode prog_4_method_1_code 4 = .ok (.aload_n 0, 1) := by decide +kernel
theorem dF_init_5 : decode prog_4_method_1_code 5 = .ok (.bipush 24, 2) := by decide +kernel
theorem dF_init_7 : decode prog_4_method_1_code 7 = .ok (.newarray .long, 2) := by decide +kernel
theorem dF_init_9 : decode prog_4_method_1_code 9 = .ok (.putfield 9, 3) := by decide +kernel
theorem dF_init_12 : decode prog_4_method_1_code 12 = .ok (.return_, 1) := by decide +kernel
theorem dF_cell_0 : decode prog_4_method_2_code 0 = .ok (.aload_n 0, 1) := by decide +kernel
theorem dF_cell_1 : decode prog_4_method_2_code 1 = .ok (.getfield 9, 3) := by decide +kernel
theorem dF_cell_4 : decode prog_4_method_2_code 4 = .ok (.iload_n 1, 1) := by decide +kernel
theorem dF_cell_5 : decode prog_4_method_2_code 5 = .ok (.laload, 1) := by decide +kernel
theorem dF_cell_6 : decode prog_4_method_2_code 6 = .ok (.lreturn, 1) := by decide +kernel
theorem dF_setCell_0 : decode prog_4_method_3_code 0 = .ok (.aload_n 0, 1) := by decide +kernel
theorem dF_setCell_1 : decode prog_4_method_3_code 1 = .ok (.getfield 9, 3) := by decide +kernel
theorem dF_setCell_4 : decode prog_4_method_3_code 4 = .ok (.iload_n 1, 1) := by decide +kernel
theorem dF_setCell_5 : decode prog_4_method_3_code 5 = .ok (.lload_n 2, 1) := by decide +kernel
theorem dF_setCell_6 : decode prog_4_method_3_code 6 = .ok (.lastore, 1) := by decide +kernel
theorem dF_setCell_7 : decode prog_4_method_3_code 7 = .ok (.return_, 1) := by decide +kernel
theorem dF_length_0 : decode prog_4_method_4_code 0 = .ok (.aload_n 0, 1) := by decide +kernel
theorem dF_length_1 : decode prog_4_method_4_code 1 = .ok (.getfield 9, 3) := by decide +kernel
theorem dF_length_4 : decode prog_4_method_4_code 4 = .ok (.iload_n 1, 1) := by decide +kernel
theorem dF_length_5 : decode prog_4_method_4_code 5 = .ok (.laload, 1) := by decide +kernel
theorem dF_length_6 : decode prog_4_method_4_code 6 = .ok (.l2i, 1) := by decide +kernel
theorem dF_length_7 : decode prog_4_method_4_code 7 = .ok (.ireturn, 1) := by decide +kernel
theorem dF_hasPlace_0 : decode prog_4_method_5_code 0 = .ok (.iload_n 2, 1) := by decide +kernel
theorem dF_hasPlace_1 : decode prog_4_method_5_code 1 = .ok (.ifCond .lt 16, 3) := by decide +kernel
theorem dF_hasPlace_4 : decode prog_4_method_5_code 4 = .ok (.iload_n 2, 1) := by decide +kernel
theorem dF_hasPlace_5 : decode prog_4_method_5_code 5 = .ok (.aload_n 0, 1) := by decide +kernel
theorem dF_hasPlace_6 : decode prog_4_method_5_code 6 = .ok (.iload_n 1, 1) := by decide +kernel
theorem dF_hasPlace_7 : decode prog_4_method_5_code 7 = .ok (.invokevirtual 15, 3) := by decide +kernel
theorem dF_hasPlace_10 : decode prog_4_method_5_code 10 = .ok (.if_icmp .ge 7, 3) := by decide +kernel
theorem dF_hasPlace_13 : decode prog_4_method_5_code 13 = .ok (.iconst 1, 1) := by decide +kernel
theorem dF_hasPlace_14 : decode prog_4_method_5_code 14 = .ok (.goto 4, 3) := by decide +kernel
theorem dF_hasPlace_17 : decode prog_4_method_5_code 17 = .ok (.iconst 0, 1) := by decide +kernel
theorem dF_hasPlace_18 : decode prog_4_method_5_code 18 = .ok (.ireturn, 1) := by decide +kernel
theorem dF_intAt_0 : decode prog_4_method_6_code 0 = .ok (.aload_n 0, 1) := by decide +kernel
theorem dF_intAt_1 : decode prog_4_method_6_code 1 = .ok (.getfield 9, 3) := by decide +kernel
theorem dF_intAt_4 : decode prog_4_method_6_code 4 = .ok (.iload_n 1, 1) := by decide +kernel
theorem dF_intAt_5 : decode prog_4_method_6_code 5 = .ok (.invokestatic 19, 3) := by decide +kernel
theorem dF_intAt_8 : decode prog_4_method_6_code 8 = .ok (.iload_n 2, 1) := by decide +kernel
theorem dF_intAt_9 : decode prog_4_method_6_code 9 = .ok (.iadd, 1) := by decide +kernel
theorem dF_intAt_10 : decode prog_4_method_6_code 10 = .ok (.laload, 1) := by decide +kernel
theorem dF_intAt_11 : decode prog_4_method_6_code 11 = .ok (.lreturn, 1) := by decide +kernel
theorem dF_insertInt_0 : decode prog_4_method_7_code 0 = .ok (.iload_n 1, 1) := by decide +kernel
theorem dF_insertInt_1 : decode prog_4_method_7_code 1 = .ok (.invokestatic 19, 3) := by decide +kernel
theorem dF_insertInt_4 : decode prog_4_method_7_code 4 = .ok (.iload_n 2, 1) := by decide +kernel
theorem dF_insertInt_5 : decode prog_4_method_7_code 5 = .ok (.iadd, 1) := by decide +kernel
theorem dF_insertInt_6 : decode prog_4_method_7_code 6 = .ok (.istore 4, 2) := by decide +kernel
theorem dF_insertInt_8 : decode prog_4_method_7_code 8 = .ok (.aload_n 0, 1) := by decide +kernel
theorem dF_insertInt_9 : decode prog_4_method_7_code 9 = .ok (.getfield 9, 3) := by decide +kernel
theorem dF_insertInt_12 : decode prog_4_method_7_code 12 = .ok (.iload 4, 2) := by decide +kernel
theorem dF_insertInt_14 : decode prog_4_method_7_code 14 = .ok (.aload_n 0, 1) := by decide +kernel
theorem dF_insertInt_15 : decode prog_4_method_7_code 15 = .ok (.getfield 9, 3) := by decide +kernel
theorem dF_insertInt_18 : decode prog_4_method_7_code 18 = .ok (.iload 4, 2) := by decide +kernel
theorem dF_insertInt_20 : decode prog_4_method_7_code 20 = .ok (.iconst 1, 1) := by decide +kernel
theorem dF_insertInt_21 : decode prog_4_method_7_code 21 = .ok (.iadd, 1) := by decide +kernel
theorem dF_insertInt_22 : decode prog_4_method_7_code 22 = .ok (.aload_n 0, 1) := by decide +kernel
theorem dF_insertInt_23 : decode prog_4_method_7_code 23 = .ok (.iload_n 1, 1) := by decide +kernel
theorem dF_insertInt_24 : decode prog_4_method_7_code 24 = .ok (.invokevirtual 15, 3) := by decide +kernel
theorem dF_insertInt_27 : decode prog_4_method_7_code 27 = .ok (.iload_n 2, 1) := by decide +kernel
theorem dF_insertInt_28 : decode prog_4_method_7_code 28 = .ok (.isub, 1) := by decide +kernel
theorem dF_insertInt_29 : decode prog_4_method_7_code 29 = .ok (.invokestatic 22, 3) := by decide +kernel
theorem dF_insertInt_32 : decode prog_4_method_7_code 32 = .ok (.aload_n 0, 1) := by decide +kernel
theorem dF_insertInt_33 : decode prog_4_method_7_code 33 = .ok (.getfield 9, 3) := by decide +kernel
theorem dF_insertInt_36 : decode prog_4_method_7_code 36 = .ok (.iload 4, 2) := by decide +kernel
theorem dF_insertInt_38 : decode prog_4_method_7_code 38 = .ok (.iload_n 3, 1) := by decide +kernel
theorem dF_insertInt_39 : decode prog_4_method_7_code 39 = .ok (.i2l, 1) := by decide +kernel
theorem dF_insertInt_40 : decode prog_4_method_7_code 40 = .ok (.lastore, 1) := by decide +kernel
theorem dF_insertInt_41 : decode prog_4_method_7_code 41 = .ok (.aload_n 0, 1) := by decide +kernel
theorem dF_insertInt_42 : decode prog_4_method_7_code 42 = .ok (.getfield 9, 3) := by decide +kernel
theorem dF_insertInt_45 : decode prog_4_method_7_code 45 = .ok (.iload_n 1, 1) := by decide +kernel
theorem dF_insertInt_46 : decode prog_4_method_7_code 46 = .ok (.dup2, 1) := by decide +kernel
theorem dF_insertInt_47 : decode prog_4_method_7_code 47 = .ok (.laload, 1) := by decide +kernel
theorem dF_insertInt_48 : decode prog_4_method_7_code 48 = .ok (.lconst 1, 1) := by decide +kernel
theorem dF_insertInt_49 : decode prog_4_method_7_code 49 = .ok (.ladd, 1) := by decide +kernel
theorem dF_insertInt_50 : decode prog_4_method_7_code 50 = .ok (.lastore, 1) := by decide +kernel
theorem dF_insertInt_51 : decode prog_4_method_7_code 51 = .ok (.return_, 1) := by decide +kernel
theorem dF_removeInt_0 : decode prog_4_method_8_code 0 = .ok (.iload_n 1, 1) := by decide +kernel
theorem dF_removeInt_1 : decode prog_4_method_8_code 1 = .ok (.invokestatic 19, 3) := by decide +kernel
theorem dF_removeInt_4 : decode prog_4_method_8_code 4 = .ok (.iload_n 2, 1) := by decide +kernel
theorem dF_removeInt_5 : decode prog_4_method_8_code 5 = .ok (.iadd, 1) := by decide +kernel
theorem dF_removeInt_6 : decode prog_4_method_8_code 6 = .ok (.istore_n 3, 1) := by decide +kernel
theorem dF_removeInt_7 : decode prog_4_method_8_code 7 = .ok (.aload_n 0, 1) := by decide +kernel
theorem dF_removeInt_8 : decode prog_4_method_8_code 8 = .ok (.getfield 9, 3) := by decide +kernel
theorem dF_removeInt_11 : decode prog_4_method_8_code 11 = .ok (.iload_n 1, 1) := by decide +kernel
theorem dF_removeInt_12 : decode prog_4_method_8_code 12 = .ok (.dup2, 1) := by decide +kernel
theorem dF_removeInt_13 : decode prog_4_method_8_code 13 = .ok (.laload, 1) := by decide +kernel
theorem dF_removeInt_14 : decode prog_4_method_8_code 14 = .ok (.lconst 1, 1) := by decide +kernel
theorem dF_removeInt_15 : decode prog_4_method_8_code 15 = .ok (.lsub, 1) := by decide +kernel
theorem dF_removeInt_16 : decode prog_4_method_8_code 16 = .ok (.lastore, 1) := by decide +kernel
theorem dF_removeInt_17 : decode prog_4_method_8_code 17 = .ok (.aload_n 0, 1) := by decide +kernel
theorem dF_removeInt_18 : decode prog_4_method_8_code 18 = .ok (.getfield 9, 3) := by decide +kernel
theorem dF_removeInt_21 : decode prog_4_method_8_code 21 = .ok (.iload_n 3, 1) := by decide +kernel
theorem dF_removeInt_22 : decode prog_4_method_8_code 22 = .ok (.iconst 1, 1) := by decide +kernel
theorem dF_removeInt_23 : decode prog_4_method_8_code 23 = .ok (.iadd, 1) := by decide +kernel
theorem dF_removeInt_24 : decode prog_4_method_8_code 24 = .ok (.aload_n 0, 1) := by decide +kernel
theorem dF_removeInt_25 : decode prog_4_method_8_code 25 = .ok (.getfield 9, 3) := by decide +kernel
theorem dF_removeInt_28 : decode prog_4_method_8_code 28 = .ok (.iload_n 3, 1) := by decide +kernel
theorem dF_removeInt_29 : decode prog_4_method_8_code 29 = .ok (.aload_n 0, 1) := by decide +kernel
theorem dF_removeInt_30 : decode prog_4_method_8_code 30 = .ok (.iload_n 1, 1) := by decide +kernel
theorem dF_removeInt_31 : decode prog_4_method_8_code 31 = .ok (.invokevirtual 15, 3) := by decide +kernel
theorem dF_removeInt_34 : decode prog_4_method_8_code 34 = .ok (.iload_n 2, 1) := by decide +kernel
theorem dF_removeInt_35 : decode prog_4_method_8_code 35 = .ok (.isub, 1) := by decide +kernel
theorem dF_removeInt_36 : decode prog_4_method_8_code 36 = .ok (.invokestatic 22, 3) := by decide +kernel
theorem dF_removeInt_39 : decode prog_4_method_8_code 39 = .ok (.aload_n 0, 1) := by decide +kernel
theorem dF_removeInt_40 : decode prog_4_method_8_code 40 = .ok (.getfield 9, 3) := by decide +kernel
theorem dF_removeInt_43 : decode prog_4_method_8_code 43 = .ok (.iload_n 1, 1) := by decide +kernel
theorem dF_removeInt_44 : decode prog_4_method_8_code 44 = .ok (.invokestatic 19, 3) := by decide +kernel
theorem dF_removeInt_47 : decode prog_4_method_8_code 47 = .ok (.aload_n 0, 1) := by decide +kernel
theorem dF_removeInt_48 : decode prog_4_method_8_code 48 = .ok (.iload_n 1, 1) := by decide +kernel
theorem dF_removeInt_49 : decode prog_4_method_8_code 49 = .ok (.invokevirtual 15, 3) := by decide +kernel
theorem dF_removeInt_52 : decode prog_4_method_8_code 52 = .ok (.iadd, 1) := by decide +kernel
theorem dF_removeInt_53 : decode prog_4_method_8_code 53 = .ok (.lconst 0, 1) := by decide +kernel
theorem dF_removeInt_54 : decode prog_4_method_8_code 54 = .ok (.lastore, 1) := by decide +kernel
theorem dF_removeInt_55 : decode prog_4_method_8_code 55 = .ok (.return_, 1) := by decide +kernel
theorem dF_clearList_0 : decode prog_4_method_9_code 0 = .ok (.aload_n 0, 1) := by decide +kernel
theorem dF_clearList_1 : decode prog_4_method_9_code 1 = .ok (.getfield 9, 3) := by decide +kernel
theorem dF_clearList_4 : decode prog_4_method_9_code 4 = .ok (.iload_n 1, 1) := by decide +kernel
theorem dF_clearList_5 : decode prog_4_method_9_code 5 = .ok (.lconst 0, 1) := by decide +kernel
theorem dF_clearList_6 : decode prog_4_method_9_code 6 = .ok (.lastore, 1) := by decide +kernel
theorem dF_clearList_7 : decode prog_4_method_9_code 7 = .ok (.iconst 0, 1) := by decide +kernel
theorem dF_clearList_8 : decode prog_4_method_9_code 8 = .ok (.istore_n 2, 1) := by decide +kernel
theorem dF_clearList_9 : decode prog_4_method_9_code 9 = .ok (.iload_n 2, 1) := by decide +kernel
theorem dF_clearList_10 : decode prog_4_method_9_code 10 = .ok (.bipush 8, 2) := by decide +kernel
theorem dF_clearList_12 : decode prog_4_method_9_code 12 = .ok (.if_icmp .ge 21, 3) := by decide +kernel
theorem dF_clearList_15 : decode prog_4_method_9_code 15 = .ok (.aload_n 0, 1) := by decide +kernel
theorem dF_clearList_16 : decode prog_4_method_9_code 16 = .ok (.getfield 9, 3) := by decide +kernel
theorem dF_clearList_19 : decode prog_4_method_9_code 19 = .ok (.iload_n 1, 1) := by decide +kernel
theorem dF_clearList_20 : decode prog_4_method_9_code 20 = .ok (.invokestatic 19, 3) := by decide +kernel
theorem dF_clearList_23 : decode prog_4_method_9_code 23 = .ok (.iload_n 2, 1) := by decide +kernel
theorem dF_clearList_24 : decode prog_4_method_9_code 24 = .ok (.iadd, 1) := by decide +kernel
theorem dF_clearList_25 : decode prog_4_method_9_code 25 = .ok (.lconst 0, 1) := by decide +kernel
theorem dF_clearList_26 : decode prog_4_method_9_code 26 = .ok (.lastore, 1) := by decide +kernel
theorem dF_clearList_27 : decode prog_4_method_9_code 27 = .ok (.iinc 2 1, 3) := by decide +kernel
theorem dF_clearList_30 : decode prog_4_method_9_code 30 = .ok (.goto (-21), 3) := by decide +kernel
theorem dF_clearList_33 : decode prog_4_method_9_code 33 = .ok (.return_, 1) := by decide +kernel
theorem dF_append_0 : decode prog_4_method_10_code 0 = .ok (.iload_n 1, 1) := by decide +kernel
theorem dF_append_1 : decode prog_4_method_10_code 1 = .ok (.invokestatic 19, 3) := by decide +kernel
theorem dF_append_4 : decode prog_4_method_10_code 4 = .ok (.aload_n 0, 1) := by decide +kernel
theorem dF_append_5 : decode prog_4_method_10_code 5 = .ok (.iload_n 1, 1) := by decide +kernel
theorem dF_append_6 : decode prog_4_method_10_code 6 = .ok (.invokevirtual 15, 3) := by decide +kernel
theorem dF_append_9 : decode prog_4_method_10_code 9 = .ok (.iadd, 1) := by decide +kernel
theorem dF_append_10 : decode prog_4_method_10_code 10 = .ok (.istore 5, 2) := by decide +kernel
theorem dF_append_12 : decode prog_4_method_10_code 12 = .ok (.aload_n 2, 1) := by decide +kernel
theorem dF_append_13 : decode prog_4_method_10_code 13 = .ok (.getfield 9, 3) := by decide +kernel
theorem dF_append_16 : decode prog_4_method_10_code 16 = .ok (.iload_n 1, 1) := by decide +kernel
theorem dF_append_17 : decode prog_4_method_10_code 17 = .ok (.invokestatic 19, 3) := by decide +kernel
theorem dF_append_20 : decode prog_4_method_10_code 20 = .ok (.iload_n 3, 1) := by decide +kernel
theorem dF_append_21 : decode prog_4_method_10_code 21 = .ok (.iadd, 1) := by decide +kernel
theorem dF_append_22 : decode prog_4_method_10_code 22 = .ok (.aload_n 0, 1) := by decide +kernel
theorem dF_append_23 : decode prog_4_method_10_code 23 = .ok (.getfield 9, 3) := by decide +kernel
theorem dF_append_26 : decode prog_4_method_10_code 26 = .ok (.iload 5, 2) := by decide +kernel
theorem dF_append_28 : decode prog_4_method_10_code 28 = .ok (.iload 4, 2) := by decide +kernel
theorem dF_append_30 : decode prog_4_method_10_code 30 = .ok (.iload_n 3, 1) := by decide +kernel
theorem dF_append_31 : decode prog_4_method_10_code 31 = .ok (.isub, 1) := by decide +kernel
theorem dF_append_32 : decode prog_4_method_10_code 32 = .ok (.invokestatic 22, 3) := by decide +kernel
theorem dF_append_35 : decode prog_4_method_10_code 35 = .ok (.aload_n 0, 1) := by decide +kernel
theorem dF_append_36 : decode prog_4_method_10_code 36 = .ok (.getfield 9, 3) := by decide +kernel
theorem dF_append_39 : decode prog_4_method_10_code 39 = .ok (.iload_n 1, 1) := by decide +kernel
theorem dF_append_40 : decode prog_4_method_10_code 40 = .ok (.dup2, 1) := by decide +kernel
theorem dF_append_41 : decode prog_4_method_10_code 41 = .ok (.laload, 1) := by decide +kernel
theorem dF_append_42 : decode prog_4_method_10_code 42 = .ok (.iload 4, 2) := by decide +kernel
theorem dF_append_44 : decode prog_4_method_10_code 44 = .ok (.iload_n 3, 1) := by decide +kernel
theorem dF_append_45 : decode prog_4_method_10_code 45 = .ok (.isub, 1) := by decide +kernel
theorem dF_append_46 : decode prog_4_method_10_code 46 = .ok (.i2l, 1) := by decide +kernel
theorem dF_append_47 : decode prog_4_method_10_code 47 = .ok (.ladd, 1) := by decide +kernel
theorem dF_append_48 : decode prog_4_method_10_code 48 = .ok (.lastore, 1) := by decide +kernel
theorem dF_append_49 : decode prog_4_method_10_code 49 = .ok (.return_, 1) := by decide +kernel
theorem dF_isSame_0 : decode prog_4_method_11_code 0 = .ok (.aload_n 0, 1) := by decide +kernel
theorem dF_isSame_1 : decode prog_4_method_11_code 1 = .ok (.getfield 9, 3) := by decide +kernel
theorem dF_isSame_4 : decode prog_4_method_11_code 4 = .ok (.iload_n 2, 1) := by decide +kernel
theorem dF_isSame_5 : decode prog_4_method_11_code 5 = .ok (.laload, 1) := by decide +kernel
theorem dF_isSame_6 : decode prog_4_method_11_code 6 = .ok (.aload_n 1, 1) := by decide +kernel
theorem dF_isSame_7 : decode prog_4_method_11_code 7 = .ok (.getfield 9, 3) := by decide +kernel
theorem dF_isSame_10 : decode prog_4_method_11_code 10 = .ok (.iload_n 2, 1) := by decide +kernel
theorem dF_isSame_11 : decode prog_4_method_11_code 11 = .ok (.laload, 1) := by decide +kernel
theorem dF_isSame_12 : decode prog_4_method_11_code 12 = .ok (.lcmp, 1) := by decide +kernel
theorem dF_isSame_13 : decode prog_4_method_11_code 13 = .ok (.ifCond .eq 5, 3) := by decide +kernel
theorem dF_isSame_16 : decode prog_4_method_11_code 16 = .ok (.iconst 0, 1) := by decide +kernel
theorem dF_isSame_17 : decode prog_4_method_11_code 17 = .ok (.ireturn, 1) := by decide +kernel
theorem dF_isSame_18 : decode prog_4_method_11_code 18 = .ok (.iload_n 2, 1) := by decide +kernel
theorem dF_isSame_19 : decode prog_4_method_11_code 19 = .ok (.bipush 6, 2) := by decide +kernel
theorem dF_isSame_21 : decode prog_4_method_11_code 21 = .ok (.if_icmp .lt 15, 3) := by decide +kernel
theorem dF_isSame_24 : decode prog_4_method_11_code 24 = .ok (.aload_n 0, 1) := by decide +kernel
theorem dF_isSame_25 : decode prog_4_method_11_code 25 = .ok (.aload_n 1, 1) := by decide +kernel
theorem dF_isSame_26 : decode prog_4_method_11_code 26 = .ok (.iload_n 2, 1) := by decide +kernel
theorem dF_isSame_27 : decode prog_4_method_11_code 27 = .ok (.invokestatic 19, 3) := by decide +kernel
theorem dF_isSame_30 : decode prog_4_method_11_code 30 = .ok (.invokevirtual 28, 3) := by decide +kernel
theorem dF_isSame_33 : decode prog_4_method_11_code 33 = .ok (.ifCond .eq 7, 3) := by decide +kernel
theorem dF_isSame_36 : decode prog_4_method_11_code 36 = .ok (.iconst 1, 1) := by decide +kernel
theorem dF_isSame_37 : decode prog_4_method_11_code 37 = .ok (.goto 4, 3) := by decide +kernel
theorem dF_isSame_40 : decode prog_4_method_11_code 40 = .ok (.iconst 0, 1) := by decide +kernel
theorem dF_isSame_41 : decode prog_4_method_11_code 41 = .ok (.ireturn, 1) := by decide +kernel
theorem dF_sameAtBeginning_0 : decode prog_4_method_12_code 0 = .ok (.iload_n 2, 1) := by decide +kernel
theorem dF_sameAtBeginning_1 : decode prog_4_method_12_code 1 = .ok (.invokestatic 19, 3) := by decide +kernel
theorem dF_sameAtBeginning_4 : decode prog_4_method_12_code 4 = .ok (.istore_n 3, 1) := by decide +kernel
theorem dF_sameAtBeginning_5 : decode prog_4_method_12_code 5 = .ok (.aload_n 0, 1) := by decide +kernel
theorem dF_sameAtBeginning_6 : decode prog_4_method_12_code 6 = .ok (.iload_n 2, 1) := by decide +kernel
theorem dF_sameAtBeginning_7 : decode prog_4_method_12_code 7 = .ok (.invokevirtual 15, 3) := by decide +kernel
theorem dF_sameAtBeginning_10 : decode prog_4_method_12_code 10 = .ok (.aload_n 1, 1) := by decide +kernel
theorem dF_sameAtBeginning_11 : decode prog_4_method_12_code 11 = .ok (.iload_n 2, 1) := by decide +kernel
theorem dF_sameAtBeginning_12 : decode prog_4_method_12_code 12 = .ok (.invokevirtual 15, 3) := by decide +kernel
theorem dF_sameAtBeginning_15 : decode prog_4_method_12_code 15 = .ok (.invokestatic 32, 3) := by decide +kernel
theorem dF_sameAtBeginning_18 : decode prog_4_method_12_code 18 = .ok (.istore 4, 2) := by decide +kernel
theorem dF_sameAtBeginning_20 : decode prog_4_method_12_code 20 = .ok (.iconst 0, 1) := by decide +kernel
theorem dF_sameAtBeginning_21 : decode prog_4_method_12_code 21 = .ok (.istore 5, 2) := by decide +kernel
theorem dF_sameAtBeginning_23 : decode prog_4_method_12_code 23 = .ok (.iload 5, 2) := by decide +kernel
theorem dF_sameAtBeginning_25 : decode prog_4_method_12_code 25 = .ok (.iload 4, 2) := by decide +kernel
theorem dF_sameAtBeginning_27 : decode prog_4_method_12_code 27 = .ok (.if_icmp .ge 31, 3) := by decide +kernel
theorem dF_sameAtBeginning_30 : decode prog_4_method_12_code 30 = .ok (.aload_n 0, 1) := by decide +kernel
theorem dF_sameAtBeginning_31 : decode prog_4_method_12_code 31 = .ok (.getfield 9, 3) := by decide +kernel
theorem dF_sameAtBeginning_34 : decode prog_4_method_12_code 34 = .ok (.iload_n 3, 1) := by decide +kernel
theorem dF_sameAtBeginning_35 : decode prog_4_method_12_code 35 = .ok (.iload 5, 2) := by decide +kernel
theorem dF_sameAtBeginning_37 : decode prog_4_method_12_code 37 = .ok (.iadd, 1) := by decide +kernel
theorem dF_sameAtBeginning_38 : decode prog_4_method_12_code 38 = .ok (.laload, 1) := by decide +kernel
theorem dF_sameAtBeginning_39 : decode prog_4_method_12_code 39 = .ok (.aload_n 1, 1) := by decide +kernel
theorem dF_sameAtBeginning_40 : decode prog_4_method_12_code 40 = .ok (.getfield 9, 3) := by decide +kernel
theorem dF_sameAtBeginning_43 : decode prog_4_method_12_code 43 = .ok (.iload_n 3, 1) := by decide +kernel
theorem dF_sameAtBeginning_44 : decode prog_4_method_12_code 44 = .ok (.iload 5, 2) := by decide +kernel
theorem dF_sameAtBeginning_46 : decode prog_4_method_12_code 46 = .ok (.iadd, 1) := by decide +kernel
theorem dF_sameAtBeginning_47 : decode prog_4_method_12_code 47 = .ok (.laload, 1) := by decide +kernel
theorem dF_sameAtBeginning_48 : decode prog_4_method_12_code 48 = .ok (.lcmp, 1) := by decide +kernel
theorem dF_sameAtBeginning_49 : decode prog_4_method_12_code 49 = .ok (.ifCond .ne 9, 3) := by decide +kernel
theorem dF_sameAtBeginning_52 : decode prog_4_method_12_code 52 = .ok (.iinc 5 1, 3) := by decide +kernel
theorem dF_sameAtBeginning_55 : decode prog_4_method_12_code 55 = .ok (.goto (-32), 3) := by decide +kernel
theorem dF_sameAtBeginning_58 : decode prog_4_method_12_code 58 = .ok (.iload 5, 2) := by decide +kernel
theorem dF_sameAtBeginning_60 : decode prog_4_method_12_code 60 = .ok (.ireturn, 1) := by decide +kernel
theorem dF_sameAtEnd_0 : decode prog_4_method_13_code 0 = .ok (.iload_n 2, 1) := by decide +kernel
theorem dF_sameAtEnd_1 : decode prog_4_method_13_code 1 = .ok (.invokestatic 19, 3) := by decide +kernel
theorem dF_sameAtEnd_4 : decode prog_4_method_13_code 4 = .ok (.aload_n 0, 1) := by decide +kernel
theorem dF_sameAtEnd_5 : decode prog_4_method_13_code 5 = .ok (.iload_n 2, 1) := by decide +kernel
theorem dF_sameAtEnd_6 : decode prog_4_method_13_code 6 = .ok (.invokevirtual 15, 3) := by decide +kernel
theorem dF_sameAtEnd_9 : decode prog_4_method_13_code 9 = .ok (.iadd, 1) := by decide +kernel
theorem dF_sameAtEnd_10 : decode prog_4_method_13_code 10 = .ok (.iconst 1, 1) := by decide +kernel
theorem dF_sameAtEnd_11 : decode prog_4_method_13_code 11 = .ok (.isub, 1) := by decide +kernel
theorem dF_sameAtEnd_12 : decode prog_4_method_13_code 12 = .ok (.istore 4, 2) := by decide +kernel
theorem dF_sameAtEnd_14 : decode prog_4_method_13_code 14 = .ok (.iload_n 2, 1) := by decide +kernel
theorem dF_sameAtEnd_15 : decode prog_4_method_13_code 15 = .ok (.invokestatic 19, 3) := by decide +kernel
theorem dF_sameAtEnd_18 : decode prog_4_method_13_code 18 = .ok (.aload_n 1, 1) := by decide +kernel
theorem dF_sameAtEnd_19 : decode prog_4_method_13_code 19 = .ok (.iload_n 2, 1) := by decide +kernel
theorem dF_sameAtEnd_20 : decode prog_4_method_13_code 20 = .ok (.invokevirtual 15, 3) := by decide +kernel
theorem dF_sameAtEnd_23 : decode prog_4_method_13_code 23 = .ok (.iadd, 1) := by decide +kernel
theorem dF_sameAtEnd_24 : decode prog_4_method_13_code 24 = .ok (.iconst 1, 1) := by decide +kernel
theorem dF_sameAtEnd_25 : decode prog_4_method_13_code 25 = .ok (.isub, 1) := by decide +kernel
theorem dF_sameAtEnd_26 : decode prog_4_method_13_code 26 = .ok (.istore 5, 2) := by decide +kernel
theorem dF_sameAtEnd_28 : decode prog_4_method_13_code 28 = .ok (.aload_n 0, 1) := by decide +kernel
theorem dF_sameAtEnd_29 : decode prog_4_method_13_code 29 = .ok (.iload_n 2, 1) := by decide +kernel
theorem dF_sameAtEnd_30 : decode prog_4_method_13_code 30 = .ok (.invokevirtual 15, 3) := by decide +kernel
theorem dF_sameAtEnd_33 : decode prog_4_method_13_code 33 = .ok (.aload_n 1, 1) := by decide +kernel
theorem dF_sameAtEnd_34 : decode prog_4_method_13_code 34 = .ok (.iload_n 2, 1) := by decide +kernel
theorem dF_sameAtEnd_35 : decode prog_4_method_13_code 35 = .ok (.invokevirtual 15, 3) := by decide +kernel
theorem dF_sameAtEnd_38 : decode prog_4_method_13_code 38 = .ok (.invokestatic 32, 3) := by decide +kernel
theorem dF_sameAtEnd_41 : decode prog_4_method_13_code 41 = .ok (.iload_n 3, 1) := by decide +kernel
theorem dF_sameAtEnd_42 : decode prog_4_method_13_code 42 = .ok (.isub, 1) := by decide +kernel
theorem dF_sameAtEnd_43 : decode prog_4_method_13_code 43 = .ok (.istore 6, 2) := by decide +kernel
theorem dF_sameAtEnd_45 : decode prog_4_method_13_code 45 = .ok (.iconst 0, 1) := by decide +kernel
theorem dF_sameAtEnd_46 : decode prog_4_method_13_code 46 = .ok (.istore 7, 2) := by decide +kernel
theorem dF_sameAtEnd_48 : decode prog_4_method_13_code 48 = .ok (.iload 7, 2) := by decide +kernel
theorem dF_sameAtEnd_50 : decode prog_4_method_13_code 50 = .ok (.iload 6, 2) := by decide +kernel
theorem dF_sameAtEnd_52 : decode prog_4_method_13_code 52 = .ok (.if_icmp .ge 33, 3) := by decide +kernel
theorem dF_sameAtEnd_55 : decode prog_4_method_13_code 55 = .ok (.aload_n 0, 1) := by decide +kernel
theorem dF_sameAtEnd_56 : decode prog_4_method_13_code 56 = .ok (.getfield 9, 3) := by decide +kernel
theorem dF_sameAtEnd_59 : decode prog_4_method_13_code 59 = .ok (.iload 4, 2) := by decide +kernel
theorem dF_sameAtEnd_61 : decode prog_4_method_13_code 61 = .ok (.iload 7, 2) := by decide +kernel
theorem dF_sameAtEnd_63 : decode prog_4_method_13_code 63 = .ok (.isub, 1) := by decide +kernel
theorem dF_sameAtEnd_64 : decode prog_4_method_13_code 64 = .ok (.laload, 1) := by decide +kernel
theorem dF_sameAtEnd_65 : decode prog_4_method_13_code 65 = .ok (.aload_n 1, 1) := by decide +kernel
theorem dF_sameAtEnd_66 : decode prog_4_method_13_code 66 = .ok (.getfield 9, 3) := by decide +kernel
theorem dF_sameAtEnd_69 : decode prog_4_method_13_code 69 = .ok (.iload 5, 2) := by decide +kernel
theorem dF_sameAtEnd_71 : decode prog_4_method_13_code 71 = .ok (.iload 7, 2) := by decide +kernel
theorem dF_sameAtEnd_73 : decode prog_4_method_13_code 73 = .ok (.isub, 1) := by decide +kernel
theorem dF_sameAtEnd_74 : decode prog_4_method_13_code 74 = .ok (.laload, 1) := by decide +kernel
theorem dF_sameAtEnd_75 : decode prog_4_method_13_code 75 = .ok (.lcmp, 1) := by decide +kernel
theorem dF_sameAtEnd_76 : decode prog_4_method_13_code 76 = .ok (.ifCond .ne 9, 3) := by decide +kernel
theorem dF_sameAtEnd_79 : decode prog_4_method_13_code 79 = .ok (.iinc 7 1, 3) := by decide +kernel
theorem dF_sameAtEnd_82 : decode prog_4_method_13_code 82 = .ok (.goto (-34), 3) := by decide +kernel
theorem dF_sameAtEnd_85 : decode prog_4_method_13_code 85 = .ok (.iload 7, 2) := by decide +kernel
theorem dF_sameAtEnd_87 : decode prog_4_method_13_code 87 = .ok (.ireturn, 1) := by decide +kernel
theorem dF_take_0 : decode prog_4_method_14_code 0 = .ok (.aload_n 0, 1) := by decide +kernel
theorem dF_take_1 : decode prog_4_method_14_code 1 = .ok (.getfield 9, 3) := by decide +kernel
theorem dF_take_4 : decode prog_4_method_14_code 4 = .ok (.iload_n 2, 1) := by decide +kernel
theorem dF_take_5 : decode prog_4_method_14_code 5 = .ok (.aload_n 1, 1) := by decide +kernel
theorem dF_take_6 : decode prog_4_method_14_code 6 = .ok (.getfield 9, 3) := by decide +kernel
theorem dF_take_9 : decode prog_4_method_14_code 9 = .ok (.iload_n 2, 1) := by decide +kernel
theorem dF_take_10 : decode prog_4_method_14_code 10 = .ok (.laload, 1) := by decide +kernel
theorem dF_take_11 : decode prog_4_method_14_code 11 = .ok (.lastore, 1) := by decide +kernel
theorem dF_take_12 : decode prog_4_method_14_code 12 = .ok (.iload_n 2, 1) := by decide +kernel
theorem dF_take_13 : decode prog_4_method_14_code 13 = .ok (.bipush 6, 2) := by decide +kernel
theorem dF_take_15 : decode prog_4_method_14_code 15 = .ok (.if_icmp .lt 24, 3) := by decide +kernel
theorem dF_take_18 : decode prog_4_method_14_code 18 = .ok (.aload_n 1, 1) := by decide +kernel
theorem dF_take_19 : decode prog_4_method_14_code 19 = .ok (.getfield 9, 3) := by decide +kernel
theorem dF_take_22 : decode prog_4_method_14_code 22 = .ok (.iload_n 2, 1) := by decide +kernel
theorem dF_take_23 : decode prog_4_method_14_code 23 = .ok (.invokestatic 19, 3) := by decide +kernel
theorem dF_take_26 : decode prog_4_method_14_code 26 = .ok (.aload_n 0, 1) := by decide +kernel
theorem dF_take_27 : decode prog_4_method_14_code 27 = .ok (.getfield 9, 3) := by decide +kernel
theorem dF_take_30 : decode prog_4_method_14_code 30 = .ok (.iload_n 2, 1) := by decide +kernel
theorem dF_take_31 : decode prog_4_method_14_code 31 = .ok (.invokestatic 19, 3) := by decide +kernel
theorem dF_take_34 : decode prog_4_method_14_code 34 = .ok (.bipush 8, 2) := by decide +kernel
theorem dF_take_36 : decode prog_4_method_14_code 36 = .ok (.invokestatic 22, 3) := by decide +kernel
theorem dF_take_39 : decode prog_4_method_14_code 39 = .ok (.return_, 1) := by decide +kernel
theorem dF_takeAll_0 : decode prog_4_method_15_code 0 = .ok (.aload_n 1, 1) := by decide +kernel
theorem dF_takeAll_1 : decode prog_4_method_15_code 1 = .ok (.getfield 9, 3) := by decide +kernel
theorem dF_takeAll_4 : decode prog_4_method_15_code 4 = .ok (.iconst 0, 1) := by decide +kernel
theorem dF_takeAll_5 : decode prog_4_method_15_code 5 = .ok (.aload_n 0, 1) := by decide +kernel
theorem dF_takeAll_6 : decode prog_4_method_15_code 6 = .ok (.getfield 9, 3) := by decide +kernel
theorem dF_takeAll_9 : decode prog_4_method_15_code 9 = .ok (.iconst 0, 1) := by decide +kernel
theorem dF_takeAll_10 : decode prog_4_method_15_code 10 = .ok (.bipush 24, 2) := by decide +kernel
theorem dF_takeAll_12 : decode prog_4_method_15_code 12 = .ok (.invokestatic 22, 3) := by decide +kernel
theorem dF_takeAll_15 : decode prog_4_method_15_code 15 = .ok (.return_, 1) := by decide +kernel
theorem dF_hasSamePlaces_0 : decode prog_4_method_16_code 0 = .ok (.iload_n 2, 1) := by decide +kernel
theorem dF_hasSamePlaces_1 : decode prog_4_method_16_code 1 = .ok (.istore_n 3, 1) := by decide +kernel
theorem dF_hasSamePlaces_2 : decode prog_4_method_16_code 2 = .ok (.iload_n 3, 1) := by decide +kernel
theorem dF_hasSamePlaces_3 : decode prog_4_method_16_code 3 = .ok (.iload_n 2, 1) := by decide +kernel
theorem dF_hasSamePlaces_4 : decode prog_4_method_16_code 4 = .ok (.bipush 8, 2) := by decide +kernel
theorem dF_hasSamePlaces_6 : decode prog_4_method_16_code 6 = .ok (.iadd, 1) := by decide +kernel
theorem dF_hasSamePlaces_7 : decode prog_4_method_16_code 7 = .ok (.if_icmp .ge 27, 3) := by decide +kernel
theorem dF_hasSamePlaces_10 : decode prog_4_method_16_code 10 = .ok (.aload_n 0, 1) := by decide +kernel
theorem dF_hasSamePlaces_11 : decode prog_4_method_16_code 11 = .ok (.getfield 9, 3) := by decide +kernel
theorem dF_hasSamePlaces_14 : decode prog_4_method_16_code 14 = .ok (.iload_n 3, 1) := by decide +kernel
theorem dF_hasSamePlaces_15 : decode prog_4_method_16_code 15 = .ok (.laload, 1) := by decide +kernel
theorem dF_hasSamePlaces_16 : decode prog_4_method_16_code 16 = .ok (.aload_n 1, 1) := by decide +kernel
theorem dF_hasSamePlaces_17 : decode prog_4_method_16_code 17 = .ok (.getfield 9, 3) := by decide +kernel
theorem dF_hasSamePlaces_20 : decode prog_4_method_16_code 20 = .ok (.iload_n 3, 1) := by decide +kernel
theorem dF_hasSamePlaces_21 : decode prog_4_method_16_code 21 = .ok (.laload, 1) := by decide +kernel
theorem dF_hasSamePlaces_22 : decode prog_4_method_16_code 22 = .ok (.lcmp, 1) := by decide +kernel
theorem dF_hasSamePlaces_23 : decode prog_4_method_16_code 23 = .ok (.ifCond .eq 5, 3) := by decide +kernel
theorem dF_hasSamePlaces_26 : decode prog_4_method_16_code 26 = .ok (.iconst 0, 1) := by decide +kernel
theorem dF_hasSamePlaces_27 : decode prog_4_method_16_code 27 = .ok (.ireturn, 1) := by decide +kernel
theorem dF_hasSamePlaces_28 : decode prog_4_method_16_code 28 = .ok (.iinc 3 1, 3) := by decide +kernel
theorem dF_hasSamePlaces_31 : decode prog_4_method_16_code 31 = .ok (.goto (-29), 3) := by decide +kernel
theorem dF_hasSamePlaces_34 : decode prog_4_method_16_code 34 = .ok (.iconst 1, 1) := by decide +kernel
theorem dF_hasSamePlaces_35 : decode prog_4_method_16_code 35 = .ok (.ireturn, 1) := by decide +kernel
theorem dF_firstPlace_0 : decode prog_4_method_17_code 0 = .ok (.bipush 8, 2) := by decide +kernel
theorem dF_firstPlace_2 : decode prog_4_method_17_code 2 = .ok (.iload_n 0, 1) := by decide +kernel
theorem dF_firstPlace_3 : decode prog_4_method_17_code 3 = .ok (.bipush 6, 2) := by decide +kernel
theorem dF_firstPlace_5 : decode prog_4_method_17_code 5 = .ok (.isub, 1) := by decide +kernel
theorem dF_firstPlace_6 : decode prog_4_method_17_code 6 = .ok (.bipush 8, 2) := by decide +kernel
theorem dF_firstPlace_8 : decode prog_4_method_17_code 8 = .ok (.imul, 1) := by decide +kernel
theorem dF_firstPlace_9 : decode prog_4_method_17_code 9 = .ok (.iadd, 1) := by decide +kernel
theorem dF_firstPlace_10 : decode prog_4_method_17_code 10 = .ok (.ireturn, 1) := by decide +kernel
theorem dC_init_0 : decode prog_3_method_1_code 0 = .ok (.aload_n 0, 1) := by decide +kernel
theorem dC_init_1 : decode prog_3_method_1_code 1 = .ok (.invokespecial 1, 3) := by decide +kernel
theorem dC_init_4 : decode prog_3_method_1_code 4 = .ok (.aload_n 1, 1) := by decide +kernel
theorem dC_init_5 : decode prog_3_method_1_code 5 = .ok (.aload_n 2, 1) := by decide +kernel
theorem dC_init_6 : decode prog_3_method_1_code 6 = .ok (.iload_n 3, 1) := by decide +kernel
theorem dC_init_7 : decode prog_3_method_1_code 7 = .ok (.invokevirtual 7, 3) := by decide +kernel
theorem dC_init_10 : decode prog_3_method_1_code 10 = .ok (.istore 4, 2) := by decide +kernel
theorem dC_init_12 : decode prog_3_method_1_code 12 = .ok (.aload_n 1, 1) := by decide +kernel
theorem dC_init_13 : decode prog_3_method_1_code 13 = .ok (.aload_n 2, 1) := by decide +kernel
theorem dC_init_14 : decode prog_3_method_1_code 14 = .ok (.iload_n 3, 1) := by decide +kernel
theorem dC_init_15 : decode prog_3_method_1_code 15 = .ok (.iload 4, 2) := by decide +kernel
theorem dC_init_17 : decode prog_3_method_1_code 17 = .ok (.invokevirtual 13, 3) := by decide +kernel
theorem dC_init_20 : decode prog_3_method_1_code 20 = .ok (.istore 5, 2) := by decide +kernel
theorem dC_init_22 : decode prog_3_method_1_code 22 = .ok (.aload_n 0, 1) := by decide +kernel
theorem dC_init_23 : decode prog_3_method_1_code 23 = .ok (.aload_n 2, 1) := by decide +kernel
theorem dC_init_24 : decode prog_3_method_1_code 24 = .ok (.putfield 17, 3) := by decide +kernel
theorem dC_init_27 : decode prog_3_method_1_code 27 = .ok (.aload_n 0, 1) := by decide +kernel
theorem dC_init_28 : decode prog_3_method_1_code 28 = .ok (.iload 4, 2) := by decide +kernel
theorem dC_init_30 : decode prog_3_method_1_code 30 = .ok (.putfield 23, 3) := by decide +kernel
theorem dC_init_33 : decode prog_3_method_1_code 33 = .ok (.aload_n 0, 1) := by decide +kernel
theorem dC_init_34 : decode prog_3_method_1_code 34 = .ok (.aload_n 1, 1) := by decide +kernel
theorem dC_init_35 : decode prog_3_method_1_code 35 = .ok (.iload_n 3, 1) := by decide +kernel
theorem dC_init_36 : decode prog_3_method_1_code 36 = .ok (.invokevirtual 27, 3) := by decide +kernel
theorem dC_init_39 : decode prog_3_method_1_code 39 = .ok (.iload 5, 2) := by decide +kernel
theorem dC_init_41 : decode prog_3_method_1_code 41 = .ok (.isub, 1) := by decide +kernel
theorem dC_init_42 : decode prog_3_method_1_code 42 = .ok (.putfield 31, 3) := by decide +kernel
theorem dC_init_45 : decode prog_3_method_1_code 45 = .ok (.aload_n 0, 1) := by decide +kernel
theorem dC_init_46 : decode prog_3_method_1_code 46 = .ok (.aload_n 2, 1) := by decide +kernel
theorem dC_init_47 : decode prog_3_method_1_code 47 = .ok (.iload_n 3, 1) := by decide +kernel
theorem dC_init_48 : decode prog_3_method_1_code 48 = .ok (.invokevirtual 27, 3) := by decide +kernel
theorem dC_init_51 : decode prog_3_method_1_code 51 = .ok (.iload 5, 2) := by decide +kernel
theorem dC_init_53 : decode prog_3_method_1_code 53 = .ok (.isub, 1) := by decide +kernel
theorem dC_init_54 : decode prog_3_method_1_code 54 = .ok (.putfield 34, 3) := by decide +kernel
theorem dC_init_57 : decode prog_3_method_1_code 57 = .ok (.return_, 1) := by decide +kernel
theorem dC_growth_0 : decode prog_3_method_2_code 0 = .ok (.aload_n 0, 1) := by decide +kernel
theorem dC_growth_1 : decode prog_3_method_2_code 1 = .ok (.getfield 34, 3) := by decide +kernel
theorem dC_growth_4 : decode prog_3_method_2_code 4 = .ok (.aload_n 0, 1) := by decide +kernel
theorem dC_growth_5 : decode prog_3_method_2_code 5 = .ok (.getfield 31, 3) := by decide +kernel
theorem dC_growth_8 : decode prog_3_method_2_code 8 = .ok (.isub, 1) := by decide +kernel
theorem dC_growth_9 : decode prog_3_method_2_code 9 = .ok (.ireturn, 1) := by decide +kernel
theorem dJ_join_0 : decode prog_5_method_2_code 0 = .ok (.iconst 0, 1) := by decide +kernel
theorem dJ_join_1 : decode prog_5_method_2_code 1 = .ok (.istore 5, 2) := by decide +kernel
theorem dJ_join_3 : decode prog_5_method_2_code 3 = .ok (.iconst 0, 1) := by decide +kernel
theorem dJ_join_4 : decode prog_5_method_2_code 4 = .ok (.istore 6, 2) := by decide +kernel
theorem dJ_join_6 : decode prog_5_method_2_code 6 = .ok (.iload 6, 2) := by decide +kernel
theorem dJ_join_8 : decode prog_5_method_2_code 8 = .ok (.bipush 8, 2) := by decide +kernel
theorem dJ_join_10 : decode prog_5_method_2_code 10 = .ok (.if_icmp .ge 38, 3) := by decide +kernel
theorem dJ_join_13 : decode prog_5_method_2_code 13 = .ok (.aload_n 0, 1) := by decide +kernel
theorem dJ_join_14 : decode prog_5_method_2_code 14 = .ok (.aload_n 1, 1) := by decide +kernel
theorem dJ_join_15 : decode prog_5_method_2_code 15 = .ok (.aload_n 2, 1) := by decide +kernel
theorem dJ_join_16 : decode prog_5_method_2_code 16 = .ok (.aload_n 3, 1) := by decide +kernel
theorem dJ_join_17 : decode prog_5_method_2_code 17 = .ok (.iload 6, 2) := by decide +kernel
theorem dJ_join_19 : decode prog_5_method_2_code 19 = .ok (.invokestatic 9, 3) := by decide +kernel
theorem dJ_join_22 : decode prog_5_method_2_code 22 = .ok (.ifCond .ne 20, 3) := by decide +kernel
theorem dJ_join_25 : decode prog_5_method_2_code 25 = .ok (.aload_n 0, 1) := by decide +kernel
theorem dJ_join_26 : decode prog_5_method_2_code 26 = .ok (.aload 4, 2) := by decide +kernel
theorem dJ_join_28 : decode prog_5_method_2_code 28 = .ok (.iload 6, 2) := by decide +kernel
theorem dJ_join_30 : decode prog_5_method_2_code 30 = .ok (.invokevirtual 15, 3) := by decide +kernel
theorem dJ_join_33 : decode prog_5_method_2_code 33 = .ok (.iload 5, 2) := by decide +kernel
theorem dJ_join_35 : decode prog_5_method_2_code 35 = .ok (.iconst 1, 1) := by decide +kernel
theorem dJ_join_36 : decode prog_5_method_2_code 36 = .ok (.iload 6, 2) := by decide +kernel
theorem dJ_join_38 : decode prog_5_method_2_code 38 = .ok (.ishl, 1) := by decide +kernel
theorem dJ_join_39 : decode prog_5_method_2_code 39 = .ok (.ior, 1) := by decide +kernel
theorem dJ_join_40 : decode prog_5_method_2_code 40 = .ok (.istore 5, 2) := by decide +kernel
theorem dJ_join_42 : decode prog_5_method_2_code 42 = .ok (.iinc 6 1, 3) := by decide +kernel
theorem dJ_join_45 : decode prog_5_method_2_code 45 = .ok (.goto (-39), 3) := by decide +kernel
theorem dJ_join_48 : decode prog_5_method_2_code 48 = .ok (.iload 5, 2) := by decide +kernel
theorem dJ_join_50 : decode prog_5_method_2_code 50 = .ok (.ireturn, 1) := by decide +kernel
theorem dJ_joinField_0 : decode prog_5_method_3_code 0 = .ok (.iload 4, 2) := by decide +kernel
theorem dJ_joinField_2 : decode prog_5_method_3_code 2 = .ok (.iconst 2, 1) := by decide +kernel
theorem dJ_joinField_3 : decode prog_5_method_3_code 3 = .ok (.if_icmp .lt 37, 3) := by decide +kernel
theorem dJ_joinField_6 : decode prog_5_method_3_code 6 = .ok (.iload 4, 2) := by decide +kernel
theorem dJ_joinField_8 : decode prog_5_method_3_code 8 = .ok (.iconst 4, 1) := by decide +kernel
theorem dJ_joinField_9 : decode prog_5_method_3_code 9 = .ok (.if_icmp .ge 31, 3) := by decide +kernel
theorem dJ_joinField_12 : decode prog_5_method_3_code 12 = .ok (.aload_n 0, 1) := by decide +kernel
theorem dJ_joinField_13 : decode prog_5_method_3_code 13 = .ok (.iload 4, 2) := by decide +kernel
theorem dJ_joinField_15 : decode prog_5_method_3_code 15 = .ok (.aload_n 2, 1) := by decide +kernel
theorem dJ_joinField_16 : decode prog_5_method_3_code 16 = .ok (.iload 4, 2) := by decide +kernel
theorem dJ_joinField_18 : decode prog_5_method_3_code 18 = .ok (.invokevirtual 21, 3) := by decide +kernel
theorem dJ_joinField_21 : decode prog_5_method_3_code 21 = .ok (.aload_n 3, 1) := by decide +kernel
theorem dJ_joinField_22 : decode prog_5_method_3_code 22 = .ok (.iload 4, 2) := by decide +kernel
theorem dJ_joinField_24 : decode prog_5_method_3_code 24 = .ok (.invokevirtual 21, 3) := by decide +kernel
theorem dJ_joinField_27 : decode prog_5_method_3_code 27 = .ok (.ladd, 1) := by decide +kernel
theorem dJ_joinField_28 : decode prog_5_method_3_code 28 = .ok (.aload_n 1, 1) := by decide +kernel
theorem dJ_joinField_29 : decode prog_5_method_3_code 29 = .ok (.iload 4, 2) := by decide +kernel
theorem dJ_joinField_31 : decode prog_5_method_3_code 31 = .ok (.invokevirtual 21, 3) := by decide +kernel
theorem dJ_joinField_34 : decode prog_5_method_3_code 34 = .ok (.lsub, 1) := by decide +kernel
theorem dJ_joinField_35 : decode prog_5_method_3_code 35 = .ok (.invokevirtual 25, 3) := by decide +kernel
theorem dJ_joinField_38 : decode prog_5_method_3_code 38 = .ok (.iconst 1, 1) := by decide +kernel
theorem dJ_joinField_39 : decode prog_5_method_3_code 39 = .ok (.ireturn, 1) := by decide +kernel
theorem dJ_joinField_40 : decode prog_5_method_3_code 40 = .ok (.iload 4, 2) := by decide +kernel
theorem dJ_joinField_42 : decode prog_5_method_3_code 42 = .ok (.iconst 4, 1) := by decide +kernel
theorem dJ_joinField_43 : decode prog_5_method_3_code 43 = .ok (.if_icmp .lt 39, 3) := by decide +kernel
theorem dJ_joinField_46 : decode prog_5_method_3_code 46 = .ok (.iload 4, 2) := by decide +kernel
theorem dJ_joinField_48 : decode prog_5_method_3_code 48 = .ok (.bipush 6, 2) := by decide +kernel
theorem dJ_joinField_50 : decode prog_5_method_3_code 50 = .ok (.if_icmp .ge 32, 3) := by decide +kernel
theorem dJ_joinField_53 : decode prog_5_method_3_code 53 = .ok (.aload_n 0, 1) := by decide +kernel
theorem dJ_joinField_54 : decode prog_5_method_3_code 54 = .ok (.iload 4, 2) := by decide +kernel
theorem dJ_joinField_56 : decode prog_5_method_3_code 56 = .ok (.aload_n 1, 1) := by decide +kernel
theorem dJ_joinField_57 : decode prog_5_method_3_code 57 = .ok (.iload 4, 2) := by decide +kernel
theorem dJ_joinField_59 : decode prog_5_method_3_code 59 = .ok (.invokevirtual 21, 3) := by decide +kernel
theorem dJ_joinField_62 : decode prog_5_method_3_code 62 = .ok (.aload_n 2, 1) := by decide +kernel
theorem dJ_joinField_63 : decode prog_5_method_3_code 63 = .ok (.iload 4, 2) := by decide +kernel
theorem dJ_joinField_65 : decode prog_5_method_3_code 65 = .ok (.invokevirtual 21, 3) := by decide +kernel
theorem dJ_joinField_68 : decode prog_5_method_3_code 68 = .ok (.aload_n 3, 1) := by decide +kernel
theorem dJ_joinField_69 : decode prog_5_method_3_code 69 = .ok (.iload 4, 2) := by decide +kernel
theorem dJ_joinField_71 : decode prog_5_method_3_code 71 = .ok (.invokevirtual 21, 3) := by decide +kernel
theorem dJ_joinField_74 : decode prog_5_method_3_code 74 = .ok (.invokestatic 29, 3) := by decide +kernel
theorem dJ_joinField_77 : decode prog_5_method_3_code 77 = .ok (.invokevirtual 25, 3) := by decide +kernel
theorem dJ_joinField_80 : decode prog_5_method_3_code 80 = .ok (.iconst 1, 1) := by decide +kernel
theorem dJ_joinField_81 : decode prog_5_method_3_code 81 = .ok (.ireturn, 1) := by decide +kernel
theorem dJ_joinField_82 : decode prog_5_method_3_code 82 = .ok (.aload_n 2, 1) := by decide +kernel
theorem dJ_joinField_83 : decode prog_5_method_3_code 83 = .ok (.aload_n 1, 1) := by decide +kernel
theorem dJ_joinField_84 : decode prog_5_method_3_code 84 = .ok (.iload 4, 2) := by decide +kernel
theorem dJ_joinField_86 : decode prog_5_method_3_code 86 = .ok (.invokevirtual 33, 3) := by decide +kernel
theorem dJ_joinField_89 : decode prog_5_method_3_code 89 = .ok (.ifCond .eq 12, 3) := by decide +kernel
theorem dJ_joinField_92 : decode prog_5_method_3_code 92 = .ok (.aload_n 0, 1) := by decide +kernel
theorem dJ_joinField_93 : decode prog_5_method_3_code 93 = .ok (.aload_n 3, 1) := by decide +kernel
theorem dJ_joinField_94 : decode prog_5_method_3_code 94 = .ok (.iload 4, 2) := by decide +kernel
theorem dJ_joinField_96 : decode prog_5_method_3_code 96 = .ok (.invokevirtual 15, 3) := by decide +kernel
theorem dJ_joinField_99 : decode prog_5_method_3_code 99 = .ok (.iconst 1, 1) := by decide +kernel
theorem dJ_joinField_100 : decode prog_5_method_3_code 100 = .ok (.ireturn, 1) := by decide +kernel
theorem dJ_joinField_101 : decode prog_5_method_3_code 101 = .ok (.aload_n 3, 1) := by decide +kernel
theorem dJ_joinField_102 : decode prog_5_method_3_code 102 = .ok (.aload_n 1, 1) := by decide +kernel
theorem dJ_joinField_103 : decode prog_5_method_3_code 103 = .ok (.iload 4, 2) := by decide +kernel
theorem dJ_joinField_105 : decode prog_5_method_3_code 105 = .ok (.invokevirtual 33, 3) := by decide +kernel
theorem dJ_joinField_108 : decode prog_5_method_3_code 108 = .ok (.ifCond .ne 13, 3) := by decide +kernel
theorem dJ_joinField_111 : decode prog_5_method_3_code 111 = .ok (.aload_n 3, 1) := by decide +kernel
theorem dJ_joinField_112 : decode prog_5_method_3_code 112 = .ok (.aload_n 2, 1) := by decide +kernel
theorem dJ_joinField_113 : decode prog_5_method_3_code 113 = .ok (.iload 4, 2) := by decide +kernel
theorem dJ_joinField_115 : decode prog_5_method_3_code 115 = .ok (.invokevirtual 33, 3) := by decide +kernel
theorem dJ_joinField_118 : decode prog_5_method_3_code 118 = .ok (.ifCond .eq 12, 3) := by decide +kernel
theorem dJ_joinField_121 : decode prog_5_method_3_code 121 = .ok (.aload_n 0, 1) := by decide +kernel
theorem dJ_joinField_122 : decode prog_5_method_3_code 122 = .ok (.aload_n 2, 1) := by decide +kernel
theorem dJ_joinField_123 : decode prog_5_method_3_code 123 = .ok (.iload 4, 2) := by decide +kernel
theorem dJ_joinField_125 : decode prog_5_method_3_code 125 = .ok (.invokevirtual 15, 3) := by decide +kernel
theorem dJ_joinField_128 : decode prog_5_method_3_code 128 = .ok (.iconst 1, 1) := by decide +kernel
theorem dJ_joinField_129 : decode prog_5_method_3_code 129 = .ok (.ireturn, 1) := by decide +kernel
theorem dJ_joinField_130 : decode prog_5_method_3_code 130 = .ok (.iload 4, 2) := by decide +kernel
theorem dJ_joinField_132 : decode prog_5_method_3_code 132 = .ok (.bipush 6, 2) := by decide +kernel
theorem dJ_joinField_134 : decode prog_5_method_3_code 134 = .ok (.if_icmp .lt 39, 3) := by decide +kernel
theorem dJ_joinField_137 : decode prog_5_method_3_code 137 = .ok (.aload_n 0, 1) := by decide +kernel
theorem dJ_joinField_138 : decode prog_5_method_3_code 138 = .ok (.aload_n 1, 1) := by decide +kernel
theorem dJ_joinField_139 : decode prog_5_method_3_code 139 = .ok (.new 37, 3) := by decide +kernel
theorem dJ_joinField_142 : decode prog_5_method_3_code 142 = .ok (.dup, 1) := by decide +kernel
theorem dJ_joinField_143 : decode prog_5_method_3_code 143 = .ok (.aload_n 1, 1) := by decide +kernel
theorem dJ_joinField_144 : decode prog_5_method_3_code 144 = .ok (.aload_n 2, 1) := by decide +kernel
theorem dJ_joinField_145 : decode prog_5_method_3_code 145 = .ok (.iload 4, 2) := by decide +kernel
theorem dJ_joinField_147 : decode prog_5_method_3_code 147 = .ok (.invokespecial 39, 3) := by decide +kernel
theorem dJ_joinField_150 : decode prog_5_method_3_code 150 = .ok (.new 37, 3) := by decide +kernel
theorem dJ_joinField_153 : decode prog_5_method_3_code 153 = .ok (.dup, 1) := by decide +kernel
theorem dJ_joinField_154 : decode prog_5_method_3_code 154 = .ok (.aload_n 1, 1) := by decide +kernel
theorem dJ_joinField_155 : decode prog_5_method_3_code 155 = .ok (.aload_n 3, 1) := by decide +kernel
theorem dJ_joinField_156 : decode prog_5_method_3_code 156 = .ok (.iload 4, 2) := by decide +kernel
theorem dJ_joinField_158 : decode prog_5_method_3_code 158 = .ok (.invokespecial 39, 3) := by decide +kernel
theorem dJ_joinField_161 : decode prog_5_method_3_code 161 = .ok (.iload 4, 2) := by decide +kernel
theorem dJ_joinField_163 : decode prog_5_method_3_code 163 = .ok (.invokestatic 42, 3) := by decide +kernel
theorem dJ_joinField_166 : decode prog_5_method_3_code 166 = .ok (.ifCond .eq 7, 3) := by decide +kernel
theorem dJ_joinField_169 : decode prog_5_method_3_code 169 = .ok (.iconst 1, 1) := by decide +kernel
theorem dJ_joinField_170 : decode prog_5_method_3_code 170 = .ok (.goto 4, 3) := by decide +kernel
theorem dJ_joinField_173 : decode prog_5_method_3_code 173 = .ok (.iconst 0, 1) := by decide +kernel
theorem dJ_joinField_174 : decode prog_5_method_3_code 174 = .ok (.ireturn, 1) := by decide +kernel
theorem dJ_joinedSet_0 : decode prog_5_method_4_code 0 = .ok (.lload_n 2, 1) := by decide +kernel
theorem dJ_joinedSet_1 : decode prog_5_method_4_code 1 = .ok (.lload 4, 2) := by decide +kernel
theorem dJ_joinedSet_3 : decode prog_5_method_4_code 3 = .ok (.land, 1) := by decide +kernel
theorem dJ_joinedSet_4 : decode prog_5_method_4_code 4 = .ok (.lload_n 2, 1) := by decide +kernel
theorem dJ_joinedSet_5 : decode prog_5_method_4_code 5 = .ok (.lload 4, 2) := by decide +kernel
theorem dJ_joinedSet_7 : decode prog_5_method_4_code 7 = .ok (.lor, 1) := by decide +kernel
theorem dJ_joinedSet_8 : decode prog_5_method_4_code 8 = .ok (.lload_n 0, 1) := by decide +kernel
theorem dJ_joinedSet_9 : decode prog_5_method_4_code 9 = .ok (.ldc2_w 46, 3) := by decide +kernel
theorem dJ_joinedSet_12 : decode prog_5_method_4_code 12 = .ok (.lxor, 1) := by decide +kernel
theorem dJ_joinedSet_13 : decode prog_5_method_4_code 13 = .ok (.land, 1) := by decide +kernel
theorem dJ_joinedSet_14 : decode prog_5_method_4_code 14 = .ok (.lor, 1) := by decide +kernel
theorem dJ_joinedSet_15 : decode prog_5_method_4_code 15 = .ok (.lreturn, 1) := by decide +kernel
theorem dJ_joinList_0 : decode prog_5_method_5_code 0 = .ok (.aload_n 2, 1) := by decide +kernel
theorem dJ_joinList_1 : decode prog_5_method_5_code 1 = .ok (.getfield 48, 3) := by decide +kernel
theorem dJ_joinList_4 : decode prog_5_method_5_code 4 = .ok (.aload_n 3, 1) := by decide +kernel
theorem dJ_joinList_5 : decode prog_5_method_5_code 5 = .ok (.getfield 52, 3) := by decide +kernel
theorem dJ_joinList_8 : decode prog_5_method_5_code 8 = .ok (.if_icmp .gt 7, 3) := by decide +kernel
theorem dJ_joinList_11 : decode prog_5_method_5_code 11 = .ok (.iconst 1, 1) := by decide +kernel
theorem dJ_joinList_12 : decode prog_5_method_5_code 12 = .ok (.goto 4, 3) := by decide +kernel
theorem dJ_joinList_15 : decode prog_5_method_5_code 15 = .ok (.iconst 0, 1) := by decide +kernel
theorem dJ_joinList_16 : decode prog_5_method_5_code 16 = .ok (.istore 5, 2) := by decide +kernel
theorem dJ_joinList_18 : decode prog_5_method_5_code 18 = .ok (.aload_n 3, 1) := by decide +kernel
theorem dJ_joinList_19 : decode prog_5_method_5_code 19 = .ok (.getfield 48, 3) := by decide +kernel
theorem dJ_joinList_22 : decode prog_5_method_5_code 22 = .ok (.aload_n 2, 1) := by decide +kernel
theorem dJ_joinList_23 : decode prog_5_method_5_code 23 = .ok (.getfield 52, 3) := by decide +kernel
theorem dJ_joinList_26 : decode prog_5_method_5_code 26 = .ok (.if_icmp .gt 7, 3) := by decide +kernel
theorem dJ_joinList_29 : decode prog_5_method_5_code 29 = .ok (.iconst 1, 1) := by decide +kernel
theorem dJ_joinList_30 : decode prog_5_method_5_code 30 = .ok (.goto 4, 3) := by decide +kernel
theorem dJ_joinList_33 : decode prog_5_method_5_code 33 = .ok (.iconst 0, 1) := by decide +kernel
theorem dJ_joinList_34 : decode prog_5_method_5_code 34 = .ok (.istore 6, 2) := by decide +kernel
theorem dJ_joinList_36 : decode prog_5_method_5_code 36 = .ok (.iload 5, 2) := by decide +kernel
theorem dJ_joinList_38 : decode prog_5_method_5_code 38 = .ok (.iload 6, 2) := by decide +kernel
theorem dJ_joinList_40 : decode prog_5_method_5_code 40 = .ok (.if_icmp .eq 24, 3) := by decide +kernel
theorem dJ_joinList_43 : decode prog_5_method_5_code 43 = .ok (.aload_n 1, 1) := by decide +kernel
theorem dJ_joinList_44 : decode prog_5_method_5_code 44 = .ok (.iload 4, 2) := by decide +kernel
theorem dJ_joinList_46 : decode prog_5_method_5_code 46 = .ok (.invokevirtual 55, 3) := by decide +kernel
theorem dJ_joinList_49 : decode prog_5_method_5_code 49 = .ok (.aload_n 2, 1) := by decide +kernel
theorem dJ_joinList_50 : decode prog_5_method_5_code 50 = .ok (.invokevirtual 59, 3) := by decide +kernel
theorem dJ_joinList_53 : decode prog_5_method_5_code 53 = .ok (.iadd, 1) := by decide +kernel
theorem dJ_joinList_54 : decode prog_5_method_5_code 54 = .ok (.aload_n 3, 1) := by decide +kernel
theorem dJ_joinList_55 : decode prog_5_method_5_code 55 = .ok (.invokevirtual 59, 3) := by decide +kernel
theorem dJ_joinList_58 : decode prog_5_method_5_code 58 = .ok (.iadd, 1) := by decide +kernel
theorem dJ_joinList_59 : decode prog_5_method_5_code 59 = .ok (.bipush 8, 2) := by decide +kernel
theorem dJ_joinList_61 : decode prog_5_method_5_code 61 = .ok (.if_icmp .le 5, 3) := by decide +kernel
theorem dJ_joinList_64 : decode prog_5_method_5_code 64 = .ok (.iconst 0, 1) := by decide +kernel
theorem dJ_joinList_65 : decode prog_5_method_5_code 65 = .ok (.ireturn, 1) := by decide +kernel
theorem dJ_joinList_66 : decode prog_5_method_5_code 66 = .ok (.iload 5, 2) := by decide +kernel
theorem dJ_joinList_68 : decode prog_5_method_5_code 68 = .ok (.ifCond .eq 7, 3) := by decide +kernel
theorem dJ_joinList_71 : decode prog_5_method_5_code 71 = .ok (.aload_n 2, 1) := by decide +kernel
theorem dJ_joinList_72 : decode prog_5_method_5_code 72 = .ok (.goto 4, 3) := by decide +kernel
theorem dJ_joinList_75 : decode prog_5_method_5_code 75 = .ok (.aload_n 3, 1) := by decide +kernel
theorem dJ_joinList_76 : decode prog_5_method_5_code 76 = .ok (.astore 7, 2) := by decide +kernel
theorem dJ_joinList_78 : decode prog_5_method_5_code 78 = .ok (.iload 5, 2) := by decide +kernel
theorem dJ_joinList_80 : decode prog_5_method_5_code 80 = .ok (.ifCond .eq 7, 3) := by decide +kernel
theorem dJ_joinList_83 : decode prog_5_method_5_code 83 = .ok (.aload_n 3, 1) := by decide +kernel
theorem dJ_joinList_84 : decode prog_5_method_5_code 84 = .ok (.goto 4, 3) := by decide +kernel
theorem dJ_joinList_87 : decode prog_5_method_5_code 87 = .ok (.aload_n 2, 1) := by decide +kernel
theorem dJ_joinList_88 : decode prog_5_method_5_code 88 = .ok (.astore 8, 2) := by decide +kernel
theorem dJ_joinList_90 : decode prog_5_method_5_code 90 = .ok (.aload_n 0, 1) := by decide +kernel
theorem dJ_joinList_91 : decode prog_5_method_5_code 91 = .ok (.iload 4, 2) := by decide +kernel
theorem dJ_joinList_93 : decode prog_5_method_5_code 93 = .ok (.invokevirtual 63, 3) := by decide +kernel
theorem dJ_joinList_96 : decode prog_5_method_5_code 96 = .ok (.aload_n 0, 1) := by decide +kernel
theorem dJ_joinList_97 : decode prog_5_method_5_code 97 = .ok (.iload 4, 2) := by decide +kernel
theorem dJ_joinList_99 : decode prog_5_method_5_code 99 = .ok (.aload_n 1, 1) := by decide +kernel
theorem dJ_joinList_100 : decode prog_5_method_5_code 100 = .ok (.iconst 0, 1) := by decide +kernel
theorem dJ_joinList_101 : decode prog_5_method_5_code 101 = .ok (.aload 7, 2) := by decide +kernel
theorem dJ_joinList_103 : decode prog_5_method_5_code 103 = .ok (.getfield 52, 3) := by decide +kernel
theorem dJ_joinList_106 : decode prog_5_method_5_code 106 = .ok (.invokevirtual 67, 3) := by decide +kernel
theorem dJ_joinList_109 : decode prog_5_method_5_code 109 = .ok (.aload_n 0, 1) := by decide +kernel
theorem dJ_joinList_110 : decode prog_5_method_5_code 110 = .ok (.iload 4, 2) := by decide +kernel
theorem dJ_joinList_112 : decode prog_5_method_5_code 112 = .ok (.aload 7, 2) := by decide +kernel
theorem dJ_joinList_114 : decode prog_5_method_5_code 114 = .ok (.getfield 71, 3) := by decide +kernel
theorem dJ_joinList_117 : decode prog_5_method_5_code 117 = .ok (.aload 7, 2) := by decide +kernel
theorem dJ_joinList_119 : decode prog_5_method_5_code 119 = .ok (.getfield 52, 3) := by decide +kernel
theorem dJ_joinList_122 : decode prog_5_method_5_code 122 = .ok (.aload 7, 2) := by decide +kernel
theorem dJ_joinList_124 : decode prog_5_method_5_code 124 = .ok (.getfield 75, 3) := by decide +kernel
theorem dJ_joinList_127 : decode prog_5_method_5_code 127 = .ok (.invokevirtual 67, 3) := by decide +kernel
theorem dJ_joinList_130 : decode prog_5_method_5_code 130 = .ok (.aload_n 0, 1) := by decide +kernel
theorem dJ_joinList_131 : decode prog_5_method_5_code 131 = .ok (.iload 4, 2) := by decide +kernel
theorem dJ_joinList_133 : decode prog_5_method_5_code 133 = .ok (.aload_n 1, 1) := by decide +kernel
theorem dJ_joinList_134 : decode prog_5_method_5_code 134 = .ok (.aload 7, 2) := by decide +kernel
theorem dJ_joinList_136 : decode prog_5_method_5_code 136 = .ok (.getfield 48, 3) := by decide +kernel
theorem dJ_joinList_139 : decode prog_5_method_5_code 139 = .ok (.aload 8, 2) := by decide +kernel
theorem dJ_joinList_141 : decode prog_5_method_5_code 141 = .ok (.getfield 52, 3) := by decide +kernel
theorem dJ_joinList_144 : decode prog_5_method_5_code 144 = .ok (.invokevirtual 67, 3) := by decide +kernel
theorem dJ_joinList_147 : decode prog_5_method_5_code 147 = .ok (.aload_n 0, 1) := by decide +kernel
theorem dJ_joinList_148 : decode prog_5_method_5_code 148 = .ok (.iload 4, 2) := by decide +kernel
theorem dJ_joinList_150 : decode prog_5_method_5_code 150 = .ok (.aload 8, 2) := by decide +kernel
theorem dJ_joinList_152 : decode prog_5_method_5_code 152 = .ok (.getfield 71, 3) := by decide +kernel
theorem dJ_joinList_155 : decode prog_5_method_5_code 155 = .ok (.aload 8, 2) := by decide +kernel
theorem dJ_joinList_157 : decode prog_5_method_5_code 157 = .ok (.getfield 52, 3) := by decide +kernel
theorem dJ_joinList_160 : decode prog_5_method_5_code 160 = .ok (.aload 8, 2) := by decide +kernel
theorem dJ_joinList_162 : decode prog_5_method_5_code 162 = .ok (.getfield 75, 3) := by decide +kernel
theorem dJ_joinList_165 : decode prog_5_method_5_code 165 = .ok (.invokevirtual 67, 3) := by decide +kernel
theorem dJ_joinList_168 : decode prog_5_method_5_code 168 = .ok (.aload_n 0, 1) := by decide +kernel
theorem dJ_joinList_169 : decode prog_5_method_5_code 169 = .ok (.iload 4, 2) := by decide +kernel
theorem dJ_joinList_171 : decode prog_5_method_5_code 171 = .ok (.aload_n 1, 1) := by decide +kernel
theorem dJ_joinList_172 : decode prog_5_method_5_code 172 = .ok (.aload 8, 2) := by decide +kernel
theorem dJ_joinList_174 : decode prog_5_method_5_code 174 = .ok (.getfield 48, 3) := by decide +kernel
theorem dJ_joinList_177 : decode prog_5_method_5_code 177 = .ok (.aload_n 1, 1) := by decide +kernel
theorem dJ_joinList_178 : decode prog_5_method_5_code 178 = .ok (.iload 4, 2) := by decide +kernel
theorem dJ_joinList_180 : decode prog_5_method_5_code 180 = .ok (.invokevirtual 55, 3) := by decide +kernel
theorem dJ_joinList_183 : decode prog_5_method_5_code 183 = .ok (.invokevirtual 67, 3) := by decide +kernel
theorem dJ_joinList_186 : decode prog_5_method_5_code 186 = .ok (.iconst 1, 1) := by decide +kernel
theorem dJ_joinList_187 : decode prog_5_method_5_code 187 = .ok (.ireturn, 1) := by decide +kernel
