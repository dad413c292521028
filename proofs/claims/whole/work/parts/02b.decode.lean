theorem d_C_clear_10 : decode c_C_clear 10 = .ok (.bipush (-2), 2) := by decide +kernel
theorem d_C_clear_12 : decode c_C_clear 12 = .ok (.ireturn, 1) := by decide +kernel
theorem d_C_clear_13 : decode c_C_clear 13 = .ok (.aload_n 2, 1) := by decide +kernel
theorem d_C_clear_14 : decode c_C_clear 14 = .ok (.invokevirtual 84, 3) := by decide +kernel
theorem d_C_clear_17 : decode c_C_clear 17 = .ok (.istore_n 3, 1) := by decide +kernel
theorem d_C_clear_18 : decode c_C_clear 18 = .ok (.aload_n 2, 1) := by decide +kernel
theorem d_C_clear_19 : decode c_C_clear 19 = .ok (.invokevirtual 87, 3) := by decide +kernel
theorem d_C_clear_22 : decode c_C_clear 22 = .ok (.iload_n 3, 1) := by decide +kernel
theorem d_C_clear_23 : decode c_C_clear 23 = .ok (.ireturn, 1) := by decide +kernel
theorem d_C_read_0 : decode c_C_read 0 = .ok (.aload_n 0, 1) := by decide +kernel
theorem d_C_read_1 : decode c_C_read 1 = .ok (.iload_n 1, 1) := by decide +kernel
theorem d_C_read_2 : decode c_C_read 2 = .ok (.invokevirtual 27, 3) := by decide +kernel
theorem d_C_read_5 : decode c_C_read 5 = .ok (.astore_n 3, 1) := by decide +kernel
theorem d_C_read_6 : decode c_C_read 6 = .ok (.aload_n 3, 1) := by decide +kernel
theorem d_C_read_7 : decode c_C_read 7 = .ok (.iload_n 2, 1) := by decide +kernel
theorem d_C_read_8 : decode c_C_read 8 = .ok (.invokestatic 31, 3) := by decide +kernel
theorem d_C_read_11 : decode c_C_read 11 = .ok (.astore 4, 2) := by decide +kernel
theorem d_C_read_13 : decode c_C_read 13 = .ok (.aload_n 3, 1) := by decide +kernel
theorem d_C_read_14 : decode c_C_read 14 = .ok (.ifnull 8, 3) := by decide +kernel
theorem d_C_read_17 : decode c_C_read 17 = .ok (.aload 4, 2) := by decide +kernel
theorem d_C_read_19 : decode c_C_read 19 = .ok (.ifnonnull 6, 3) := by decide +kernel
theorem d_C_read_22 : decode c_C_read 22 = .ok (.bipush (-2), 2) := by decide +kernel
theorem d_C_read_24 : decode c_C_read 24 = .ok (.ireturn, 1) := by decide +kernel
theorem d_C_read_25 : decode c_C_read 25 = .ok (.aload_n 3, 1) := by decide +kernel
theorem d_C_read_26 : decode c_C_read 26 = .ok (.getfield 39, 3) := by decide +kernel
theorem d_C_read_29 : decode c_C_read 29 = .ok (.ifCond .ne 6, 3) := by decide +kernel
theorem d_C_read_32 : decode c_C_read 32 = .ok (.bipush (-3), 2) := by decide +kernel
theorem d_C_read_34 : decode c_C_read 34 = .ok (.ireturn, 1) := by decide +kernel
theorem d_C_read_35 : decode c_C_read 35 = .ok (.aload_n 0, 1) := by decide +kernel
theorem d_C_read_36 : decode c_C_read 36 = .ok (.aload 4, 2) := by decide +kernel
theorem d_C_read_38 : decode c_C_read 38 = .ok (.invokevirtual 90, 3) := by decide +kernel
theorem d_C_read_41 : decode c_C_read 41 = .ok (.ireturn, 1) := by decide +kernel
theorem d_C_change_0 : decode c_C_change 0 = .ok (.aload_n 0, 1) := by decide +kernel
theorem d_C_change_1 : decode c_C_change 1 = .ok (.iload_n 1, 1) := by decide +kernel
theorem d_C_change_2 : decode c_C_change 2 = .ok (.invokevirtual 27, 3) := by decide +kernel
theorem d_C_change_5 : decode c_C_change 5 = .ok (.astore 5, 2) := by decide +kernel
theorem d_C_change_7 : decode c_C_change 7 = .ok (.aload 5, 2) := by decide +kernel
theorem d_C_change_9 : decode c_C_change 9 = .ok (.iload_n 2, 1) := by decide +kernel
theorem d_C_change_10 : decode c_C_change 10 = .ok (.invokestatic 31, 3) := by decide +kernel
theorem d_C_change_13 : decode c_C_change 13 = .ok (.astore 6, 2) := by decide +kernel
theorem d_C_change_15 : decode c_C_change 15 = .ok (.aload 5, 2) := by decide +kernel
theorem d_C_change_17 : decode c_C_change 17 = .ok (.ifnull 25, 3) := by decide +kernel
theorem d_C_change_20 : decode c_C_change 20 = .ok (.aload 6, 2) := by decide +kernel
theorem d_C_change_22 : decode c_C_change 22 = .ok (.ifnull 20, 3) := by decide +kernel
theorem d_C_change_25 : decode c_C_change 25 = .ok (.aload 6, 2) := by decide +kernel
theorem d_C_change_27 : decode c_C_change 27 = .ok (.iload_n 3, 1) := by decide +kernel
theorem d_C_change_28 : decode c_C_change 28 = .ok (.invokevirtual 94, 3) := by decide +kernel
theorem d_C_change_31 : decode c_C_change 31 = .ok (.ifCond .eq 11, 3) := by decide +kernel
theorem d_C_change_34 : decode c_C_change 34 = .ok (.iload 4, 2) := by decide +kernel
theorem d_C_change_36 : decode c_C_change 36 = .ok (.invokestatic 98, 3) := by decide +kernel
theorem d_C_change_39 : decode c_C_change 39 = .ok (.ifCond .ne 6, 3) := by decide +kernel
theorem d_C_change_42 : decode c_C_change 42 = .ok (.bipush (-2), 2) := by decide +kernel
theorem d_C_change_44 : decode c_C_change 44 = .ok (.ireturn, 1) := by decide +kernel
theorem d_C_change_45 : decode c_C_change 45 = .ok (.aload 5, 2) := by decide +kernel
theorem d_C_change_47 : decode c_C_change 47 = .ok (.getfield 39, 3) := by decide +kernel
theorem d_C_change_50 : decode c_C_change 50 = .ok (.ifCond .ne 6, 3) := by decide +kernel
theorem d_C_change_53 : decode c_C_change 53 = .ok (.bipush (-3), 2) := by decide +kernel
theorem d_C_change_55 : decode c_C_change 55 = .ok (.ireturn, 1) := by decide +kernel
theorem d_C_change_56 : decode c_C_change 56 = .ok (.aload 6, 2) := by decide +kernel
theorem d_C_change_58 : decode c_C_change 58 = .ok (.iload_n 3, 1) := by decide +kernel
theorem d_C_change_59 : decode c_C_change 59 = .ok (.iload 4, 2) := by decide +kernel
theorem d_C_change_61 : decode c_C_change 61 = .ok (.invokevirtual 101, 3) := by decide +kernel
theorem d_C_change_64 : decode c_C_change 64 = .ok (.iconst 1, 1) := by decide +kernel
theorem d_C_change_65 : decode c_C_change 65 = .ok (.ireturn, 1) := by decide +kernel
theorem d_C_value_0 : decode c_C_value 0 = .ok (.aload_n 0, 1) := by decide +kernel
theorem d_C_value_1 : decode c_C_value 1 = .ok (.iload_n 1, 1) := by decide +kernel
theorem d_C_value_2 : decode c_C_value 2 = .ok (.invokevirtual 27, 3) := by decide +kernel
theorem d_C_value_5 : decode c_C_value 5 = .ok (.astore 4, 2) := by decide +kernel
theorem d_C_value_7 : decode c_C_value 7 = .ok (.aload 4, 2) := by decide +kernel
theorem d_C_value_9 : decode c_C_value 9 = .ok (.iload_n 2, 1) := by decide +kernel
theorem d_C_value_10 : decode c_C_value 10 = .ok (.invokestatic 31, 3) := by decide +kernel
theorem d_C_value_13 : decode c_C_value 13 = .ok (.astore 5, 2) := by decide +kernel
theorem d_C_value_15 : decode c_C_value 15 = .ok (.aload 4, 2) := by decide +kernel
theorem d_C_value_17 : decode c_C_value 17 = .ok (.ifnull 35, 3) := by decide +kernel
theorem d_C_value_20 : decode c_C_value 20 = .ok (.aload 5, 2) := by decide +kernel
theorem d_C_value_22 : decode c_C_value 22 = .ok (.ifnull 30, 3) := by decide +kernel
theorem d_C_value_25 : decode c_C_value 25 = .ok (.aload 5, 2) := by decide +kernel
theorem d_C_value_27 : decode c_C_value 27 = .ok (.iload_n 3, 1) := by decide +kernel
theorem d_C_value_28 : decode c_C_value 28 = .ok (.invokevirtual 94, 3) := by decide +kernel
theorem d_C_value_31 : decode c_C_value 31 = .ok (.ifCond .eq 21, 3) := by decide +kernel
theorem d_C_value_34 : decode c_C_value 34 = .ok (.aload 4, 2) := by decide +kernel
theorem d_C_value_36 : decode c_C_value 36 = .ok (.getfield 39, 3) := by decide +kernel
theorem d_C_value_39 : decode c_C_value 39 = .ok (.ifCond .eq 13, 3) := by decide +kernel
theorem d_C_value_42 : decode c_C_value 42 = .ok (.aload 5, 2) := by decide +kernel
theorem d_C_value_44 : decode c_C_value 44 = .ok (.getfield 105, 3) := by decide +kernel
theorem d_C_value_47 : decode c_C_value 47 = .ok (.iload_n 3, 1) := by decide +kernel
theorem d_C_value_48 : decode c_C_value 48 = .ok (.baload, 1) := by decide +kernel
theorem d_C_value_49 : decode c_C_value 49 = .ok (.ifCond .ne 6, 3) := by decide +kernel
theorem d_C_value_52 : decode c_C_value 52 = .ok (.ldc 111, 2) := by decide +kernel
theorem d_C_value_54 : decode c_C_value 54 = .ok (.ireturn, 1) := by decide +kernel
theorem d_C_value_55 : decode c_C_value 55 = .ok (.aload 5, 2) := by decide +kernel
theorem d_C_value_57 : decode c_C_value 57 = .ok (.getfield 112, 3) := by decide +kernel
theorem d_C_value_60 : decode c_C_value 60 = .ok (.iload_n 3, 1) := by decide +kernel
theorem d_C_value_61 : decode c_C_value 61 = .ok (.iaload, 1) := by decide +kernel
theorem d_C_value_62 : decode c_C_value 62 = .ok (.ireturn, 1) := by decide +kernel
theorem d_C_about_0 : decode c_C_about 0 = .ok (.aload_n 0, 1) := by decide +kernel
theorem d_C_about_1 : decode c_C_about 1 = .ok (.iload_n 1, 1) := by decide +kernel
theorem d_C_about_2 : decode c_C_about 2 = .ok (.invokevirtual 27, 3) := by decide +kernel
theorem d_C_about_5 : decode c_C_about 5 = .ok (.astore 4, 2) := by decide +kernel
theorem d_C_about_7 : decode c_C_about 7 = .ok (.aload 4, 2) := by decide +kernel
theorem d_C_about_9 : decode c_C_about 9 = .ok (.iload_n 2, 1) := by decide +kernel
theorem d_C_about_10 : decode c_C_about 10 = .ok (.invokestatic 31, 3) := by decide +kernel
theorem d_C_about_13 : decode c_C_about 13 = .ok (.astore 5, 2) := by decide +kernel
theorem d_C_about_15 : decode c_C_about 15 = .ok (.aload 4, 2) := by decide +kernel
theorem d_C_about_17 : decode c_C_about 17 = .ok (.ifnull 23, 3) := by decide +kernel
theorem d_C_about_20 : decode c_C_about 20 = .ok (.aload 5, 2) := by decide +kernel
theorem d_C_about_22 : decode c_C_about 22 = .ok (.ifnull 18, 3) := by decide +kernel
theorem d_C_about_25 : decode c_C_about 25 = .ok (.iload_n 3, 1) := by decide +kernel
theorem d_C_about_26 : decode c_C_about 26 = .ok (.invokestatic 115, 3) := by decide +kernel
theorem d_C_about_29 : decode c_C_about 29 = .ok (.ifCond .eq 11, 3) := by decide +kernel
theorem d_C_about_32 : decode c_C_about 32 = .ok (.aload 4, 2) := by decide +kernel
theorem d_C_about_34 : decode c_C_about 34 = .ok (.getfield 39, 3) := by decide +kernel
theorem d_C_about_37 : decode c_C_about 37 = .ok (.ifCond .ne 6, 3) := by decide +kernel
theorem d_C_about_40 : decode c_C_about 40 = .ok (.ldc 111, 2) := by decide +kernel
theorem d_C_about_42 : decode c_C_about 42 = .ok (.ireturn, 1) := by decide +kernel
theorem d_C_about_43 : decode c_C_about 43 = .ok (.aload 5, 2) := by decide +kernel
theorem d_C_about_45 : decode c_C_about 45 = .ok (.iload_n 3, 1) := by decide +kernel
theorem d_C_about_46 : decode c_C_about 46 = .ok (.invokevirtual 118, 3) := by decide +kernel
theorem d_C_about_49 : decode c_C_about 49 = .ok (.ireturn, 1) := by decide +kernel
theorem d_C_sum_0 : decode c_C_sum 0 = .ok (.aload_n 0, 1) := by decide +kernel
theorem d_C_sum_1 : decode c_C_sum 1 = .ok (.iload_n 1, 1) := by decide +kernel
theorem d_C_sum_2 : decode c_C_sum 2 = .ok (.invokevirtual 27, 3) := by decide +kernel
theorem d_C_sum_5 : decode c_C_sum 5 = .ok (.astore 4, 2) := by decide +kernel
theorem d_C_sum_7 : decode c_C_sum 7 = .ok (.aload 4, 2) := by decide +kernel
theorem d_C_sum_9 : decode c_C_sum 9 = .ok (.ifnull 25, 3) := by decide +kernel
theorem d_C_sum_12 : decode c_C_sum 12 = .ok (.iload_n 2, 1) := by decide +kernel
theorem d_C_sum_13 : decode c_C_sum 13 = .ok (.invokestatic 121, 3) := by decide +kernel
theorem d_C_sum_16 : decode c_C_sum 16 = .ok (.ifCond .eq 18, 3) := by decide +kernel
theorem d_C_sum_19 : decode c_C_sum 19 = .ok (.iload_n 3, 1) := by decide +kernel
theorem d_C_sum_20 : decode c_C_sum 20 = .ok (.invokestatic 124, 3) := by decide +kernel
theorem d_C_sum_23 : decode c_C_sum 23 = .ok (.ifCond .eq 11, 3) := by decide +kernel
theorem d_C_sum_26 : decode c_C_sum 26 = .ok (.aload 4, 2) := by decide +kernel
theorem d_C_sum_28 : decode c_C_sum 28 = .ok (.getfield 39, 3) := by decide +kernel
theorem d_C_sum_31 : decode c_C_sum 31 = .ok (.ifCond .ne 7, 3) := by decide +kernel
theorem d_C_sum_34 : decode c_C_sum 34 = .ok (.ldc2_w 129, 3) := by decide +kernel
theorem d_C_sum_37 : decode c_C_sum 37 = .ok (.lreturn, 1) := by decide +kernel
theorem d_C_sum_38 : decode c_C_sum 38 = .ok (.aload 4, 2) := by decide +kernel
theorem d_C_sum_40 : decode c_C_sum 40 = .ok (.iload_n 2, 1) := by decide +kernel
theorem d_C_sum_41 : decode c_C_sum 41 = .ok (.iload_n 3, 1) := by decide +kernel
theorem d_C_sum_42 : decode c_C_sum 42 = .ok (.invokevirtual 131, 3) := by decide +kernel
theorem d_C_sum_45 : decode c_C_sum 45 = .ok (.lreturn, 1) := by decide +kernel
theorem d_C_count_0 : decode c_C_count 0 = .ok (.aload_n 0, 1) := by decide +kernel
theorem d_C_count_1 : decode c_C_count 1 = .ok (.iload_n 1, 1) := by decide +kernel
theorem d_C_count_2 : decode c_C_count 2 = .ok (.invokevirtual 27, 3) := by decide +kernel
theorem d_C_count_5 : decode c_C_count 5 = .ok (.astore 4, 2) := by decide +kernel
theorem d_C_count_7 : decode c_C_count 7 = .ok (.aload 4, 2) := by decide +kernel
theorem d_C_count_9 : decode c_C_count 9 = .ok (.ifnull 10, 3) := by decide +kernel
theorem d_C_count_12 : decode c_C_count 12 = .ok (.iload_n 3, 1) := by decide +kernel
theorem d_C_count_13 : decode c_C_count 13 = .ok (.invokestatic 124, 3) := by decide +kernel
theorem d_C_count_16 : decode c_C_count 16 = .ok (.ifCond .ne 6, 3) := by decide +kernel
theorem d_C_count_19 : decode c_C_count 19 = .ok (.bipush (-2), 2) := by decide +kernel
theorem d_C_count_21 : decode c_C_count 21 = .ok (.ireturn, 1) := by decide +kernel
theorem d_C_count_22 : decode c_C_count 22 = .ok (.aload 4, 2) := by decide +kernel
theorem d_C_count_24 : decode c_C_count 24 = .ok (.getfield 39, 3) := by decide +kernel
theorem d_C_count_27 : decode c_C_count 27 = .ok (.ifCond .ne 6, 3) := by decide +kernel
theorem d_C_count_30 : decode c_C_count 30 = .ok (.bipush (-3), 2) := by decide +kernel
theorem d_C_count_32 : decode c_C_count 32 = .ok (.ireturn, 1) := by decide +kernel
theorem d_C_count_33 : decode c_C_count 33 = .ok (.aload 4, 2) := by decide +kernel
theorem d_C_count_35 : decode c_C_count 35 = .ok (.iload_n 2, 1) := by decide +kernel
theorem d_C_count_36 : decode c_C_count 36 = .ok (.iload_n 3, 1) := by decide +kernel
theorem d_C_count_37 : decode c_C_count 37 = .ok (.invokevirtual 135, 3) := by decide +kernel
theorem d_C_count_40 : decode c_C_count 40 = .ok (.ireturn, 1) := by decide +kernel
theorem d_C_join_0 : decode c_C_join 0 = .ok (.iload_n 1, 1) := by decide +kernel
theorem d_C_join_1 : decode c_C_join 1 = .ok (.invokestatic 124, 3) := by decide +kernel
theorem d_C_join_4 : decode c_C_join 4 = .ok (.ifCond .ne 6, 3) := by decide +kernel
theorem d_C_join_7 : decode c_C_join 7 = .ok (.bipush (-2), 2) := by decide +kernel
theorem d_C_join_9 : decode c_C_join 9 = .ok (.ireturn, 1) := by decide +kernel
theorem d_C_join_10 : decode c_C_join 10 = .ok (.aload_n 0, 1) := by decide +kernel
theorem d_C_join_11 : decode c_C_join 11 = .ok (.getfield 11, 3) := by decide +kernel
theorem d_C_join_14 : decode c_C_join 14 = .ok (.iconst 0, 1) := by decide +kernel
theorem d_C_join_15 : decode c_C_join 15 = .ok (.aaload, 1) := by decide +kernel
theorem d_C_join_16 : decode c_C_join 16 = .ok (.astore_n 2, 1) := by decide +kernel
theorem d_C_join_17 : decode c_C_join 17 = .ok (.aload_n 0, 1) := by decide +kernel
theorem d_C_join_18 : decode c_C_join 18 = .ok (.getfield 11, 3) := by decide +kernel
theorem d_C_join_21 : decode c_C_join 21 = .ok (.iconst 1, 1) := by decide +kernel
theorem d_C_join_22 : decode c_C_join 22 = .ok (.aaload, 1) := by decide +kernel
theorem d_C_join_23 : decode c_C_join 23 = .ok (.astore_n 3, 1) := by decide +kernel
theorem d_C_join_24 : decode c_C_join 24 = .ok (.aload_n 2, 1) := by decide +kernel
theorem d_C_join_25 : decode c_C_join 25 = .ok (.getfield 39, 3) := by decide +kernel
theorem d_C_join_28 : decode c_C_join 28 = .ok (.ifCond .eq 10, 3) := by decide +kernel
theorem d_C_join_31 : decode c_C_join 31 = .ok (.aload_n 3, 1) := by decide +kernel
theorem d_C_join_32 : decode c_C_join 32 = .ok (.getfield 39, 3) := by decide +kernel
theorem d_C_join_35 : decode c_C_join 35 = .ok (.ifCond .ne 6, 3) := by decide +kernel
theorem d_C_join_38 : decode c_C_join 38 = .ok (.bipush (-3), 2) := by decide +kernel
theorem d_C_join_40 : decode c_C_join 40 = .ok (.ireturn, 1) := by decide +kernel
theorem d_C_join_41 : decode c_C_join 41 = .ok (.aload_n 0, 1) := by decide +kernel
theorem d_C_join_42 : decode c_C_join 42 = .ok (.aload_n 2, 1) := by decide +kernel
theorem d_C_join_43 : decode c_C_join 43 = .ok (.aload_n 3, 1) := by decide +kernel
theorem d_C_join_44 : decode c_C_join 44 = .ok (.iconst 1, 1) := by decide +kernel
theorem d_C_join_45 : decode c_C_join 45 = .ok (.iconst 0, 1) := by decide +kernel
theorem d_C_join_46 : decode c_C_join 46 = .ok (.invokevirtual 139, 3) := by decide +kernel
theorem d_C_join_49 : decode c_C_join 49 = .ok (.istore 4, 2) := by decide +kernel
theorem d_C_join_51 : decode c_C_join 51 = .ok (.iload_n 1, 1) := by decide +kernel
theorem d_C_join_52 : decode c_C_join 52 = .ok (.ifCond .ne 6, 3) := by decide +kernel
theorem d_C_join_55 : decode c_C_join 55 = .ok (.iload 4, 2) := by decide +kernel
theorem d_C_join_57 : decode c_C_join 57 = .ok (.ireturn, 1) := by decide +kernel
theorem d_C_join_58 : decode c_C_join 58 = .ok (.aload_n 2, 1) := by decide +kernel
theorem d_C_join_59 : decode c_C_join 59 = .ok (.invokevirtual 84, 3) := by decide +kernel
theorem d_C_join_62 : decode c_C_join 62 = .ok (.aload_n 2, 1) := by decide +kernel
theorem d_C_join_63 : decode c_C_join 63 = .ok (.invokevirtual 80, 3) := by decide +kernel
theorem d_C_join_66 : decode c_C_join 66 = .ok (.isub, 1) := by decide +kernel
theorem d_C_join_67 : decode c_C_join 67 = .ok (.istore 5, 2) := by decide +kernel
theorem d_C_join_69 : decode c_C_join 69 = .ok (.aload_n 3, 1) := by decide +kernel
theorem d_C_join_70 : decode c_C_join 70 = .ok (.invokevirtual 84, 3) := by decide +kernel
theorem d_C_join_73 : decode c_C_join 73 = .ok (.aload_n 3, 1) := by decide +kernel
theorem d_C_join_74 : decode c_C_join 74 = .ok (.invokevirtual 80, 3) := by decide +kernel
theorem d_C_join_77 : decode c_C_join 77 = .ok (.isub, 1) := by decide +kernel
theorem d_C_join_78 : decode c_C_join 78 = .ok (.istore 6, 2) := by decide +kernel
theorem d_C_join_80 : decode c_C_join 80 = .ok (.iload 4, 2) := by decide +kernel
theorem d_C_join_82 : decode c_C_join 82 = .ok (.iload 5, 2) := by decide +kernel
theorem d_C_join_84 : decode c_C_join 84 = .ok (.aload_n 3, 1) := by decide +kernel
theorem d_C_join_85 : decode c_C_join 85 = .ok (.invokevirtual 84, 3) := by decide +kernel
theorem d_C_join_88 : decode c_C_join 88 = .ok (.imul, 1) := by decide +kernel
theorem d_C_join_89 : decode c_C_join 89 = .ok (.iadd, 1) := by decide +kernel
theorem d_C_join_90 : decode c_C_join 90 = .ok (.aload_n 2, 1) := by decide +kernel
theorem d_C_join_91 : decode c_C_join 91 = .ok (.invokevirtual 80, 3) := by decide +kernel
theorem d_C_join_94 : decode c_C_join 94 = .ok (.iload 6, 2) := by decide +kernel
theorem d_C_join_96 : decode c_C_join 96 = .ok (.imul, 1) := by decide +kernel
theorem d_C_join_97 : decode c_C_join 97 = .ok (.iadd, 1) := by decide +kernel
theorem d_C_join_98 : decode c_C_join 98 = .ok (.ireturn, 1) := by decide +kernel
theorem d_C_part_0 : decode c_C_part 0 = .ok (.iload_n 1, 1) := by decide +kernel
theorem d_C_part_1 : decode c_C_part 1 = .ok (.iload_n 2, 1) := by decide +kernel
theorem d_C_part_2 : decode c_C_part 2 = .ok (.invokestatic 143, 3) := by decide +kernel
theorem d_C_part_5 : decode c_C_part 5 = .ok (.ifCond .ne 6, 3) := by decide +kernel
theorem d_C_part_8 : decode c_C_part 8 = .ok (.bipush (-2), 2) := by decide +kernel
theorem d_C_part_10 : decode c_C_part 10 = .ok (.ireturn, 1) := by decide +kernel
theorem d_C_part_11 : decode c_C_part 11 = .ok (.aload_n 0, 1) := by decide +kernel
theorem d_C_part_12 : decode c_C_part 12 = .ok (.getfield 11, 3) := by decide +kernel
theorem d_C_part_15 : decode c_C_part 15 = .ok (.iconst 0, 1) := by decide +kernel
theorem d_C_part_16 : decode c_C_part 16 = .ok (.aaload, 1) := by decide +kernel
theorem d_C_part_17 : decode c_C_part 17 = .ok (.astore_n 3, 1) := by decide +kernel
theorem d_C_part_18 : decode c_C_part 18 = .ok (.aload_n 0, 1) := by decide +kernel
theorem d_C_part_19 : decode c_C_part 19 = .ok (.getfield 11, 3) := by decide +kernel
theorem d_C_part_22 : decode c_C_part 22 = .ok (.iconst 1, 1) := by decide +kernel
theorem d_C_part_23 : decode c_C_part 23 = .ok (.aaload, 1) := by decide +kernel
theorem d_C_part_24 : decode c_C_part 24 = .ok (.astore 4, 2) := by decide +kernel
theorem d_C_part_26 : decode c_C_part 26 = .ok (.aload_n 3, 1) := by decide +kernel
theorem d_C_part_27 : decode c_C_part 27 = .ok (.getfield 39, 3) := by decide +kernel
theorem d_C_part_30 : decode c_C_part 30 = .ok (.ifCond .eq 11, 3) := by decide +kernel
theorem d_C_part_33 : decode c_C_part 33 = .ok (.aload 4, 2) := by decide +kernel
theorem d_C_part_35 : decode c_C_part 35 = .ok (.getfield 39, 3) := by decide +kernel
theorem d_C_part_38 : decode c_C_part 38 = .ok (.ifCond .ne 6, 3) := by decide +kernel
theorem d_C_part_41 : decode c_C_part 41 = .ok (.bipush (-3), 2) := by decide +kernel
theorem d_C_part_43 : decode c_C_part 43 = .ok (.ireturn, 1) := by decide +kernel
theorem d_C_part_44 : decode c_C_part 44 = .ok (.aload_n 3, 1) := by decide +kernel
theorem d_C_part_45 : decode c_C_part 45 = .ok (.iload_n 1, 1) := by decide +kernel
theorem d_C_part_46 : decode c_C_part 46 = .ok (.iload_n 2, 1) := by decide +kernel
theorem d_C_part_47 : decode c_C_part 47 = .ok (.invokevirtual 147, 3) := by decide +kernel
theorem d_C_part_50 : decode c_C_part 50 = .ok (.ifCond .eq 13, 3) := by decide +kernel
theorem d_C_part_53 : decode c_C_part 53 = .ok (.aload 4, 2) := by decide +kernel
theorem d_C_part_55 : decode c_C_part 55 = .ok (.iload_n 1, 1) := by decide +kernel
theorem d_C_part_56 : decode c_C_part 56 = .ok (.iload_n 2, 1) := by decide +kernel
theorem d_C_part_57 : decode c_C_part 57 = .ok (.invokevirtual 147, 3) := by decide +kernel
theorem d_C_part_60 : decode c_C_part 60 = .ok (.ifCond .ne 6, 3) := by decide +kernel
theorem d_C_part_63 : decode c_C_part 63 = .ok (.bipush (-5), 2) := by decide +kernel
theorem d_C_part_65 : decode c_C_part 65 = .ok (.ireturn, 1) := by decide +kernel
theorem d_C_part_66 : decode c_C_part 66 = .ok (.aload_n 0, 1) := by decide +kernel
theorem d_C_part_67 : decode c_C_part 67 = .ok (.aload_n 3, 1) := by decide +kernel
theorem d_C_part_68 : decode c_C_part 68 = .ok (.aload 4, 2) := by decide +kernel
theorem d_C_part_70 : decode c_C_part 70 = .ok (.iload_n 1, 1) := by decide +kernel
theorem d_C_part_71 : decode c_C_part 71 = .ok (.iload_n 2, 1) := by decide +kernel
theorem d_C_part_72 : decode c_C_part 72 = .ok (.invokevirtual 139, 3) := by decide +kernel
theorem d_C_part_75 : decode c_C_part 75 = .ok (.ireturn, 1) := by decide +kernel
theorem d_C_next_0 : decode c_C_next 0 = .ok (.aload_n 0, 1) := by decide +kernel
theorem d_C_next_1 : decode c_C_next 1 = .ok (.iload_n 1, 1) := by decide +kernel
theorem d_C_next_2 : decode c_C_next 2 = .ok (.invokevirtual 27, 3) := by decide +kernel
theorem d_C_next_5 : decode c_C_next 5 = .ok (.astore_n 3, 1) := by decide +kernel
theorem d_C_next_6 : decode c_C_next 6 = .ok (.aload_n 3, 1) := by decide +kernel
theorem d_C_next_7 : decode c_C_next 7 = .ok (.ifnull 10, 3) := by decide +kernel
theorem d_C_next_10 : decode c_C_next 10 = .ok (.iload_n 2, 1) := by decide +kernel
theorem d_C_next_11 : decode c_C_next 11 = .ok (.invokestatic 121, 3) := by decide +kernel
theorem d_C_next_14 : decode c_C_next 14 = .ok (.ifCond .ne 6, 3) := by decide +kernel
theorem d_C_next_17 : decode c_C_next 17 = .ok (.bipush (-2), 2) := by decide +kernel
theorem d_C_next_19 : decode c_C_next 19 = .ok (.ireturn, 1) := by decide +kernel
theorem d_C_next_20 : decode c_C_next 20 = .ok (.aload_n 3, 1) := by decide +kernel
theorem d_C_next_21 : decode c_C_next 21 = .ok (.getfield 39, 3) := by decide +kernel
theorem d_C_next_24 : decode c_C_next 24 = .ok (.ifCond .ne 6, 3) := by decide +kernel
theorem d_C_next_27 : decode c_C_next 27 = .ok (.bipush (-3), 2) := by decide +kernel
theorem d_C_next_29 : decode c_C_next 29 = .ok (.ireturn, 1) := by decide +kernel
theorem d_C_next_30 : decode c_C_next 30 = .ok (.aload_n 3, 1) := by decide +kernel
theorem d_C_next_31 : decode c_C_next 31 = .ok (.iload_n 2, 1) := by decide +kernel
theorem d_C_next_32 : decode c_C_next 32 = .ok (.invokevirtual 150, 3) := by decide +kernel
theorem d_C_next_35 : decode c_C_next 35 = .ok (.ireturn, 1) := by decide +kernel
theorem d_C_refine_0 : decode c_C_refine 0 = .ok (.aload_n 0, 1) := by decide +kernel
theorem d_C_refine_1 : decode c_C_refine 1 = .ok (.iload_n 1, 1) := by decide +kernel
theorem d_C_refine_2 : decode c_C_refine 2 = .ok (.invokevirtual 27, 3) := by decide +kernel
theorem d_C_refine_5 : decode c_C_refine 5 = .ok (.astore 4, 2) := by decide +kernel
theorem d_C_refine_7 : decode c_C_refine 7 = .ok (.aload 4, 2) := by decide +kernel
theorem d_C_refine_9 : decode c_C_refine 9 = .ok (.ifnull 20, 3) := by decide +kernel
theorem d_C_refine_12 : decode c_C_refine 12 = .ok (.iload_n 2, 1) := by decide +kernel
theorem d_C_refine_13 : decode c_C_refine 13 = .ok (.invokestatic 121, 3) := by decide +kernel
theorem d_C_refine_16 : decode c_C_refine 16 = .ok (.ifCond .eq 13, 3) := by decide +kernel
theorem d_C_refine_19 : decode c_C_refine 19 = .ok (.iload_n 3, 1) := by decide +kernel
theorem d_C_refine_20 : decode c_C_refine 20 = .ok (.ifCond .lt 9, 3) := by decide +kernel
theorem d_C_refine_23 : decode c_C_refine 23 = .ok (.iload_n 3, 1) := by decide +kernel
theorem d_C_refine_24 : decode c_C_refine 24 = .ok (.ldc 153, 2) := by decide +kernel
theorem d_C_refine_26 : decode c_C_refine 26 = .ok (.if_icmp .le 6, 3) := by decide +kernel
theorem d_C_refine_29 : decode c_C_refine 29 = .ok (.bipush (-2), 2) := by decide +kernel
theorem d_C_refine_31 : decode c_C_refine 31 = .ok (.ireturn, 1) := by decide +kernel
theorem d_C_refine_32 : decode c_C_refine 32 = .ok (.aload 4, 2) := by decide +kernel
theorem d_C_refine_34 : decode c_C_refine 34 = .ok (.getfield 39, 3) := by decide +kernel
theorem d_C_refine_37 : decode c_C_refine 37 = .ok (.ifCond .ne 6, 3) := by decide +kernel
theorem d_C_refine_40 : decode c_C_refine 40 = .ok (.bipush (-3), 2) := by decide +kernel
theorem d_C_refine_42 : decode c_C_refine 42 = .ok (.ireturn, 1) := by decide +kernel
theorem d_C_refine_43 : decode c_C_refine 43 = .ok (.iconst 0, 1) := by decide +kernel
theorem d_C_refine_44 : decode c_C_refine 44 = .ok (.istore 5, 2) := by decide +kernel
theorem d_C_refine_46 : decode c_C_refine 46 = .ok (.iload 5, 2) := by decide +kernel
theorem d_C_refine_48 : decode c_C_refine 48 = .ok (.bipush 8, 2) := by decide +kernel
theorem d_C_refine_50 : decode c_C_refine 50 = .ok (.if_icmp .ge 49, 3) := by decide +kernel
theorem d_C_refine_53 : decode c_C_refine 53 = .ok (.aload 4, 2) := by decide +kernel
theorem d_C_refine_55 : decode c_C_refine 55 = .ok (.iload_n 2, 1) := by decide +kernel
theorem d_C_refine_56 : decode c_C_refine 56 = .ok (.invokevirtual 154, 3) := by decide +kernel
theorem d_C_refine_59 : decode c_C_refine 59 = .ok (.iload_n 3, 1) := by decide +kernel
theorem d_C_refine_60 : decode c_C_refine 60 = .ok (.i2l, 1) := by decide +kernel
theorem d_C_refine_61 : decode c_C_refine 61 = .ok (.lcmp, 1) := by decide +kernel
theorem d_C_refine_62 : decode c_C_refine 62 = .ok (.ifCond .le 37, 3) := by decide +kernel
theorem d_C_refine_65 : decode c_C_refine 65 = .ok (.aload 4, 2) := by decide +kernel
theorem d_C_refine_67 : decode c_C_refine 67 = .ok (.aload 4, 2) := by decide +kernel
theorem d_C_refine_69 : decode c_C_refine 69 = .ok (.iload_n 2, 1) := by decide +kernel
theorem d_C_refine_70 : decode c_C_refine 70 = .ok (.invokevirtual 150, 3) := by decide +kernel
theorem d_C_refine_73 : decode c_C_refine 73 = .ok (.invokestatic 31, 3) := by decide +kernel
theorem d_C_refine_76 : decode c_C_refine 76 = .ok (.astore 6, 2) := by decide +kernel
theorem d_C_refine_78 : decode c_C_refine 78 = .ok (.aload 6, 2) := by decide +kernel
theorem d_C_refine_80 : decode c_C_refine 80 = .ok (.ifnonnull 6, 3) := by decide +kernel
theorem d_C_refine_83 : decode c_C_refine 83 = .ok (.goto 16, 3) := by decide +kernel
theorem d_C_refine_86 : decode c_C_refine 86 = .ok (.aload_n 0, 1) := by decide +kernel
theorem d_C_refine_87 : decode c_C_refine 87 = .ok (.aload 6, 2) := by decide +kernel
theorem d_C_refine_89 : decode c_C_refine 89 = .ok (.invokevirtual 90, 3) := by decide +kernel
theorem d_C_refine_92 : decode c_C_refine 92 = .ok (.pop, 1) := by decide +kernel
theorem d_C_refine_93 : decode c_C_refine 93 = .ok (.iinc 5 1, 3) := by decide +kernel
theorem d_C_refine_96 : decode c_C_refine 96 = .ok (.goto (-50), 3) := by decide +kernel
theorem d_C_refine_99 : decode c_C_refine 99 = .ok (.iload 5, 2) := by decide +kernel
theorem d_C_refine_101 : decode c_C_refine 101 = .ok (.ireturn, 1) := by decide +kernel
theorem d_C_sheet_0 : decode c_C_sheet 0 = .ok (.aload_n 0, 1) := by decide +kernel
theorem d_C_sheet_1 : decode c_C_sheet 1 = .ok (.iload_n 1, 1) := by decide +kernel
theorem d_C_sheet_2 : decode c_C_sheet 2 = .ok (.invokevirtual 53, 3) := by decide +kernel
theorem d_C_sheet_5 : decode c_C_sheet 5 = .ok (.astore 4, 2) := by decide +kernel
theorem d_C_sheet_7 : decode c_C_sheet 7 = .ok (.aload 4, 2) := by decide +kernel
theorem d_C_sheet_9 : decode c_C_sheet 9 = .ok (.ifnull 16, 3) := by decide +kernel
theorem d_C_sheet_12 : decode c_C_sheet 12 = .ok (.iload_n 2, 1) := by decide +kernel
theorem d_C_sheet_13 : decode c_C_sheet 13 = .ok (.invokestatic 158, 3) := by decide +kernel
theorem d_C_sheet_16 : decode c_C_sheet 16 = .ok (.ifCond .eq 9, 3) := by decide +kernel
theorem d_C_sheet_19 : decode c_C_sheet 19 = .ok (.iload_n 3, 1) := by decide +kernel
theorem d_C_sheet_20 : decode c_C_sheet 20 = .ok (.bipush 40, 2) := by decide +kernel
theorem d_C_sheet_22 : decode c_C_sheet 22 = .ok (.if_icmp .le 6, 3) := by decide +kernel
theorem d_C_sheet_25 : decode c_C_sheet 25 = .ok (.bipush (-2), 2) := by decide +kernel
theorem d_C_sheet_27 : decode c_C_sheet 27 = .ok (.ireturn, 1) := by decide +kernel
theorem d_C_sheet_28 : decode c_C_sheet 28 = .ok (.iload_n 3, 1) := by decide +kernel
theorem d_C_sheet_29 : decode c_C_sheet 29 = .ok (.ifCond .ge 9, 3) := by decide +kernel
theorem d_C_sheet_32 : decode c_C_sheet 32 = .ok (.aload_n 0, 1) := by decide +kernel
theorem d_C_sheet_33 : decode c_C_sheet 33 = .ok (.iconst 5, 1) := by decide +kernel
theorem d_C_sheet_34 : decode c_C_sheet 34 = .ok (.invokevirtual 60, 3) := by decide +kernel
theorem d_C_sheet_37 : decode c_C_sheet 37 = .ok (.ireturn, 1) := by decide +kernel
theorem d_C_sheet_38 : decode c_C_sheet 38 = .ok (.aload 4, 2) := by decide +kernel
theorem d_C_sheet_40 : decode c_C_sheet 40 = .ok (.iload_n 2, 1) := by decide +kernel
theorem d_C_sheet_41 : decode c_C_sheet 41 = .ok (.iload_n 3, 1) := by decide +kernel
theorem d_C_sheet_42 : decode c_C_sheet 42 = .ok (.invokevirtual 161, 3) := by decide +kernel
theorem d_C_sheet_45 : decode c_C_sheet 45 = .ok (.iload_n 3, 1) := by decide +kernel
theorem d_C_sheet_46 : decode c_C_sheet 46 = .ok (.ireturn, 1) := by decide +kernel
theorem d_C_lose_0 : decode c_C_lose 0 = .ok (.aload_n 0, 1) := by decide +kernel
theorem d_C_lose_1 : decode c_C_lose 1 = .ok (.iload_n 1, 1) := by decide +kernel
theorem d_C_lose_2 : decode c_C_lose 2 = .ok (.invokevirtual 53, 3) := by decide +kernel
theorem d_C_lose_5 : decode c_C_lose 5 = .ok (.astore_n 2, 1) := by decide +kernel
theorem d_C_lose_6 : decode c_C_lose 6 = .ok (.aload_n 2, 1) := by decide +kernel
theorem d_C_lose_7 : decode c_C_lose 7 = .ok (.ifnonnull 6, 3) := by decide +kernel
theorem d_C_lose_10 : decode c_C_lose 10 = .ok (.bipush (-2), 2) := by decide +kernel
theorem d_C_lose_12 : decode c_C_lose 12 = .ok (.ireturn, 1) := by decide +kernel
theorem d_C_lose_13 : decode c_C_lose 13 = .ok (.aload_n 2, 1) := by decide +kernel
theorem d_C_lose_14 : decode c_C_lose 14 = .ok (.getfield 57, 3) := by decide +kernel
theorem d_C_lose_17 : decode c_C_lose 17 = .ok (.ifCond .eq 9, 3) := by decide +kernel
theorem d_C_lose_20 : decode c_C_lose 20 = .ok (.aload_n 0, 1) := by decide +kernel
theorem d_C_lose_21 : decode c_C_lose 21 = .ok (.iconst 1, 1) := by decide +kernel
theorem d_C_lose_22 : decode c_C_lose 22 = .ok (.invokevirtual 60, 3) := by decide +kernel
theorem d_C_lose_25 : decode c_C_lose 25 = .ok (.ireturn, 1) := by decide +kernel
theorem d_C_lose_26 : decode c_C_lose 26 = .ok (.aload_n 2, 1) := by decide +kernel
theorem d_C_lose_27 : decode c_C_lose 27 = .ok (.iconst 1, 1) := by decide +kernel
theorem d_C_lose_28 : decode c_C_lose 28 = .ok (.putfield 57, 3) := by decide +kernel
theorem d_C_lose_31 : decode c_C_lose 31 = .ok (.aload_n 2, 1) := by decide +kernel
theorem d_C_lose_32 : decode c_C_lose 32 = .ok (.getfield 64, 3) := by decide +kernel
theorem d_C_lose_35 : decode c_C_lose 35 = .ok (.ireturn, 1) := by decide +kernel
theorem d_C_put_0 : decode c_C_put 0 = .ok (.aload_n 0, 1) := by decide +kernel
theorem d_C_put_1 : decode c_C_put 1 = .ok (.iload_n 1, 1) := by decide +kernel
theorem d_C_put_2 : decode c_C_put 2 = .ok (.invokevirtual 53, 3) := by decide +kernel
theorem d_C_put_5 : decode c_C_put 5 = .ok (.astore 5, 2) := by decide +kernel
theorem d_C_put_7 : decode c_C_put 7 = .ok (.aload 5, 2) := by decide +kernel
theorem d_C_put_9 : decode c_C_put 9 = .ok (.ifnull 10, 3) := by decide +kernel
theorem d_C_put_12 : decode c_C_put 12 = .ok (.iload_n 2, 1) := by decide +kernel
theorem d_C_put_13 : decode c_C_put 13 = .ok (.invokestatic 158, 3) := by decide +kernel
theorem d_C_put_16 : decode c_C_put 16 = .ok (.ifCond .ne 6, 3) := by decide +kernel
theorem d_C_put_19 : decode c_C_put 19 = .ok (.bipush (-2), 2) := by decide +kernel
theorem d_C_put_21 : decode c_C_put 21 = .ok (.ireturn, 1) := by decide +kernel
theorem d_C_put_22 : decode c_C_put 22 = .ok (.aload 5, 2) := by decide +kernel
theorem d_C_put_24 : decode c_C_put 24 = .ok (.iload_n 2, 1) := by decide +kernel
theorem d_C_put_25 : decode c_C_put 25 = .ok (.iload_n 3, 1) := by decide +kernel
theorem d_C_put_26 : decode c_C_put 26 = .ok (.invokevirtual 164, 3) := by decide +kernel
theorem d_C_put_29 : decode c_C_put 29 = .ok (.istore 6, 2) := by decide +kernel
theorem d_C_put_31 : decode c_C_put 31 = .ok (.iload 6, 2) := by decide +kernel
theorem d_C_put_33 : decode c_C_put 33 = .ok (.ifCond .eq 10, 3) := by decide +kernel
theorem d_C_put_36 : decode c_C_put 36 = .ok (.aload_n 0, 1) := by decide +kernel
theorem d_C_put_37 : decode c_C_put 37 = .ok (.iload 6, 2) := by decide +kernel
theorem d_C_put_39 : decode c_C_put 39 = .ok (.invokevirtual 60, 3) := by decide +kernel
theorem d_C_put_42 : decode c_C_put 42 = .ok (.ireturn, 1) := by decide +kernel
theorem d_C_put_43 : decode c_C_put 43 = .ok (.aload 5, 2) := by decide +kernel
theorem d_C_put_45 : decode c_C_put 45 = .ok (.iload_n 3, 1) := by decide +kernel
theorem d_C_put_46 : decode c_C_put 46 = .ok (.iload 4, 2) := by decide +kernel
theorem d_C_put_48 : decode c_C_put 48 = .ok (.invokevirtual 167, 3) := by decide +kernel
theorem d_C_put_51 : decode c_C_put 51 = .ok (.iconst 1, 1) := by decide +kernel
theorem d_C_put_52 : decode c_C_put 52 = .ok (.ireturn, 1) := by decide +kernel
theorem d_C_get_0 : decode c_C_get 0 = .ok (.aload_n 0, 1) := by decide +kernel
theorem d_C_get_1 : decode c_C_get 1 = .ok (.iload_n 1, 1) := by decide +kernel
theorem d_C_get_2 : decode c_C_get 2 = .ok (.invokevirtual 53, 3) := by decide +kernel
theorem d_C_get_5 : decode c_C_get 5 = .ok (.astore 4, 2) := by decide +kernel
theorem d_C_get_7 : decode c_C_get 7 = .ok (.aload 4, 2) := by decide +kernel
theorem d_C_get_9 : decode c_C_get 9 = .ok (.ifnull 10, 3) := by decide +kernel
theorem d_C_get_12 : decode c_C_get 12 = .ok (.iload_n 2, 1) := by decide +kernel
theorem d_C_get_13 : decode c_C_get 13 = .ok (.invokestatic 158, 3) := by decide +kernel
theorem d_C_get_16 : decode c_C_get 16 = .ok (.ifCond .ne 6, 3) := by decide +kernel
theorem d_C_get_19 : decode c_C_get 19 = .ok (.ldc 111, 2) := by decide +kernel
theorem d_C_get_21 : decode c_C_get 21 = .ok (.ireturn, 1) := by decide +kernel
theorem d_C_get_22 : decode c_C_get 22 = .ok (.aload 4, 2) := by decide +kernel
theorem d_C_get_24 : decode c_C_get 24 = .ok (.iload_n 2, 1) := by decide +kernel
theorem d_C_get_25 : decode c_C_get 25 = .ok (.iload_n 3, 1) := by decide +kernel
theorem d_C_get_26 : decode c_C_get 26 = .ok (.invokevirtual 164, 3) := by decide +kernel
theorem d_C_get_29 : decode c_C_get 29 = .ok (.istore 5, 2) := by decide +kernel
theorem d_C_get_31 : decode c_C_get 31 = .ok (.iload 5, 2) := by decide +kernel
theorem d_C_get_33 : decode c_C_get 33 = .ok (.ifCond .eq 13, 3) := by decide +kernel
theorem d_C_get_36 : decode c_C_get 36 = .ok (.aload_n 0, 1) := by decide +kernel
theorem d_C_get_37 : decode c_C_get 37 = .ok (.iload 5, 2) := by decide +kernel
theorem d_C_get_39 : decode c_C_get 39 = .ok (.invokevirtual 60, 3) := by decide +kernel
theorem d_C_get_42 : decode c_C_get 42 = .ok (.pop, 1) := by decide +kernel
theorem d_C_get_43 : decode c_C_get 43 = .ok (.ldc 111, 2) := by decide +kernel
theorem d_C_get_45 : decode c_C_get 45 = .ok (.ireturn, 1) := by decide +kernel
theorem d_C_get_46 : decode c_C_get 46 = .ok (.aload 4, 2) := by decide +kernel
theorem d_C_get_48 : decode c_C_get 48 = .ok (.getfield 65, 3) := by decide +kernel
theorem d_C_get_51 : decode c_C_get 51 = .ok (.iload_n 3, 1) := by decide +kernel
theorem d_C_get_52 : decode c_C_get 52 = .ok (.iaload, 1) := by decide +kernel
theorem d_C_get_53 : decode c_C_get 53 = .ok (.ireturn, 1) := by decide +kernel
theorem d_C_copy_0 : decode c_C_copy 0 = .ok (.aload_n 0, 1) := by decide +kernel
theorem d_C_copy_1 : decode c_C_copy 1 = .ok (.iload_n 1, 1) := by decide +kernel
theorem d_C_copy_2 : decode c_C_copy 2 = .ok (.invokevirtual 53, 3) := by decide +kernel
theorem d_C_copy_5 : decode c_C_copy 5 = .ok (.astore 6, 2) := by decide +kernel
theorem d_C_copy_7 : decode c_C_copy 7 = .ok (.aload_n 0, 1) := by decide +kernel
theorem d_C_copy_8 : decode c_C_copy 8 = .ok (.iload_n 3, 1) := by decide +kernel
theorem d_C_copy_9 : decode c_C_copy 9 = .ok (.invokevirtual 53, 3) := by decide +kernel
theorem d_C_copy_12 : decode c_C_copy 12 = .ok (.astore 7, 2) := by decide +kernel
theorem d_C_copy_14 : decode c_C_copy 14 = .ok (.aload 6, 2) := by decide +kernel
theorem d_C_copy_16 : decode c_C_copy 16 = .ok (.ifnull 8, 3) := by decide +kernel
theorem d_C_copy_19 : decode c_C_copy 19 = .ok (.aload 7, 2) := by decide +kernel
theorem d_C_copy_21 : decode c_C_copy 21 = .ok (.ifnonnull 6, 3) := by decide +kernel
theorem d_C_copy_24 : decode c_C_copy 24 = .ok (.bipush (-2), 2) := by decide +kernel
theorem d_C_copy_26 : decode c_C_copy 26 = .ok (.ireturn, 1) := by decide +kernel
theorem d_C_copy_27 : decode c_C_copy 27 = .ok (.aload 6, 2) := by decide +kernel
theorem d_C_copy_29 : decode c_C_copy 29 = .ok (.getfield 57, 3) := by decide +kernel
theorem d_C_copy_32 : decode c_C_copy 32 = .ok (.ifCond .ne 11, 3) := by decide +kernel
theorem d_C_copy_35 : decode c_C_copy 35 = .ok (.aload 7, 2) := by decide +kernel
theorem d_C_copy_37 : decode c_C_copy 37 = .ok (.getfield 57, 3) := by decide +kernel
theorem d_C_copy_40 : decode c_C_copy 40 = .ok (.ifCond .eq 9, 3) := by decide +kernel
theorem d_C_copy_43 : decode c_C_copy 43 = .ok (.aload_n 0, 1) := by decide +kernel
theorem d_C_copy_44 : decode c_C_copy 44 = .ok (.iconst 1, 1) := by decide +kernel
theorem d_C_copy_45 : decode c_C_copy 45 = .ok (.invokevirtual 60, 3) := by decide +kernel
theorem d_C_copy_48 : decode c_C_copy 48 = .ok (.ireturn, 1) := by decide +kernel
theorem d_C_copy_49 : decode c_C_copy 49 = .ok (.aload 6, 2) := by decide +kernel
theorem d_C_copy_51 : decode c_C_copy 51 = .ok (.getfield 170, 3) := by decide +kernel
theorem d_C_copy_54 : decode c_C_copy 54 = .ok (.aload 7, 2) := by decide +kernel
theorem d_C_copy_56 : decode c_C_copy 56 = .ok (.getfield 170, 3) := by decide +kernel
theorem d_C_copy_59 : decode c_C_copy 59 = .ok (.if_icmp .eq 9, 3) := by decide +kernel
theorem d_C_copy_62 : decode c_C_copy 62 = .ok (.aload_n 0, 1) := by decide +kernel
theorem d_C_copy_63 : decode c_C_copy 63 = .ok (.iconst 4, 1) := by decide +kernel
theorem d_C_copy_64 : decode c_C_copy 64 = .ok (.invokevirtual 60, 3) := by decide +kernel
theorem d_C_copy_67 : decode c_C_copy 67 = .ok (.ireturn, 1) := by decide +kernel
theorem d_C_copy_68 : decode c_C_copy 68 = .ok (.aload 6, 2) := by decide +kernel
theorem d_C_copy_70 : decode c_C_copy 70 = .ok (.iload_n 2, 1) := by decide +kernel
theorem d_C_copy_71 : decode c_C_copy 71 = .ok (.iload 5, 2) := by decide +kernel
theorem d_C_copy_73 : decode c_C_copy 73 = .ok (.invokevirtual 173, 3) := by decide +kernel
theorem d_C_copy_76 : decode c_C_copy 76 = .ok (.ifCond .eq 15, 3) := by decide +kernel
theorem d_C_copy_79 : decode c_C_copy 79 = .ok (.aload 7, 2) := by decide +kernel
theorem d_C_copy_81 : decode c_C_copy 81 = .ok (.iload 4, 2) := by decide +kernel
theorem d_C_copy_83 : decode c_C_copy 83 = .ok (.iload 5, 2) := by decide +kernel
theorem d_C_copy_85 : decode c_C_copy 85 = .ok (.invokevirtual 173, 3) := by decide +kernel
theorem d_C_copy_88 : decode c_C_copy 88 = .ok (.ifCond .ne 9, 3) := by decide +kernel
theorem d_C_copy_91 : decode c_C_copy 91 = .ok (.aload_n 0, 1) := by decide +kernel
theorem d_C_copy_92 : decode c_C_copy 92 = .ok (.iconst 2, 1) := by decide +kernel
theorem d_C_copy_93 : decode c_C_copy 93 = .ok (.invokevirtual 60, 3) := by decide +kernel
theorem d_C_copy_96 : decode c_C_copy 96 = .ok (.ireturn, 1) := by decide +kernel
theorem d_C_copy_97 : decode c_C_copy 97 = .ok (.aload 6, 2) := by decide +kernel
theorem d_C_copy_99 : decode c_C_copy 99 = .ok (.getfield 65, 3) := by decide +kernel
theorem d_C_copy_102 : decode c_C_copy 102 = .ok (.iload_n 2, 1) := by decide +kernel
theorem d_C_copy_103 : decode c_C_copy 103 = .ok (.aload 7, 2) := by decide +kernel
theorem d_C_copy_105 : decode c_C_copy 105 = .ok (.getfield 65, 3) := by decide +kernel
theorem d_C_copy_108 : decode c_C_copy 108 = .ok (.iload 4, 2) := by decide +kernel
theorem d_C_copy_110 : decode c_C_copy 110 = .ok (.iload 5, 2) := by decide +kernel
theorem d_C_copy_112 : decode c_C_copy 112 = .ok (.invokestatic 176, 3) := by decide +kernel
theorem d_C_copy_115 : decode c_C_copy 115 = .ok (.iconst 1, 1) := by decide +kernel
theorem d_C_copy_116 : decode c_C_copy 116 = .ok (.ireturn, 1) := by decide +kernel
theorem d_C_write_0 : decode c_C_write 0 = .ok (.aload_n 0, 1) := by decide +kernel
theorem d_C_write_1 : decode c_C_write 1 = .ok (.iload_n 1, 1) := by decide +kernel
theorem d_C_write_2 : decode c_C_write 2 = .ok (.invokevirtual 27, 3) := by decide +kernel
theorem d_C_write_5 : decode c_C_write 5 = .ok (.astore 5, 2) := by decide +kernel
theorem d_C_write_7 : decode c_C_write 7 = .ok (.aload_n 0, 1) := by decide +kernel
theorem d_C_write_8 : decode c_C_write 8 = .ok (.iload_n 2, 1) := by decide +kernel
theorem d_C_write_9 : decode c_C_write 9 = .ok (.invokevirtual 53, 3) := by decide +kernel
theorem d_C_write_12 : decode c_C_write 12 = .ok (.astore 6, 2) := by decide +kernel
theorem d_C_write_14 : decode c_C_write 14 = .ok (.aload_n 0, 1) := by decide +kernel
theorem d_C_write_15 : decode c_C_write 15 = .ok (.iload_n 3, 1) := by decide +kernel
theorem d_C_write_16 : decode c_C_write 16 = .ok (.invokevirtual 53, 3) := by decide +kernel
theorem d_C_write_19 : decode c_C_write 19 = .ok (.astore 7, 2) := by decide +kernel
theorem d_C_write_21 : decode c_C_write 21 = .ok (.aload_n 0, 1) := by decide +kernel
theorem d_C_write_22 : decode c_C_write 22 = .ok (.iload 4, 2) := by decide +kernel
theorem d_C_write_24 : decode c_C_write 24 = .ok (.invokevirtual 53, 3) := by decide +kernel
theorem d_C_write_27 : decode c_C_write 27 = .ok (.astore 8, 2) := by decide +kernel
theorem d_C_write_29 : decode c_C_write 29 = .ok (.aload 5, 2) := by decide +kernel
theorem d_C_write_31 : decode c_C_write 31 = .ok (.ifnull 18, 3) := by decide +kernel
theorem d_C_write_34 : decode c_C_write 34 = .ok (.aload 6, 2) := by decide +kernel
theorem d_C_write_36 : decode c_C_write 36 = .ok (.ifnull 13, 3) := by decide +kernel
theorem d_C_write_39 : decode c_C_write 39 = .ok (.aload 7, 2) := by decide +kernel
theorem d_C_write_41 : decode c_C_write 41 = .ok (.ifnull 8, 3) := by decide +kernel
theorem d_C_write_44 : decode c_C_write 44 = .ok (.aload 8, 2) := by decide +kernel
theorem d_C_write_46 : decode c_C_write 46 = .ok (.ifnonnull 6, 3) := by decide +kernel
theorem d_C_write_49 : decode c_C_write 49 = .ok (.bipush (-2), 2) := by decide +kernel
theorem d_C_write_51 : decode c_C_write 51 = .ok (.ireturn, 1) := by decide +kernel
theorem d_C_write_52 : decode c_C_write 52 = .ok (.aload 5, 2) := by decide +kernel
theorem d_C_write_54 : decode c_C_write 54 = .ok (.getfield 39, 3) := by decide +kernel
theorem d_C_write_57 : decode c_C_write 57 = .ok (.ifCond .ne 6, 3) := by decide +kernel
theorem d_C_write_60 : decode c_C_write 60 = .ok (.bipush (-3), 2) := by decide +kernel
theorem d_C_write_62 : decode c_C_write 62 = .ok (.ireturn, 1) := by decide +kernel
theorem d_C_write_63 : decode c_C_write 63 = .ok (.aload 6, 2) := by decide +kernel
theorem d_C_write_65 : decode c_C_write 65 = .ok (.getfield 57, 3) := by decide +kernel
theorem d_C_write_68 : decode c_C_write 68 = .ok (.ifCond .ne 19, 3) := by decide +kernel
theorem d_C_write_71 : decode c_C_write 71 = .ok (.aload 7, 2) := by decide +kernel
theorem d_C_write_73 : decode c_C_write 73 = .ok (.getfield 57, 3) := by decide +kernel
theorem d_C_write_76 : decode c_C_write 76 = .ok (.ifCond .ne 11, 3) := by decide +kernel
theorem d_C_write_79 : decode c_C_write 79 = .ok (.aload 8, 2) := by decide +kernel
theorem d_C_write_81 : decode c_C_write 81 = .ok (.getfield 57, 3) := by decide +kernel
theorem d_C_write_84 : decode c_C_write 84 = .ok (.ifCond .eq 9, 3) := by decide +kernel
theorem d_C_write_87 : decode c_C_write 87 = .ok (.aload_n 0, 1) := by decide +kernel
theorem d_C_write_88 : decode c_C_write 88 = .ok (.iconst 1, 1) := by decide +kernel
theorem d_C_write_89 : decode c_C_write 89 = .ok (.invokevirtual 60, 3) := by decide +kernel
theorem d_C_write_92 : decode c_C_write 92 = .ok (.ireturn, 1) := by decide +kernel
theorem d_C_write_93 : decode c_C_write 93 = .ok (.iconst 0, 1) := by decide +kernel
theorem d_C_write_94 : decode c_C_write 94 = .ok (.istore 9, 2) := by decide +kernel
theorem d_C_write_96 : decode c_C_write 96 = .ok (.iconst 0, 1) := by decide +kernel
theorem d_C_write_97 : decode c_C_write 97 = .ok (.istore 10, 2) := by decide +kernel
theorem d_C_write_99 : decode c_C_write 99 = .ok (.iload 10, 2) := by decide +kernel
theorem d_C_write_101 : decode c_C_write 101 = .ok (.bipush 8, 2) := by decide +kernel
theorem d_C_write_103 : decode c_C_write 103 = .ok (.if_icmp .ge 30, 3) := by decide +kernel
theorem d_C_write_106 : decode c_C_write 106 = .ok (.aload 5, 2) := by decide +kernel
theorem d_C_write_108 : decode c_C_write 108 = .ok (.getfield 182, 3) := by decide +kernel
theorem d_C_write_111 : decode c_C_write 111 = .ok (.iload 10, 2) := by decide +kernel
theorem d_C_write_113 : decode c_C_write 113 = .ok (.aaload, 1) := by decide +kernel
theorem d_C_write_114 : decode c_C_write 114 = .ok (.aload 6, 2) := by decide +kernel
theorem d_C_write_116 : decode c_C_write 116 = .ok (.aload 7, 2) := by decide +kernel
theorem d_C_write_118 : decode c_C_write 118 = .ok (.aload 8, 2) := by decide +kernel
theorem d_C_write_120 : decode c_C_write 120 = .ok (.iload 9, 2) := by decide +kernel
theorem d_C_write_122 : decode c_C_write 122 = .ok (.invokevirtual 186, 3) := by decide +kernel
theorem d_C_write_125 : decode c_C_write 125 = .ok (.istore 9, 2) := by decide +kernel
theorem d_C_write_127 : decode c_C_write 127 = .ok (.iinc 10 1, 3) := by decide +kernel
theorem d_C_write_130 : decode c_C_write 130 = .ok (.goto (-31), 3) := by decide +kernel
theorem d_C_write_133 : decode c_C_write 133 = .ok (.iload 9, 2) := by decide +kernel
theorem d_C_write_135 : decode c_C_write 135 = .ok (.ireturn, 1) := by decide +kernel
theorem d_C_told_0 : decode c_C_told 0 = .ok (.iload_n 1, 1) := by decide +kernel
theorem d_C_told_1 : decode c_C_told 1 = .ok (.tableswitch 121 0 9 #[55, 55, 65, 70, 75, 75, 95, 95, 108, 108], 55) := by decide +kernel
theorem d_C_told_56 : decode c_C_told 56 = .ok (.aload_n 0, 1) := by decide +kernel
theorem d_C_told_57 : decode c_C_told 57 = .ok (.getfield 11, 3) := by decide +kernel
theorem d_C_told_60 : decode c_C_told 60 = .ok (.iload_n 1, 1) := by decide +kernel
theorem d_C_told_61 : decode c_C_told 61 = .ok (.aaload, 1) := by decide +kernel
theorem d_C_told_62 : decode c_C_told 62 = .ok (.invokevirtual 84, 3) := by decide +kernel
theorem d_C_told_65 : decode c_C_told 65 = .ok (.ireturn, 1) := by decide +kernel
theorem d_C_told_66 : decode c_C_told 66 = .ok (.aload_n 0, 1) := by decide +kernel
theorem d_C_told_67 : decode c_C_told 67 = .ok (.getfield 190, 3) := by decide +kernel
theorem d_C_told_70 : decode c_C_told 70 = .ok (.ireturn, 1) := by decide +kernel
theorem d_C_told_71 : decode c_C_told 71 = .ok (.aload_n 0, 1) := by decide +kernel
theorem d_C_told_72 : decode c_C_told 72 = .ok (.getfield 193, 3) := by decide +kernel
theorem d_C_told_75 : decode c_C_told 75 = .ok (.ireturn, 1) := by decide +kernel
theorem d_C_told_76 : decode c_C_told 76 = .ok (.aload_n 0, 1) := by decide +kernel
theorem d_C_told_77 : decode c_C_told 77 = .ok (.getfield 11, 3) := by decide +kernel
theorem d_C_told_80 : decode c_C_told 80 = .ok (.iload_n 1, 1) := by decide +kernel
theorem d_C_told_81 : decode c_C_told 81 = .ok (.iconst 4, 1) := by decide +kernel
theorem d_C_told_82 : decode c_C_told 82 = .ok (.isub, 1) := by decide +kernel
theorem d_C_told_83 : decode c_C_told 83 = .ok (.aaload, 1) := by decide +kernel
theorem d_C_told_84 : decode c_C_told 84 = .ok (.getfield 39, 3) := by decide +kernel
theorem d_C_told_87 : decode c_C_told 87 = .ok (.ifCond .eq 7, 3) := by decide +kernel
theorem d_C_told_90 : decode c_C_told 90 = .ok (.iconst 1, 1) := by decide +kernel
theorem d_C_told_91 : decode c_C_told 91 = .ok (.goto 4, 3) := by decide +kernel
theorem d_C_told_94 : decode c_C_told 94 = .ok (.iconst 0, 1) := by decide +kernel
theorem d_C_told_95 : decode c_C_told 95 = .ok (.ireturn, 1) := by decide +kernel
theorem d_C_told_96 : decode c_C_told 96 = .ok (.aload_n 0, 1) := by decide +kernel
theorem d_C_told_97 : decode c_C_told 97 = .ok (.getfield 11, 3) := by decide +kernel
theorem d_C_told_100 : decode c_C_told 100 = .ok (.iload_n 1, 1) := by decide +kernel
theorem d_C_told_101 : decode c_C_told 101 = .ok (.bipush 6, 2) := by decide +kernel
theorem d_C_told_103 : decode c_C_told 103 = .ok (.isub, 1) := by decide +kernel
theorem d_C_told_104 : decode c_C_told 104 = .ok (.aaload, 1) := by decide +kernel
theorem d_C_told_105 : decode c_C_told 105 = .ok (.getfield 71, 3) := by decide +kernel
theorem d_C_told_108 : decode c_C_told 108 = .ok (.ireturn, 1) := by decide +kernel
theorem d_C_told_109 : decode c_C_told 109 = .ok (.aload_n 0, 1) := by decide +kernel
theorem d_C_told_110 : decode c_C_told 110 = .ok (.getfield 11, 3) := by decide +kernel
theorem d_C_told_113 : decode c_C_told 113 = .ok (.iload_n 1, 1) := by decide +kernel
theorem d_C_told_114 : decode c_C_told 114 = .ok (.bipush 8, 2) := by decide +kernel
theorem d_C_told_116 : decode c_C_told 116 = .ok (.isub, 1) := by decide +kernel
theorem d_C_told_117 : decode c_C_told 117 = .ok (.aaload, 1) := by decide +kernel
theorem d_C_told_118 : decode c_C_told 118 = .ok (.invokevirtual 80, 3) := by decide +kernel
theorem d_C_told_121 : decode c_C_told 121 = .ok (.ireturn, 1) := by decide +kernel
theorem d_C_told_122 : decode c_C_told 122 = .ok (.bipush (-2), 2) := by decide +kernel
theorem d_C_told_124 : decode c_C_told 124 = .ok (.ireturn, 1) := by decide +kernel
theorem d_C_digest_0 : decode c_C_digest 0 = .ok (.ldc2_w 196, 3) := by decide +kernel
theorem d_C_digest_3 : decode c_C_digest 3 = .ok (.lstore_n 1, 1) := by decide +kernel
theorem d_C_digest_4 : decode c_C_digest 4 = .ok (.iconst 0, 1) := by decide +kernel
theorem d_C_digest_5 : decode c_C_digest 5 = .ok (.istore_n 3, 1) := by decide +kernel
theorem d_C_digest_6 : decode c_C_digest 6 = .ok (.iload_n 3, 1) := by decide +kernel
theorem d_C_digest_7 : decode c_C_digest 7 = .ok (.bipush 9, 2) := by decide +kernel
theorem d_C_digest_9 : decode c_C_digest 9 = .ok (.if_icmp .gt 25, 3) := by decide +kernel
theorem d_C_digest_12 : decode c_C_digest 12 = .ok (.iload_n 3, 1) := by decide +kernel
theorem d_C_digest_13 : decode c_C_digest 13 = .ok (.iconst 3, 1) := by decide +kernel
theorem d_C_digest_14 : decode c_C_digest 14 = .ok (.if_icmp .eq 14, 3) := by decide +kernel
theorem d_C_digest_17 : decode c_C_digest 17 = .ok (.lload_n 1, 1) := by decide +kernel
theorem d_C_digest_18 : decode c_C_digest 18 = .ok (.aload_n 0, 1) := by decide +kernel
theorem d_C_digest_19 : decode c_C_digest 19 = .ok (.iload_n 3, 1) := by decide +kernel
theorem d_C_digest_20 : decode c_C_digest 20 = .ok (.invokevirtual 198, 3) := by decide +kernel
theorem d_C_digest_23 : decode c_C_digest 23 = .ok (.i2l, 1) := by decide +kernel
theorem d_C_digest_24 : decode c_C_digest 24 = .ok (.invokestatic 201, 3) := by decide +kernel
theorem d_C_digest_27 : decode c_C_digest 27 = .ok (.lstore_n 1, 1) := by decide +kernel
theorem d_C_digest_28 : decode c_C_digest 28 = .ok (.iinc 3 1, 3) := by decide +kernel
theorem d_C_digest_31 : decode c_C_digest 31 = .ok (.goto (-25), 3) := by decide +kernel
theorem d_C_digest_34 : decode c_C_digest 34 = .ok (.iconst 0, 1) := by decide +kernel
theorem d_C_digest_35 : decode c_C_digest 35 = .ok (.istore_n 3, 1) := by decide +kernel
theorem d_C_digest_36 : decode c_C_digest 36 = .ok (.iload_n 3, 1) := by decide +kernel
theorem d_C_digest_37 : decode c_C_digest 37 = .ok (.iconst 2, 1) := by decide +kernel
theorem d_C_digest_38 : decode c_C_digest 38 = .ok (.if_icmp .ge 32, 3) := by decide +kernel
theorem d_C_digest_41 : decode c_C_digest 41 = .ok (.aload_n 0, 1) := by decide +kernel
theorem d_C_digest_42 : decode c_C_digest 42 = .ok (.getfield 11, 3) := by decide +kernel
theorem d_C_digest_45 : decode c_C_digest 45 = .ok (.iload_n 3, 1) := by decide +kernel
theorem d_C_digest_46 : decode c_C_digest 46 = .ok (.aaload, 1) := by decide +kernel
theorem d_C_digest_47 : decode c_C_digest 47 = .ok (.getfield 39, 3) := by decide +kernel
theorem d_C_digest_50 : decode c_C_digest 50 = .ok (.ifCond .eq 14, 3) := by decide +kernel
theorem d_C_digest_53 : decode c_C_digest 53 = .ok (.aload_n 0, 1) := by decide +kernel
theorem d_C_digest_54 : decode c_C_digest 54 = .ok (.getfield 11, 3) := by decide +kernel
theorem d_C_digest_57 : decode c_C_digest 57 = .ok (.iload_n 3, 1) := by decide +kernel
theorem d_C_digest_58 : decode c_C_digest 58 = .ok (.aaload, 1) := by decide +kernel
theorem d_C_digest_59 : decode c_C_digest 59 = .ok (.lload_n 1, 1) := by decide +kernel
theorem d_C_digest_60 : decode c_C_digest 60 = .ok (.invokevirtual 205, 3) := by decide +kernel
theorem d_C_digest_63 : decode c_C_digest 63 = .ok (.lstore_n 1, 1) := by decide +kernel
theorem d_C_digest_64 : decode c_C_digest 64 = .ok (.iinc 3 1, 3) := by decide +kernel
theorem d_C_digest_67 : decode c_C_digest 67 = .ok (.goto (-31), 3) := by decide +kernel
theorem d_C_digest_70 : decode c_C_digest 70 = .ok (.lload_n 1, 1) := by decide +kernel
theorem d_C_digest_71 : decode c_C_digest 71 = .ok (.lreturn, 1) := by decide +kernel
theorem d_C_tableAt_0 : decode c_C_tableAt 0 = .ok (.iload_n 1, 1) := by decide +kernel
theorem d_C_tableAt_1 : decode c_C_tableAt 1 = .ok (.ifCond .lt 17, 3) := by decide +kernel
theorem d_C_tableAt_4 : decode c_C_tableAt 4 = .ok (.iload_n 1, 1) := by decide +kernel
theorem d_C_tableAt_5 : decode c_C_tableAt 5 = .ok (.iconst 2, 1) := by decide +kernel
theorem d_C_tableAt_6 : decode c_C_tableAt 6 = .ok (.if_icmp .ge 12, 3) := by decide +kernel
theorem d_C_tableAt_9 : decode c_C_tableAt 9 = .ok (.aload_n 0, 1) := by decide +kernel
theorem d_C_tableAt_10 : decode c_C_tableAt 10 = .ok (.getfield 11, 3) := by decide +kernel
theorem d_C_tableAt_13 : decode c_C_tableAt 13 = .ok (.iload_n 1, 1) := by decide +kernel
theorem d_C_tableAt_14 : decode c_C_tableAt 14 = .ok (.aaload, 1) := by decide +kernel
theorem d_C_tableAt_15 : decode c_C_tableAt 15 = .ok (.goto 4, 3) := by decide +kernel
theorem d_C_tableAt_18 : decode c_C_tableAt 18 = .ok (.aconst_null, 1) := by decide +kernel
theorem d_C_tableAt_19 : decode c_C_tableAt 19 = .ok (.areturn, 1) := by decide +kernel
theorem d_C_blockAt_0 : decode c_C_blockAt 0 = .ok (.aload_n 0, 1) := by decide +kernel
theorem d_C_blockAt_1 : decode c_C_blockAt 1 = .ok (.ifnull 22, 3) := by decide +kernel
theorem d_C_blockAt_4 : decode c_C_blockAt 4 = .ok (.iload_n 1, 1) := by decide +kernel
theorem d_C_blockAt_5 : decode c_C_blockAt 5 = .ok (.ifCond .lt 18, 3) := by decide +kernel
theorem d_C_blockAt_8 : decode c_C_blockAt 8 = .ok (.iload_n 1, 1) := by decide +kernel
theorem d_C_blockAt_9 : decode c_C_blockAt 9 = .ok (.bipush 8, 2) := by decide +kernel
theorem d_C_blockAt_11 : decode c_C_blockAt 11 = .ok (.if_icmp .ge 12, 3) := by decide +kernel
theorem d_C_blockAt_14 : decode c_C_blockAt 14 = .ok (.aload_n 0, 1) := by decide +kernel
theorem d_C_blockAt_15 : decode c_C_blockAt 15 = .ok (.getfield 182, 3) := by decide +kernel
theorem d_C_blockAt_18 : decode c_C_blockAt 18 = .ok (.iload_n 1, 1) := by decide +kernel
theorem d_C_blockAt_19 : decode c_C_blockAt 19 = .ok (.aaload, 1) := by decide +kernel
theorem d_C_blockAt_20 : decode c_C_blockAt 20 = .ok (.goto 4, 3) := by decide +kernel
theorem d_C_blockAt_23 : decode c_C_blockAt 23 = .ok (.aconst_null, 1) := by decide +kernel
theorem d_C_blockAt_24 : decode c_C_blockAt 24 = .ok (.areturn, 1) := by decide +kernel
theorem d_C_sheetAt_0 : decode c_C_sheetAt 0 = .ok (.iload_n 1, 1) := by decide +kernel
theorem d_C_sheetAt_1 : decode c_C_sheetAt 1 = .ok (.ifCond .lt 17, 3) := by decide +kernel
theorem d_C_sheetAt_4 : decode c_C_sheetAt 4 = .ok (.iload_n 1, 1) := by decide +kernel
theorem d_C_sheetAt_5 : decode c_C_sheetAt 5 = .ok (.iconst 4, 1) := by decide +kernel
theorem d_C_sheetAt_6 : decode c_C_sheetAt 6 = .ok (.if_icmp .ge 12, 3) := by decide +kernel
theorem d_C_sheetAt_9 : decode c_C_sheetAt 9 = .ok (.aload_n 0, 1) := by decide +kernel
theorem d_C_sheetAt_10 : decode c_C_sheetAt 10 = .ok (.getfield 17, 3) := by decide +kernel
theorem d_C_sheetAt_13 : decode c_C_sheetAt 13 = .ok (.iload_n 1, 1) := by decide +kernel
theorem d_C_sheetAt_14 : decode c_C_sheetAt 14 = .ok (.aaload, 1) := by decide +kernel
theorem d_C_sheetAt_15 : decode c_C_sheetAt 15 = .ok (.goto 4, 3) := by decide +kernel
theorem d_C_sheetAt_18 : decode c_C_sheetAt 18 = .ok (.aconst_null, 1) := by decide +kernel
theorem d_C_sheetAt_19 : decode c_C_sheetAt 19 = .ok (.areturn, 1) := by decide +kernel
theorem d_C_found_0 : decode c_C_found 0 = .ok (.aload_n 0, 1) := by decide +kernel
theorem d_C_found_1 : decode c_C_found 1 = .ok (.iload_n 1, 1) := by decide +kernel
theorem d_C_found_2 : decode c_C_found 2 = .ok (.putfield 193, 3) := by decide +kernel
theorem d_C_found_5 : decode c_C_found 5 = .ok (.bipush (-10), 2) := by decide +kernel
theorem d_C_found_7 : decode c_C_found 7 = .ok (.iload_n 1, 1) := by decide +kernel
theorem d_C_found_8 : decode c_C_found 8 = .ok (.isub, 1) := by decide +kernel
theorem d_C_found_9 : decode c_C_found 9 = .ok (.ireturn, 1) := by decide +kernel
theorem d_C_readBlock_0 : decode c_C_readBlock 0 = .ok (.aload_n 1, 1) := by decide +kernel
theorem d_C_readBlock_1 : decode c_C_readBlock 1 = .ok (.getfield 43, 3) := by decide +kernel
theorem d_C_readBlock_4 : decode c_C_readBlock 4 = .ok (.aload_n 1, 1) := by decide +kernel
theorem d_C_readBlock_5 : decode c_C_readBlock 5 = .ok (.getfield 209, 3) := by decide +kernel
theorem d_C_readBlock_8 : decode c_C_readBlock 8 = .ok (.isub, 1) := by decide +kernel
theorem d_C_readBlock_9 : decode c_C_readBlock 9 = .ok (.istore_n 2, 1) := by decide +kernel
theorem d_C_readBlock_10 : decode c_C_readBlock 10 = .ok (.iload_n 2, 1) := by decide +kernel
theorem d_C_readBlock_11 : decode c_C_readBlock 11 = .ok (.ifCond .le 17, 3) := by decide +kernel
theorem d_C_readBlock_14 : decode c_C_readBlock 14 = .ok (.aload_n 1, 1) := by decide +kernel
theorem d_C_readBlock_15 : decode c_C_readBlock 15 = .ok (.invokevirtual 212, 3) := by decide +kernel
theorem d_C_readBlock_18 : decode c_C_readBlock 18 = .ok (.aload_n 0, 1) := by decide +kernel
theorem d_C_readBlock_19 : decode c_C_readBlock 19 = .ok (.dup, 1) := by decide +kernel
theorem d_C_readBlock_20 : decode c_C_readBlock 20 = .ok (.getfield 190, 3) := by decide +kernel
theorem d_C_readBlock_23 : decode c_C_readBlock 23 = .ok (.iconst 1, 1) := by decide +kernel
theorem d_C_readBlock_24 : decode c_C_readBlock 24 = .ok (.iadd, 1) := by decide +kernel
theorem d_C_readBlock_25 : decode c_C_readBlock 25 = .ok (.putfield 190, 3) := by decide +kernel
theorem d_C_readBlock_28 : decode c_C_readBlock 28 = .ok (.iload_n 2, 1) := by decide +kernel
theorem d_C_readBlock_29 : decode c_C_readBlock 29 = .ok (.ireturn, 1) := by decide +kernel
theorem d_C_knownPairs_0 : decode c_C_knownPairs 0 = .ok (.aload_n 0, 1) := by decide +kernel
theorem d_C_knownPairs_1 : decode c_C_knownPairs 1 = .ok (.getfield 21, 3) := by decide +kernel
theorem d_C_knownPairs_4 : decode c_C_knownPairs 4 = .ok (.iconst 0, 1) := by decide +kernel
theorem d_C_knownPairs_5 : decode c_C_knownPairs 5 = .ok (.invokestatic 215, 3) := by decide +kernel
theorem d_C_knownPairs_8 : decode c_C_knownPairs 8 = .ok (.iconst 0, 1) := by decide +kernel
theorem d_C_knownPairs_9 : decode c_C_knownPairs 9 = .ok (.istore 5, 2) := by decide +kernel
theorem d_C_knownPairs_11 : decode c_C_knownPairs 11 = .ok (.iload 5, 2) := by decide +kernel
theorem d_C_knownPairs_13 : decode c_C_knownPairs 13 = .ok (.bipush 8, 2) := by decide +kernel
theorem d_C_knownPairs_15 : decode c_C_knownPairs 15 = .ok (.if_icmp .ge 23, 3) := by decide +kernel
theorem d_C_knownPairs_18 : decode c_C_knownPairs 18 = .ok (.aload_n 1, 1) := by decide +kernel
theorem d_C_knownPairs_19 : decode c_C_knownPairs 19 = .ok (.getfield 182, 3) := by decide +kernel
theorem d_C_knownPairs_22 : decode c_C_knownPairs 22 = .ok (.iload 5, 2) := by decide +kernel
theorem d_C_knownPairs_24 : decode c_C_knownPairs 24 = .ok (.aaload, 1) := by decide +kernel
theorem d_C_knownPairs_25 : decode c_C_knownPairs 25 = .ok (.aload_n 0, 1) := by decide +kernel
theorem d_C_knownPairs_26 : decode c_C_knownPairs 26 = .ok (.getfield 21, 3) := by decide +kernel
theorem d_C_knownPairs_29 : decode c_C_knownPairs 29 = .ok (.invokevirtual 221, 3) := by decide +kernel
theorem d_C_knownPairs_32 : decode c_C_knownPairs 32 = .ok (.iinc 5 1, 3) := by decide +kernel
theorem d_C_knownPairs_35 : decode c_C_knownPairs 35 = .ok (.goto (-24), 3) := by decide +kernel
theorem d_C_knownPairs_38 : decode c_C_knownPairs 38 = .ok (.iconst 0, 1) := by decide +kernel
theorem d_C_knownPairs_39 : decode c_C_knownPairs 39 = .ok (.istore 5, 2) := by decide +kernel
theorem d_C_knownPairs_41 : decode c_C_knownPairs 41 = .ok (.iconst 0, 1) := by decide +kernel
theorem d_C_knownPairs_42 : decode c_C_knownPairs 42 = .ok (.istore 6, 2) := by decide +kernel
theorem d_C_knownPairs_44 : decode c_C_knownPairs 44 = .ok (.iload 6, 2) := by decide +kernel
theorem d_C_knownPairs_46 : decode c_C_knownPairs 46 = .ok (.bipush 8, 2) := by decide +kernel
theorem d_C_knownPairs_48 : decode c_C_knownPairs 48 = .ok (.if_icmp .ge 31, 3) := by decide +kernel
theorem d_C_knownPairs_51 : decode c_C_knownPairs 51 = .ok (.iload 5, 2) := by decide +kernel
theorem d_C_knownPairs_53 : decode c_C_knownPairs 53 = .ok (.aload_n 2, 1) := by decide +kernel
theorem d_C_knownPairs_54 : decode c_C_knownPairs 54 = .ok (.getfield 182, 3) := by decide +kernel
theorem d_C_knownPairs_57 : decode c_C_knownPairs 57 = .ok (.iload 6, 2) := by decide +kernel
theorem d_C_knownPairs_59 : decode c_C_knownPairs 59 = .ok (.aaload, 1) := by decide +kernel
theorem d_C_knownPairs_60 : decode c_C_knownPairs 60 = .ok (.aload_n 0, 1) := by decide +kernel
theorem d_C_knownPairs_61 : decode c_C_knownPairs 61 = .ok (.getfield 21, 3) := by decide +kernel
theorem d_C_knownPairs_64 : decode c_C_knownPairs 64 = .ok (.iload_n 3, 1) := by decide +kernel
theorem d_C_knownPairs_65 : decode c_C_knownPairs 65 = .ok (.iload 4, 2) := by decide +kernel
theorem d_C_knownPairs_67 : decode c_C_knownPairs 67 = .ok (.invokevirtual 225, 3) := by decide +kernel
theorem d_C_knownPairs_70 : decode c_C_knownPairs 70 = .ok (.iadd, 1) := by decide +kernel
theorem d_C_knownPairs_71 : decode c_C_knownPairs 71 = .ok (.istore 5, 2) := by decide +kernel
theorem d_C_knownPairs_73 : decode c_C_knownPairs 73 = .ok (.iinc 6 1, 3) := by decide +kernel
theorem d_C_knownPairs_76 : decode c_C_knownPairs 76 = .ok (.goto (-32), 3) := by decide +kernel
theorem d_C_knownPairs_79 : decode c_C_knownPairs 79 = .ok (.iload 5, 2) := by decide +kernel
theorem d_C_knownPairs_81 : decode c_C_knownPairs 81 = .ok (.ireturn, 1) := by decide +kernel
theorem d_C_mixed_0 : decode c_C_mixed 0 = .ok (.ldc2_w 229, 3) := by decide +kernel
theorem d_C_mixed_3 : decode c_C_mixed 3 = .ok (.lload_n 0, 1) := by decide +kernel
theorem d_C_mixed_4 : decode c_C_mixed 4 = .ok (.lmul, 1) := by decide +kernel
theorem d_C_mixed_5 : decode c_C_mixed 5 = .ok (.lload_n 2, 1) := by decide +kernel
theorem d_C_mixed_6 : decode c_C_mixed 6 = .ok (.ladd, 1) := by decide +kernel
theorem d_C_mixed_7 : decode c_C_mixed 7 = .ok (.lreturn, 1) := by decide +kernel
theorem d_C_isValue_0 : decode c_C_isValue 0 = .ok (.iload_n 0, 1) := by decide +kernel
theorem d_C_isValue_1 : decode c_C_isValue 1 = .ok (.sipush (-1000), 3) := by decide +kernel
theorem d_C_isValue_4 : decode c_C_isValue 4 = .ok (.if_icmp .lt 14, 3) := by decide +kernel
theorem d_C_isValue_7 : decode c_C_isValue 7 = .ok (.iload_n 0, 1) := by decide +kernel
theorem d_C_isValue_8 : decode c_C_isValue 8 = .ok (.sipush 1000, 3) := by decide +kernel
theorem d_C_isValue_11 : decode c_C_isValue 11 = .ok (.if_icmp .gt 7, 3) := by decide +kernel
theorem d_C_isValue_14 : decode c_C_isValue 14 = .ok (.iconst 1, 1) := by decide +kernel
theorem d_C_isValue_15 : decode c_C_isValue 15 = .ok (.goto 4, 3) := by decide +kernel
theorem d_C_isValue_18 : decode c_C_isValue 18 = .ok (.iconst 0, 1) := by decide +kernel
theorem d_C_isValue_19 : decode c_C_isValue 19 = .ok (.ireturn, 1) := by decide +kernel
theorem d_C_isRow_0 : decode c_C_isRow 0 = .ok (.iload_n 0, 1) := by decide +kernel
theorem d_C_isRow_1 : decode c_C_isRow 1 = .ok (.ifCond .lt 29, 3) := by decide +kernel
theorem d_C_isRow_4 : decode c_C_isRow 4 = .ok (.iload_n 0, 1) := by decide +kernel
theorem d_C_isRow_5 : decode c_C_isRow 5 = .ok (.bipush 100, 2) := by decide +kernel
theorem d_C_isRow_7 : decode c_C_isRow 7 = .ok (.if_icmp .ge 23, 3) := by decide +kernel
theorem d_C_isRow_10 : decode c_C_isRow 10 = .ok (.iload_n 1, 1) := by decide +kernel
theorem d_C_isRow_11 : decode c_C_isRow 11 = .ok (.ifCond .lt 19, 3) := by decide +kernel
theorem d_C_isRow_14 : decode c_C_isRow 14 = .ok (.iload_n 1, 1) := by decide +kernel
theorem d_C_isRow_15 : decode c_C_isRow 15 = .ok (.iconst 4, 1) := by decide +kernel
theorem d_C_isRow_16 : decode c_C_isRow 16 = .ok (.if_icmp .ge 14, 3) := by decide +kernel
theorem d_C_isRow_19 : decode c_C_isRow 19 = .ok (.iload_n 2, 1) := by decide +kernel
theorem d_C_isRow_20 : decode c_C_isRow 20 = .ok (.invokestatic 98, 3) := by decide +kernel
theorem d_C_isRow_23 : decode c_C_isRow 23 = .ok (.ifCond .eq 7, 3) := by decide +kernel
theorem d_C_isRow_26 : decode c_C_isRow 26 = .ok (.iconst 1, 1) := by decide +kernel
theorem d_C_isRow_27 : decode c_C_isRow 27 = .ok (.goto 4, 3) := by decide +kernel
theorem d_C_isRow_30 : decode c_C_isRow 30 = .ok (.iconst 0, 1) := by decide +kernel
theorem d_C_isRow_31 : decode c_C_isRow 31 = .ok (.ireturn, 1) := by decide +kernel
theorem d_C_isKeeper_0 : decode c_C_isKeeper 0 = .ok (.iload_n 0, 1) := by decide +kernel
theorem d_C_isKeeper_1 : decode c_C_isKeeper 1 = .ok (.tableswitch 80 0 3 #[31, 31, 52, 58], 31) := by decide +kernel
theorem d_C_isKeeper_32 : decode c_C_isKeeper 32 = .ok (.iload_n 1, 1) := by decide +kernel
theorem d_C_isKeeper_33 : decode c_C_isKeeper 33 = .ok (.iconst 1, 1) := by decide +kernel
theorem d_C_isKeeper_34 : decode c_C_isKeeper 34 = .ok (.if_icmp .lt 17, 3) := by decide +kernel
theorem d_C_isKeeper_37 : decode c_C_isKeeper 37 = .ok (.iload_n 1, 1) := by decide +kernel
theorem d_C_isKeeper_38 : decode c_C_isKeeper 38 = .ok (.bipush 12, 2) := by decide +kernel
theorem d_C_isKeeper_40 : decode c_C_isKeeper 40 = .ok (.if_icmp .gt 11, 3) := by decide +kernel
theorem d_C_isKeeper_43 : decode c_C_isKeeper 43 = .ok (.iload_n 2, 1) := by decide +kernel
theorem d_C_isKeeper_44 : decode c_C_isKeeper 44 = .ok (.ifCond .ne 7, 3) := by decide +kernel
theorem d_C_isKeeper_47 : decode c_C_isKeeper 47 = .ok (.iconst 1, 1) := by decide +kernel
theorem d_C_isKeeper_48 : decode c_C_isKeeper 48 = .ok (.goto 4, 3) := by decide +kernel
theorem d_C_isKeeper_51 : decode c_C_isKeeper 51 = .ok (.iconst 0, 1) := by decide +kernel
theorem d_C_isKeeper_52 : decode c_C_isKeeper 52 = .ok (.ireturn, 1) := by decide +kernel
theorem d_C_isKeeper_53 : decode c_C_isKeeper 53 = .ok (.iload_n 1, 1) := by decide +kernel
theorem d_C_isKeeper_54 : decode c_C_isKeeper 54 = .ok (.iload_n 2, 1) := by decide +kernel
theorem d_C_isKeeper_55 : decode c_C_isKeeper 55 = .ok (.invokestatic 143, 3) := by decide +kernel
theorem d_C_isKeeper_58 : decode c_C_isKeeper 58 = .ok (.ireturn, 1) := by decide +kernel
theorem d_C_isKeeper_59 : decode c_C_isKeeper 59 = .ok (.iload_n 1, 1) := by decide +kernel
theorem d_C_isKeeper_60 : decode c_C_isKeeper 60 = .ok (.iconst 1, 1) := by decide +kernel
theorem d_C_isKeeper_61 : decode c_C_isKeeper 61 = .ok (.if_icmp .lt 18, 3) := by decide +kernel
theorem d_C_isKeeper_64 : decode c_C_isKeeper 64 = .ok (.iload_n 1, 1) := by decide +kernel
theorem d_C_isKeeper_65 : decode c_C_isKeeper 65 = .ok (.sipush 1000, 3) := by decide +kernel
theorem d_C_isKeeper_68 : decode c_C_isKeeper 68 = .ok (.if_icmp .gt 11, 3) := by decide +kernel
theorem d_C_isKeeper_71 : decode c_C_isKeeper 71 = .ok (.iload_n 2, 1) := by decide +kernel
theorem d_C_isKeeper_72 : decode c_C_isKeeper 72 = .ok (.ifCond .ne 7, 3) := by decide +kernel
theorem d_C_isKeeper_75 : decode c_C_isKeeper 75 = .ok (.iconst 1, 1) := by decide +kernel
theorem d_C_isKeeper_76 : decode c_C_isKeeper 76 = .ok (.goto 4, 3) := by decide +kernel
theorem d_C_isKeeper_79 : decode c_C_isKeeper 79 = .ok (.iconst 0, 1) := by decide +kernel
theorem d_C_isKeeper_80 : decode c_C_isKeeper 80 = .ok (.ireturn, 1) := by decide +kernel
theorem d_C_isKeeper_81 : decode c_C_isKeeper 81 = .ok (.iconst 0, 1) := by decide +kernel
theorem d_C_isKeeper_82 : decode c_C_isKeeper 82 = .ok (.ireturn, 1) := by decide +kernel
theorem d_C_isModulus_0 : decode c_C_isModulus 0 = .ok (.iload_n 0, 1) := by decide +kernel
theorem d_C_isModulus_1 : decode c_C_isModulus 1 = .ok (.iconst 1, 1) := by decide +kernel
theorem d_C_isModulus_2 : decode c_C_isModulus 2 = .ok (.if_icmp .lt 22, 3) := by decide +kernel
theorem d_C_isModulus_5 : decode c_C_isModulus 5 = .ok (.iload_n 0, 1) := by decide +kernel
theorem d_C_isModulus_6 : decode c_C_isModulus 6 = .ok (.bipush 100, 2) := by decide +kernel
theorem d_C_isModulus_8 : decode c_C_isModulus 8 = .ok (.if_icmp .gt 16, 3) := by decide +kernel
theorem d_C_isModulus_11 : decode c_C_isModulus 11 = .ok (.iload_n 1, 1) := by decide +kernel
theorem d_C_isModulus_12 : decode c_C_isModulus 12 = .ok (.ifCond .lt 12, 3) := by decide +kernel
theorem d_C_isModulus_15 : decode c_C_isModulus 15 = .ok (.iload_n 1, 1) := by decide +kernel
theorem d_C_isModulus_16 : decode c_C_isModulus 16 = .ok (.iload_n 0, 1) := by decide +kernel
theorem d_C_isModulus_17 : decode c_C_isModulus 17 = .ok (.if_icmp .ge 7, 3) := by decide +kernel
theorem d_C_isModulus_20 : decode c_C_isModulus 20 = .ok (.iconst 1, 1) := by decide +kernel
theorem d_C_isModulus_21 : decode c_C_isModulus 21 = .ok (.goto 4, 3) := by decide +kernel
theorem d_C_isModulus_24 : decode c_C_isModulus 24 = .ok (.iconst 0, 1) := by decide +kernel
theorem d_C_isModulus_25 : decode c_C_isModulus 25 = .ok (.ireturn, 1) := by decide +kernel
theorem d_C_isCongruent_0 : decode c_C_isCongruent 0 = .ok (.iload_n 1, 1) := by decide +kernel
theorem d_C_isCongruent_1 : decode c_C_isCongruent 1 = .ok (.ifCond .le 14, 3) := by decide +kernel
theorem d_C_isCongruent_4 : decode c_C_isCongruent 4 = .ok (.iload_n 0, 1) := by decide +kernel
theorem d_C_isCongruent_5 : decode c_C_isCongruent 5 = .ok (.iload_n 1, 1) := by decide +kernel
theorem d_C_isCongruent_6 : decode c_C_isCongruent 6 = .ok (.irem, 1) := by decide +kernel
theorem d_C_isCongruent_7 : decode c_C_isCongruent 7 = .ok (.iload_n 2, 1) := by decide +kernel
theorem d_C_isCongruent_8 : decode c_C_isCongruent 8 = .ok (.if_icmp .ne 7, 3) := by decide +kernel
theorem d_C_isCongruent_11 : decode c_C_isCongruent 11 = .ok (.iconst 1, 1) := by decide +kernel
theorem d_C_isCongruent_12 : decode c_C_isCongruent 12 = .ok (.goto 4, 3) := by decide +kernel
theorem d_C_isCongruent_15 : decode c_C_isCongruent 15 = .ok (.iconst 0, 1) := by decide +kernel
theorem d_C_isCongruent_16 : decode c_C_isCongruent 16 = .ok (.ireturn, 1) := by decide +kernel
theorem d_C_isFact_0 : decode c_C_isFact 0 = .ok (.iload_n 0, 1) := by decide +kernel
theorem d_C_isFact_1 : decode c_C_isFact 1 = .ok (.bipush 10, 2) := by decide +kernel
theorem d_C_isFact_3 : decode c_C_isFact 3 = .ok (.if_icmp .lt 13, 3) := by decide +kernel
theorem d_C_isFact_6 : decode c_C_isFact 6 = .ok (.iload_n 0, 1) := by decide +kernel
theorem d_C_isFact_7 : decode c_C_isFact 7 = .ok (.bipush 14, 2) := by decide +kernel
theorem d_C_isFact_9 : decode c_C_isFact 9 = .ok (.if_icmp .ge 7, 3) := by decide +kernel
theorem d_C_isFact_12 : decode c_C_isFact 12 = .ok (.iconst 1, 1) := by decide +kernel
theorem d_C_isFact_13 : decode c_C_isFact 13 = .ok (.goto 4, 3) := by decide +kernel
theorem d_C_isFact_16 : decode c_C_isFact 16 = .ok (.iconst 0, 1) := by decide +kernel
theorem d_C_isFact_17 : decode c_C_isFact 17 = .ok (.istore_n 1, 1) := by decide +kernel
theorem d_C_isFact_18 : decode c_C_isFact 18 = .ok (.iload_n 0, 1) := by decide +kernel
theorem d_C_isFact_19 : decode c_C_isFact 19 = .ok (.ifCond .lt 9, 3) := by decide +kernel
theorem d_C_isFact_22 : decode c_C_isFact 22 = .ok (.iload_n 0, 1) := by decide +kernel
theorem d_C_isFact_23 : decode c_C_isFact 23 = .ok (.bipush 7, 2) := by decide +kernel
theorem d_C_isFact_25 : decode c_C_isFact 25 = .ok (.if_icmp .le 7, 3) := by decide +kernel
theorem d_C_isFact_28 : decode c_C_isFact 28 = .ok (.iload_n 1, 1) := by decide +kernel
theorem d_C_isFact_29 : decode c_C_isFact 29 = .ok (.ifCond .eq 7, 3) := by decide +kernel
theorem d_C_isFact_32 : decode c_C_isFact 32 = .ok (.iconst 1, 1) := by decide +kernel
theorem d_C_isFact_33 : decode c_C_isFact 33 = .ok (.goto 4, 3) := by decide +kernel
theorem d_C_isFact_36 : decode c_C_isFact 36 = .ok (.iconst 0, 1) := by decide +kernel
theorem d_C_isFact_37 : decode c_C_isFact 37 = .ok (.ireturn, 1) := by decide +kernel
theorem d_C_isGroupOrAll_0 : decode c_C_isGroupOrAll 0 = .ok (.iload_n 0, 1) := by decide +kernel
theorem d_C_isGroupOrAll_1 : decode c_C_isGroupOrAll 1 = .ok (.iconst (-1), 1) := by decide +kernel
theorem d_C_isGroupOrAll_2 : decode c_C_isGroupOrAll 2 = .ok (.if_icmp .lt 12, 3) := by decide +kernel
theorem d_C_isGroupOrAll_5 : decode c_C_isGroupOrAll 5 = .ok (.iload_n 0, 1) := by decide +kernel
theorem d_C_isGroupOrAll_6 : decode c_C_isGroupOrAll 6 = .ok (.iconst 4, 1) := by decide +kernel
theorem d_C_isGroupOrAll_7 : decode c_C_isGroupOrAll 7 = .ok (.if_icmp .ge 7, 3) := by decide +kernel
theorem d_C_isGroupOrAll_10 : decode c_C_isGroupOrAll 10 = .ok (.iconst 1, 1) := by decide +kernel
theorem d_C_isGroupOrAll_11 : decode c_C_isGroupOrAll 11 = .ok (.goto 4, 3) := by decide +kernel
theorem d_C_isGroupOrAll_14 : decode c_C_isGroupOrAll 14 = .ok (.iconst 0, 1) := by decide +kernel
theorem d_C_isGroupOrAll_15 : decode c_C_isGroupOrAll 15 = .ok (.ireturn, 1) := by decide +kernel
theorem d_C_isEnd_0 : decode c_C_isEnd 0 = .ok (.iload_n 0, 1) := by decide +kernel
theorem d_C_isEnd_1 : decode c_C_isEnd 1 = .ok (.ifCond .eq 8, 3) := by decide +kernel
theorem d_C_isEnd_4 : decode c_C_isEnd 4 = .ok (.iload_n 0, 1) := by decide +kernel
theorem d_C_isEnd_5 : decode c_C_isEnd 5 = .ok (.iconst 1, 1) := by decide +kernel
theorem d_C_isEnd_6 : decode c_C_isEnd 6 = .ok (.if_icmp .ne 7, 3) := by decide +kernel
theorem d_C_isEnd_9 : decode c_C_isEnd 9 = .ok (.iconst 1, 1) := by decide +kernel
theorem d_C_isEnd_10 : decode c_C_isEnd 10 = .ok (.goto 4, 3) := by decide +kernel
theorem d_C_isEnd_13 : decode c_C_isEnd 13 = .ok (.iconst 0, 1) := by decide +kernel
theorem d_C_isEnd_14 : decode c_C_isEnd 14 = .ok (.ireturn, 1) := by decide +kernel
theorem d_C_isForm_0 : decode c_C_isForm 0 = .ok (.iload_n 0, 1) := by decide +kernel
theorem d_C_isForm_1 : decode c_C_isForm 1 = .ok (.ifCond .lt 12, 3) := by decide +kernel
theorem d_C_isForm_4 : decode c_C_isForm 4 = .ok (.iload_n 0, 1) := by decide +kernel
theorem d_C_isForm_5 : decode c_C_isForm 5 = .ok (.iconst 2, 1) := by decide +kernel
theorem d_C_isForm_6 : decode c_C_isForm 6 = .ok (.if_icmp .gt 7, 3) := by decide +kernel
theorem d_C_isForm_9 : decode c_C_isForm 9 = .ok (.iconst 1, 1) := by decide +kernel
theorem d_C_isForm_10 : decode c_C_isForm 10 = .ok (.goto 4, 3) := by decide +kernel
theorem d_C_isForm_13 : decode c_C_isForm 13 = .ok (.iconst 0, 1) := by decide +kernel
theorem d_C_isForm_14 : decode c_C_isForm 14 = .ok (.ireturn, 1) := by decide +kernel
theorem d_M_init_0 : decode c_M_init 0 = .ok (.aload_n 0, 1) := by decide +kernel
theorem d_M_init_1 : decode c_M_init 1 = .ok (.invokespecial 1, 3) := by decide +kernel
theorem d_M_init_4 : decode c_M_init 4 = .ok (.aload_n 0, 1) := by decide +kernel
theorem d_M_init_5 : decode c_M_init 5 = .ok (.bipush 16, 2) := by decide +kernel
theorem d_M_init_7 : decode c_M_init 7 = .ok (.newarray .int, 2) := by decide +kernel
theorem d_M_init_9 : decode c_M_init 9 = .ok (.putfield 7, 3) := by decide +kernel
theorem d_M_init_12 : decode c_M_init 12 = .ok (.aload_n 0, 1) := by decide +kernel
theorem d_M_init_13 : decode c_M_init 13 = .ok (.sipush 192, 3) := by decide +kernel
theorem d_M_init_16 : decode c_M_init 16 = .ok (.newarray .int, 2) := by decide +kernel
theorem d_M_init_18 : decode c_M_init 18 = .ok (.putfield 13, 3) := by decide +kernel
theorem d_M_init_21 : decode c_M_init 21 = .ok (.aload_n 0, 1) := by decide +kernel
theorem d_M_init_22 : decode c_M_init 22 = .ok (.sipush 192, 3) := by decide +kernel
theorem d_M_init_25 : decode c_M_init 25 = .ok (.newarray .int, 2) := by decide +kernel
theorem d_M_init_27 : decode c_M_init 27 = .ok (.putfield 16, 3) := by decide +kernel
theorem d_M_init_30 : decode c_M_init 30 = .ok (.aload_n 0, 1) := by decide +kernel
theorem d_M_init_31 : decode c_M_init 31 = .ok (.sipush 192, 3) := by decide +kernel
theorem d_M_init_34 : decode c_M_init 34 = .ok (.newarray .int, 2) := by decide +kernel
theorem d_M_init_36 : decode c_M_init 36 = .ok (.putfield 19, 3) := by decide +kernel
theorem d_M_init_39 : decode c_M_init 39 = .ok (.aload_n 0, 1) := by decide +kernel
theorem d_M_init_40 : decode c_M_init 40 = .ok (.sipush 192, 3) := by decide +kernel
theorem d_M_init_43 : decode c_M_init 43 = .ok (.newarray .boolean, 2) := by decide +kernel
theorem d_M_init_45 : decode c_M_init 45 = .ok (.putfield 22, 3) := by decide +kernel
theorem d_M_init_48 : decode c_M_init 48 = .ok (.aload_n 0, 1) := by decide +kernel
theorem d_M_init_49 : decode c_M_init 49 = .ok (.sipush 192, 3) := by decide +kernel
theorem d_M_init_52 : decode c_M_init 52 = .ok (.newarray .boolean, 2) := by decide +kernel
theorem d_M_init_54 : decode c_M_init 54 = .ok (.putfield 26, 3) := by decide +kernel
theorem d_M_init_57 : decode c_M_init 57 = .ok (.aload_n 0, 1) := by decide +kernel
theorem d_M_init_58 : decode c_M_init 58 = .ok (.sipush 192, 3) := by decide +kernel
theorem d_M_init_61 : decode c_M_init 61 = .ok (.newarray .int, 2) := by decide +kernel
theorem d_M_init_63 : decode c_M_init 63 = .ok (.putfield 29, 3) := by decide +kernel
theorem d_M_init_66 : decode c_M_init 66 = .ok (.aload_n 0, 1) := by decide +kernel
theorem d_M_init_67 : decode c_M_init 67 = .ok (.bipush 16, 2) := by decide +kernel
theorem d_M_init_69 : decode c_M_init 69 = .ok (.newarray .int, 2) := by decide +kernel
theorem d_M_init_71 : decode c_M_init 71 = .ok (.putfield 32, 3) := by decide +kernel
theorem d_M_init_74 : decode c_M_init 74 = .ok (.aload_n 0, 1) := by decide +kernel
theorem d_M_init_75 : decode c_M_init 75 = .ok (.bipush 16, 2) := by decide +kernel
theorem d_M_init_77 : decode c_M_init 77 = .ok (.newarray .int, 2) := by decide +kernel
theorem d_M_init_79 : decode c_M_init 79 = .ok (.putfield 35, 3) := by decide +kernel
theorem d_M_init_82 : decode c_M_init 82 = .ok (.aload_n 0, 1) := by decide +kernel
theorem d_M_init_83 : decode c_M_init 83 = .ok (.bipush 64, 2) := by decide +kernel
theorem d_M_init_85 : decode c_M_init 85 = .ok (.newarray .int, 2) := by decide +kernel
theorem d_M_init_87 : decode c_M_init 87 = .ok (.putfield 38, 3) := by decide +kernel
theorem d_M_init_90 : decode c_M_init 90 = .ok (.aload_n 0, 1) := by decide +kernel
theorem d_M_init_91 : decode c_M_init 91 = .ok (.bipush 16, 2) := by decide +kernel
theorem d_M_init_93 : decode c_M_init 93 = .ok (.newarray .boolean, 2) := by decide +kernel
theorem d_M_init_95 : decode c_M_init 95 = .ok (.putfield 41, 3) := by decide +kernel
theorem d_M_init_98 : decode c_M_init 98 = .ok (.aload_n 0, 1) := by decide +kernel
theorem d_M_init_99 : decode c_M_init 99 = .ok (.iconst 2, 1) := by decide +kernel
theorem d_M_init_100 : decode c_M_init 100 = .ok (.newarray .boolean, 2) := by decide +kernel
theorem d_M_init_102 : decode c_M_init 102 = .ok (.putfield 44, 3) := by decide +kernel
theorem d_M_init_105 : decode c_M_init 105 = .ok (.aload_n 0, 1) := by decide +kernel
theorem d_M_init_106 : decode c_M_init 106 = .ok (.iconst 2, 1) := by decide +kernel
theorem d_M_init_107 : decode c_M_init 107 = .ok (.newarray .int, 2) := by decide +kernel
theorem d_M_init_109 : decode c_M_init 109 = .ok (.putfield 47, 3) := by decide +kernel
theorem d_M_init_112 : decode c_M_init 112 = .ok (.aload_n 0, 1) := by decide +kernel
theorem d_M_init_113 : decode c_M_init 113 = .ok (.bipush 8, 2) := by decide +kernel
theorem d_M_init_115 : decode c_M_init 115 = .ok (.newarray .int, 2) := by decide +kernel
theorem d_M_init_117 : decode c_M_init 117 = .ok (.putfield 50, 3) := by decide +kernel
theorem d_M_init_120 : decode c_M_init 120 = .ok (.aload_n 0, 1) := by decide +kernel
theorem d_M_init_121 : decode c_M_init 121 = .ok (.bipush 8, 2) := by decide +kernel
theorem d_M_init_123 : decode c_M_init 123 = .ok (.newarray .int, 2) := by decide +kernel
theorem d_M_init_125 : decode c_M_init 125 = .ok (.putfield 53, 3) := by decide +kernel
theorem d_M_init_128 : decode c_M_init 128 = .ok (.aload_n 0, 1) := by decide +kernel
theorem d_M_init_129 : decode c_M_init 129 = .ok (.bipush 8, 2) := by decide +kernel
theorem d_M_init_131 : decode c_M_init 131 = .ok (.newarray .int, 2) := by decide +kernel
theorem d_M_init_133 : decode c_M_init 133 = .ok (.putfield 56, 3) := by decide +kernel
theorem d_M_init_136 : decode c_M_init 136 = .ok (.aload_n 0, 1) := by decide +kernel
theorem d_M_init_137 : decode c_M_init 137 = .ok (.iconst 4, 1) := by decide +kernel
theorem d_M_init_138 : decode c_M_init 138 = .ok (.newarray .boolean, 2) := by decide +kernel
theorem d_M_init_140 : decode c_M_init 140 = .ok (.putfield 59, 3) := by decide +kernel
theorem d_M_init_143 : decode c_M_init 143 = .ok (.aload_n 0, 1) := by decide +kernel
theorem d_M_init_144 : decode c_M_init 144 = .ok (.iconst 4, 1) := by decide +kernel
theorem d_M_init_145 : decode c_M_init 145 = .ok (.newarray .int, 2) := by decide +kernel
theorem d_M_init_147 : decode c_M_init 147 = .ok (.putfield 62, 3) := by decide +kernel
theorem d_M_init_150 : decode c_M_init 150 = .ok (.aload_n 0, 1) := by decide +kernel
theorem d_M_init_151 : decode c_M_init 151 = .ok (.iconst 4, 1) := by decide +kernel
theorem d_M_init_152 : decode c_M_init 152 = .ok (.newarray .int, 2) := by decide +kernel
theorem d_M_init_154 : decode c_M_init 154 = .ok (.putfield 65, 3) := by decide +kernel
theorem d_M_init_157 : decode c_M_init 157 = .ok (.aload_n 0, 1) := by decide +kernel
theorem d_M_init_158 : decode c_M_init 158 = .ok (.sipush 160, 3) := by decide +kernel
theorem d_M_init_161 : decode c_M_init 161 = .ok (.newarray .int, 2) := by decide +kernel
theorem d_M_init_163 : decode c_M_init 163 = .ok (.putfield 68, 3) := by decide +kernel
theorem d_M_init_166 : decode c_M_init 166 = .ok (.aload_n 0, 1) := by decide +kernel
theorem d_M_init_167 : decode c_M_init 167 = .ok (.bipush 40, 2) := by decide +kernel
theorem d_M_init_169 : decode c_M_init 169 = .ok (.newarray .int, 2) := by decide +kernel
theorem d_M_init_171 : decode c_M_init 171 = .ok (.putfield 71, 3) := by decide +kernel
theorem d_M_init_174 : decode c_M_init 174 = .ok (.return_, 1) := by decide +kernel
theorem d_M_in_0 : decode c_M_in 0 = .ok (.iload_n 0, 1) := by decide +kernel
theorem d_M_in_1 : decode c_M_in 1 = .ok (.iload_n 1, 1) := by decide +kernel
theorem d_M_in_2 : decode c_M_in 2 = .ok (.if_icmp .lt 12, 3) := by decide +kernel
theorem d_M_in_5 : decode c_M_in 5 = .ok (.iload_n 0, 1) := by decide +kernel
theorem d_M_in_6 : decode c_M_in 6 = .ok (.iload_n 2, 1) := by decide +kernel
theorem d_M_in_7 : decode c_M_in 7 = .ok (.if_icmp .gt 7, 3) := by decide +kernel
theorem d_M_in_10 : decode c_M_in 10 = .ok (.iconst 1, 1) := by decide +kernel
theorem d_M_in_11 : decode c_M_in 11 = .ok (.goto 4, 3) := by decide +kernel
theorem d_M_in_14 : decode c_M_in 14 = .ok (.iconst 0, 1) := by decide +kernel
theorem d_M_in_15 : decode c_M_in 15 = .ok (.ireturn, 1) := by decide +kernel
theorem d_M_isTable_0 : decode c_M_isTable 0 = .ok (.iload_n 0, 1) := by decide +kernel
theorem d_M_isTable_1 : decode c_M_isTable 1 = .ok (.iconst 0, 1) := by decide +kernel
theorem d_M_isTable_2 : decode c_M_isTable 2 = .ok (.iconst 1, 1) := by decide +kernel
theorem d_M_isTable_3 : decode c_M_isTable 3 = .ok (.invokestatic 74, 3) := by decide +kernel
theorem d_M_isTable_6 : decode c_M_isTable 6 = .ok (.ireturn, 1) := by decide +kernel
theorem d_M_isBlock_0 : decode c_M_isBlock 0 = .ok (.iload_n 0, 1) := by decide +kernel
theorem d_M_isBlock_1 : decode c_M_isBlock 1 = .ok (.invokestatic 78, 3) := by decide +kernel
theorem d_M_isBlock_4 : decode c_M_isBlock 4 = .ok (.ifCond .eq 17, 3) := by decide +kernel
theorem d_M_isBlock_7 : decode c_M_isBlock 7 = .ok (.iload_n 1, 1) := by decide +kernel
theorem d_M_isBlock_8 : decode c_M_isBlock 8 = .ok (.iconst 0, 1) := by decide +kernel
theorem d_M_isBlock_9 : decode c_M_isBlock 9 = .ok (.bipush 7, 2) := by decide +kernel
theorem d_M_isBlock_11 : decode c_M_isBlock 11 = .ok (.invokestatic 74, 3) := by decide +kernel
theorem d_M_isBlock_14 : decode c_M_isBlock 14 = .ok (.ifCond .eq 7, 3) := by decide +kernel
theorem d_M_isBlock_17 : decode c_M_isBlock 17 = .ok (.iconst 1, 1) := by decide +kernel
theorem d_M_isBlock_18 : decode c_M_isBlock 18 = .ok (.goto 4, 3) := by decide +kernel
theorem d_M_isBlock_21 : decode c_M_isBlock 21 = .ok (.iconst 0, 1) := by decide +kernel
theorem d_M_isBlock_22 : decode c_M_isBlock 22 = .ok (.ireturn, 1) := by decide +kernel
theorem d_M_isRow_0 : decode c_M_isRow 0 = .ok (.iload_n 0, 1) := by decide +kernel
theorem d_M_isRow_1 : decode c_M_isRow 1 = .ok (.iconst 0, 1) := by decide +kernel
theorem d_M_isRow_2 : decode c_M_isRow 2 = .ok (.bipush 99, 2) := by decide +kernel
theorem d_M_isRow_4 : decode c_M_isRow 4 = .ok (.invokestatic 74, 3) := by decide +kernel
theorem d_M_isRow_7 : decode c_M_isRow 7 = .ok (.ifCond .eq 29, 3) := by decide +kernel
theorem d_M_isRow_10 : decode c_M_isRow 10 = .ok (.iload_n 1, 1) := by decide +kernel
theorem d_M_isRow_11 : decode c_M_isRow 11 = .ok (.iconst 0, 1) := by decide +kernel
theorem d_M_isRow_12 : decode c_M_isRow 12 = .ok (.iconst 3, 1) := by decide +kernel
theorem d_M_isRow_13 : decode c_M_isRow 13 = .ok (.invokestatic 74, 3) := by decide +kernel
theorem d_M_isRow_16 : decode c_M_isRow 16 = .ok (.ifCond .eq 20, 3) := by decide +kernel
theorem d_M_isRow_19 : decode c_M_isRow 19 = .ok (.iload_n 2, 1) := by decide +kernel
theorem d_M_isRow_20 : decode c_M_isRow 20 = .ok (.sipush (-1000), 3) := by decide +kernel
theorem d_M_isRow_23 : decode c_M_isRow 23 = .ok (.sipush 1000, 3) := by decide +kernel
theorem d_M_isRow_26 : decode c_M_isRow 26 = .ok (.invokestatic 74, 3) := by decide +kernel
theorem d_M_isRow_29 : decode c_M_isRow 29 = .ok (.ifCond .eq 7, 3) := by decide +kernel
theorem d_M_isRow_32 : decode c_M_isRow 32 = .ok (.iconst 1, 1) := by decide +kernel
theorem d_M_isRow_33 : decode c_M_isRow 33 = .ok (.goto 4, 3) := by decide +kernel
theorem d_M_isRow_36 : decode c_M_isRow 36 = .ok (.iconst 0, 1) := by decide +kernel
theorem d_M_isRow_37 : decode c_M_isRow 37 = .ok (.ireturn, 1) := by decide +kernel
theorem d_M_lays_0 : decode c_M_lays 0 = .ok (.bipush 12, 2) := by decide +kernel
theorem d_M_lays_2 : decode c_M_lays 2 = .ok (.iload_n 1, 1) := by decide +kernel
theorem d_M_lays_3 : decode c_M_lays 3 = .ok (.imul, 1) := by decide +kernel
theorem d_M_lays_4 : decode c_M_lays 4 = .ok (.aload_n 0, 1) := by decide +kernel
theorem d_M_lays_5 : decode c_M_lays 5 = .ok (.getfield 7, 3) := by decide +kernel
theorem d_M_lays_8 : decode c_M_lays 8 = .ok (.iload_n 1, 1) := by decide +kernel
theorem d_M_lays_9 : decode c_M_lays 9 = .ok (.iaload, 1) := by decide +kernel
theorem d_M_lays_10 : decode c_M_lays 10 = .ok (.iadd, 1) := by decide +kernel
theorem d_M_lays_11 : decode c_M_lays 11 = .ok (.istore 5, 2) := by decide +kernel
theorem d_M_lays_13 : decode c_M_lays 13 = .ok (.aload_n 0, 1) := by decide +kernel
theorem d_M_lays_14 : decode c_M_lays 14 = .ok (.getfield 13, 3) := by decide +kernel
theorem d_M_lays_17 : decode c_M_lays 17 = .ok (.iload 5, 2) := by decide +kernel
theorem d_M_lays_19 : decode c_M_lays 19 = .ok (.iload_n 2, 1) := by decide +kernel
theorem d_M_lays_20 : decode c_M_lays 20 = .ok (.iastore, 1) := by decide +kernel
theorem d_M_lays_21 : decode c_M_lays 21 = .ok (.aload_n 0, 1) := by decide +kernel
theorem d_M_lays_22 : decode c_M_lays 22 = .ok (.getfield 16, 3) := by decide +kernel
theorem d_M_lays_25 : decode c_M_lays 25 = .ok (.iload 5, 2) := by decide +kernel
theorem d_M_lays_27 : decode c_M_lays 27 = .ok (.iload_n 3, 1) := by decide +kernel
theorem d_M_lays_28 : decode c_M_lays 28 = .ok (.iastore, 1) := by decide +kernel
theorem d_M_lays_29 : decode c_M_lays 29 = .ok (.aload_n 0, 1) := by decide +kernel
theorem d_M_lays_30 : decode c_M_lays 30 = .ok (.getfield 19, 3) := by decide +kernel
theorem d_M_lays_33 : decode c_M_lays 33 = .ok (.iload 5, 2) := by decide +kernel
theorem d_M_lays_35 : decode c_M_lays 35 = .ok (.iload 4, 2) := by decide +kernel
theorem d_M_lays_37 : decode c_M_lays 37 = .ok (.iastore, 1) := by decide +kernel
theorem d_M_lays_38 : decode c_M_lays 38 = .ok (.aload_n 0, 1) := by decide +kernel
theorem d_M_lays_39 : decode c_M_lays 39 = .ok (.getfield 22, 3) := by decide +kernel
theorem d_M_lays_42 : decode c_M_lays 42 = .ok (.iload 5, 2) := by decide +kernel
theorem d_M_lays_44 : decode c_M_lays 44 = .ok (.iconst 0, 1) := by decide +kernel
theorem d_M_lays_45 : decode c_M_lays 45 = .ok (.bastore, 1) := by decide +kernel
theorem d_M_lays_46 : decode c_M_lays 46 = .ok (.aload_n 0, 1) := by decide +kernel
theorem d_M_lays_47 : decode c_M_lays 47 = .ok (.getfield 7, 3) := by decide +kernel
theorem d_M_lays_50 : decode c_M_lays 50 = .ok (.iload_n 1, 1) := by decide +kernel
theorem d_M_lays_51 : decode c_M_lays 51 = .ok (.dup2, 1) := by decide +kernel
theorem d_M_lays_52 : decode c_M_lays 52 = .ok (.iaload, 1) := by decide +kernel
theorem d_M_lays_53 : decode c_M_lays 53 = .ok (.iconst 1, 1) := by decide +kernel
theorem d_M_lays_54 : decode c_M_lays 54 = .ok (.iadd, 1) := by decide +kernel
theorem d_M_lays_55 : decode c_M_lays 55 = .ok (.iastore, 1) := by decide +kernel
theorem d_M_lays_56 : decode c_M_lays 56 = .ok (.return_, 1) := by decide +kernel
theorem d_M_row_0 : decode c_M_row 0 = .ok (.iload_n 1, 1) := by decide +kernel
theorem d_M_row_1 : decode c_M_row 1 = .ok (.iload_n 2, 1) := by decide +kernel
theorem d_M_row_2 : decode c_M_row 2 = .ok (.invokestatic 82, 3) := by decide +kernel
theorem d_M_row_5 : decode c_M_row 5 = .ok (.ifCond .eq 14, 3) := by decide +kernel
theorem d_M_row_8 : decode c_M_row 8 = .ok (.iload_n 3, 1) := by decide +kernel
theorem d_M_row_9 : decode c_M_row 9 = .ok (.iload 4, 2) := by decide +kernel
theorem d_M_row_11 : decode c_M_row 11 = .ok (.iload 5, 2) := by decide +kernel
theorem d_M_row_13 : decode c_M_row 13 = .ok (.invokestatic 86, 3) := by decide +kernel
theorem d_M_row_16 : decode c_M_row 16 = .ok (.ifCond .ne 6, 3) := by decide +kernel
theorem d_M_row_19 : decode c_M_row 19 = .ok (.bipush (-2), 2) := by decide +kernel
theorem d_M_row_21 : decode c_M_row 21 = .ok (.ireturn, 1) := by decide +kernel
theorem d_M_row_22 : decode c_M_row 22 = .ok (.aload_n 0, 1) := by decide +kernel
theorem d_M_row_23 : decode c_M_row 23 = .ok (.getfield 44, 3) := by decide +kernel
theorem d_M_row_26 : decode c_M_row 26 = .ok (.iload_n 1, 1) := by decide +kernel
theorem d_M_row_27 : decode c_M_row 27 = .ok (.baload, 1) := by decide +kernel
theorem d_M_row_28 : decode c_M_row 28 = .ok (.ifCond .eq 6, 3) := by decide +kernel
theorem d_M_row_31 : decode c_M_row 31 = .ok (.bipush (-3), 2) := by decide +kernel
theorem d_M_row_33 : decode c_M_row 33 = .ok (.ireturn, 1) := by decide +kernel
theorem d_M_row_34 : decode c_M_row 34 = .ok (.bipush 8, 2) := by decide +kernel
theorem d_M_row_36 : decode c_M_row 36 = .ok (.iload_n 1, 1) := by decide +kernel
theorem d_M_row_37 : decode c_M_row 37 = .ok (.imul, 1) := by decide +kernel
theorem d_M_row_38 : decode c_M_row 38 = .ok (.iload_n 2, 1) := by decide +kernel
theorem d_M_row_39 : decode c_M_row 39 = .ok (.iadd, 1) := by decide +kernel
theorem d_M_row_40 : decode c_M_row 40 = .ok (.istore 6, 2) := by decide +kernel
theorem d_M_row_42 : decode c_M_row 42 = .ok (.aload_n 0, 1) := by decide +kernel
theorem d_M_row_43 : decode c_M_row 43 = .ok (.getfield 7, 3) := by decide +kernel
theorem d_M_row_46 : decode c_M_row 46 = .ok (.iload 6, 2) := by decide +kernel
theorem d_M_row_48 : decode c_M_row 48 = .ok (.iaload, 1) := by decide +kernel
theorem d_M_row_49 : decode c_M_row 49 = .ok (.bipush 12, 2) := by decide +kernel
theorem d_M_row_51 : decode c_M_row 51 = .ok (.if_icmp .ne 6, 3) := by decide +kernel
theorem d_M_row_54 : decode c_M_row 54 = .ok (.bipush (-4), 2) := by decide +kernel
theorem d_M_row_56 : decode c_M_row 56 = .ok (.ireturn, 1) := by decide +kernel
theorem d_M_row_57 : decode c_M_row 57 = .ok (.aload_n 0, 1) := by decide +kernel
theorem d_M_row_58 : decode c_M_row 58 = .ok (.iload 6, 2) := by decide +kernel
theorem d_M_row_60 : decode c_M_row 60 = .ok (.iload_n 3, 1) := by decide +kernel
theorem d_M_row_61 : decode c_M_row 61 = .ok (.iload 4, 2) := by decide +kernel
theorem d_M_row_63 : decode c_M_row 63 = .ok (.iload 5, 2) := by decide +kernel
theorem d_M_row_65 : decode c_M_row 65 = .ok (.invokevirtual 89, 3) := by decide +kernel
theorem d_M_row_68 : decode c_M_row 68 = .ok (.aload_n 0, 1) := by decide +kernel
theorem d_M_row_69 : decode c_M_row 69 = .ok (.getfield 7, 3) := by decide +kernel
theorem d_M_row_72 : decode c_M_row 72 = .ok (.iload 6, 2) := by decide +kernel
theorem d_M_row_74 : decode c_M_row 74 = .ok (.iaload, 1) := by decide +kernel
theorem d_M_row_75 : decode c_M_row 75 = .ok (.iconst 1, 1) := by decide +kernel
theorem d_M_row_76 : decode c_M_row 76 = .ok (.isub, 1) := by decide +kernel
theorem d_M_row_77 : decode c_M_row 77 = .ok (.ireturn, 1) := by decide +kernel
theorem d_M_load_0 : decode c_M_load 0 = .ok (.iload_n 1, 1) := by decide +kernel
theorem d_M_load_1 : decode c_M_load 1 = .ok (.iload_n 2, 1) := by decide +kernel
theorem d_M_load_2 : decode c_M_load 2 = .ok (.invokestatic 82, 3) := by decide +kernel
theorem d_M_load_5 : decode c_M_load 5 = .ok (.ifCond .eq 37, 3) := by decide +kernel
theorem d_M_load_8 : decode c_M_load 8 = .ok (.iload_n 3, 1) := by decide +kernel
theorem d_M_load_9 : decode c_M_load 9 = .ok (.invokestatic 93, 3) := by decide +kernel
theorem d_M_load_12 : decode c_M_load 12 = .ok (.ifCond .eq 30, 3) := by decide +kernel
theorem d_M_load_15 : decode c_M_load 15 = .ok (.iload 4, 2) := by decide +kernel
theorem d_M_load_17 : decode c_M_load 17 = .ok (.invokestatic 93, 3) := by decide +kernel
theorem d_M_load_20 : decode c_M_load 20 = .ok (.ifCond .eq 22, 3) := by decide +kernel
theorem d_M_load_23 : decode c_M_load 23 = .ok (.iload 5, 2) := by decide +kernel
theorem d_M_load_25 : decode c_M_load 25 = .ok (.invokestatic 93, 3) := by decide +kernel
theorem d_M_load_28 : decode c_M_load 28 = .ok (.ifCond .eq 14, 3) := by decide +kernel
theorem d_M_load_31 : decode c_M_load 31 = .ok (.iload 6, 2) := by decide +kernel
theorem d_M_load_33 : decode c_M_load 33 = .ok (.iconst 1, 1) := by decide +kernel
theorem d_M_load_34 : decode c_M_load 34 = .ok (.bipush 12, 2) := by decide +kernel
theorem d_M_load_36 : decode c_M_load 36 = .ok (.invokestatic 74, 3) := by decide +kernel
theorem d_M_load_39 : decode c_M_load 39 = .ok (.ifCond .ne 6, 3) := by decide +kernel
theorem d_M_load_42 : decode c_M_load 42 = .ok (.bipush (-2), 2) := by decide +kernel
theorem d_M_load_44 : decode c_M_load 44 = .ok (.ireturn, 1) := by decide +kernel
theorem d_M_load_45 : decode c_M_load 45 = .ok (.aload_n 0, 1) := by decide +kernel
theorem d_M_load_46 : decode c_M_load 46 = .ok (.getfield 44, 3) := by decide +kernel
theorem d_M_load_49 : decode c_M_load 49 = .ok (.iload_n 1, 1) := by decide +kernel
theorem d_M_load_50 : decode c_M_load 50 = .ok (.baload, 1) := by decide +kernel
theorem d_M_load_51 : decode c_M_load 51 = .ok (.ifCond .eq 6, 3) := by decide +kernel
theorem d_M_load_54 : decode c_M_load 54 = .ok (.bipush (-3), 2) := by decide +kernel
theorem d_M_load_56 : decode c_M_load 56 = .ok (.ireturn, 1) := by decide +kernel
theorem d_M_load_57 : decode c_M_load 57 = .ok (.bipush 8, 2) := by decide +kernel
theorem d_M_load_59 : decode c_M_load 59 = .ok (.iload_n 1, 1) := by decide +kernel
theorem d_M_load_60 : decode c_M_load 60 = .ok (.imul, 1) := by decide +kernel
theorem d_M_load_61 : decode c_M_load 61 = .ok (.iload_n 2, 1) := by decide +kernel
theorem d_M_load_62 : decode c_M_load 62 = .ok (.iadd, 1) := by decide +kernel
theorem d_M_load_63 : decode c_M_load 63 = .ok (.istore 7, 2) := by decide +kernel
theorem d_M_load_65 : decode c_M_load 65 = .ok (.aload_n 0, 1) := by decide +kernel
theorem d_M_load_66 : decode c_M_load 66 = .ok (.getfield 7, 3) := by decide +kernel
theorem d_M_load_69 : decode c_M_load 69 = .ok (.iload 7, 2) := by decide +kernel
theorem d_M_load_71 : decode c_M_load 71 = .ok (.iaload, 1) := by decide +kernel
theorem d_M_load_72 : decode c_M_load 72 = .ok (.iload 6, 2) := by decide +kernel
theorem d_M_load_74 : decode c_M_load 74 = .ok (.iadd, 1) := by decide +kernel
theorem d_M_load_75 : decode c_M_load 75 = .ok (.bipush 12, 2) := by decide +kernel
theorem d_M_load_77 : decode c_M_load 77 = .ok (.if_icmp .le 6, 3) := by decide +kernel
theorem d_M_load_80 : decode c_M_load 80 = .ok (.bipush (-4), 2) := by decide +kernel
theorem d_M_load_82 : decode c_M_load 82 = .ok (.ireturn, 1) := by decide +kernel
theorem d_M_load_83 : decode c_M_load 83 = .ok (.aload_n 0, 1) := by decide +kernel
theorem d_M_load_84 : decode c_M_load 84 = .ok (.getfield 59, 3) := by decide +kernel
theorem d_M_load_87 : decode c_M_load 87 = .ok (.iload_n 3, 1) := by decide +kernel
theorem d_M_load_88 : decode c_M_load 88 = .ok (.baload, 1) := by decide +kernel
theorem d_M_load_89 : decode c_M_load 89 = .ok (.ifCond .eq 23, 3) := by decide +kernel
theorem d_M_load_92 : decode c_M_load 92 = .ok (.aload_n 0, 1) := by decide +kernel
theorem d_M_load_93 : decode c_M_load 93 = .ok (.getfield 59, 3) := by decide +kernel
theorem d_M_load_96 : decode c_M_load 96 = .ok (.iload 4, 2) := by decide +kernel
theorem d_M_load_98 : decode c_M_load 98 = .ok (.baload, 1) := by decide +kernel
theorem d_M_load_99 : decode c_M_load 99 = .ok (.ifCond .eq 13, 3) := by decide +kernel
theorem d_M_load_102 : decode c_M_load 102 = .ok (.aload_n 0, 1) := by decide +kernel
theorem d_M_load_103 : decode c_M_load 103 = .ok (.getfield 59, 3) := by decide +kernel
theorem d_M_load_106 : decode c_M_load 106 = .ok (.iload 5, 2) := by decide +kernel
theorem d_M_load_108 : decode c_M_load 108 = .ok (.baload, 1) := by decide +kernel
theorem d_M_load_109 : decode c_M_load 109 = .ok (.ifCond .ne 9, 3) := by decide +kernel
theorem d_M_load_112 : decode c_M_load 112 = .ok (.aload_n 0, 1) := by decide +kernel
theorem d_M_load_113 : decode c_M_load 113 = .ok (.iconst 1, 1) := by decide +kernel
theorem d_M_load_114 : decode c_M_load 114 = .ok (.invokevirtual 96, 3) := by decide +kernel
theorem d_M_load_117 : decode c_M_load 117 = .ok (.ireturn, 1) := by decide +kernel
theorem d_M_load_118 : decode c_M_load 118 = .ok (.aload_n 0, 1) := by decide +kernel
theorem d_M_load_119 : decode c_M_load 119 = .ok (.getfield 65, 3) := by decide +kernel
theorem d_M_load_122 : decode c_M_load 122 = .ok (.iload_n 3, 1) := by decide +kernel
theorem d_M_load_123 : decode c_M_load 123 = .ok (.iaload, 1) := by decide +kernel
theorem d_M_load_124 : decode c_M_load 124 = .ok (.iload 6, 2) := by decide +kernel
theorem d_M_load_126 : decode c_M_load 126 = .ok (.if_icmp .lt 27, 3) := by decide +kernel
theorem d_M_load_129 : decode c_M_load 129 = .ok (.aload_n 0, 1) := by decide +kernel
theorem d_M_load_130 : decode c_M_load 130 = .ok (.getfield 65, 3) := by decide +kernel
theorem d_M_load_133 : decode c_M_load 133 = .ok (.iload 4, 2) := by decide +kernel
theorem d_M_load_135 : decode c_M_load 135 = .ok (.iaload, 1) := by decide +kernel
theorem d_M_load_136 : decode c_M_load 136 = .ok (.iload 6, 2) := by decide +kernel
theorem d_M_load_138 : decode c_M_load 138 = .ok (.if_icmp .lt 15, 3) := by decide +kernel
theorem d_M_load_141 : decode c_M_load 141 = .ok (.aload_n 0, 1) := by decide +kernel
theorem d_M_load_142 : decode c_M_load 142 = .ok (.getfield 65, 3) := by decide +kernel
theorem d_M_load_145 : decode c_M_load 145 = .ok (.iload 5, 2) := by decide +kernel
theorem d_M_load_147 : decode c_M_load 147 = .ok (.iaload, 1) := by decide +kernel
theorem d_M_load_148 : decode c_M_load 148 = .ok (.iload 6, 2) := by decide +kernel
theorem d_M_load_150 : decode c_M_load 150 = .ok (.if_icmp .ge 9, 3) := by decide +kernel
theorem d_M_load_153 : decode c_M_load 153 = .ok (.aload_n 0, 1) := by decide +kernel
theorem d_M_load_154 : decode c_M_load 154 = .ok (.iconst 2, 1) := by decide +kernel
theorem d_M_load_155 : decode c_M_load 155 = .ok (.invokevirtual 96, 3) := by decide +kernel
theorem d_M_load_158 : decode c_M_load 158 = .ok (.ireturn, 1) := by decide +kernel
theorem d_M_load_159 : decode c_M_load 159 = .ok (.iconst 0, 1) := by decide +kernel
theorem d_M_load_160 : decode c_M_load 160 = .ok (.istore 8, 2) := by decide +kernel
theorem d_M_load_162 : decode c_M_load 162 = .ok (.iload 8, 2) := by decide +kernel
theorem d_M_load_164 : decode c_M_load 164 = .ok (.iload 6, 2) := by decide +kernel
theorem d_M_load_166 : decode c_M_load 166 = .ok (.if_icmp .ge 56, 3) := by decide +kernel
theorem d_M_load_169 : decode c_M_load 169 = .ok (.aload_n 0, 1) := by decide +kernel
theorem d_M_load_170 : decode c_M_load 170 = .ok (.getfield 68, 3) := by decide +kernel
theorem d_M_load_173 : decode c_M_load 173 = .ok (.bipush 40, 2) := by decide +kernel
theorem d_M_load_175 : decode c_M_load 175 = .ok (.iload_n 3, 1) := by decide +kernel
theorem d_M_load_176 : decode c_M_load 176 = .ok (.imul, 1) := by decide +kernel
theorem d_M_load_177 : decode c_M_load 177 = .ok (.iload 8, 2) := by decide +kernel
theorem d_M_load_179 : decode c_M_load 179 = .ok (.iadd, 1) := by decide +kernel
theorem d_M_load_180 : decode c_M_load 180 = .ok (.iaload, 1) := by decide +kernel
theorem d_M_load_181 : decode c_M_load 181 = .ok (.aload_n 0, 1) := by decide +kernel
theorem d_M_load_182 : decode c_M_load 182 = .ok (.getfield 68, 3) := by decide +kernel
theorem d_M_load_185 : decode c_M_load 185 = .ok (.bipush 40, 2) := by decide +kernel
theorem d_M_load_187 : decode c_M_load 187 = .ok (.iload 4, 2) := by decide +kernel
theorem d_M_load_189 : decode c_M_load 189 = .ok (.imul, 1) := by decide +kernel
theorem d_M_load_190 : decode c_M_load 190 = .ok (.iload 8, 2) := by decide +kernel
theorem d_M_load_192 : decode c_M_load 192 = .ok (.iadd, 1) := by decide +kernel
theorem d_M_load_193 : decode c_M_load 193 = .ok (.iaload, 1) := by decide +kernel
theorem d_M_load_194 : decode c_M_load 194 = .ok (.aload_n 0, 1) := by decide +kernel
theorem d_M_load_195 : decode c_M_load 195 = .ok (.getfield 68, 3) := by decide +kernel
theorem d_M_load_198 : decode c_M_load 198 = .ok (.bipush 40, 2) := by decide +kernel
theorem d_M_load_200 : decode c_M_load 200 = .ok (.iload 5, 2) := by decide +kernel
theorem d_M_load_202 : decode c_M_load 202 = .ok (.imul, 1) := by decide +kernel
theorem d_M_load_203 : decode c_M_load 203 = .ok (.iload 8, 2) := by decide +kernel
theorem d_M_load_205 : decode c_M_load 205 = .ok (.iadd, 1) := by decide +kernel
theorem d_M_load_206 : decode c_M_load 206 = .ok (.iaload, 1) := by decide +kernel
theorem d_M_load_207 : decode c_M_load 207 = .ok (.invokestatic 86, 3) := by decide +kernel
theorem d_M_load_210 : decode c_M_load 210 = .ok (.ifCond .ne 6, 3) := by decide +kernel
theorem d_M_load_213 : decode c_M_load 213 = .ok (.bipush (-2), 2) := by decide +kernel
theorem d_M_load_215 : decode c_M_load 215 = .ok (.ireturn, 1) := by decide +kernel
theorem d_M_load_216 : decode c_M_load 216 = .ok (.iinc 8 1, 3) := by decide +kernel
theorem d_M_load_219 : decode c_M_load 219 = .ok (.goto (-57), 3) := by decide +kernel
theorem d_M_load_222 : decode c_M_load 222 = .ok (.iconst 0, 1) := by decide +kernel
theorem d_M_load_223 : decode c_M_load 223 = .ok (.istore 8, 2) := by decide +kernel
theorem d_M_load_225 : decode c_M_load 225 = .ok (.iload 8, 2) := by decide +kernel
theorem d_M_load_227 : decode c_M_load 227 = .ok (.iload 6, 2) := by decide +kernel
theorem d_M_load_229 : decode c_M_load 229 = .ok (.if_icmp .ge 53, 3) := by decide +kernel
theorem d_M_load_232 : decode c_M_load 232 = .ok (.aload_n 0, 1) := by decide +kernel
theorem d_M_load_233 : decode c_M_load 233 = .ok (.iload 7, 2) := by decide +kernel
theorem d_M_load_235 : decode c_M_load 235 = .ok (.aload_n 0, 1) := by decide +kernel
theorem d_M_load_236 : decode c_M_load 236 = .ok (.getfield 68, 3) := by decide +kernel
theorem d_M_load_239 : decode c_M_load 239 = .ok (.bipush 40, 2) := by decide +kernel
theorem d_M_load_241 : decode c_M_load 241 = .ok (.iload_n 3, 1) := by decide +kernel
theorem d_M_load_242 : decode c_M_load 242 = .ok (.imul, 1) := by decide +kernel
theorem d_M_load_243 : decode c_M_load 243 = .ok (.iload 8, 2) := by decide +kernel
theorem d_M_load_245 : decode c_M_load 245 = .ok (.iadd, 1) := by decide +kernel
theorem d_M_load_246 : decode c_M_load 246 = .ok (.iaload, 1) := by decide +kernel
theorem d_M_load_247 : decode c_M_load 247 = .ok (.aload_n 0, 1) := by decide +kernel
theorem d_M_load_248 : decode c_M_load 248 = .ok (.getfield 68, 3) := by decide +kernel
theorem d_M_load_251 : decode c_M_load 251 = .ok (.bipush 40, 2) := by decide +kernel
theorem d_M_load_253 : decode c_M_load 253 = .ok (.iload 4, 2) := by decide +kernel
theorem d_M_load_255 : decode c_M_load 255 = .ok (.imul, 1) := by decide +kernel
theorem d_M_load_256 : decode c_M_load 256 = .ok (.iload 8, 2) := by decide +kernel
theorem d_M_load_258 : decode c_M_load 258 = .ok (.iadd, 1) := by decide +kernel
theorem d_M_load_259 : decode c_M_load 259 = .ok (.iaload, 1) := by decide +kernel
theorem d_M_load_260 : decode c_M_load 260 = .ok (.aload_n 0, 1) := by decide +kernel
theorem d_M_load_261 : decode c_M_load 261 = .ok (.getfield 68, 3) := by decide +kernel
theorem d_M_load_264 : decode c_M_load 264 = .ok (.bipush 40, 2) := by decide +kernel
theorem d_M_load_266 : decode c_M_load 266 = .ok (.iload 5, 2) := by decide +kernel
theorem d_M_load_268 : decode c_M_load 268 = .ok (.imul, 1) := by decide +kernel
theorem d_M_load_269 : decode c_M_load 269 = .ok (.iload 8, 2) := by decide +kernel
theorem d_M_load_271 : decode c_M_load 271 = .ok (.iadd, 1) := by decide +kernel
theorem d_M_load_272 : decode c_M_load 272 = .ok (.iaload, 1) := by decide +kernel
theorem d_M_load_273 : decode c_M_load 273 = .ok (.invokevirtual 89, 3) := by decide +kernel
theorem d_M_load_276 : decode c_M_load 276 = .ok (.iinc 8 1, 3) := by decide +kernel
theorem d_M_load_279 : decode c_M_load 279 = .ok (.goto (-54), 3) := by decide +kernel
theorem d_M_load_282 : decode c_M_load 282 = .ok (.aload_n 0, 1) := by decide +kernel
theorem d_M_load_283 : decode c_M_load 283 = .ok (.getfield 7, 3) := by decide +kernel
theorem d_M_load_286 : decode c_M_load 286 = .ok (.iload 7, 2) := by decide +kernel
theorem d_M_load_288 : decode c_M_load 288 = .ok (.iaload, 1) := by decide +kernel
theorem d_M_load_289 : decode c_M_load 289 = .ok (.ireturn, 1) := by decide +kernel
theorem d_M_keeper_0 : decode c_M_keeper 0 = .ok (.iload_n 2, 1) := by decide +kernel
theorem d_M_keeper_1 : decode c_M_keeper 1 = .ok (.tableswitch 84 0 2 #[27, 27, 52], 27) := by decide +kernel
theorem d_M_keeper_28 : decode c_M_keeper 28 = .ok (.iload_n 3, 1) := by decide +kernel
theorem d_M_keeper_29 : decode c_M_keeper 29 = .ok (.iconst 1, 1) := by decide +kernel
theorem d_M_keeper_30 : decode c_M_keeper 30 = .ok (.bipush 12, 2) := by decide +kernel
theorem d_M_keeper_32 : decode c_M_keeper 32 = .ok (.invokestatic 74, 3) := by decide +kernel
theorem d_M_keeper_35 : decode c_M_keeper 35 = .ok (.ifCond .eq 12, 3) := by decide +kernel
theorem d_M_keeper_38 : decode c_M_keeper 38 = .ok (.iload 4, 2) := by decide +kernel
theorem d_M_keeper_40 : decode c_M_keeper 40 = .ok (.ifCond .ne 7, 3) := by decide +kernel
theorem d_M_keeper_43 : decode c_M_keeper 43 = .ok (.iconst 1, 1) := by decide +kernel
theorem d_M_keeper_44 : decode c_M_keeper 44 = .ok (.goto 4, 3) := by decide +kernel
theorem d_M_keeper_47 : decode c_M_keeper 47 = .ok (.iconst 0, 1) := by decide +kernel
theorem d_M_keeper_48 : decode c_M_keeper 48 = .ok (.istore 5, 2) := by decide +kernel
theorem d_M_keeper_50 : decode c_M_keeper 50 = .ok (.goto 63, 3) := by decide +kernel
theorem d_M_keeper_53 : decode c_M_keeper 53 = .ok (.iload_n 3, 1) := by decide +kernel
theorem d_M_keeper_54 : decode c_M_keeper 54 = .ok (.iconst 1, 1) := by decide +kernel
theorem d_M_keeper_55 : decode c_M_keeper 55 = .ok (.bipush 100, 2) := by decide +kernel
theorem d_M_keeper_57 : decode c_M_keeper 57 = .ok (.invokestatic 74, 3) := by decide +kernel
theorem d_M_keeper_60 : decode c_M_keeper 60 = .ok (.ifCond .eq 19, 3) := by decide +kernel
theorem d_M_keeper_63 : decode c_M_keeper 63 = .ok (.iload 4, 2) := by decide +kernel
theorem d_M_keeper_65 : decode c_M_keeper 65 = .ok (.iconst 0, 1) := by decide +kernel
theorem d_M_keeper_66 : decode c_M_keeper 66 = .ok (.iload_n 3, 1) := by decide +kernel
theorem d_M_keeper_67 : decode c_M_keeper 67 = .ok (.iconst 1, 1) := by decide +kernel
theorem d_M_keeper_68 : decode c_M_keeper 68 = .ok (.isub, 1) := by decide +kernel
theorem d_M_keeper_69 : decode c_M_keeper 69 = .ok (.invokestatic 74, 3) := by decide +kernel
theorem d_M_keeper_72 : decode c_M_keeper 72 = .ok (.ifCond .eq 7, 3) := by decide +kernel
theorem d_M_keeper_75 : decode c_M_keeper 75 = .ok (.iconst 1, 1) := by decide +kernel
theorem d_M_keeper_76 : decode c_M_keeper 76 = .ok (.goto 4, 3) := by decide +kernel
theorem d_M_keeper_79 : decode c_M_keeper 79 = .ok (.iconst 0, 1) := by decide +kernel
theorem d_M_keeper_80 : decode c_M_keeper 80 = .ok (.istore 5, 2) := by decide +kernel
theorem d_M_keeper_82 : decode c_M_keeper 82 = .ok (.goto 31, 3) := by decide +kernel
theorem d_M_keeper_85 : decode c_M_keeper 85 = .ok (.iload_n 2, 1) := by decide +kernel
theorem d_M_keeper_86 : decode c_M_keeper 86 = .ok (.iconst 3, 1) := by decide +kernel
theorem d_M_keeper_87 : decode c_M_keeper 87 = .ok (.if_icmp .ne 23, 3) := by decide +kernel
theorem d_M_keeper_90 : decode c_M_keeper 90 = .ok (.iload_n 3, 1) := by decide +kernel
theorem d_M_keeper_91 : decode c_M_keeper 91 = .ok (.iconst 1, 1) := by decide +kernel
theorem d_M_keeper_92 : decode c_M_keeper 92 = .ok (.sipush 1000, 3) := by decide +kernel
theorem d_M_keeper_95 : decode c_M_keeper 95 = .ok (.invokestatic 74, 3) := by decide +kernel
theorem d_M_keeper_98 : decode c_M_keeper 98 = .ok (.ifCond .eq 12, 3) := by decide +kernel
theorem d_M_keeper_101 : decode c_M_keeper 101 = .ok (.iload 4, 2) := by decide +kernel
theorem d_M_keeper_103 : decode c_M_keeper 103 = .ok (.ifCond .ne 7, 3) := by decide +kernel
theorem d_M_keeper_106 : decode c_M_keeper 106 = .ok (.iconst 1, 1) := by decide +kernel
theorem d_M_keeper_107 : decode c_M_keeper 107 = .ok (.goto 4, 3) := by decide +kernel
theorem d_M_keeper_110 : decode c_M_keeper 110 = .ok (.iconst 0, 1) := by decide +kernel
theorem d_M_keeper_111 : decode c_M_keeper 111 = .ok (.istore 5, 2) := by decide +kernel
theorem d_M_keeper_113 : decode c_M_keeper 113 = .ok (.iload_n 1, 1) := by decide +kernel
theorem d_M_keeper_114 : decode c_M_keeper 114 = .ok (.invokestatic 78, 3) := by decide +kernel
theorem d_M_keeper_117 : decode c_M_keeper 117 = .ok (.ifCond .eq 8, 3) := by decide +kernel
theorem d_M_keeper_120 : decode c_M_keeper 120 = .ok (.iload 5, 2) := by decide +kernel
theorem d_M_keeper_122 : decode c_M_keeper 122 = .ok (.ifCond .ne 6, 3) := by decide +kernel
theorem d_M_keeper_125 : decode c_M_keeper 125 = .ok (.bipush (-2), 2) := by decide +kernel
theorem d_M_keeper_127 : decode c_M_keeper 127 = .ok (.ireturn, 1) := by decide +kernel
theorem d_M_keeper_128 : decode c_M_keeper 128 = .ok (.aload_n 0, 1) := by decide +kernel
theorem d_M_keeper_129 : decode c_M_keeper 129 = .ok (.getfield 44, 3) := by decide +kernel
theorem d_M_keeper_132 : decode c_M_keeper 132 = .ok (.iload_n 1, 1) := by decide +kernel
theorem d_M_keeper_133 : decode c_M_keeper 133 = .ok (.baload, 1) := by decide +kernel
theorem d_M_keeper_134 : decode c_M_keeper 134 = .ok (.ifCond .eq 6, 3) := by decide +kernel
theorem d_M_keeper_137 : decode c_M_keeper 137 = .ok (.bipush (-3), 2) := by decide +kernel
theorem d_M_keeper_139 : decode c_M_keeper 139 = .ok (.ireturn, 1) := by decide +kernel
theorem d_M_keeper_140 : decode c_M_keeper 140 = .ok (.aload_n 0, 1) := by decide +kernel
theorem d_M_keeper_141 : decode c_M_keeper 141 = .ok (.getfield 47, 3) := by decide +kernel
theorem d_M_keeper_144 : decode c_M_keeper 144 = .ok (.iload_n 1, 1) := by decide +kernel
theorem d_M_keeper_145 : decode c_M_keeper 145 = .ok (.iaload, 1) := by decide +kernel
theorem d_M_keeper_146 : decode c_M_keeper 146 = .ok (.iconst 4, 1) := by decide +kernel
theorem d_M_keeper_147 : decode c_M_keeper 147 = .ok (.if_icmp .ne 6, 3) := by decide +kernel
theorem d_M_keeper_150 : decode c_M_keeper 150 = .ok (.bipush (-4), 2) := by decide +kernel
theorem d_M_keeper_152 : decode c_M_keeper 152 = .ok (.ireturn, 1) := by decide +kernel
theorem d_M_keeper_153 : decode c_M_keeper 153 = .ok (.iconst 4, 1) := by decide +kernel
theorem d_M_keeper_154 : decode c_M_keeper 154 = .ok (.iload_n 1, 1) := by decide +kernel
theorem d_M_keeper_155 : decode c_M_keeper 155 = .ok (.imul, 1) := by decide +kernel
theorem d_M_keeper_156 : decode c_M_keeper 156 = .ok (.aload_n 0, 1) := by decide +kernel
theorem d_M_keeper_157 : decode c_M_keeper 157 = .ok (.getfield 47, 3) := by decide +kernel
theorem d_M_keeper_160 : decode c_M_keeper 160 = .ok (.iload_n 1, 1) := by decide +kernel
theorem d_M_keeper_161 : decode c_M_keeper 161 = .ok (.iaload, 1) := by decide +kernel
theorem d_M_keeper_162 : decode c_M_keeper 162 = .ok (.iadd, 1) := by decide +kernel
theorem d_M_keeper_163 : decode c_M_keeper 163 = .ok (.istore 6, 2) := by decide +kernel
theorem d_M_keeper_165 : decode c_M_keeper 165 = .ok (.aload_n 0, 1) := by decide +kernel
theorem d_M_keeper_166 : decode c_M_keeper 166 = .ok (.getfield 50, 3) := by decide +kernel
theorem d_M_keeper_169 : decode c_M_keeper 169 = .ok (.iload 6, 2) := by decide +kernel
theorem d_M_keeper_171 : decode c_M_keeper 171 = .ok (.iload_n 2, 1) := by decide +kernel
theorem d_M_keeper_172 : decode c_M_keeper 172 = .ok (.iastore, 1) := by decide +kernel
theorem d_M_keeper_173 : decode c_M_keeper 173 = .ok (.aload_n 0, 1) := by decide +kernel
theorem d_M_keeper_174 : decode c_M_keeper 174 = .ok (.getfield 53, 3) := by decide +kernel
theorem d_M_keeper_177 : decode c_M_keeper 177 = .ok (.iload 6, 2) := by decide +kernel
theorem d_M_keeper_179 : decode c_M_keeper 179 = .ok (.iload_n 3, 1) := by decide +kernel
theorem d_M_keeper_180 : decode c_M_keeper 180 = .ok (.iastore, 1) := by decide +kernel
theorem d_M_keeper_181 : decode c_M_keeper 181 = .ok (.aload_n 0, 1) := by decide +kernel
theorem d_M_keeper_182 : decode c_M_keeper 182 = .ok (.getfield 56, 3) := by decide +kernel
theorem d_M_keeper_185 : decode c_M_keeper 185 = .ok (.iload 6, 2) := by decide +kernel
theorem d_M_keeper_187 : decode c_M_keeper 187 = .ok (.iload 4, 2) := by decide +kernel
theorem d_M_keeper_189 : decode c_M_keeper 189 = .ok (.iastore, 1) := by decide +kernel
theorem d_M_keeper_190 : decode c_M_keeper 190 = .ok (.aload_n 0, 1) := by decide +kernel
theorem d_M_keeper_191 : decode c_M_keeper 191 = .ok (.getfield 47, 3) := by decide +kernel
theorem d_M_keeper_194 : decode c_M_keeper 194 = .ok (.iload_n 1, 1) := by decide +kernel
theorem d_M_keeper_195 : decode c_M_keeper 195 = .ok (.dup2, 1) := by decide +kernel
theorem d_M_keeper_196 : decode c_M_keeper 196 = .ok (.iaload, 1) := by decide +kernel
theorem d_M_keeper_197 : decode c_M_keeper 197 = .ok (.iconst 1, 1) := by decide +kernel
theorem d_M_keeper_198 : decode c_M_keeper 198 = .ok (.iadd, 1) := by decide +kernel
theorem d_M_keeper_199 : decode c_M_keeper 199 = .ok (.iastore, 1) := by decide +kernel
theorem d_M_keeper_200 : decode c_M_keeper 200 = .ok (.aload_n 0, 1) := by decide +kernel
theorem d_M_keeper_201 : decode c_M_keeper 201 = .ok (.getfield 47, 3) := by decide +kernel
theorem d_M_keeper_204 : decode c_M_keeper 204 = .ok (.iload_n 1, 1) := by decide +kernel
theorem d_M_keeper_205 : decode c_M_keeper 205 = .ok (.iaload, 1) := by decide +kernel
theorem d_M_keeper_206 : decode c_M_keeper 206 = .ok (.ireturn, 1) := by decide +kernel
theorem d_M_amount_0 : decode c_M_amount 0 = .ok (.iload_n 0, 1) := by decide +kernel
theorem d_M_amount_1 : decode c_M_amount 1 = .ok (.ifCond .ge 8, 3) := by decide +kernel
theorem d_M_amount_4 : decode c_M_amount 4 = .ok (.iload_n 0, 1) := by decide +kernel
theorem d_M_amount_5 : decode c_M_amount 5 = .ok (.ineg, 1) := by decide +kernel
theorem d_M_amount_6 : decode c_M_amount 6 = .ok (.goto 4, 3) := by decide +kernel
theorem d_M_amount_9 : decode c_M_amount 9 = .ok (.iload_n 0, 1) := by decide +kernel
theorem d_M_amount_10 : decode c_M_amount 10 = .ok (.ireturn, 1) := by decide +kernel
theorem d_M_keeps_0 : decode c_M_keeps 0 = .ok (.bipush 12, 2) := by decide +kernel
theorem d_M_keeps_2 : decode c_M_keeps 2 = .ok (.iload_n 2, 1) := by decide +kernel
theorem d_M_keeps_3 : decode c_M_keeps 3 = .ok (.imul, 1) := by decide +kernel
theorem d_M_keeps_4 : decode c_M_keeps 4 = .ok (.iload_n 3, 1) := by decide +kernel
theorem d_M_keeps_5 : decode c_M_keeps 5 = .ok (.iadd, 1) := by decide +kernel
theorem d_M_keeps_6 : decode c_M_keeps 6 = .ok (.istore 4, 2) := by decide +kernel
theorem d_M_keeps_8 : decode c_M_keeps 8 = .ok (.aload_n 0, 1) := by decide +kernel
theorem d_M_keeps_9 : decode c_M_keeps 9 = .ok (.getfield 53, 3) := by decide +kernel
theorem d_M_keeps_12 : decode c_M_keeps 12 = .ok (.iload_n 1, 1) := by decide +kernel
theorem d_M_keeps_13 : decode c_M_keeps 13 = .ok (.iaload, 1) := by decide +kernel
theorem d_M_keeps_14 : decode c_M_keeps 14 = .ok (.istore 5, 2) := by decide +kernel
theorem d_M_keeps_16 : decode c_M_keeps 16 = .ok (.aload_n 0, 1) := by decide +kernel
theorem d_M_keeps_17 : decode c_M_keeps 17 = .ok (.getfield 50, 3) := by decide +kernel
theorem d_M_keeps_20 : decode c_M_keeps 20 = .ok (.iload_n 1, 1) := by decide +kernel
theorem d_M_keeps_21 : decode c_M_keeps 21 = .ok (.iaload, 1) := by decide +kernel
theorem d_M_keeps_22 : decode c_M_keeps 22 = .ok (.tableswitch 127 0 2 #[26, 39, 102], 26) := by decide +kernel
theorem d_M_keeps_48 : decode c_M_keeps 48 = .ok (.iload_n 3, 1) := by decide +kernel
theorem d_M_keeps_49 : decode c_M_keeps 49 = .ok (.iload 5, 2) := by decide +kernel
theorem d_M_keeps_51 : decode c_M_keeps 51 = .ok (.irem, 1) := by decide +kernel
theorem d_M_keeps_52 : decode c_M_keeps 52 = .ok (.ifCond .ne 7, 3) := by decide +kernel
theorem d_M_keeps_55 : decode c_M_keeps 55 = .ok (.iconst 1, 1) := by decide +kernel
theorem d_M_keeps_56 : decode c_M_keeps 56 = .ok (.goto 4, 3) := by decide +kernel
theorem d_M_keeps_59 : decode c_M_keeps 59 = .ok (.iconst 0, 1) := by decide +kernel
theorem d_M_keeps_60 : decode c_M_keeps 60 = .ok (.ireturn, 1) := by decide +kernel
theorem d_M_keeps_61 : decode c_M_keeps 61 = .ok (.iconst 0, 1) := by decide +kernel
theorem d_M_keeps_62 : decode c_M_keeps 62 = .ok (.istore 6, 2) := by decide +kernel
theorem d_M_keeps_64 : decode c_M_keeps 64 = .ok (.iconst 0, 1) := by decide +kernel
theorem d_M_keeps_65 : decode c_M_keeps 65 = .ok (.istore 7, 2) := by decide +kernel
theorem d_M_keeps_67 : decode c_M_keeps 67 = .ok (.iload 7, 2) := by decide +kernel
theorem d_M_keeps_69 : decode c_M_keeps 69 = .ok (.iload_n 3, 1) := by decide +kernel
theorem d_M_keeps_70 : decode c_M_keeps 70 = .ok (.if_icmp .ge 41, 3) := by decide +kernel
theorem d_M_keeps_73 : decode c_M_keeps 73 = .ok (.iload 6, 2) := by decide +kernel
theorem d_M_keeps_75 : decode c_M_keeps 75 = .ok (.aload_n 0, 1) := by decide +kernel
theorem d_M_keeps_76 : decode c_M_keeps 76 = .ok (.getfield 16, 3) := by decide +kernel
theorem d_M_keeps_79 : decode c_M_keeps 79 = .ok (.bipush 12, 2) := by decide +kernel
theorem d_M_keeps_81 : decode c_M_keeps 81 = .ok (.iload_n 2, 1) := by decide +kernel
theorem d_M_keeps_82 : decode c_M_keeps 82 = .ok (.imul, 1) := by decide +kernel
theorem d_M_keeps_83 : decode c_M_keeps 83 = .ok (.iload 7, 2) := by decide +kernel
theorem d_M_keeps_85 : decode c_M_keeps 85 = .ok (.iadd, 1) := by decide +kernel
theorem d_M_keeps_86 : decode c_M_keeps 86 = .ok (.iaload, 1) := by decide +kernel
theorem d_M_keeps_87 : decode c_M_keeps 87 = .ok (.aload_n 0, 1) := by decide +kernel
theorem d_M_keeps_88 : decode c_M_keeps 88 = .ok (.getfield 16, 3) := by decide +kernel
theorem d_M_keeps_91 : decode c_M_keeps 91 = .ok (.iload 4, 2) := by decide +kernel
theorem d_M_keeps_93 : decode c_M_keeps 93 = .ok (.iaload, 1) := by decide +kernel
theorem d_M_keeps_94 : decode c_M_keeps 94 = .ok (.if_icmp .ne 7, 3) := by decide +kernel
theorem d_M_keeps_97 : decode c_M_keeps 97 = .ok (.iconst 1, 1) := by decide +kernel
theorem d_M_keeps_98 : decode c_M_keeps 98 = .ok (.goto 4, 3) := by decide +kernel
theorem d_M_keeps_101 : decode c_M_keeps 101 = .ok (.iconst 0, 1) := by decide +kernel
theorem d_M_keeps_102 : decode c_M_keeps 102 = .ok (.iadd, 1) := by decide +kernel
theorem d_M_keeps_103 : decode c_M_keeps 103 = .ok (.istore 6, 2) := by decide +kernel
theorem d_M_keeps_105 : decode c_M_keeps 105 = .ok (.iinc 7 1, 3) := by decide +kernel
theorem d_M_keeps_108 : decode c_M_keeps 108 = .ok (.goto (-41), 3) := by decide +kernel
theorem d_M_keeps_111 : decode c_M_keeps 111 = .ok (.iload 6, 2) := by decide +kernel
theorem d_M_keeps_113 : decode c_M_keeps 113 = .ok (.iload 5, 2) := by decide +kernel
theorem d_M_keeps_115 : decode c_M_keeps 115 = .ok (.if_icmp .ge 7, 3) := by decide +kernel
theorem d_M_keeps_118 : decode c_M_keeps 118 = .ok (.iconst 1, 1) := by decide +kernel
theorem d_M_keeps_119 : decode c_M_keeps 119 = .ok (.goto 4, 3) := by decide +kernel
theorem d_M_keeps_122 : decode c_M_keeps 122 = .ok (.iconst 0, 1) := by decide +kernel
theorem d_M_keeps_123 : decode c_M_keeps 123 = .ok (.ireturn, 1) := by decide +kernel
theorem d_M_keeps_124 : decode c_M_keeps 124 = .ok (.aload_n 0, 1) := by decide +kernel
theorem d_M_keeps_125 : decode c_M_keeps 125 = .ok (.getfield 13, 3) := by decide +kernel
theorem d_M_keeps_128 : decode c_M_keeps 128 = .ok (.iload 4, 2) := by decide +kernel
theorem d_M_keeps_130 : decode c_M_keeps 130 = .ok (.iaload, 1) := by decide +kernel
theorem d_M_keeps_131 : decode c_M_keeps 131 = .ok (.iload 5, 2) := by decide +kernel
theorem d_M_keeps_133 : decode c_M_keeps 133 = .ok (.irem, 1) := by decide +kernel
theorem d_M_keeps_134 : decode c_M_keeps 134 = .ok (.aload_n 0, 1) := by decide +kernel
theorem d_M_keeps_135 : decode c_M_keeps 135 = .ok (.getfield 56, 3) := by decide +kernel
theorem d_M_keeps_138 : decode c_M_keeps 138 = .ok (.iload_n 1, 1) := by decide +kernel
theorem d_M_keeps_139 : decode c_M_keeps 139 = .ok (.iaload, 1) := by decide +kernel
theorem d_M_keeps_140 : decode c_M_keeps 140 = .ok (.if_icmp .ne 7, 3) := by decide +kernel
theorem d_M_keeps_143 : decode c_M_keeps 143 = .ok (.iconst 1, 1) := by decide +kernel
theorem d_M_keeps_144 : decode c_M_keeps 144 = .ok (.goto 4, 3) := by decide +kernel
theorem d_M_keeps_147 : decode c_M_keeps 147 = .ok (.iconst 0, 1) := by decide +kernel
theorem d_M_keeps_148 : decode c_M_keeps 148 = .ok (.ireturn, 1) := by decide +kernel
theorem d_M_keeps_149 : decode c_M_keeps 149 = .ok (.aload_n 0, 1) := by decide +kernel
theorem d_M_keeps_150 : decode c_M_keeps 150 = .ok (.getfield 19, 3) := by decide +kernel
theorem d_M_keeps_153 : decode c_M_keeps 153 = .ok (.iload 4, 2) := by decide +kernel
theorem d_M_keeps_155 : decode c_M_keeps 155 = .ok (.iaload, 1) := by decide +kernel
theorem d_M_keeps_156 : decode c_M_keeps 156 = .ok (.invokestatic 100, 3) := by decide +kernel
theorem d_M_keeps_159 : decode c_M_keeps 159 = .ok (.iload 5, 2) := by decide +kernel
theorem d_M_keeps_161 : decode c_M_keeps 161 = .ok (.if_icmp .lt 7, 3) := by decide +kernel
theorem d_M_keeps_164 : decode c_M_keeps 164 = .ok (.iconst 1, 1) := by decide +kernel
theorem d_M_keeps_165 : decode c_M_keeps 165 = .ok (.goto 4, 3) := by decide +kernel
theorem d_M_keeps_168 : decode c_M_keeps 168 = .ok (.iconst 0, 1) := by decide +kernel
theorem d_M_keeps_169 : decode c_M_keeps 169 = .ok (.ireturn, 1) := by decide +kernel
theorem d_M_seals_0 : decode c_M_seals 0 = .ok (.bipush 8, 2) := by decide +kernel
theorem d_M_seals_2 : decode c_M_seals 2 = .ok (.iload_n 1, 1) := by decide +kernel
theorem d_M_seals_3 : decode c_M_seals 3 = .ok (.imul, 1) := by decide +kernel
theorem d_M_seals_4 : decode c_M_seals 4 = .ok (.iload_n 2, 1) := by decide +kernel
theorem d_M_seals_5 : decode c_M_seals 5 = .ok (.iadd, 1) := by decide +kernel
theorem d_M_seals_6 : decode c_M_seals 6 = .ok (.istore_n 3, 1) := by decide +kernel
theorem d_M_seals_7 : decode c_M_seals 7 = .ok (.aload_n 0, 1) := by decide +kernel
theorem d_M_seals_8 : decode c_M_seals 8 = .ok (.getfield 41, 3) := by decide +kernel
theorem d_M_seals_11 : decode c_M_seals 11 = .ok (.iload_n 3, 1) := by decide +kernel
theorem d_M_seals_12 : decode c_M_seals 12 = .ok (.iconst 0, 1) := by decide +kernel
theorem d_M_seals_13 : decode c_M_seals 13 = .ok (.bastore, 1) := by decide +kernel
theorem d_M_seals_14 : decode c_M_seals 14 = .ok (.aload_n 0, 1) := by decide +kernel
theorem d_M_seals_15 : decode c_M_seals 15 = .ok (.getfield 32, 3) := by decide +kernel
theorem d_M_seals_18 : decode c_M_seals 18 = .ok (.iload_n 3, 1) := by decide +kernel
theorem d_M_seals_19 : decode c_M_seals 19 = .ok (.iconst 0, 1) := by decide +kernel
theorem d_M_seals_20 : decode c_M_seals 20 = .ok (.iastore, 1) := by decide +kernel
theorem d_M_seals_21 : decode c_M_seals 21 = .ok (.aload_n 0, 1) := by decide +kernel
theorem d_M_seals_22 : decode c_M_seals 22 = .ok (.getfield 35, 3) := by decide +kernel
theorem d_M_seals_25 : decode c_M_seals 25 = .ok (.iload_n 3, 1) := by decide +kernel
theorem d_M_seals_26 : decode c_M_seals 26 = .ok (.iconst 0, 1) := by decide +kernel
theorem d_M_seals_27 : decode c_M_seals 27 = .ok (.iastore, 1) := by decide +kernel
theorem d_M_seals_28 : decode c_M_seals 28 = .ok (.iconst 0, 1) := by decide +kernel
theorem d_M_seals_29 : decode c_M_seals 29 = .ok (.istore 4, 2) := by decide +kernel
theorem d_M_seals_31 : decode c_M_seals 31 = .ok (.iload 4, 2) := by decide +kernel
theorem d_M_seals_33 : decode c_M_seals 33 = .ok (.iconst 4, 1) := by decide +kernel
theorem d_M_seals_34 : decode c_M_seals 34 = .ok (.if_icmp .ge 21, 3) := by decide +kernel
theorem d_M_seals_37 : decode c_M_seals 37 = .ok (.aload_n 0, 1) := by decide +kernel
theorem d_M_seals_38 : decode c_M_seals 38 = .ok (.getfield 38, 3) := by decide +kernel
theorem d_M_seals_41 : decode c_M_seals 41 = .ok (.iconst 4, 1) := by decide +kernel
theorem d_M_seals_42 : decode c_M_seals 42 = .ok (.iload_n 3, 1) := by decide +kernel
theorem d_M_seals_43 : decode c_M_seals 43 = .ok (.imul, 1) := by decide +kernel
theorem d_M_seals_44 : decode c_M_seals 44 = .ok (.iload 4, 2) := by decide +kernel
theorem d_M_seals_46 : decode c_M_seals 46 = .ok (.iadd, 1) := by decide +kernel
theorem d_M_seals_47 : decode c_M_seals 47 = .ok (.iconst 0, 1) := by decide +kernel
theorem d_M_seals_48 : decode c_M_seals 48 = .ok (.iastore, 1) := by decide +kernel
theorem d_M_seals_49 : decode c_M_seals 49 = .ok (.iinc 4 1, 3) := by decide +kernel
theorem d_M_seals_52 : decode c_M_seals 52 = .ok (.goto (-21), 3) := by decide +kernel
theorem d_M_seals_55 : decode c_M_seals 55 = .ok (.iconst 0, 1) := by decide +kernel
theorem d_M_seals_56 : decode c_M_seals 56 = .ok (.istore 4, 2) := by decide +kernel
theorem d_M_seals_58 : decode c_M_seals 58 = .ok (.iload 4, 2) := by decide +kernel
theorem d_M_seals_60 : decode c_M_seals 60 = .ok (.aload_n 0, 1) := by decide +kernel
theorem d_M_seals_61 : decode c_M_seals 61 = .ok (.getfield 7, 3) := by decide +kernel
