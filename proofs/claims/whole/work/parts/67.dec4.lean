theorem dL_load_0 : decode cL_load 0 = .ok (.aload_n 2, 1) := by decide +kernel
theorem dL_load_1 : decode cL_load 1 = .ok (.iconst 0, 1) := by decide +kernel
theorem dL_load_2 : decode cL_load 2 = .ok (.aload_n 0, 1) := by decide +kernel
theorem dL_load_3 : decode cL_load 3 = .ok (.iload_n 1, 1) := by decide +kernel
theorem dL_load_4 : decode cL_load 4 = .ok (.invokevirtual 7, 3) := by decide +kernel
theorem dL_load_7 : decode cL_load 7 = .ok (.i2l, 1) := by decide +kernel
theorem dL_load_8 : decode cL_load 8 = .ok (.lastore, 1) := by decide +kernel
theorem dL_load_9 : decode cL_load 9 = .ok (.goto 9, 3) := by decide +kernel
theorem dL_load_12 : decode cL_load 12 = .ok (.astore_n 3, 1) := by decide +kernel
theorem dL_load_13 : decode cL_load 13 = .ok (.iconst 1, 1) := by decide +kernel
theorem dL_load_14 : decode cL_load 14 = .ok (.ireturn, 1) := by decide +kernel
theorem dL_load_15 : decode cL_load 15 = .ok (.astore_n 3, 1) := by decide +kernel
theorem dL_load_16 : decode cL_load 16 = .ok (.iconst 2, 1) := by decide +kernel
theorem dL_load_17 : decode cL_load 17 = .ok (.ireturn, 1) := by decide +kernel
theorem dL_load_18 : decode cL_load 18 = .ok (.iconst 0, 1) := by decide +kernel
theorem dL_load_19 : decode cL_load 19 = .ok (.ireturn, 1) := by decide +kernel
theorem dL_count_0 : decode cL_count 0 = .ok (.aload_n 2, 1) := by decide +kernel
theorem dL_count_1 : decode cL_count 1 = .ok (.iconst 0, 1) := by decide +kernel
theorem dL_count_2 : decode cL_count 2 = .ok (.aload_n 0, 1) := by decide +kernel
theorem dL_count_3 : decode cL_count 3 = .ok (.iload_n 1, 1) := by decide +kernel
theorem dL_count_4 : decode cL_count 4 = .ok (.invokevirtual 17, 3) := by decide +kernel
theorem dL_count_7 : decode cL_count 7 = .ok (.i2l, 1) := by decide +kernel
theorem dL_count_8 : decode cL_count 8 = .ok (.lastore, 1) := by decide +kernel
theorem dL_count_9 : decode cL_count 9 = .ok (.goto 9, 3) := by decide +kernel
theorem dL_count_12 : decode cL_count 12 = .ok (.astore_n 3, 1) := by decide +kernel
theorem dL_count_13 : decode cL_count 13 = .ok (.iconst 1, 1) := by decide +kernel
theorem dL_count_14 : decode cL_count 14 = .ok (.ireturn, 1) := by decide +kernel
theorem dL_count_15 : decode cL_count 15 = .ok (.astore_n 3, 1) := by decide +kernel
theorem dL_count_16 : decode cL_count 16 = .ok (.iconst 2, 1) := by decide +kernel
theorem dL_count_17 : decode cL_count 17 = .ok (.ireturn, 1) := by decide +kernel
theorem dL_count_18 : decode cL_count 18 = .ok (.iconst 0, 1) := by decide +kernel
theorem dL_count_19 : decode cL_count 19 = .ok (.ireturn, 1) := by decide +kernel
theorem dL_letter_0 : decode cL_letter 0 = .ok (.aload 4, 2) := by decide +kernel
theorem dL_letter_2 : decode cL_letter 2 = .ok (.iconst 0, 1) := by decide +kernel
theorem dL_letter_3 : decode cL_letter 3 = .ok (.aload_n 0, 1) := by decide +kernel
theorem dL_letter_4 : decode cL_letter 4 = .ok (.iload_n 1, 1) := by decide +kernel
theorem dL_letter_5 : decode cL_letter 5 = .ok (.iload_n 2, 1) := by decide +kernel
theorem dL_letter_6 : decode cL_letter 6 = .ok (.iload_n 3, 1) := by decide +kernel
theorem dL_letter_7 : decode cL_letter 7 = .ok (.invokevirtual 22, 3) := by decide +kernel
theorem dL_letter_10 : decode cL_letter 10 = .ok (.i2l, 1) := by decide +kernel
theorem dL_letter_11 : decode cL_letter 11 = .ok (.lastore, 1) := by decide +kernel
theorem dL_letter_12 : decode cL_letter 12 = .ok (.goto 15, 3) := by decide +kernel
theorem dL_letter_15 : decode cL_letter 15 = .ok (.astore 5, 2) := by decide +kernel
theorem dL_letter_17 : decode cL_letter 17 = .ok (.iconst 1, 1) := by decide +kernel
theorem dL_letter_18 : decode cL_letter 18 = .ok (.ireturn, 1) := by decide +kernel
theorem dL_letter_19 : decode cL_letter 19 = .ok (.astore 5, 2) := by decide +kernel
theorem dL_letter_21 : decode cL_letter 21 = .ok (.iconst 2, 1) := by decide +kernel
theorem dL_letter_22 : decode cL_letter 22 = .ok (.ireturn, 1) := by decide +kernel
theorem dL_letter_23 : decode cL_letter 23 = .ok (.astore 5, 2) := by decide +kernel
theorem dL_letter_25 : decode cL_letter 25 = .ok (.iconst 3, 1) := by decide +kernel
theorem dL_letter_26 : decode cL_letter 26 = .ok (.ireturn, 1) := by decide +kernel
theorem dL_letter_27 : decode cL_letter 27 = .ok (.iconst 0, 1) := by decide +kernel
theorem dL_letter_28 : decode cL_letter 28 = .ok (.ireturn, 1) := by decide +kernel
theorem dL_size_0 : decode cL_size 0 = .ok (.aload_n 2, 1) := by decide +kernel
theorem dL_size_1 : decode cL_size 1 = .ok (.iconst 0, 1) := by decide +kernel
theorem dL_size_2 : decode cL_size 2 = .ok (.aload_n 0, 1) := by decide +kernel
theorem dL_size_3 : decode cL_size 3 = .ok (.iload_n 1, 1) := by decide +kernel
theorem dL_size_4 : decode cL_size 4 = .ok (.invokevirtual 26, 3) := by decide +kernel
theorem dL_size_7 : decode cL_size 7 = .ok (.i2l, 1) := by decide +kernel
theorem dL_size_8 : decode cL_size 8 = .ok (.lastore, 1) := by decide +kernel
theorem dL_size_9 : decode cL_size 9 = .ok (.goto 9, 3) := by decide +kernel
theorem dL_size_12 : decode cL_size 12 = .ok (.astore_n 3, 1) := by decide +kernel
theorem dL_size_13 : decode cL_size 13 = .ok (.iconst 1, 1) := by decide +kernel
theorem dL_size_14 : decode cL_size 14 = .ok (.ireturn, 1) := by decide +kernel
theorem dL_size_15 : decode cL_size 15 = .ok (.astore_n 3, 1) := by decide +kernel
theorem dL_size_16 : decode cL_size 16 = .ok (.iconst 2, 1) := by decide +kernel
theorem dL_size_17 : decode cL_size 17 = .ok (.ireturn, 1) := by decide +kernel
theorem dL_size_18 : decode cL_size 18 = .ok (.iconst 0, 1) := by decide +kernel
theorem dL_size_19 : decode cL_size 19 = .ok (.ireturn, 1) := by decide +kernel
theorem dL_times_0 : decode cL_times 0 = .ok (.aload 4, 2) := by decide +kernel
theorem dL_times_2 : decode cL_times 2 = .ok (.iconst 0, 1) := by decide +kernel
theorem dL_times_3 : decode cL_times 3 = .ok (.aload_n 0, 1) := by decide +kernel
theorem dL_times_4 : decode cL_times 4 = .ok (.iload_n 1, 1) := by decide +kernel
theorem dL_times_5 : decode cL_times 5 = .ok (.iload_n 2, 1) := by decide +kernel
theorem dL_times_6 : decode cL_times 6 = .ok (.iload_n 3, 1) := by decide +kernel
theorem dL_times_7 : decode cL_times 7 = .ok (.invokevirtual 29, 3) := by decide +kernel
theorem dL_times_10 : decode cL_times 10 = .ok (.i2l, 1) := by decide +kernel
theorem dL_times_11 : decode cL_times 11 = .ok (.lastore, 1) := by decide +kernel
theorem dL_times_12 : decode cL_times 12 = .ok (.goto 11, 3) := by decide +kernel
theorem dL_times_15 : decode cL_times 15 = .ok (.astore 5, 2) := by decide +kernel
theorem dL_times_17 : decode cL_times 17 = .ok (.iconst 1, 1) := by decide +kernel
theorem dL_times_18 : decode cL_times 18 = .ok (.ireturn, 1) := by decide +kernel
theorem dL_times_19 : decode cL_times 19 = .ok (.astore 5, 2) := by decide +kernel
theorem dL_times_21 : decode cL_times 21 = .ok (.iconst 2, 1) := by decide +kernel
theorem dL_times_22 : decode cL_times 22 = .ok (.ireturn, 1) := by decide +kernel
theorem dL_times_23 : decode cL_times 23 = .ok (.iconst 0, 1) := by decide +kernel
theorem dL_times_24 : decode cL_times 24 = .ok (.ireturn, 1) := by decide +kernel
theorem dL_inverse_0 : decode cL_inverse 0 = .ok (.aload_n 3, 1) := by decide +kernel
theorem dL_inverse_1 : decode cL_inverse 1 = .ok (.iconst 0, 1) := by decide +kernel
theorem dL_inverse_2 : decode cL_inverse 2 = .ok (.aload_n 0, 1) := by decide +kernel
theorem dL_inverse_3 : decode cL_inverse 3 = .ok (.iload_n 1, 1) := by decide +kernel
theorem dL_inverse_4 : decode cL_inverse 4 = .ok (.iload_n 2, 1) := by decide +kernel
theorem dL_inverse_5 : decode cL_inverse 5 = .ok (.invokevirtual 32, 3) := by decide +kernel
theorem dL_inverse_8 : decode cL_inverse 8 = .ok (.i2l, 1) := by decide +kernel
theorem dL_inverse_9 : decode cL_inverse 9 = .ok (.lastore, 1) := by decide +kernel
theorem dL_inverse_10 : decode cL_inverse 10 = .ok (.goto 11, 3) := by decide +kernel
theorem dL_inverse_13 : decode cL_inverse 13 = .ok (.astore 4, 2) := by decide +kernel
theorem dL_inverse_15 : decode cL_inverse 15 = .ok (.iconst 1, 1) := by decide +kernel
theorem dL_inverse_16 : decode cL_inverse 16 = .ok (.ireturn, 1) := by decide +kernel
theorem dL_inverse_17 : decode cL_inverse 17 = .ok (.astore 4, 2) := by decide +kernel
theorem dL_inverse_19 : decode cL_inverse 19 = .ok (.iconst 2, 1) := by decide +kernel
theorem dL_inverse_20 : decode cL_inverse 20 = .ok (.ireturn, 1) := by decide +kernel
theorem dL_inverse_21 : decode cL_inverse 21 = .ok (.iconst 0, 1) := by decide +kernel
theorem dL_inverse_22 : decode cL_inverse 22 = .ok (.ireturn, 1) := by decide +kernel
theorem dL_orderOf_0 : decode cL_orderOf 0 = .ok (.aload_n 3, 1) := by decide +kernel
theorem dL_orderOf_1 : decode cL_orderOf 1 = .ok (.iconst 0, 1) := by decide +kernel
theorem dL_orderOf_2 : decode cL_orderOf 2 = .ok (.aload_n 0, 1) := by decide +kernel
theorem dL_orderOf_3 : decode cL_orderOf 3 = .ok (.iload_n 1, 1) := by decide +kernel
theorem dL_orderOf_4 : decode cL_orderOf 4 = .ok (.iload_n 2, 1) := by decide +kernel
theorem dL_orderOf_5 : decode cL_orderOf 5 = .ok (.invokevirtual 36, 3) := by decide +kernel
theorem dL_orderOf_8 : decode cL_orderOf 8 = .ok (.i2l, 1) := by decide +kernel
theorem dL_orderOf_9 : decode cL_orderOf 9 = .ok (.lastore, 1) := by decide +kernel
theorem dL_orderOf_10 : decode cL_orderOf 10 = .ok (.goto 11, 3) := by decide +kernel
theorem dL_orderOf_13 : decode cL_orderOf 13 = .ok (.astore 4, 2) := by decide +kernel
theorem dL_orderOf_15 : decode cL_orderOf 15 = .ok (.iconst 1, 1) := by decide +kernel
theorem dL_orderOf_16 : decode cL_orderOf 16 = .ok (.ireturn, 1) := by decide +kernel
theorem dL_orderOf_17 : decode cL_orderOf 17 = .ok (.astore 4, 2) := by decide +kernel
theorem dL_orderOf_19 : decode cL_orderOf 19 = .ok (.iconst 2, 1) := by decide +kernel
theorem dL_orderOf_20 : decode cL_orderOf 20 = .ok (.ireturn, 1) := by decide +kernel
theorem dL_orderOf_21 : decode cL_orderOf 21 = .ok (.iconst 0, 1) := by decide +kernel
theorem dL_orderOf_22 : decode cL_orderOf 22 = .ok (.ireturn, 1) := by decide +kernel
theorem dL_centre_0 : decode cL_centre 0 = .ok (.aload_n 2, 1) := by decide +kernel
theorem dL_centre_1 : decode cL_centre 1 = .ok (.iconst 0, 1) := by decide +kernel
theorem dL_centre_2 : decode cL_centre 2 = .ok (.aload_n 0, 1) := by decide +kernel
theorem dL_centre_3 : decode cL_centre 3 = .ok (.iload_n 1, 1) := by decide +kernel
theorem dL_centre_4 : decode cL_centre 4 = .ok (.invokevirtual 39, 3) := by decide +kernel
theorem dL_centre_7 : decode cL_centre 7 = .ok (.i2l, 1) := by decide +kernel
theorem dL_centre_8 : decode cL_centre 8 = .ok (.lastore, 1) := by decide +kernel
theorem dL_centre_9 : decode cL_centre 9 = .ok (.goto 9, 3) := by decide +kernel
theorem dL_centre_12 : decode cL_centre 12 = .ok (.astore_n 3, 1) := by decide +kernel
theorem dL_centre_13 : decode cL_centre 13 = .ok (.iconst 1, 1) := by decide +kernel
theorem dL_centre_14 : decode cL_centre 14 = .ok (.ireturn, 1) := by decide +kernel
theorem dL_centre_15 : decode cL_centre 15 = .ok (.astore_n 3, 1) := by decide +kernel
theorem dL_centre_16 : decode cL_centre 16 = .ok (.iconst 2, 1) := by decide +kernel
theorem dL_centre_17 : decode cL_centre 17 = .ok (.ireturn, 1) := by decide +kernel
theorem dL_centre_18 : decode cL_centre 18 = .ok (.iconst 0, 1) := by decide +kernel
theorem dL_centre_19 : decode cL_centre 19 = .ok (.ireturn, 1) := by decide +kernel
theorem dL_conjugacy_0 : decode cL_conjugacy 0 = .ok (.aload_n 2, 1) := by decide +kernel
theorem dL_conjugacy_1 : decode cL_conjugacy 1 = .ok (.iconst 0, 1) := by decide +kernel
theorem dL_conjugacy_2 : decode cL_conjugacy 2 = .ok (.aload_n 0, 1) := by decide +kernel
theorem dL_conjugacy_3 : decode cL_conjugacy 3 = .ok (.iload_n 1, 1) := by decide +kernel
theorem dL_conjugacy_4 : decode cL_conjugacy 4 = .ok (.invokevirtual 42, 3) := by decide +kernel
theorem dL_conjugacy_7 : decode cL_conjugacy 7 = .ok (.i2l, 1) := by decide +kernel
theorem dL_conjugacy_8 : decode cL_conjugacy 8 = .ok (.lastore, 1) := by decide +kernel
theorem dL_conjugacy_9 : decode cL_conjugacy 9 = .ok (.goto 9, 3) := by decide +kernel
theorem dL_conjugacy_12 : decode cL_conjugacy 12 = .ok (.astore_n 3, 1) := by decide +kernel
theorem dL_conjugacy_13 : decode cL_conjugacy 13 = .ok (.iconst 1, 1) := by decide +kernel
theorem dL_conjugacy_14 : decode cL_conjugacy 14 = .ok (.ireturn, 1) := by decide +kernel
theorem dL_conjugacy_15 : decode cL_conjugacy 15 = .ok (.astore_n 3, 1) := by decide +kernel
theorem dL_conjugacy_16 : decode cL_conjugacy 16 = .ok (.iconst 2, 1) := by decide +kernel
theorem dL_conjugacy_17 : decode cL_conjugacy 17 = .ok (.ireturn, 1) := by decide +kernel
theorem dL_conjugacy_18 : decode cL_conjugacy 18 = .ok (.iconst 0, 1) := by decide +kernel
theorem dL_conjugacy_19 : decode cL_conjugacy 19 = .ok (.ireturn, 1) := by decide +kernel
theorem dL_generated_0 : decode cL_generated 0 = .ok (.aload_n 3, 1) := by decide +kernel
theorem dL_generated_1 : decode cL_generated 1 = .ok (.iconst 0, 1) := by decide +kernel
theorem dL_generated_2 : decode cL_generated 2 = .ok (.aload_n 0, 1) := by decide +kernel
theorem dL_generated_3 : decode cL_generated 3 = .ok (.iload_n 1, 1) := by decide +kernel
theorem dL_generated_4 : decode cL_generated 4 = .ok (.iload_n 2, 1) := by decide +kernel
theorem dL_generated_5 : decode cL_generated 5 = .ok (.invokevirtual 45, 3) := by decide +kernel
theorem dL_generated_8 : decode cL_generated 8 = .ok (.i2l, 1) := by decide +kernel
theorem dL_generated_9 : decode cL_generated 9 = .ok (.lastore, 1) := by decide +kernel
theorem dL_generated_10 : decode cL_generated 10 = .ok (.goto 15, 3) := by decide +kernel
theorem dL_generated_13 : decode cL_generated 13 = .ok (.astore 4, 2) := by decide +kernel
theorem dL_generated_15 : decode cL_generated 15 = .ok (.iconst 1, 1) := by decide +kernel
theorem dL_generated_16 : decode cL_generated 16 = .ok (.ireturn, 1) := by decide +kernel
theorem dL_generated_17 : decode cL_generated 17 = .ok (.astore 4, 2) := by decide +kernel
theorem dL_generated_19 : decode cL_generated 19 = .ok (.iconst 2, 1) := by decide +kernel
theorem dL_generated_20 : decode cL_generated 20 = .ok (.ireturn, 1) := by decide +kernel
theorem dL_generated_21 : decode cL_generated 21 = .ok (.astore 4, 2) := by decide +kernel
theorem dL_generated_23 : decode cL_generated 23 = .ok (.iconst 3, 1) := by decide +kernel
theorem dL_generated_24 : decode cL_generated 24 = .ok (.ireturn, 1) := by decide +kernel
theorem dL_generated_25 : decode cL_generated 25 = .ok (.iconst 0, 1) := by decide +kernel
theorem dL_generated_26 : decode cL_generated 26 = .ok (.ireturn, 1) := by decide +kernel
theorem dL_normal_0 : decode cL_normal 0 = .ok (.aload_n 3, 1) := by decide +kernel
theorem dL_normal_1 : decode cL_normal 1 = .ok (.iconst 0, 1) := by decide +kernel
theorem dL_normal_2 : decode cL_normal 2 = .ok (.aload_n 0, 1) := by decide +kernel
theorem dL_normal_3 : decode cL_normal 3 = .ok (.iload_n 1, 1) := by decide +kernel
theorem dL_normal_4 : decode cL_normal 4 = .ok (.iload_n 2, 1) := by decide +kernel
theorem dL_normal_5 : decode cL_normal 5 = .ok (.invokevirtual 48, 3) := by decide +kernel
theorem dL_normal_8 : decode cL_normal 8 = .ok (.i2l, 1) := by decide +kernel
theorem dL_normal_9 : decode cL_normal 9 = .ok (.lastore, 1) := by decide +kernel
theorem dL_normal_10 : decode cL_normal 10 = .ok (.goto 15, 3) := by decide +kernel
theorem dL_normal_13 : decode cL_normal 13 = .ok (.astore 4, 2) := by decide +kernel
theorem dL_normal_15 : decode cL_normal 15 = .ok (.iconst 1, 1) := by decide +kernel
theorem dL_normal_16 : decode cL_normal 16 = .ok (.ireturn, 1) := by decide +kernel
theorem dL_normal_17 : decode cL_normal 17 = .ok (.astore 4, 2) := by decide +kernel
theorem dL_normal_19 : decode cL_normal 19 = .ok (.iconst 2, 1) := by decide +kernel
theorem dL_normal_20 : decode cL_normal 20 = .ok (.ireturn, 1) := by decide +kernel
theorem dL_normal_21 : decode cL_normal 21 = .ok (.astore 4, 2) := by decide +kernel
theorem dL_normal_23 : decode cL_normal 23 = .ok (.iconst 3, 1) := by decide +kernel
theorem dL_normal_24 : decode cL_normal 24 = .ok (.ireturn, 1) := by decide +kernel
theorem dL_normal_25 : decode cL_normal 25 = .ok (.iconst 0, 1) := by decide +kernel
theorem dL_normal_26 : decode cL_normal 26 = .ok (.ireturn, 1) := by decide +kernel
theorem dL_groupOf_0 : decode cL_groupOf 0 = .ok (.aload_n 3, 1) := by decide +kernel
theorem dL_groupOf_1 : decode cL_groupOf 1 = .ok (.iconst 0, 1) := by decide +kernel
theorem dL_groupOf_2 : decode cL_groupOf 2 = .ok (.aload_n 0, 1) := by decide +kernel
theorem dL_groupOf_3 : decode cL_groupOf 3 = .ok (.iload_n 1, 1) := by decide +kernel
theorem dL_groupOf_4 : decode cL_groupOf 4 = .ok (.iload_n 2, 1) := by decide +kernel
theorem dL_groupOf_5 : decode cL_groupOf 5 = .ok (.invokevirtual 51, 3) := by decide +kernel
theorem dL_groupOf_8 : decode cL_groupOf 8 = .ok (.i2l, 1) := by decide +kernel
theorem dL_groupOf_9 : decode cL_groupOf 9 = .ok (.lastore, 1) := by decide +kernel
theorem dL_groupOf_10 : decode cL_groupOf 10 = .ok (.goto 11, 3) := by decide +kernel
theorem dL_groupOf_13 : decode cL_groupOf 13 = .ok (.astore 4, 2) := by decide +kernel
theorem dL_groupOf_15 : decode cL_groupOf 15 = .ok (.iconst 1, 1) := by decide +kernel
theorem dL_groupOf_16 : decode cL_groupOf 16 = .ok (.ireturn, 1) := by decide +kernel
theorem dL_groupOf_17 : decode cL_groupOf 17 = .ok (.astore 4, 2) := by decide +kernel
theorem dL_groupOf_19 : decode cL_groupOf 19 = .ok (.iconst 2, 1) := by decide +kernel
theorem dL_groupOf_20 : decode cL_groupOf 20 = .ok (.ireturn, 1) := by decide +kernel
theorem dL_groupOf_21 : decode cL_groupOf 21 = .ok (.iconst 0, 1) := by decide +kernel
theorem dL_groupOf_22 : decode cL_groupOf 22 = .ok (.ireturn, 1) := by decide +kernel
theorem dL_boundary_0 : decode cL_boundary 0 = .ok (.aload_n 3, 1) := by decide +kernel
theorem dL_boundary_1 : decode cL_boundary 1 = .ok (.iconst 0, 1) := by decide +kernel
theorem dL_boundary_2 : decode cL_boundary 2 = .ok (.aload_n 0, 1) := by decide +kernel
theorem dL_boundary_3 : decode cL_boundary 3 = .ok (.iload_n 1, 1) := by decide +kernel
theorem dL_boundary_4 : decode cL_boundary 4 = .ok (.iload_n 2, 1) := by decide +kernel
theorem dL_boundary_5 : decode cL_boundary 5 = .ok (.invokevirtual 55, 3) := by decide +kernel
theorem dL_boundary_8 : decode cL_boundary 8 = .ok (.i2l, 1) := by decide +kernel
theorem dL_boundary_9 : decode cL_boundary 9 = .ok (.lastore, 1) := by decide +kernel
theorem dL_boundary_10 : decode cL_boundary 10 = .ok (.goto 11, 3) := by decide +kernel
theorem dL_boundary_13 : decode cL_boundary 13 = .ok (.astore 4, 2) := by decide +kernel
theorem dL_boundary_15 : decode cL_boundary 15 = .ok (.iconst 1, 1) := by decide +kernel
theorem dL_boundary_16 : decode cL_boundary 16 = .ok (.ireturn, 1) := by decide +kernel
theorem dL_boundary_17 : decode cL_boundary 17 = .ok (.astore 4, 2) := by decide +kernel
theorem dL_boundary_19 : decode cL_boundary 19 = .ok (.iconst 2, 1) := by decide +kernel
theorem dL_boundary_20 : decode cL_boundary 20 = .ok (.ireturn, 1) := by decide +kernel
theorem dL_boundary_21 : decode cL_boundary 21 = .ok (.iconst 0, 1) := by decide +kernel
theorem dL_boundary_22 : decode cL_boundary 22 = .ok (.ireturn, 1) := by decide +kernel
theorem dL_act_0 : decode cL_act 0 = .ok (.aload 4, 2) := by decide +kernel
theorem dL_act_2 : decode cL_act 2 = .ok (.iconst 0, 1) := by decide +kernel
theorem dL_act_3 : decode cL_act 3 = .ok (.aload_n 0, 1) := by decide +kernel
theorem dL_act_4 : decode cL_act 4 = .ok (.iload_n 1, 1) := by decide +kernel
theorem dL_act_5 : decode cL_act 5 = .ok (.iload_n 2, 1) := by decide +kernel
theorem dL_act_6 : decode cL_act 6 = .ok (.iload_n 3, 1) := by decide +kernel
theorem dL_act_7 : decode cL_act 7 = .ok (.invokevirtual 58, 3) := by decide +kernel
theorem dL_act_10 : decode cL_act 10 = .ok (.i2l, 1) := by decide +kernel
theorem dL_act_11 : decode cL_act 11 = .ok (.lastore, 1) := by decide +kernel
theorem dL_act_12 : decode cL_act 12 = .ok (.goto 11, 3) := by decide +kernel
theorem dL_act_15 : decode cL_act 15 = .ok (.astore 5, 2) := by decide +kernel
theorem dL_act_17 : decode cL_act 17 = .ok (.iconst 1, 1) := by decide +kernel
theorem dL_act_18 : decode cL_act 18 = .ok (.ireturn, 1) := by decide +kernel
theorem dL_act_19 : decode cL_act 19 = .ok (.astore 5, 2) := by decide +kernel
theorem dL_act_21 : decode cL_act 21 = .ok (.iconst 2, 1) := by decide +kernel
theorem dL_act_22 : decode cL_act 22 = .ok (.ireturn, 1) := by decide +kernel
theorem dL_act_23 : decode cL_act 23 = .ok (.iconst 0, 1) := by decide +kernel
theorem dL_act_24 : decode cL_act 24 = .ok (.ireturn, 1) := by decide +kernel
theorem dL_why_0 : decode cL_why 0 = .ok (.aload_n 2, 1) := by decide +kernel
theorem dL_why_1 : decode cL_why 1 = .ok (.iconst 0, 1) := by decide +kernel
theorem dL_why_2 : decode cL_why 2 = .ok (.aload_n 0, 1) := by decide +kernel
theorem dL_why_3 : decode cL_why 3 = .ok (.iload_n 1, 1) := by decide +kernel
theorem dL_why_4 : decode cL_why 4 = .ok (.invokevirtual 61, 3) := by decide +kernel
theorem dL_why_7 : decode cL_why 7 = .ok (.i2l, 1) := by decide +kernel
theorem dL_why_8 : decode cL_why 8 = .ok (.lastore, 1) := by decide +kernel
theorem dL_why_9 : decode cL_why 9 = .ok (.goto 9, 3) := by decide +kernel
theorem dL_why_12 : decode cL_why 12 = .ok (.astore_n 3, 1) := by decide +kernel
theorem dL_why_13 : decode cL_why 13 = .ok (.iconst 1, 1) := by decide +kernel
theorem dL_why_14 : decode cL_why 14 = .ok (.ireturn, 1) := by decide +kernel
theorem dL_why_15 : decode cL_why 15 = .ok (.astore_n 3, 1) := by decide +kernel
theorem dL_why_16 : decode cL_why 16 = .ok (.iconst 2, 1) := by decide +kernel
theorem dL_why_17 : decode cL_why 17 = .ok (.ireturn, 1) := by decide +kernel
theorem dL_why_18 : decode cL_why 18 = .ok (.iconst 0, 1) := by decide +kernel
theorem dL_why_19 : decode cL_why 19 = .ok (.ireturn, 1) := by decide +kernel
theorem dL_lawful_0 : decode cL_lawful 0 = .ok (.aload_n 1, 1) := by decide +kernel
theorem dL_lawful_1 : decode cL_lawful 1 = .ok (.iconst 0, 1) := by decide +kernel
theorem dL_lawful_2 : decode cL_lawful 2 = .ok (.aload_n 0, 1) := by decide +kernel
theorem dL_lawful_3 : decode cL_lawful 3 = .ok (.invokevirtual 64, 3) := by decide +kernel
theorem dL_lawful_6 : decode cL_lawful 6 = .ok (.i2l, 1) := by decide +kernel
theorem dL_lawful_7 : decode cL_lawful 7 = .ok (.lastore, 1) := by decide +kernel
theorem dL_lawful_8 : decode cL_lawful 8 = .ok (.goto 6, 3) := by decide +kernel
theorem dL_lawful_11 : decode cL_lawful 11 = .ok (.astore_n 2, 1) := by decide +kernel
theorem dL_lawful_12 : decode cL_lawful 12 = .ok (.iconst 1, 1) := by decide +kernel
theorem dL_lawful_13 : decode cL_lawful 13 = .ok (.ireturn, 1) := by decide +kernel
theorem dL_lawful_14 : decode cL_lawful 14 = .ok (.iconst 0, 1) := by decide +kernel
theorem dL_lawful_15 : decode cL_lawful 15 = .ok (.ireturn, 1) := by decide +kernel
theorem dL_kernel_0 : decode cL_kernel 0 = .ok (.aload_n 2, 1) := by decide +kernel
theorem dL_kernel_1 : decode cL_kernel 1 = .ok (.iconst 0, 1) := by decide +kernel
theorem dL_kernel_2 : decode cL_kernel 2 = .ok (.aload_n 0, 1) := by decide +kernel
theorem dL_kernel_3 : decode cL_kernel 3 = .ok (.iload_n 1, 1) := by decide +kernel
theorem dL_kernel_4 : decode cL_kernel 4 = .ok (.invokevirtual 68, 3) := by decide +kernel
theorem dL_kernel_7 : decode cL_kernel 7 = .ok (.i2l, 1) := by decide +kernel
theorem dL_kernel_8 : decode cL_kernel 8 = .ok (.lastore, 1) := by decide +kernel
theorem dL_kernel_9 : decode cL_kernel 9 = .ok (.goto 9, 3) := by decide +kernel
theorem dL_kernel_12 : decode cL_kernel 12 = .ok (.astore_n 3, 1) := by decide +kernel
theorem dL_kernel_13 : decode cL_kernel 13 = .ok (.iconst 1, 1) := by decide +kernel
theorem dL_kernel_14 : decode cL_kernel 14 = .ok (.ireturn, 1) := by decide +kernel
theorem dL_kernel_15 : decode cL_kernel 15 = .ok (.astore_n 3, 1) := by decide +kernel
theorem dL_kernel_16 : decode cL_kernel 16 = .ok (.iconst 2, 1) := by decide +kernel
theorem dL_kernel_17 : decode cL_kernel 17 = .ok (.ireturn, 1) := by decide +kernel
theorem dL_kernel_18 : decode cL_kernel 18 = .ok (.iconst 0, 1) := by decide +kernel
theorem dL_kernel_19 : decode cL_kernel 19 = .ok (.ireturn, 1) := by decide +kernel
theorem dL_image_0 : decode cL_image 0 = .ok (.aload_n 2, 1) := by decide +kernel
theorem dL_image_1 : decode cL_image 1 = .ok (.iconst 0, 1) := by decide +kernel
theorem dL_image_2 : decode cL_image 2 = .ok (.aload_n 0, 1) := by decide +kernel
theorem dL_image_3 : decode cL_image 3 = .ok (.iload_n 1, 1) := by decide +kernel
theorem dL_image_4 : decode cL_image 4 = .ok (.invokevirtual 71, 3) := by decide +kernel
theorem dL_image_7 : decode cL_image 7 = .ok (.i2l, 1) := by decide +kernel
theorem dL_image_8 : decode cL_image 8 = .ok (.lastore, 1) := by decide +kernel
theorem dL_image_9 : decode cL_image 9 = .ok (.goto 9, 3) := by decide +kernel
theorem dL_image_12 : decode cL_image 12 = .ok (.astore_n 3, 1) := by decide +kernel
theorem dL_image_13 : decode cL_image 13 = .ok (.iconst 1, 1) := by decide +kernel
theorem dL_image_14 : decode cL_image 14 = .ok (.ireturn, 1) := by decide +kernel
theorem dL_image_15 : decode cL_image 15 = .ok (.astore_n 3, 1) := by decide +kernel
theorem dL_image_16 : decode cL_image 16 = .ok (.iconst 2, 1) := by decide +kernel
theorem dL_image_17 : decode cL_image 17 = .ok (.ireturn, 1) := by decide +kernel
theorem dL_image_18 : decode cL_image 18 = .ok (.iconst 0, 1) := by decide +kernel
theorem dL_image_19 : decode cL_image 19 = .ok (.ireturn, 1) := by decide +kernel
theorem dL_isCentral_0 : decode cL_isCentral 0 = .ok (.aload_n 2, 1) := by decide +kernel
theorem dL_isCentral_1 : decode cL_isCentral 1 = .ok (.iconst 0, 1) := by decide +kernel
theorem dL_isCentral_2 : decode cL_isCentral 2 = .ok (.aload_n 0, 1) := by decide +kernel
theorem dL_isCentral_3 : decode cL_isCentral 3 = .ok (.iload_n 1, 1) := by decide +kernel
theorem dL_isCentral_4 : decode cL_isCentral 4 = .ok (.invokevirtual 74, 3) := by decide +kernel
theorem dL_isCentral_7 : decode cL_isCentral 7 = .ok (.ifCond .eq 7, 3) := by decide +kernel
theorem dL_isCentral_10 : decode cL_isCentral 10 = .ok (.lconst 1, 1) := by decide +kernel
theorem dL_isCentral_11 : decode cL_isCentral 11 = .ok (.goto 4, 3) := by decide +kernel
theorem dL_isCentral_14 : decode cL_isCentral 14 = .ok (.lconst 0, 1) := by decide +kernel
theorem dL_isCentral_15 : decode cL_isCentral 15 = .ok (.lastore, 1) := by decide +kernel
theorem dL_isCentral_16 : decode cL_isCentral 16 = .ok (.goto 9, 3) := by decide +kernel
theorem dL_isCentral_19 : decode cL_isCentral 19 = .ok (.astore_n 3, 1) := by decide +kernel
theorem dL_isCentral_20 : decode cL_isCentral 20 = .ok (.iconst 1, 1) := by decide +kernel
theorem dL_isCentral_21 : decode cL_isCentral 21 = .ok (.ireturn, 1) := by decide +kernel
theorem dL_isCentral_22 : decode cL_isCentral 22 = .ok (.astore_n 3, 1) := by decide +kernel
theorem dL_isCentral_23 : decode cL_isCentral 23 = .ok (.iconst 2, 1) := by decide +kernel
theorem dL_isCentral_24 : decode cL_isCentral 24 = .ok (.ireturn, 1) := by decide +kernel
theorem dL_isCentral_25 : decode cL_isCentral 25 = .ok (.iconst 0, 1) := by decide +kernel
theorem dL_isCentral_26 : decode cL_isCentral 26 = .ok (.ireturn, 1) := by decide +kernel
theorem dL_fixed_0 : decode cL_fixed 0 = .ok (.aload_n 3, 1) := by decide +kernel
theorem dL_fixed_1 : decode cL_fixed 1 = .ok (.iconst 0, 1) := by decide +kernel
theorem dL_fixed_2 : decode cL_fixed 2 = .ok (.aload_n 0, 1) := by decide +kernel
theorem dL_fixed_3 : decode cL_fixed 3 = .ok (.iload_n 1, 1) := by decide +kernel
theorem dL_fixed_4 : decode cL_fixed 4 = .ok (.iload_n 2, 1) := by decide +kernel
theorem dL_fixed_5 : decode cL_fixed 5 = .ok (.invokevirtual 78, 3) := by decide +kernel
theorem dL_fixed_8 : decode cL_fixed 8 = .ok (.i2l, 1) := by decide +kernel
theorem dL_fixed_9 : decode cL_fixed 9 = .ok (.lastore, 1) := by decide +kernel
theorem dL_fixed_10 : decode cL_fixed 10 = .ok (.goto 11, 3) := by decide +kernel
theorem dL_fixed_13 : decode cL_fixed 13 = .ok (.astore 4, 2) := by decide +kernel
theorem dL_fixed_15 : decode cL_fixed 15 = .ok (.iconst 1, 1) := by decide +kernel
theorem dL_fixed_16 : decode cL_fixed 16 = .ok (.ireturn, 1) := by decide +kernel
theorem dL_fixed_17 : decode cL_fixed 17 = .ok (.astore 4, 2) := by decide +kernel
theorem dL_fixed_19 : decode cL_fixed 19 = .ok (.iconst 2, 1) := by decide +kernel
theorem dL_fixed_20 : decode cL_fixed 20 = .ok (.ireturn, 1) := by decide +kernel
theorem dL_fixed_21 : decode cL_fixed 21 = .ok (.iconst 0, 1) := by decide +kernel
theorem dL_fixed_22 : decode cL_fixed 22 = .ok (.ireturn, 1) := by decide +kernel
theorem dL_orbit_0 : decode cL_orbit 0 = .ok (.aload_n 3, 1) := by decide +kernel
theorem dL_orbit_1 : decode cL_orbit 1 = .ok (.iconst 0, 1) := by decide +kernel
theorem dL_orbit_2 : decode cL_orbit 2 = .ok (.aload_n 0, 1) := by decide +kernel
theorem dL_orbit_3 : decode cL_orbit 3 = .ok (.iload_n 1, 1) := by decide +kernel
theorem dL_orbit_4 : decode cL_orbit 4 = .ok (.iload_n 2, 1) := by decide +kernel
theorem dL_orbit_5 : decode cL_orbit 5 = .ok (.invokevirtual 81, 3) := by decide +kernel
theorem dL_orbit_8 : decode cL_orbit 8 = .ok (.i2l, 1) := by decide +kernel
theorem dL_orbit_9 : decode cL_orbit 9 = .ok (.lastore, 1) := by decide +kernel
theorem dL_orbit_10 : decode cL_orbit 10 = .ok (.goto 11, 3) := by decide +kernel
theorem dL_orbit_13 : decode cL_orbit 13 = .ok (.astore 4, 2) := by decide +kernel
theorem dL_orbit_15 : decode cL_orbit 15 = .ok (.iconst 1, 1) := by decide +kernel
theorem dL_orbit_16 : decode cL_orbit 16 = .ok (.ireturn, 1) := by decide +kernel
theorem dL_orbit_17 : decode cL_orbit 17 = .ok (.astore 4, 2) := by decide +kernel
theorem dL_orbit_19 : decode cL_orbit 19 = .ok (.iconst 2, 1) := by decide +kernel
theorem dL_orbit_20 : decode cL_orbit 20 = .ok (.ireturn, 1) := by decide +kernel
theorem dL_orbit_21 : decode cL_orbit 21 = .ok (.iconst 0, 1) := by decide +kernel
theorem dL_orbit_22 : decode cL_orbit 22 = .ok (.ireturn, 1) := by decide +kernel
theorem dL_classes_0 : decode cL_classes 0 = .ok (.aload_n 2, 1) := by decide +kernel
theorem dL_classes_1 : decode cL_classes 1 = .ok (.iconst 0, 1) := by decide +kernel
theorem dL_classes_2 : decode cL_classes 2 = .ok (.aload_n 0, 1) := by decide +kernel
theorem dL_classes_3 : decode cL_classes 3 = .ok (.iload_n 1, 1) := by decide +kernel
theorem dL_classes_4 : decode cL_classes 4 = .ok (.invokevirtual 84, 3) := by decide +kernel
theorem dL_classes_7 : decode cL_classes 7 = .ok (.i2l, 1) := by decide +kernel
theorem dL_classes_8 : decode cL_classes 8 = .ok (.lastore, 1) := by decide +kernel
theorem dL_classes_9 : decode cL_classes 9 = .ok (.goto 12, 3) := by decide +kernel
theorem dL_classes_12 : decode cL_classes 12 = .ok (.astore_n 3, 1) := by decide +kernel
theorem dL_classes_13 : decode cL_classes 13 = .ok (.iconst 1, 1) := by decide +kernel
theorem dL_classes_14 : decode cL_classes 14 = .ok (.ireturn, 1) := by decide +kernel
theorem dL_classes_15 : decode cL_classes 15 = .ok (.astore_n 3, 1) := by decide +kernel
theorem dL_classes_16 : decode cL_classes 16 = .ok (.iconst 2, 1) := by decide +kernel
theorem dL_classes_17 : decode cL_classes 17 = .ok (.ireturn, 1) := by decide +kernel
theorem dL_classes_18 : decode cL_classes 18 = .ok (.astore_n 3, 1) := by decide +kernel
theorem dL_classes_19 : decode cL_classes 19 = .ok (.iconst 3, 1) := by decide +kernel
theorem dL_classes_20 : decode cL_classes 20 = .ok (.ireturn, 1) := by decide +kernel
theorem dL_classes_21 : decode cL_classes 21 = .ok (.iconst 0, 1) := by decide +kernel
theorem dL_classes_22 : decode cL_classes 22 = .ok (.ireturn, 1) := by decide +kernel
theorem dL_classOf_0 : decode cL_classOf 0 = .ok (.aload_n 3, 1) := by decide +kernel
theorem dL_classOf_1 : decode cL_classOf 1 = .ok (.iconst 0, 1) := by decide +kernel
theorem dL_classOf_2 : decode cL_classOf 2 = .ok (.aload_n 0, 1) := by decide +kernel
theorem dL_classOf_3 : decode cL_classOf 3 = .ok (.iload_n 1, 1) := by decide +kernel
theorem dL_classOf_4 : decode cL_classOf 4 = .ok (.iload_n 2, 1) := by decide +kernel
theorem dL_classOf_5 : decode cL_classOf 5 = .ok (.invokevirtual 87, 3) := by decide +kernel
theorem dL_classOf_8 : decode cL_classOf 8 = .ok (.i2l, 1) := by decide +kernel
theorem dL_classOf_9 : decode cL_classOf 9 = .ok (.lastore, 1) := by decide +kernel
theorem dL_classOf_10 : decode cL_classOf 10 = .ok (.goto 15, 3) := by decide +kernel
theorem dL_classOf_13 : decode cL_classOf 13 = .ok (.astore 4, 2) := by decide +kernel
theorem dL_classOf_15 : decode cL_classOf 15 = .ok (.iconst 1, 1) := by decide +kernel
theorem dL_classOf_16 : decode cL_classOf 16 = .ok (.ireturn, 1) := by decide +kernel
theorem dL_classOf_17 : decode cL_classOf 17 = .ok (.astore 4, 2) := by decide +kernel
theorem dL_classOf_19 : decode cL_classOf 19 = .ok (.iconst 2, 1) := by decide +kernel
theorem dL_classOf_20 : decode cL_classOf 20 = .ok (.ireturn, 1) := by decide +kernel
theorem dL_classOf_21 : decode cL_classOf 21 = .ok (.astore 4, 2) := by decide +kernel
theorem dL_classOf_23 : decode cL_classOf 23 = .ok (.iconst 3, 1) := by decide +kernel
theorem dL_classOf_24 : decode cL_classOf 24 = .ok (.ireturn, 1) := by decide +kernel
theorem dL_classOf_25 : decode cL_classOf 25 = .ok (.iconst 0, 1) := by decide +kernel
theorem dL_classOf_26 : decode cL_classOf 26 = .ok (.ireturn, 1) := by decide +kernel
theorem dL_classTimes_0 : decode cL_classTimes 0 = .ok (.aload 4, 2) := by decide +kernel
theorem dL_classTimes_2 : decode cL_classTimes 2 = .ok (.iconst 0, 1) := by decide +kernel
theorem dL_classTimes_3 : decode cL_classTimes 3 = .ok (.aload_n 0, 1) := by decide +kernel
theorem dL_classTimes_4 : decode cL_classTimes 4 = .ok (.iload_n 1, 1) := by decide +kernel
theorem dL_classTimes_5 : decode cL_classTimes 5 = .ok (.iload_n 2, 1) := by decide +kernel
theorem dL_classTimes_6 : decode cL_classTimes 6 = .ok (.iload_n 3, 1) := by decide +kernel
theorem dL_classTimes_7 : decode cL_classTimes 7 = .ok (.invokevirtual 90, 3) := by decide +kernel
theorem dL_classTimes_10 : decode cL_classTimes 10 = .ok (.i2l, 1) := by decide +kernel
theorem dL_classTimes_11 : decode cL_classTimes 11 = .ok (.lastore, 1) := by decide +kernel
theorem dL_classTimes_12 : decode cL_classTimes 12 = .ok (.goto 15, 3) := by decide +kernel
theorem dL_classTimes_15 : decode cL_classTimes 15 = .ok (.astore 5, 2) := by decide +kernel
theorem dL_classTimes_17 : decode cL_classTimes 17 = .ok (.iconst 1, 1) := by decide +kernel
theorem dL_classTimes_18 : decode cL_classTimes 18 = .ok (.ireturn, 1) := by decide +kernel
theorem dL_classTimes_19 : decode cL_classTimes 19 = .ok (.astore 5, 2) := by decide +kernel
theorem dL_classTimes_21 : decode cL_classTimes 21 = .ok (.iconst 2, 1) := by decide +kernel
theorem dL_classTimes_22 : decode cL_classTimes 22 = .ok (.ireturn, 1) := by decide +kernel
theorem dL_classTimes_23 : decode cL_classTimes 23 = .ok (.astore 5, 2) := by decide +kernel
theorem dL_classTimes_25 : decode cL_classTimes 25 = .ok (.iconst 3, 1) := by decide +kernel
theorem dL_classTimes_26 : decode cL_classTimes 26 = .ok (.ireturn, 1) := by decide +kernel
theorem dL_classTimes_27 : decode cL_classTimes 27 = .ok (.iconst 0, 1) := by decide +kernel
theorem dL_classTimes_28 : decode cL_classTimes 28 = .ok (.ireturn, 1) := by decide +kernel
theorem dL_classAct_0 : decode cL_classAct 0 = .ok (.aload 4, 2) := by decide +kernel
theorem dL_classAct_2 : decode cL_classAct 2 = .ok (.iconst 0, 1) := by decide +kernel
theorem dL_classAct_3 : decode cL_classAct 3 = .ok (.aload_n 0, 1) := by decide +kernel
theorem dL_classAct_4 : decode cL_classAct 4 = .ok (.iload_n 1, 1) := by decide +kernel
theorem dL_classAct_5 : decode cL_classAct 5 = .ok (.iload_n 2, 1) := by decide +kernel
theorem dL_classAct_6 : decode cL_classAct 6 = .ok (.iload_n 3, 1) := by decide +kernel
theorem dL_classAct_7 : decode cL_classAct 7 = .ok (.invokevirtual 93, 3) := by decide +kernel
theorem dL_classAct_10 : decode cL_classAct 10 = .ok (.i2l, 1) := by decide +kernel
theorem dL_classAct_11 : decode cL_classAct 11 = .ok (.lastore, 1) := by decide +kernel
theorem dL_classAct_12 : decode cL_classAct 12 = .ok (.goto 15, 3) := by decide +kernel
theorem dL_classAct_15 : decode cL_classAct 15 = .ok (.astore 5, 2) := by decide +kernel
theorem dL_classAct_17 : decode cL_classAct 17 = .ok (.iconst 1, 1) := by decide +kernel
theorem dL_classAct_18 : decode cL_classAct 18 = .ok (.ireturn, 1) := by decide +kernel
theorem dL_classAct_19 : decode cL_classAct 19 = .ok (.astore 5, 2) := by decide +kernel
theorem dL_classAct_21 : decode cL_classAct 21 = .ok (.iconst 2, 1) := by decide +kernel
theorem dL_classAct_22 : decode cL_classAct 22 = .ok (.ireturn, 1) := by decide +kernel
theorem dL_classAct_23 : decode cL_classAct 23 = .ok (.astore 5, 2) := by decide +kernel
theorem dL_classAct_25 : decode cL_classAct 25 = .ok (.iconst 3, 1) := by decide +kernel
theorem dL_classAct_26 : decode cL_classAct 26 = .ok (.ireturn, 1) := by decide +kernel
theorem dL_classAct_27 : decode cL_classAct 27 = .ok (.iconst 0, 1) := by decide +kernel
theorem dL_classAct_28 : decode cL_classAct 28 = .ok (.ireturn, 1) := by decide +kernel
theorem dL_profile_0 : decode cL_profile 0 = .ok (.aload 4, 2) := by decide +kernel
theorem dL_profile_2 : decode cL_profile 2 = .ok (.iconst 0, 1) := by decide +kernel
theorem dL_profile_3 : decode cL_profile 3 = .ok (.aload_n 0, 1) := by decide +kernel
theorem dL_profile_4 : decode cL_profile 4 = .ok (.iload_n 1, 1) := by decide +kernel
theorem dL_profile_5 : decode cL_profile 5 = .ok (.iload_n 2, 1) := by decide +kernel
theorem dL_profile_6 : decode cL_profile 6 = .ok (.iload_n 3, 1) := by decide +kernel
theorem dL_profile_7 : decode cL_profile 7 = .ok (.invokevirtual 96, 3) := by decide +kernel
theorem dL_profile_10 : decode cL_profile 10 = .ok (.i2l, 1) := by decide +kernel
theorem dL_profile_11 : decode cL_profile 11 = .ok (.lastore, 1) := by decide +kernel
theorem dL_profile_12 : decode cL_profile 12 = .ok (.goto 15, 3) := by decide +kernel
theorem dL_profile_15 : decode cL_profile 15 = .ok (.astore 5, 2) := by decide +kernel
theorem dL_profile_17 : decode cL_profile 17 = .ok (.iconst 1, 1) := by decide +kernel
theorem dL_profile_18 : decode cL_profile 18 = .ok (.ireturn, 1) := by decide +kernel
theorem dL_profile_19 : decode cL_profile 19 = .ok (.astore 5, 2) := by decide +kernel
theorem dL_profile_21 : decode cL_profile 21 = .ok (.iconst 2, 1) := by decide +kernel
theorem dL_profile_22 : decode cL_profile 22 = .ok (.ireturn, 1) := by decide +kernel
theorem dL_profile_23 : decode cL_profile 23 = .ok (.astore 5, 2) := by decide +kernel
theorem dL_profile_25 : decode cL_profile 25 = .ok (.iconst 3, 1) := by decide +kernel
theorem dL_profile_26 : decode cL_profile 26 = .ok (.ireturn, 1) := by decide +kernel
theorem dL_profile_27 : decode cL_profile 27 = .ok (.iconst 0, 1) := by decide +kernel
theorem dL_profile_28 : decode cL_profile 28 = .ok (.ireturn, 1) := by decide +kernel
theorem dL_areAlike_0 : decode cL_areAlike 0 = .ok (.aload_n 3, 1) := by decide +kernel
theorem dL_areAlike_1 : decode cL_areAlike 1 = .ok (.iconst 0, 1) := by decide +kernel
theorem dL_areAlike_2 : decode cL_areAlike 2 = .ok (.aload_n 0, 1) := by decide +kernel
theorem dL_areAlike_3 : decode cL_areAlike 3 = .ok (.iload_n 1, 1) := by decide +kernel
theorem dL_areAlike_4 : decode cL_areAlike 4 = .ok (.iload_n 2, 1) := by decide +kernel
theorem dL_areAlike_5 : decode cL_areAlike 5 = .ok (.invokevirtual 100, 3) := by decide +kernel
theorem dL_areAlike_8 : decode cL_areAlike 8 = .ok (.ifCond .eq 7, 3) := by decide +kernel
theorem dL_areAlike_11 : decode cL_areAlike 11 = .ok (.lconst 1, 1) := by decide +kernel
theorem dL_areAlike_12 : decode cL_areAlike 12 = .ok (.goto 4, 3) := by decide +kernel
theorem dL_areAlike_15 : decode cL_areAlike 15 = .ok (.lconst 0, 1) := by decide +kernel
theorem dL_areAlike_16 : decode cL_areAlike 16 = .ok (.lastore, 1) := by decide +kernel
theorem dL_areAlike_17 : decode cL_areAlike 17 = .ok (.goto 15, 3) := by decide +kernel
theorem dL_areAlike_20 : decode cL_areAlike 20 = .ok (.astore 4, 2) := by decide +kernel
theorem dL_areAlike_22 : decode cL_areAlike 22 = .ok (.iconst 1, 1) := by decide +kernel
theorem dL_areAlike_23 : decode cL_areAlike 23 = .ok (.ireturn, 1) := by decide +kernel
theorem dL_areAlike_24 : decode cL_areAlike 24 = .ok (.astore 4, 2) := by decide +kernel
theorem dL_areAlike_26 : decode cL_areAlike 26 = .ok (.iconst 2, 1) := by decide +kernel
theorem dL_areAlike_27 : decode cL_areAlike 27 = .ok (.ireturn, 1) := by decide +kernel
theorem dL_areAlike_28 : decode cL_areAlike 28 = .ok (.astore 4, 2) := by decide +kernel
theorem dL_areAlike_30 : decode cL_areAlike 30 = .ok (.iconst 3, 1) := by decide +kernel
theorem dL_areAlike_31 : decode cL_areAlike 31 = .ok (.ireturn, 1) := by decide +kernel
theorem dL_areAlike_32 : decode cL_areAlike 32 = .ok (.iconst 0, 1) := by decide +kernel
theorem dL_areAlike_33 : decode cL_areAlike 33 = .ok (.ireturn, 1) := by decide +kernel
theorem dL_kinds_0 : decode cL_kinds 0 = .ok (.aload_n 1, 1) := by decide +kernel
theorem dL_kinds_1 : decode cL_kinds 1 = .ok (.iconst 0, 1) := by decide +kernel
theorem dL_kinds_2 : decode cL_kinds 2 = .ok (.aload_n 0, 1) := by decide +kernel
theorem dL_kinds_3 : decode cL_kinds 3 = .ok (.invokevirtual 104, 3) := by decide +kernel
theorem dL_kinds_6 : decode cL_kinds 6 = .ok (.i2l, 1) := by decide +kernel
theorem dL_kinds_7 : decode cL_kinds 7 = .ok (.lastore, 1) := by decide +kernel
theorem dL_kinds_8 : decode cL_kinds 8 = .ok (.goto 6, 3) := by decide +kernel
theorem dL_kinds_11 : decode cL_kinds 11 = .ok (.astore_n 2, 1) := by decide +kernel
theorem dL_kinds_12 : decode cL_kinds 12 = .ok (.iconst 1, 1) := by decide +kernel
theorem dL_kinds_13 : decode cL_kinds 13 = .ok (.ireturn, 1) := by decide +kernel
theorem dL_kinds_14 : decode cL_kinds 14 = .ok (.iconst 0, 1) := by decide +kernel
theorem dL_kinds_15 : decode cL_kinds 15 = .ok (.ireturn, 1) := by decide +kernel
theorem dL_firstAlike_0 : decode cL_firstAlike 0 = .ok (.aload_n 2, 1) := by decide +kernel
theorem dL_firstAlike_1 : decode cL_firstAlike 1 = .ok (.iconst 0, 1) := by decide +kernel
theorem dL_firstAlike_2 : decode cL_firstAlike 2 = .ok (.aload_n 0, 1) := by decide +kernel
theorem dL_firstAlike_3 : decode cL_firstAlike 3 = .ok (.iload_n 1, 1) := by decide +kernel
theorem dL_firstAlike_4 : decode cL_firstAlike 4 = .ok (.invokevirtual 107, 3) := by decide +kernel
theorem dL_firstAlike_7 : decode cL_firstAlike 7 = .ok (.i2l, 1) := by decide +kernel
theorem dL_firstAlike_8 : decode cL_firstAlike 8 = .ok (.lastore, 1) := by decide +kernel
theorem dL_firstAlike_9 : decode cL_firstAlike 9 = .ok (.goto 12, 3) := by decide +kernel
theorem dL_firstAlike_12 : decode cL_firstAlike 12 = .ok (.astore_n 3, 1) := by decide +kernel
theorem dL_firstAlike_13 : decode cL_firstAlike 13 = .ok (.iconst 1, 1) := by decide +kernel
theorem dL_firstAlike_14 : decode cL_firstAlike 14 = .ok (.ireturn, 1) := by decide +kernel
theorem dL_firstAlike_15 : decode cL_firstAlike 15 = .ok (.astore_n 3, 1) := by decide +kernel
theorem dL_firstAlike_16 : decode cL_firstAlike 16 = .ok (.iconst 2, 1) := by decide +kernel
theorem dL_firstAlike_17 : decode cL_firstAlike 17 = .ok (.ireturn, 1) := by decide +kernel
theorem dL_firstAlike_18 : decode cL_firstAlike 18 = .ok (.astore_n 3, 1) := by decide +kernel
theorem dL_firstAlike_19 : decode cL_firstAlike 19 = .ok (.iconst 3, 1) := by decide +kernel
theorem dL_firstAlike_20 : decode cL_firstAlike 20 = .ok (.ireturn, 1) := by decide +kernel
theorem dL_firstAlike_21 : decode cL_firstAlike 21 = .ok (.iconst 0, 1) := by decide +kernel
theorem dL_firstAlike_22 : decode cL_firstAlike 22 = .ok (.ireturn, 1) := by decide +kernel
theorem dL_largeTimes_0 : decode cL_largeTimes 0 = .ok (.aload 4, 2) := by decide +kernel
theorem dL_largeTimes_2 : decode cL_largeTimes 2 = .ok (.iconst 0, 1) := by decide +kernel
theorem dL_largeTimes_3 : decode cL_largeTimes 3 = .ok (.aload_n 0, 1) := by decide +kernel
theorem dL_largeTimes_4 : decode cL_largeTimes 4 = .ok (.iload_n 1, 1) := by decide +kernel
theorem dL_largeTimes_5 : decode cL_largeTimes 5 = .ok (.iload_n 2, 1) := by decide +kernel
theorem dL_largeTimes_6 : decode cL_largeTimes 6 = .ok (.iload_n 3, 1) := by decide +kernel
theorem dL_largeTimes_7 : decode cL_largeTimes 7 = .ok (.invokevirtual 110, 3) := by decide +kernel
theorem dL_largeTimes_10 : decode cL_largeTimes 10 = .ok (.i2l, 1) := by decide +kernel
theorem dL_largeTimes_11 : decode cL_largeTimes 11 = .ok (.lastore, 1) := by decide +kernel
theorem dL_largeTimes_12 : decode cL_largeTimes 12 = .ok (.goto 15, 3) := by decide +kernel
theorem dL_largeTimes_15 : decode cL_largeTimes 15 = .ok (.astore 5, 2) := by decide +kernel
theorem dL_largeTimes_17 : decode cL_largeTimes 17 = .ok (.iconst 1, 1) := by decide +kernel
theorem dL_largeTimes_18 : decode cL_largeTimes 18 = .ok (.ireturn, 1) := by decide +kernel
theorem dL_largeTimes_19 : decode cL_largeTimes 19 = .ok (.astore 5, 2) := by decide +kernel
theorem dL_largeTimes_21 : decode cL_largeTimes 21 = .ok (.iconst 2, 1) := by decide +kernel
theorem dL_largeTimes_22 : decode cL_largeTimes 22 = .ok (.ireturn, 1) := by decide +kernel
theorem dL_largeTimes_23 : decode cL_largeTimes 23 = .ok (.astore 5, 2) := by decide +kernel
theorem dL_largeTimes_25 : decode cL_largeTimes 25 = .ok (.iconst 3, 1) := by decide +kernel
theorem dL_largeTimes_26 : decode cL_largeTimes 26 = .ok (.ireturn, 1) := by decide +kernel
theorem dL_largeTimes_27 : decode cL_largeTimes 27 = .ok (.iconst 0, 1) := by decide +kernel
theorem dL_largeTimes_28 : decode cL_largeTimes 28 = .ok (.ireturn, 1) := by decide +kernel
theorem dL_target_0 : decode cL_target 0 = .ok (.aload_n 3, 1) := by decide +kernel
theorem dL_target_1 : decode cL_target 1 = .ok (.iconst 0, 1) := by decide +kernel
theorem dL_target_2 : decode cL_target 2 = .ok (.aload_n 0, 1) := by decide +kernel
theorem dL_target_3 : decode cL_target 3 = .ok (.iload_n 1, 1) := by decide +kernel
theorem dL_target_4 : decode cL_target 4 = .ok (.iload_n 2, 1) := by decide +kernel
theorem dL_target_5 : decode cL_target 5 = .ok (.invokevirtual 113, 3) := by decide +kernel
theorem dL_target_8 : decode cL_target 8 = .ok (.i2l, 1) := by decide +kernel
theorem dL_target_9 : decode cL_target 9 = .ok (.lastore, 1) := by decide +kernel
theorem dL_target_10 : decode cL_target 10 = .ok (.goto 15, 3) := by decide +kernel
theorem dL_target_13 : decode cL_target 13 = .ok (.astore 4, 2) := by decide +kernel
theorem dL_target_15 : decode cL_target 15 = .ok (.iconst 1, 1) := by decide +kernel
theorem dL_target_16 : decode cL_target 16 = .ok (.ireturn, 1) := by decide +kernel
theorem dL_target_17 : decode cL_target 17 = .ok (.astore 4, 2) := by decide +kernel
theorem dL_target_19 : decode cL_target 19 = .ok (.iconst 2, 1) := by decide +kernel
theorem dL_target_20 : decode cL_target 20 = .ok (.ireturn, 1) := by decide +kernel
theorem dL_target_21 : decode cL_target 21 = .ok (.astore 4, 2) := by decide +kernel
theorem dL_target_23 : decode cL_target 23 = .ok (.iconst 3, 1) := by decide +kernel
theorem dL_target_24 : decode cL_target 24 = .ok (.ireturn, 1) := by decide +kernel
theorem dL_target_25 : decode cL_target 25 = .ok (.iconst 0, 1) := by decide +kernel
theorem dL_target_26 : decode cL_target 26 = .ok (.ireturn, 1) := by decide +kernel
theorem dL_largeOrder_0 : decode cL_largeOrder 0 = .ok (.aload_n 3, 1) := by decide +kernel
theorem dL_largeOrder_1 : decode cL_largeOrder 1 = .ok (.iconst 0, 1) := by decide +kernel
theorem dL_largeOrder_2 : decode cL_largeOrder 2 = .ok (.aload_n 0, 1) := by decide +kernel
theorem dL_largeOrder_3 : decode cL_largeOrder 3 = .ok (.iload_n 1, 1) := by decide +kernel
theorem dL_largeOrder_4 : decode cL_largeOrder 4 = .ok (.iload_n 2, 1) := by decide +kernel
theorem dL_largeOrder_5 : decode cL_largeOrder 5 = .ok (.invokevirtual 116, 3) := by decide +kernel
theorem dL_largeOrder_8 : decode cL_largeOrder 8 = .ok (.i2l, 1) := by decide +kernel
theorem dL_largeOrder_9 : decode cL_largeOrder 9 = .ok (.lastore, 1) := by decide +kernel
theorem dL_largeOrder_10 : decode cL_largeOrder 10 = .ok (.goto 15, 3) := by decide +kernel
theorem dL_largeOrder_13 : decode cL_largeOrder 13 = .ok (.astore 4, 2) := by decide +kernel
theorem dL_largeOrder_15 : decode cL_largeOrder 15 = .ok (.iconst 1, 1) := by decide +kernel
theorem dL_largeOrder_16 : decode cL_largeOrder 16 = .ok (.ireturn, 1) := by decide +kernel
theorem dL_largeOrder_17 : decode cL_largeOrder 17 = .ok (.astore 4, 2) := by decide +kernel
theorem dL_largeOrder_19 : decode cL_largeOrder 19 = .ok (.iconst 2, 1) := by decide +kernel
theorem dL_largeOrder_20 : decode cL_largeOrder 20 = .ok (.ireturn, 1) := by decide +kernel
theorem dL_largeOrder_21 : decode cL_largeOrder 21 = .ok (.astore 4, 2) := by decide +kernel
theorem dL_largeOrder_23 : decode cL_largeOrder 23 = .ok (.iconst 3, 1) := by decide +kernel
theorem dL_largeOrder_24 : decode cL_largeOrder 24 = .ok (.ireturn, 1) := by decide +kernel
theorem dL_largeOrder_25 : decode cL_largeOrder 25 = .ok (.iconst 0, 1) := by decide +kernel
theorem dL_largeOrder_26 : decode cL_largeOrder 26 = .ok (.ireturn, 1) := by decide +kernel
theorem dL_between_0 : decode cL_between 0 = .ok (.aload 4, 2) := by decide +kernel
theorem dL_between_2 : decode cL_between 2 = .ok (.iconst 0, 1) := by decide +kernel
theorem dL_between_3 : decode cL_between 3 = .ok (.aload_n 0, 1) := by decide +kernel
theorem dL_between_4 : decode cL_between 4 = .ok (.iload_n 1, 1) := by decide +kernel
theorem dL_between_5 : decode cL_between 5 = .ok (.iload_n 2, 1) := by decide +kernel
theorem dL_between_6 : decode cL_between 6 = .ok (.iload_n 3, 1) := by decide +kernel
theorem dL_between_7 : decode cL_between 7 = .ok (.invokevirtual 119, 3) := by decide +kernel
theorem dL_between_10 : decode cL_between 10 = .ok (.i2l, 1) := by decide +kernel
theorem dL_between_11 : decode cL_between 11 = .ok (.lastore, 1) := by decide +kernel
theorem dL_between_12 : decode cL_between 12 = .ok (.goto 15, 3) := by decide +kernel
theorem dL_between_15 : decode cL_between 15 = .ok (.astore 5, 2) := by decide +kernel
theorem dL_between_17 : decode cL_between 17 = .ok (.iconst 1, 1) := by decide +kernel
theorem dL_between_18 : decode cL_between 18 = .ok (.ireturn, 1) := by decide +kernel
theorem dL_between_19 : decode cL_between 19 = .ok (.astore 5, 2) := by decide +kernel
theorem dL_between_21 : decode cL_between 21 = .ok (.iconst 2, 1) := by decide +kernel
theorem dL_between_22 : decode cL_between 22 = .ok (.ireturn, 1) := by decide +kernel
theorem dL_between_23 : decode cL_between 23 = .ok (.astore 5, 2) := by decide +kernel
theorem dL_between_25 : decode cL_between 25 = .ok (.iconst 3, 1) := by decide +kernel
theorem dL_between_26 : decode cL_between 26 = .ok (.ireturn, 1) := by decide +kernel
theorem dL_between_27 : decode cL_between 27 = .ok (.iconst 0, 1) := by decide +kernel
theorem dL_between_28 : decode cL_between 28 = .ok (.ireturn, 1) := by decide +kernel
theorem dL_end_0 : decode cL_end 0 = .ok (.aload_n 3, 1) := by decide +kernel
theorem dL_end_1 : decode cL_end 1 = .ok (.iconst 0, 1) := by decide +kernel
theorem dL_end_2 : decode cL_end 2 = .ok (.aload_n 0, 1) := by decide +kernel
theorem dL_end_3 : decode cL_end 3 = .ok (.iload_n 1, 1) := by decide +kernel
theorem dL_end_4 : decode cL_end 4 = .ok (.iload_n 2, 1) := by decide +kernel
theorem dL_end_5 : decode cL_end 5 = .ok (.invokevirtual 122, 3) := by decide +kernel
theorem dL_end_8 : decode cL_end 8 = .ok (.i2l, 1) := by decide +kernel
theorem dL_end_9 : decode cL_end 9 = .ok (.lastore, 1) := by decide +kernel
theorem dL_end_10 : decode cL_end 10 = .ok (.goto 11, 3) := by decide +kernel
theorem dL_end_13 : decode cL_end 13 = .ok (.astore 4, 2) := by decide +kernel
theorem dL_end_15 : decode cL_end 15 = .ok (.iconst 1, 1) := by decide +kernel
theorem dL_end_16 : decode cL_end 16 = .ok (.ireturn, 1) := by decide +kernel
theorem dL_end_17 : decode cL_end 17 = .ok (.astore 4, 2) := by decide +kernel
theorem dL_end_19 : decode cL_end 19 = .ok (.iconst 2, 1) := by decide +kernel
theorem dL_end_20 : decode cL_end 20 = .ok (.ireturn, 1) := by decide +kernel
theorem dL_end_21 : decode cL_end 21 = .ok (.iconst 0, 1) := by decide +kernel
theorem dL_end_22 : decode cL_end 22 = .ok (.ireturn, 1) := by decide +kernel
theorem dL_top_0 : decode cL_top 0 = .ok (.aload_n 3, 1) := by decide +kernel
theorem dL_top_1 : decode cL_top 1 = .ok (.iconst 0, 1) := by decide +kernel
theorem dL_top_2 : decode cL_top 2 = .ok (.aload_n 0, 1) := by decide +kernel
theorem dL_top_3 : decode cL_top 3 = .ok (.iload_n 1, 1) := by decide +kernel
theorem dL_top_4 : decode cL_top 4 = .ok (.iload_n 2, 1) := by decide +kernel
theorem dL_top_5 : decode cL_top 5 = .ok (.invokevirtual 125, 3) := by decide +kernel
theorem dL_top_8 : decode cL_top 8 = .ok (.i2l, 1) := by decide +kernel
theorem dL_top_9 : decode cL_top 9 = .ok (.lastore, 1) := by decide +kernel
theorem dL_top_10 : decode cL_top 10 = .ok (.goto 11, 3) := by decide +kernel
theorem dL_top_13 : decode cL_top 13 = .ok (.astore 4, 2) := by decide +kernel
theorem dL_top_15 : decode cL_top 15 = .ok (.iconst 1, 1) := by decide +kernel
theorem dL_top_16 : decode cL_top 16 = .ok (.ireturn, 1) := by decide +kernel
theorem dL_top_17 : decode cL_top 17 = .ok (.astore 4, 2) := by decide +kernel
theorem dL_top_19 : decode cL_top 19 = .ok (.iconst 2, 1) := by decide +kernel
theorem dL_top_20 : decode cL_top 20 = .ok (.ireturn, 1) := by decide +kernel
theorem dL_top_21 : decode cL_top 21 = .ok (.iconst 0, 1) := by decide +kernel
theorem dL_top_22 : decode cL_top 22 = .ok (.ireturn, 1) := by decide +kernel
theorem dL_bottom_0 : decode cL_bottom 0 = .ok (.aload_n 3, 1) := by decide +kernel
theorem dL_bottom_1 : decode cL_bottom 1 = .ok (.iconst 0, 1) := by decide +kernel
theorem dL_bottom_2 : decode cL_bottom 2 = .ok (.aload_n 0, 1) := by decide +kernel
theorem dL_bottom_3 : decode cL_bottom 3 = .ok (.iload_n 1, 1) := by decide +kernel
theorem dL_bottom_4 : decode cL_bottom 4 = .ok (.iload_n 2, 1) := by decide +kernel
theorem dL_bottom_5 : decode cL_bottom 5 = .ok (.invokevirtual 128, 3) := by decide +kernel
theorem dL_bottom_8 : decode cL_bottom 8 = .ok (.i2l, 1) := by decide +kernel
theorem dL_bottom_9 : decode cL_bottom 9 = .ok (.lastore, 1) := by decide +kernel
theorem dL_bottom_10 : decode cL_bottom 10 = .ok (.goto 11, 3) := by decide +kernel
theorem dL_bottom_13 : decode cL_bottom 13 = .ok (.astore 4, 2) := by decide +kernel
theorem dL_bottom_15 : decode cL_bottom 15 = .ok (.iconst 1, 1) := by decide +kernel
theorem dL_bottom_16 : decode cL_bottom 16 = .ok (.ireturn, 1) := by decide +kernel
theorem dL_bottom_17 : decode cL_bottom 17 = .ok (.astore 4, 2) := by decide +kernel
theorem dL_bottom_19 : decode cL_bottom 19 = .ok (.iconst 2, 1) := by decide +kernel
theorem dL_bottom_20 : decode cL_bottom 20 = .ok (.ireturn, 1) := by decide +kernel
theorem dL_bottom_21 : decode cL_bottom 21 = .ok (.iconst 0, 1) := by decide +kernel
theorem dL_bottom_22 : decode cL_bottom 22 = .ok (.ireturn, 1) := by decide +kernel
theorem dL_arrowWhy_0 : decode cL_arrowWhy 0 = .ok (.aload_n 2, 1) := by decide +kernel
theorem dL_arrowWhy_1 : decode cL_arrowWhy 1 = .ok (.iconst 0, 1) := by decide +kernel
theorem dL_arrowWhy_2 : decode cL_arrowWhy 2 = .ok (.aload_n 0, 1) := by decide +kernel
theorem dL_arrowWhy_3 : decode cL_arrowWhy 3 = .ok (.iload_n 1, 1) := by decide +kernel
theorem dL_arrowWhy_4 : decode cL_arrowWhy 4 = .ok (.invokevirtual 131, 3) := by decide +kernel
theorem dL_arrowWhy_7 : decode cL_arrowWhy 7 = .ok (.i2l, 1) := by decide +kernel
theorem dL_arrowWhy_8 : decode cL_arrowWhy 8 = .ok (.lastore, 1) := by decide +kernel
theorem dL_arrowWhy_9 : decode cL_arrowWhy 9 = .ok (.goto 9, 3) := by decide +kernel
theorem dL_arrowWhy_12 : decode cL_arrowWhy 12 = .ok (.astore_n 3, 1) := by decide +kernel
theorem dL_arrowWhy_13 : decode cL_arrowWhy 13 = .ok (.iconst 1, 1) := by decide +kernel
theorem dL_arrowWhy_14 : decode cL_arrowWhy 14 = .ok (.ireturn, 1) := by decide +kernel
theorem dL_arrowWhy_15 : decode cL_arrowWhy 15 = .ok (.astore_n 3, 1) := by decide +kernel
theorem dL_arrowWhy_16 : decode cL_arrowWhy 16 = .ok (.iconst 2, 1) := by decide +kernel
theorem dL_arrowWhy_17 : decode cL_arrowWhy 17 = .ok (.ireturn, 1) := by decide +kernel
theorem dL_arrowWhy_18 : decode cL_arrowWhy 18 = .ok (.iconst 0, 1) := by decide +kernel
theorem dL_arrowWhy_19 : decode cL_arrowWhy 19 = .ok (.ireturn, 1) := by decide +kernel
theorem dL_isEquivalence_0 : decode cL_isEquivalence 0 = .ok (.aload_n 2, 1) := by decide +kernel
theorem dL_isEquivalence_1 : decode cL_isEquivalence 1 = .ok (.iconst 0, 1) := by decide +kernel
theorem dL_isEquivalence_2 : decode cL_isEquivalence 2 = .ok (.aload_n 0, 1) := by decide +kernel
theorem dL_isEquivalence_3 : decode cL_isEquivalence 3 = .ok (.iload_n 1, 1) := by decide +kernel
theorem dL_isEquivalence_4 : decode cL_isEquivalence 4 = .ok (.invokevirtual 134, 3) := by decide +kernel
theorem dL_isEquivalence_7 : decode cL_isEquivalence 7 = .ok (.ifCond .eq 7, 3) := by decide +kernel
theorem dL_isEquivalence_10 : decode cL_isEquivalence 10 = .ok (.lconst 1, 1) := by decide +kernel
theorem dL_isEquivalence_11 : decode cL_isEquivalence 11 = .ok (.goto 4, 3) := by decide +kernel
theorem dL_isEquivalence_14 : decode cL_isEquivalence 14 = .ok (.lconst 0, 1) := by decide +kernel
theorem dL_isEquivalence_15 : decode cL_isEquivalence 15 = .ok (.lastore, 1) := by decide +kernel
theorem dL_isEquivalence_16 : decode cL_isEquivalence 16 = .ok (.goto 9, 3) := by decide +kernel
theorem dL_isEquivalence_19 : decode cL_isEquivalence 19 = .ok (.astore_n 3, 1) := by decide +kernel
theorem dL_isEquivalence_20 : decode cL_isEquivalence 20 = .ok (.iconst 1, 1) := by decide +kernel
theorem dL_isEquivalence_21 : decode cL_isEquivalence 21 = .ok (.ireturn, 1) := by decide +kernel
theorem dL_isEquivalence_22 : decode cL_isEquivalence 22 = .ok (.astore_n 3, 1) := by decide +kernel
theorem dL_isEquivalence_23 : decode cL_isEquivalence 23 = .ok (.iconst 2, 1) := by decide +kernel
theorem dL_isEquivalence_24 : decode cL_isEquivalence 24 = .ok (.ireturn, 1) := by decide +kernel
theorem dL_isEquivalence_25 : decode cL_isEquivalence 25 = .ok (.iconst 0, 1) := by decide +kernel
theorem dL_isEquivalence_26 : decode cL_isEquivalence 26 = .ok (.ireturn, 1) := by decide +kernel
theorem dL_equivalences_0 : decode cL_equivalences 0 = .ok (.aload_n 1, 1) := by decide +kernel
theorem dL_equivalences_1 : decode cL_equivalences 1 = .ok (.iconst 0, 1) := by decide +kernel
theorem dL_equivalences_2 : decode cL_equivalences 2 = .ok (.aload_n 0, 1) := by decide +kernel
theorem dL_equivalences_3 : decode cL_equivalences 3 = .ok (.invokevirtual 137, 3) := by decide +kernel
theorem dL_equivalences_6 : decode cL_equivalences 6 = .ok (.i2l, 1) := by decide +kernel
theorem dL_equivalences_7 : decode cL_equivalences 7 = .ok (.lastore, 1) := by decide +kernel
theorem dL_equivalences_8 : decode cL_equivalences 8 = .ok (.goto 6, 3) := by decide +kernel
theorem dL_equivalences_11 : decode cL_equivalences 11 = .ok (.astore_n 2, 1) := by decide +kernel
theorem dL_equivalences_12 : decode cL_equivalences 12 = .ok (.iconst 1, 1) := by decide +kernel
theorem dL_equivalences_13 : decode cL_equivalences 13 = .ok (.ireturn, 1) := by decide +kernel
theorem dL_equivalences_14 : decode cL_equivalences 14 = .ok (.iconst 0, 1) := by decide +kernel
theorem dL_equivalences_15 : decode cL_equivalences 15 = .ok (.ireturn, 1) := by decide +kernel
theorem dL_ladder_0 : decode cL_ladder 0 = .ok (.aload_n 3, 1) := by decide +kernel
theorem dL_ladder_1 : decode cL_ladder 1 = .ok (.iconst 0, 1) := by decide +kernel
theorem dL_ladder_2 : decode cL_ladder 2 = .ok (.aload_n 0, 1) := by decide +kernel
theorem dL_ladder_3 : decode cL_ladder 3 = .ok (.iload_n 1, 1) := by decide +kernel
theorem dL_ladder_4 : decode cL_ladder 4 = .ok (.iload_n 2, 1) := by decide +kernel
theorem dL_ladder_5 : decode cL_ladder 5 = .ok (.invokevirtual 140, 3) := by decide +kernel
theorem dL_ladder_8 : decode cL_ladder 8 = .ok (.i2l, 1) := by decide +kernel
theorem dL_ladder_9 : decode cL_ladder 9 = .ok (.lastore, 1) := by decide +kernel
theorem dL_ladder_10 : decode cL_ladder 10 = .ok (.goto 11, 3) := by decide +kernel
theorem dL_ladder_13 : decode cL_ladder 13 = .ok (.astore 4, 2) := by decide +kernel
theorem dL_ladder_15 : decode cL_ladder 15 = .ok (.iconst 1, 1) := by decide +kernel
theorem dL_ladder_16 : decode cL_ladder 16 = .ok (.ireturn, 1) := by decide +kernel
theorem dL_ladder_17 : decode cL_ladder 17 = .ok (.astore 4, 2) := by decide +kernel
theorem dL_ladder_19 : decode cL_ladder 19 = .ok (.iconst 2, 1) := by decide +kernel
theorem dL_ladder_20 : decode cL_ladder 20 = .ok (.ireturn, 1) := by decide +kernel
theorem dL_ladder_21 : decode cL_ladder 21 = .ok (.iconst 0, 1) := by decide +kernel
theorem dL_ladder_22 : decode cL_ladder 22 = .ok (.ireturn, 1) := by decide +kernel
theorem dL_joined_0 : decode cL_joined 0 = .ok (.aload_n 2, 1) := by decide +kernel
theorem dL_joined_1 : decode cL_joined 1 = .ok (.iconst 0, 1) := by decide +kernel
theorem dL_joined_2 : decode cL_joined 2 = .ok (.aload_n 0, 1) := by decide +kernel
theorem dL_joined_3 : decode cL_joined 3 = .ok (.iload_n 1, 1) := by decide +kernel
theorem dL_joined_4 : decode cL_joined 4 = .ok (.invokevirtual 143, 3) := by decide +kernel
theorem dL_joined_7 : decode cL_joined 7 = .ok (.i2l, 1) := by decide +kernel
theorem dL_joined_8 : decode cL_joined 8 = .ok (.lastore, 1) := by decide +kernel
theorem dL_joined_9 : decode cL_joined 9 = .ok (.goto 9, 3) := by decide +kernel
theorem dL_joined_12 : decode cL_joined 12 = .ok (.astore_n 3, 1) := by decide +kernel
theorem dL_joined_13 : decode cL_joined 13 = .ok (.iconst 1, 1) := by decide +kernel
theorem dL_joined_14 : decode cL_joined 14 = .ok (.ireturn, 1) := by decide +kernel
theorem dL_joined_15 : decode cL_joined 15 = .ok (.astore_n 3, 1) := by decide +kernel
theorem dL_joined_16 : decode cL_joined 16 = .ok (.iconst 2, 1) := by decide +kernel
theorem dL_joined_17 : decode cL_joined 17 = .ok (.ireturn, 1) := by decide +kernel
theorem dL_joined_18 : decode cL_joined 18 = .ok (.iconst 0, 1) := by decide +kernel
theorem dL_joined_19 : decode cL_joined 19 = .ok (.ireturn, 1) := by decide +kernel
theorem dL_through_0 : decode cL_through 0 = .ok (.aload 4, 2) := by decide +kernel
theorem dL_through_2 : decode cL_through 2 = .ok (.iconst 0, 1) := by decide +kernel
theorem dL_through_3 : decode cL_through 3 = .ok (.aload_n 0, 1) := by decide +kernel
theorem dL_through_4 : decode cL_through 4 = .ok (.iload_n 1, 1) := by decide +kernel
theorem dL_through_5 : decode cL_through 5 = .ok (.iload_n 2, 1) := by decide +kernel
theorem dL_through_6 : decode cL_through 6 = .ok (.iload_n 3, 1) := by decide +kernel
theorem dL_through_7 : decode cL_through 7 = .ok (.invokevirtual 146, 3) := by decide +kernel
theorem dL_through_10 : decode cL_through 10 = .ok (.i2l, 1) := by decide +kernel
theorem dL_through_11 : decode cL_through 11 = .ok (.lastore, 1) := by decide +kernel
theorem dL_through_12 : decode cL_through 12 = .ok (.goto 15, 3) := by decide +kernel
theorem dL_through_15 : decode cL_through 15 = .ok (.astore 5, 2) := by decide +kernel
theorem dL_through_17 : decode cL_through 17 = .ok (.iconst 1, 1) := by decide +kernel
theorem dL_through_18 : decode cL_through 18 = .ok (.ireturn, 1) := by decide +kernel
theorem dL_through_19 : decode cL_through 19 = .ok (.astore 5, 2) := by decide +kernel
theorem dL_through_21 : decode cL_through 21 = .ok (.iconst 2, 1) := by decide +kernel
theorem dL_through_22 : decode cL_through 22 = .ok (.ireturn, 1) := by decide +kernel
theorem dL_through_23 : decode cL_through 23 = .ok (.astore 5, 2) := by decide +kernel
theorem dL_through_25 : decode cL_through 25 = .ok (.iconst 3, 1) := by decide +kernel
theorem dL_through_26 : decode cL_through 26 = .ok (.ireturn, 1) := by decide +kernel
theorem dL_through_27 : decode cL_through 27 = .ok (.iconst 0, 1) := by decide +kernel
theorem dL_through_28 : decode cL_through 28 = .ok (.ireturn, 1) := by decide +kernel
theorem dL_account_0 : decode cL_account 0 = .ok (.aload_n 2, 1) := by decide +kernel
theorem dL_account_1 : decode cL_account 1 = .ok (.iconst 0, 1) := by decide +kernel
theorem dL_account_2 : decode cL_account 2 = .ok (.aload_n 0, 1) := by decide +kernel
theorem dL_account_3 : decode cL_account 3 = .ok (.iload_n 1, 1) := by decide +kernel
theorem dL_account_4 : decode cL_account 4 = .ok (.invokevirtual 149, 3) := by decide +kernel
theorem dL_account_7 : decode cL_account 7 = .ok (.i2l, 1) := by decide +kernel
theorem dL_account_8 : decode cL_account 8 = .ok (.lastore, 1) := by decide +kernel
theorem dL_account_9 : decode cL_account 9 = .ok (.goto 9, 3) := by decide +kernel
theorem dL_account_12 : decode cL_account 12 = .ok (.astore_n 3, 1) := by decide +kernel
theorem dL_account_13 : decode cL_account 13 = .ok (.iconst 1, 1) := by decide +kernel
theorem dL_account_14 : decode cL_account 14 = .ok (.ireturn, 1) := by decide +kernel
theorem dL_account_15 : decode cL_account 15 = .ok (.astore_n 3, 1) := by decide +kernel
theorem dL_account_16 : decode cL_account 16 = .ok (.iconst 2, 1) := by decide +kernel
theorem dL_account_17 : decode cL_account 17 = .ok (.ireturn, 1) := by decide +kernel
theorem dL_account_18 : decode cL_account 18 = .ok (.iconst 0, 1) := by decide +kernel
theorem dL_account_19 : decode cL_account 19 = .ok (.ireturn, 1) := by decide +kernel
theorem dL_writeModule_0 : decode cL_writeModule 0 = .ok (.aload_n 2, 1) := by decide +kernel
theorem dL_writeModule_1 : decode cL_writeModule 1 = .ok (.iconst 0, 1) := by decide +kernel
theorem dL_writeModule_2 : decode cL_writeModule 2 = .ok (.aload_n 0, 1) := by decide +kernel
theorem dL_writeModule_3 : decode cL_writeModule 3 = .ok (.iload_n 1, 1) := by decide +kernel
theorem dL_writeModule_4 : decode cL_writeModule 4 = .ok (.invokevirtual 152, 3) := by decide +kernel
theorem dL_writeModule_7 : decode cL_writeModule 7 = .ok (.i2l, 1) := by decide +kernel
theorem dL_writeModule_8 : decode cL_writeModule 8 = .ok (.lastore, 1) := by decide +kernel
theorem dL_writeModule_9 : decode cL_writeModule 9 = .ok (.goto 9, 3) := by decide +kernel
theorem dL_writeModule_12 : decode cL_writeModule 12 = .ok (.astore_n 3, 1) := by decide +kernel
theorem dL_writeModule_13 : decode cL_writeModule 13 = .ok (.iconst 1, 1) := by decide +kernel
theorem dL_writeModule_14 : decode cL_writeModule 14 = .ok (.ireturn, 1) := by decide +kernel
theorem dL_writeModule_15 : decode cL_writeModule 15 = .ok (.astore_n 3, 1) := by decide +kernel
theorem dL_writeModule_16 : decode cL_writeModule 16 = .ok (.iconst 2, 1) := by decide +kernel
theorem dL_writeModule_17 : decode cL_writeModule 17 = .ok (.ireturn, 1) := by decide +kernel
theorem dL_writeModule_18 : decode cL_writeModule 18 = .ok (.iconst 0, 1) := by decide +kernel
theorem dL_writeModule_19 : decode cL_writeModule 19 = .ok (.ireturn, 1) := by decide +kernel
theorem dL_writeTable_0 : decode cL_writeTable 0 = .ok (.aload_n 2, 1) := by decide +kernel
theorem dL_writeTable_1 : decode cL_writeTable 1 = .ok (.iconst 0, 1) := by decide +kernel
theorem dL_writeTable_2 : decode cL_writeTable 2 = .ok (.aload_n 0, 1) := by decide +kernel
theorem dL_writeTable_3 : decode cL_writeTable 3 = .ok (.iload_n 1, 1) := by decide +kernel
theorem dL_writeTable_4 : decode cL_writeTable 4 = .ok (.invokevirtual 155, 3) := by decide +kernel
theorem dL_writeTable_7 : decode cL_writeTable 7 = .ok (.i2l, 1) := by decide +kernel
theorem dL_writeTable_8 : decode cL_writeTable 8 = .ok (.lastore, 1) := by decide +kernel
theorem dL_writeTable_9 : decode cL_writeTable 9 = .ok (.goto 9, 3) := by decide +kernel
theorem dL_writeTable_12 : decode cL_writeTable 12 = .ok (.astore_n 3, 1) := by decide +kernel
theorem dL_writeTable_13 : decode cL_writeTable 13 = .ok (.iconst 1, 1) := by decide +kernel
theorem dL_writeTable_14 : decode cL_writeTable 14 = .ok (.ireturn, 1) := by decide +kernel
theorem dL_writeTable_15 : decode cL_writeTable 15 = .ok (.astore_n 3, 1) := by decide +kernel
theorem dL_writeTable_16 : decode cL_writeTable 16 = .ok (.iconst 2, 1) := by decide +kernel
theorem dL_writeTable_17 : decode cL_writeTable 17 = .ok (.ireturn, 1) := by decide +kernel
theorem dL_writeTable_18 : decode cL_writeTable 18 = .ok (.iconst 0, 1) := by decide +kernel
theorem dL_writeTable_19 : decode cL_writeTable 19 = .ok (.ireturn, 1) := by decide +kernel
theorem dL_textByte_0 : decode cL_textByte 0 = .ok (.aload_n 2, 1) := by decide +kernel
theorem dL_textByte_1 : decode cL_textByte 1 = .ok (.iconst 0, 1) := by decide +kernel
theorem dL_textByte_2 : decode cL_textByte 2 = .ok (.aload_n 0, 1) := by decide +kernel
theorem dL_textByte_3 : decode cL_textByte 3 = .ok (.iload_n 1, 1) := by decide +kernel
theorem dL_textByte_4 : decode cL_textByte 4 = .ok (.invokevirtual 158, 3) := by decide +kernel
theorem dL_textByte_7 : decode cL_textByte 7 = .ok (.i2l, 1) := by decide +kernel
theorem dL_textByte_8 : decode cL_textByte 8 = .ok (.lastore, 1) := by decide +kernel
theorem dL_textByte_9 : decode cL_textByte 9 = .ok (.goto 6, 3) := by decide +kernel
theorem dL_textByte_12 : decode cL_textByte 12 = .ok (.astore_n 3, 1) := by decide +kernel
theorem dL_textByte_13 : decode cL_textByte 13 = .ok (.iconst 1, 1) := by decide +kernel
theorem dL_textByte_14 : decode cL_textByte 14 = .ok (.ireturn, 1) := by decide +kernel
theorem dL_textByte_15 : decode cL_textByte 15 = .ok (.iconst 0, 1) := by decide +kernel
theorem dL_textByte_16 : decode cL_textByte 16 = .ok (.ireturn, 1) := by decide +kernel
theorem dL_setBoundary_0 : decode cL_setBoundary 0 = .ok (.aload 4, 2) := by decide +kernel
theorem dL_setBoundary_2 : decode cL_setBoundary 2 = .ok (.iconst 0, 1) := by decide +kernel
theorem dL_setBoundary_3 : decode cL_setBoundary 3 = .ok (.aload_n 0, 1) := by decide +kernel
theorem dL_setBoundary_4 : decode cL_setBoundary 4 = .ok (.iload_n 1, 1) := by decide +kernel
theorem dL_setBoundary_5 : decode cL_setBoundary 5 = .ok (.iload_n 2, 1) := by decide +kernel
theorem dL_setBoundary_6 : decode cL_setBoundary 6 = .ok (.iload_n 3, 1) := by decide +kernel
theorem dL_setBoundary_7 : decode cL_setBoundary 7 = .ok (.invokevirtual 161, 3) := by decide +kernel
theorem dL_setBoundary_10 : decode cL_setBoundary 10 = .ok (.i2l, 1) := by decide +kernel
theorem dL_setBoundary_11 : decode cL_setBoundary 11 = .ok (.lastore, 1) := by decide +kernel
theorem dL_setBoundary_12 : decode cL_setBoundary 12 = .ok (.goto 11, 3) := by decide +kernel
theorem dL_setBoundary_15 : decode cL_setBoundary 15 = .ok (.astore 5, 2) := by decide +kernel
theorem dL_setBoundary_17 : decode cL_setBoundary 17 = .ok (.iconst 1, 1) := by decide +kernel
theorem dL_setBoundary_18 : decode cL_setBoundary 18 = .ok (.ireturn, 1) := by decide +kernel
theorem dL_setBoundary_19 : decode cL_setBoundary 19 = .ok (.astore 5, 2) := by decide +kernel
theorem dL_setBoundary_21 : decode cL_setBoundary 21 = .ok (.iconst 2, 1) := by decide +kernel
theorem dL_setBoundary_22 : decode cL_setBoundary 22 = .ok (.ireturn, 1) := by decide +kernel
theorem dL_setBoundary_23 : decode cL_setBoundary 23 = .ok (.iconst 0, 1) := by decide +kernel
theorem dL_setBoundary_24 : decode cL_setBoundary 24 = .ok (.ireturn, 1) := by decide +kernel
theorem dL_setAct_0 : decode cL_setAct 0 = .ok (.aload 5, 2) := by decide +kernel
theorem dL_setAct_2 : decode cL_setAct 2 = .ok (.iconst 0, 1) := by decide +kernel
theorem dL_setAct_3 : decode cL_setAct 3 = .ok (.aload_n 0, 1) := by decide +kernel
theorem dL_setAct_4 : decode cL_setAct 4 = .ok (.iload_n 1, 1) := by decide +kernel
theorem dL_setAct_5 : decode cL_setAct 5 = .ok (.iload_n 2, 1) := by decide +kernel
theorem dL_setAct_6 : decode cL_setAct 6 = .ok (.iload_n 3, 1) := by decide +kernel
theorem dL_setAct_7 : decode cL_setAct 7 = .ok (.iload 4, 2) := by decide +kernel
theorem dL_setAct_9 : decode cL_setAct 9 = .ok (.invokevirtual 164, 3) := by decide +kernel
theorem dL_setAct_12 : decode cL_setAct 12 = .ok (.i2l, 1) := by decide +kernel
theorem dL_setAct_13 : decode cL_setAct 13 = .ok (.lastore, 1) := by decide +kernel
theorem dL_setAct_14 : decode cL_setAct 14 = .ok (.goto 11, 3) := by decide +kernel
theorem dL_setAct_17 : decode cL_setAct 17 = .ok (.astore 6, 2) := by decide +kernel
theorem dL_setAct_19 : decode cL_setAct 19 = .ok (.iconst 1, 1) := by decide +kernel
theorem dL_setAct_20 : decode cL_setAct 20 = .ok (.ireturn, 1) := by decide +kernel
theorem dL_setAct_21 : decode cL_setAct 21 = .ok (.astore 6, 2) := by decide +kernel
theorem dL_setAct_23 : decode cL_setAct 23 = .ok (.iconst 2, 1) := by decide +kernel
theorem dL_setAct_24 : decode cL_setAct 24 = .ok (.ireturn, 1) := by decide +kernel
theorem dL_setAct_25 : decode cL_setAct 25 = .ok (.iconst 0, 1) := by decide +kernel
theorem dL_setAct_26 : decode cL_setAct 26 = .ok (.ireturn, 1) := by decide +kernel
theorem dL_rest_0 : decode cL_rest 0 = .ok (.aload_n 2, 1) := by decide +kernel
theorem dL_rest_1 : decode cL_rest 1 = .ok (.iconst 0, 1) := by decide +kernel
theorem dL_rest_2 : decode cL_rest 2 = .ok (.aload_n 0, 1) := by decide +kernel
theorem dL_rest_3 : decode cL_rest 3 = .ok (.iload_n 1, 1) := by decide +kernel
theorem dL_rest_4 : decode cL_rest 4 = .ok (.invokevirtual 168, 3) := by decide +kernel
theorem dL_rest_7 : decode cL_rest 7 = .ok (.i2l, 1) := by decide +kernel
theorem dL_rest_8 : decode cL_rest 8 = .ok (.lastore, 1) := by decide +kernel
theorem dL_rest_9 : decode cL_rest 9 = .ok (.goto 9, 3) := by decide +kernel
theorem dL_rest_12 : decode cL_rest 12 = .ok (.astore_n 3, 1) := by decide +kernel
theorem dL_rest_13 : decode cL_rest 13 = .ok (.iconst 1, 1) := by decide +kernel
theorem dL_rest_14 : decode cL_rest 14 = .ok (.ireturn, 1) := by decide +kernel
theorem dL_rest_15 : decode cL_rest 15 = .ok (.astore_n 3, 1) := by decide +kernel
theorem dL_rest_16 : decode cL_rest 16 = .ok (.iconst 2, 1) := by decide +kernel
theorem dL_rest_17 : decode cL_rest 17 = .ok (.ireturn, 1) := by decide +kernel
theorem dL_rest_18 : decode cL_rest 18 = .ok (.iconst 0, 1) := by decide +kernel
theorem dL_rest_19 : decode cL_rest 19 = .ok (.ireturn, 1) := by decide +kernel
theorem dL_conjugate_0 : decode cL_conjugate 0 = .ok (.aload_n 2, 1) := by decide +kernel
theorem dL_conjugate_1 : decode cL_conjugate 1 = .ok (.iconst 0, 1) := by decide +kernel
theorem dL_conjugate_2 : decode cL_conjugate 2 = .ok (.aload_n 0, 1) := by decide +kernel
theorem dL_conjugate_3 : decode cL_conjugate 3 = .ok (.iload_n 1, 1) := by decide +kernel
theorem dL_conjugate_4 : decode cL_conjugate 4 = .ok (.invokevirtual 171, 3) := by decide +kernel
theorem dL_conjugate_7 : decode cL_conjugate 7 = .ok (.i2l, 1) := by decide +kernel
theorem dL_conjugate_8 : decode cL_conjugate 8 = .ok (.lastore, 1) := by decide +kernel
theorem dL_conjugate_9 : decode cL_conjugate 9 = .ok (.goto 12, 3) := by decide +kernel
theorem dL_conjugate_12 : decode cL_conjugate 12 = .ok (.astore_n 3, 1) := by decide +kernel
theorem dL_conjugate_13 : decode cL_conjugate 13 = .ok (.iconst 1, 1) := by decide +kernel
theorem dL_conjugate_14 : decode cL_conjugate 14 = .ok (.ireturn, 1) := by decide +kernel
theorem dL_conjugate_15 : decode cL_conjugate 15 = .ok (.astore_n 3, 1) := by decide +kernel
theorem dL_conjugate_16 : decode cL_conjugate 16 = .ok (.iconst 2, 1) := by decide +kernel
theorem dL_conjugate_17 : decode cL_conjugate 17 = .ok (.ireturn, 1) := by decide +kernel
theorem dL_conjugate_18 : decode cL_conjugate 18 = .ok (.astore_n 3, 1) := by decide +kernel
theorem dL_conjugate_19 : decode cL_conjugate 19 = .ok (.iconst 3, 1) := by decide +kernel
theorem dL_conjugate_20 : decode cL_conjugate 20 = .ok (.ireturn, 1) := by decide +kernel
theorem dL_conjugate_21 : decode cL_conjugate 21 = .ok (.iconst 0, 1) := by decide +kernel
theorem dL_conjugate_22 : decode cL_conjugate 22 = .ok (.ireturn, 1) := by decide +kernel
theorem dL_setTop_0 : decode cL_setTop 0 = .ok (.aload 4, 2) := by decide +kernel
theorem dL_setTop_2 : decode cL_setTop 2 = .ok (.iconst 0, 1) := by decide +kernel
theorem dL_setTop_3 : decode cL_setTop 3 = .ok (.aload_n 0, 1) := by decide +kernel
theorem dL_setTop_4 : decode cL_setTop 4 = .ok (.iload_n 1, 1) := by decide +kernel
theorem dL_setTop_5 : decode cL_setTop 5 = .ok (.iload_n 2, 1) := by decide +kernel
theorem dL_setTop_6 : decode cL_setTop 6 = .ok (.iload_n 3, 1) := by decide +kernel
theorem dL_setTop_7 : decode cL_setTop 7 = .ok (.invokevirtual 174, 3) := by decide +kernel
theorem dL_setTop_10 : decode cL_setTop 10 = .ok (.i2l, 1) := by decide +kernel
theorem dL_setTop_11 : decode cL_setTop 11 = .ok (.lastore, 1) := by decide +kernel
theorem dL_setTop_12 : decode cL_setTop 12 = .ok (.goto 11, 3) := by decide +kernel
theorem dL_setTop_15 : decode cL_setTop 15 = .ok (.astore 5, 2) := by decide +kernel
theorem dL_setTop_17 : decode cL_setTop 17 = .ok (.iconst 1, 1) := by decide +kernel
theorem dL_setTop_18 : decode cL_setTop 18 = .ok (.ireturn, 1) := by decide +kernel
theorem dL_setTop_19 : decode cL_setTop 19 = .ok (.astore 5, 2) := by decide +kernel
theorem dL_setTop_21 : decode cL_setTop 21 = .ok (.iconst 2, 1) := by decide +kernel
theorem dL_setTop_22 : decode cL_setTop 22 = .ok (.ireturn, 1) := by decide +kernel
theorem dL_setTop_23 : decode cL_setTop 23 = .ok (.iconst 0, 1) := by decide +kernel
theorem dL_setTop_24 : decode cL_setTop 24 = .ok (.ireturn, 1) := by decide +kernel
theorem dL_setBottom_0 : decode cL_setBottom 0 = .ok (.aload 4, 2) := by decide +kernel
theorem dL_setBottom_2 : decode cL_setBottom 2 = .ok (.iconst 0, 1) := by decide +kernel
theorem dL_setBottom_3 : decode cL_setBottom 3 = .ok (.aload_n 0, 1) := by decide +kernel
theorem dL_setBottom_4 : decode cL_setBottom 4 = .ok (.iload_n 1, 1) := by decide +kernel
theorem dL_setBottom_5 : decode cL_setBottom 5 = .ok (.iload_n 2, 1) := by decide +kernel
theorem dL_setBottom_6 : decode cL_setBottom 6 = .ok (.iload_n 3, 1) := by decide +kernel
theorem dL_setBottom_7 : decode cL_setBottom 7 = .ok (.invokevirtual 177, 3) := by decide +kernel
theorem dL_setBottom_10 : decode cL_setBottom 10 = .ok (.i2l, 1) := by decide +kernel
theorem dL_setBottom_11 : decode cL_setBottom 11 = .ok (.lastore, 1) := by decide +kernel
theorem dL_setBottom_12 : decode cL_setBottom 12 = .ok (.goto 11, 3) := by decide +kernel
theorem dL_setBottom_15 : decode cL_setBottom 15 = .ok (.astore 5, 2) := by decide +kernel
theorem dL_setBottom_17 : decode cL_setBottom 17 = .ok (.iconst 1, 1) := by decide +kernel
theorem dL_setBottom_18 : decode cL_setBottom 18 = .ok (.ireturn, 1) := by decide +kernel
theorem dL_setBottom_19 : decode cL_setBottom 19 = .ok (.astore 5, 2) := by decide +kernel
theorem dL_setBottom_21 : decode cL_setBottom 21 = .ok (.iconst 2, 1) := by decide +kernel
theorem dL_setBottom_22 : decode cL_setBottom 22 = .ok (.ireturn, 1) := by decide +kernel
theorem dL_setBottom_23 : decode cL_setBottom 23 = .ok (.iconst 0, 1) := by decide +kernel
theorem dL_setBottom_24 : decode cL_setBottom 24 = .ok (.ireturn, 1) := by decide +kernel
theorem dL_undo_0 : decode cL_undo 0 = .ok (.aload_n 1, 1) := by decide +kernel
theorem dL_undo_1 : decode cL_undo 1 = .ok (.iconst 0, 1) := by decide +kernel
theorem dL_undo_2 : decode cL_undo 2 = .ok (.aload_n 0, 1) := by decide +kernel
theorem dL_undo_3 : decode cL_undo 3 = .ok (.invokevirtual 180, 3) := by decide +kernel
theorem dL_undo_6 : decode cL_undo 6 = .ok (.i2l, 1) := by decide +kernel
theorem dL_undo_7 : decode cL_undo 7 = .ok (.lastore, 1) := by decide +kernel
theorem dL_undo_8 : decode cL_undo 8 = .ok (.goto 6, 3) := by decide +kernel
theorem dL_undo_11 : decode cL_undo 11 = .ok (.astore_n 2, 1) := by decide +kernel
theorem dL_undo_12 : decode cL_undo 12 = .ok (.iconst 1, 1) := by decide +kernel
theorem dL_undo_13 : decode cL_undo 13 = .ok (.ireturn, 1) := by decide +kernel
theorem dL_undo_14 : decode cL_undo 14 = .ok (.iconst 0, 1) := by decide +kernel
theorem dL_undo_15 : decode cL_undo 15 = .ok (.ireturn, 1) := by decide +kernel
theorem dL_save_0 : decode cL_save 0 = .ok (.aload_n 2, 1) := by decide +kernel
theorem dL_save_1 : decode cL_save 1 = .ok (.iconst 0, 1) := by decide +kernel
theorem dL_save_2 : decode cL_save 2 = .ok (.aload_n 0, 1) := by decide +kernel
theorem dL_save_3 : decode cL_save 3 = .ok (.iload_n 1, 1) := by decide +kernel
theorem dL_save_4 : decode cL_save 4 = .ok (.invokevirtual 183, 3) := by decide +kernel
theorem dL_save_7 : decode cL_save 7 = .ok (.i2l, 1) := by decide +kernel
theorem dL_save_8 : decode cL_save 8 = .ok (.lastore, 1) := by decide +kernel
theorem dL_save_9 : decode cL_save 9 = .ok (.goto 9, 3) := by decide +kernel
theorem dL_save_12 : decode cL_save 12 = .ok (.astore_n 3, 1) := by decide +kernel
theorem dL_save_13 : decode cL_save 13 = .ok (.iconst 1, 1) := by decide +kernel
theorem dL_save_14 : decode cL_save 14 = .ok (.ireturn, 1) := by decide +kernel
theorem dL_save_15 : decode cL_save 15 = .ok (.astore_n 3, 1) := by decide +kernel
theorem dL_save_16 : decode cL_save 16 = .ok (.iconst 2, 1) := by decide +kernel
theorem dL_save_17 : decode cL_save 17 = .ok (.ireturn, 1) := by decide +kernel
theorem dL_save_18 : decode cL_save 18 = .ok (.iconst 0, 1) := by decide +kernel
theorem dL_save_19 : decode cL_save 19 = .ok (.ireturn, 1) := by decide +kernel
theorem dL_restore_0 : decode cL_restore 0 = .ok (.aload_n 2, 1) := by decide +kernel
theorem dL_restore_1 : decode cL_restore 1 = .ok (.iconst 0, 1) := by decide +kernel
theorem dL_restore_2 : decode cL_restore 2 = .ok (.aload_n 0, 1) := by decide +kernel
theorem dL_restore_3 : decode cL_restore 3 = .ok (.iload_n 1, 1) := by decide +kernel
theorem dL_restore_4 : decode cL_restore 4 = .ok (.invokevirtual 186, 3) := by decide +kernel
theorem dL_restore_7 : decode cL_restore 7 = .ok (.i2l, 1) := by decide +kernel
theorem dL_restore_8 : decode cL_restore 8 = .ok (.lastore, 1) := by decide +kernel
theorem dL_restore_9 : decode cL_restore 9 = .ok (.goto 9, 3) := by decide +kernel
theorem dL_restore_12 : decode cL_restore 12 = .ok (.astore_n 3, 1) := by decide +kernel
theorem dL_restore_13 : decode cL_restore 13 = .ok (.iconst 1, 1) := by decide +kernel
theorem dL_restore_14 : decode cL_restore 14 = .ok (.ireturn, 1) := by decide +kernel
theorem dL_restore_15 : decode cL_restore 15 = .ok (.astore_n 3, 1) := by decide +kernel
theorem dL_restore_16 : decode cL_restore 16 = .ok (.iconst 2, 1) := by decide +kernel
theorem dL_restore_17 : decode cL_restore 17 = .ok (.ireturn, 1) := by decide +kernel
theorem dL_restore_18 : decode cL_restore 18 = .ok (.iconst 0, 1) := by decide +kernel
theorem dL_restore_19 : decode cL_restore 19 = .ok (.ireturn, 1) := by decide +kernel
