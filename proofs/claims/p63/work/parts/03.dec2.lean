theorem dX8_init_0 : decode cX8_init 0 = .ok (.aload_n 0, 1) := by decide +kernel
theorem dX8_init_1 : decode cX8_init 1 = .ok (.invokespecial 3, 3) := by decide +kernel
theorem dX8_init_4 : decode cX8_init 4 = .ok (.aload_n 0, 1) := by decide +kernel
theorem dX8_init_5 : decode cX8_init 5 = .ok (.sipush 900, 3) := by decide +kernel
theorem dX8_init_8 : decode cX8_init 8 = .ok (.newarray .byte, 2) := by decide +kernel
theorem dX8_init_10 : decode cX8_init 10 = .ok (.putfield 9, 3) := by decide +kernel
theorem dX8_init_13 : decode cX8_init 13 = .ok (.aload_n 0, 1) := by decide +kernel
theorem dX8_init_14 : decode cX8_init 14 = .ok (.iconst (-1), 1) := by decide +kernel
theorem dX8_init_15 : decode cX8_init 15 = .ok (.putfield 13, 3) := by decide +kernel
theorem dX8_init_18 : decode cX8_init 18 = .ok (.aload_n 0, 1) := by decide +kernel
theorem dX8_init_19 : decode cX8_init 19 = .ok (.new 17, 3) := by decide +kernel
theorem dX8_init_22 : decode cX8_init 22 = .ok (.dup, 1) := by decide +kernel
theorem dX8_init_23 : decode cX8_init 23 = .ok (.invokespecial 19, 3) := by decide +kernel
theorem dX8_init_26 : decode cX8_init 26 = .ok (.putfield 20, 3) := by decide +kernel
theorem dX8_init_29 : decode cX8_init 29 = .ok (.aload_n 0, 1) := by decide +kernel
theorem dX8_init_30 : decode cX8_init 30 = .ok (.new 17, 3) := by decide +kernel
theorem dX8_init_33 : decode cX8_init 33 = .ok (.dup, 1) := by decide +kernel
theorem dX8_init_34 : decode cX8_init 34 = .ok (.invokespecial 19, 3) := by decide +kernel
theorem dX8_init_37 : decode cX8_init 37 = .ok (.putfield 24, 3) := by decide +kernel
theorem dX8_init_40 : decode cX8_init 40 = .ok (.aload_n 0, 1) := by decide +kernel
theorem dX8_init_41 : decode cX8_init 41 = .ok (.bipush 8, 2) := by decide +kernel
theorem dX8_init_43 : decode cX8_init 43 = .ok (.sipush 569, 3) := by decide +kernel
theorem dX8_init_46 : decode cX8_init 46 = .ok (.multianewarray 27 2, 4) := by decide +kernel
theorem dX8_init_50 : decode cX8_init 50 = .ok (.putfield 29, 3) := by decide +kernel
theorem dX8_init_53 : decode cX8_init 53 = .ok (.aload_n 0, 1) := by decide +kernel
theorem dX8_init_54 : decode cX8_init 54 = .ok (.iconst 2, 1) := by decide +kernel
theorem dX8_init_55 : decode cX8_init 55 = .ok (.sipush 569, 3) := by decide +kernel
theorem dX8_init_58 : decode cX8_init 58 = .ok (.multianewarray 27 2, 4) := by decide +kernel
theorem dX8_init_62 : decode cX8_init 62 = .ok (.putfield 32, 3) := by decide +kernel
theorem dX8_init_65 : decode cX8_init 65 = .ok (.aload_n 0, 1) := by decide +kernel
theorem dX8_init_66 : decode cX8_init 66 = .ok (.bipush 71, 2) := by decide +kernel
theorem dX8_init_68 : decode cX8_init 68 = .ok (.newarray .byte, 2) := by decide +kernel
theorem dX8_init_70 : decode cX8_init 70 = .ok (.putfield 35, 3) := by decide +kernel
theorem dX8_init_73 : decode cX8_init 73 = .ok (.return_, 1) := by decide +kernel
theorem dX8_append_0 : decode cX8_append 0 = .ok (.aload_n 0, 1) := by decide +kernel
theorem dX8_append_1 : decode cX8_append 1 = .ok (.getfield 38, 3) := by decide +kernel
theorem dX8_append_4 : decode cX8_append 4 = .ok (.bipush 20, 2) := by decide +kernel
theorem dX8_append_6 : decode cX8_append 6 = .ok (.iadd, 1) := by decide +kernel
theorem dX8_append_7 : decode cX8_append 7 = .ok (.sipush 900, 3) := by decide +kernel
theorem dX8_append_10 : decode cX8_append 10 = .ok (.if_icmp .le 5, 3) := by decide +kernel
theorem dX8_append_13 : decode cX8_append 13 = .ok (.iconst (-1), 1) := by decide +kernel
theorem dX8_append_14 : decode cX8_append 14 = .ok (.ireturn, 1) := by decide +kernel
theorem dX8_append_15 : decode cX8_append 15 = .ok (.aload_n 0, 1) := by decide +kernel
theorem dX8_append_16 : decode cX8_append 16 = .ok (.iload_n 1, 1) := by decide +kernel
theorem dX8_append_17 : decode cX8_append 17 = .ok (.invokevirtual 41, 3) := by decide +kernel
theorem dX8_append_20 : decode cX8_append 20 = .ok (.aload_n 0, 1) := by decide +kernel
theorem dX8_append_21 : decode cX8_append 21 = .ok (.iload_n 2, 1) := by decide +kernel
theorem dX8_append_22 : decode cX8_append 22 = .ok (.invokevirtual 41, 3) := by decide +kernel
theorem dX8_append_25 : decode cX8_append 25 = .ok (.aload_n 0, 1) := by decide +kernel
theorem dX8_append_26 : decode cX8_append 26 = .ok (.iload_n 3, 1) := by decide +kernel
theorem dX8_append_27 : decode cX8_append 27 = .ok (.invokevirtual 41, 3) := by decide +kernel
theorem dX8_append_30 : decode cX8_append 30 = .ok (.aload_n 0, 1) := by decide +kernel
theorem dX8_append_31 : decode cX8_append 31 = .ok (.iload 4, 2) := by decide +kernel
theorem dX8_append_33 : decode cX8_append 33 = .ok (.invokevirtual 41, 3) := by decide +kernel
theorem dX8_append_36 : decode cX8_append 36 = .ok (.aload_n 0, 1) := by decide +kernel
theorem dX8_append_37 : decode cX8_append 37 = .ok (.iload 5, 2) := by decide +kernel
theorem dX8_append_39 : decode cX8_append 39 = .ok (.invokevirtual 41, 3) := by decide +kernel
theorem dX8_append_42 : decode cX8_append 42 = .ok (.aload_n 0, 1) := by decide +kernel
theorem dX8_append_43 : decode cX8_append 43 = .ok (.getfield 38, 3) := by decide +kernel
theorem dX8_append_46 : decode cX8_append 46 = .ok (.ireturn, 1) := by decide +kernel
theorem dX8_load_0 : decode cX8_load 0 = .ok (.iload_n 1, 1) := by decide +kernel
theorem dX8_load_1 : decode cX8_load 1 = .ok (.ifCond .lt 15, 3) := by decide +kernel
theorem dX8_load_4 : decode cX8_load 4 = .ok (.iload_n 1, 1) := by decide +kernel
theorem dX8_load_5 : decode cX8_load 5 = .ok (.aload_n 0, 1) := by decide +kernel
theorem dX8_load_6 : decode cX8_load 6 = .ok (.getfield 38, 3) := by decide +kernel
theorem dX8_load_9 : decode cX8_load 9 = .ok (.if_icmp .gt 7, 3) := by decide +kernel
theorem dX8_load_12 : decode cX8_load 12 = .ok (.iconst 1, 1) := by decide +kernel
theorem dX8_load_13 : decode cX8_load 13 = .ok (.goto 4, 3) := by decide +kernel
theorem dX8_load_16 : decode cX8_load 16 = .ok (.iconst 0, 1) := by decide +kernel
theorem dX8_load_17 : decode cX8_load 17 = .ok (.invokestatic 45, 3) := by decide +kernel
theorem dX8_load_20 : decode cX8_load 20 = .ok (.aload_n 0, 1) := by decide +kernel
theorem dX8_load_21 : decode cX8_load 21 = .ok (.getfield 24, 3) := by decide +kernel
theorem dX8_load_24 : decode cX8_load 24 = .ok (.invokevirtual 49, 3) := by decide +kernel
theorem dX8_load_27 : decode cX8_load 27 = .ok (.new 52, 3) := by decide +kernel
theorem dX8_load_30 : decode cX8_load 30 = .ok (.dup, 1) := by decide +kernel
theorem dX8_load_31 : decode cX8_load 31 = .ok (.new 54, 3) := by decide +kernel
theorem dX8_load_34 : decode cX8_load 34 = .ok (.dup, 1) := by decide +kernel
theorem dX8_load_35 : decode cX8_load 35 = .ok (.aload_n 0, 1) := by decide +kernel
theorem dX8_load_36 : decode cX8_load 36 = .ok (.getfield 9, 3) := by decide +kernel
theorem dX8_load_39 : decode cX8_load 39 = .ok (.iload_n 1, 1) := by decide +kernel
theorem dX8_load_40 : decode cX8_load 40 = .ok (.invokespecial 56, 3) := by decide +kernel
theorem dX8_load_43 : decode cX8_load 43 = .ok (.aload_n 0, 1) := by decide +kernel
theorem dX8_load_44 : decode cX8_load 44 = .ok (.getfield 24, 3) := by decide +kernel
theorem dX8_load_47 : decode cX8_load 47 = .ok (.invokespecial 59, 3) := by decide +kernel
theorem dX8_load_50 : decode cX8_load 50 = .ok (.astore_n 2, 1) := by decide +kernel
theorem dX8_load_51 : decode cX8_load 51 = .ok (.aload_n 2, 1) := by decide +kernel
theorem dX8_load_52 : decode cX8_load 52 = .ok (.invokevirtual 62, 3) := by decide +kernel
theorem dX8_load_55 : decode cX8_load 55 = .ok (.istore_n 3, 1) := by decide +kernel
theorem dX8_load_56 : decode cX8_load 56 = .ok (.aload_n 0, 1) := by decide +kernel
theorem dX8_load_57 : decode cX8_load 57 = .ok (.iconst 0, 1) := by decide +kernel
theorem dX8_load_58 : decode cX8_load 58 = .ok (.putfield 38, 3) := by decide +kernel
theorem dX8_load_61 : decode cX8_load 61 = .ok (.aload_n 0, 1) := by decide +kernel
theorem dX8_load_62 : decode cX8_load 62 = .ok (.aload_n 2, 1) := by decide +kernel
theorem dX8_load_63 : decode cX8_load 63 = .ok (.getfield 66, 3) := by decide +kernel
theorem dX8_load_66 : decode cX8_load 66 = .ok (.putfield 69, 3) := by decide +kernel
theorem dX8_load_69 : decode cX8_load 69 = .ok (.aload_n 0, 1) := by decide +kernel
theorem dX8_load_70 : decode cX8_load 70 = .ok (.aload_n 2, 1) := by decide +kernel
theorem dX8_load_71 : decode cX8_load 71 = .ok (.getfield 72, 3) := by decide +kernel
theorem dX8_load_74 : decode cX8_load 74 = .ok (.putfield 13, 3) := by decide +kernel
theorem dX8_load_77 : decode cX8_load 77 = .ok (.iload_n 3, 1) := by decide +kernel
theorem dX8_load_78 : decode cX8_load 78 = .ok (.invokestatic 75, 3) := by decide +kernel
theorem dX8_load_81 : decode cX8_load 81 = .ok (.aload_n 0, 1) := by decide +kernel
theorem dX8_load_82 : decode cX8_load 82 = .ok (.getfield 20, 3) := by decide +kernel
theorem dX8_load_85 : decode cX8_load 85 = .ok (.astore 4, 2) := by decide +kernel
theorem dX8_load_87 : decode cX8_load 87 = .ok (.aload_n 0, 1) := by decide +kernel
theorem dX8_load_88 : decode cX8_load 88 = .ok (.aload_n 0, 1) := by decide +kernel
theorem dX8_load_89 : decode cX8_load 89 = .ok (.getfield 24, 3) := by decide +kernel
theorem dX8_load_92 : decode cX8_load 92 = .ok (.putfield 20, 3) := by decide +kernel
theorem dX8_load_95 : decode cX8_load 95 = .ok (.aload_n 0, 1) := by decide +kernel
theorem dX8_load_96 : decode cX8_load 96 = .ok (.aload 4, 2) := by decide +kernel
theorem dX8_load_98 : decode cX8_load 98 = .ok (.putfield 24, 3) := by decide +kernel
theorem dX8_load_101 : decode cX8_load 101 = .ok (.aload_n 0, 1) := by decide +kernel
theorem dX8_load_102 : decode cX8_load 102 = .ok (.getfield 20, 3) := by decide +kernel
theorem dX8_load_105 : decode cX8_load 105 = .ok (.invokevirtual 78, 3) := by decide +kernel
theorem dX8_load_108 : decode cX8_load 108 = .ok (.aload_n 0, 1) := by decide +kernel
theorem dX8_load_109 : decode cX8_load 109 = .ok (.iconst 1, 1) := by decide +kernel
theorem dX8_load_110 : decode cX8_load 110 = .ok (.putfield 81, 3) := by decide +kernel
theorem dX8_load_113 : decode cX8_load 113 = .ok (.aload_n 0, 1) := by decide +kernel
theorem dX8_load_114 : decode cX8_load 114 = .ok (.invokevirtual 85, 3) := by decide +kernel
theorem dX8_load_117 : decode cX8_load 117 = .ok (.aload_n 0, 1) := by decide +kernel
theorem dX8_load_118 : decode cX8_load 118 = .ok (.iconst 0, 1) := by decide +kernel
theorem dX8_load_119 : decode cX8_load 119 = .ok (.putfield 88, 3) := by decide +kernel
theorem dX8_load_122 : decode cX8_load 122 = .ok (.aload_n 0, 1) := by decide +kernel
theorem dX8_load_123 : decode cX8_load 123 = .ok (.getfield 20, 3) := by decide +kernel
theorem dX8_load_126 : decode cX8_load 126 = .ok (.getfield 91, 3) := by decide +kernel
theorem dX8_load_129 : decode cX8_load 129 = .ok (.getfield 95, 3) := by decide +kernel
theorem dX8_load_132 : decode cX8_load 132 = .ok (.ireturn, 1) := by decide +kernel
theorem dX8_parseError_0 : decode cX8_parseError 0 = .ok (.aload_n 0, 1) := by decide +kernel
theorem dX8_parseError_1 : decode cX8_parseError 1 = .ok (.getfield 69, 3) := by decide +kernel
theorem dX8_parseError_4 : decode cX8_parseError 4 = .ok (.ireturn, 1) := by decide +kernel
theorem dX8_errorPosition_0 : decode cX8_errorPosition 0 = .ok (.aload_n 0, 1) := by decide +kernel
theorem dX8_errorPosition_1 : decode cX8_errorPosition 1 = .ok (.getfield 13, 3) := by decide +kernel
theorem dX8_errorPosition_4 : decode cX8_errorPosition 4 = .ok (.ireturn, 1) := by decide +kernel
theorem dX8_count_0 : decode cX8_count 0 = .ok (.aload_n 0, 1) := by decide +kernel
theorem dX8_count_1 : decode cX8_count 1 = .ok (.invokevirtual 100, 3) := by decide +kernel
theorem dX8_count_4 : decode cX8_count 4 = .ok (.iload_n 1, 1) := by decide +kernel
theorem dX8_count_5 : decode cX8_count 5 = .ok (.ifCond .lt 12, 3) := by decide +kernel
theorem dX8_count_8 : decode cX8_count 8 = .ok (.iload_n 1, 1) := by decide +kernel
theorem dX8_count_9 : decode cX8_count 9 = .ok (.iconst 3, 1) := by decide +kernel
theorem dX8_count_10 : decode cX8_count 10 = .ok (.if_icmp .ge 7, 3) := by decide +kernel
theorem dX8_count_13 : decode cX8_count 13 = .ok (.iconst 1, 1) := by decide +kernel
theorem dX8_count_14 : decode cX8_count 14 = .ok (.goto 4, 3) := by decide +kernel
theorem dX8_count_17 : decode cX8_count 17 = .ok (.iconst 0, 1) := by decide +kernel
theorem dX8_count_18 : decode cX8_count 18 = .ok (.invokestatic 75, 3) := by decide +kernel
theorem dX8_count_21 : decode cX8_count 21 = .ok (.aload_n 0, 1) := by decide +kernel
theorem dX8_count_22 : decode cX8_count 22 = .ok (.getfield 20, 3) := by decide +kernel
theorem dX8_count_25 : decode cX8_count 25 = .ok (.iload_n 1, 1) := by decide +kernel
theorem dX8_count_26 : decode cX8_count 26 = .ok (.invokevirtual 103, 3) := by decide +kernel
theorem dX8_count_29 : decode cX8_count 29 = .ok (.getfield 95, 3) := by decide +kernel
theorem dX8_count_32 : decode cX8_count 32 = .ok (.ireturn, 1) := by decide +kernel
theorem dX8_letter_0 : decode cX8_letter 0 = .ok (.aload_n 0, 1) := by decide +kernel
theorem dX8_letter_1 : decode cX8_letter 1 = .ok (.invokevirtual 100, 3) := by decide +kernel
theorem dX8_letter_4 : decode cX8_letter 4 = .ok (.iload_n 1, 1) := by decide +kernel
theorem dX8_letter_5 : decode cX8_letter 5 = .ok (.ifCond .lt 12, 3) := by decide +kernel
theorem dX8_letter_8 : decode cX8_letter 8 = .ok (.iload_n 1, 1) := by decide +kernel
theorem dX8_letter_9 : decode cX8_letter 9 = .ok (.iconst 3, 1) := by decide +kernel
theorem dX8_letter_10 : decode cX8_letter 10 = .ok (.if_icmp .ge 7, 3) := by decide +kernel
theorem dX8_letter_13 : decode cX8_letter 13 = .ok (.iconst 1, 1) := by decide +kernel
theorem dX8_letter_14 : decode cX8_letter 14 = .ok (.goto 4, 3) := by decide +kernel
theorem dX8_letter_17 : decode cX8_letter 17 = .ok (.iconst 0, 1) := by decide +kernel
theorem dX8_letter_18 : decode cX8_letter 18 = .ok (.invokestatic 75, 3) := by decide +kernel
theorem dX8_letter_21 : decode cX8_letter 21 = .ok (.aload_n 0, 1) := by decide +kernel
theorem dX8_letter_22 : decode cX8_letter 22 = .ok (.getfield 20, 3) := by decide +kernel
theorem dX8_letter_25 : decode cX8_letter 25 = .ok (.iload_n 1, 1) := by decide +kernel
theorem dX8_letter_26 : decode cX8_letter 26 = .ok (.invokevirtual 103, 3) := by decide +kernel
theorem dX8_letter_29 : decode cX8_letter 29 = .ok (.astore 4, 2) := by decide +kernel
theorem dX8_letter_31 : decode cX8_letter 31 = .ok (.aload 4, 2) := by decide +kernel
theorem dX8_letter_33 : decode cX8_letter 33 = .ok (.iload_n 2, 1) := by decide +kernel
theorem dX8_letter_34 : decode cX8_letter 34 = .ok (.invokevirtual 107, 3) := by decide +kernel
theorem dX8_letter_37 : decode cX8_letter 37 = .ok (.ifCond .eq 21, 3) := by decide +kernel
theorem dX8_letter_40 : decode cX8_letter 40 = .ok (.iload_n 3, 1) := by decide +kernel
theorem dX8_letter_41 : decode cX8_letter 41 = .ok (.ifCond .lt 17, 3) := by decide +kernel
theorem dX8_letter_44 : decode cX8_letter 44 = .ok (.iload_n 3, 1) := by decide +kernel
theorem dX8_letter_45 : decode cX8_letter 45 = .ok (.aload 4, 2) := by decide +kernel
theorem dX8_letter_47 : decode cX8_letter 47 = .ok (.iload_n 2, 1) := by decide +kernel
theorem dX8_letter_48 : decode cX8_letter 48 = .ok (.invokevirtual 111, 3) := by decide +kernel
theorem dX8_letter_51 : decode cX8_letter 51 = .ok (.if_icmp .ge 7, 3) := by decide +kernel
theorem dX8_letter_54 : decode cX8_letter 54 = .ok (.iconst 1, 1) := by decide +kernel
theorem dX8_letter_55 : decode cX8_letter 55 = .ok (.goto 4, 3) := by decide +kernel
theorem dX8_letter_58 : decode cX8_letter 58 = .ok (.iconst 0, 1) := by decide +kernel
theorem dX8_letter_59 : decode cX8_letter 59 = .ok (.invokestatic 45, 3) := by decide +kernel
theorem dX8_letter_62 : decode cX8_letter 62 = .ok (.aload 4, 2) := by decide +kernel
theorem dX8_letter_64 : decode cX8_letter 64 = .ok (.iload_n 2, 1) := by decide +kernel
theorem dX8_letter_65 : decode cX8_letter 65 = .ok (.iload_n 3, 1) := by decide +kernel
theorem dX8_letter_66 : decode cX8_letter 66 = .ok (.invokevirtual 115, 3) := by decide +kernel
theorem dX8_letter_69 : decode cX8_letter 69 = .ok (.ireturn, 1) := by decide +kernel
theorem dX8_size_0 : decode cX8_size 0 = .ok (.aload_n 0, 1) := by decide +kernel
theorem dX8_size_1 : decode cX8_size 1 = .ok (.iload_n 1, 1) := by decide +kernel
theorem dX8_size_2 : decode cX8_size 2 = .ok (.invokevirtual 119, 3) := by decide +kernel
theorem dX8_size_5 : decode cX8_size 5 = .ok (.getfield 123, 3) := by decide +kernel
theorem dX8_size_8 : decode cX8_size 8 = .ok (.ireturn, 1) := by decide +kernel
theorem dX8_times_0 : decode cX8_times 0 = .ok (.aload_n 0, 1) := by decide +kernel
theorem dX8_times_1 : decode cX8_times 1 = .ok (.iload_n 1, 1) := by decide +kernel
theorem dX8_times_2 : decode cX8_times 2 = .ok (.invokevirtual 119, 3) := by decide +kernel
theorem dX8_times_5 : decode cX8_times 5 = .ok (.astore 4, 2) := by decide +kernel
theorem dX8_times_7 : decode cX8_times 7 = .ok (.aload 4, 2) := by decide +kernel
theorem dX8_times_9 : decode cX8_times 9 = .ok (.iload_n 2, 1) := by decide +kernel
theorem dX8_times_10 : decode cX8_times 10 = .ok (.invokevirtual 128, 3) := by decide +kernel
theorem dX8_times_13 : decode cX8_times 13 = .ok (.ifCond .eq 16, 3) := by decide +kernel
theorem dX8_times_16 : decode cX8_times 16 = .ok (.aload 4, 2) := by decide +kernel
theorem dX8_times_18 : decode cX8_times 18 = .ok (.iload_n 3, 1) := by decide +kernel
theorem dX8_times_19 : decode cX8_times 19 = .ok (.invokevirtual 128, 3) := by decide +kernel
theorem dX8_times_22 : decode cX8_times 22 = .ok (.ifCond .eq 7, 3) := by decide +kernel
theorem dX8_times_25 : decode cX8_times 25 = .ok (.iconst 1, 1) := by decide +kernel
theorem dX8_times_26 : decode cX8_times 26 = .ok (.goto 4, 3) := by decide +kernel
theorem dX8_times_29 : decode cX8_times 29 = .ok (.iconst 0, 1) := by decide +kernel
theorem dX8_times_30 : decode cX8_times 30 = .ok (.invokestatic 45, 3) := by decide +kernel
theorem dX8_times_33 : decode cX8_times 33 = .ok (.aload 4, 2) := by decide +kernel
theorem dX8_times_35 : decode cX8_times 35 = .ok (.iload_n 2, 1) := by decide +kernel
theorem dX8_times_36 : decode cX8_times 36 = .ok (.iload_n 3, 1) := by decide +kernel
theorem dX8_times_37 : decode cX8_times 37 = .ok (.invokevirtual 129, 3) := by decide +kernel
theorem dX8_times_40 : decode cX8_times 40 = .ok (.ireturn, 1) := by decide +kernel
theorem dX8_inverse_0 : decode cX8_inverse 0 = .ok (.aload_n 0, 1) := by decide +kernel
theorem dX8_inverse_1 : decode cX8_inverse 1 = .ok (.iload_n 1, 1) := by decide +kernel
theorem dX8_inverse_2 : decode cX8_inverse 2 = .ok (.invokevirtual 119, 3) := by decide +kernel
theorem dX8_inverse_5 : decode cX8_inverse 5 = .ok (.astore_n 3, 1) := by decide +kernel
theorem dX8_inverse_6 : decode cX8_inverse 6 = .ok (.aload_n 3, 1) := by decide +kernel
theorem dX8_inverse_7 : decode cX8_inverse 7 = .ok (.iload_n 2, 1) := by decide +kernel
theorem dX8_inverse_8 : decode cX8_inverse 8 = .ok (.invokevirtual 128, 3) := by decide +kernel
theorem dX8_inverse_11 : decode cX8_inverse 11 = .ok (.invokestatic 45, 3) := by decide +kernel
theorem dX8_inverse_14 : decode cX8_inverse 14 = .ok (.aload_n 3, 1) := by decide +kernel
theorem dX8_inverse_15 : decode cX8_inverse 15 = .ok (.iload_n 2, 1) := by decide +kernel
theorem dX8_inverse_16 : decode cX8_inverse 16 = .ok (.invokevirtual 132, 3) := by decide +kernel
theorem dX8_inverse_19 : decode cX8_inverse 19 = .ok (.ireturn, 1) := by decide +kernel
theorem dX8_orderOf_0 : decode cX8_orderOf 0 = .ok (.aload_n 0, 1) := by decide +kernel
theorem dX8_orderOf_1 : decode cX8_orderOf 1 = .ok (.iload_n 1, 1) := by decide +kernel
theorem dX8_orderOf_2 : decode cX8_orderOf 2 = .ok (.invokevirtual 119, 3) := by decide +kernel
theorem dX8_orderOf_5 : decode cX8_orderOf 5 = .ok (.astore_n 3, 1) := by decide +kernel
theorem dX8_orderOf_6 : decode cX8_orderOf 6 = .ok (.aload_n 3, 1) := by decide +kernel
theorem dX8_orderOf_7 : decode cX8_orderOf 7 = .ok (.iload_n 2, 1) := by decide +kernel
theorem dX8_orderOf_8 : decode cX8_orderOf 8 = .ok (.invokevirtual 128, 3) := by decide +kernel
theorem dX8_orderOf_11 : decode cX8_orderOf 11 = .ok (.invokestatic 45, 3) := by decide +kernel
theorem dX8_orderOf_14 : decode cX8_orderOf 14 = .ok (.aload_n 3, 1) := by decide +kernel
theorem dX8_orderOf_15 : decode cX8_orderOf 15 = .ok (.iload_n 2, 1) := by decide +kernel
theorem dX8_orderOf_16 : decode cX8_orderOf 16 = .ok (.invokevirtual 135, 3) := by decide +kernel
theorem dX8_orderOf_19 : decode cX8_orderOf 19 = .ok (.ireturn, 1) := by decide +kernel
theorem dX8_centre_0 : decode cX8_centre 0 = .ok (.aload_n 0, 1) := by decide +kernel
theorem dX8_centre_1 : decode cX8_centre 1 = .ok (.iload_n 1, 1) := by decide +kernel
theorem dX8_centre_2 : decode cX8_centre 2 = .ok (.invokevirtual 119, 3) := by decide +kernel
theorem dX8_centre_5 : decode cX8_centre 5 = .ok (.invokevirtual 138, 3) := by decide +kernel
theorem dX8_centre_8 : decode cX8_centre 8 = .ok (.ireturn, 1) := by decide +kernel
theorem dX8_generated_0 : decode cX8_generated 0 = .ok (.aload_n 0, 1) := by decide +kernel
theorem dX8_generated_1 : decode cX8_generated 1 = .ok (.iload_n 1, 1) := by decide +kernel
theorem dX8_generated_2 : decode cX8_generated 2 = .ok (.invokevirtual 119, 3) := by decide +kernel
theorem dX8_generated_5 : decode cX8_generated 5 = .ok (.astore_n 3, 1) := by decide +kernel
theorem dX8_generated_6 : decode cX8_generated 6 = .ok (.aload_n 3, 1) := by decide +kernel
theorem dX8_generated_7 : decode cX8_generated 7 = .ok (.iload_n 2, 1) := by decide +kernel
theorem dX8_generated_8 : decode cX8_generated 8 = .ok (.invokevirtual 145, 3) := by decide +kernel
theorem dX8_generated_11 : decode cX8_generated 11 = .ok (.invokestatic 75, 3) := by decide +kernel
theorem dX8_generated_14 : decode cX8_generated 14 = .ok (.aload_n 3, 1) := by decide +kernel
theorem dX8_generated_15 : decode cX8_generated 15 = .ok (.iload_n 2, 1) := by decide +kernel
theorem dX8_generated_16 : decode cX8_generated 16 = .ok (.invokevirtual 148, 3) := by decide +kernel
theorem dX8_generated_19 : decode cX8_generated 19 = .ok (.ireturn, 1) := by decide +kernel
theorem dX8_groupOf_0 : decode cX8_groupOf 0 = .ok (.aload_n 0, 1) := by decide +kernel
theorem dX8_groupOf_1 : decode cX8_groupOf 1 = .ok (.iload_n 1, 1) := by decide +kernel
theorem dX8_groupOf_2 : decode cX8_groupOf 2 = .ok (.invokevirtual 154, 3) := by decide +kernel
theorem dX8_groupOf_5 : decode cX8_groupOf 5 = .ok (.astore_n 3, 1) := by decide +kernel
theorem dX8_groupOf_6 : decode cX8_groupOf 6 = .ok (.iload_n 2, 1) := by decide +kernel
theorem dX8_groupOf_7 : decode cX8_groupOf 7 = .ok (.ifCond .eq 13, 3) := by decide +kernel
theorem dX8_groupOf_10 : decode cX8_groupOf 10 = .ok (.aload_n 3, 1) := by decide +kernel
theorem dX8_groupOf_11 : decode cX8_groupOf 11 = .ok (.getfield 158, 3) := by decide +kernel
theorem dX8_groupOf_14 : decode cX8_groupOf 14 = .ok (.getfield 164, 3) := by decide +kernel
theorem dX8_groupOf_17 : decode cX8_groupOf 17 = .ok (.goto 10, 3) := by decide +kernel
theorem dX8_groupOf_20 : decode cX8_groupOf 20 = .ok (.aload_n 3, 1) := by decide +kernel
theorem dX8_groupOf_21 : decode cX8_groupOf 21 = .ok (.getfield 167, 3) := by decide +kernel
theorem dX8_groupOf_24 : decode cX8_groupOf 24 = .ok (.getfield 164, 3) := by decide +kernel
theorem dX8_groupOf_27 : decode cX8_groupOf 27 = .ok (.ireturn, 1) := by decide +kernel
theorem dX8_boundary_0 : decode cX8_boundary 0 = .ok (.aload_n 0, 1) := by decide +kernel
theorem dX8_boundary_1 : decode cX8_boundary 1 = .ok (.iload_n 1, 1) := by decide +kernel
theorem dX8_boundary_2 : decode cX8_boundary 2 = .ok (.invokevirtual 154, 3) := by decide +kernel
theorem dX8_boundary_5 : decode cX8_boundary 5 = .ok (.astore_n 3, 1) := by decide +kernel
theorem dX8_boundary_6 : decode cX8_boundary 6 = .ok (.aload_n 3, 1) := by decide +kernel
theorem dX8_boundary_7 : decode cX8_boundary 7 = .ok (.getfield 167, 3) := by decide +kernel
theorem dX8_boundary_10 : decode cX8_boundary 10 = .ok (.iload_n 2, 1) := by decide +kernel
theorem dX8_boundary_11 : decode cX8_boundary 11 = .ok (.invokevirtual 128, 3) := by decide +kernel
theorem dX8_boundary_14 : decode cX8_boundary 14 = .ok (.invokestatic 45, 3) := by decide +kernel
theorem dX8_boundary_17 : decode cX8_boundary 17 = .ok (.aload_n 3, 1) := by decide +kernel
theorem dX8_boundary_18 : decode cX8_boundary 18 = .ok (.iload_n 2, 1) := by decide +kernel
theorem dX8_boundary_19 : decode cX8_boundary 19 = .ok (.invokevirtual 170, 3) := by decide +kernel
theorem dX8_boundary_22 : decode cX8_boundary 22 = .ok (.ireturn, 1) := by decide +kernel
theorem dX8_act_0 : decode cX8_act 0 = .ok (.aload_n 0, 1) := by decide +kernel
theorem dX8_act_1 : decode cX8_act 1 = .ok (.iload_n 1, 1) := by decide +kernel
theorem dX8_act_2 : decode cX8_act 2 = .ok (.invokevirtual 154, 3) := by decide +kernel
theorem dX8_act_5 : decode cX8_act 5 = .ok (.astore 4, 2) := by decide +kernel
theorem dX8_act_7 : decode cX8_act 7 = .ok (.aload 4, 2) := by decide +kernel
theorem dX8_act_9 : decode cX8_act 9 = .ok (.getfield 158, 3) := by decide +kernel
theorem dX8_act_12 : decode cX8_act 12 = .ok (.iload_n 2, 1) := by decide +kernel
theorem dX8_act_13 : decode cX8_act 13 = .ok (.invokevirtual 128, 3) := by decide +kernel
theorem dX8_act_16 : decode cX8_act 16 = .ok (.ifCond .eq 19, 3) := by decide +kernel
theorem dX8_act_19 : decode cX8_act 19 = .ok (.aload 4, 2) := by decide +kernel
theorem dX8_act_21 : decode cX8_act 21 = .ok (.getfield 167, 3) := by decide +kernel
theorem dX8_act_24 : decode cX8_act 24 = .ok (.iload_n 3, 1) := by decide +kernel
theorem dX8_act_25 : decode cX8_act 25 = .ok (.invokevirtual 128, 3) := by decide +kernel
theorem dX8_act_28 : decode cX8_act 28 = .ok (.ifCond .eq 7, 3) := by decide +kernel
theorem dX8_act_31 : decode cX8_act 31 = .ok (.iconst 1, 1) := by decide +kernel
theorem dX8_act_32 : decode cX8_act 32 = .ok (.goto 4, 3) := by decide +kernel
theorem dX8_act_35 : decode cX8_act 35 = .ok (.iconst 0, 1) := by decide +kernel
theorem dX8_act_36 : decode cX8_act 36 = .ok (.invokestatic 45, 3) := by decide +kernel
theorem dX8_act_39 : decode cX8_act 39 = .ok (.aload 4, 2) := by decide +kernel
theorem dX8_act_41 : decode cX8_act 41 = .ok (.iload_n 2, 1) := by decide +kernel
theorem dX8_act_42 : decode cX8_act 42 = .ok (.iload_n 3, 1) := by decide +kernel
theorem dX8_act_43 : decode cX8_act 43 = .ok (.invokevirtual 173, 3) := by decide +kernel
theorem dX8_act_46 : decode cX8_act 46 = .ok (.ireturn, 1) := by decide +kernel
theorem dX8_why_0 : decode cX8_why 0 = .ok (.aload_n 0, 1) := by decide +kernel
theorem dX8_why_1 : decode cX8_why 1 = .ok (.iload_n 1, 1) := by decide +kernel
theorem dX8_why_2 : decode cX8_why 2 = .ok (.invokevirtual 154, 3) := by decide +kernel
theorem dX8_why_5 : decode cX8_why 5 = .ok (.getfield 176, 3) := by decide +kernel
theorem dX8_why_8 : decode cX8_why 8 = .ok (.ireturn, 1) := by decide +kernel
theorem dX8_lawful_0 : decode cX8_lawful 0 = .ok (.aload_n 0, 1) := by decide +kernel
theorem dX8_lawful_1 : decode cX8_lawful 1 = .ok (.invokevirtual 100, 3) := by decide +kernel
theorem dX8_lawful_4 : decode cX8_lawful 4 = .ok (.aload_n 0, 1) := by decide +kernel
theorem dX8_lawful_5 : decode cX8_lawful 5 = .ok (.getfield 20, 3) := by decide +kernel
theorem dX8_lawful_8 : decode cX8_lawful 8 = .ok (.invokevirtual 179, 3) := by decide +kernel
theorem dX8_lawful_11 : decode cX8_lawful 11 = .ok (.ireturn, 1) := by decide +kernel
theorem dX8_kernel_0 : decode cX8_kernel 0 = .ok (.aload_n 0, 1) := by decide +kernel
theorem dX8_kernel_1 : decode cX8_kernel 1 = .ok (.iload_n 1, 1) := by decide +kernel
theorem dX8_kernel_2 : decode cX8_kernel 2 = .ok (.invokevirtual 154, 3) := by decide +kernel
theorem dX8_kernel_5 : decode cX8_kernel 5 = .ok (.invokevirtual 182, 3) := by decide +kernel
theorem dX8_kernel_8 : decode cX8_kernel 8 = .ok (.ireturn, 1) := by decide +kernel
theorem dX8_image_0 : decode cX8_image 0 = .ok (.aload_n 0, 1) := by decide +kernel
theorem dX8_image_1 : decode cX8_image 1 = .ok (.iload_n 1, 1) := by decide +kernel
theorem dX8_image_2 : decode cX8_image 2 = .ok (.invokevirtual 154, 3) := by decide +kernel
theorem dX8_image_5 : decode cX8_image 5 = .ok (.invokevirtual 185, 3) := by decide +kernel
theorem dX8_image_8 : decode cX8_image 8 = .ok (.ireturn, 1) := by decide +kernel
theorem dX8_isCentral_0 : decode cX8_isCentral 0 = .ok (.aload_n 0, 1) := by decide +kernel
theorem dX8_isCentral_1 : decode cX8_isCentral 1 = .ok (.iload_n 1, 1) := by decide +kernel
theorem dX8_isCentral_2 : decode cX8_isCentral 2 = .ok (.invokevirtual 154, 3) := by decide +kernel
theorem dX8_isCentral_5 : decode cX8_isCentral 5 = .ok (.astore_n 2, 1) := by decide +kernel
theorem dX8_isCentral_6 : decode cX8_isCentral 6 = .ok (.aload_n 2, 1) := by decide +kernel
theorem dX8_isCentral_7 : decode cX8_isCentral 7 = .ok (.invokevirtual 182, 3) := by decide +kernel
theorem dX8_isCentral_10 : decode cX8_isCentral 10 = .ok (.aload_n 2, 1) := by decide +kernel
theorem dX8_isCentral_11 : decode cX8_isCentral 11 = .ok (.getfield 167, 3) := by decide +kernel
theorem dX8_isCentral_14 : decode cX8_isCentral 14 = .ok (.invokevirtual 138, 3) := by decide +kernel
theorem dX8_isCentral_17 : decode cX8_isCentral 17 = .ok (.iconst (-1), 1) := by decide +kernel
theorem dX8_isCentral_18 : decode cX8_isCentral 18 = .ok (.ixor, 1) := by decide +kernel
theorem dX8_isCentral_19 : decode cX8_isCentral 19 = .ok (.iand, 1) := by decide +kernel
theorem dX8_isCentral_20 : decode cX8_isCentral 20 = .ok (.ifCond .ne 7, 3) := by decide +kernel
theorem dX8_isCentral_23 : decode cX8_isCentral 23 = .ok (.iconst 1, 1) := by decide +kernel
theorem dX8_isCentral_24 : decode cX8_isCentral 24 = .ok (.goto 4, 3) := by decide +kernel
theorem dX8_isCentral_27 : decode cX8_isCentral 27 = .ok (.iconst 0, 1) := by decide +kernel
theorem dX8_isCentral_28 : decode cX8_isCentral 28 = .ok (.ireturn, 1) := by decide +kernel
theorem dX8_fixed_0 : decode cX8_fixed 0 = .ok (.aload_n 0, 1) := by decide +kernel
theorem dX8_fixed_1 : decode cX8_fixed 1 = .ok (.iload_n 1, 1) := by decide +kernel
theorem dX8_fixed_2 : decode cX8_fixed 2 = .ok (.invokevirtual 154, 3) := by decide +kernel
theorem dX8_fixed_5 : decode cX8_fixed 5 = .ok (.astore_n 3, 1) := by decide +kernel
theorem dX8_fixed_6 : decode cX8_fixed 6 = .ok (.aload_n 3, 1) := by decide +kernel
theorem dX8_fixed_7 : decode cX8_fixed 7 = .ok (.getfield 167, 3) := by decide +kernel
theorem dX8_fixed_10 : decode cX8_fixed 10 = .ok (.iload_n 2, 1) := by decide +kernel
theorem dX8_fixed_11 : decode cX8_fixed 11 = .ok (.invokevirtual 128, 3) := by decide +kernel
theorem dX8_fixed_14 : decode cX8_fixed 14 = .ok (.invokestatic 45, 3) := by decide +kernel
theorem dX8_fixed_17 : decode cX8_fixed 17 = .ok (.aload_n 3, 1) := by decide +kernel
theorem dX8_fixed_18 : decode cX8_fixed 18 = .ok (.iload_n 2, 1) := by decide +kernel
theorem dX8_fixed_19 : decode cX8_fixed 19 = .ok (.invokevirtual 188, 3) := by decide +kernel
theorem dX8_fixed_22 : decode cX8_fixed 22 = .ok (.ireturn, 1) := by decide +kernel
theorem dX8_orbit_0 : decode cX8_orbit 0 = .ok (.aload_n 0, 1) := by decide +kernel
theorem dX8_orbit_1 : decode cX8_orbit 1 = .ok (.iload_n 1, 1) := by decide +kernel
theorem dX8_orbit_2 : decode cX8_orbit 2 = .ok (.invokevirtual 154, 3) := by decide +kernel
theorem dX8_orbit_5 : decode cX8_orbit 5 = .ok (.astore_n 3, 1) := by decide +kernel
theorem dX8_orbit_6 : decode cX8_orbit 6 = .ok (.aload_n 3, 1) := by decide +kernel
theorem dX8_orbit_7 : decode cX8_orbit 7 = .ok (.getfield 167, 3) := by decide +kernel
theorem dX8_orbit_10 : decode cX8_orbit 10 = .ok (.iload_n 2, 1) := by decide +kernel
theorem dX8_orbit_11 : decode cX8_orbit 11 = .ok (.invokevirtual 128, 3) := by decide +kernel
theorem dX8_orbit_14 : decode cX8_orbit 14 = .ok (.invokestatic 45, 3) := by decide +kernel
theorem dX8_orbit_17 : decode cX8_orbit 17 = .ok (.aload_n 3, 1) := by decide +kernel
theorem dX8_orbit_18 : decode cX8_orbit 18 = .ok (.iload_n 2, 1) := by decide +kernel
theorem dX8_orbit_19 : decode cX8_orbit 19 = .ok (.invokevirtual 191, 3) := by decide +kernel
theorem dX8_orbit_22 : decode cX8_orbit 22 = .ok (.ireturn, 1) := by decide +kernel
theorem dX8_classes_0 : decode cX8_classes 0 = .ok (.aload_n 0, 1) := by decide +kernel
theorem dX8_classes_1 : decode cX8_classes 1 = .ok (.iload_n 1, 1) := by decide +kernel
theorem dX8_classes_2 : decode cX8_classes 2 = .ok (.invokevirtual 194, 3) := by decide +kernel
theorem dX8_classes_5 : decode cX8_classes 5 = .ok (.invokevirtual 197, 3) := by decide +kernel
theorem dX8_classes_8 : decode cX8_classes 8 = .ok (.getfield 201, 3) := by decide +kernel
theorem dX8_classes_11 : decode cX8_classes 11 = .ok (.ireturn, 1) := by decide +kernel
theorem dX8_classOf_0 : decode cX8_classOf 0 = .ok (.aload_n 0, 1) := by decide +kernel
theorem dX8_classOf_1 : decode cX8_classOf 1 = .ok (.iload_n 1, 1) := by decide +kernel
theorem dX8_classOf_2 : decode cX8_classOf 2 = .ok (.invokevirtual 154, 3) := by decide +kernel
theorem dX8_classOf_5 : decode cX8_classOf 5 = .ok (.astore_n 3, 1) := by decide +kernel
theorem dX8_classOf_6 : decode cX8_classOf 6 = .ok (.aload_n 3, 1) := by decide +kernel
theorem dX8_classOf_7 : decode cX8_classOf 7 = .ok (.getfield 158, 3) := by decide +kernel
theorem dX8_classOf_10 : decode cX8_classOf 10 = .ok (.iload_n 2, 1) := by decide +kernel
theorem dX8_classOf_11 : decode cX8_classOf 11 = .ok (.invokevirtual 128, 3) := by decide +kernel
theorem dX8_classOf_14 : decode cX8_classOf 14 = .ok (.invokestatic 45, 3) := by decide +kernel
theorem dX8_classOf_17 : decode cX8_classOf 17 = .ok (.aload_n 3, 1) := by decide +kernel
theorem dX8_classOf_18 : decode cX8_classOf 18 = .ok (.getfield 176, 3) := by decide +kernel
theorem dX8_classOf_21 : decode cX8_classOf 21 = .ok (.ifCond .ne 7, 3) := by decide +kernel
theorem dX8_classOf_24 : decode cX8_classOf 24 = .ok (.iconst 1, 1) := by decide +kernel
theorem dX8_classOf_25 : decode cX8_classOf 25 = .ok (.goto 4, 3) := by decide +kernel
theorem dX8_classOf_28 : decode cX8_classOf 28 = .ok (.iconst 0, 1) := by decide +kernel
theorem dX8_classOf_29 : decode cX8_classOf 29 = .ok (.invokestatic 75, 3) := by decide +kernel
theorem dX8_classOf_32 : decode cX8_classOf 32 = .ok (.aload_n 3, 1) := by decide +kernel
theorem dX8_classOf_33 : decode cX8_classOf 33 = .ok (.invokevirtual 197, 3) := by decide +kernel
theorem dX8_classOf_36 : decode cX8_classOf 36 = .ok (.iload_n 2, 1) := by decide +kernel
theorem dX8_classOf_37 : decode cX8_classOf 37 = .ok (.invokevirtual 206, 3) := by decide +kernel
theorem dX8_classOf_40 : decode cX8_classOf 40 = .ok (.ireturn, 1) := by decide +kernel
theorem dX8_classTimes_0 : decode cX8_classTimes 0 = .ok (.aload_n 0, 1) := by decide +kernel
theorem dX8_classTimes_1 : decode cX8_classTimes 1 = .ok (.iload_n 1, 1) := by decide +kernel
theorem dX8_classTimes_2 : decode cX8_classTimes 2 = .ok (.invokevirtual 194, 3) := by decide +kernel
theorem dX8_classTimes_5 : decode cX8_classTimes 5 = .ok (.astore 4, 2) := by decide +kernel
theorem dX8_classTimes_7 : decode cX8_classTimes 7 = .ok (.aload 4, 2) := by decide +kernel
theorem dX8_classTimes_9 : decode cX8_classTimes 9 = .ok (.invokevirtual 197, 3) := by decide +kernel
theorem dX8_classTimes_12 : decode cX8_classTimes 12 = .ok (.astore 5, 2) := by decide +kernel
theorem dX8_classTimes_14 : decode cX8_classTimes 14 = .ok (.aload 5, 2) := by decide +kernel
theorem dX8_classTimes_16 : decode cX8_classTimes 16 = .ok (.iload_n 2, 1) := by decide +kernel
theorem dX8_classTimes_17 : decode cX8_classTimes 17 = .ok (.invokevirtual 209, 3) := by decide +kernel
theorem dX8_classTimes_20 : decode cX8_classTimes 20 = .ok (.ifCond .eq 16, 3) := by decide +kernel
theorem dX8_classTimes_23 : decode cX8_classTimes 23 = .ok (.aload 5, 2) := by decide +kernel
theorem dX8_classTimes_25 : decode cX8_classTimes 25 = .ok (.iload_n 3, 1) := by decide +kernel
theorem dX8_classTimes_26 : decode cX8_classTimes 26 = .ok (.invokevirtual 209, 3) := by decide +kernel
theorem dX8_classTimes_29 : decode cX8_classTimes 29 = .ok (.ifCond .eq 7, 3) := by decide +kernel
theorem dX8_classTimes_32 : decode cX8_classTimes 32 = .ok (.iconst 1, 1) := by decide +kernel
theorem dX8_classTimes_33 : decode cX8_classTimes 33 = .ok (.goto 4, 3) := by decide +kernel
theorem dX8_classTimes_36 : decode cX8_classTimes 36 = .ok (.iconst 0, 1) := by decide +kernel
theorem dX8_classTimes_37 : decode cX8_classTimes 37 = .ok (.invokestatic 75, 3) := by decide +kernel
theorem dX8_classTimes_40 : decode cX8_classTimes 40 = .ok (.aload 5, 2) := by decide +kernel
theorem dX8_classTimes_42 : decode cX8_classTimes 42 = .ok (.aload 4, 2) := by decide +kernel
theorem dX8_classTimes_44 : decode cX8_classTimes 44 = .ok (.getfield 158, 3) := by decide +kernel
theorem dX8_classTimes_47 : decode cX8_classTimes 47 = .ok (.iload_n 2, 1) := by decide +kernel
theorem dX8_classTimes_48 : decode cX8_classTimes 48 = .ok (.iload_n 3, 1) := by decide +kernel
theorem dX8_classTimes_49 : decode cX8_classTimes 49 = .ok (.invokevirtual 210, 3) := by decide +kernel
theorem dX8_classTimes_52 : decode cX8_classTimes 52 = .ok (.ireturn, 1) := by decide +kernel
theorem dX8_classAct_0 : decode cX8_classAct 0 = .ok (.aload_n 0, 1) := by decide +kernel
theorem dX8_classAct_1 : decode cX8_classAct 1 = .ok (.iload_n 1, 1) := by decide +kernel
theorem dX8_classAct_2 : decode cX8_classAct 2 = .ok (.invokevirtual 194, 3) := by decide +kernel
theorem dX8_classAct_5 : decode cX8_classAct 5 = .ok (.astore 4, 2) := by decide +kernel
theorem dX8_classAct_7 : decode cX8_classAct 7 = .ok (.aload 4, 2) := by decide +kernel
theorem dX8_classAct_9 : decode cX8_classAct 9 = .ok (.invokevirtual 197, 3) := by decide +kernel
theorem dX8_classAct_12 : decode cX8_classAct 12 = .ok (.astore 5, 2) := by decide +kernel
theorem dX8_classAct_14 : decode cX8_classAct 14 = .ok (.aload 5, 2) := by decide +kernel
theorem dX8_classAct_16 : decode cX8_classAct 16 = .ok (.iload_n 2, 1) := by decide +kernel
theorem dX8_classAct_17 : decode cX8_classAct 17 = .ok (.invokevirtual 209, 3) := by decide +kernel
theorem dX8_classAct_20 : decode cX8_classAct 20 = .ok (.ifCond .eq 28, 3) := by decide +kernel
theorem dX8_classAct_23 : decode cX8_classAct 23 = .ok (.aload 4, 2) := by decide +kernel
theorem dX8_classAct_25 : decode cX8_classAct 25 = .ok (.getfield 167, 3) := by decide +kernel
theorem dX8_classAct_28 : decode cX8_classAct 28 = .ok (.iload_n 3, 1) := by decide +kernel
theorem dX8_classAct_29 : decode cX8_classAct 29 = .ok (.invokevirtual 128, 3) := by decide +kernel
theorem dX8_classAct_32 : decode cX8_classAct 32 = .ok (.ifCond .eq 16, 3) := by decide +kernel
theorem dX8_classAct_35 : decode cX8_classAct 35 = .ok (.aload 4, 2) := by decide +kernel
theorem dX8_classAct_37 : decode cX8_classAct 37 = .ok (.iload_n 3, 1) := by decide +kernel
theorem dX8_classAct_38 : decode cX8_classAct 38 = .ok (.invokevirtual 170, 3) := by decide +kernel
theorem dX8_classAct_41 : decode cX8_classAct 41 = .ok (.ifCond .ne 7, 3) := by decide +kernel
theorem dX8_classAct_44 : decode cX8_classAct 44 = .ok (.iconst 1, 1) := by decide +kernel
theorem dX8_classAct_45 : decode cX8_classAct 45 = .ok (.goto 4, 3) := by decide +kernel
theorem dX8_classAct_48 : decode cX8_classAct 48 = .ok (.iconst 0, 1) := by decide +kernel
theorem dX8_classAct_49 : decode cX8_classAct 49 = .ok (.invokestatic 75, 3) := by decide +kernel
theorem dX8_classAct_52 : decode cX8_classAct 52 = .ok (.aload 4, 2) := by decide +kernel
theorem dX8_classAct_54 : decode cX8_classAct 54 = .ok (.aload 5, 2) := by decide +kernel
theorem dX8_classAct_56 : decode cX8_classAct 56 = .ok (.iload_n 2, 1) := by decide +kernel
theorem dX8_classAct_57 : decode cX8_classAct 57 = .ok (.invokevirtual 213, 3) := by decide +kernel
theorem dX8_classAct_60 : decode cX8_classAct 60 = .ok (.iload_n 3, 1) := by decide +kernel
theorem dX8_classAct_61 : decode cX8_classAct 61 = .ok (.invokevirtual 173, 3) := by decide +kernel
theorem dX8_classAct_64 : decode cX8_classAct 64 = .ok (.ireturn, 1) := by decide +kernel
theorem dX8_profile_0 : decode cX8_profile 0 = .ok (.aload_n 0, 1) := by decide +kernel
theorem dX8_profile_1 : decode cX8_profile 1 = .ok (.iload_n 1, 1) := by decide +kernel
theorem dX8_profile_2 : decode cX8_profile 2 = .ok (.invokevirtual 194, 3) := by decide +kernel
theorem dX8_profile_5 : decode cX8_profile 5 = .ok (.astore 4, 2) := by decide +kernel
theorem dX8_profile_7 : decode cX8_profile 7 = .ok (.iload_n 3, 1) := by decide +kernel
theorem dX8_profile_8 : decode cX8_profile 8 = .ok (.iconst 1, 1) := by decide +kernel
theorem dX8_profile_9 : decode cX8_profile 9 = .ok (.if_icmp .lt 13, 3) := by decide +kernel
theorem dX8_profile_12 : decode cX8_profile 12 = .ok (.iload_n 3, 1) := by decide +kernel
theorem dX8_profile_13 : decode cX8_profile 13 = .ok (.bipush 8, 2) := by decide +kernel
theorem dX8_profile_15 : decode cX8_profile 15 = .ok (.if_icmp .gt 7, 3) := by decide +kernel
theorem dX8_profile_18 : decode cX8_profile 18 = .ok (.iconst 1, 1) := by decide +kernel
theorem dX8_profile_19 : decode cX8_profile 19 = .ok (.goto 4, 3) := by decide +kernel
theorem dX8_profile_22 : decode cX8_profile 22 = .ok (.iconst 0, 1) := by decide +kernel
theorem dX8_profile_23 : decode cX8_profile 23 = .ok (.invokestatic 75, 3) := by decide +kernel
theorem dX8_profile_26 : decode cX8_profile 26 = .ok (.aload 4, 2) := by decide +kernel
theorem dX8_profile_28 : decode cX8_profile 28 = .ok (.invokevirtual 197, 3) := by decide +kernel
theorem dX8_profile_31 : decode cX8_profile 31 = .ok (.astore 5, 2) := by decide +kernel
theorem dX8_profile_33 : decode cX8_profile 33 = .ok (.iload_n 2, 1) := by decide +kernel
theorem dX8_profile_34 : decode cX8_profile 34 = .ok (.ifCond .eq 11, 3) := by decide +kernel
theorem dX8_profile_37 : decode cX8_profile 37 = .ok (.aload 5, 2) := by decide +kernel
theorem dX8_profile_39 : decode cX8_profile 39 = .ok (.getfield 216, 3) := by decide +kernel
theorem dX8_profile_42 : decode cX8_profile 42 = .ok (.goto 8, 3) := by decide +kernel
theorem dX8_profile_45 : decode cX8_profile 45 = .ok (.aload 5, 2) := by decide +kernel
theorem dX8_profile_47 : decode cX8_profile 47 = .ok (.getfield 220, 3) := by decide +kernel
theorem dX8_profile_50 : decode cX8_profile 50 = .ok (.iload_n 3, 1) := by decide +kernel
theorem dX8_profile_51 : decode cX8_profile 51 = .ok (.invokestatic 223, 3) := by decide +kernel
theorem dX8_profile_54 : decode cX8_profile 54 = .ok (.ireturn, 1) := by decide +kernel
theorem dX8_areAlike_0 : decode cX8_areAlike 0 = .ok (.aload_n 0, 1) := by decide +kernel
theorem dX8_areAlike_1 : decode cX8_areAlike 1 = .ok (.iload_n 1, 1) := by decide +kernel
theorem dX8_areAlike_2 : decode cX8_areAlike 2 = .ok (.invokevirtual 154, 3) := by decide +kernel
theorem dX8_areAlike_5 : decode cX8_areAlike 5 = .ok (.astore_n 3, 1) := by decide +kernel
theorem dX8_areAlike_6 : decode cX8_areAlike 6 = .ok (.aload_n 0, 1) := by decide +kernel
theorem dX8_areAlike_7 : decode cX8_areAlike 7 = .ok (.iload_n 2, 1) := by decide +kernel
theorem dX8_areAlike_8 : decode cX8_areAlike 8 = .ok (.invokevirtual 154, 3) := by decide +kernel
theorem dX8_areAlike_11 : decode cX8_areAlike 11 = .ok (.astore 4, 2) := by decide +kernel
theorem dX8_areAlike_13 : decode cX8_areAlike 13 = .ok (.aload_n 3, 1) := by decide +kernel
theorem dX8_areAlike_14 : decode cX8_areAlike 14 = .ok (.getfield 176, 3) := by decide +kernel
theorem dX8_areAlike_17 : decode cX8_areAlike 17 = .ok (.ifCond .ne 15, 3) := by decide +kernel
theorem dX8_areAlike_20 : decode cX8_areAlike 20 = .ok (.aload 4, 2) := by decide +kernel
theorem dX8_areAlike_22 : decode cX8_areAlike 22 = .ok (.getfield 176, 3) := by decide +kernel
theorem dX8_areAlike_25 : decode cX8_areAlike 25 = .ok (.ifCond .ne 7, 3) := by decide +kernel
theorem dX8_areAlike_28 : decode cX8_areAlike 28 = .ok (.iconst 1, 1) := by decide +kernel
theorem dX8_areAlike_29 : decode cX8_areAlike 29 = .ok (.goto 4, 3) := by decide +kernel
theorem dX8_areAlike_32 : decode cX8_areAlike 32 = .ok (.iconst 0, 1) := by decide +kernel
theorem dX8_areAlike_33 : decode cX8_areAlike 33 = .ok (.invokestatic 75, 3) := by decide +kernel
theorem dX8_areAlike_36 : decode cX8_areAlike 36 = .ok (.aload_n 3, 1) := by decide +kernel
theorem dX8_areAlike_37 : decode cX8_areAlike 37 = .ok (.invokevirtual 197, 3) := by decide +kernel
theorem dX8_areAlike_40 : decode cX8_areAlike 40 = .ok (.aload 4, 2) := by decide +kernel
theorem dX8_areAlike_42 : decode cX8_areAlike 42 = .ok (.invokevirtual 197, 3) := by decide +kernel
theorem dX8_areAlike_45 : decode cX8_areAlike 45 = .ok (.invokevirtual 227, 3) := by decide +kernel
theorem dX8_areAlike_48 : decode cX8_areAlike 48 = .ok (.ireturn, 1) := by decide +kernel
theorem dX8_kinds_0 : decode cX8_kinds 0 = .ok (.aload_n 0, 1) := by decide +kernel
theorem dX8_kinds_1 : decode cX8_kinds 1 = .ok (.invokevirtual 100, 3) := by decide +kernel
theorem dX8_kinds_4 : decode cX8_kinds 4 = .ok (.iconst 0, 1) := by decide +kernel
theorem dX8_kinds_5 : decode cX8_kinds 5 = .ok (.istore_n 1, 1) := by decide +kernel
theorem dX8_kinds_6 : decode cX8_kinds 6 = .ok (.iconst 0, 1) := by decide +kernel
theorem dX8_kinds_7 : decode cX8_kinds 7 = .ok (.istore_n 2, 1) := by decide +kernel
theorem dX8_kinds_8 : decode cX8_kinds 8 = .ok (.iload_n 2, 1) := by decide +kernel
theorem dX8_kinds_9 : decode cX8_kinds 9 = .ok (.bipush 6, 2) := by decide +kernel
theorem dX8_kinds_11 : decode cX8_kinds 11 = .ok (.if_icmp .ge 60, 3) := by decide +kernel
theorem dX8_kinds_14 : decode cX8_kinds 14 = .ok (.aload_n 0, 1) := by decide +kernel
theorem dX8_kinds_15 : decode cX8_kinds 15 = .ok (.getfield 20, 3) := by decide +kernel
theorem dX8_kinds_18 : decode cX8_kinds 18 = .ok (.getfield 91, 3) := by decide +kernel
theorem dX8_kinds_21 : decode cX8_kinds 21 = .ok (.iload_n 2, 1) := by decide +kernel
theorem dX8_kinds_22 : decode cX8_kinds 22 = .ok (.invokevirtual 107, 3) := by decide +kernel
theorem dX8_kinds_25 : decode cX8_kinds 25 = .ok (.ifCond .eq 46, 3) := by decide +kernel
theorem dX8_kinds_28 : decode cX8_kinds 28 = .ok (.aload_n 0, 1) := by decide +kernel
theorem dX8_kinds_29 : decode cX8_kinds 29 = .ok (.getfield 20, 3) := by decide +kernel
theorem dX8_kinds_32 : decode cX8_kinds 32 = .ok (.getfield 231, 3) := by decide +kernel
theorem dX8_kinds_35 : decode cX8_kinds 35 = .ok (.iload_n 2, 1) := by decide +kernel
theorem dX8_kinds_36 : decode cX8_kinds 36 = .ok (.aaload, 1) := by decide +kernel
theorem dX8_kinds_37 : decode cX8_kinds 37 = .ok (.astore_n 3, 1) := by decide +kernel
theorem dX8_kinds_38 : decode cX8_kinds 38 = .ok (.iload_n 1, 1) := by decide +kernel
theorem dX8_kinds_39 : decode cX8_kinds 39 = .ok (.aload_n 3, 1) := by decide +kernel
theorem dX8_kinds_40 : decode cX8_kinds 40 = .ok (.getfield 176, 3) := by decide +kernel
theorem dX8_kinds_43 : decode cX8_kinds 43 = .ok (.ifCond .ne 19, 3) := by decide +kernel
theorem dX8_kinds_46 : decode cX8_kinds 46 = .ok (.aload_n 0, 1) := by decide +kernel
theorem dX8_kinds_47 : decode cX8_kinds 47 = .ok (.getfield 20, 3) := by decide +kernel
theorem dX8_kinds_50 : decode cX8_kinds 50 = .ok (.aload_n 3, 1) := by decide +kernel
theorem dX8_kinds_51 : decode cX8_kinds 51 = .ok (.invokevirtual 235, 3) := by decide +kernel
theorem dX8_kinds_54 : decode cX8_kinds 54 = .ok (.iload_n 2, 1) := by decide +kernel
theorem dX8_kinds_55 : decode cX8_kinds 55 = .ok (.if_icmp .ne 7, 3) := by decide +kernel
theorem dX8_kinds_58 : decode cX8_kinds 58 = .ok (.iconst 1, 1) := by decide +kernel
theorem dX8_kinds_59 : decode cX8_kinds 59 = .ok (.goto 4, 3) := by decide +kernel
theorem dX8_kinds_62 : decode cX8_kinds 62 = .ok (.iconst 0, 1) := by decide +kernel
theorem dX8_kinds_63 : decode cX8_kinds 63 = .ok (.iadd, 1) := by decide +kernel
theorem dX8_kinds_64 : decode cX8_kinds 64 = .ok (.istore_n 1, 1) := by decide +kernel
theorem dX8_kinds_65 : decode cX8_kinds 65 = .ok (.iinc 2 1, 3) := by decide +kernel
theorem dX8_kinds_68 : decode cX8_kinds 68 = .ok (.goto (-60), 3) := by decide +kernel
theorem dX8_kinds_71 : decode cX8_kinds 71 = .ok (.iload_n 1, 1) := by decide +kernel
theorem dX8_kinds_72 : decode cX8_kinds 72 = .ok (.ireturn, 1) := by decide +kernel
theorem dX8_firstAlike_0 : decode cX8_firstAlike 0 = .ok (.aload_n 0, 1) := by decide +kernel
theorem dX8_firstAlike_1 : decode cX8_firstAlike 1 = .ok (.getfield 20, 3) := by decide +kernel
theorem dX8_firstAlike_4 : decode cX8_firstAlike 4 = .ok (.aload_n 0, 1) := by decide +kernel
theorem dX8_firstAlike_5 : decode cX8_firstAlike 5 = .ok (.iload_n 1, 1) := by decide +kernel
theorem dX8_firstAlike_6 : decode cX8_firstAlike 6 = .ok (.invokevirtual 194, 3) := by decide +kernel
theorem dX8_firstAlike_9 : decode cX8_firstAlike 9 = .ok (.invokevirtual 235, 3) := by decide +kernel
theorem dX8_firstAlike_12 : decode cX8_firstAlike 12 = .ok (.ireturn, 1) := by decide +kernel
theorem dX8_largeTimes_0 : decode cX8_largeTimes 0 = .ok (.aload_n 0, 1) := by decide +kernel
theorem dX8_largeTimes_1 : decode cX8_largeTimes 1 = .ok (.iload_n 1, 1) := by decide +kernel
theorem dX8_largeTimes_2 : decode cX8_largeTimes 2 = .ok (.invokevirtual 194, 3) := by decide +kernel
theorem dX8_largeTimes_5 : decode cX8_largeTimes 5 = .ok (.astore 4, 2) := by decide +kernel
theorem dX8_largeTimes_7 : decode cX8_largeTimes 7 = .ok (.aload 4, 2) := by decide +kernel
theorem dX8_largeTimes_9 : decode cX8_largeTimes 9 = .ok (.iload_n 2, 1) := by decide +kernel
theorem dX8_largeTimes_10 : decode cX8_largeTimes 10 = .ok (.invokevirtual 239, 3) := by decide +kernel
theorem dX8_largeTimes_13 : decode cX8_largeTimes 13 = .ok (.ifCond .eq 16, 3) := by decide +kernel
theorem dX8_largeTimes_16 : decode cX8_largeTimes 16 = .ok (.aload 4, 2) := by decide +kernel
theorem dX8_largeTimes_18 : decode cX8_largeTimes 18 = .ok (.iload_n 3, 1) := by decide +kernel
theorem dX8_largeTimes_19 : decode cX8_largeTimes 19 = .ok (.invokevirtual 239, 3) := by decide +kernel
theorem dX8_largeTimes_22 : decode cX8_largeTimes 22 = .ok (.ifCond .eq 7, 3) := by decide +kernel
theorem dX8_largeTimes_25 : decode cX8_largeTimes 25 = .ok (.iconst 1, 1) := by decide +kernel
theorem dX8_largeTimes_26 : decode cX8_largeTimes 26 = .ok (.goto 4, 3) := by decide +kernel
theorem dX8_largeTimes_29 : decode cX8_largeTimes 29 = .ok (.iconst 0, 1) := by decide +kernel
theorem dX8_largeTimes_30 : decode cX8_largeTimes 30 = .ok (.invokestatic 75, 3) := by decide +kernel
theorem dX8_largeTimes_33 : decode cX8_largeTimes 33 = .ok (.aload 4, 2) := by decide +kernel
theorem dX8_largeTimes_35 : decode cX8_largeTimes 35 = .ok (.iload_n 2, 1) := by decide +kernel
theorem dX8_largeTimes_36 : decode cX8_largeTimes 36 = .ok (.iload_n 3, 1) := by decide +kernel
theorem dX8_largeTimes_37 : decode cX8_largeTimes 37 = .ok (.invokevirtual 242, 3) := by decide +kernel
theorem dX8_largeTimes_40 : decode cX8_largeTimes 40 = .ok (.ireturn, 1) := by decide +kernel
theorem dX8_target_0 : decode cX8_target 0 = .ok (.aload_n 0, 1) := by decide +kernel
theorem dX8_target_1 : decode cX8_target 1 = .ok (.iload_n 1, 1) := by decide +kernel
theorem dX8_target_2 : decode cX8_target 2 = .ok (.invokevirtual 194, 3) := by decide +kernel
theorem dX8_target_5 : decode cX8_target 5 = .ok (.astore_n 3, 1) := by decide +kernel
theorem dX8_target_6 : decode cX8_target 6 = .ok (.aload_n 3, 1) := by decide +kernel
theorem dX8_target_7 : decode cX8_target 7 = .ok (.iload_n 2, 1) := by decide +kernel
theorem dX8_target_8 : decode cX8_target 8 = .ok (.invokevirtual 239, 3) := by decide +kernel
theorem dX8_target_11 : decode cX8_target 11 = .ok (.invokestatic 75, 3) := by decide +kernel
theorem dX8_target_14 : decode cX8_target 14 = .ok (.aload_n 3, 1) := by decide +kernel
theorem dX8_target_15 : decode cX8_target 15 = .ok (.aload_n 3, 1) := by decide +kernel
theorem dX8_target_16 : decode cX8_target 16 = .ok (.iload_n 2, 1) := by decide +kernel
theorem dX8_target_17 : decode cX8_target 17 = .ok (.invokevirtual 245, 3) := by decide +kernel
theorem dX8_target_20 : decode cX8_target 20 = .ok (.aload_n 3, 1) := by decide +kernel
theorem dX8_target_21 : decode cX8_target 21 = .ok (.iload_n 2, 1) := by decide +kernel
theorem dX8_target_22 : decode cX8_target 22 = .ok (.invokevirtual 248, 3) := by decide +kernel
theorem dX8_target_25 : decode cX8_target 25 = .ok (.invokevirtual 251, 3) := by decide +kernel
theorem dX8_target_28 : decode cX8_target 28 = .ok (.ireturn, 1) := by decide +kernel
theorem dX8_largeOrder_0 : decode cX8_largeOrder 0 = .ok (.aload_n 0, 1) := by decide +kernel
theorem dX8_largeOrder_1 : decode cX8_largeOrder 1 = .ok (.iload_n 1, 1) := by decide +kernel
theorem dX8_largeOrder_2 : decode cX8_largeOrder 2 = .ok (.invokevirtual 194, 3) := by decide +kernel
theorem dX8_largeOrder_5 : decode cX8_largeOrder 5 = .ok (.astore_n 3, 1) := by decide +kernel
theorem dX8_largeOrder_6 : decode cX8_largeOrder 6 = .ok (.aload_n 3, 1) := by decide +kernel
theorem dX8_largeOrder_7 : decode cX8_largeOrder 7 = .ok (.iload_n 2, 1) := by decide +kernel
theorem dX8_largeOrder_8 : decode cX8_largeOrder 8 = .ok (.invokevirtual 239, 3) := by decide +kernel
theorem dX8_largeOrder_11 : decode cX8_largeOrder 11 = .ok (.invokestatic 75, 3) := by decide +kernel
theorem dX8_largeOrder_14 : decode cX8_largeOrder 14 = .ok (.aload_n 3, 1) := by decide +kernel
theorem dX8_largeOrder_15 : decode cX8_largeOrder 15 = .ok (.iload_n 2, 1) := by decide +kernel
theorem dX8_largeOrder_16 : decode cX8_largeOrder 16 = .ok (.invokevirtual 254, 3) := by decide +kernel
theorem dX8_largeOrder_19 : decode cX8_largeOrder 19 = .ok (.ireturn, 1) := by decide +kernel
theorem dX8_between_0 : decode cX8_between 0 = .ok (.aload_n 0, 1) := by decide +kernel
theorem dX8_between_1 : decode cX8_between 1 = .ok (.iload_n 1, 1) := by decide +kernel
theorem dX8_between_2 : decode cX8_between 2 = .ok (.invokevirtual 154, 3) := by decide +kernel
theorem dX8_between_5 : decode cX8_between 5 = .ok (.astore 4, 2) := by decide +kernel
theorem dX8_between_7 : decode cX8_between 7 = .ok (.aload 4, 2) := by decide +kernel
theorem dX8_between_9 : decode cX8_between 9 = .ok (.getfield 158, 3) := by decide +kernel
theorem dX8_between_12 : decode cX8_between 12 = .ok (.iload_n 2, 1) := by decide +kernel
theorem dX8_between_13 : decode cX8_between 13 = .ok (.invokevirtual 128, 3) := by decide +kernel
theorem dX8_between_16 : decode cX8_between 16 = .ok (.ifCond .eq 19, 3) := by decide +kernel
theorem dX8_between_19 : decode cX8_between 19 = .ok (.aload 4, 2) := by decide +kernel
theorem dX8_between_21 : decode cX8_between 21 = .ok (.getfield 158, 3) := by decide +kernel
theorem dX8_between_24 : decode cX8_between 24 = .ok (.iload_n 3, 1) := by decide +kernel
theorem dX8_between_25 : decode cX8_between 25 = .ok (.invokevirtual 128, 3) := by decide +kernel
theorem dX8_between_28 : decode cX8_between 28 = .ok (.ifCond .eq 7, 3) := by decide +kernel
theorem dX8_between_31 : decode cX8_between 31 = .ok (.iconst 1, 1) := by decide +kernel
theorem dX8_between_32 : decode cX8_between 32 = .ok (.goto 4, 3) := by decide +kernel
theorem dX8_between_35 : decode cX8_between 35 = .ok (.iconst 0, 1) := by decide +kernel
theorem dX8_between_36 : decode cX8_between 36 = .ok (.invokestatic 45, 3) := by decide +kernel
theorem dX8_between_39 : decode cX8_between 39 = .ok (.aload 4, 2) := by decide +kernel
theorem dX8_between_41 : decode cX8_between 41 = .ok (.getfield 176, 3) := by decide +kernel
theorem dX8_between_44 : decode cX8_between 44 = .ok (.ifCond .ne 7, 3) := by decide +kernel
theorem dX8_between_47 : decode cX8_between 47 = .ok (.iconst 1, 1) := by decide +kernel
theorem dX8_between_48 : decode cX8_between 48 = .ok (.goto 4, 3) := by decide +kernel
theorem dX8_between_51 : decode cX8_between 51 = .ok (.iconst 0, 1) := by decide +kernel
theorem dX8_between_52 : decode cX8_between 52 = .ok (.invokestatic 75, 3) := by decide +kernel
theorem dX8_between_55 : decode cX8_between 55 = .ok (.aload 4, 2) := by decide +kernel
theorem dX8_between_57 : decode cX8_between 57 = .ok (.iload_n 2, 1) := by decide +kernel
theorem dX8_between_58 : decode cX8_between 58 = .ok (.iload_n 3, 1) := by decide +kernel
theorem dX8_between_59 : decode cX8_between 59 = .ok (.invokevirtual 257, 3) := by decide +kernel
theorem dX8_between_62 : decode cX8_between 62 = .ok (.ireturn, 1) := by decide +kernel
theorem dX8_top_0 : decode cX8_top 0 = .ok (.aload_n 0, 1) := by decide +kernel
theorem dX8_top_1 : decode cX8_top 1 = .ok (.iload_n 1, 1) := by decide +kernel
theorem dX8_top_2 : decode cX8_top 2 = .ok (.invokevirtual 260, 3) := by decide +kernel
theorem dX8_top_5 : decode cX8_top 5 = .ok (.astore_n 3, 1) := by decide +kernel
theorem dX8_top_6 : decode cX8_top 6 = .ok (.aload_n 3, 1) := by decide +kernel
theorem dX8_top_7 : decode cX8_top 7 = .ok (.getfield 271, 3) := by decide +kernel
theorem dX8_top_10 : decode cX8_top 10 = .ok (.getfield 167, 3) := by decide +kernel
theorem dX8_top_13 : decode cX8_top 13 = .ok (.iload_n 2, 1) := by decide +kernel
theorem dX8_top_14 : decode cX8_top 14 = .ok (.invokevirtual 128, 3) := by decide +kernel
theorem dX8_top_17 : decode cX8_top 17 = .ok (.invokestatic 45, 3) := by decide +kernel
theorem dX8_top_20 : decode cX8_top 20 = .ok (.aload_n 3, 1) := by decide +kernel
theorem dX8_top_21 : decode cX8_top 21 = .ok (.iload_n 2, 1) := by decide +kernel
theorem dX8_top_22 : decode cX8_top 22 = .ok (.invokevirtual 274, 3) := by decide +kernel
theorem dX8_top_25 : decode cX8_top 25 = .ok (.ireturn, 1) := by decide +kernel
theorem dX8_bottom_0 : decode cX8_bottom 0 = .ok (.aload_n 0, 1) := by decide +kernel
theorem dX8_bottom_1 : decode cX8_bottom 1 = .ok (.iload_n 1, 1) := by decide +kernel
theorem dX8_bottom_2 : decode cX8_bottom 2 = .ok (.invokevirtual 260, 3) := by decide +kernel
theorem dX8_bottom_5 : decode cX8_bottom 5 = .ok (.astore_n 3, 1) := by decide +kernel
theorem dX8_bottom_6 : decode cX8_bottom 6 = .ok (.aload_n 3, 1) := by decide +kernel
theorem dX8_bottom_7 : decode cX8_bottom 7 = .ok (.getfield 271, 3) := by decide +kernel
theorem dX8_bottom_10 : decode cX8_bottom 10 = .ok (.getfield 158, 3) := by decide +kernel
theorem dX8_bottom_13 : decode cX8_bottom 13 = .ok (.iload_n 2, 1) := by decide +kernel
theorem dX8_bottom_14 : decode cX8_bottom 14 = .ok (.invokevirtual 128, 3) := by decide +kernel
theorem dX8_bottom_17 : decode cX8_bottom 17 = .ok (.invokestatic 45, 3) := by decide +kernel
theorem dX8_bottom_20 : decode cX8_bottom 20 = .ok (.aload_n 3, 1) := by decide +kernel
theorem dX8_bottom_21 : decode cX8_bottom 21 = .ok (.iload_n 2, 1) := by decide +kernel
theorem dX8_bottom_22 : decode cX8_bottom 22 = .ok (.invokevirtual 277, 3) := by decide +kernel
theorem dX8_bottom_25 : decode cX8_bottom 25 = .ok (.ireturn, 1) := by decide +kernel
theorem dX8_arrowWhy_0 : decode cX8_arrowWhy 0 = .ok (.aload_n 0, 1) := by decide +kernel
theorem dX8_arrowWhy_1 : decode cX8_arrowWhy 1 = .ok (.iload_n 1, 1) := by decide +kernel
theorem dX8_arrowWhy_2 : decode cX8_arrowWhy 2 = .ok (.invokevirtual 260, 3) := by decide +kernel
theorem dX8_arrowWhy_5 : decode cX8_arrowWhy 5 = .ok (.invokevirtual 280, 3) := by decide +kernel
theorem dX8_arrowWhy_8 : decode cX8_arrowWhy 8 = .ok (.ireturn, 1) := by decide +kernel
theorem dX8_ladder_0 : decode cX8_ladder 0 = .ok (.aload_n 0, 1) := by decide +kernel
theorem dX8_ladder_1 : decode cX8_ladder 1 = .ok (.iload_n 1, 1) := by decide +kernel
theorem dX8_ladder_2 : decode cX8_ladder 2 = .ok (.invokevirtual 154, 3) := by decide +kernel
theorem dX8_ladder_5 : decode cX8_ladder 5 = .ok (.astore_n 3, 1) := by decide +kernel
theorem dX8_ladder_6 : decode cX8_ladder 6 = .ok (.aload_n 0, 1) := by decide +kernel
theorem dX8_ladder_7 : decode cX8_ladder 7 = .ok (.iload_n 2, 1) := by decide +kernel
theorem dX8_ladder_8 : decode cX8_ladder 8 = .ok (.invokevirtual 154, 3) := by decide +kernel
theorem dX8_ladder_11 : decode cX8_ladder 11 = .ok (.astore 4, 2) := by decide +kernel
theorem dX8_ladder_13 : decode cX8_ladder 13 = .ok (.aload_n 0, 1) := by decide +kernel
theorem dX8_ladder_14 : decode cX8_ladder 14 = .ok (.getfield 20, 3) := by decide +kernel
theorem dX8_ladder_17 : decode cX8_ladder 17 = .ok (.aload_n 3, 1) := by decide +kernel
theorem dX8_ladder_18 : decode cX8_ladder 18 = .ok (.getfield 270, 3) := by decide +kernel
theorem dX8_ladder_21 : decode cX8_ladder 21 = .ok (.aload 4, 2) := by decide +kernel
theorem dX8_ladder_23 : decode cX8_ladder 23 = .ok (.getfield 270, 3) := by decide +kernel
theorem dX8_ladder_26 : decode cX8_ladder 26 = .ok (.aload_n 0, 1) := by decide +kernel
theorem dX8_ladder_27 : decode cX8_ladder 27 = .ok (.getfield 20, 3) := by decide +kernel
theorem dX8_ladder_30 : decode cX8_ladder 30 = .ok (.invokevirtual 286, 3) := by decide +kernel
theorem dX8_ladder_33 : decode cX8_ladder 33 = .ok (.invokevirtual 289, 3) := by decide +kernel
theorem dX8_ladder_36 : decode cX8_ladder 36 = .ok (.ireturn, 1) := by decide +kernel
theorem dX8_through_0 : decode cX8_through 0 = .ok (.aload_n 0, 1) := by decide +kernel
theorem dX8_through_1 : decode cX8_through 1 = .ok (.iload_n 1, 1) := by decide +kernel
theorem dX8_through_2 : decode cX8_through 2 = .ok (.invokevirtual 260, 3) := by decide +kernel
theorem dX8_through_5 : decode cX8_through 5 = .ok (.astore 4, 2) := by decide +kernel
theorem dX8_through_7 : decode cX8_through 7 = .ok (.aload_n 0, 1) := by decide +kernel
theorem dX8_through_8 : decode cX8_through 8 = .ok (.iload_n 2, 1) := by decide +kernel
theorem dX8_through_9 : decode cX8_through 9 = .ok (.invokevirtual 260, 3) := by decide +kernel
theorem dX8_through_12 : decode cX8_through 12 = .ok (.astore 5, 2) := by decide +kernel
theorem dX8_through_14 : decode cX8_through 14 = .ok (.aload 4, 2) := by decide +kernel
theorem dX8_through_16 : decode cX8_through 16 = .ok (.getfield 271, 3) := by decide +kernel
theorem dX8_through_19 : decode cX8_through 19 = .ok (.getfield 167, 3) := by decide +kernel
theorem dX8_through_22 : decode cX8_through 22 = .ok (.iload_n 3, 1) := by decide +kernel
theorem dX8_through_23 : decode cX8_through 23 = .ok (.invokevirtual 128, 3) := by decide +kernel
theorem dX8_through_26 : decode cX8_through 26 = .ok (.invokestatic 45, 3) := by decide +kernel
theorem dX8_through_29 : decode cX8_through 29 = .ok (.aload 4, 2) := by decide +kernel
theorem dX8_through_31 : decode cX8_through 31 = .ok (.getfield 264, 3) := by decide +kernel
theorem dX8_through_34 : decode cX8_through 34 = .ok (.getfield 270, 3) := by decide +kernel
theorem dX8_through_37 : decode cX8_through 37 = .ok (.aload 5, 2) := by decide +kernel
theorem dX8_through_39 : decode cX8_through 39 = .ok (.getfield 271, 3) := by decide +kernel
theorem dX8_through_42 : decode cX8_through 42 = .ok (.getfield 270, 3) := by decide +kernel
theorem dX8_through_45 : decode cX8_through 45 = .ok (.if_icmp .ne 7, 3) := by decide +kernel
theorem dX8_through_48 : decode cX8_through 48 = .ok (.iconst 1, 1) := by decide +kernel
theorem dX8_through_49 : decode cX8_through 49 = .ok (.goto 4, 3) := by decide +kernel
theorem dX8_through_52 : decode cX8_through 52 = .ok (.iconst 0, 1) := by decide +kernel
theorem dX8_through_53 : decode cX8_through 53 = .ok (.invokestatic 75, 3) := by decide +kernel
theorem dX8_through_56 : decode cX8_through 56 = .ok (.aload 5, 2) := by decide +kernel
theorem dX8_through_58 : decode cX8_through 58 = .ok (.aload 4, 2) := by decide +kernel
theorem dX8_through_60 : decode cX8_through 60 = .ok (.iload_n 3, 1) := by decide +kernel
theorem dX8_through_61 : decode cX8_through 61 = .ok (.invokevirtual 274, 3) := by decide +kernel
theorem dX8_through_64 : decode cX8_through 64 = .ok (.invokevirtual 274, 3) := by decide +kernel
theorem dX8_through_67 : decode cX8_through 67 = .ok (.ireturn, 1) := by decide +kernel
theorem dX8_account_0 : decode cX8_account 0 = .ok (.aload_n 0, 1) := by decide +kernel
theorem dX8_account_1 : decode cX8_account 1 = .ok (.invokevirtual 100, 3) := by decide +kernel
theorem dX8_account_4 : decode cX8_account 4 = .ok (.iload_n 1, 1) := by decide +kernel
theorem dX8_account_5 : decode cX8_account 5 = .ok (.ifCond .lt 12, 3) := by decide +kernel
theorem dX8_account_8 : decode cX8_account 8 = .ok (.iload_n 1, 1) := by decide +kernel
theorem dX8_account_9 : decode cX8_account 9 = .ok (.iconst 3, 1) := by decide +kernel
theorem dX8_account_10 : decode cX8_account 10 = .ok (.if_icmp .ge 7, 3) := by decide +kernel
theorem dX8_account_13 : decode cX8_account 13 = .ok (.iconst 1, 1) := by decide +kernel
theorem dX8_account_14 : decode cX8_account 14 = .ok (.goto 4, 3) := by decide +kernel
theorem dX8_account_17 : decode cX8_account 17 = .ok (.iconst 0, 1) := by decide +kernel
theorem dX8_account_18 : decode cX8_account 18 = .ok (.invokestatic 75, 3) := by decide +kernel
theorem dX8_account_21 : decode cX8_account 21 = .ok (.aload_n 0, 1) := by decide +kernel
theorem dX8_account_22 : decode cX8_account 22 = .ok (.getfield 20, 3) := by decide +kernel
theorem dX8_account_25 : decode cX8_account 25 = .ok (.getfield 296, 3) := by decide +kernel
theorem dX8_account_28 : decode cX8_account 28 = .ok (.iload_n 1, 1) := by decide +kernel
theorem dX8_account_29 : decode cX8_account 29 = .ok (.invokestatic 223, 3) := by decide +kernel
theorem dX8_account_32 : decode cX8_account 32 = .ok (.ireturn, 1) := by decide +kernel
theorem dX8_writeModule_0 : decode cX8_writeModule 0 = .ok (.aload_n 0, 1) := by decide +kernel
theorem dX8_writeModule_1 : decode cX8_writeModule 1 = .ok (.iload_n 1, 1) := by decide +kernel
theorem dX8_writeModule_2 : decode cX8_writeModule 2 = .ok (.invokevirtual 154, 3) := by decide +kernel
theorem dX8_writeModule_5 : decode cX8_writeModule 5 = .ok (.astore_n 2, 1) := by decide +kernel
theorem dX8_writeModule_6 : decode cX8_writeModule 6 = .ok (.aload_n 0, 1) := by decide +kernel
theorem dX8_writeModule_7 : decode cX8_writeModule 7 = .ok (.getfield 20, 3) := by decide +kernel
theorem dX8_writeModule_10 : decode cX8_writeModule 10 = .ok (.getfield 91, 3) := by decide +kernel
theorem dX8_writeModule_13 : decode cX8_writeModule 13 = .ok (.astore_n 3, 1) := by decide +kernel
theorem dX8_writeModule_14 : decode cX8_writeModule 14 = .ok (.aload_n 0, 1) := by decide +kernel
theorem dX8_writeModule_15 : decode cX8_writeModule 15 = .ok (.iconst 0, 1) := by decide +kernel
theorem dX8_writeModule_16 : decode cX8_writeModule 16 = .ok (.putfield 299, 3) := by decide +kernel
theorem dX8_writeModule_19 : decode cX8_writeModule 19 = .ok (.iconst 0, 1) := by decide +kernel
theorem dX8_writeModule_20 : decode cX8_writeModule 20 = .ok (.istore 4, 2) := by decide +kernel
theorem dX8_writeModule_22 : decode cX8_writeModule 22 = .ok (.iload 4, 2) := by decide +kernel
theorem dX8_writeModule_24 : decode cX8_writeModule 24 = .ok (.aload_n 3, 1) := by decide +kernel
theorem dX8_writeModule_25 : decode cX8_writeModule 25 = .ok (.iload_n 1, 1) := by decide +kernel
theorem dX8_writeModule_26 : decode cX8_writeModule 26 = .ok (.invokevirtual 111, 3) := by decide +kernel
theorem dX8_writeModule_29 : decode cX8_writeModule 29 = .ok (.if_icmp .ge 20, 3) := by decide +kernel
theorem dX8_writeModule_32 : decode cX8_writeModule 32 = .ok (.aload_n 0, 1) := by decide +kernel
theorem dX8_writeModule_33 : decode cX8_writeModule 33 = .ok (.aload_n 3, 1) := by decide +kernel
theorem dX8_writeModule_34 : decode cX8_writeModule 34 = .ok (.iload_n 1, 1) := by decide +kernel
theorem dX8_writeModule_35 : decode cX8_writeModule 35 = .ok (.iload 4, 2) := by decide +kernel
theorem dX8_writeModule_37 : decode cX8_writeModule 37 = .ok (.invokevirtual 115, 3) := by decide +kernel
theorem dX8_writeModule_40 : decode cX8_writeModule 40 = .ok (.invokevirtual 302, 3) := by decide +kernel
theorem dX8_writeModule_43 : decode cX8_writeModule 43 = .ok (.iinc 4 1, 3) := by decide +kernel
theorem dX8_writeModule_46 : decode cX8_writeModule 46 = .ok (.goto (-24), 3) := by decide +kernel
theorem dX8_writeModule_49 : decode cX8_writeModule 49 = .ok (.iconst 0, 1) := by decide +kernel
theorem dX8_writeModule_50 : decode cX8_writeModule 50 = .ok (.istore 4, 2) := by decide +kernel
theorem dX8_writeModule_52 : decode cX8_writeModule 52 = .ok (.iload 4, 2) := by decide +kernel
theorem dX8_writeModule_54 : decode cX8_writeModule 54 = .ok (.aload_n 2, 1) := by decide +kernel
theorem dX8_writeModule_55 : decode cX8_writeModule 55 = .ok (.getfield 167, 3) := by decide +kernel
theorem dX8_writeModule_58 : decode cX8_writeModule 58 = .ok (.getfield 123, 3) := by decide +kernel
theorem dX8_writeModule_61 : decode cX8_writeModule 61 = .ok (.if_icmp .ge 38, 3) := by decide +kernel
theorem dX8_writeModule_64 : decode cX8_writeModule 64 = .ok (.aload_n 0, 1) := by decide +kernel
theorem dX8_writeModule_65 : decode cX8_writeModule 65 = .ok (.iload 4, 2) := by decide +kernel
theorem dX8_writeModule_67 : decode cX8_writeModule 67 = .ok (.ifCond .ne 8, 3) := by decide +kernel
theorem dX8_writeModule_70 : decode cX8_writeModule 70 = .ok (.bipush 58, 2) := by decide +kernel
theorem dX8_writeModule_72 : decode cX8_writeModule 72 = .ok (.goto 5, 3) := by decide +kernel
theorem dX8_writeModule_75 : decode cX8_writeModule 75 = .ok (.bipush 44, 2) := by decide +kernel
theorem dX8_writeModule_77 : decode cX8_writeModule 77 = .ok (.invokevirtual 302, 3) := by decide +kernel
theorem dX8_writeModule_80 : decode cX8_writeModule 80 = .ok (.aload_n 0, 1) := by decide +kernel
theorem dX8_writeModule_81 : decode cX8_writeModule 81 = .ok (.bipush 48, 2) := by decide +kernel
theorem dX8_writeModule_83 : decode cX8_writeModule 83 = .ok (.aload_n 2, 1) := by decide +kernel
theorem dX8_writeModule_84 : decode cX8_writeModule 84 = .ok (.iload 4, 2) := by decide +kernel
theorem dX8_writeModule_86 : decode cX8_writeModule 86 = .ok (.invokevirtual 170, 3) := by decide +kernel
theorem dX8_writeModule_89 : decode cX8_writeModule 89 = .ok (.iadd, 1) := by decide +kernel
theorem dX8_writeModule_90 : decode cX8_writeModule 90 = .ok (.invokevirtual 302, 3) := by decide +kernel
theorem dX8_writeModule_93 : decode cX8_writeModule 93 = .ok (.iinc 4 1, 3) := by decide +kernel
theorem dX8_writeModule_96 : decode cX8_writeModule 96 = .ok (.goto (-44), 3) := by decide +kernel
theorem dX8_writeModule_99 : decode cX8_writeModule 99 = .ok (.aload_n 2, 1) := by decide +kernel
theorem dX8_writeModule_100 : decode cX8_writeModule 100 = .ok (.getfield 176, 3) := by decide +kernel
theorem dX8_writeModule_103 : decode cX8_writeModule 103 = .ok (.ifCond .eq 20, 3) := by decide +kernel
theorem dX8_writeModule_106 : decode cX8_writeModule 106 = .ok (.aload_n 0, 1) := by decide +kernel
theorem dX8_writeModule_107 : decode cX8_writeModule 107 = .ok (.bipush 59, 2) := by decide +kernel
theorem dX8_writeModule_109 : decode cX8_writeModule 109 = .ok (.invokevirtual 302, 3) := by decide +kernel
theorem dX8_writeModule_112 : decode cX8_writeModule 112 = .ok (.aload_n 0, 1) := by decide +kernel
theorem dX8_writeModule_113 : decode cX8_writeModule 113 = .ok (.bipush 48, 2) := by decide +kernel
theorem dX8_writeModule_115 : decode cX8_writeModule 115 = .ok (.aload_n 2, 1) := by decide +kernel
theorem dX8_writeModule_116 : decode cX8_writeModule 116 = .ok (.getfield 176, 3) := by decide +kernel
theorem dX8_writeModule_119 : decode cX8_writeModule 119 = .ok (.iadd, 1) := by decide +kernel
theorem dX8_writeModule_120 : decode cX8_writeModule 120 = .ok (.invokevirtual 302, 3) := by decide +kernel
theorem dX8_writeModule_123 : decode cX8_writeModule 123 = .ok (.aload_n 0, 1) := by decide +kernel
theorem dX8_writeModule_124 : decode cX8_writeModule 124 = .ok (.getfield 299, 3) := by decide +kernel
theorem dX8_writeModule_127 : decode cX8_writeModule 127 = .ok (.ireturn, 1) := by decide +kernel
theorem dX8_writeTable_0 : decode cX8_writeTable 0 = .ok (.aload_n 0, 1) := by decide +kernel
theorem dX8_writeTable_1 : decode cX8_writeTable 1 = .ok (.iload_n 1, 1) := by decide +kernel
theorem dX8_writeTable_2 : decode cX8_writeTable 2 = .ok (.invokevirtual 119, 3) := by decide +kernel
theorem dX8_writeTable_5 : decode cX8_writeTable 5 = .ok (.astore_n 2, 1) := by decide +kernel
theorem dX8_writeTable_6 : decode cX8_writeTable 6 = .ok (.aload_n 0, 1) := by decide +kernel
theorem dX8_writeTable_7 : decode cX8_writeTable 7 = .ok (.iconst 0, 1) := by decide +kernel
theorem dX8_writeTable_8 : decode cX8_writeTable 8 = .ok (.putfield 299, 3) := by decide +kernel
theorem dX8_writeTable_11 : decode cX8_writeTable 11 = .ok (.iconst 0, 1) := by decide +kernel
theorem dX8_writeTable_12 : decode cX8_writeTable 12 = .ok (.istore_n 3, 1) := by decide +kernel
theorem dX8_writeTable_13 : decode cX8_writeTable 13 = .ok (.iload_n 3, 1) := by decide +kernel
theorem dX8_writeTable_14 : decode cX8_writeTable 14 = .ok (.aload_n 2, 1) := by decide +kernel
theorem dX8_writeTable_15 : decode cX8_writeTable 15 = .ok (.getfield 123, 3) := by decide +kernel
theorem dX8_writeTable_18 : decode cX8_writeTable 18 = .ok (.if_icmp .ge 51, 3) := by decide +kernel
theorem dX8_writeTable_21 : decode cX8_writeTable 21 = .ok (.iload_n 3, 1) := by decide +kernel
theorem dX8_writeTable_22 : decode cX8_writeTable 22 = .ok (.ifCond .le 9, 3) := by decide +kernel
theorem dX8_writeTable_25 : decode cX8_writeTable 25 = .ok (.aload_n 0, 1) := by decide +kernel
theorem dX8_writeTable_26 : decode cX8_writeTable 26 = .ok (.bipush 47, 2) := by decide +kernel
theorem dX8_writeTable_28 : decode cX8_writeTable 28 = .ok (.invokevirtual 302, 3) := by decide +kernel
theorem dX8_writeTable_31 : decode cX8_writeTable 31 = .ok (.iconst 0, 1) := by decide +kernel
theorem dX8_writeTable_32 : decode cX8_writeTable 32 = .ok (.istore 4, 2) := by decide +kernel
theorem dX8_writeTable_34 : decode cX8_writeTable 34 = .ok (.iload 4, 2) := by decide +kernel
theorem dX8_writeTable_36 : decode cX8_writeTable 36 = .ok (.aload_n 2, 1) := by decide +kernel
theorem dX8_writeTable_37 : decode cX8_writeTable 37 = .ok (.getfield 123, 3) := by decide +kernel
theorem dX8_writeTable_40 : decode cX8_writeTable 40 = .ok (.if_icmp .ge 23, 3) := by decide +kernel
theorem dX8_writeTable_43 : decode cX8_writeTable 43 = .ok (.aload_n 0, 1) := by decide +kernel
theorem dX8_writeTable_44 : decode cX8_writeTable 44 = .ok (.bipush 48, 2) := by decide +kernel
theorem dX8_writeTable_46 : decode cX8_writeTable 46 = .ok (.aload_n 2, 1) := by decide +kernel
theorem dX8_writeTable_47 : decode cX8_writeTable 47 = .ok (.iload_n 3, 1) := by decide +kernel
theorem dX8_writeTable_48 : decode cX8_writeTable 48 = .ok (.iload 4, 2) := by decide +kernel
theorem dX8_writeTable_50 : decode cX8_writeTable 50 = .ok (.invokevirtual 129, 3) := by decide +kernel
theorem dX8_writeTable_53 : decode cX8_writeTable 53 = .ok (.iadd, 1) := by decide +kernel
theorem dX8_writeTable_54 : decode cX8_writeTable 54 = .ok (.invokevirtual 302, 3) := by decide +kernel
theorem dX8_writeTable_57 : decode cX8_writeTable 57 = .ok (.iinc 4 1, 3) := by decide +kernel
theorem dX8_writeTable_60 : decode cX8_writeTable 60 = .ok (.goto (-26), 3) := by decide +kernel
theorem dX8_writeTable_63 : decode cX8_writeTable 63 = .ok (.iinc 3 1, 3) := by decide +kernel
theorem dX8_writeTable_66 : decode cX8_writeTable 66 = .ok (.goto (-53), 3) := by decide +kernel
theorem dX8_writeTable_69 : decode cX8_writeTable 69 = .ok (.aload_n 0, 1) := by decide +kernel
theorem dX8_writeTable_70 : decode cX8_writeTable 70 = .ok (.getfield 299, 3) := by decide +kernel
theorem dX8_writeTable_73 : decode cX8_writeTable 73 = .ok (.ireturn, 1) := by decide +kernel
theorem dX8_textByte_0 : decode cX8_textByte 0 = .ok (.iload_n 1, 1) := by decide +kernel
theorem dX8_textByte_1 : decode cX8_textByte 1 = .ok (.ifCond .lt 24, 3) := by decide +kernel
theorem dX8_textByte_4 : decode cX8_textByte 4 = .ok (.iload_n 1, 1) := by decide +kernel
theorem dX8_textByte_5 : decode cX8_textByte 5 = .ok (.aload_n 0, 1) := by decide +kernel
theorem dX8_textByte_6 : decode cX8_textByte 6 = .ok (.getfield 299, 3) := by decide +kernel
theorem dX8_textByte_9 : decode cX8_textByte 9 = .ok (.if_icmp .ge 16, 3) := by decide +kernel
theorem dX8_textByte_12 : decode cX8_textByte 12 = .ok (.iload_n 1, 1) := by decide +kernel
theorem dX8_textByte_13 : decode cX8_textByte 13 = .ok (.aload_n 0, 1) := by decide +kernel
theorem dX8_textByte_14 : decode cX8_textByte 14 = .ok (.getfield 35, 3) := by decide +kernel
theorem dX8_textByte_17 : decode cX8_textByte 17 = .ok (.arraylength, 1) := by decide +kernel
theorem dX8_textByte_18 : decode cX8_textByte 18 = .ok (.if_icmp .ge 7, 3) := by decide +kernel
theorem dX8_textByte_21 : decode cX8_textByte 21 = .ok (.iconst 1, 1) := by decide +kernel
theorem dX8_textByte_22 : decode cX8_textByte 22 = .ok (.goto 4, 3) := by decide +kernel
theorem dX8_textByte_25 : decode cX8_textByte 25 = .ok (.iconst 0, 1) := by decide +kernel
theorem dX8_textByte_26 : decode cX8_textByte 26 = .ok (.invokestatic 45, 3) := by decide +kernel
theorem dX8_textByte_29 : decode cX8_textByte 29 = .ok (.aload_n 0, 1) := by decide +kernel
theorem dX8_textByte_30 : decode cX8_textByte 30 = .ok (.getfield 35, 3) := by decide +kernel
theorem dX8_textByte_33 : decode cX8_textByte 33 = .ok (.iload_n 1, 1) := by decide +kernel
theorem dX8_textByte_34 : decode cX8_textByte 34 = .ok (.baload, 1) := by decide +kernel
theorem dX8_textByte_35 : decode cX8_textByte 35 = .ok (.ireturn, 1) := by decide +kernel
theorem dX8_setBoundary_0 : decode cX8_setBoundary 0 = .ok (.aload_n 0, 1) := by decide +kernel
theorem dX8_setBoundary_1 : decode cX8_setBoundary 1 = .ok (.iload_n 1, 1) := by decide +kernel
theorem dX8_setBoundary_2 : decode cX8_setBoundary 2 = .ok (.invokevirtual 154, 3) := by decide +kernel
theorem dX8_setBoundary_5 : decode cX8_setBoundary 5 = .ok (.astore 4, 2) := by decide +kernel
theorem dX8_setBoundary_7 : decode cX8_setBoundary 7 = .ok (.aload 4, 2) := by decide +kernel
theorem dX8_setBoundary_9 : decode cX8_setBoundary 9 = .ok (.getfield 167, 3) := by decide +kernel
theorem dX8_setBoundary_12 : decode cX8_setBoundary 12 = .ok (.iload_n 2, 1) := by decide +kernel
theorem dX8_setBoundary_13 : decode cX8_setBoundary 13 = .ok (.invokevirtual 128, 3) := by decide +kernel
theorem dX8_setBoundary_16 : decode cX8_setBoundary 16 = .ok (.ifCond .eq 19, 3) := by decide +kernel
theorem dX8_setBoundary_19 : decode cX8_setBoundary 19 = .ok (.aload 4, 2) := by decide +kernel
theorem dX8_setBoundary_21 : decode cX8_setBoundary 21 = .ok (.getfield 158, 3) := by decide +kernel
theorem dX8_setBoundary_24 : decode cX8_setBoundary 24 = .ok (.iload_n 3, 1) := by decide +kernel
theorem dX8_setBoundary_25 : decode cX8_setBoundary 25 = .ok (.invokevirtual 128, 3) := by decide +kernel
theorem dX8_setBoundary_28 : decode cX8_setBoundary 28 = .ok (.ifCond .eq 7, 3) := by decide +kernel
theorem dX8_setBoundary_31 : decode cX8_setBoundary 31 = .ok (.iconst 1, 1) := by decide +kernel
theorem dX8_setBoundary_32 : decode cX8_setBoundary 32 = .ok (.goto 4, 3) := by decide +kernel
theorem dX8_setBoundary_35 : decode cX8_setBoundary 35 = .ok (.iconst 0, 1) := by decide +kernel
theorem dX8_setBoundary_36 : decode cX8_setBoundary 36 = .ok (.invokestatic 45, 3) := by decide +kernel
theorem dX8_setBoundary_39 : decode cX8_setBoundary 39 = .ok (.aload 4, 2) := by decide +kernel
theorem dX8_setBoundary_41 : decode cX8_setBoundary 41 = .ok (.iload_n 2, 1) := by decide +kernel
theorem dX8_setBoundary_42 : decode cX8_setBoundary 42 = .ok (.invokevirtual 170, 3) := by decide +kernel
theorem dX8_setBoundary_45 : decode cX8_setBoundary 45 = .ok (.istore 5, 2) := by decide +kernel
theorem dX8_setBoundary_47 : decode cX8_setBoundary 47 = .ok (.aload_n 0, 1) := by decide +kernel
theorem dX8_setBoundary_48 : decode cX8_setBoundary 48 = .ok (.invokevirtual 305, 3) := by decide +kernel
theorem dX8_setBoundary_51 : decode cX8_setBoundary 51 = .ok (.aload 4, 2) := by decide +kernel
theorem dX8_setBoundary_53 : decode cX8_setBoundary 53 = .ok (.getfield 308, 3) := by decide +kernel
theorem dX8_setBoundary_56 : decode cX8_setBoundary 56 = .ok (.iload_n 2, 1) := by decide +kernel
theorem dX8_setBoundary_57 : decode cX8_setBoundary 57 = .ok (.iload_n 3, 1) := by decide +kernel
theorem dX8_setBoundary_58 : decode cX8_setBoundary 58 = .ok (.invokestatic 311, 3) := by decide +kernel
theorem dX8_setBoundary_61 : decode cX8_setBoundary 61 = .ok (.aload_n 0, 1) := by decide +kernel
theorem dX8_setBoundary_62 : decode cX8_setBoundary 62 = .ok (.getfield 20, 3) := by decide +kernel
theorem dX8_setBoundary_65 : decode cX8_setBoundary 65 = .ok (.aload 4, 2) := by decide +kernel
theorem dX8_setBoundary_67 : decode cX8_setBoundary 67 = .ok (.invokevirtual 315, 3) := by decide +kernel
theorem dX8_setBoundary_70 : decode cX8_setBoundary 70 = .ok (.iload 5, 2) := by decide +kernel
theorem dX8_setBoundary_72 : decode cX8_setBoundary 72 = .ok (.ireturn, 1) := by decide +kernel
theorem dX8_setAct_0 : decode cX8_setAct 0 = .ok (.aload_n 0, 1) := by decide +kernel
theorem dX8_setAct_1 : decode cX8_setAct 1 = .ok (.iload_n 1, 1) := by decide +kernel
theorem dX8_setAct_2 : decode cX8_setAct 2 = .ok (.invokevirtual 154, 3) := by decide +kernel
theorem dX8_setAct_5 : decode cX8_setAct 5 = .ok (.astore 5, 2) := by decide +kernel
theorem dX8_setAct_7 : decode cX8_setAct 7 = .ok (.aload 5, 2) := by decide +kernel
theorem dX8_setAct_9 : decode cX8_setAct 9 = .ok (.getfield 158, 3) := by decide +kernel
theorem dX8_setAct_12 : decode cX8_setAct 12 = .ok (.iload_n 2, 1) := by decide +kernel
theorem dX8_setAct_13 : decode cX8_setAct 13 = .ok (.invokevirtual 128, 3) := by decide +kernel
theorem dX8_setAct_16 : decode cX8_setAct 16 = .ok (.ifCond .eq 32, 3) := by decide +kernel
theorem dX8_setAct_19 : decode cX8_setAct 19 = .ok (.aload 5, 2) := by decide +kernel
theorem dX8_setAct_21 : decode cX8_setAct 21 = .ok (.getfield 167, 3) := by decide +kernel
theorem dX8_setAct_24 : decode cX8_setAct 24 = .ok (.iload_n 3, 1) := by decide +kernel
theorem dX8_setAct_25 : decode cX8_setAct 25 = .ok (.invokevirtual 128, 3) := by decide +kernel
theorem dX8_setAct_28 : decode cX8_setAct 28 = .ok (.ifCond .eq 20, 3) := by decide +kernel
theorem dX8_setAct_31 : decode cX8_setAct 31 = .ok (.aload 5, 2) := by decide +kernel
theorem dX8_setAct_33 : decode cX8_setAct 33 = .ok (.getfield 167, 3) := by decide +kernel
theorem dX8_setAct_36 : decode cX8_setAct 36 = .ok (.iload 4, 2) := by decide +kernel
theorem dX8_setAct_38 : decode cX8_setAct 38 = .ok (.invokevirtual 128, 3) := by decide +kernel
theorem dX8_setAct_41 : decode cX8_setAct 41 = .ok (.ifCond .eq 7, 3) := by decide +kernel
theorem dX8_setAct_44 : decode cX8_setAct 44 = .ok (.iconst 1, 1) := by decide +kernel
theorem dX8_setAct_45 : decode cX8_setAct 45 = .ok (.goto 4, 3) := by decide +kernel
theorem dX8_setAct_48 : decode cX8_setAct 48 = .ok (.iconst 0, 1) := by decide +kernel
theorem dX8_setAct_49 : decode cX8_setAct 49 = .ok (.invokestatic 45, 3) := by decide +kernel
theorem dX8_setAct_52 : decode cX8_setAct 52 = .ok (.aload 5, 2) := by decide +kernel
theorem dX8_setAct_54 : decode cX8_setAct 54 = .ok (.iload_n 2, 1) := by decide +kernel
theorem dX8_setAct_55 : decode cX8_setAct 55 = .ok (.iload_n 3, 1) := by decide +kernel
theorem dX8_setAct_56 : decode cX8_setAct 56 = .ok (.invokevirtual 173, 3) := by decide +kernel
theorem dX8_setAct_59 : decode cX8_setAct 59 = .ok (.istore 6, 2) := by decide +kernel
theorem dX8_setAct_61 : decode cX8_setAct 61 = .ok (.aload_n 0, 1) := by decide +kernel
theorem dX8_setAct_62 : decode cX8_setAct 62 = .ok (.invokevirtual 305, 3) := by decide +kernel
theorem dX8_setAct_65 : decode cX8_setAct 65 = .ok (.aload 5, 2) := by decide +kernel
theorem dX8_setAct_67 : decode cX8_setAct 67 = .ok (.getfield 319, 3) := by decide +kernel
theorem dX8_setAct_70 : decode cX8_setAct 70 = .ok (.iload_n 2, 1) := by decide +kernel
theorem dX8_setAct_71 : decode cX8_setAct 71 = .ok (.bipush 8, 2) := by decide +kernel
theorem dX8_setAct_73 : decode cX8_setAct 73 = .ok (.imul, 1) := by decide +kernel
theorem dX8_setAct_74 : decode cX8_setAct 74 = .ok (.iload_n 3, 1) := by decide +kernel
theorem dX8_setAct_75 : decode cX8_setAct 75 = .ok (.iadd, 1) := by decide +kernel
theorem dX8_setAct_76 : decode cX8_setAct 76 = .ok (.iload 4, 2) := by decide +kernel
theorem dX8_setAct_78 : decode cX8_setAct 78 = .ok (.invokestatic 311, 3) := by decide +kernel
theorem dX8_setAct_81 : decode cX8_setAct 81 = .ok (.aload_n 0, 1) := by decide +kernel
theorem dX8_setAct_82 : decode cX8_setAct 82 = .ok (.getfield 20, 3) := by decide +kernel
theorem dX8_setAct_85 : decode cX8_setAct 85 = .ok (.aload 5, 2) := by decide +kernel
theorem dX8_setAct_87 : decode cX8_setAct 87 = .ok (.invokevirtual 315, 3) := by decide +kernel
theorem dX8_setAct_90 : decode cX8_setAct 90 = .ok (.iload 6, 2) := by decide +kernel
theorem dX8_setAct_92 : decode cX8_setAct 92 = .ok (.ireturn, 1) := by decide +kernel
theorem dX8_rest_0 : decode cX8_rest 0 = .ok (.aload_n 0, 1) := by decide +kernel
theorem dX8_rest_1 : decode cX8_rest 1 = .ok (.iload_n 1, 1) := by decide +kernel
theorem dX8_rest_2 : decode cX8_rest 2 = .ok (.invokevirtual 154, 3) := by decide +kernel
theorem dX8_rest_5 : decode cX8_rest 5 = .ok (.astore_n 2, 1) := by decide +kernel
theorem dX8_rest_6 : decode cX8_rest 6 = .ok (.aload_n 0, 1) := by decide +kernel
theorem dX8_rest_7 : decode cX8_rest 7 = .ok (.invokevirtual 305, 3) := by decide +kernel
theorem dX8_rest_10 : decode cX8_rest 10 = .ok (.aload_n 2, 1) := by decide +kernel
theorem dX8_rest_11 : decode cX8_rest 11 = .ok (.invokevirtual 322, 3) := by decide +kernel
theorem dX8_rest_14 : decode cX8_rest 14 = .ok (.istore_n 3, 1) := by decide +kernel
theorem dX8_rest_15 : decode cX8_rest 15 = .ok (.aload_n 0, 1) := by decide +kernel
theorem dX8_rest_16 : decode cX8_rest 16 = .ok (.getfield 20, 3) := by decide +kernel
theorem dX8_rest_19 : decode cX8_rest 19 = .ok (.aload_n 2, 1) := by decide +kernel
theorem dX8_rest_20 : decode cX8_rest 20 = .ok (.invokevirtual 315, 3) := by decide +kernel
theorem dX8_rest_23 : decode cX8_rest 23 = .ok (.iload_n 3, 1) := by decide +kernel
theorem dX8_rest_24 : decode cX8_rest 24 = .ok (.ireturn, 1) := by decide +kernel
theorem dX8_conjugate_0 : decode cX8_conjugate 0 = .ok (.aload_n 0, 1) := by decide +kernel
theorem dX8_conjugate_1 : decode cX8_conjugate 1 = .ok (.iload_n 1, 1) := by decide +kernel
theorem dX8_conjugate_2 : decode cX8_conjugate 2 = .ok (.invokevirtual 154, 3) := by decide +kernel
theorem dX8_conjugate_5 : decode cX8_conjugate 5 = .ok (.astore_n 2, 1) := by decide +kernel
theorem dX8_conjugate_6 : decode cX8_conjugate 6 = .ok (.aload_n 2, 1) := by decide +kernel
theorem dX8_conjugate_7 : decode cX8_conjugate 7 = .ok (.getfield 167, 3) := by decide +kernel
theorem dX8_conjugate_10 : decode cX8_conjugate 10 = .ok (.getfield 164, 3) := by decide +kernel
theorem dX8_conjugate_13 : decode cX8_conjugate 13 = .ok (.aload_n 2, 1) := by decide +kernel
theorem dX8_conjugate_14 : decode cX8_conjugate 14 = .ok (.getfield 158, 3) := by decide +kernel
theorem dX8_conjugate_17 : decode cX8_conjugate 17 = .ok (.getfield 164, 3) := by decide +kernel
theorem dX8_conjugate_20 : decode cX8_conjugate 20 = .ok (.if_icmp .ne 7, 3) := by decide +kernel
theorem dX8_conjugate_23 : decode cX8_conjugate 23 = .ok (.iconst 1, 1) := by decide +kernel
theorem dX8_conjugate_24 : decode cX8_conjugate 24 = .ok (.goto 4, 3) := by decide +kernel
theorem dX8_conjugate_27 : decode cX8_conjugate 27 = .ok (.iconst 0, 1) := by decide +kernel
theorem dX8_conjugate_28 : decode cX8_conjugate 28 = .ok (.invokestatic 75, 3) := by decide +kernel
theorem dX8_conjugate_31 : decode cX8_conjugate 31 = .ok (.aload_n 0, 1) := by decide +kernel
theorem dX8_conjugate_32 : decode cX8_conjugate 32 = .ok (.invokevirtual 305, 3) := by decide +kernel
theorem dX8_conjugate_35 : decode cX8_conjugate 35 = .ok (.aload_n 2, 1) := by decide +kernel
theorem dX8_conjugate_36 : decode cX8_conjugate 36 = .ok (.invokevirtual 325, 3) := by decide +kernel
theorem dX8_conjugate_39 : decode cX8_conjugate 39 = .ok (.istore_n 3, 1) := by decide +kernel
theorem dX8_conjugate_40 : decode cX8_conjugate 40 = .ok (.aload_n 0, 1) := by decide +kernel
theorem dX8_conjugate_41 : decode cX8_conjugate 41 = .ok (.getfield 20, 3) := by decide +kernel
theorem dX8_conjugate_44 : decode cX8_conjugate 44 = .ok (.aload_n 2, 1) := by decide +kernel
theorem dX8_conjugate_45 : decode cX8_conjugate 45 = .ok (.invokevirtual 315, 3) := by decide +kernel
theorem dX8_conjugate_48 : decode cX8_conjugate 48 = .ok (.iload_n 3, 1) := by decide +kernel
theorem dX8_conjugate_49 : decode cX8_conjugate 49 = .ok (.ireturn, 1) := by decide +kernel
theorem dX8_setTop_0 : decode cX8_setTop 0 = .ok (.aload_n 0, 1) := by decide +kernel
theorem dX8_setTop_1 : decode cX8_setTop 1 = .ok (.iload_n 1, 1) := by decide +kernel
theorem dX8_setTop_2 : decode cX8_setTop 2 = .ok (.invokevirtual 260, 3) := by decide +kernel
theorem dX8_setTop_5 : decode cX8_setTop 5 = .ok (.astore 4, 2) := by decide +kernel
theorem dX8_setTop_7 : decode cX8_setTop 7 = .ok (.aload 4, 2) := by decide +kernel
theorem dX8_setTop_9 : decode cX8_setTop 9 = .ok (.getfield 271, 3) := by decide +kernel
theorem dX8_setTop_12 : decode cX8_setTop 12 = .ok (.getfield 167, 3) := by decide +kernel
theorem dX8_setTop_15 : decode cX8_setTop 15 = .ok (.iload_n 2, 1) := by decide +kernel
theorem dX8_setTop_16 : decode cX8_setTop 16 = .ok (.invokevirtual 128, 3) := by decide +kernel
theorem dX8_setTop_19 : decode cX8_setTop 19 = .ok (.ifCond .eq 22, 3) := by decide +kernel
theorem dX8_setTop_22 : decode cX8_setTop 22 = .ok (.aload 4, 2) := by decide +kernel
theorem dX8_setTop_24 : decode cX8_setTop 24 = .ok (.getfield 264, 3) := by decide +kernel
theorem dX8_setTop_27 : decode cX8_setTop 27 = .ok (.getfield 167, 3) := by decide +kernel
theorem dX8_setTop_30 : decode cX8_setTop 30 = .ok (.iload_n 3, 1) := by decide +kernel
theorem dX8_setTop_31 : decode cX8_setTop 31 = .ok (.invokevirtual 128, 3) := by decide +kernel
theorem dX8_setTop_34 : decode cX8_setTop 34 = .ok (.ifCond .eq 7, 3) := by decide +kernel
theorem dX8_setTop_37 : decode cX8_setTop 37 = .ok (.iconst 1, 1) := by decide +kernel
theorem dX8_setTop_38 : decode cX8_setTop 38 = .ok (.goto 4, 3) := by decide +kernel
theorem dX8_setTop_41 : decode cX8_setTop 41 = .ok (.iconst 0, 1) := by decide +kernel
theorem dX8_setTop_42 : decode cX8_setTop 42 = .ok (.invokestatic 45, 3) := by decide +kernel
theorem dX8_setTop_45 : decode cX8_setTop 45 = .ok (.aload 4, 2) := by decide +kernel
theorem dX8_setTop_47 : decode cX8_setTop 47 = .ok (.iload_n 2, 1) := by decide +kernel
theorem dX8_setTop_48 : decode cX8_setTop 48 = .ok (.invokevirtual 274, 3) := by decide +kernel
theorem dX8_setTop_51 : decode cX8_setTop 51 = .ok (.istore 5, 2) := by decide +kernel
theorem dX8_setTop_53 : decode cX8_setTop 53 = .ok (.aload_n 0, 1) := by decide +kernel
theorem dX8_setTop_54 : decode cX8_setTop 54 = .ok (.invokevirtual 305, 3) := by decide +kernel
theorem dX8_setTop_57 : decode cX8_setTop 57 = .ok (.aload 4, 2) := by decide +kernel
theorem dX8_setTop_59 : decode cX8_setTop 59 = .ok (.getfield 328, 3) := by decide +kernel
theorem dX8_setTop_62 : decode cX8_setTop 62 = .ok (.iload_n 2, 1) := by decide +kernel
theorem dX8_setTop_63 : decode cX8_setTop 63 = .ok (.iload_n 3, 1) := by decide +kernel
theorem dX8_setTop_64 : decode cX8_setTop 64 = .ok (.invokestatic 311, 3) := by decide +kernel
theorem dX8_setTop_67 : decode cX8_setTop 67 = .ok (.iload 5, 2) := by decide +kernel
theorem dX8_setTop_69 : decode cX8_setTop 69 = .ok (.ireturn, 1) := by decide +kernel
theorem dX8_setBottom_0 : decode cX8_setBottom 0 = .ok (.aload_n 0, 1) := by decide +kernel
theorem dX8_setBottom_1 : decode cX8_setBottom 1 = .ok (.iload_n 1, 1) := by decide +kernel
theorem dX8_setBottom_2 : decode cX8_setBottom 2 = .ok (.invokevirtual 260, 3) := by decide +kernel
theorem dX8_setBottom_5 : decode cX8_setBottom 5 = .ok (.astore 4, 2) := by decide +kernel
theorem dX8_setBottom_7 : decode cX8_setBottom 7 = .ok (.aload 4, 2) := by decide +kernel
theorem dX8_setBottom_9 : decode cX8_setBottom 9 = .ok (.getfield 271, 3) := by decide +kernel
theorem dX8_setBottom_12 : decode cX8_setBottom 12 = .ok (.getfield 158, 3) := by decide +kernel
theorem dX8_setBottom_15 : decode cX8_setBottom 15 = .ok (.iload_n 2, 1) := by decide +kernel
theorem dX8_setBottom_16 : decode cX8_setBottom 16 = .ok (.invokevirtual 128, 3) := by decide +kernel
theorem dX8_setBottom_19 : decode cX8_setBottom 19 = .ok (.ifCond .eq 22, 3) := by decide +kernel
theorem dX8_setBottom_22 : decode cX8_setBottom 22 = .ok (.aload 4, 2) := by decide +kernel
theorem dX8_setBottom_24 : decode cX8_setBottom 24 = .ok (.getfield 264, 3) := by decide +kernel
theorem dX8_setBottom_27 : decode cX8_setBottom 27 = .ok (.getfield 158, 3) := by decide +kernel
theorem dX8_setBottom_30 : decode cX8_setBottom 30 = .ok (.iload_n 3, 1) := by decide +kernel
theorem dX8_setBottom_31 : decode cX8_setBottom 31 = .ok (.invokevirtual 128, 3) := by decide +kernel
theorem dX8_setBottom_34 : decode cX8_setBottom 34 = .ok (.ifCond .eq 7, 3) := by decide +kernel
theorem dX8_setBottom_37 : decode cX8_setBottom 37 = .ok (.iconst 1, 1) := by decide +kernel
theorem dX8_setBottom_38 : decode cX8_setBottom 38 = .ok (.goto 4, 3) := by decide +kernel
theorem dX8_setBottom_41 : decode cX8_setBottom 41 = .ok (.iconst 0, 1) := by decide +kernel
theorem dX8_setBottom_42 : decode cX8_setBottom 42 = .ok (.invokestatic 45, 3) := by decide +kernel
theorem dX8_setBottom_45 : decode cX8_setBottom 45 = .ok (.aload 4, 2) := by decide +kernel
theorem dX8_setBottom_47 : decode cX8_setBottom 47 = .ok (.iload_n 2, 1) := by decide +kernel
theorem dX8_setBottom_48 : decode cX8_setBottom 48 = .ok (.invokevirtual 277, 3) := by decide +kernel
theorem dX8_setBottom_51 : decode cX8_setBottom 51 = .ok (.istore 5, 2) := by decide +kernel
theorem dX8_setBottom_53 : decode cX8_setBottom 53 = .ok (.aload_n 0, 1) := by decide +kernel
theorem dX8_setBottom_54 : decode cX8_setBottom 54 = .ok (.invokevirtual 305, 3) := by decide +kernel
theorem dX8_setBottom_57 : decode cX8_setBottom 57 = .ok (.aload 4, 2) := by decide +kernel
theorem dX8_setBottom_59 : decode cX8_setBottom 59 = .ok (.getfield 331, 3) := by decide +kernel
theorem dX8_setBottom_62 : decode cX8_setBottom 62 = .ok (.iload_n 2, 1) := by decide +kernel
theorem dX8_setBottom_63 : decode cX8_setBottom 63 = .ok (.iload_n 3, 1) := by decide +kernel
theorem dX8_setBottom_64 : decode cX8_setBottom 64 = .ok (.invokestatic 311, 3) := by decide +kernel
theorem dX8_setBottom_67 : decode cX8_setBottom 67 = .ok (.iload 5, 2) := by decide +kernel
theorem dX8_setBottom_69 : decode cX8_setBottom 69 = .ok (.ireturn, 1) := by decide +kernel
theorem dX8_undo_0 : decode cX8_undo 0 = .ok (.aload_n 0, 1) := by decide +kernel
theorem dX8_undo_1 : decode cX8_undo 1 = .ok (.getfield 334, 3) := by decide +kernel
theorem dX8_undo_4 : decode cX8_undo 4 = .ok (.ifCond .gt 14, 3) := by decide +kernel
theorem dX8_undo_7 : decode cX8_undo 7 = .ok (.new 337, 3) := by decide +kernel
theorem dX8_undo_10 : decode cX8_undo 10 = .ok (.dup, 1) := by decide +kernel
theorem dX8_undo_11 : decode cX8_undo 11 = .ok (.ldc_w 339, 3) := by decide +kernel
theorem dX8_undo_14 : decode cX8_undo 14 = .ok (.invokespecial 341, 3) := by decide +kernel
theorem dX8_undo_17 : decode cX8_undo 17 = .ok (.athrow, 1) := by decide +kernel
theorem dX8_undo_18 : decode cX8_undo 18 = .ok (.aload_n 0, 1) := by decide +kernel
theorem dX8_undo_19 : decode cX8_undo 19 = .ok (.dup, 1) := by decide +kernel
theorem dX8_undo_20 : decode cX8_undo 20 = .ok (.getfield 334, 3) := by decide +kernel
theorem dX8_undo_23 : decode cX8_undo 23 = .ok (.iconst 1, 1) := by decide +kernel
theorem dX8_undo_24 : decode cX8_undo 24 = .ok (.isub, 1) := by decide +kernel
theorem dX8_undo_25 : decode cX8_undo 25 = .ok (.putfield 334, 3) := by decide +kernel
theorem dX8_undo_28 : decode cX8_undo 28 = .ok (.aload_n 0, 1) := by decide +kernel
theorem dX8_undo_29 : decode cX8_undo 29 = .ok (.getfield 20, 3) := by decide +kernel
theorem dX8_undo_32 : decode cX8_undo 32 = .ok (.aload_n 0, 1) := by decide +kernel
theorem dX8_undo_33 : decode cX8_undo 33 = .ok (.getfield 29, 3) := by decide +kernel
theorem dX8_undo_36 : decode cX8_undo 36 = .ok (.aload_n 0, 1) := by decide +kernel
theorem dX8_undo_37 : decode cX8_undo 37 = .ok (.aload_n 0, 1) := by decide +kernel
theorem dX8_undo_38 : decode cX8_undo 38 = .ok (.getfield 334, 3) := by decide +kernel
theorem dX8_undo_41 : decode cX8_undo 41 = .ok (.invokevirtual 344, 3) := by decide +kernel
theorem dX8_undo_44 : decode cX8_undo 44 = .ok (.aaload, 1) := by decide +kernel
theorem dX8_undo_45 : decode cX8_undo 45 = .ok (.invokevirtual 347, 3) := by decide +kernel
theorem dX8_undo_48 : decode cX8_undo 48 = .ok (.aload_n 0, 1) := by decide +kernel
theorem dX8_undo_49 : decode cX8_undo 49 = .ok (.getfield 334, 3) := by decide +kernel
theorem dX8_undo_52 : decode cX8_undo 52 = .ok (.ireturn, 1) := by decide +kernel
theorem dX8_undoable_0 : decode cX8_undoable 0 = .ok (.aload_n 0, 1) := by decide +kernel
theorem dX8_undoable_1 : decode cX8_undoable 1 = .ok (.getfield 334, 3) := by decide +kernel
theorem dX8_undoable_4 : decode cX8_undoable 4 = .ok (.ireturn, 1) := by decide +kernel
theorem dX8_save_0 : decode cX8_save 0 = .ok (.aload_n 0, 1) := by decide +kernel
theorem dX8_save_1 : decode cX8_save 1 = .ok (.invokevirtual 100, 3) := by decide +kernel
theorem dX8_save_4 : decode cX8_save 4 = .ok (.iload_n 1, 1) := by decide +kernel
theorem dX8_save_5 : decode cX8_save 5 = .ok (.ifCond .lt 12, 3) := by decide +kernel
theorem dX8_save_8 : decode cX8_save 8 = .ok (.iload_n 1, 1) := by decide +kernel
theorem dX8_save_9 : decode cX8_save 9 = .ok (.iconst 2, 1) := by decide +kernel
theorem dX8_save_10 : decode cX8_save 10 = .ok (.if_icmp .ge 7, 3) := by decide +kernel
theorem dX8_save_13 : decode cX8_save 13 = .ok (.iconst 1, 1) := by decide +kernel
theorem dX8_save_14 : decode cX8_save 14 = .ok (.goto 4, 3) := by decide +kernel
theorem dX8_save_17 : decode cX8_save 17 = .ok (.iconst 0, 1) := by decide +kernel
theorem dX8_save_18 : decode cX8_save 18 = .ok (.invokestatic 45, 3) := by decide +kernel
theorem dX8_save_21 : decode cX8_save 21 = .ok (.aload_n 0, 1) := by decide +kernel
theorem dX8_save_22 : decode cX8_save 22 = .ok (.getfield 20, 3) := by decide +kernel
theorem dX8_save_25 : decode cX8_save 25 = .ok (.aload_n 0, 1) := by decide +kernel
theorem dX8_save_26 : decode cX8_save 26 = .ok (.getfield 32, 3) := by decide +kernel
theorem dX8_save_29 : decode cX8_save 29 = .ok (.iload_n 1, 1) := by decide +kernel
theorem dX8_save_30 : decode cX8_save 30 = .ok (.aaload, 1) := by decide +kernel
theorem dX8_save_31 : decode cX8_save 31 = .ok (.invokevirtual 351, 3) := by decide +kernel
theorem dX8_save_34 : decode cX8_save 34 = .ok (.aload_n 0, 1) := by decide +kernel
theorem dX8_save_35 : decode cX8_save 35 = .ok (.dup, 1) := by decide +kernel
theorem dX8_save_36 : decode cX8_save 36 = .ok (.getfield 88, 3) := by decide +kernel
theorem dX8_save_39 : decode cX8_save 39 = .ok (.iconst 1, 1) := by decide +kernel
theorem dX8_save_40 : decode cX8_save 40 = .ok (.iload_n 1, 1) := by decide +kernel
theorem dX8_save_41 : decode cX8_save 41 = .ok (.ishl, 1) := by decide +kernel
theorem dX8_save_42 : decode cX8_save 42 = .ok (.ior, 1) := by decide +kernel
theorem dX8_save_43 : decode cX8_save 43 = .ok (.putfield 88, 3) := by decide +kernel
theorem dX8_save_46 : decode cX8_save 46 = .ok (.aload_n 0, 1) := by decide +kernel
theorem dX8_save_47 : decode cX8_save 47 = .ok (.getfield 20, 3) := by decide +kernel
theorem dX8_save_50 : decode cX8_save 50 = .ok (.invokevirtual 179, 3) := by decide +kernel
theorem dX8_save_53 : decode cX8_save 53 = .ok (.invokestatic 354, 3) := by decide +kernel
theorem dX8_save_56 : decode cX8_save 56 = .ok (.ireturn, 1) := by decide +kernel
theorem dX8_restore_0 : decode cX8_restore 0 = .ok (.iload_n 1, 1) := by decide +kernel
theorem dX8_restore_1 : decode cX8_restore 1 = .ok (.ifCond .lt 12, 3) := by decide +kernel
theorem dX8_restore_4 : decode cX8_restore 4 = .ok (.iload_n 1, 1) := by decide +kernel
theorem dX8_restore_5 : decode cX8_restore 5 = .ok (.iconst 2, 1) := by decide +kernel
theorem dX8_restore_6 : decode cX8_restore 6 = .ok (.if_icmp .ge 7, 3) := by decide +kernel
theorem dX8_restore_9 : decode cX8_restore 9 = .ok (.iconst 1, 1) := by decide +kernel
theorem dX8_restore_10 : decode cX8_restore 10 = .ok (.goto 4, 3) := by decide +kernel
theorem dX8_restore_13 : decode cX8_restore 13 = .ok (.iconst 0, 1) := by decide +kernel
theorem dX8_restore_14 : decode cX8_restore 14 = .ok (.invokestatic 45, 3) := by decide +kernel
theorem dX8_restore_17 : decode cX8_restore 17 = .ok (.aload_n 0, 1) := by decide +kernel
theorem dX8_restore_18 : decode cX8_restore 18 = .ok (.getfield 88, 3) := by decide +kernel
theorem dX8_restore_21 : decode cX8_restore 21 = .ok (.iload_n 1, 1) := by decide +kernel
theorem dX8_restore_22 : decode cX8_restore 22 = .ok (.invokestatic 359, 3) := by decide +kernel
theorem dX8_restore_25 : decode cX8_restore 25 = .ok (.ifCond .ne 14, 3) := by decide +kernel
theorem dX8_restore_28 : decode cX8_restore 28 = .ok (.new 337, 3) := by decide +kernel
theorem dX8_restore_31 : decode cX8_restore 31 = .ok (.dup, 1) := by decide +kernel
theorem dX8_restore_32 : decode cX8_restore 32 = .ok (.ldc_w 363, 3) := by decide +kernel
theorem dX8_restore_35 : decode cX8_restore 35 = .ok (.invokespecial 341, 3) := by decide +kernel
theorem dX8_restore_38 : decode cX8_restore 38 = .ok (.athrow, 1) := by decide +kernel
theorem dX8_restore_39 : decode cX8_restore 39 = .ok (.aload_n 0, 1) := by decide +kernel
theorem dX8_restore_40 : decode cX8_restore 40 = .ok (.getfield 20, 3) := by decide +kernel
theorem dX8_restore_43 : decode cX8_restore 43 = .ok (.aload_n 0, 1) := by decide +kernel
theorem dX8_restore_44 : decode cX8_restore 44 = .ok (.getfield 32, 3) := by decide +kernel
theorem dX8_restore_47 : decode cX8_restore 47 = .ok (.iload_n 1, 1) := by decide +kernel
theorem dX8_restore_48 : decode cX8_restore 48 = .ok (.aaload, 1) := by decide +kernel
theorem dX8_restore_49 : decode cX8_restore 49 = .ok (.invokevirtual 347, 3) := by decide +kernel
theorem dX8_restore_52 : decode cX8_restore 52 = .ok (.aload_n 0, 1) := by decide +kernel
theorem dX8_restore_53 : decode cX8_restore 53 = .ok (.invokevirtual 85, 3) := by decide +kernel
theorem dX8_restore_56 : decode cX8_restore 56 = .ok (.aload_n 0, 1) := by decide +kernel
theorem dX8_restore_57 : decode cX8_restore 57 = .ok (.getfield 20, 3) := by decide +kernel
theorem dX8_restore_60 : decode cX8_restore 60 = .ok (.invokevirtual 179, 3) := by decide +kernel
theorem dX8_restore_63 : decode cX8_restore 63 = .ok (.invokestatic 354, 3) := by decide +kernel
theorem dX8_restore_66 : decode cX8_restore 66 = .ok (.ireturn, 1) := by decide +kernel
theorem dX8_demandText_0 : decode cX8_demandText 0 = .ok (.aload_n 0, 1) := by decide +kernel
theorem dX8_demandText_1 : decode cX8_demandText 1 = .ok (.getfield 81, 3) := by decide +kernel
theorem dX8_demandText_4 : decode cX8_demandText 4 = .ok (.ifCond .ne 14, 3) := by decide +kernel
theorem dX8_demandText_7 : decode cX8_demandText 7 = .ok (.new 337, 3) := by decide +kernel
theorem dX8_demandText_10 : decode cX8_demandText 10 = .ok (.dup, 1) := by decide +kernel
theorem dX8_demandText_11 : decode cX8_demandText 11 = .ok (.ldc_w 365, 3) := by decide +kernel
theorem dX8_demandText_14 : decode cX8_demandText 14 = .ok (.invokespecial 341, 3) := by decide +kernel
theorem dX8_demandText_17 : decode cX8_demandText 17 = .ok (.athrow, 1) := by decide +kernel
theorem dX8_demandText_18 : decode cX8_demandText 18 = .ok (.return_, 1) := by decide +kernel
theorem dX8_demandThere_0 : decode cX8_demandThere 0 = .ok (.iload_n 0, 1) := by decide +kernel
theorem dX8_demandThere_1 : decode cX8_demandThere 1 = .ok (.ifCond .ne 14, 3) := by decide +kernel
theorem dX8_demandThere_4 : decode cX8_demandThere 4 = .ok (.new 367, 3) := by decide +kernel
theorem dX8_demandThere_7 : decode cX8_demandThere 7 = .ok (.dup, 1) := by decide +kernel
theorem dX8_demandThere_8 : decode cX8_demandThere 8 = .ok (.ldc_w 369, 3) := by decide +kernel
theorem dX8_demandThere_11 : decode cX8_demandThere 11 = .ok (.invokespecial 371, 3) := by decide +kernel
theorem dX8_demandThere_14 : decode cX8_demandThere 14 = .ok (.athrow, 1) := by decide +kernel
theorem dX8_demandThere_15 : decode cX8_demandThere 15 = .ok (.return_, 1) := by decide +kernel
theorem dX8_demandFit_0 : decode cX8_demandFit 0 = .ok (.iload_n 0, 1) := by decide +kernel
theorem dX8_demandFit_1 : decode cX8_demandFit 1 = .ok (.ifCond .ne 14, 3) := by decide +kernel
theorem dX8_demandFit_4 : decode cX8_demandFit 4 = .ok (.new 372, 3) := by decide +kernel
theorem dX8_demandFit_7 : decode cX8_demandFit 7 = .ok (.dup, 1) := by decide +kernel
theorem dX8_demandFit_8 : decode cX8_demandFit 8 = .ok (.ldc_w 374, 3) := by decide +kernel
theorem dX8_demandFit_11 : decode cX8_demandFit 11 = .ok (.invokespecial 376, 3) := by decide +kernel
theorem dX8_demandFit_14 : decode cX8_demandFit 14 = .ok (.athrow, 1) := by decide +kernel
theorem dX8_demandFit_15 : decode cX8_demandFit 15 = .ok (.return_, 1) := by decide +kernel
theorem dX8_groupAt_0 : decode cX8_groupAt 0 = .ok (.aload_n 0, 1) := by decide +kernel
theorem dX8_groupAt_1 : decode cX8_groupAt 1 = .ok (.invokevirtual 100, 3) := by decide +kernel
theorem dX8_groupAt_4 : decode cX8_groupAt 4 = .ok (.aload_n 0, 1) := by decide +kernel
theorem dX8_groupAt_5 : decode cX8_groupAt 5 = .ok (.getfield 20, 3) := by decide +kernel
theorem dX8_groupAt_8 : decode cX8_groupAt 8 = .ok (.getfield 377, 3) := by decide +kernel
theorem dX8_groupAt_11 : decode cX8_groupAt 11 = .ok (.iload_n 1, 1) := by decide +kernel
theorem dX8_groupAt_12 : decode cX8_groupAt 12 = .ok (.invokevirtual 107, 3) := by decide +kernel
theorem dX8_groupAt_15 : decode cX8_groupAt 15 = .ok (.invokestatic 45, 3) := by decide +kernel
theorem dX8_groupAt_18 : decode cX8_groupAt 18 = .ok (.aload_n 0, 1) := by decide +kernel
theorem dX8_groupAt_19 : decode cX8_groupAt 19 = .ok (.getfield 20, 3) := by decide +kernel
theorem dX8_groupAt_22 : decode cX8_groupAt 22 = .ok (.getfield 380, 3) := by decide +kernel
theorem dX8_groupAt_25 : decode cX8_groupAt 25 = .ok (.iload_n 1, 1) := by decide +kernel
theorem dX8_groupAt_26 : decode cX8_groupAt 26 = .ok (.aaload, 1) := by decide +kernel
theorem dX8_groupAt_27 : decode cX8_groupAt 27 = .ok (.areturn, 1) := by decide +kernel
theorem dX8_moduleAt_0 : decode cX8_moduleAt 0 = .ok (.aload_n 0, 1) := by decide +kernel
theorem dX8_moduleAt_1 : decode cX8_moduleAt 1 = .ok (.invokevirtual 100, 3) := by decide +kernel
theorem dX8_moduleAt_4 : decode cX8_moduleAt 4 = .ok (.aload_n 0, 1) := by decide +kernel
theorem dX8_moduleAt_5 : decode cX8_moduleAt 5 = .ok (.getfield 20, 3) := by decide +kernel
theorem dX8_moduleAt_8 : decode cX8_moduleAt 8 = .ok (.getfield 91, 3) := by decide +kernel
theorem dX8_moduleAt_11 : decode cX8_moduleAt 11 = .ok (.iload_n 1, 1) := by decide +kernel
theorem dX8_moduleAt_12 : decode cX8_moduleAt 12 = .ok (.invokevirtual 107, 3) := by decide +kernel
theorem dX8_moduleAt_15 : decode cX8_moduleAt 15 = .ok (.invokestatic 45, 3) := by decide +kernel
theorem dX8_moduleAt_18 : decode cX8_moduleAt 18 = .ok (.aload_n 0, 1) := by decide +kernel
theorem dX8_moduleAt_19 : decode cX8_moduleAt 19 = .ok (.getfield 20, 3) := by decide +kernel
theorem dX8_moduleAt_22 : decode cX8_moduleAt 22 = .ok (.getfield 231, 3) := by decide +kernel
theorem dX8_moduleAt_25 : decode cX8_moduleAt 25 = .ok (.iload_n 1, 1) := by decide +kernel
theorem dX8_moduleAt_26 : decode cX8_moduleAt 26 = .ok (.aaload, 1) := by decide +kernel
theorem dX8_moduleAt_27 : decode cX8_moduleAt 27 = .ok (.areturn, 1) := by decide +kernel
theorem dX8_lawfulModuleAt_0 : decode cX8_lawfulModuleAt 0 = .ok (.aload_n 0, 1) := by decide +kernel
theorem dX8_lawfulModuleAt_1 : decode cX8_lawfulModuleAt 1 = .ok (.iload_n 1, 1) := by decide +kernel
theorem dX8_lawfulModuleAt_2 : decode cX8_lawfulModuleAt 2 = .ok (.invokevirtual 154, 3) := by decide +kernel
theorem dX8_lawfulModuleAt_5 : decode cX8_lawfulModuleAt 5 = .ok (.astore_n 2, 1) := by decide +kernel
theorem dX8_lawfulModuleAt_6 : decode cX8_lawfulModuleAt 6 = .ok (.aload_n 2, 1) := by decide +kernel
theorem dX8_lawfulModuleAt_7 : decode cX8_lawfulModuleAt 7 = .ok (.getfield 176, 3) := by decide +kernel
theorem dX8_lawfulModuleAt_10 : decode cX8_lawfulModuleAt 10 = .ok (.ifCond .ne 7, 3) := by decide +kernel
theorem dX8_lawfulModuleAt_13 : decode cX8_lawfulModuleAt 13 = .ok (.iconst 1, 1) := by decide +kernel
theorem dX8_lawfulModuleAt_14 : decode cX8_lawfulModuleAt 14 = .ok (.goto 4, 3) := by decide +kernel
theorem dX8_lawfulModuleAt_17 : decode cX8_lawfulModuleAt 17 = .ok (.iconst 0, 1) := by decide +kernel
theorem dX8_lawfulModuleAt_18 : decode cX8_lawfulModuleAt 18 = .ok (.invokestatic 75, 3) := by decide +kernel
theorem dX8_lawfulModuleAt_21 : decode cX8_lawfulModuleAt 21 = .ok (.aload_n 2, 1) := by decide +kernel
theorem dX8_lawfulModuleAt_22 : decode cX8_lawfulModuleAt 22 = .ok (.areturn, 1) := by decide +kernel
theorem dX8_arrowAt_0 : decode cX8_arrowAt 0 = .ok (.aload_n 0, 1) := by decide +kernel
theorem dX8_arrowAt_1 : decode cX8_arrowAt 1 = .ok (.invokevirtual 100, 3) := by decide +kernel
theorem dX8_arrowAt_4 : decode cX8_arrowAt 4 = .ok (.aload_n 0, 1) := by decide +kernel
theorem dX8_arrowAt_5 : decode cX8_arrowAt 5 = .ok (.getfield 20, 3) := by decide +kernel
theorem dX8_arrowAt_8 : decode cX8_arrowAt 8 = .ok (.getfield 384, 3) := by decide +kernel
theorem dX8_arrowAt_11 : decode cX8_arrowAt 11 = .ok (.iload_n 1, 1) := by decide +kernel
theorem dX8_arrowAt_12 : decode cX8_arrowAt 12 = .ok (.invokevirtual 107, 3) := by decide +kernel
theorem dX8_arrowAt_15 : decode cX8_arrowAt 15 = .ok (.invokestatic 45, 3) := by decide +kernel
theorem dX8_arrowAt_18 : decode cX8_arrowAt 18 = .ok (.aload_n 0, 1) := by decide +kernel
theorem dX8_arrowAt_19 : decode cX8_arrowAt 19 = .ok (.getfield 20, 3) := by decide +kernel
theorem dX8_arrowAt_22 : decode cX8_arrowAt 22 = .ok (.getfield 387, 3) := by decide +kernel
theorem dX8_arrowAt_25 : decode cX8_arrowAt 25 = .ok (.iload_n 1, 1) := by decide +kernel
theorem dX8_arrowAt_26 : decode cX8_arrowAt 26 = .ok (.aaload, 1) := by decide +kernel
theorem dX8_arrowAt_27 : decode cX8_arrowAt 27 = .ok (.areturn, 1) := by decide +kernel
theorem dX8_appendWord_0 : decode cX8_appendWord 0 = .ok (.bipush 24, 2) := by decide +kernel
theorem dX8_appendWord_2 : decode cX8_appendWord 2 = .ok (.istore_n 2, 1) := by decide +kernel
theorem dX8_appendWord_3 : decode cX8_appendWord 3 = .ok (.iload_n 2, 1) := by decide +kernel
theorem dX8_appendWord_4 : decode cX8_appendWord 4 = .ok (.ifCond .lt 44, 3) := by decide +kernel
theorem dX8_appendWord_7 : decode cX8_appendWord 7 = .ok (.aload_n 0, 1) := by decide +kernel
theorem dX8_appendWord_8 : decode cX8_appendWord 8 = .ok (.getfield 38, 3) := by decide +kernel
theorem dX8_appendWord_11 : decode cX8_appendWord 11 = .ok (.aload_n 0, 1) := by decide +kernel
theorem dX8_appendWord_12 : decode cX8_appendWord 12 = .ok (.getfield 9, 3) := by decide +kernel
theorem dX8_appendWord_15 : decode cX8_appendWord 15 = .ok (.arraylength, 1) := by decide +kernel
theorem dX8_appendWord_16 : decode cX8_appendWord 16 = .ok (.if_icmp .ge 32, 3) := by decide +kernel
theorem dX8_appendWord_19 : decode cX8_appendWord 19 = .ok (.aload_n 0, 1) := by decide +kernel
theorem dX8_appendWord_20 : decode cX8_appendWord 20 = .ok (.getfield 9, 3) := by decide +kernel
theorem dX8_appendWord_23 : decode cX8_appendWord 23 = .ok (.aload_n 0, 1) := by decide +kernel
theorem dX8_appendWord_24 : decode cX8_appendWord 24 = .ok (.getfield 38, 3) := by decide +kernel
theorem dX8_appendWord_27 : decode cX8_appendWord 27 = .ok (.iload_n 1, 1) := by decide +kernel
theorem dX8_appendWord_28 : decode cX8_appendWord 28 = .ok (.iload_n 2, 1) := by decide +kernel
theorem dX8_appendWord_29 : decode cX8_appendWord 29 = .ok (.ishr, 1) := by decide +kernel
theorem dX8_appendWord_30 : decode cX8_appendWord 30 = .ok (.i2b, 1) := by decide +kernel
theorem dX8_appendWord_31 : decode cX8_appendWord 31 = .ok (.bastore, 1) := by decide +kernel
theorem dX8_appendWord_32 : decode cX8_appendWord 32 = .ok (.aload_n 0, 1) := by decide +kernel
theorem dX8_appendWord_33 : decode cX8_appendWord 33 = .ok (.dup, 1) := by decide +kernel
theorem dX8_appendWord_34 : decode cX8_appendWord 34 = .ok (.getfield 38, 3) := by decide +kernel
theorem dX8_appendWord_37 : decode cX8_appendWord 37 = .ok (.iconst 1, 1) := by decide +kernel
theorem dX8_appendWord_38 : decode cX8_appendWord 38 = .ok (.iadd, 1) := by decide +kernel
theorem dX8_appendWord_39 : decode cX8_appendWord 39 = .ok (.putfield 38, 3) := by decide +kernel
theorem dX8_appendWord_42 : decode cX8_appendWord 42 = .ok (.iinc 2 (-8), 3) := by decide +kernel
theorem dX8_appendWord_45 : decode cX8_appendWord 45 = .ok (.goto (-42), 3) := by decide +kernel
theorem dX8_appendWord_48 : decode cX8_appendWord 48 = .ok (.return_, 1) := by decide +kernel
theorem dX8_write_0 : decode cX8_write 0 = .ok (.aload_n 0, 1) := by decide +kernel
theorem dX8_write_1 : decode cX8_write 1 = .ok (.getfield 299, 3) := by decide +kernel
theorem dX8_write_4 : decode cX8_write 4 = .ok (.aload_n 0, 1) := by decide +kernel
theorem dX8_write_5 : decode cX8_write 5 = .ok (.getfield 35, 3) := by decide +kernel
theorem dX8_write_8 : decode cX8_write 8 = .ok (.arraylength, 1) := by decide +kernel
theorem dX8_write_9 : decode cX8_write 9 = .ok (.if_icmp .ge 24, 3) := by decide +kernel
theorem dX8_write_12 : decode cX8_write 12 = .ok (.aload_n 0, 1) := by decide +kernel
theorem dX8_write_13 : decode cX8_write 13 = .ok (.getfield 35, 3) := by decide +kernel
theorem dX8_write_16 : decode cX8_write 16 = .ok (.aload_n 0, 1) := by decide +kernel
theorem dX8_write_17 : decode cX8_write 17 = .ok (.getfield 299, 3) := by decide +kernel
theorem dX8_write_20 : decode cX8_write 20 = .ok (.iload_n 1, 1) := by decide +kernel
theorem dX8_write_21 : decode cX8_write 21 = .ok (.i2b, 1) := by decide +kernel
theorem dX8_write_22 : decode cX8_write 22 = .ok (.bastore, 1) := by decide +kernel
theorem dX8_write_23 : decode cX8_write 23 = .ok (.aload_n 0, 1) := by decide +kernel
theorem dX8_write_24 : decode cX8_write 24 = .ok (.dup, 1) := by decide +kernel
theorem dX8_write_25 : decode cX8_write 25 = .ok (.getfield 299, 3) := by decide +kernel
theorem dX8_write_28 : decode cX8_write 28 = .ok (.iconst 1, 1) := by decide +kernel
theorem dX8_write_29 : decode cX8_write 29 = .ok (.iadd, 1) := by decide +kernel
theorem dX8_write_30 : decode cX8_write 30 = .ok (.putfield 299, 3) := by decide +kernel
theorem dX8_write_33 : decode cX8_write 33 = .ok (.return_, 1) := by decide +kernel
theorem dX8_beginChange_0 : decode cX8_beginChange 0 = .ok (.aload_n 0, 1) := by decide +kernel
theorem dX8_beginChange_1 : decode cX8_beginChange 1 = .ok (.getfield 334, 3) := by decide +kernel
theorem dX8_beginChange_4 : decode cX8_beginChange 4 = .ok (.bipush 8, 2) := by decide +kernel
theorem dX8_beginChange_6 : decode cX8_beginChange 6 = .ok (.if_icmp .ne 22, 3) := by decide +kernel
theorem dX8_beginChange_9 : decode cX8_beginChange 9 = .ok (.aload_n 0, 1) := by decide +kernel
theorem dX8_beginChange_10 : decode cX8_beginChange 10 = .ok (.aload_n 0, 1) := by decide +kernel
theorem dX8_beginChange_11 : decode cX8_beginChange 11 = .ok (.iconst 1, 1) := by decide +kernel
theorem dX8_beginChange_12 : decode cX8_beginChange 12 = .ok (.invokevirtual 344, 3) := by decide +kernel
theorem dX8_beginChange_15 : decode cX8_beginChange 15 = .ok (.putfield 391, 3) := by decide +kernel
theorem dX8_beginChange_18 : decode cX8_beginChange 18 = .ok (.aload_n 0, 1) := by decide +kernel
theorem dX8_beginChange_19 : decode cX8_beginChange 19 = .ok (.dup, 1) := by decide +kernel
theorem dX8_beginChange_20 : decode cX8_beginChange 20 = .ok (.getfield 334, 3) := by decide +kernel
theorem dX8_beginChange_23 : decode cX8_beginChange 23 = .ok (.iconst 1, 1) := by decide +kernel
theorem dX8_beginChange_24 : decode cX8_beginChange 24 = .ok (.isub, 1) := by decide +kernel
theorem dX8_beginChange_25 : decode cX8_beginChange 25 = .ok (.putfield 334, 3) := by decide +kernel
theorem dX8_beginChange_28 : decode cX8_beginChange 28 = .ok (.aload_n 0, 1) := by decide +kernel
theorem dX8_beginChange_29 : decode cX8_beginChange 29 = .ok (.getfield 20, 3) := by decide +kernel
theorem dX8_beginChange_32 : decode cX8_beginChange 32 = .ok (.aload_n 0, 1) := by decide +kernel
theorem dX8_beginChange_33 : decode cX8_beginChange 33 = .ok (.getfield 29, 3) := by decide +kernel
theorem dX8_beginChange_36 : decode cX8_beginChange 36 = .ok (.aload_n 0, 1) := by decide +kernel
theorem dX8_beginChange_37 : decode cX8_beginChange 37 = .ok (.aload_n 0, 1) := by decide +kernel
theorem dX8_beginChange_38 : decode cX8_beginChange 38 = .ok (.getfield 334, 3) := by decide +kernel
theorem dX8_beginChange_41 : decode cX8_beginChange 41 = .ok (.invokevirtual 344, 3) := by decide +kernel
theorem dX8_beginChange_44 : decode cX8_beginChange 44 = .ok (.aaload, 1) := by decide +kernel
theorem dX8_beginChange_45 : decode cX8_beginChange 45 = .ok (.invokevirtual 351, 3) := by decide +kernel
theorem dX8_beginChange_48 : decode cX8_beginChange 48 = .ok (.aload_n 0, 1) := by decide +kernel
theorem dX8_beginChange_49 : decode cX8_beginChange 49 = .ok (.dup, 1) := by decide +kernel
theorem dX8_beginChange_50 : decode cX8_beginChange 50 = .ok (.getfield 334, 3) := by decide +kernel
theorem dX8_beginChange_53 : decode cX8_beginChange 53 = .ok (.iconst 1, 1) := by decide +kernel
theorem dX8_beginChange_54 : decode cX8_beginChange 54 = .ok (.iadd, 1) := by decide +kernel
theorem dX8_beginChange_55 : decode cX8_beginChange 55 = .ok (.putfield 334, 3) := by decide +kernel
theorem dX8_beginChange_58 : decode cX8_beginChange 58 = .ok (.aload_n 0, 1) := by decide +kernel
theorem dX8_beginChange_59 : decode cX8_beginChange 59 = .ok (.getfield 20, 3) := by decide +kernel
theorem dX8_beginChange_62 : decode cX8_beginChange 62 = .ok (.iconst 0, 1) := by decide +kernel
theorem dX8_beginChange_63 : decode cX8_beginChange 63 = .ok (.invokevirtual 394, 3) := by decide +kernel
theorem dX8_beginChange_66 : decode cX8_beginChange 66 = .ok (.return_, 1) := by decide +kernel
theorem dX8_undoPlace_0 : decode cX8_undoPlace 0 = .ok (.aload_n 0, 1) := by decide +kernel
theorem dX8_undoPlace_1 : decode cX8_undoPlace 1 = .ok (.getfield 391, 3) := by decide +kernel
theorem dX8_undoPlace_4 : decode cX8_undoPlace 4 = .ok (.iload_n 1, 1) := by decide +kernel
theorem dX8_undoPlace_5 : decode cX8_undoPlace 5 = .ok (.iadd, 1) := by decide +kernel
theorem dX8_undoPlace_6 : decode cX8_undoPlace 6 = .ok (.bipush 8, 2) := by decide +kernel
theorem dX8_undoPlace_8 : decode cX8_undoPlace 8 = .ok (.invokestatic 397, 3) := by decide +kernel
theorem dX8_undoPlace_11 : decode cX8_undoPlace 11 = .ok (.ireturn, 1) := by decide +kernel
theorem dX8_forgetChanges_0 : decode cX8_forgetChanges 0 = .ok (.aload_n 0, 1) := by decide +kernel
theorem dX8_forgetChanges_1 : decode cX8_forgetChanges 1 = .ok (.iconst 0, 1) := by decide +kernel
theorem dX8_forgetChanges_2 : decode cX8_forgetChanges 2 = .ok (.putfield 391, 3) := by decide +kernel
theorem dX8_forgetChanges_5 : decode cX8_forgetChanges 5 = .ok (.aload_n 0, 1) := by decide +kernel
theorem dX8_forgetChanges_6 : decode cX8_forgetChanges 6 = .ok (.iconst 0, 1) := by decide +kernel
theorem dX8_forgetChanges_7 : decode cX8_forgetChanges 7 = .ok (.putfield 334, 3) := by decide +kernel
theorem dX8_forgetChanges_10 : decode cX8_forgetChanges 10 = .ok (.return_, 1) := by decide +kernel
theorem dX8_at_0 : decode cX8_at 0 = .ok (.iload_n 1, 1) := by decide +kernel
theorem dX8_at_1 : decode cX8_at 1 = .ok (.ifCond .lt 15, 3) := by decide +kernel
theorem dX8_at_4 : decode cX8_at 4 = .ok (.iload_n 1, 1) := by decide +kernel
theorem dX8_at_5 : decode cX8_at 5 = .ok (.aload_n 0, 1) := by decide +kernel
theorem dX8_at_6 : decode cX8_at 6 = .ok (.arraylength, 1) := by decide +kernel
theorem dX8_at_7 : decode cX8_at 7 = .ok (.if_icmp .ge 9, 3) := by decide +kernel
theorem dX8_at_10 : decode cX8_at 10 = .ok (.aload_n 0, 1) := by decide +kernel
theorem dX8_at_11 : decode cX8_at 11 = .ok (.iload_n 1, 1) := by decide +kernel
theorem dX8_at_12 : decode cX8_at 12 = .ok (.iaload, 1) := by decide +kernel
theorem dX8_at_13 : decode cX8_at 13 = .ok (.goto 4, 3) := by decide +kernel
theorem dX8_at_16 : decode cX8_at 16 = .ok (.iconst 0, 1) := by decide +kernel
theorem dX8_at_17 : decode cX8_at 17 = .ok (.ireturn, 1) := by decide +kernel
theorem dX8_put_0 : decode cX8_put 0 = .ok (.iload_n 1, 1) := by decide +kernel
theorem dX8_put_1 : decode cX8_put 1 = .ok (.ifCond .lt 13, 3) := by decide +kernel
theorem dX8_put_4 : decode cX8_put 4 = .ok (.iload_n 1, 1) := by decide +kernel
theorem dX8_put_5 : decode cX8_put 5 = .ok (.aload_n 0, 1) := by decide +kernel
theorem dX8_put_6 : decode cX8_put 6 = .ok (.arraylength, 1) := by decide +kernel
theorem dX8_put_7 : decode cX8_put 7 = .ok (.if_icmp .ge 7, 3) := by decide +kernel
theorem dX8_put_10 : decode cX8_put 10 = .ok (.aload_n 0, 1) := by decide +kernel
theorem dX8_put_11 : decode cX8_put 11 = .ok (.iload_n 1, 1) := by decide +kernel
theorem dX8_put_12 : decode cX8_put 12 = .ok (.iload_n 2, 1) := by decide +kernel
theorem dX8_put_13 : decode cX8_put 13 = .ok (.iastore, 1) := by decide +kernel
theorem dX8_put_14 : decode cX8_put 14 = .ok (.return_, 1) := by decide +kernel
theorem dX8_isIn_0 : decode cX8_isIn 0 = .ok (.iload_n 0, 1) := by decide +kernel
theorem dX8_isIn_1 : decode cX8_isIn 1 = .ok (.iload_n 1, 1) := by decide +kernel
theorem dX8_isIn_2 : decode cX8_isIn 2 = .ok (.ishr, 1) := by decide +kernel
theorem dX8_isIn_3 : decode cX8_isIn 3 = .ok (.iconst 1, 1) := by decide +kernel
theorem dX8_isIn_4 : decode cX8_isIn 4 = .ok (.iand, 1) := by decide +kernel
theorem dX8_isIn_5 : decode cX8_isIn 5 = .ok (.ifCond .eq 7, 3) := by decide +kernel
theorem dX8_isIn_8 : decode cX8_isIn 8 = .ok (.iconst 1, 1) := by decide +kernel
theorem dX8_isIn_9 : decode cX8_isIn 9 = .ok (.goto 4, 3) := by decide +kernel
theorem dX8_isIn_12 : decode cX8_isIn 12 = .ok (.iconst 0, 1) := by decide +kernel
theorem dX8_isIn_13 : decode cX8_isIn 13 = .ok (.ireturn, 1) := by decide +kernel
theorem dX8_isBetween_0 : decode cX8_isBetween 0 = .ok (.iload_n 0, 1) := by decide +kernel
theorem dX8_isBetween_1 : decode cX8_isBetween 1 = .ok (.iload_n 1, 1) := by decide +kernel
theorem dX8_isBetween_2 : decode cX8_isBetween 2 = .ok (.if_icmp .lt 12, 3) := by decide +kernel
theorem dX8_isBetween_5 : decode cX8_isBetween 5 = .ok (.iload_n 0, 1) := by decide +kernel
theorem dX8_isBetween_6 : decode cX8_isBetween 6 = .ok (.iload_n 2, 1) := by decide +kernel
theorem dX8_isBetween_7 : decode cX8_isBetween 7 = .ok (.if_icmp .gt 7, 3) := by decide +kernel
theorem dX8_isBetween_10 : decode cX8_isBetween 10 = .ok (.iconst 1, 1) := by decide +kernel
theorem dX8_isBetween_11 : decode cX8_isBetween 11 = .ok (.goto 4, 3) := by decide +kernel
theorem dX8_isBetween_14 : decode cX8_isBetween 14 = .ok (.iconst 0, 1) := by decide +kernel
theorem dX8_isBetween_15 : decode cX8_isBetween 15 = .ok (.ireturn, 1) := by decide +kernel
theorem dJ5_init_d00df_0 : decode cJ5_init_d00df 0 = .ok (.aload_n 0, 1) := by decide +kernel
theorem dJ5_init_d00df_1 : decode cJ5_init_d00df 1 = .ok (.invokespecial 3, 3) := by decide +kernel
theorem dJ5_init_d00df_4 : decode cJ5_init_d00df 4 = .ok (.getstatic 18, 3) := by decide +kernel
theorem dJ5_init_d00df_7 : decode cJ5_init_d00df 7 = .ok (.ifCond .eq 18, 3) := by decide +kernel
theorem dJ5_init_d00df_10 : decode cJ5_init_d00df 10 = .ok (.aload_n 0, 1) := by decide +kernel
theorem dJ5_init_d00df_11 : decode cJ5_init_d00df 11 = .ok (.iload_n 1, 1) := by decide +kernel
theorem dJ5_init_d00df_12 : decode cJ5_init_d00df 12 = .ok (.newarray .byte, 2) := by decide +kernel
theorem dJ5_init_d00df_14 : decode cJ5_init_d00df 14 = .ok (.putfield 15, 3) := by decide +kernel
theorem dJ5_init_d00df_17 : decode cJ5_init_d00df 17 = .ok (.aload_n 0, 1) := by decide +kernel
theorem dJ5_init_d00df_18 : decode cJ5_init_d00df 18 = .ok (.iconst 0, 1) := by decide +kernel
theorem dJ5_init_d00df_19 : decode cJ5_init_d00df 19 = .ok (.putfield 22, 3) := by decide +kernel
theorem dJ5_init_d00df_22 : decode cJ5_init_d00df 22 = .ok (.goto 16, 3) := by decide +kernel
theorem dJ5_init_d00df_25 : decode cJ5_init_d00df 25 = .ok (.aload_n 0, 1) := by decide +kernel
theorem dJ5_init_d00df_26 : decode cJ5_init_d00df 26 = .ok (.iload_n 1, 1) := by decide +kernel
theorem dJ5_init_d00df_27 : decode cJ5_init_d00df 27 = .ok (.invokestatic 26, 3) := by decide +kernel
theorem dJ5_init_d00df_30 : decode cJ5_init_d00df 30 = .ok (.putfield 15, 3) := by decide +kernel
theorem dJ5_init_d00df_33 : decode cJ5_init_d00df 33 = .ok (.aload_n 0, 1) := by decide +kernel
theorem dJ5_init_d00df_34 : decode cJ5_init_d00df 34 = .ok (.iconst 1, 1) := by decide +kernel
theorem dJ5_init_d00df_35 : decode cJ5_init_d00df 35 = .ok (.putfield 22, 3) := by decide +kernel
theorem dJ5_init_d00df_38 : decode cJ5_init_d00df 38 = .ok (.return_, 1) := by decide +kernel
theorem dJ5_init_a7421_0 : decode cJ5_init_a7421 0 = .ok (.aload_n 0, 1) := by decide +kernel
theorem dJ5_init_a7421_1 : decode cJ5_init_a7421 1 = .ok (.invokespecial 3, 3) := by decide +kernel
theorem dJ5_init_a7421_4 : decode cJ5_init_a7421 4 = .ok (.aload_n 1, 1) := by decide +kernel
theorem dJ5_init_a7421_5 : decode cJ5_init_a7421 5 = .ok (.invokevirtual 32, 3) := by decide +kernel
theorem dJ5_init_a7421_8 : decode cJ5_init_a7421 8 = .ok (.istore_n 2, 1) := by decide +kernel
theorem dJ5_init_a7421_9 : decode cJ5_init_a7421 9 = .ok (.iload_n 2, 1) := by decide +kernel
theorem dJ5_init_a7421_10 : decode cJ5_init_a7421 10 = .ok (.ldc 38, 2) := by decide +kernel
theorem dJ5_init_a7421_12 : decode cJ5_init_a7421 12 = .ok (.if_icmp .ge 10, 3) := by decide +kernel
theorem dJ5_init_a7421_15 : decode cJ5_init_a7421 15 = .ok (.iload_n 2, 1) := by decide +kernel
theorem dJ5_init_a7421_16 : decode cJ5_init_a7421 16 = .ok (.bipush 16, 2) := by decide +kernel
theorem dJ5_init_a7421_18 : decode cJ5_init_a7421 18 = .ok (.iadd, 1) := by decide +kernel
theorem dJ5_init_a7421_19 : decode cJ5_init_a7421 19 = .ok (.goto 5, 3) := by decide +kernel
theorem dJ5_init_a7421_22 : decode cJ5_init_a7421 22 = .ok (.ldc 39, 2) := by decide +kernel
theorem dJ5_init_a7421_24 : decode cJ5_init_a7421 24 = .ok (.istore_n 3, 1) := by decide +kernel
theorem dJ5_init_a7421_25 : decode cJ5_init_a7421 25 = .ok (.aload_n 1, 1) := by decide +kernel
theorem dJ5_init_a7421_26 : decode cJ5_init_a7421 26 = .ok (.invokevirtual 40, 3) := by decide +kernel
theorem dJ5_init_a7421_29 : decode cJ5_init_a7421 29 = .ok (.istore 4, 2) := by decide +kernel
theorem dJ5_init_a7421_31 : decode cJ5_init_a7421 31 = .ok (.aload_n 0, 1) := by decide +kernel
theorem dJ5_init_a7421_32 : decode cJ5_init_a7421 32 = .ok (.iload 4, 2) := by decide +kernel
theorem dJ5_init_a7421_34 : decode cJ5_init_a7421 34 = .ok (.putfield 22, 3) := by decide +kernel
theorem dJ5_init_a7421_37 : decode cJ5_init_a7421 37 = .ok (.aload_n 0, 1) := by decide +kernel
theorem dJ5_init_a7421_38 : decode cJ5_init_a7421 38 = .ok (.iload 4, 2) := by decide +kernel
theorem dJ5_init_a7421_40 : decode cJ5_init_a7421 40 = .ok (.ifCond .ne 9, 3) := by decide +kernel
theorem dJ5_init_a7421_43 : decode cJ5_init_a7421 43 = .ok (.iload_n 3, 1) := by decide +kernel
theorem dJ5_init_a7421_44 : decode cJ5_init_a7421 44 = .ok (.newarray .byte, 2) := by decide +kernel
theorem dJ5_init_a7421_46 : decode cJ5_init_a7421 46 = .ok (.goto 7, 3) := by decide +kernel
theorem dJ5_init_a7421_49 : decode cJ5_init_a7421 49 = .ok (.iload_n 3, 1) := by decide +kernel
theorem dJ5_init_a7421_50 : decode cJ5_init_a7421 50 = .ok (.invokestatic 26, 3) := by decide +kernel
theorem dJ5_init_a7421_53 : decode cJ5_init_a7421 53 = .ok (.putfield 15, 3) := by decide +kernel
theorem dJ5_init_a7421_56 : decode cJ5_init_a7421 56 = .ok (.aload_n 0, 1) := by decide +kernel
theorem dJ5_init_a7421_57 : decode cJ5_init_a7421 57 = .ok (.aload_n 1, 1) := by decide +kernel
theorem dJ5_init_a7421_58 : decode cJ5_init_a7421 58 = .ok (.invokevirtual 43, 3) := by decide +kernel
theorem dJ5_init_a7421_61 : decode cJ5_init_a7421 61 = .ok (.pop, 1) := by decide +kernel
theorem dJ5_init_a7421_62 : decode cJ5_init_a7421 62 = .ok (.return_, 1) := by decide +kernel
theorem dJ5_length_8abf5_0 : decode cJ5_length_8abf5 0 = .ok (.aload_n 0, 1) := by decide +kernel
theorem dJ5_length_8abf5_1 : decode cJ5_length_8abf5 1 = .ok (.getfield 79, 3) := by decide +kernel
theorem dJ5_length_8abf5_4 : decode cJ5_length_8abf5 4 = .ok (.ireturn, 1) := by decide +kernel
theorem dJ5_ensureCapacityInternal_d00df_0 : decode cJ5_ensureCapacityInternal_d00df 0 = .ok (.aload_n 0, 1) := by decide +kernel
theorem dJ5_ensureCapacityInternal_d00df_1 : decode cJ5_ensureCapacityInternal_d00df 1 = .ok (.getfield 15, 3) := by decide +kernel
theorem dJ5_ensureCapacityInternal_d00df_4 : decode cJ5_ensureCapacityInternal_d00df 4 = .ok (.arraylength, 1) := by decide +kernel
theorem dJ5_ensureCapacityInternal_d00df_5 : decode cJ5_ensureCapacityInternal_d00df 5 = .ok (.aload_n 0, 1) := by decide +kernel
theorem dJ5_ensureCapacityInternal_d00df_6 : decode cJ5_ensureCapacityInternal_d00df 6 = .ok (.getfield 22, 3) := by decide +kernel
theorem dJ5_ensureCapacityInternal_d00df_9 : decode cJ5_ensureCapacityInternal_d00df 9 = .ok (.ishr, 1) := by decide +kernel
theorem dJ5_ensureCapacityInternal_d00df_10 : decode cJ5_ensureCapacityInternal_d00df 10 = .ok (.istore_n 2, 1) := by decide +kernel
theorem dJ5_ensureCapacityInternal_d00df_11 : decode cJ5_ensureCapacityInternal_d00df 11 = .ok (.iload_n 1, 1) := by decide +kernel
theorem dJ5_ensureCapacityInternal_d00df_12 : decode cJ5_ensureCapacityInternal_d00df 12 = .ok (.iload_n 2, 1) := by decide +kernel
theorem dJ5_ensureCapacityInternal_d00df_13 : decode cJ5_ensureCapacityInternal_d00df 13 = .ok (.isub, 1) := by decide +kernel
theorem dJ5_ensureCapacityInternal_d00df_14 : decode cJ5_ensureCapacityInternal_d00df 14 = .ok (.ifCond .le 24, 3) := by decide +kernel
theorem dJ5_ensureCapacityInternal_d00df_17 : decode cJ5_ensureCapacityInternal_d00df 17 = .ok (.aload_n 0, 1) := by decide +kernel
theorem dJ5_ensureCapacityInternal_d00df_18 : decode cJ5_ensureCapacityInternal_d00df 18 = .ok (.aload_n 0, 1) := by decide +kernel
theorem dJ5_ensureCapacityInternal_d00df_19 : decode cJ5_ensureCapacityInternal_d00df 19 = .ok (.getfield 15, 3) := by decide +kernel
theorem dJ5_ensureCapacityInternal_d00df_22 : decode cJ5_ensureCapacityInternal_d00df 22 = .ok (.aload_n 0, 1) := by decide +kernel
theorem dJ5_ensureCapacityInternal_d00df_23 : decode cJ5_ensureCapacityInternal_d00df 23 = .ok (.iload_n 1, 1) := by decide +kernel
theorem dJ5_ensureCapacityInternal_d00df_24 : decode cJ5_ensureCapacityInternal_d00df 24 = .ok (.invokevirtual 104, 3) := by decide +kernel
theorem dJ5_ensureCapacityInternal_d00df_27 : decode cJ5_ensureCapacityInternal_d00df 27 = .ok (.aload_n 0, 1) := by decide +kernel
theorem dJ5_ensureCapacityInternal_d00df_28 : decode cJ5_ensureCapacityInternal_d00df 28 = .ok (.getfield 22, 3) := by decide +kernel
theorem dJ5_ensureCapacityInternal_d00df_31 : decode cJ5_ensureCapacityInternal_d00df 31 = .ok (.ishl, 1) := by decide +kernel
theorem dJ5_ensureCapacityInternal_d00df_32 : decode cJ5_ensureCapacityInternal_d00df 32 = .ok (.invokestatic 108, 3) := by decide +kernel
theorem dJ5_ensureCapacityInternal_d00df_35 : decode cJ5_ensureCapacityInternal_d00df 35 = .ok (.putfield 15, 3) := by decide +kernel
theorem dJ5_ensureCapacityInternal_d00df_38 : decode cJ5_ensureCapacityInternal_d00df 38 = .ok (.return_, 1) := by decide +kernel
theorem dJ5_newCapacity_0f7a4_0 : decode cJ5_newCapacity_0f7a4 0 = .ok (.aload_n 0, 1) := by decide +kernel
theorem dJ5_newCapacity_0f7a4_1 : decode cJ5_newCapacity_0f7a4 1 = .ok (.getfield 15, 3) := by decide +kernel
theorem dJ5_newCapacity_0f7a4_4 : decode cJ5_newCapacity_0f7a4 4 = .ok (.arraylength, 1) := by decide +kernel
theorem dJ5_newCapacity_0f7a4_5 : decode cJ5_newCapacity_0f7a4 5 = .ok (.istore_n 2, 1) := by decide +kernel
theorem dJ5_newCapacity_0f7a4_6 : decode cJ5_newCapacity_0f7a4 6 = .ok (.iload_n 1, 1) := by decide +kernel
theorem dJ5_newCapacity_0f7a4_7 : decode cJ5_newCapacity_0f7a4 7 = .ok (.aload_n 0, 1) := by decide +kernel
theorem dJ5_newCapacity_0f7a4_8 : decode cJ5_newCapacity_0f7a4 8 = .ok (.getfield 22, 3) := by decide +kernel
theorem dJ5_newCapacity_0f7a4_11 : decode cJ5_newCapacity_0f7a4 11 = .ok (.ishl, 1) := by decide +kernel
theorem dJ5_newCapacity_0f7a4_12 : decode cJ5_newCapacity_0f7a4 12 = .ok (.istore_n 3, 1) := by decide +kernel
theorem dJ5_newCapacity_0f7a4_13 : decode cJ5_newCapacity_0f7a4 13 = .ok (.iload_n 3, 1) := by decide +kernel
theorem dJ5_newCapacity_0f7a4_14 : decode cJ5_newCapacity_0f7a4 14 = .ok (.iload_n 2, 1) := by decide +kernel
theorem dJ5_newCapacity_0f7a4_15 : decode cJ5_newCapacity_0f7a4 15 = .ok (.isub, 1) := by decide +kernel
theorem dJ5_newCapacity_0f7a4_16 : decode cJ5_newCapacity_0f7a4 16 = .ok (.istore 4, 2) := by decide +kernel
theorem dJ5_newCapacity_0f7a4_18 : decode cJ5_newCapacity_0f7a4 18 = .ok (.iload_n 2, 1) := by decide +kernel
theorem dJ5_newCapacity_0f7a4_19 : decode cJ5_newCapacity_0f7a4 19 = .ok (.iload 4, 2) := by decide +kernel
theorem dJ5_newCapacity_0f7a4_21 : decode cJ5_newCapacity_0f7a4 21 = .ok (.iload_n 2, 1) := by decide +kernel
theorem dJ5_newCapacity_0f7a4_22 : decode cJ5_newCapacity_0f7a4 22 = .ok (.iconst 2, 1) := by decide +kernel
theorem dJ5_newCapacity_0f7a4_23 : decode cJ5_newCapacity_0f7a4 23 = .ok (.aload_n 0, 1) := by decide +kernel
theorem dJ5_newCapacity_0f7a4_24 : decode cJ5_newCapacity_0f7a4 24 = .ok (.getfield 22, 3) := by decide +kernel
theorem dJ5_newCapacity_0f7a4_27 : decode cJ5_newCapacity_0f7a4 27 = .ok (.ishl, 1) := by decide +kernel
theorem dJ5_newCapacity_0f7a4_28 : decode cJ5_newCapacity_0f7a4 28 = .ok (.iadd, 1) := by decide +kernel
theorem dJ5_newCapacity_0f7a4_29 : decode cJ5_newCapacity_0f7a4 29 = .ok (.invokestatic 114, 3) := by decide +kernel
theorem dJ5_newCapacity_0f7a4_32 : decode cJ5_newCapacity_0f7a4 32 = .ok (.istore 5, 2) := by decide +kernel
theorem dJ5_newCapacity_0f7a4_34 : decode cJ5_newCapacity_0f7a4 34 = .ok (.iload 5, 2) := by decide +kernel
theorem dJ5_newCapacity_0f7a4_36 : decode cJ5_newCapacity_0f7a4 36 = .ok (.ldc 39, 2) := by decide +kernel
theorem dJ5_newCapacity_0f7a4_38 : decode cJ5_newCapacity_0f7a4 38 = .ok (.if_icmp .ne 13, 3) := by decide +kernel
theorem dJ5_newCapacity_0f7a4_41 : decode cJ5_newCapacity_0f7a4 41 = .ok (.new 120, 3) := by decide +kernel
theorem dJ5_newCapacity_0f7a4_44 : decode cJ5_newCapacity_0f7a4 44 = .ok (.dup, 1) := by decide +kernel
theorem dJ5_newCapacity_0f7a4_45 : decode cJ5_newCapacity_0f7a4 45 = .ok (.ldc 122, 2) := by decide +kernel
theorem dJ5_newCapacity_0f7a4_47 : decode cJ5_newCapacity_0f7a4 47 = .ok (.invokespecial 124, 3) := by decide +kernel
theorem dJ5_newCapacity_0f7a4_50 : decode cJ5_newCapacity_0f7a4 50 = .ok (.athrow, 1) := by decide +kernel
theorem dJ5_newCapacity_0f7a4_51 : decode cJ5_newCapacity_0f7a4 51 = .ok (.iload 5, 2) := by decide +kernel
theorem dJ5_newCapacity_0f7a4_53 : decode cJ5_newCapacity_0f7a4 53 = .ok (.aload_n 0, 1) := by decide +kernel
theorem dJ5_newCapacity_0f7a4_54 : decode cJ5_newCapacity_0f7a4 54 = .ok (.getfield 22, 3) := by decide +kernel
theorem dJ5_newCapacity_0f7a4_57 : decode cJ5_newCapacity_0f7a4 57 = .ok (.ishr, 1) := by decide +kernel
theorem dJ5_newCapacity_0f7a4_58 : decode cJ5_newCapacity_0f7a4 58 = .ok (.ireturn, 1) := by decide +kernel
theorem dJ5_inflate_da8c8_0 : decode cJ5_inflate_da8c8 0 = .ok (.aload_n 0, 1) := by decide +kernel
theorem dJ5_inflate_da8c8_1 : decode cJ5_inflate_da8c8 1 = .ok (.invokevirtual 83, 3) := by decide +kernel
theorem dJ5_inflate_da8c8_4 : decode cJ5_inflate_da8c8 4 = .ok (.ifCond .ne 4, 3) := by decide +kernel
theorem dJ5_inflate_da8c8_7 : decode cJ5_inflate_da8c8 7 = .ok (.return_, 1) := by decide +kernel
theorem dJ5_inflate_da8c8_8 : decode cJ5_inflate_da8c8 8 = .ok (.aload_n 0, 1) := by decide +kernel
theorem dJ5_inflate_da8c8_9 : decode cJ5_inflate_da8c8 9 = .ok (.getfield 15, 3) := by decide +kernel
theorem dJ5_inflate_da8c8_12 : decode cJ5_inflate_da8c8 12 = .ok (.arraylength, 1) := by decide +kernel
theorem dJ5_inflate_da8c8_13 : decode cJ5_inflate_da8c8 13 = .ok (.invokestatic 26, 3) := by decide +kernel
theorem dJ5_inflate_da8c8_16 : decode cJ5_inflate_da8c8 16 = .ok (.astore_n 1, 1) := by decide +kernel
theorem dJ5_inflate_da8c8_17 : decode cJ5_inflate_da8c8 17 = .ok (.aload_n 0, 1) := by decide +kernel
theorem dJ5_inflate_da8c8_18 : decode cJ5_inflate_da8c8 18 = .ok (.getfield 15, 3) := by decide +kernel
theorem dJ5_inflate_da8c8_21 : decode cJ5_inflate_da8c8 21 = .ok (.iconst 0, 1) := by decide +kernel
theorem dJ5_inflate_da8c8_22 : decode cJ5_inflate_da8c8 22 = .ok (.aload_n 1, 1) := by decide +kernel
theorem dJ5_inflate_da8c8_23 : decode cJ5_inflate_da8c8 23 = .ok (.iconst 0, 1) := by decide +kernel
theorem dJ5_inflate_da8c8_24 : decode cJ5_inflate_da8c8 24 = .ok (.aload_n 0, 1) := by decide +kernel
theorem dJ5_inflate_da8c8_25 : decode cJ5_inflate_da8c8 25 = .ok (.getfield 79, 3) := by decide +kernel
theorem dJ5_inflate_da8c8_28 : decode cJ5_inflate_da8c8 28 = .ok (.invokestatic 125, 3) := by decide +kernel
theorem dJ5_inflate_da8c8_31 : decode cJ5_inflate_da8c8 31 = .ok (.aload_n 0, 1) := by decide +kernel
theorem dJ5_inflate_da8c8_32 : decode cJ5_inflate_da8c8 32 = .ok (.aload_n 1, 1) := by decide +kernel
theorem dJ5_inflate_da8c8_33 : decode cJ5_inflate_da8c8 33 = .ok (.putfield 15, 3) := by decide +kernel
theorem dJ5_inflate_da8c8_36 : decode cJ5_inflate_da8c8 36 = .ok (.aload_n 0, 1) := by decide +kernel
theorem dJ5_inflate_da8c8_37 : decode cJ5_inflate_da8c8 37 = .ok (.iconst 1, 1) := by decide +kernel
theorem dJ5_inflate_da8c8_38 : decode cJ5_inflate_da8c8 38 = .ok (.putfield 22, 3) := by decide +kernel
theorem dJ5_inflate_da8c8_41 : decode cJ5_inflate_da8c8 41 = .ok (.return_, 1) := by decide +kernel
theorem dJ5_charAt_5068e_0 : decode cJ5_charAt_5068e 0 = .ok (.aload_n 0, 1) := by decide +kernel
theorem dJ5_charAt_5068e_1 : decode cJ5_charAt_5068e 1 = .ok (.getfield 22, 3) := by decide +kernel
theorem dJ5_charAt_5068e_4 : decode cJ5_charAt_5068e 4 = .ok (.istore_n 2, 1) := by decide +kernel
theorem dJ5_charAt_5068e_5 : decode cJ5_charAt_5068e 5 = .ok (.aload_n 0, 1) := by decide +kernel
theorem dJ5_charAt_5068e_6 : decode cJ5_charAt_5068e 6 = .ok (.getfield 15, 3) := by decide +kernel
theorem dJ5_charAt_5068e_9 : decode cJ5_charAt_5068e 9 = .ok (.astore_n 3, 1) := by decide +kernel
theorem dJ5_charAt_5068e_10 : decode cJ5_charAt_5068e 10 = .ok (.aload_n 0, 1) := by decide +kernel
theorem dJ5_charAt_5068e_11 : decode cJ5_charAt_5068e 11 = .ok (.getfield 79, 3) := by decide +kernel
theorem dJ5_charAt_5068e_14 : decode cJ5_charAt_5068e 14 = .ok (.aload_n 3, 1) := by decide +kernel
theorem dJ5_charAt_5068e_15 : decode cJ5_charAt_5068e 15 = .ok (.arraylength, 1) := by decide +kernel
theorem dJ5_charAt_5068e_16 : decode cJ5_charAt_5068e 16 = .ok (.iload_n 2, 1) := by decide +kernel
theorem dJ5_charAt_5068e_17 : decode cJ5_charAt_5068e 17 = .ok (.ishr, 1) := by decide +kernel
theorem dJ5_charAt_5068e_18 : decode cJ5_charAt_5068e 18 = .ok (.invokestatic 138, 3) := by decide +kernel
theorem dJ5_charAt_5068e_21 : decode cJ5_charAt_5068e 21 = .ok (.istore 4, 2) := by decide +kernel
theorem dJ5_charAt_5068e_23 : decode cJ5_charAt_5068e 23 = .ok (.iload_n 1, 1) := by decide +kernel
theorem dJ5_charAt_5068e_24 : decode cJ5_charAt_5068e 24 = .ok (.iload 4, 2) := by decide +kernel
theorem dJ5_charAt_5068e_26 : decode cJ5_charAt_5068e 26 = .ok (.invokestatic 144, 3) := by decide +kernel
theorem dJ5_charAt_5068e_29 : decode cJ5_charAt_5068e 29 = .ok (.iload_n 2, 1) := by decide +kernel
theorem dJ5_charAt_5068e_30 : decode cJ5_charAt_5068e 30 = .ok (.ifCond .ne 12, 3) := by decide +kernel
theorem dJ5_charAt_5068e_33 : decode cJ5_charAt_5068e 33 = .ok (.aload_n 3, 1) := by decide +kernel
theorem dJ5_charAt_5068e_34 : decode cJ5_charAt_5068e 34 = .ok (.iload_n 1, 1) := by decide +kernel
theorem dJ5_charAt_5068e_35 : decode cJ5_charAt_5068e 35 = .ok (.baload, 1) := by decide +kernel
theorem dJ5_charAt_5068e_36 : decode cJ5_charAt_5068e 36 = .ok (.sipush 255, 3) := by decide +kernel
theorem dJ5_charAt_5068e_39 : decode cJ5_charAt_5068e 39 = .ok (.iand, 1) := by decide +kernel
theorem dJ5_charAt_5068e_40 : decode cJ5_charAt_5068e 40 = .ok (.i2c, 1) := by decide +kernel
theorem dJ5_charAt_5068e_41 : decode cJ5_charAt_5068e 41 = .ok (.ireturn, 1) := by decide +kernel
theorem dJ5_charAt_5068e_42 : decode cJ5_charAt_5068e 42 = .ok (.aload_n 3, 1) := by decide +kernel
theorem dJ5_charAt_5068e_43 : decode cJ5_charAt_5068e 43 = .ok (.iload_n 1, 1) := by decide +kernel
theorem dJ5_charAt_5068e_44 : decode cJ5_charAt_5068e 44 = .ok (.invokestatic 148, 3) := by decide +kernel
theorem dJ5_charAt_5068e_47 : decode cJ5_charAt_5068e 47 = .ok (.ireturn, 1) := by decide +kernel
theorem dJ5_append_cf1ce_0 : decode cJ5_append_cf1ce 0 = .ok (.aload_n 1, 1) := by decide +kernel
theorem dJ5_append_cf1ce_1 : decode cJ5_append_cf1ce 1 = .ok (.ifnonnull 8, 3) := by decide +kernel
theorem dJ5_append_cf1ce_4 : decode cJ5_append_cf1ce 4 = .ok (.aload_n 0, 1) := by decide +kernel
theorem dJ5_append_cf1ce_5 : decode cJ5_append_cf1ce 5 = .ok (.invokevirtual 204, 3) := by decide +kernel
theorem dJ5_append_cf1ce_8 : decode cJ5_append_cf1ce 8 = .ok (.areturn, 1) := by decide +kernel
theorem dJ5_append_cf1ce_9 : decode cJ5_append_cf1ce 9 = .ok (.aload_n 1, 1) := by decide +kernel
theorem dJ5_append_cf1ce_10 : decode cJ5_append_cf1ce 10 = .ok (.invokevirtual 32, 3) := by decide +kernel
theorem dJ5_append_cf1ce_13 : decode cJ5_append_cf1ce 13 = .ok (.istore_n 2, 1) := by decide +kernel
theorem dJ5_append_cf1ce_14 : decode cJ5_append_cf1ce 14 = .ok (.aload_n 0, 1) := by decide +kernel
theorem dJ5_append_cf1ce_15 : decode cJ5_append_cf1ce 15 = .ok (.aload_n 0, 1) := by decide +kernel
theorem dJ5_append_cf1ce_16 : decode cJ5_append_cf1ce 16 = .ok (.getfield 79, 3) := by decide +kernel
theorem dJ5_append_cf1ce_19 : decode cJ5_append_cf1ce 19 = .ok (.iload_n 2, 1) := by decide +kernel
theorem dJ5_append_cf1ce_20 : decode cJ5_append_cf1ce 20 = .ok (.iadd, 1) := by decide +kernel
theorem dJ5_append_cf1ce_21 : decode cJ5_append_cf1ce 21 = .ok (.invokevirtual 100, 3) := by decide +kernel
theorem dJ5_append_cf1ce_24 : decode cJ5_append_cf1ce 24 = .ok (.aload_n 0, 1) := by decide +kernel
theorem dJ5_append_cf1ce_25 : decode cJ5_append_cf1ce 25 = .ok (.aload_n 0, 1) := by decide +kernel
theorem dJ5_append_cf1ce_26 : decode cJ5_append_cf1ce 26 = .ok (.getfield 79, 3) := by decide +kernel
theorem dJ5_append_cf1ce_29 : decode cJ5_append_cf1ce 29 = .ok (.aload_n 1, 1) := by decide +kernel
theorem dJ5_append_cf1ce_30 : decode cJ5_append_cf1ce 30 = .ok (.invokevirtual 208, 3) := by decide +kernel
theorem dJ5_append_cf1ce_33 : decode cJ5_append_cf1ce 33 = .ok (.aload_n 0, 1) := by decide +kernel
theorem dJ5_append_cf1ce_34 : decode cJ5_append_cf1ce 34 = .ok (.dup, 1) := by decide +kernel
theorem dJ5_append_cf1ce_35 : decode cJ5_append_cf1ce 35 = .ok (.getfield 79, 3) := by decide +kernel
theorem dJ5_append_cf1ce_38 : decode cJ5_append_cf1ce 38 = .ok (.iload_n 2, 1) := by decide +kernel
theorem dJ5_append_cf1ce_39 : decode cJ5_append_cf1ce 39 = .ok (.iadd, 1) := by decide +kernel
theorem dJ5_append_cf1ce_40 : decode cJ5_append_cf1ce 40 = .ok (.putfield 79, 3) := by decide +kernel
theorem dJ5_append_cf1ce_43 : decode cJ5_append_cf1ce 43 = .ok (.aload_n 0, 1) := by decide +kernel
theorem dJ5_append_cf1ce_44 : decode cJ5_append_cf1ce 44 = .ok (.areturn, 1) := by decide +kernel
theorem dJ5_appendNull_278bc_0 : decode cJ5_appendNull_278bc 0 = .ok (.aload_n 0, 1) := by decide +kernel
theorem dJ5_appendNull_278bc_1 : decode cJ5_appendNull_278bc 1 = .ok (.aload_n 0, 1) := by decide +kernel
theorem dJ5_appendNull_278bc_2 : decode cJ5_appendNull_278bc 2 = .ok (.getfield 79, 3) := by decide +kernel
theorem dJ5_appendNull_278bc_5 : decode cJ5_appendNull_278bc 5 = .ok (.iconst 4, 1) := by decide +kernel
theorem dJ5_appendNull_278bc_6 : decode cJ5_appendNull_278bc 6 = .ok (.iadd, 1) := by decide +kernel
theorem dJ5_appendNull_278bc_7 : decode cJ5_appendNull_278bc 7 = .ok (.invokevirtual 100, 3) := by decide +kernel
theorem dJ5_appendNull_278bc_10 : decode cJ5_appendNull_278bc 10 = .ok (.aload_n 0, 1) := by decide +kernel
theorem dJ5_appendNull_278bc_11 : decode cJ5_appendNull_278bc 11 = .ok (.getfield 79, 3) := by decide +kernel
theorem dJ5_appendNull_278bc_14 : decode cJ5_appendNull_278bc 14 = .ok (.istore_n 1, 1) := by decide +kernel
theorem dJ5_appendNull_278bc_15 : decode cJ5_appendNull_278bc 15 = .ok (.aload_n 0, 1) := by decide +kernel
theorem dJ5_appendNull_278bc_16 : decode cJ5_appendNull_278bc 16 = .ok (.getfield 15, 3) := by decide +kernel
theorem dJ5_appendNull_278bc_19 : decode cJ5_appendNull_278bc 19 = .ok (.astore_n 2, 1) := by decide +kernel
theorem dJ5_appendNull_278bc_20 : decode cJ5_appendNull_278bc 20 = .ok (.aload_n 0, 1) := by decide +kernel
theorem dJ5_appendNull_278bc_21 : decode cJ5_appendNull_278bc 21 = .ok (.invokevirtual 83, 3) := by decide +kernel
theorem dJ5_appendNull_278bc_24 : decode cJ5_appendNull_278bc 24 = .ok (.ifCond .eq 38, 3) := by decide +kernel
theorem dJ5_appendNull_278bc_27 : decode cJ5_appendNull_278bc 27 = .ok (.aload_n 2, 1) := by decide +kernel
theorem dJ5_appendNull_278bc_28 : decode cJ5_appendNull_278bc 28 = .ok (.iload_n 1, 1) := by decide +kernel
theorem dJ5_appendNull_278bc_29 : decode cJ5_appendNull_278bc 29 = .ok (.iinc 1 1, 3) := by decide +kernel
theorem dJ5_appendNull_278bc_32 : decode cJ5_appendNull_278bc 32 = .ok (.bipush 110, 2) := by decide +kernel
theorem dJ5_appendNull_278bc_34 : decode cJ5_appendNull_278bc 34 = .ok (.bastore, 1) := by decide +kernel
theorem dJ5_appendNull_278bc_35 : decode cJ5_appendNull_278bc 35 = .ok (.aload_n 2, 1) := by decide +kernel
theorem dJ5_appendNull_278bc_36 : decode cJ5_appendNull_278bc 36 = .ok (.iload_n 1, 1) := by decide +kernel
theorem dJ5_appendNull_278bc_37 : decode cJ5_appendNull_278bc 37 = .ok (.iinc 1 1, 3) := by decide +kernel
theorem dJ5_appendNull_278bc_40 : decode cJ5_appendNull_278bc 40 = .ok (.bipush 117, 2) := by decide +kernel
theorem dJ5_appendNull_278bc_42 : decode cJ5_appendNull_278bc 42 = .ok (.bastore, 1) := by decide +kernel
theorem dJ5_appendNull_278bc_43 : decode cJ5_appendNull_278bc 43 = .ok (.aload_n 2, 1) := by decide +kernel
theorem dJ5_appendNull_278bc_44 : decode cJ5_appendNull_278bc 44 = .ok (.iload_n 1, 1) := by decide +kernel
theorem dJ5_appendNull_278bc_45 : decode cJ5_appendNull_278bc 45 = .ok (.iinc 1 1, 3) := by decide +kernel
theorem dJ5_appendNull_278bc_48 : decode cJ5_appendNull_278bc 48 = .ok (.bipush 108, 2) := by decide +kernel
theorem dJ5_appendNull_278bc_50 : decode cJ5_appendNull_278bc 50 = .ok (.bastore, 1) := by decide +kernel
theorem dJ5_appendNull_278bc_51 : decode cJ5_appendNull_278bc 51 = .ok (.aload_n 2, 1) := by decide +kernel
theorem dJ5_appendNull_278bc_52 : decode cJ5_appendNull_278bc 52 = .ok (.iload_n 1, 1) := by decide +kernel
theorem dJ5_appendNull_278bc_53 : decode cJ5_appendNull_278bc 53 = .ok (.iinc 1 1, 3) := by decide +kernel
theorem dJ5_appendNull_278bc_56 : decode cJ5_appendNull_278bc 56 = .ok (.bipush 108, 2) := by decide +kernel
theorem dJ5_appendNull_278bc_58 : decode cJ5_appendNull_278bc 58 = .ok (.bastore, 1) := by decide +kernel
theorem dJ5_appendNull_278bc_59 : decode cJ5_appendNull_278bc 59 = .ok (.goto 17, 3) := by decide +kernel
theorem dJ5_appendNull_278bc_62 : decode cJ5_appendNull_278bc 62 = .ok (.aload_n 2, 1) := by decide +kernel
theorem dJ5_appendNull_278bc_63 : decode cJ5_appendNull_278bc 63 = .ok (.iload_n 1, 1) := by decide +kernel
theorem dJ5_appendNull_278bc_64 : decode cJ5_appendNull_278bc 64 = .ok (.bipush 110, 2) := by decide +kernel
theorem dJ5_appendNull_278bc_66 : decode cJ5_appendNull_278bc 66 = .ok (.bipush 117, 2) := by decide +kernel
theorem dJ5_appendNull_278bc_68 : decode cJ5_appendNull_278bc 68 = .ok (.bipush 108, 2) := by decide +kernel
theorem dJ5_appendNull_278bc_70 : decode cJ5_appendNull_278bc 70 = .ok (.bipush 108, 2) := by decide +kernel
theorem dJ5_appendNull_278bc_72 : decode cJ5_appendNull_278bc 72 = .ok (.invokestatic 226, 3) := by decide +kernel
theorem dJ5_appendNull_278bc_75 : decode cJ5_appendNull_278bc 75 = .ok (.istore_n 1, 1) := by decide +kernel
theorem dJ5_appendNull_278bc_76 : decode cJ5_appendNull_278bc 76 = .ok (.aload_n 0, 1) := by decide +kernel
theorem dJ5_appendNull_278bc_77 : decode cJ5_appendNull_278bc 77 = .ok (.iload_n 1, 1) := by decide +kernel
theorem dJ5_appendNull_278bc_78 : decode cJ5_appendNull_278bc 78 = .ok (.putfield 79, 3) := by decide +kernel
theorem dJ5_appendNull_278bc_81 : decode cJ5_appendNull_278bc 81 = .ok (.aload_n 0, 1) := by decide +kernel
theorem dJ5_appendNull_278bc_82 : decode cJ5_appendNull_278bc 82 = .ok (.areturn, 1) := by decide +kernel
theorem dJ5_append_3fe6f_0 : decode cJ5_append_3fe6f 0 = .ok (.aload_n 0, 1) := by decide +kernel
theorem dJ5_append_3fe6f_1 : decode cJ5_append_3fe6f 1 = .ok (.aload_n 0, 1) := by decide +kernel
theorem dJ5_append_3fe6f_2 : decode cJ5_append_3fe6f 2 = .ok (.getfield 79, 3) := by decide +kernel
theorem dJ5_append_3fe6f_5 : decode cJ5_append_3fe6f 5 = .ok (.iconst 1, 1) := by decide +kernel
theorem dJ5_append_3fe6f_6 : decode cJ5_append_3fe6f 6 = .ok (.iadd, 1) := by decide +kernel
theorem dJ5_append_3fe6f_7 : decode cJ5_append_3fe6f 7 = .ok (.invokevirtual 100, 3) := by decide +kernel
theorem dJ5_append_3fe6f_10 : decode cJ5_append_3fe6f 10 = .ok (.aload_n 0, 1) := by decide +kernel
theorem dJ5_append_3fe6f_11 : decode cJ5_append_3fe6f 11 = .ok (.invokevirtual 83, 3) := by decide +kernel
theorem dJ5_append_3fe6f_14 : decode cJ5_append_3fe6f 14 = .ok (.ifCond .eq 31, 3) := by decide +kernel
theorem dJ5_append_3fe6f_17 : decode cJ5_append_3fe6f 17 = .ok (.iload_n 1, 1) := by decide +kernel
theorem dJ5_append_3fe6f_18 : decode cJ5_append_3fe6f 18 = .ok (.invokestatic 191, 3) := by decide +kernel
theorem dJ5_append_3fe6f_21 : decode cJ5_append_3fe6f 21 = .ok (.ifCond .eq 24, 3) := by decide +kernel
theorem dJ5_append_3fe6f_24 : decode cJ5_append_3fe6f 24 = .ok (.aload_n 0, 1) := by decide +kernel
theorem dJ5_append_3fe6f_25 : decode cJ5_append_3fe6f 25 = .ok (.getfield 15, 3) := by decide +kernel
theorem dJ5_append_3fe6f_28 : decode cJ5_append_3fe6f 28 = .ok (.aload_n 0, 1) := by decide +kernel
theorem dJ5_append_3fe6f_29 : decode cJ5_append_3fe6f 29 = .ok (.dup, 1) := by decide +kernel
theorem dJ5_append_3fe6f_30 : decode cJ5_append_3fe6f 30 = .ok (.getfield 79, 3) := by decide +kernel
theorem dJ5_append_3fe6f_33 : decode cJ5_append_3fe6f 33 = .ok (.dup_x1, 1) := by decide +kernel
theorem dJ5_append_3fe6f_34 : decode cJ5_append_3fe6f 34 = .ok (.iconst 1, 1) := by decide +kernel
theorem dJ5_append_3fe6f_35 : decode cJ5_append_3fe6f 35 = .ok (.iadd, 1) := by decide +kernel
theorem dJ5_append_3fe6f_36 : decode cJ5_append_3fe6f 36 = .ok (.putfield 79, 3) := by decide +kernel
theorem dJ5_append_3fe6f_39 : decode cJ5_append_3fe6f 39 = .ok (.iload_n 1, 1) := by decide +kernel
theorem dJ5_append_3fe6f_40 : decode cJ5_append_3fe6f 40 = .ok (.i2b, 1) := by decide +kernel
theorem dJ5_append_3fe6f_41 : decode cJ5_append_3fe6f 41 = .ok (.bastore, 1) := by decide +kernel
theorem dJ5_append_3fe6f_42 : decode cJ5_append_3fe6f 42 = .ok (.goto 33, 3) := by decide +kernel
theorem dJ5_append_3fe6f_45 : decode cJ5_append_3fe6f 45 = .ok (.aload_n 0, 1) := by decide +kernel
theorem dJ5_append_3fe6f_46 : decode cJ5_append_3fe6f 46 = .ok (.invokevirtual 83, 3) := by decide +kernel
theorem dJ5_append_3fe6f_49 : decode cJ5_append_3fe6f 49 = .ok (.ifCond .eq 7, 3) := by decide +kernel
theorem dJ5_append_3fe6f_52 : decode cJ5_append_3fe6f 52 = .ok (.aload_n 0, 1) := by decide +kernel
theorem dJ5_append_3fe6f_53 : decode cJ5_append_3fe6f 53 = .ok (.invokevirtual 195, 3) := by decide +kernel
theorem dJ5_append_3fe6f_56 : decode cJ5_append_3fe6f 56 = .ok (.aload_n 0, 1) := by decide +kernel
theorem dJ5_append_3fe6f_57 : decode cJ5_append_3fe6f 57 = .ok (.getfield 15, 3) := by decide +kernel
theorem dJ5_append_3fe6f_60 : decode cJ5_append_3fe6f 60 = .ok (.aload_n 0, 1) := by decide +kernel
theorem dJ5_append_3fe6f_61 : decode cJ5_append_3fe6f 61 = .ok (.dup, 1) := by decide +kernel
theorem dJ5_append_3fe6f_62 : decode cJ5_append_3fe6f 62 = .ok (.getfield 79, 3) := by decide +kernel
theorem dJ5_append_3fe6f_65 : decode cJ5_append_3fe6f 65 = .ok (.dup_x1, 1) := by decide +kernel
theorem dJ5_append_3fe6f_66 : decode cJ5_append_3fe6f 66 = .ok (.iconst 1, 1) := by decide +kernel
theorem dJ5_append_3fe6f_67 : decode cJ5_append_3fe6f 67 = .ok (.iadd, 1) := by decide +kernel
theorem dJ5_append_3fe6f_68 : decode cJ5_append_3fe6f 68 = .ok (.putfield 79, 3) := by decide +kernel
theorem dJ5_append_3fe6f_71 : decode cJ5_append_3fe6f 71 = .ok (.iload_n 1, 1) := by decide +kernel
theorem dJ5_append_3fe6f_72 : decode cJ5_append_3fe6f 72 = .ok (.invokestatic 197, 3) := by decide +kernel
theorem dJ5_append_3fe6f_75 : decode cJ5_append_3fe6f 75 = .ok (.aload_n 0, 1) := by decide +kernel
theorem dJ5_append_3fe6f_76 : decode cJ5_append_3fe6f 76 = .ok (.areturn, 1) := by decide +kernel
theorem dJ5_append_c97b9_0 : decode cJ5_append_c97b9 0 = .ok (.aload_n 0, 1) := by decide +kernel
theorem dJ5_append_c97b9_1 : decode cJ5_append_c97b9 1 = .ok (.getfield 79, 3) := by decide +kernel
theorem dJ5_append_c97b9_4 : decode cJ5_append_c97b9 4 = .ok (.istore_n 2, 1) := by decide +kernel
theorem dJ5_append_c97b9_5 : decode cJ5_append_c97b9 5 = .ok (.iload_n 2, 1) := by decide +kernel
theorem dJ5_append_c97b9_6 : decode cJ5_append_c97b9 6 = .ok (.iload_n 1, 1) := by decide +kernel
theorem dJ5_append_c97b9_7 : decode cJ5_append_c97b9 7 = .ok (.invokestatic 245, 3) := by decide +kernel
theorem dJ5_append_c97b9_10 : decode cJ5_append_c97b9 10 = .ok (.iadd, 1) := by decide +kernel
theorem dJ5_append_c97b9_11 : decode cJ5_append_c97b9 11 = .ok (.istore_n 3, 1) := by decide +kernel
theorem dJ5_append_c97b9_12 : decode cJ5_append_c97b9 12 = .ok (.aload_n 0, 1) := by decide +kernel
theorem dJ5_append_c97b9_13 : decode cJ5_append_c97b9 13 = .ok (.iload_n 3, 1) := by decide +kernel
theorem dJ5_append_c97b9_14 : decode cJ5_append_c97b9 14 = .ok (.invokevirtual 100, 3) := by decide +kernel
theorem dJ5_append_c97b9_17 : decode cJ5_append_c97b9 17 = .ok (.aload_n 0, 1) := by decide +kernel
theorem dJ5_append_c97b9_18 : decode cJ5_append_c97b9 18 = .ok (.invokevirtual 83, 3) := by decide +kernel
theorem dJ5_append_c97b9_21 : decode cJ5_append_c97b9 21 = .ok (.ifCond .eq 16, 3) := by decide +kernel
theorem dJ5_append_c97b9_24 : decode cJ5_append_c97b9 24 = .ok (.iload_n 1, 1) := by decide +kernel
theorem dJ5_append_c97b9_25 : decode cJ5_append_c97b9 25 = .ok (.iload_n 3, 1) := by decide +kernel
theorem dJ5_append_c97b9_26 : decode cJ5_append_c97b9 26 = .ok (.aload_n 0, 1) := by decide +kernel
theorem dJ5_append_c97b9_27 : decode cJ5_append_c97b9 27 = .ok (.getfield 15, 3) := by decide +kernel
theorem dJ5_append_c97b9_30 : decode cJ5_append_c97b9 30 = .ok (.invokestatic 248, 3) := by decide +kernel
theorem dJ5_append_c97b9_33 : decode cJ5_append_c97b9 33 = .ok (.pop, 1) := by decide +kernel
theorem dJ5_append_c97b9_34 : decode cJ5_append_c97b9 34 = .ok (.goto 14, 3) := by decide +kernel
theorem dJ5_append_c97b9_37 : decode cJ5_append_c97b9 37 = .ok (.iload_n 1, 1) := by decide +kernel
theorem dJ5_append_c97b9_38 : decode cJ5_append_c97b9 38 = .ok (.iload_n 2, 1) := by decide +kernel
theorem dJ5_append_c97b9_39 : decode cJ5_append_c97b9 39 = .ok (.iload_n 3, 1) := by decide +kernel
theorem dJ5_append_c97b9_40 : decode cJ5_append_c97b9 40 = .ok (.aload_n 0, 1) := by decide +kernel
theorem dJ5_append_c97b9_41 : decode cJ5_append_c97b9 41 = .ok (.getfield 15, 3) := by decide +kernel
theorem dJ5_append_c97b9_44 : decode cJ5_append_c97b9 44 = .ok (.invokestatic 251, 3) := by decide +kernel
theorem dJ5_append_c97b9_47 : decode cJ5_append_c97b9 47 = .ok (.pop, 1) := by decide +kernel
theorem dJ5_append_c97b9_48 : decode cJ5_append_c97b9 48 = .ok (.aload_n 0, 1) := by decide +kernel
theorem dJ5_append_c97b9_49 : decode cJ5_append_c97b9 49 = .ok (.iload_n 3, 1) := by decide +kernel
theorem dJ5_append_c97b9_50 : decode cJ5_append_c97b9 50 = .ok (.putfield 79, 3) := by decide +kernel
theorem dJ5_append_c97b9_53 : decode cJ5_append_c97b9 53 = .ok (.aload_n 0, 1) := by decide +kernel
theorem dJ5_append_c97b9_54 : decode cJ5_append_c97b9 54 = .ok (.areturn, 1) := by decide +kernel
theorem dJ5_getValue_6d5f1_0 : decode cJ5_getValue_6d5f1 0 = .ok (.aload_n 0, 1) := by decide +kernel
theorem dJ5_getValue_6d5f1_1 : decode cJ5_getValue_6d5f1 1 = .ok (.getfield 15, 3) := by decide +kernel
theorem dJ5_getValue_6d5f1_4 : decode cJ5_getValue_6d5f1 4 = .ok (.areturn, 1) := by decide +kernel
theorem dJ5_isLatin1_aae02_0 : decode cJ5_isLatin1_aae02 0 = .ok (.getstatic 18, 3) := by decide +kernel
theorem dJ5_isLatin1_aae02_3 : decode cJ5_isLatin1_aae02 3 = .ok (.ifCond .eq 14, 3) := by decide +kernel
theorem dJ5_isLatin1_aae02_6 : decode cJ5_isLatin1_aae02 6 = .ok (.aload_n 0, 1) := by decide +kernel
theorem dJ5_isLatin1_aae02_7 : decode cJ5_isLatin1_aae02 7 = .ok (.getfield 22, 3) := by decide +kernel
theorem dJ5_isLatin1_aae02_10 : decode cJ5_isLatin1_aae02 10 = .ok (.ifCond .ne 7, 3) := by decide +kernel
theorem dJ5_isLatin1_aae02_13 : decode cJ5_isLatin1_aae02 13 = .ok (.iconst 1, 1) := by decide +kernel
theorem dJ5_isLatin1_aae02_14 : decode cJ5_isLatin1_aae02 14 = .ok (.goto 4, 3) := by decide +kernel
theorem dJ5_isLatin1_aae02_17 : decode cJ5_isLatin1_aae02 17 = .ok (.iconst 0, 1) := by decide +kernel
theorem dJ5_isLatin1_aae02_18 : decode cJ5_isLatin1_aae02 18 = .ok (.ireturn, 1) := by decide +kernel
theorem dJ5_inflateIfNeededFor_a7421_0 : decode cJ5_inflateIfNeededFor_a7421 0 = .ok (.getstatic 18, 3) := by decide +kernel
theorem dJ5_inflateIfNeededFor_a7421_3 : decode cJ5_inflateIfNeededFor_a7421 3 = .ok (.ifCond .eq 18, 3) := by decide +kernel
theorem dJ5_inflateIfNeededFor_a7421_6 : decode cJ5_inflateIfNeededFor_a7421 6 = .ok (.aload_n 0, 1) := by decide +kernel
theorem dJ5_inflateIfNeededFor_a7421_7 : decode cJ5_inflateIfNeededFor_a7421 7 = .ok (.getfield 22, 3) := by decide +kernel
theorem dJ5_inflateIfNeededFor_a7421_10 : decode cJ5_inflateIfNeededFor_a7421 10 = .ok (.aload_n 1, 1) := by decide +kernel
theorem dJ5_inflateIfNeededFor_a7421_11 : decode cJ5_inflateIfNeededFor_a7421 11 = .ok (.invokevirtual 40, 3) := by decide +kernel
theorem dJ5_inflateIfNeededFor_a7421_14 : decode cJ5_inflateIfNeededFor_a7421 14 = .ok (.if_icmp .eq 7, 3) := by decide +kernel
theorem dJ5_inflateIfNeededFor_a7421_17 : decode cJ5_inflateIfNeededFor_a7421 17 = .ok (.aload_n 0, 1) := by decide +kernel
theorem dJ5_inflateIfNeededFor_a7421_18 : decode cJ5_inflateIfNeededFor_a7421 18 = .ok (.invokevirtual 195, 3) := by decide +kernel
theorem dJ5_inflateIfNeededFor_a7421_21 : decode cJ5_inflateIfNeededFor_a7421 21 = .ok (.return_, 1) := by decide +kernel
theorem dJ5_putStringAt_47b60_0 : decode cJ5_putStringAt_47b60 0 = .ok (.aload_n 0, 1) := by decide +kernel
theorem dJ5_putStringAt_47b60_1 : decode cJ5_putStringAt_47b60 1 = .ok (.aload_n 2, 1) := by decide +kernel
theorem dJ5_putStringAt_47b60_2 : decode cJ5_putStringAt_47b60 2 = .ok (.invokevirtual 397, 3) := by decide +kernel
theorem dJ5_putStringAt_47b60_5 : decode cJ5_putStringAt_47b60 5 = .ok (.aload_n 2, 1) := by decide +kernel
theorem dJ5_putStringAt_47b60_6 : decode cJ5_putStringAt_47b60 6 = .ok (.aload_n 0, 1) := by decide +kernel
theorem dJ5_putStringAt_47b60_7 : decode cJ5_putStringAt_47b60 7 = .ok (.getfield 15, 3) := by decide +kernel
theorem dJ5_putStringAt_47b60_10 : decode cJ5_putStringAt_47b60 10 = .ok (.iload_n 1, 1) := by decide +kernel
theorem dJ5_putStringAt_47b60_11 : decode cJ5_putStringAt_47b60 11 = .ok (.aload_n 0, 1) := by decide +kernel
theorem dJ5_putStringAt_47b60_12 : decode cJ5_putStringAt_47b60 12 = .ok (.getfield 22, 3) := by decide +kernel
theorem dJ5_putStringAt_47b60_15 : decode cJ5_putStringAt_47b60 15 = .ok (.invokevirtual 399, 3) := by decide +kernel
theorem dJ5_putStringAt_47b60_18 : decode cJ5_putStringAt_47b60 18 = .ok (.return_, 1) := by decide +kernel
theorem dJ6_getChars_ba4f3_0 : decode cJ6_getChars_ba4f3 0 = .ok (.iload_n 1, 1) := by decide +kernel
theorem dJ6_getChars_ba4f3_1 : decode cJ6_getChars_ba4f3 1 = .ok (.istore 5, 2) := by decide +kernel
theorem dJ6_getChars_ba4f3_3 : decode cJ6_getChars_ba4f3 3 = .ok (.iload_n 0, 1) := by decide +kernel
theorem dJ6_getChars_ba4f3_4 : decode cJ6_getChars_ba4f3 4 = .ok (.ifCond .ge 7, 3) := by decide +kernel
theorem dJ6_getChars_ba4f3_7 : decode cJ6_getChars_ba4f3 7 = .ok (.iconst 1, 1) := by decide +kernel
theorem dJ6_getChars_ba4f3_8 : decode cJ6_getChars_ba4f3 8 = .ok (.goto 4, 3) := by decide +kernel
theorem dJ6_getChars_ba4f3_11 : decode cJ6_getChars_ba4f3 11 = .ok (.iconst 0, 1) := by decide +kernel
theorem dJ6_getChars_ba4f3_12 : decode cJ6_getChars_ba4f3 12 = .ok (.istore 6, 2) := by decide +kernel
theorem dJ6_getChars_ba4f3_14 : decode cJ6_getChars_ba4f3 14 = .ok (.iload 6, 2) := by decide +kernel
theorem dJ6_getChars_ba4f3_16 : decode cJ6_getChars_ba4f3 16 = .ok (.ifCond .ne 6, 3) := by decide +kernel
theorem dJ6_getChars_ba4f3_19 : decode cJ6_getChars_ba4f3 19 = .ok (.iload_n 0, 1) := by decide +kernel
theorem dJ6_getChars_ba4f3_20 : decode cJ6_getChars_ba4f3 20 = .ok (.ineg, 1) := by decide +kernel
theorem dJ6_getChars_ba4f3_21 : decode cJ6_getChars_ba4f3 21 = .ok (.istore_n 0, 1) := by decide +kernel
theorem dJ6_getChars_ba4f3_22 : decode cJ6_getChars_ba4f3 22 = .ok (.iload_n 0, 1) := by decide +kernel
theorem dJ6_getChars_ba4f3_23 : decode cJ6_getChars_ba4f3 23 = .ok (.bipush (-100), 2) := by decide +kernel
theorem dJ6_getChars_ba4f3_25 : decode cJ6_getChars_ba4f3 25 = .ok (.if_icmp .gt 47, 3) := by decide +kernel
theorem dJ6_getChars_ba4f3_28 : decode cJ6_getChars_ba4f3 28 = .ok (.iload_n 0, 1) := by decide +kernel
theorem dJ6_getChars_ba4f3_29 : decode cJ6_getChars_ba4f3 29 = .ok (.bipush 100, 2) := by decide +kernel
theorem dJ6_getChars_ba4f3_31 : decode cJ6_getChars_ba4f3 31 = .ok (.idiv, 1) := by decide +kernel
theorem dJ6_getChars_ba4f3_32 : decode cJ6_getChars_ba4f3 32 = .ok (.istore_n 3, 1) := by decide +kernel
theorem dJ6_getChars_ba4f3_33 : decode cJ6_getChars_ba4f3 33 = .ok (.iload_n 3, 1) := by decide +kernel
theorem dJ6_getChars_ba4f3_34 : decode cJ6_getChars_ba4f3 34 = .ok (.bipush 100, 2) := by decide +kernel
theorem dJ6_getChars_ba4f3_36 : decode cJ6_getChars_ba4f3 36 = .ok (.imul, 1) := by decide +kernel
theorem dJ6_getChars_ba4f3_37 : decode cJ6_getChars_ba4f3 37 = .ok (.iload_n 0, 1) := by decide +kernel
theorem dJ6_getChars_ba4f3_38 : decode cJ6_getChars_ba4f3 38 = .ok (.isub, 1) := by decide +kernel
theorem dJ6_getChars_ba4f3_39 : decode cJ6_getChars_ba4f3 39 = .ok (.istore 4, 2) := by decide +kernel
theorem dJ6_getChars_ba4f3_41 : decode cJ6_getChars_ba4f3 41 = .ok (.iload_n 3, 1) := by decide +kernel
theorem dJ6_getChars_ba4f3_42 : decode cJ6_getChars_ba4f3 42 = .ok (.istore_n 0, 1) := by decide +kernel
theorem dJ6_getChars_ba4f3_43 : decode cJ6_getChars_ba4f3 43 = .ok (.aload_n 2, 1) := by decide +kernel
theorem dJ6_getChars_ba4f3_44 : decode cJ6_getChars_ba4f3 44 = .ok (.iinc 5 (-1), 3) := by decide +kernel
theorem dJ6_getChars_ba4f3_47 : decode cJ6_getChars_ba4f3 47 = .ok (.iload 5, 2) := by decide +kernel
theorem dJ6_getChars_ba4f3_49 : decode cJ6_getChars_ba4f3 49 = .ok (.getstatic 83, 3) := by decide +kernel
theorem dJ6_getChars_ba4f3_52 : decode cJ6_getChars_ba4f3 52 = .ok (.iload 4, 2) := by decide +kernel
theorem dJ6_getChars_ba4f3_54 : decode cJ6_getChars_ba4f3 54 = .ok (.baload, 1) := by decide +kernel
theorem dJ6_getChars_ba4f3_55 : decode cJ6_getChars_ba4f3 55 = .ok (.bastore, 1) := by decide +kernel
theorem dJ6_getChars_ba4f3_56 : decode cJ6_getChars_ba4f3 56 = .ok (.aload_n 2, 1) := by decide +kernel
theorem dJ6_getChars_ba4f3_57 : decode cJ6_getChars_ba4f3 57 = .ok (.iinc 5 (-1), 3) := by decide +kernel
theorem dJ6_getChars_ba4f3_60 : decode cJ6_getChars_ba4f3 60 = .ok (.iload 5, 2) := by decide +kernel
theorem dJ6_getChars_ba4f3_62 : decode cJ6_getChars_ba4f3 62 = .ok (.getstatic 87, 3) := by decide +kernel
theorem dJ6_getChars_ba4f3_65 : decode cJ6_getChars_ba4f3 65 = .ok (.iload 4, 2) := by decide +kernel
theorem dJ6_getChars_ba4f3_67 : decode cJ6_getChars_ba4f3 67 = .ok (.baload, 1) := by decide +kernel
theorem dJ6_getChars_ba4f3_68 : decode cJ6_getChars_ba4f3 68 = .ok (.bastore, 1) := by decide +kernel
theorem dJ6_getChars_ba4f3_69 : decode cJ6_getChars_ba4f3 69 = .ok (.goto (-47), 3) := by decide +kernel
theorem dJ6_getChars_ba4f3_72 : decode cJ6_getChars_ba4f3 72 = .ok (.aload_n 2, 1) := by decide +kernel
theorem dJ6_getChars_ba4f3_73 : decode cJ6_getChars_ba4f3 73 = .ok (.iinc 5 (-1), 3) := by decide +kernel
theorem dJ6_getChars_ba4f3_76 : decode cJ6_getChars_ba4f3 76 = .ok (.iload 5, 2) := by decide +kernel
theorem dJ6_getChars_ba4f3_78 : decode cJ6_getChars_ba4f3 78 = .ok (.getstatic 83, 3) := by decide +kernel
theorem dJ6_getChars_ba4f3_81 : decode cJ6_getChars_ba4f3 81 = .ok (.iload_n 0, 1) := by decide +kernel
theorem dJ6_getChars_ba4f3_82 : decode cJ6_getChars_ba4f3 82 = .ok (.ineg, 1) := by decide +kernel
theorem dJ6_getChars_ba4f3_83 : decode cJ6_getChars_ba4f3 83 = .ok (.baload, 1) := by decide +kernel
theorem dJ6_getChars_ba4f3_84 : decode cJ6_getChars_ba4f3 84 = .ok (.bastore, 1) := by decide +kernel
theorem dJ6_getChars_ba4f3_85 : decode cJ6_getChars_ba4f3 85 = .ok (.iload_n 0, 1) := by decide +kernel
theorem dJ6_getChars_ba4f3_86 : decode cJ6_getChars_ba4f3 86 = .ok (.bipush (-9), 2) := by decide +kernel
theorem dJ6_getChars_ba4f3_88 : decode cJ6_getChars_ba4f3 88 = .ok (.if_icmp .ge 16, 3) := by decide +kernel
theorem dJ6_getChars_ba4f3_91 : decode cJ6_getChars_ba4f3 91 = .ok (.aload_n 2, 1) := by decide +kernel
theorem dJ6_getChars_ba4f3_92 : decode cJ6_getChars_ba4f3 92 = .ok (.iinc 5 (-1), 3) := by decide +kernel
theorem dJ6_getChars_ba4f3_95 : decode cJ6_getChars_ba4f3 95 = .ok (.iload 5, 2) := by decide +kernel
theorem dJ6_getChars_ba4f3_97 : decode cJ6_getChars_ba4f3 97 = .ok (.getstatic 87, 3) := by decide +kernel
theorem dJ6_getChars_ba4f3_100 : decode cJ6_getChars_ba4f3 100 = .ok (.iload_n 0, 1) := by decide +kernel
theorem dJ6_getChars_ba4f3_101 : decode cJ6_getChars_ba4f3 101 = .ok (.ineg, 1) := by decide +kernel
theorem dJ6_getChars_ba4f3_102 : decode cJ6_getChars_ba4f3 102 = .ok (.baload, 1) := by decide +kernel
theorem dJ6_getChars_ba4f3_103 : decode cJ6_getChars_ba4f3 103 = .ok (.bastore, 1) := by decide +kernel
theorem dJ6_getChars_ba4f3_104 : decode cJ6_getChars_ba4f3 104 = .ok (.iload 6, 2) := by decide +kernel
theorem dJ6_getChars_ba4f3_106 : decode cJ6_getChars_ba4f3 106 = .ok (.ifCond .eq 12, 3) := by decide +kernel
theorem dJ6_getChars_ba4f3_109 : decode cJ6_getChars_ba4f3 109 = .ok (.aload_n 2, 1) := by decide +kernel
theorem dJ6_getChars_ba4f3_110 : decode cJ6_getChars_ba4f3 110 = .ok (.iinc 5 (-1), 3) := by decide +kernel
theorem dJ6_getChars_ba4f3_113 : decode cJ6_getChars_ba4f3 113 = .ok (.iload 5, 2) := by decide +kernel
theorem dJ6_getChars_ba4f3_115 : decode cJ6_getChars_ba4f3 115 = .ok (.bipush 45, 2) := by decide +kernel
theorem dJ6_getChars_ba4f3_117 : decode cJ6_getChars_ba4f3 117 = .ok (.bastore, 1) := by decide +kernel
theorem dJ6_getChars_ba4f3_118 : decode cJ6_getChars_ba4f3 118 = .ok (.iload 5, 2) := by decide +kernel
theorem dJ6_getChars_ba4f3_120 : decode cJ6_getChars_ba4f3 120 = .ok (.ireturn, 1) := by decide +kernel
theorem dJ6_stringSize_0f7a4_0 : decode cJ6_stringSize_0f7a4 0 = .ok (.iconst 1, 1) := by decide +kernel
theorem dJ6_stringSize_0f7a4_1 : decode cJ6_stringSize_0f7a4 1 = .ok (.istore_n 1, 1) := by decide +kernel
theorem dJ6_stringSize_0f7a4_2 : decode cJ6_stringSize_0f7a4 2 = .ok (.iload_n 0, 1) := by decide +kernel
theorem dJ6_stringSize_0f7a4_3 : decode cJ6_stringSize_0f7a4 3 = .ok (.ifCond .lt 8, 3) := by decide +kernel
theorem dJ6_stringSize_0f7a4_6 : decode cJ6_stringSize_0f7a4 6 = .ok (.iconst 0, 1) := by decide +kernel
theorem dJ6_stringSize_0f7a4_7 : decode cJ6_stringSize_0f7a4 7 = .ok (.istore_n 1, 1) := by decide +kernel
theorem dJ6_stringSize_0f7a4_8 : decode cJ6_stringSize_0f7a4 8 = .ok (.iload_n 0, 1) := by decide +kernel
theorem dJ6_stringSize_0f7a4_9 : decode cJ6_stringSize_0f7a4 9 = .ok (.ineg, 1) := by decide +kernel
theorem dJ6_stringSize_0f7a4_10 : decode cJ6_stringSize_0f7a4 10 = .ok (.istore_n 0, 1) := by decide +kernel
theorem dJ6_stringSize_0f7a4_11 : decode cJ6_stringSize_0f7a4 11 = .ok (.bipush (-10), 2) := by decide +kernel
theorem dJ6_stringSize_0f7a4_13 : decode cJ6_stringSize_0f7a4 13 = .ok (.istore_n 2, 1) := by decide +kernel
theorem dJ6_stringSize_0f7a4_14 : decode cJ6_stringSize_0f7a4 14 = .ok (.iconst 1, 1) := by decide +kernel
theorem dJ6_stringSize_0f7a4_15 : decode cJ6_stringSize_0f7a4 15 = .ok (.istore_n 3, 1) := by decide +kernel
theorem dJ6_stringSize_0f7a4_16 : decode cJ6_stringSize_0f7a4 16 = .ok (.iload_n 3, 1) := by decide +kernel
theorem dJ6_stringSize_0f7a4_17 : decode cJ6_stringSize_0f7a4 17 = .ok (.bipush 10, 2) := by decide +kernel
theorem dJ6_stringSize_0f7a4_19 : decode cJ6_stringSize_0f7a4 19 = .ok (.if_icmp .ge 23, 3) := by decide +kernel
theorem dJ6_stringSize_0f7a4_22 : decode cJ6_stringSize_0f7a4 22 = .ok (.iload_n 0, 1) := by decide +kernel
theorem dJ6_stringSize_0f7a4_23 : decode cJ6_stringSize_0f7a4 23 = .ok (.iload_n 2, 1) := by decide +kernel
theorem dJ6_stringSize_0f7a4_24 : decode cJ6_stringSize_0f7a4 24 = .ok (.if_icmp .le 7, 3) := by decide +kernel
theorem dJ6_stringSize_0f7a4_27 : decode cJ6_stringSize_0f7a4 27 = .ok (.iload_n 3, 1) := by decide +kernel
theorem dJ6_stringSize_0f7a4_28 : decode cJ6_stringSize_0f7a4 28 = .ok (.iload_n 1, 1) := by decide +kernel
theorem dJ6_stringSize_0f7a4_29 : decode cJ6_stringSize_0f7a4 29 = .ok (.iadd, 1) := by decide +kernel
theorem dJ6_stringSize_0f7a4_30 : decode cJ6_stringSize_0f7a4 30 = .ok (.ireturn, 1) := by decide +kernel
theorem dJ6_stringSize_0f7a4_31 : decode cJ6_stringSize_0f7a4 31 = .ok (.bipush 10, 2) := by decide +kernel
theorem dJ6_stringSize_0f7a4_33 : decode cJ6_stringSize_0f7a4 33 = .ok (.iload_n 2, 1) := by decide +kernel
theorem dJ6_stringSize_0f7a4_34 : decode cJ6_stringSize_0f7a4 34 = .ok (.imul, 1) := by decide +kernel
theorem dJ6_stringSize_0f7a4_35 : decode cJ6_stringSize_0f7a4 35 = .ok (.istore_n 2, 1) := by decide +kernel
theorem dJ6_stringSize_0f7a4_36 : decode cJ6_stringSize_0f7a4 36 = .ok (.iinc 3 1, 3) := by decide +kernel
theorem dJ6_stringSize_0f7a4_39 : decode cJ6_stringSize_0f7a4 39 = .ok (.goto (-23), 3) := by decide +kernel
theorem dJ6_stringSize_0f7a4_42 : decode cJ6_stringSize_0f7a4 42 = .ok (.bipush 10, 2) := by decide +kernel
theorem dJ6_stringSize_0f7a4_44 : decode cJ6_stringSize_0f7a4 44 = .ok (.iload_n 1, 1) := by decide +kernel
theorem dJ6_stringSize_0f7a4_45 : decode cJ6_stringSize_0f7a4 45 = .ok (.iadd, 1) := by decide +kernel
theorem dJ6_stringSize_0f7a4_46 : decode cJ6_stringSize_0f7a4 46 = .ok (.ireturn, 1) := by decide +kernel
theorem dJ6_bitCount_0f7a4_0 : decode cJ6_bitCount_0f7a4 0 = .ok (.iload_n 0, 1) := by decide +kernel
theorem dJ6_bitCount_0f7a4_1 : decode cJ6_bitCount_0f7a4 1 = .ok (.iload_n 0, 1) := by decide +kernel
theorem dJ6_bitCount_0f7a4_2 : decode cJ6_bitCount_0f7a4 2 = .ok (.iconst 1, 1) := by decide +kernel
theorem dJ6_bitCount_0f7a4_3 : decode cJ6_bitCount_0f7a4 3 = .ok (.iushr, 1) := by decide +kernel
theorem dJ6_bitCount_0f7a4_4 : decode cJ6_bitCount_0f7a4 4 = .ok (.ldc_w 265, 3) := by decide +kernel
theorem dJ6_bitCount_0f7a4_7 : decode cJ6_bitCount_0f7a4 7 = .ok (.iand, 1) := by decide +kernel
theorem dJ6_bitCount_0f7a4_8 : decode cJ6_bitCount_0f7a4 8 = .ok (.isub, 1) := by decide +kernel
theorem dJ6_bitCount_0f7a4_9 : decode cJ6_bitCount_0f7a4 9 = .ok (.istore_n 0, 1) := by decide +kernel
theorem dJ6_bitCount_0f7a4_10 : decode cJ6_bitCount_0f7a4 10 = .ok (.iload_n 0, 1) := by decide +kernel
theorem dJ6_bitCount_0f7a4_11 : decode cJ6_bitCount_0f7a4 11 = .ok (.ldc_w 266, 3) := by decide +kernel
theorem dJ6_bitCount_0f7a4_14 : decode cJ6_bitCount_0f7a4 14 = .ok (.iand, 1) := by decide +kernel
theorem dJ6_bitCount_0f7a4_15 : decode cJ6_bitCount_0f7a4 15 = .ok (.iload_n 0, 1) := by decide +kernel
theorem dJ6_bitCount_0f7a4_16 : decode cJ6_bitCount_0f7a4 16 = .ok (.iconst 2, 1) := by decide +kernel
theorem dJ6_bitCount_0f7a4_17 : decode cJ6_bitCount_0f7a4 17 = .ok (.iushr, 1) := by decide +kernel
theorem dJ6_bitCount_0f7a4_18 : decode cJ6_bitCount_0f7a4 18 = .ok (.ldc_w 266, 3) := by decide +kernel
theorem dJ6_bitCount_0f7a4_21 : decode cJ6_bitCount_0f7a4 21 = .ok (.iand, 1) := by decide +kernel
theorem dJ6_bitCount_0f7a4_22 : decode cJ6_bitCount_0f7a4 22 = .ok (.iadd, 1) := by decide +kernel
theorem dJ6_bitCount_0f7a4_23 : decode cJ6_bitCount_0f7a4 23 = .ok (.istore_n 0, 1) := by decide +kernel
theorem dJ6_bitCount_0f7a4_24 : decode cJ6_bitCount_0f7a4 24 = .ok (.iload_n 0, 1) := by decide +kernel
theorem dJ6_bitCount_0f7a4_25 : decode cJ6_bitCount_0f7a4 25 = .ok (.iload_n 0, 1) := by decide +kernel
theorem dJ6_bitCount_0f7a4_26 : decode cJ6_bitCount_0f7a4 26 = .ok (.iconst 4, 1) := by decide +kernel
theorem dJ6_bitCount_0f7a4_27 : decode cJ6_bitCount_0f7a4 27 = .ok (.iushr, 1) := by decide +kernel
theorem dJ6_bitCount_0f7a4_28 : decode cJ6_bitCount_0f7a4 28 = .ok (.iadd, 1) := by decide +kernel
theorem dJ6_bitCount_0f7a4_29 : decode cJ6_bitCount_0f7a4 29 = .ok (.ldc_w 267, 3) := by decide +kernel
theorem dJ6_bitCount_0f7a4_32 : decode cJ6_bitCount_0f7a4 32 = .ok (.iand, 1) := by decide +kernel
theorem dJ6_bitCount_0f7a4_33 : decode cJ6_bitCount_0f7a4 33 = .ok (.istore_n 0, 1) := by decide +kernel
theorem dJ6_bitCount_0f7a4_34 : decode cJ6_bitCount_0f7a4 34 = .ok (.iload_n 0, 1) := by decide +kernel
theorem dJ6_bitCount_0f7a4_35 : decode cJ6_bitCount_0f7a4 35 = .ok (.iload_n 0, 1) := by decide +kernel
theorem dJ6_bitCount_0f7a4_36 : decode cJ6_bitCount_0f7a4 36 = .ok (.bipush 8, 2) := by decide +kernel
theorem dJ6_bitCount_0f7a4_38 : decode cJ6_bitCount_0f7a4 38 = .ok (.iushr, 1) := by decide +kernel
theorem dJ6_bitCount_0f7a4_39 : decode cJ6_bitCount_0f7a4 39 = .ok (.iadd, 1) := by decide +kernel
theorem dJ6_bitCount_0f7a4_40 : decode cJ6_bitCount_0f7a4 40 = .ok (.istore_n 0, 1) := by decide +kernel
theorem dJ6_bitCount_0f7a4_41 : decode cJ6_bitCount_0f7a4 41 = .ok (.iload_n 0, 1) := by decide +kernel
theorem dJ6_bitCount_0f7a4_42 : decode cJ6_bitCount_0f7a4 42 = .ok (.iload_n 0, 1) := by decide +kernel
theorem dJ6_bitCount_0f7a4_43 : decode cJ6_bitCount_0f7a4 43 = .ok (.bipush 16, 2) := by decide +kernel
theorem dJ6_bitCount_0f7a4_45 : decode cJ6_bitCount_0f7a4 45 = .ok (.iushr, 1) := by decide +kernel
theorem dJ6_bitCount_0f7a4_46 : decode cJ6_bitCount_0f7a4 46 = .ok (.iadd, 1) := by decide +kernel
theorem dJ6_bitCount_0f7a4_47 : decode cJ6_bitCount_0f7a4 47 = .ok (.istore_n 0, 1) := by decide +kernel
theorem dJ6_bitCount_0f7a4_48 : decode cJ6_bitCount_0f7a4 48 = .ok (.iload_n 0, 1) := by decide +kernel
theorem dJ6_bitCount_0f7a4_49 : decode cJ6_bitCount_0f7a4 49 = .ok (.bipush 63, 2) := by decide +kernel
theorem dJ6_bitCount_0f7a4_51 : decode cJ6_bitCount_0f7a4 51 = .ok (.iand, 1) := by decide +kernel
theorem dJ6_bitCount_0f7a4_52 : decode cJ6_bitCount_0f7a4 52 = .ok (.ireturn, 1) := by decide +kernel
theorem dJ9_floorDiv_7cf53_0 : decode cJ9_floorDiv_7cf53 0 = .ok (.iload_n 0, 1) := by decide +kernel
theorem dJ9_floorDiv_7cf53_1 : decode cJ9_floorDiv_7cf53 1 = .ok (.iload_n 1, 1) := by decide +kernel
theorem dJ9_floorDiv_7cf53_2 : decode cJ9_floorDiv_7cf53 2 = .ok (.idiv, 1) := by decide +kernel
theorem dJ9_floorDiv_7cf53_3 : decode cJ9_floorDiv_7cf53 3 = .ok (.istore_n 2, 1) := by decide +kernel
theorem dJ9_floorDiv_7cf53_4 : decode cJ9_floorDiv_7cf53 4 = .ok (.iload_n 0, 1) := by decide +kernel
theorem dJ9_floorDiv_7cf53_5 : decode cJ9_floorDiv_7cf53 5 = .ok (.iload_n 1, 1) := by decide +kernel
theorem dJ9_floorDiv_7cf53_6 : decode cJ9_floorDiv_7cf53 6 = .ok (.ixor, 1) := by decide +kernel
theorem dJ9_floorDiv_7cf53_7 : decode cJ9_floorDiv_7cf53 7 = .ok (.ifCond .ge 14, 3) := by decide +kernel
theorem dJ9_floorDiv_7cf53_10 : decode cJ9_floorDiv_7cf53 10 = .ok (.iload_n 2, 1) := by decide +kernel
theorem dJ9_floorDiv_7cf53_11 : decode cJ9_floorDiv_7cf53 11 = .ok (.iload_n 1, 1) := by decide +kernel
theorem dJ9_floorDiv_7cf53_12 : decode cJ9_floorDiv_7cf53 12 = .ok (.imul, 1) := by decide +kernel
theorem dJ9_floorDiv_7cf53_13 : decode cJ9_floorDiv_7cf53 13 = .ok (.iload_n 0, 1) := by decide +kernel
theorem dJ9_floorDiv_7cf53_14 : decode cJ9_floorDiv_7cf53 14 = .ok (.if_icmp .eq 7, 3) := by decide +kernel
theorem dJ9_floorDiv_7cf53_17 : decode cJ9_floorDiv_7cf53 17 = .ok (.iload_n 2, 1) := by decide +kernel
theorem dJ9_floorDiv_7cf53_18 : decode cJ9_floorDiv_7cf53 18 = .ok (.iconst 1, 1) := by decide +kernel
theorem dJ9_floorDiv_7cf53_19 : decode cJ9_floorDiv_7cf53 19 = .ok (.isub, 1) := by decide +kernel
theorem dJ9_floorDiv_7cf53_20 : decode cJ9_floorDiv_7cf53 20 = .ok (.ireturn, 1) := by decide +kernel
theorem dJ9_floorDiv_7cf53_21 : decode cJ9_floorDiv_7cf53 21 = .ok (.iload_n 2, 1) := by decide +kernel
theorem dJ9_floorDiv_7cf53_22 : decode cJ9_floorDiv_7cf53 22 = .ok (.ireturn, 1) := by decide +kernel
theorem dJ9_floorMod_7cf53_0 : decode cJ9_floorMod_7cf53 0 = .ok (.iload_n 0, 1) := by decide +kernel
theorem dJ9_floorMod_7cf53_1 : decode cJ9_floorMod_7cf53 1 = .ok (.iload_n 1, 1) := by decide +kernel
theorem dJ9_floorMod_7cf53_2 : decode cJ9_floorMod_7cf53 2 = .ok (.irem, 1) := by decide +kernel
theorem dJ9_floorMod_7cf53_3 : decode cJ9_floorMod_7cf53 3 = .ok (.istore_n 2, 1) := by decide +kernel
theorem dJ9_floorMod_7cf53_4 : decode cJ9_floorMod_7cf53 4 = .ok (.iload_n 0, 1) := by decide +kernel
theorem dJ9_floorMod_7cf53_5 : decode cJ9_floorMod_7cf53 5 = .ok (.iload_n 1, 1) := by decide +kernel
theorem dJ9_floorMod_7cf53_6 : decode cJ9_floorMod_7cf53 6 = .ok (.ixor, 1) := by decide +kernel
theorem dJ9_floorMod_7cf53_7 : decode cJ9_floorMod_7cf53 7 = .ok (.ifCond .ge 11, 3) := by decide +kernel
theorem dJ9_floorMod_7cf53_10 : decode cJ9_floorMod_7cf53 10 = .ok (.iload_n 2, 1) := by decide +kernel
theorem dJ9_floorMod_7cf53_11 : decode cJ9_floorMod_7cf53 11 = .ok (.ifCond .eq 7, 3) := by decide +kernel
theorem dJ9_floorMod_7cf53_14 : decode cJ9_floorMod_7cf53 14 = .ok (.iload_n 2, 1) := by decide +kernel
theorem dJ9_floorMod_7cf53_15 : decode cJ9_floorMod_7cf53 15 = .ok (.iload_n 1, 1) := by decide +kernel
theorem dJ9_floorMod_7cf53_16 : decode cJ9_floorMod_7cf53 16 = .ok (.iadd, 1) := by decide +kernel
theorem dJ9_floorMod_7cf53_17 : decode cJ9_floorMod_7cf53 17 = .ok (.ireturn, 1) := by decide +kernel
theorem dJ9_floorMod_7cf53_18 : decode cJ9_floorMod_7cf53 18 = .ok (.iload_n 2, 1) := by decide +kernel
theorem dJ9_floorMod_7cf53_19 : decode cJ9_floorMod_7cf53 19 = .ok (.ireturn, 1) := by decide +kernel
theorem dJ9_max_7cf53_0 : decode cJ9_max_7cf53 0 = .ok (.iload_n 0, 1) := by decide +kernel
theorem dJ9_max_7cf53_1 : decode cJ9_max_7cf53 1 = .ok (.iload_n 1, 1) := by decide +kernel
theorem dJ9_max_7cf53_2 : decode cJ9_max_7cf53 2 = .ok (.if_icmp .lt 7, 3) := by decide +kernel
theorem dJ9_max_7cf53_5 : decode cJ9_max_7cf53 5 = .ok (.iload_n 0, 1) := by decide +kernel
theorem dJ9_max_7cf53_6 : decode cJ9_max_7cf53 6 = .ok (.goto 4, 3) := by decide +kernel
theorem dJ9_max_7cf53_9 : decode cJ9_max_7cf53 9 = .ok (.iload_n 1, 1) := by decide +kernel
theorem dJ9_max_7cf53_10 : decode cJ9_max_7cf53 10 = .ok (.ireturn, 1) := by decide +kernel
theorem dJ9_min_7cf53_0 : decode cJ9_min_7cf53 0 = .ok (.iload_n 0, 1) := by decide +kernel
theorem dJ9_min_7cf53_1 : decode cJ9_min_7cf53 1 = .ok (.iload_n 1, 1) := by decide +kernel
theorem dJ9_min_7cf53_2 : decode cJ9_min_7cf53 2 = .ok (.if_icmp .gt 7, 3) := by decide +kernel
theorem dJ9_min_7cf53_5 : decode cJ9_min_7cf53 5 = .ok (.iload_n 0, 1) := by decide +kernel
theorem dJ9_min_7cf53_6 : decode cJ9_min_7cf53 6 = .ok (.goto 4, 3) := by decide +kernel
theorem dJ9_min_7cf53_9 : decode cJ9_min_7cf53 9 = .ok (.iload_n 1, 1) := by decide +kernel
theorem dJ9_min_7cf53_10 : decode cJ9_min_7cf53 10 = .ok (.ireturn, 1) := by decide +kernel
theorem dJ0_init_81219_0 : decode cJ0_init_81219 0 = .ok (.aload_n 0, 1) := by decide +kernel
theorem dJ0_init_81219_1 : decode cJ0_init_81219 1 = .ok (.aload_n 1, 1) := by decide +kernel
theorem dJ0_init_81219_2 : decode cJ0_init_81219 2 = .ok (.aconst_null, 1) := by decide +kernel
theorem dJ0_init_81219_3 : decode cJ0_init_81219 3 = .ok (.invokespecial 489, 3) := by decide +kernel
theorem dJ0_init_81219_6 : decode cJ0_init_81219 6 = .ok (.return_, 1) := by decide +kernel
theorem dJ0_length_8abf5_0 : decode cJ0_length_8abf5 0 = .ok (.aload_n 0, 1) := by decide +kernel
theorem dJ0_length_8abf5_1 : decode cJ0_length_8abf5 1 = .ok (.getfield 9, 3) := by decide +kernel
theorem dJ0_length_8abf5_4 : decode cJ0_length_8abf5 4 = .ok (.arraylength, 1) := by decide +kernel
theorem dJ0_length_8abf5_5 : decode cJ0_length_8abf5 5 = .ok (.aload_n 0, 1) := by decide +kernel
theorem dJ0_length_8abf5_6 : decode cJ0_length_8abf5 6 = .ok (.invokevirtual 335, 3) := by decide +kernel
theorem dJ0_length_8abf5_9 : decode cJ0_length_8abf5 9 = .ok (.ishr, 1) := by decide +kernel
theorem dJ0_length_8abf5_10 : decode cJ0_length_8abf5 10 = .ok (.ireturn, 1) := by decide +kernel
theorem dJ0_charAt_5068e_0 : decode cJ0_charAt_5068e 0 = .ok (.aload_n 0, 1) := by decide +kernel
theorem dJ0_charAt_5068e_1 : decode cJ0_charAt_5068e 1 = .ok (.invokevirtual 492, 3) := by decide +kernel
theorem dJ0_charAt_5068e_4 : decode cJ0_charAt_5068e 4 = .ok (.ifCond .eq 12, 3) := by decide +kernel
theorem dJ0_charAt_5068e_7 : decode cJ0_charAt_5068e 7 = .ok (.aload_n 0, 1) := by decide +kernel
theorem dJ0_charAt_5068e_8 : decode cJ0_charAt_5068e 8 = .ok (.getfield 9, 3) := by decide +kernel
theorem dJ0_charAt_5068e_11 : decode cJ0_charAt_5068e 11 = .ok (.iload_n 1, 1) := by decide +kernel
theorem dJ0_charAt_5068e_12 : decode cJ0_charAt_5068e 12 = .ok (.invokestatic 495, 3) := by decide +kernel
theorem dJ0_charAt_5068e_15 : decode cJ0_charAt_5068e 15 = .ok (.ireturn, 1) := by decide +kernel
theorem dJ0_charAt_5068e_16 : decode cJ0_charAt_5068e 16 = .ok (.aload_n 0, 1) := by decide +kernel
theorem dJ0_charAt_5068e_17 : decode cJ0_charAt_5068e 17 = .ok (.getfield 9, 3) := by decide +kernel
theorem dJ0_charAt_5068e_20 : decode cJ0_charAt_5068e 20 = .ok (.iload_n 1, 1) := by decide +kernel
theorem dJ0_charAt_5068e_21 : decode cJ0_charAt_5068e 21 = .ok (.invokestatic 498, 3) := by decide +kernel
theorem dJ0_charAt_5068e_24 : decode cJ0_charAt_5068e 24 = .ok (.ireturn, 1) := by decide +kernel
theorem dJ0_getBytes_840e7_0 : decode cJ0_getBytes_840e7 0 = .ok (.aload_n 0, 1) := by decide +kernel
theorem dJ0_getBytes_840e7_1 : decode cJ0_getBytes_840e7 1 = .ok (.invokevirtual 335, 3) := by decide +kernel
theorem dJ0_getBytes_840e7_4 : decode cJ0_getBytes_840e7 4 = .ok (.iload_n 3, 1) := by decide +kernel
theorem dJ0_getBytes_840e7_5 : decode cJ0_getBytes_840e7 5 = .ok (.if_icmp .ne 23, 3) := by decide +kernel
theorem dJ0_getBytes_840e7_8 : decode cJ0_getBytes_840e7 8 = .ok (.aload_n 0, 1) := by decide +kernel
theorem dJ0_getBytes_840e7_9 : decode cJ0_getBytes_840e7 9 = .ok (.getfield 9, 3) := by decide +kernel
theorem dJ0_getBytes_840e7_12 : decode cJ0_getBytes_840e7 12 = .ok (.iconst 0, 1) := by decide +kernel
theorem dJ0_getBytes_840e7_13 : decode cJ0_getBytes_840e7 13 = .ok (.aload_n 1, 1) := by decide +kernel
theorem dJ0_getBytes_840e7_14 : decode cJ0_getBytes_840e7 14 = .ok (.iload_n 2, 1) := by decide +kernel
theorem dJ0_getBytes_840e7_15 : decode cJ0_getBytes_840e7 15 = .ok (.iload_n 3, 1) := by decide +kernel
theorem dJ0_getBytes_840e7_16 : decode cJ0_getBytes_840e7 16 = .ok (.ishl, 1) := by decide +kernel
theorem dJ0_getBytes_840e7_17 : decode cJ0_getBytes_840e7 17 = .ok (.aload_n 0, 1) := by decide +kernel
theorem dJ0_getBytes_840e7_18 : decode cJ0_getBytes_840e7 18 = .ok (.getfield 9, 3) := by decide +kernel
theorem dJ0_getBytes_840e7_21 : decode cJ0_getBytes_840e7 21 = .ok (.arraylength, 1) := by decide +kernel
theorem dJ0_getBytes_840e7_22 : decode cJ0_getBytes_840e7 22 = .ok (.invokestatic 212, 3) := by decide +kernel
theorem dJ0_getBytes_840e7_25 : decode cJ0_getBytes_840e7 25 = .ok (.goto 18, 3) := by decide +kernel
theorem dJ0_getBytes_840e7_28 : decode cJ0_getBytes_840e7 28 = .ok (.aload_n 0, 1) := by decide +kernel
theorem dJ0_getBytes_840e7_29 : decode cJ0_getBytes_840e7 29 = .ok (.getfield 9, 3) := by decide +kernel
theorem dJ0_getBytes_840e7_32 : decode cJ0_getBytes_840e7 32 = .ok (.iconst 0, 1) := by decide +kernel
theorem dJ0_getBytes_840e7_33 : decode cJ0_getBytes_840e7 33 = .ok (.aload_n 1, 1) := by decide +kernel
theorem dJ0_getBytes_840e7_34 : decode cJ0_getBytes_840e7 34 = .ok (.iload_n 2, 1) := by decide +kernel
theorem dJ0_getBytes_840e7_35 : decode cJ0_getBytes_840e7 35 = .ok (.aload_n 0, 1) := by decide +kernel
theorem dJ0_getBytes_840e7_36 : decode cJ0_getBytes_840e7 36 = .ok (.getfield 9, 3) := by decide +kernel
theorem dJ0_getBytes_840e7_39 : decode cJ0_getBytes_840e7 39 = .ok (.arraylength, 1) := by decide +kernel
theorem dJ0_getBytes_840e7_40 : decode cJ0_getBytes_840e7 40 = .ok (.invokestatic 106, 3) := by decide +kernel
theorem dJ0_getBytes_840e7_43 : decode cJ0_getBytes_840e7 43 = .ok (.return_, 1) := by decide +kernel
theorem dJ0_init_db425_0 : decode cJ0_init_db425 0 = .ok (.aload_n 0, 1) := by decide +kernel
theorem dJ0_init_db425_1 : decode cJ0_init_db425 1 = .ok (.invokespecial 1, 3) := by decide +kernel
theorem dJ0_init_db425_4 : decode cJ0_init_db425 4 = .ok (.aload_n 1, 1) := by decide +kernel
theorem dJ0_init_db425_5 : decode cJ0_init_db425 5 = .ok (.invokevirtual 552, 3) := by decide +kernel
theorem dJ0_init_db425_8 : decode cJ0_init_db425 8 = .ok (.astore_n 3, 1) := by decide +kernel
theorem dJ0_init_db425_9 : decode cJ0_init_db425 9 = .ok (.aload_n 1, 1) := by decide +kernel
theorem dJ0_init_db425_10 : decode cJ0_init_db425 10 = .ok (.invokevirtual 549, 3) := by decide +kernel
theorem dJ0_init_db425_13 : decode cJ0_init_db425 13 = .ok (.istore 4, 2) := by decide +kernel
theorem dJ0_init_db425_15 : decode cJ0_init_db425 15 = .ok (.aload_n 1, 1) := by decide +kernel
theorem dJ0_init_db425_16 : decode cJ0_init_db425 16 = .ok (.invokevirtual 1047, 3) := by decide +kernel
theorem dJ0_init_db425_19 : decode cJ0_init_db425 19 = .ok (.ifCond .eq 22, 3) := by decide +kernel
theorem dJ0_init_db425_22 : decode cJ0_init_db425 22 = .ok (.aload_n 0, 1) := by decide +kernel
theorem dJ0_init_db425_23 : decode cJ0_init_db425 23 = .ok (.iconst 0, 1) := by decide +kernel
theorem dJ0_init_db425_24 : decode cJ0_init_db425 24 = .ok (.putfield 15, 3) := by decide +kernel
theorem dJ0_init_db425_27 : decode cJ0_init_db425 27 = .ok (.aload_n 0, 1) := by decide +kernel
theorem dJ0_init_db425_28 : decode cJ0_init_db425 28 = .ok (.aload_n 3, 1) := by decide +kernel
theorem dJ0_init_db425_29 : decode cJ0_init_db425 29 = .ok (.iconst 0, 1) := by decide +kernel
theorem dJ0_init_db425_30 : decode cJ0_init_db425 30 = .ok (.iload 4, 2) := by decide +kernel
theorem dJ0_init_db425_32 : decode cJ0_init_db425 32 = .ok (.invokestatic 54, 3) := by decide +kernel
theorem dJ0_init_db425_35 : decode cJ0_init_db425 35 = .ok (.putfield 9, 3) := by decide +kernel
theorem dJ0_init_db425_38 : decode cJ0_init_db425 38 = .ok (.goto 59, 3) := by decide +kernel
theorem dJ0_init_db425_41 : decode cJ0_init_db425 41 = .ok (.getstatic 38, 3) := by decide +kernel
theorem dJ0_init_db425_44 : decode cJ0_init_db425 44 = .ok (.ifCond .eq 35, 3) := by decide +kernel
theorem dJ0_init_db425_47 : decode cJ0_init_db425 47 = .ok (.aload_n 1, 1) := by decide +kernel
theorem dJ0_init_db425_48 : decode cJ0_init_db425 48 = .ok (.getfield 1048, 3) := by decide +kernel
theorem dJ0_init_db425_51 : decode cJ0_init_db425 51 = .ok (.ifCond .eq 28, 3) := by decide +kernel
theorem dJ0_init_db425_54 : decode cJ0_init_db425 54 = .ok (.aload_n 0, 1) := by decide +kernel
theorem dJ0_init_db425_55 : decode cJ0_init_db425 55 = .ok (.aload_n 3, 1) := by decide +kernel
theorem dJ0_init_db425_56 : decode cJ0_init_db425 56 = .ok (.iconst 0, 1) := by decide +kernel
theorem dJ0_init_db425_57 : decode cJ0_init_db425 57 = .ok (.iload 4, 2) := by decide +kernel
theorem dJ0_init_db425_59 : decode cJ0_init_db425 59 = .ok (.invokestatic 1051, 3) := by decide +kernel
theorem dJ0_init_db425_62 : decode cJ0_init_db425 62 = .ok (.putfield 9, 3) := by decide +kernel
theorem dJ0_init_db425_65 : decode cJ0_init_db425 65 = .ok (.aload_n 0, 1) := by decide +kernel
theorem dJ0_init_db425_66 : decode cJ0_init_db425 66 = .ok (.aload_n 0, 1) := by decide +kernel
theorem dJ0_init_db425_67 : decode cJ0_init_db425 67 = .ok (.getfield 9, 3) := by decide +kernel
theorem dJ0_init_db425_70 : decode cJ0_init_db425 70 = .ok (.iload 4, 2) := by decide +kernel
theorem dJ0_init_db425_72 : decode cJ0_init_db425 72 = .ok (.invokestatic 47, 3) := by decide +kernel
theorem dJ0_init_db425_75 : decode cJ0_init_db425 75 = .ok (.putfield 15, 3) := by decide +kernel
theorem dJ0_init_db425_78 : decode cJ0_init_db425 78 = .ok (.return_, 1) := by decide +kernel
theorem dJ0_init_db425_79 : decode cJ0_init_db425 79 = .ok (.aload_n 0, 1) := by decide +kernel
theorem dJ0_init_db425_80 : decode cJ0_init_db425 80 = .ok (.iconst 1, 1) := by decide +kernel
theorem dJ0_init_db425_81 : decode cJ0_init_db425 81 = .ok (.putfield 15, 3) := by decide +kernel
theorem dJ0_init_db425_84 : decode cJ0_init_db425 84 = .ok (.aload_n 0, 1) := by decide +kernel
theorem dJ0_init_db425_85 : decode cJ0_init_db425 85 = .ok (.aload_n 3, 1) := by decide +kernel
theorem dJ0_init_db425_86 : decode cJ0_init_db425 86 = .ok (.iconst 0, 1) := by decide +kernel
theorem dJ0_init_db425_87 : decode cJ0_init_db425 87 = .ok (.iload 4, 2) := by decide +kernel
theorem dJ0_init_db425_89 : decode cJ0_init_db425 89 = .ok (.iconst 1, 1) := by decide +kernel
theorem dJ0_init_db425_90 : decode cJ0_init_db425 90 = .ok (.ishl, 1) := by decide +kernel
theorem dJ0_init_db425_91 : decode cJ0_init_db425 91 = .ok (.invokestatic 54, 3) := by decide +kernel
theorem dJ0_init_db425_94 : decode cJ0_init_db425 94 = .ok (.putfield 9, 3) := by decide +kernel
theorem dJ0_init_db425_97 : decode cJ0_init_db425 97 = .ok (.return_, 1) := by decide +kernel
theorem dJ0_coder_7d493_0 : decode cJ0_coder_7d493 0 = .ok (.getstatic 38, 3) := by decide +kernel
theorem dJ0_coder_7d493_3 : decode cJ0_coder_7d493 3 = .ok (.ifCond .eq 10, 3) := by decide +kernel
theorem dJ0_coder_7d493_6 : decode cJ0_coder_7d493 6 = .ok (.aload_n 0, 1) := by decide +kernel
theorem dJ0_coder_7d493_7 : decode cJ0_coder_7d493 7 = .ok (.getfield 15, 3) := by decide +kernel
theorem dJ0_coder_7d493_10 : decode cJ0_coder_7d493 10 = .ok (.goto 4, 3) := by decide +kernel
theorem dJ0_coder_7d493_13 : decode cJ0_coder_7d493 13 = .ok (.iconst 1, 1) := by decide +kernel
theorem dJ0_coder_7d493_14 : decode cJ0_coder_7d493 14 = .ok (.ireturn, 1) := by decide +kernel
theorem dJ0_isLatin1_aae02_0 : decode cJ0_isLatin1_aae02 0 = .ok (.getstatic 38, 3) := by decide +kernel
theorem dJ0_isLatin1_aae02_3 : decode cJ0_isLatin1_aae02 3 = .ok (.ifCond .eq 14, 3) := by decide +kernel
theorem dJ0_isLatin1_aae02_6 : decode cJ0_isLatin1_aae02 6 = .ok (.aload_n 0, 1) := by decide +kernel
theorem dJ0_isLatin1_aae02_7 : decode cJ0_isLatin1_aae02 7 = .ok (.getfield 15, 3) := by decide +kernel
theorem dJ0_isLatin1_aae02_10 : decode cJ0_isLatin1_aae02 10 = .ok (.ifCond .ne 7, 3) := by decide +kernel
theorem dJ0_isLatin1_aae02_13 : decode cJ0_isLatin1_aae02 13 = .ok (.iconst 1, 1) := by decide +kernel
theorem dJ0_isLatin1_aae02_14 : decode cJ0_isLatin1_aae02 14 = .ok (.goto 4, 3) := by decide +kernel
theorem dJ0_isLatin1_aae02_17 : decode cJ0_isLatin1_aae02 17 = .ok (.iconst 0, 1) := by decide +kernel
theorem dJ0_isLatin1_aae02_18 : decode cJ0_isLatin1_aae02 18 = .ok (.ireturn, 1) := by decide +kernel
theorem dJ0_checkIndex_df160_0 : decode cJ0_checkIndex_df160 0 = .ok (.iload_n 0, 1) := by decide +kernel
theorem dJ0_checkIndex_df160_1 : decode cJ0_checkIndex_df160 1 = .ok (.iload_n 1, 1) := by decide +kernel
theorem dJ0_checkIndex_df160_2 : decode cJ0_checkIndex_df160 2 = .ok (.getstatic 1053, 3) := by decide +kernel
theorem dJ0_checkIndex_df160_5 : decode cJ0_checkIndex_df160 5 = .ok (.invokestatic 1059, 3) := by decide +kernel
theorem dJ0_checkIndex_df160_8 : decode cJ0_checkIndex_df160 8 = .ok (.pop, 1) := by decide +kernel
theorem dJ0_checkIndex_df160_9 : decode cJ0_checkIndex_df160 9 = .ok (.return_, 1) := by decide +kernel
theorem dJ0_checkBoundsOffCount_cabcc_0 : decode cJ0_checkBoundsOffCount_cabcc 0 = .ok (.iload_n 0, 1) := by decide +kernel
theorem dJ0_checkBoundsOffCount_cabcc_1 : decode cJ0_checkBoundsOffCount_cabcc 1 = .ok (.iload_n 1, 1) := by decide +kernel
theorem dJ0_checkBoundsOffCount_cabcc_2 : decode cJ0_checkBoundsOffCount_cabcc 2 = .ok (.iload_n 2, 1) := by decide +kernel
theorem dJ0_checkBoundsOffCount_cabcc_3 : decode cJ0_checkBoundsOffCount_cabcc 3 = .ok (.getstatic 1053, 3) := by decide +kernel
theorem dJ0_checkBoundsOffCount_cabcc_6 : decode cJ0_checkBoundsOffCount_cabcc 6 = .ok (.invokestatic 1065, 3) := by decide +kernel
theorem dJ0_checkBoundsOffCount_cabcc_9 : decode cJ0_checkBoundsOffCount_cabcc 9 = .ok (.ireturn, 1) := by decide +kernel
theorem dJ0_checkBoundsBeginEnd_23922_0 : decode cJ0_checkBoundsBeginEnd_23922 0 = .ok (.iload_n 0, 1) := by decide +kernel
theorem dJ0_checkBoundsBeginEnd_23922_1 : decode cJ0_checkBoundsBeginEnd_23922 1 = .ok (.iload_n 1, 1) := by decide +kernel
theorem dJ0_checkBoundsBeginEnd_23922_2 : decode cJ0_checkBoundsBeginEnd_23922 2 = .ok (.iload_n 2, 1) := by decide +kernel
theorem dJ0_checkBoundsBeginEnd_23922_3 : decode cJ0_checkBoundsBeginEnd_23922 3 = .ok (.getstatic 1053, 3) := by decide +kernel
theorem dJ0_checkBoundsBeginEnd_23922_6 : decode cJ0_checkBoundsBeginEnd_23922 6 = .ok (.invokestatic 1062, 3) := by decide +kernel
theorem dJ0_checkBoundsBeginEnd_23922_9 : decode cJ0_checkBoundsBeginEnd_23922 9 = .ok (.pop, 1) := by decide +kernel
theorem dJ0_checkBoundsBeginEnd_23922_10 : decode cJ0_checkBoundsBeginEnd_23922 10 = .ok (.return_, 1) := by decide +kernel
theorem dJ4_init_da8c8_0 : decode cJ4_init_da8c8 0 = .ok (.aload_n 0, 1) := by decide +kernel
theorem dJ4_init_da8c8_1 : decode cJ4_init_da8c8 1 = .ok (.bipush 16, 2) := by decide +kernel
theorem dJ4_init_da8c8_3 : decode cJ4_init_da8c8 3 = .ok (.invokespecial 1, 3) := by decide +kernel
theorem dJ4_init_da8c8_6 : decode cJ4_init_da8c8 6 = .ok (.return_, 1) := by decide +kernel
theorem dJ4_init_a7421_0 : decode cJ4_init_a7421 0 = .ok (.aload_n 0, 1) := by decide +kernel
theorem dJ4_init_a7421_1 : decode cJ4_init_a7421 1 = .ok (.aload_n 1, 1) := by decide +kernel
theorem dJ4_init_a7421_2 : decode cJ4_init_a7421 2 = .ok (.invokespecial 7, 3) := by decide +kernel
theorem dJ4_init_a7421_5 : decode cJ4_init_a7421 5 = .ok (.return_, 1) := by decide +kernel
theorem dJ4_append_15ec4_0 : decode cJ4_append_15ec4 0 = .ok (.aload_n 0, 1) := by decide +kernel
theorem dJ4_append_15ec4_1 : decode cJ4_append_15ec4 1 = .ok (.aload_n 1, 1) := by decide +kernel
theorem dJ4_append_15ec4_2 : decode cJ4_append_15ec4 2 = .ok (.invokespecial 29, 3) := by decide +kernel
theorem dJ4_append_15ec4_5 : decode cJ4_append_15ec4 5 = .ok (.pop, 1) := by decide +kernel
theorem dJ4_append_15ec4_6 : decode cJ4_append_15ec4 6 = .ok (.aload_n 0, 1) := by decide +kernel
theorem dJ4_append_15ec4_7 : decode cJ4_append_15ec4 7 = .ok (.areturn, 1) := by decide +kernel
theorem dJ4_append_cf468_0 : decode cJ4_append_cf468 0 = .ok (.aload_n 0, 1) := by decide +kernel
theorem dJ4_append_cf468_1 : decode cJ4_append_cf468 1 = .ok (.iload_n 1, 1) := by decide +kernel
theorem dJ4_append_cf468_2 : decode cJ4_append_cf468 2 = .ok (.invokespecial 50, 3) := by decide +kernel
theorem dJ4_append_cf468_5 : decode cJ4_append_cf468 5 = .ok (.pop, 1) := by decide +kernel
theorem dJ4_append_cf468_6 : decode cJ4_append_cf468 6 = .ok (.aload_n 0, 1) := by decide +kernel
theorem dJ4_append_cf468_7 : decode cJ4_append_cf468 7 = .ok (.areturn, 1) := by decide +kernel
theorem dJ4_append_bf812_0 : decode cJ4_append_bf812 0 = .ok (.aload_n 0, 1) := by decide +kernel
theorem dJ4_append_bf812_1 : decode cJ4_append_bf812 1 = .ok (.iload_n 1, 1) := by decide +kernel
theorem dJ4_append_bf812_2 : decode cJ4_append_bf812 2 = .ok (.invokespecial 53, 3) := by decide +kernel
theorem dJ4_append_bf812_5 : decode cJ4_append_bf812 5 = .ok (.pop, 1) := by decide +kernel
theorem dJ4_append_bf812_6 : decode cJ4_append_bf812 6 = .ok (.aload_n 0, 1) := by decide +kernel
theorem dJ4_append_bf812_7 : decode cJ4_append_bf812 7 = .ok (.areturn, 1) := by decide +kernel
theorem dJ4_toString_0e30d_0 : decode cJ4_toString_0e30d 0 = .ok (.new 18, 3) := by decide +kernel
theorem dJ4_toString_0e30d_3 : decode cJ4_toString_0e30d 3 = .ok (.dup, 1) := by decide +kernel
theorem dJ4_toString_0e30d_4 : decode cJ4_toString_0e30d 4 = .ok (.aload_n 0, 1) := by decide +kernel
theorem dJ4_toString_0e30d_5 : decode cJ4_toString_0e30d 5 = .ok (.invokespecial 137, 3) := by decide +kernel
theorem dJ4_toString_0e30d_8 : decode cJ4_toString_0e30d 8 = .ok (.areturn, 1) := by decide +kernel
theorem dJ4_append_cf1ce_0 : decode cJ4_append_cf1ce 0 = .ok (.aload_n 0, 1) := by decide +kernel
theorem dJ4_append_cf1ce_1 : decode cJ4_append_cf1ce 1 = .ok (.aload_n 1, 1) := by decide +kernel
theorem dJ4_append_cf1ce_2 : decode cJ4_append_cf1ce 2 = .ok (.invokevirtual 23, 3) := by decide +kernel
theorem dJ4_append_cf1ce_5 : decode cJ4_append_cf1ce 5 = .ok (.areturn, 1) := by decide +kernel
theorem dJ4_charAt_5068e_0 : decode cJ4_charAt_5068e 0 = .ok (.aload_n 0, 1) := by decide +kernel
theorem dJ4_charAt_5068e_1 : decode cJ4_charAt_5068e 1 = .ok (.iload_n 1, 1) := by decide +kernel
theorem dJ4_charAt_5068e_2 : decode cJ4_charAt_5068e 2 = .ok (.invokespecial 329, 3) := by decide +kernel
theorem dJ4_charAt_5068e_5 : decode cJ4_charAt_5068e 5 = .ok (.ireturn, 1) := by decide +kernel
theorem dJ4_length_8abf5_0 : decode cJ4_length_8abf5 0 = .ok (.aload_n 0, 1) := by decide +kernel
theorem dJ4_length_8abf5_1 : decode cJ4_length_8abf5 1 = .ok (.invokespecial 343, 3) := by decide +kernel
theorem dJ4_length_8abf5_4 : decode cJ4_length_8abf5 4 = .ok (.ireturn, 1) := by decide +kernel
theorem dJ1_charAt_3b067_0 : decode cJ1_charAt_3b067 0 = .ok (.iload_n 1, 1) := by decide +kernel
theorem dJ1_charAt_3b067_1 : decode cJ1_charAt_3b067 1 = .ok (.aload_n 0, 1) := by decide +kernel
theorem dJ1_charAt_3b067_2 : decode cJ1_charAt_3b067 2 = .ok (.arraylength, 1) := by decide +kernel
theorem dJ1_charAt_3b067_3 : decode cJ1_charAt_3b067 3 = .ok (.invokestatic 9, 3) := by decide +kernel
theorem dJ1_charAt_3b067_6 : decode cJ1_charAt_3b067 6 = .ok (.aload_n 0, 1) := by decide +kernel
theorem dJ1_charAt_3b067_7 : decode cJ1_charAt_3b067 7 = .ok (.iload_n 1, 1) := by decide +kernel
theorem dJ1_charAt_3b067_8 : decode cJ1_charAt_3b067 8 = .ok (.baload, 1) := by decide +kernel
theorem dJ1_charAt_3b067_9 : decode cJ1_charAt_3b067 9 = .ok (.sipush 255, 3) := by decide +kernel
theorem dJ1_charAt_3b067_12 : decode cJ1_charAt_3b067 12 = .ok (.iand, 1) := by decide +kernel
theorem dJ1_charAt_3b067_13 : decode cJ1_charAt_3b067 13 = .ok (.i2c, 1) := by decide +kernel
theorem dJ1_charAt_3b067_14 : decode cJ1_charAt_3b067 14 = .ok (.ireturn, 1) := by decide +kernel
theorem dJ1_canEncode_fc78d_0 : decode cJ1_canEncode_fc78d 0 = .ok (.iload_n 0, 1) := by decide +kernel
theorem dJ1_canEncode_fc78d_1 : decode cJ1_canEncode_fc78d 1 = .ok (.sipush 255, 3) := by decide +kernel
theorem dJ1_canEncode_fc78d_4 : decode cJ1_canEncode_fc78d 4 = .ok (.if_icmp .gt 7, 3) := by decide +kernel
theorem dJ1_canEncode_fc78d_7 : decode cJ1_canEncode_fc78d 7 = .ok (.iconst 1, 1) := by decide +kernel
theorem dJ1_canEncode_fc78d_8 : decode cJ1_canEncode_fc78d 8 = .ok (.goto 4, 3) := by decide +kernel
theorem dJ1_canEncode_fc78d_11 : decode cJ1_canEncode_fc78d 11 = .ok (.iconst 0, 1) := by decide +kernel
theorem dJ1_canEncode_fc78d_12 : decode cJ1_canEncode_fc78d 12 = .ok (.ireturn, 1) := by decide +kernel
theorem dJ1_inflate_0e8fd_0 : decode cJ1_inflate_0e8fd 0 = .ok (.aload_n 0, 1) := by decide +kernel
theorem dJ1_inflate_0e8fd_1 : decode cJ1_inflate_0e8fd 1 = .ok (.iload_n 1, 1) := by decide +kernel
theorem dJ1_inflate_0e8fd_2 : decode cJ1_inflate_0e8fd 2 = .ok (.aload_n 2, 1) := by decide +kernel
theorem dJ1_inflate_0e8fd_3 : decode cJ1_inflate_0e8fd 3 = .ok (.iload_n 3, 1) := by decide +kernel
theorem dJ1_inflate_0e8fd_4 : decode cJ1_inflate_0e8fd 4 = .ok (.iload 4, 2) := by decide +kernel
theorem dJ1_inflate_0e8fd_6 : decode cJ1_inflate_0e8fd 6 = .ok (.invokestatic 240, 3) := by decide +kernel
theorem dJ1_inflate_0e8fd_9 : decode cJ1_inflate_0e8fd 9 = .ok (.return_, 1) := by decide +kernel
theorem dJ2_newBytesFor_77867_0 : decode cJ2_newBytesFor_77867 0 = .ok (.iload_n 0, 1) := by decide +kernel
theorem dJ2_newBytesFor_77867_1 : decode cJ2_newBytesFor_77867 1 = .ok (.invokestatic 11, 3) := by decide +kernel
theorem dJ2_newBytesFor_77867_4 : decode cJ2_newBytesFor_77867 4 = .ok (.newarray .byte, 2) := by decide +kernel
theorem dJ2_newBytesFor_77867_6 : decode cJ2_newBytesFor_77867 6 = .ok (.areturn, 1) := by decide +kernel
theorem dJ2_newBytesLength_0f7a4_0 : decode cJ2_newBytesLength_0f7a4 0 = .ok (.iload_n 0, 1) := by decide +kernel
theorem dJ2_newBytesLength_0f7a4_1 : decode cJ2_newBytesLength_0f7a4 1 = .ok (.ifCond .ge 11, 3) := by decide +kernel
theorem dJ2_newBytesLength_0f7a4_4 : decode cJ2_newBytesLength_0f7a4 4 = .ok (.new 17, 3) := by decide +kernel
theorem dJ2_newBytesLength_0f7a4_7 : decode cJ2_newBytesLength_0f7a4 7 = .ok (.dup, 1) := by decide +kernel
theorem dJ2_newBytesLength_0f7a4_8 : decode cJ2_newBytesLength_0f7a4 8 = .ok (.invokespecial 19, 3) := by decide +kernel
theorem dJ2_newBytesLength_0f7a4_11 : decode cJ2_newBytesLength_0f7a4 11 = .ok (.athrow, 1) := by decide +kernel
theorem dJ2_newBytesLength_0f7a4_12 : decode cJ2_newBytesLength_0f7a4 12 = .ok (.iload_n 0, 1) := by decide +kernel
theorem dJ2_newBytesLength_0f7a4_13 : decode cJ2_newBytesLength_0f7a4 13 = .ok (.ldc 20, 2) := by decide +kernel
theorem dJ2_newBytesLength_0f7a4_15 : decode cJ2_newBytesLength_0f7a4 15 = .ok (.if_icmp .lt 40, 3) := by decide +kernel
theorem dJ2_newBytesLength_0f7a4_18 : decode cJ2_newBytesLength_0f7a4 18 = .ok (.new 21, 3) := by decide +kernel
theorem dJ2_newBytesLength_0f7a4_21 : decode cJ2_newBytesLength_0f7a4 21 = .ok (.dup, 1) := by decide +kernel
theorem dJ2_newBytesLength_0f7a4_22 : decode cJ2_newBytesLength_0f7a4 22 = .ok (.new 23, 3) := by decide +kernel
theorem dJ2_newBytesLength_0f7a4_25 : decode cJ2_newBytesLength_0f7a4 25 = .ok (.dup, 1) := by decide +kernel
theorem dJ2_newBytesLength_0f7a4_26 : decode cJ2_newBytesLength_0f7a4 26 = .ok (.invokespecial 25, 3) := by decide +kernel
theorem dJ2_newBytesLength_0f7a4_29 : decode cJ2_newBytesLength_0f7a4 29 = .ok (.ldc 26, 2) := by decide +kernel
theorem dJ2_newBytesLength_0f7a4_31 : decode cJ2_newBytesLength_0f7a4 31 = .ok (.invokevirtual 28, 3) := by decide +kernel
theorem dJ2_newBytesLength_0f7a4_34 : decode cJ2_newBytesLength_0f7a4 34 = .ok (.iload_n 0, 1) := by decide +kernel
theorem dJ2_newBytesLength_0f7a4_35 : decode cJ2_newBytesLength_0f7a4 35 = .ok (.invokevirtual 32, 3) := by decide +kernel
theorem dJ2_newBytesLength_0f7a4_38 : decode cJ2_newBytesLength_0f7a4 38 = .ok (.ldc 35, 2) := by decide +kernel
theorem dJ2_newBytesLength_0f7a4_40 : decode cJ2_newBytesLength_0f7a4 40 = .ok (.invokevirtual 28, 3) := by decide +kernel
theorem dJ2_newBytesLength_0f7a4_43 : decode cJ2_newBytesLength_0f7a4 43 = .ok (.ldc 20, 2) := by decide +kernel
theorem dJ2_newBytesLength_0f7a4_45 : decode cJ2_newBytesLength_0f7a4 45 = .ok (.invokevirtual 32, 3) := by decide +kernel
theorem dJ2_newBytesLength_0f7a4_48 : decode cJ2_newBytesLength_0f7a4 48 = .ok (.invokevirtual 37, 3) := by decide +kernel
theorem dJ2_newBytesLength_0f7a4_51 : decode cJ2_newBytesLength_0f7a4 51 = .ok (.invokespecial 41, 3) := by decide +kernel
theorem dJ2_newBytesLength_0f7a4_54 : decode cJ2_newBytesLength_0f7a4 54 = .ok (.athrow, 1) := by decide +kernel
theorem dJ2_newBytesLength_0f7a4_55 : decode cJ2_newBytesLength_0f7a4 55 = .ok (.iload_n 0, 1) := by decide +kernel
theorem dJ2_newBytesLength_0f7a4_56 : decode cJ2_newBytesLength_0f7a4 56 = .ok (.iconst 1, 1) := by decide +kernel
theorem dJ2_newBytesLength_0f7a4_57 : decode cJ2_newBytesLength_0f7a4 57 = .ok (.ishl, 1) := by decide +kernel
theorem dJ2_newBytesLength_0f7a4_58 : decode cJ2_newBytesLength_0f7a4 58 = .ok (.ireturn, 1) := by decide +kernel
theorem dJ2_putChar_b72d1_0 : decode cJ2_putChar_b72d1 0 = .ok (.getstatic 44, 3) := by decide +kernel
theorem dJ2_putChar_b72d1_3 : decode cJ2_putChar_b72d1 3 = .ok (.ifCond .ne 25, 3) := by decide +kernel
theorem dJ2_putChar_b72d1_6 : decode cJ2_putChar_b72d1 6 = .ok (.iload_n 1, 1) := by decide +kernel
theorem dJ2_putChar_b72d1_7 : decode cJ2_putChar_b72d1 7 = .ok (.ifCond .lt 11, 3) := by decide +kernel
theorem dJ2_putChar_b72d1_10 : decode cJ2_putChar_b72d1 10 = .ok (.iload_n 1, 1) := by decide +kernel
theorem dJ2_putChar_b72d1_11 : decode cJ2_putChar_b72d1 11 = .ok (.aload_n 0, 1) := by decide +kernel
theorem dJ2_putChar_b72d1_12 : decode cJ2_putChar_b72d1 12 = .ok (.invokestatic 48, 3) := by decide +kernel
theorem dJ2_putChar_b72d1_15 : decode cJ2_putChar_b72d1 15 = .ok (.if_icmp .lt 13, 3) := by decide +kernel
theorem dJ2_putChar_b72d1_18 : decode cJ2_putChar_b72d1 18 = .ok (.new 52, 3) := by decide +kernel
theorem dJ2_putChar_b72d1_21 : decode cJ2_putChar_b72d1 21 = .ok (.dup, 1) := by decide +kernel
theorem dJ2_putChar_b72d1_22 : decode cJ2_putChar_b72d1 22 = .ok (.ldc 54, 2) := by decide +kernel
theorem dJ2_putChar_b72d1_24 : decode cJ2_putChar_b72d1 24 = .ok (.invokespecial 56, 3) := by decide +kernel
theorem dJ2_putChar_b72d1_27 : decode cJ2_putChar_b72d1 27 = .ok (.athrow, 1) := by decide +kernel
theorem dJ2_putChar_b72d1_28 : decode cJ2_putChar_b72d1 28 = .ok (.iload_n 1, 1) := by decide +kernel
theorem dJ2_putChar_b72d1_29 : decode cJ2_putChar_b72d1 29 = .ok (.iconst 1, 1) := by decide +kernel
theorem dJ2_putChar_b72d1_30 : decode cJ2_putChar_b72d1 30 = .ok (.ishl, 1) := by decide +kernel
theorem dJ2_putChar_b72d1_31 : decode cJ2_putChar_b72d1 31 = .ok (.istore_n 1, 1) := by decide +kernel
theorem dJ2_putChar_b72d1_32 : decode cJ2_putChar_b72d1 32 = .ok (.aload_n 0, 1) := by decide +kernel
theorem dJ2_putChar_b72d1_33 : decode cJ2_putChar_b72d1 33 = .ok (.iload_n 1, 1) := by decide +kernel
theorem dJ2_putChar_b72d1_34 : decode cJ2_putChar_b72d1 34 = .ok (.iinc 1 1, 3) := by decide +kernel
theorem dJ2_putChar_b72d1_37 : decode cJ2_putChar_b72d1 37 = .ok (.iload_n 2, 1) := by decide +kernel
theorem dJ2_putChar_b72d1_38 : decode cJ2_putChar_b72d1 38 = .ok (.getstatic 59, 3) := by decide +kernel
theorem dJ2_putChar_b72d1_41 : decode cJ2_putChar_b72d1 41 = .ok (.ishr, 1) := by decide +kernel
theorem dJ2_putChar_b72d1_42 : decode cJ2_putChar_b72d1 42 = .ok (.i2b, 1) := by decide +kernel
theorem dJ2_putChar_b72d1_43 : decode cJ2_putChar_b72d1 43 = .ok (.bastore, 1) := by decide +kernel
theorem dJ2_putChar_b72d1_44 : decode cJ2_putChar_b72d1 44 = .ok (.aload_n 0, 1) := by decide +kernel
theorem dJ2_putChar_b72d1_45 : decode cJ2_putChar_b72d1 45 = .ok (.iload_n 1, 1) := by decide +kernel
theorem dJ2_putChar_b72d1_46 : decode cJ2_putChar_b72d1 46 = .ok (.iload_n 2, 1) := by decide +kernel
theorem dJ2_putChar_b72d1_47 : decode cJ2_putChar_b72d1 47 = .ok (.getstatic 63, 3) := by decide +kernel
theorem dJ2_putChar_b72d1_50 : decode cJ2_putChar_b72d1 50 = .ok (.ishr, 1) := by decide +kernel
theorem dJ2_putChar_b72d1_51 : decode cJ2_putChar_b72d1 51 = .ok (.i2b, 1) := by decide +kernel
theorem dJ2_putChar_b72d1_52 : decode cJ2_putChar_b72d1 52 = .ok (.bastore, 1) := by decide +kernel
theorem dJ2_putChar_b72d1_53 : decode cJ2_putChar_b72d1 53 = .ok (.return_, 1) := by decide +kernel
theorem dJ2_getChar_3b067_0 : decode cJ2_getChar_3b067 0 = .ok (.getstatic 44, 3) := by decide +kernel
theorem dJ2_getChar_3b067_3 : decode cJ2_getChar_3b067 3 = .ok (.ifCond .ne 25, 3) := by decide +kernel
theorem dJ2_getChar_3b067_6 : decode cJ2_getChar_3b067 6 = .ok (.iload_n 1, 1) := by decide +kernel
theorem dJ2_getChar_3b067_7 : decode cJ2_getChar_3b067 7 = .ok (.ifCond .lt 11, 3) := by decide +kernel
theorem dJ2_getChar_3b067_10 : decode cJ2_getChar_3b067 10 = .ok (.iload_n 1, 1) := by decide +kernel
theorem dJ2_getChar_3b067_11 : decode cJ2_getChar_3b067 11 = .ok (.aload_n 0, 1) := by decide +kernel
theorem dJ2_getChar_3b067_12 : decode cJ2_getChar_3b067 12 = .ok (.invokestatic 48, 3) := by decide +kernel
theorem dJ2_getChar_3b067_15 : decode cJ2_getChar_3b067 15 = .ok (.if_icmp .lt 13, 3) := by decide +kernel
theorem dJ2_getChar_3b067_18 : decode cJ2_getChar_3b067 18 = .ok (.new 52, 3) := by decide +kernel
theorem dJ2_getChar_3b067_21 : decode cJ2_getChar_3b067 21 = .ok (.dup, 1) := by decide +kernel
theorem dJ2_getChar_3b067_22 : decode cJ2_getChar_3b067 22 = .ok (.ldc 54, 2) := by decide +kernel
theorem dJ2_getChar_3b067_24 : decode cJ2_getChar_3b067 24 = .ok (.invokespecial 56, 3) := by decide +kernel
theorem dJ2_getChar_3b067_27 : decode cJ2_getChar_3b067 27 = .ok (.athrow, 1) := by decide +kernel
theorem dJ2_getChar_3b067_28 : decode cJ2_getChar_3b067 28 = .ok (.iload_n 1, 1) := by decide +kernel
theorem dJ2_getChar_3b067_29 : decode cJ2_getChar_3b067 29 = .ok (.iconst 1, 1) := by decide +kernel
theorem dJ2_getChar_3b067_30 : decode cJ2_getChar_3b067 30 = .ok (.ishl, 1) := by decide +kernel
theorem dJ2_getChar_3b067_31 : decode cJ2_getChar_3b067 31 = .ok (.istore_n 1, 1) := by decide +kernel
theorem dJ2_getChar_3b067_32 : decode cJ2_getChar_3b067 32 = .ok (.aload_n 0, 1) := by decide +kernel
theorem dJ2_getChar_3b067_33 : decode cJ2_getChar_3b067 33 = .ok (.iload_n 1, 1) := by decide +kernel
theorem dJ2_getChar_3b067_34 : decode cJ2_getChar_3b067 34 = .ok (.iinc 1 1, 3) := by decide +kernel
theorem dJ2_getChar_3b067_37 : decode cJ2_getChar_3b067 37 = .ok (.baload, 1) := by decide +kernel
theorem dJ2_getChar_3b067_38 : decode cJ2_getChar_3b067 38 = .ok (.sipush 255, 3) := by decide +kernel
theorem dJ2_getChar_3b067_41 : decode cJ2_getChar_3b067 41 = .ok (.iand, 1) := by decide +kernel
theorem dJ2_getChar_3b067_42 : decode cJ2_getChar_3b067 42 = .ok (.getstatic 59, 3) := by decide +kernel
theorem dJ2_getChar_3b067_45 : decode cJ2_getChar_3b067 45 = .ok (.ishl, 1) := by decide +kernel
theorem dJ2_getChar_3b067_46 : decode cJ2_getChar_3b067 46 = .ok (.aload_n 0, 1) := by decide +kernel
theorem dJ2_getChar_3b067_47 : decode cJ2_getChar_3b067 47 = .ok (.iload_n 1, 1) := by decide +kernel
theorem dJ2_getChar_3b067_48 : decode cJ2_getChar_3b067 48 = .ok (.baload, 1) := by decide +kernel
theorem dJ2_getChar_3b067_49 : decode cJ2_getChar_3b067 49 = .ok (.sipush 255, 3) := by decide +kernel
theorem dJ2_getChar_3b067_52 : decode cJ2_getChar_3b067 52 = .ok (.iand, 1) := by decide +kernel
theorem dJ2_getChar_3b067_53 : decode cJ2_getChar_3b067 53 = .ok (.getstatic 63, 3) := by decide +kernel
theorem dJ2_getChar_3b067_56 : decode cJ2_getChar_3b067 56 = .ok (.ishl, 1) := by decide +kernel
theorem dJ2_getChar_3b067_57 : decode cJ2_getChar_3b067 57 = .ok (.ior, 1) := by decide +kernel
theorem dJ2_getChar_3b067_58 : decode cJ2_getChar_3b067 58 = .ok (.i2c, 1) := by decide +kernel
theorem dJ2_getChar_3b067_59 : decode cJ2_getChar_3b067 59 = .ok (.ireturn, 1) := by decide +kernel
theorem dJ2_length_9d52b_0 : decode cJ2_length_9d52b 0 = .ok (.aload_n 0, 1) := by decide +kernel
theorem dJ2_length_9d52b_1 : decode cJ2_length_9d52b 1 = .ok (.arraylength, 1) := by decide +kernel
theorem dJ2_length_9d52b_2 : decode cJ2_length_9d52b 2 = .ok (.iconst 1, 1) := by decide +kernel
theorem dJ2_length_9d52b_3 : decode cJ2_length_9d52b 3 = .ok (.ishr, 1) := by decide +kernel
theorem dJ2_length_9d52b_4 : decode cJ2_length_9d52b 4 = .ok (.ireturn, 1) := by decide +kernel
theorem dJ2_coderFromArrayLen_85cad_0 : decode cJ2_coderFromArrayLen_85cad 0 = .ok (.iload_n 1, 1) := by decide +kernel
theorem dJ2_coderFromArrayLen_85cad_1 : decode cJ2_coderFromArrayLen_85cad 1 = .ok (.aload_n 0, 1) := by decide +kernel
theorem dJ2_coderFromArrayLen_85cad_2 : decode cJ2_coderFromArrayLen_85cad 2 = .ok (.arraylength, 1) := by decide +kernel
theorem dJ2_coderFromArrayLen_85cad_3 : decode cJ2_coderFromArrayLen_85cad 3 = .ok (.isub, 1) := by decide +kernel
theorem dJ2_coderFromArrayLen_85cad_4 : decode cJ2_coderFromArrayLen_85cad 4 = .ok (.bipush 31, 2) := by decide +kernel
theorem dJ2_coderFromArrayLen_85cad_6 : decode cJ2_coderFromArrayLen_85cad 6 = .ok (.iushr, 1) := by decide +kernel
theorem dJ2_coderFromArrayLen_85cad_7 : decode cJ2_coderFromArrayLen_85cad 7 = .ok (.i2b, 1) := by decide +kernel
theorem dJ2_coderFromArrayLen_85cad_8 : decode cJ2_coderFromArrayLen_85cad 8 = .ok (.ireturn, 1) := by decide +kernel
theorem dJ2_compress_39247_0 : decode cJ2_compress_39247 0 = .ok (.iload_n 2, 1) := by decide +kernel
theorem dJ2_compress_39247_1 : decode cJ2_compress_39247 1 = .ok (.newarray .byte, 2) := by decide +kernel
theorem dJ2_compress_39247_3 : decode cJ2_compress_39247 3 = .ok (.astore_n 3, 1) := by decide +kernel
theorem dJ2_compress_39247_4 : decode cJ2_compress_39247 4 = .ok (.aload_n 0, 1) := by decide +kernel
theorem dJ2_compress_39247_5 : decode cJ2_compress_39247 5 = .ok (.iload_n 1, 1) := by decide +kernel
theorem dJ2_compress_39247_6 : decode cJ2_compress_39247 6 = .ok (.aload_n 3, 1) := by decide +kernel
theorem dJ2_compress_39247_7 : decode cJ2_compress_39247 7 = .ok (.iconst 0, 1) := by decide +kernel
theorem dJ2_compress_39247_8 : decode cJ2_compress_39247 8 = .ok (.iload_n 2, 1) := by decide +kernel
theorem dJ2_compress_39247_9 : decode cJ2_compress_39247 9 = .ok (.invokestatic 123, 3) := by decide +kernel
theorem dJ2_compress_39247_12 : decode cJ2_compress_39247 12 = .ok (.istore 4, 2) := by decide +kernel
theorem dJ2_compress_39247_14 : decode cJ2_compress_39247 14 = .ok (.iload 4, 2) := by decide +kernel
theorem dJ2_compress_39247_16 : decode cJ2_compress_39247 16 = .ok (.iload_n 2, 1) := by decide +kernel
theorem dJ2_compress_39247_17 : decode cJ2_compress_39247 17 = .ok (.if_icmp .eq 47, 3) := by decide +kernel
theorem dJ2_compress_39247_20 : decode cJ2_compress_39247 20 = .ok (.aload_n 0, 1) := by decide +kernel
theorem dJ2_compress_39247_21 : decode cJ2_compress_39247 21 = .ok (.iload_n 1, 1) := by decide +kernel
theorem dJ2_compress_39247_22 : decode cJ2_compress_39247 22 = .ok (.iconst 1, 1) := by decide +kernel
theorem dJ2_compress_39247_23 : decode cJ2_compress_39247 23 = .ok (.ishl, 1) := by decide +kernel
theorem dJ2_compress_39247_24 : decode cJ2_compress_39247 24 = .ok (.iload_n 1, 1) := by decide +kernel
theorem dJ2_compress_39247_25 : decode cJ2_compress_39247 25 = .ok (.iload_n 2, 1) := by decide +kernel
theorem dJ2_compress_39247_26 : decode cJ2_compress_39247 26 = .ok (.iadd, 1) := by decide +kernel
theorem dJ2_compress_39247_27 : decode cJ2_compress_39247 27 = .ok (.invokestatic 11, 3) := by decide +kernel
theorem dJ2_compress_39247_30 : decode cJ2_compress_39247 30 = .ok (.invokestatic 126, 3) := by decide +kernel
theorem dJ2_compress_39247_33 : decode cJ2_compress_39247 33 = .ok (.astore 5, 2) := by decide +kernel
theorem dJ2_compress_39247_35 : decode cJ2_compress_39247 35 = .ok (.aload 5, 2) := by decide +kernel
theorem dJ2_compress_39247_37 : decode cJ2_compress_39247 37 = .ok (.iload 4, 2) := by decide +kernel
theorem dJ2_compress_39247_39 : decode cJ2_compress_39247 39 = .ok (.invokestatic 71, 3) := by decide +kernel
theorem dJ2_compress_39247_42 : decode cJ2_compress_39247 42 = .ok (.sipush 255, 3) := by decide +kernel
theorem dJ2_compress_39247_45 : decode cJ2_compress_39247 45 = .ok (.if_icmp .gt 16, 3) := by decide +kernel
theorem dJ2_compress_39247_48 : decode cJ2_compress_39247 48 = .ok (.aload 5, 2) := by decide +kernel
theorem dJ2_compress_39247_50 : decode cJ2_compress_39247 50 = .ok (.iconst 0, 1) := by decide +kernel
theorem dJ2_compress_39247_51 : decode cJ2_compress_39247 51 = .ok (.aload_n 3, 1) := by decide +kernel
theorem dJ2_compress_39247_52 : decode cJ2_compress_39247 52 = .ok (.iconst 0, 1) := by decide +kernel
theorem dJ2_compress_39247_53 : decode cJ2_compress_39247 53 = .ok (.iload_n 2, 1) := by decide +kernel
theorem dJ2_compress_39247_54 : decode cJ2_compress_39247 54 = .ok (.invokestatic 123, 3) := by decide +kernel
theorem dJ2_compress_39247_57 : decode cJ2_compress_39247 57 = .ok (.iload_n 2, 1) := by decide +kernel
theorem dJ2_compress_39247_58 : decode cJ2_compress_39247 58 = .ok (.if_icmp .eq 6, 3) := by decide +kernel
theorem dJ2_compress_39247_61 : decode cJ2_compress_39247 61 = .ok (.aload 5, 2) := by decide +kernel
theorem dJ2_compress_39247_63 : decode cJ2_compress_39247 63 = .ok (.areturn, 1) := by decide +kernel
theorem dJ2_compress_39247_64 : decode cJ2_compress_39247 64 = .ok (.aload_n 3, 1) := by decide +kernel
theorem dJ2_compress_39247_65 : decode cJ2_compress_39247 65 = .ok (.areturn, 1) := by decide +kernel
theorem dJ2_compress_5af95_0 : decode cJ2_compress_5af95 0 = .ok (.iload_n 1, 1) := by decide +kernel
theorem dJ2_compress_5af95_1 : decode cJ2_compress_5af95 1 = .ok (.iload 4, 2) := by decide +kernel
theorem dJ2_compress_5af95_3 : decode cJ2_compress_5af95 3 = .ok (.aload_n 0, 1) := by decide +kernel
theorem dJ2_compress_5af95_4 : decode cJ2_compress_5af95 4 = .ok (.invokestatic 173, 3) := by decide +kernel
theorem dJ2_compress_5af95_7 : decode cJ2_compress_5af95 7 = .ok (.iconst 0, 1) := by decide +kernel
theorem dJ2_compress_5af95_8 : decode cJ2_compress_5af95 8 = .ok (.istore 5, 2) := by decide +kernel
theorem dJ2_compress_5af95_10 : decode cJ2_compress_5af95 10 = .ok (.iload 5, 2) := by decide +kernel
theorem dJ2_compress_5af95_12 : decode cJ2_compress_5af95 12 = .ok (.iload 4, 2) := by decide +kernel
theorem dJ2_compress_5af95_14 : decode cJ2_compress_5af95 14 = .ok (.if_icmp .ge 39, 3) := by decide +kernel
theorem dJ2_compress_5af95_17 : decode cJ2_compress_5af95 17 = .ok (.aload_n 0, 1) := by decide +kernel
theorem dJ2_compress_5af95_18 : decode cJ2_compress_5af95 18 = .ok (.iload_n 1, 1) := by decide +kernel
theorem dJ2_compress_5af95_19 : decode cJ2_compress_5af95 19 = .ok (.invokestatic 71, 3) := by decide +kernel
theorem dJ2_compress_5af95_22 : decode cJ2_compress_5af95 22 = .ok (.istore 6, 2) := by decide +kernel
theorem dJ2_compress_5af95_24 : decode cJ2_compress_5af95 24 = .ok (.iload 6, 2) := by decide +kernel
theorem dJ2_compress_5af95_26 : decode cJ2_compress_5af95 26 = .ok (.sipush 255, 3) := by decide +kernel
theorem dJ2_compress_5af95_29 : decode cJ2_compress_5af95 29 = .ok (.if_icmp .le 6, 3) := by decide +kernel
theorem dJ2_compress_5af95_32 : decode cJ2_compress_5af95 32 = .ok (.iload 5, 2) := by decide +kernel
theorem dJ2_compress_5af95_34 : decode cJ2_compress_5af95 34 = .ok (.ireturn, 1) := by decide +kernel
theorem dJ2_compress_5af95_35 : decode cJ2_compress_5af95 35 = .ok (.aload_n 2, 1) := by decide +kernel
theorem dJ2_compress_5af95_36 : decode cJ2_compress_5af95 36 = .ok (.iload_n 3, 1) := by decide +kernel
theorem dJ2_compress_5af95_37 : decode cJ2_compress_5af95 37 = .ok (.iload 6, 2) := by decide +kernel
theorem dJ2_compress_5af95_39 : decode cJ2_compress_5af95 39 = .ok (.i2b, 1) := by decide +kernel
theorem dJ2_compress_5af95_40 : decode cJ2_compress_5af95 40 = .ok (.bastore, 1) := by decide +kernel
theorem dJ2_compress_5af95_41 : decode cJ2_compress_5af95 41 = .ok (.iinc 1 1, 3) := by decide +kernel
theorem dJ2_compress_5af95_44 : decode cJ2_compress_5af95 44 = .ok (.iinc 3 1, 3) := by decide +kernel
theorem dJ2_compress_5af95_47 : decode cJ2_compress_5af95 47 = .ok (.iinc 5 1, 3) := by decide +kernel
theorem dJ2_compress_5af95_50 : decode cJ2_compress_5af95 50 = .ok (.goto (-40), 3) := by decide +kernel
theorem dJ2_compress_5af95_53 : decode cJ2_compress_5af95 53 = .ok (.iload 4, 2) := by decide +kernel
theorem dJ2_compress_5af95_55 : decode cJ2_compress_5af95 55 = .ok (.ireturn, 1) := by decide +kernel
theorem dJ2_putCharSB_b72d1_0 : decode cJ2_putCharSB_b72d1 0 = .ok (.iload_n 1, 1) := by decide +kernel
theorem dJ2_putCharSB_b72d1_1 : decode cJ2_putCharSB_b72d1 1 = .ok (.aload_n 0, 1) := by decide +kernel
theorem dJ2_putCharSB_b72d1_2 : decode cJ2_putCharSB_b72d1 2 = .ok (.invokestatic 67, 3) := by decide +kernel
theorem dJ2_putCharSB_b72d1_5 : decode cJ2_putCharSB_b72d1 5 = .ok (.aload_n 0, 1) := by decide +kernel
theorem dJ2_putCharSB_b72d1_6 : decode cJ2_putCharSB_b72d1 6 = .ok (.iload_n 1, 1) := by decide +kernel
theorem dJ2_putCharSB_b72d1_7 : decode cJ2_putCharSB_b72d1 7 = .ok (.iload_n 2, 1) := by decide +kernel
theorem dJ2_putCharSB_b72d1_8 : decode cJ2_putCharSB_b72d1 8 = .ok (.invokestatic 111, 3) := by decide +kernel
theorem dJ2_putCharSB_b72d1_11 : decode cJ2_putCharSB_b72d1 11 = .ok (.return_, 1) := by decide +kernel
theorem dJ2_getChars_46870_0 : decode cJ2_getChars_46870 0 = .ok (.iload_n 1, 1) := by decide +kernel
theorem dJ2_getChars_46870_1 : decode cJ2_getChars_46870 1 = .ok (.iload_n 2, 1) := by decide +kernel
theorem dJ2_getChars_46870_2 : decode cJ2_getChars_46870 2 = .ok (.aload_n 3, 1) := by decide +kernel
theorem dJ2_getChars_46870_3 : decode cJ2_getChars_46870 3 = .ok (.invokestatic 96, 3) := by decide +kernel
theorem dJ2_getChars_46870_6 : decode cJ2_getChars_46870 6 = .ok (.iload_n 0, 1) := by decide +kernel
theorem dJ2_getChars_46870_7 : decode cJ2_getChars_46870 7 = .ok (.iload_n 2, 1) := by decide +kernel
theorem dJ2_getChars_46870_8 : decode cJ2_getChars_46870 8 = .ok (.aload_n 3, 1) := by decide +kernel
theorem dJ2_getChars_46870_9 : decode cJ2_getChars_46870 9 = .ok (.invokestatic 393, 3) := by decide +kernel
theorem dJ2_getChars_46870_12 : decode cJ2_getChars_46870 12 = .ok (.istore 4, 2) := by decide +kernel
theorem dJ2_getChars_46870_14 : decode cJ2_getChars_46870 14 = .ok (.getstatic 44, 3) := by decide +kernel
theorem dJ2_getChars_46870_17 : decode cJ2_getChars_46870 17 = .ok (.ifCond .ne 17, 3) := by decide +kernel
theorem dJ2_getChars_46870_20 : decode cJ2_getChars_46870 20 = .ok (.iload_n 1, 1) := by decide +kernel
theorem dJ2_getChars_46870_21 : decode cJ2_getChars_46870 21 = .ok (.iload 4, 2) := by decide +kernel
theorem dJ2_getChars_46870_23 : decode cJ2_getChars_46870 23 = .ok (.if_icmp .eq 11, 3) := by decide +kernel
theorem dJ2_getChars_46870_26 : decode cJ2_getChars_46870 26 = .ok (.new 52, 3) := by decide +kernel
theorem dJ2_getChars_46870_29 : decode cJ2_getChars_46870 29 = .ok (.dup, 1) := by decide +kernel
theorem dJ2_getChars_46870_30 : decode cJ2_getChars_46870 30 = .ok (.invokespecial 66, 3) := by decide +kernel
theorem dJ2_getChars_46870_33 : decode cJ2_getChars_46870 33 = .ok (.athrow, 1) := by decide +kernel
theorem dJ2_getChars_46870_34 : decode cJ2_getChars_46870 34 = .ok (.iload 4, 2) := by decide +kernel
theorem dJ2_getChars_46870_36 : decode cJ2_getChars_46870 36 = .ok (.ireturn, 1) := by decide +kernel
theorem dJ2_putCharsAt_cd4e5_0 : decode cJ2_putCharsAt_cd4e5 0 = .ok (.iload_n 1, 1) := by decide +kernel
theorem dJ2_putCharsAt_cd4e5_1 : decode cJ2_putCharsAt_cd4e5 1 = .ok (.iconst 4, 1) := by decide +kernel
theorem dJ2_putCharsAt_cd4e5_2 : decode cJ2_putCharsAt_cd4e5 2 = .ok (.iadd, 1) := by decide +kernel
theorem dJ2_putCharsAt_cd4e5_3 : decode cJ2_putCharsAt_cd4e5 3 = .ok (.istore 6, 2) := by decide +kernel
theorem dJ2_putCharsAt_cd4e5_5 : decode cJ2_putCharsAt_cd4e5 5 = .ok (.iload_n 1, 1) := by decide +kernel
theorem dJ2_putCharsAt_cd4e5_6 : decode cJ2_putCharsAt_cd4e5 6 = .ok (.iload 6, 2) := by decide +kernel
theorem dJ2_putCharsAt_cd4e5_8 : decode cJ2_putCharsAt_cd4e5 8 = .ok (.aload_n 0, 1) := by decide +kernel
theorem dJ2_putCharsAt_cd4e5_9 : decode cJ2_putCharsAt_cd4e5 9 = .ok (.invokestatic 96, 3) := by decide +kernel
theorem dJ2_putCharsAt_cd4e5_12 : decode cJ2_putCharsAt_cd4e5 12 = .ok (.aload_n 0, 1) := by decide +kernel
theorem dJ2_putCharsAt_cd4e5_13 : decode cJ2_putCharsAt_cd4e5 13 = .ok (.iload_n 1, 1) := by decide +kernel
theorem dJ2_putCharsAt_cd4e5_14 : decode cJ2_putCharsAt_cd4e5 14 = .ok (.iinc 1 1, 3) := by decide +kernel
theorem dJ2_putCharsAt_cd4e5_17 : decode cJ2_putCharsAt_cd4e5 17 = .ok (.iload_n 2, 1) := by decide +kernel
theorem dJ2_putCharsAt_cd4e5_18 : decode cJ2_putCharsAt_cd4e5 18 = .ok (.invokestatic 111, 3) := by decide +kernel
theorem dJ2_putCharsAt_cd4e5_21 : decode cJ2_putCharsAt_cd4e5 21 = .ok (.aload_n 0, 1) := by decide +kernel
theorem dJ2_putCharsAt_cd4e5_22 : decode cJ2_putCharsAt_cd4e5 22 = .ok (.iload_n 1, 1) := by decide +kernel
theorem dJ2_putCharsAt_cd4e5_23 : decode cJ2_putCharsAt_cd4e5 23 = .ok (.iinc 1 1, 3) := by decide +kernel
theorem dJ2_putCharsAt_cd4e5_26 : decode cJ2_putCharsAt_cd4e5 26 = .ok (.iload_n 3, 1) := by decide +kernel
theorem dJ2_putCharsAt_cd4e5_27 : decode cJ2_putCharsAt_cd4e5 27 = .ok (.invokestatic 111, 3) := by decide +kernel
theorem dJ2_putCharsAt_cd4e5_30 : decode cJ2_putCharsAt_cd4e5 30 = .ok (.aload_n 0, 1) := by decide +kernel
theorem dJ2_putCharsAt_cd4e5_31 : decode cJ2_putCharsAt_cd4e5 31 = .ok (.iload_n 1, 1) := by decide +kernel
theorem dJ2_putCharsAt_cd4e5_32 : decode cJ2_putCharsAt_cd4e5 32 = .ok (.iinc 1 1, 3) := by decide +kernel
theorem dJ2_putCharsAt_cd4e5_35 : decode cJ2_putCharsAt_cd4e5 35 = .ok (.iload 4, 2) := by decide +kernel
theorem dJ2_putCharsAt_cd4e5_37 : decode cJ2_putCharsAt_cd4e5 37 = .ok (.invokestatic 111, 3) := by decide +kernel
theorem dJ2_putCharsAt_cd4e5_40 : decode cJ2_putCharsAt_cd4e5 40 = .ok (.aload_n 0, 1) := by decide +kernel
theorem dJ2_putCharsAt_cd4e5_41 : decode cJ2_putCharsAt_cd4e5 41 = .ok (.iload_n 1, 1) := by decide +kernel
theorem dJ2_putCharsAt_cd4e5_42 : decode cJ2_putCharsAt_cd4e5 42 = .ok (.iinc 1 1, 3) := by decide +kernel
theorem dJ2_putCharsAt_cd4e5_45 : decode cJ2_putCharsAt_cd4e5 45 = .ok (.iload 5, 2) := by decide +kernel
theorem dJ2_putCharsAt_cd4e5_47 : decode cJ2_putCharsAt_cd4e5 47 = .ok (.invokestatic 111, 3) := by decide +kernel
theorem dJ2_putCharsAt_cd4e5_50 : decode cJ2_putCharsAt_cd4e5 50 = .ok (.getstatic 44, 3) := by decide +kernel
theorem dJ2_putCharsAt_cd4e5_53 : decode cJ2_putCharsAt_cd4e5 53 = .ok (.ifCond .ne 17, 3) := by decide +kernel
theorem dJ2_putCharsAt_cd4e5_56 : decode cJ2_putCharsAt_cd4e5 56 = .ok (.iload_n 1, 1) := by decide +kernel
theorem dJ2_putCharsAt_cd4e5_57 : decode cJ2_putCharsAt_cd4e5 57 = .ok (.iload 6, 2) := by decide +kernel
theorem dJ2_putCharsAt_cd4e5_59 : decode cJ2_putCharsAt_cd4e5 59 = .ok (.if_icmp .eq 11, 3) := by decide +kernel
theorem dJ2_putCharsAt_cd4e5_62 : decode cJ2_putCharsAt_cd4e5 62 = .ok (.new 52, 3) := by decide +kernel
theorem dJ2_putCharsAt_cd4e5_65 : decode cJ2_putCharsAt_cd4e5 65 = .ok (.dup, 1) := by decide +kernel
theorem dJ2_putCharsAt_cd4e5_66 : decode cJ2_putCharsAt_cd4e5 66 = .ok (.invokespecial 66, 3) := by decide +kernel
theorem dJ2_putCharsAt_cd4e5_69 : decode cJ2_putCharsAt_cd4e5 69 = .ok (.athrow, 1) := by decide +kernel
theorem dJ2_putCharsAt_cd4e5_70 : decode cJ2_putCharsAt_cd4e5 70 = .ok (.iload 6, 2) := by decide +kernel
theorem dJ2_putCharsAt_cd4e5_72 : decode cJ2_putCharsAt_cd4e5 72 = .ok (.ireturn, 1) := by decide +kernel
theorem dJ2_charAt_3b067_0 : decode cJ2_charAt_3b067 0 = .ok (.iload_n 1, 1) := by decide +kernel
theorem dJ2_charAt_3b067_1 : decode cJ2_charAt_3b067 1 = .ok (.aload_n 0, 1) := by decide +kernel
theorem dJ2_charAt_3b067_2 : decode cJ2_charAt_3b067 2 = .ok (.invokestatic 67, 3) := by decide +kernel
theorem dJ2_charAt_3b067_5 : decode cJ2_charAt_3b067 5 = .ok (.aload_n 0, 1) := by decide +kernel
theorem dJ2_charAt_3b067_6 : decode cJ2_charAt_3b067 6 = .ok (.iload_n 1, 1) := by decide +kernel
theorem dJ2_charAt_3b067_7 : decode cJ2_charAt_3b067 7 = .ok (.invokestatic 71, 3) := by decide +kernel
theorem dJ2_charAt_3b067_10 : decode cJ2_charAt_3b067 10 = .ok (.ireturn, 1) := by decide +kernel
theorem dJ2_inflate_0e8fd_0 : decode cJ2_inflate_0e8fd 0 = .ok (.iload_n 3, 1) := by decide +kernel
theorem dJ2_inflate_0e8fd_1 : decode cJ2_inflate_0e8fd 1 = .ok (.iload 4, 2) := by decide +kernel
theorem dJ2_inflate_0e8fd_3 : decode cJ2_inflate_0e8fd 3 = .ok (.aload_n 2, 1) := by decide +kernel
theorem dJ2_inflate_0e8fd_4 : decode cJ2_inflate_0e8fd 4 = .ok (.invokestatic 173, 3) := by decide +kernel
theorem dJ2_inflate_0e8fd_7 : decode cJ2_inflate_0e8fd 7 = .ok (.iconst 0, 1) := by decide +kernel
theorem dJ2_inflate_0e8fd_8 : decode cJ2_inflate_0e8fd 8 = .ok (.istore 5, 2) := by decide +kernel
theorem dJ2_inflate_0e8fd_10 : decode cJ2_inflate_0e8fd 10 = .ok (.iload 5, 2) := by decide +kernel
theorem dJ2_inflate_0e8fd_12 : decode cJ2_inflate_0e8fd 12 = .ok (.iload 4, 2) := by decide +kernel
theorem dJ2_inflate_0e8fd_14 : decode cJ2_inflate_0e8fd 14 = .ok (.if_icmp .ge 27, 3) := by decide +kernel
theorem dJ2_inflate_0e8fd_17 : decode cJ2_inflate_0e8fd 17 = .ok (.aload_n 2, 1) := by decide +kernel
theorem dJ2_inflate_0e8fd_18 : decode cJ2_inflate_0e8fd 18 = .ok (.iload_n 3, 1) := by decide +kernel
theorem dJ2_inflate_0e8fd_19 : decode cJ2_inflate_0e8fd 19 = .ok (.iinc 3 1, 3) := by decide +kernel
theorem dJ2_inflate_0e8fd_22 : decode cJ2_inflate_0e8fd 22 = .ok (.aload_n 0, 1) := by decide +kernel
theorem dJ2_inflate_0e8fd_23 : decode cJ2_inflate_0e8fd 23 = .ok (.iload_n 1, 1) := by decide +kernel
theorem dJ2_inflate_0e8fd_24 : decode cJ2_inflate_0e8fd 24 = .ok (.iinc 1 1, 3) := by decide +kernel
theorem dJ2_inflate_0e8fd_27 : decode cJ2_inflate_0e8fd 27 = .ok (.baload, 1) := by decide +kernel
theorem dJ2_inflate_0e8fd_28 : decode cJ2_inflate_0e8fd 28 = .ok (.sipush 255, 3) := by decide +kernel
theorem dJ2_inflate_0e8fd_31 : decode cJ2_inflate_0e8fd 31 = .ok (.iand, 1) := by decide +kernel
theorem dJ2_inflate_0e8fd_32 : decode cJ2_inflate_0e8fd 32 = .ok (.invokestatic 111, 3) := by decide +kernel
theorem dJ2_inflate_0e8fd_35 : decode cJ2_inflate_0e8fd 35 = .ok (.iinc 5 1, 3) := by decide +kernel
theorem dJ2_inflate_0e8fd_38 : decode cJ2_inflate_0e8fd 38 = .ok (.goto (-28), 3) := by decide +kernel
theorem dJ2_inflate_0e8fd_41 : decode cJ2_inflate_0e8fd 41 = .ok (.return_, 1) := by decide +kernel
theorem dJ2_getChars_ba4f3_0 : decode cJ2_getChars_ba4f3 0 = .ok (.iload_n 1, 1) := by decide +kernel
theorem dJ2_getChars_ba4f3_1 : decode cJ2_getChars_ba4f3 1 = .ok (.istore 5, 2) := by decide +kernel
theorem dJ2_getChars_ba4f3_3 : decode cJ2_getChars_ba4f3 3 = .ok (.iload_n 0, 1) := by decide +kernel
theorem dJ2_getChars_ba4f3_4 : decode cJ2_getChars_ba4f3 4 = .ok (.ifCond .ge 7, 3) := by decide +kernel
theorem dJ2_getChars_ba4f3_7 : decode cJ2_getChars_ba4f3 7 = .ok (.iconst 1, 1) := by decide +kernel
theorem dJ2_getChars_ba4f3_8 : decode cJ2_getChars_ba4f3 8 = .ok (.goto 4, 3) := by decide +kernel
theorem dJ2_getChars_ba4f3_11 : decode cJ2_getChars_ba4f3 11 = .ok (.iconst 0, 1) := by decide +kernel
theorem dJ2_getChars_ba4f3_12 : decode cJ2_getChars_ba4f3 12 = .ok (.istore 6, 2) := by decide +kernel
theorem dJ2_getChars_ba4f3_14 : decode cJ2_getChars_ba4f3 14 = .ok (.iload 6, 2) := by decide +kernel
theorem dJ2_getChars_ba4f3_16 : decode cJ2_getChars_ba4f3 16 = .ok (.ifCond .ne 6, 3) := by decide +kernel
theorem dJ2_getChars_ba4f3_19 : decode cJ2_getChars_ba4f3 19 = .ok (.iload_n 0, 1) := by decide +kernel
theorem dJ2_getChars_ba4f3_20 : decode cJ2_getChars_ba4f3 20 = .ok (.ineg, 1) := by decide +kernel
theorem dJ2_getChars_ba4f3_21 : decode cJ2_getChars_ba4f3 21 = .ok (.istore_n 0, 1) := by decide +kernel
theorem dJ2_getChars_ba4f3_22 : decode cJ2_getChars_ba4f3 22 = .ok (.iload_n 0, 1) := by decide +kernel
theorem dJ2_getChars_ba4f3_23 : decode cJ2_getChars_ba4f3 23 = .ok (.bipush (-100), 2) := by decide +kernel
theorem dJ2_getChars_ba4f3_25 : decode cJ2_getChars_ba4f3 25 = .ok (.if_icmp .gt 51, 3) := by decide +kernel
theorem dJ2_getChars_ba4f3_28 : decode cJ2_getChars_ba4f3 28 = .ok (.iload_n 0, 1) := by decide +kernel
theorem dJ2_getChars_ba4f3_29 : decode cJ2_getChars_ba4f3 29 = .ok (.bipush 100, 2) := by decide +kernel
theorem dJ2_getChars_ba4f3_31 : decode cJ2_getChars_ba4f3 31 = .ok (.idiv, 1) := by decide +kernel
theorem dJ2_getChars_ba4f3_32 : decode cJ2_getChars_ba4f3 32 = .ok (.istore_n 3, 1) := by decide +kernel
theorem dJ2_getChars_ba4f3_33 : decode cJ2_getChars_ba4f3 33 = .ok (.iload_n 3, 1) := by decide +kernel
theorem dJ2_getChars_ba4f3_34 : decode cJ2_getChars_ba4f3 34 = .ok (.bipush 100, 2) := by decide +kernel
theorem dJ2_getChars_ba4f3_36 : decode cJ2_getChars_ba4f3 36 = .ok (.imul, 1) := by decide +kernel
theorem dJ2_getChars_ba4f3_37 : decode cJ2_getChars_ba4f3 37 = .ok (.iload_n 0, 1) := by decide +kernel
theorem dJ2_getChars_ba4f3_38 : decode cJ2_getChars_ba4f3 38 = .ok (.isub, 1) := by decide +kernel
theorem dJ2_getChars_ba4f3_39 : decode cJ2_getChars_ba4f3 39 = .ok (.istore 4, 2) := by decide +kernel
theorem dJ2_getChars_ba4f3_41 : decode cJ2_getChars_ba4f3 41 = .ok (.iload_n 3, 1) := by decide +kernel
theorem dJ2_getChars_ba4f3_42 : decode cJ2_getChars_ba4f3 42 = .ok (.istore_n 0, 1) := by decide +kernel
theorem dJ2_getChars_ba4f3_43 : decode cJ2_getChars_ba4f3 43 = .ok (.aload_n 2, 1) := by decide +kernel
theorem dJ2_getChars_ba4f3_44 : decode cJ2_getChars_ba4f3 44 = .ok (.iinc 5 (-1), 3) := by decide +kernel
theorem dJ2_getChars_ba4f3_47 : decode cJ2_getChars_ba4f3 47 = .ok (.iload 5, 2) := by decide +kernel
theorem dJ2_getChars_ba4f3_49 : decode cJ2_getChars_ba4f3 49 = .ok (.getstatic 403, 3) := by decide +kernel
theorem dJ2_getChars_ba4f3_52 : decode cJ2_getChars_ba4f3 52 = .ok (.iload 4, 2) := by decide +kernel
theorem dJ2_getChars_ba4f3_54 : decode cJ2_getChars_ba4f3 54 = .ok (.baload, 1) := by decide +kernel
theorem dJ2_getChars_ba4f3_55 : decode cJ2_getChars_ba4f3 55 = .ok (.invokestatic 111, 3) := by decide +kernel
theorem dJ2_getChars_ba4f3_58 : decode cJ2_getChars_ba4f3 58 = .ok (.aload_n 2, 1) := by decide +kernel
theorem dJ2_getChars_ba4f3_59 : decode cJ2_getChars_ba4f3 59 = .ok (.iinc 5 (-1), 3) := by decide +kernel
theorem dJ2_getChars_ba4f3_62 : decode cJ2_getChars_ba4f3 62 = .ok (.iload 5, 2) := by decide +kernel
theorem dJ2_getChars_ba4f3_64 : decode cJ2_getChars_ba4f3 64 = .ok (.getstatic 407, 3) := by decide +kernel
theorem dJ2_getChars_ba4f3_67 : decode cJ2_getChars_ba4f3 67 = .ok (.iload 4, 2) := by decide +kernel
theorem dJ2_getChars_ba4f3_69 : decode cJ2_getChars_ba4f3 69 = .ok (.baload, 1) := by decide +kernel
theorem dJ2_getChars_ba4f3_70 : decode cJ2_getChars_ba4f3 70 = .ok (.invokestatic 111, 3) := by decide +kernel
theorem dJ2_getChars_ba4f3_73 : decode cJ2_getChars_ba4f3 73 = .ok (.goto (-51), 3) := by decide +kernel
theorem dJ2_getChars_ba4f3_76 : decode cJ2_getChars_ba4f3 76 = .ok (.aload_n 2, 1) := by decide +kernel
theorem dJ2_getChars_ba4f3_77 : decode cJ2_getChars_ba4f3 77 = .ok (.iinc 5 (-1), 3) := by decide +kernel
theorem dJ2_getChars_ba4f3_80 : decode cJ2_getChars_ba4f3 80 = .ok (.iload 5, 2) := by decide +kernel
theorem dJ2_getChars_ba4f3_82 : decode cJ2_getChars_ba4f3 82 = .ok (.getstatic 403, 3) := by decide +kernel
theorem dJ2_getChars_ba4f3_85 : decode cJ2_getChars_ba4f3 85 = .ok (.iload_n 0, 1) := by decide +kernel
theorem dJ2_getChars_ba4f3_86 : decode cJ2_getChars_ba4f3 86 = .ok (.ineg, 1) := by decide +kernel
theorem dJ2_getChars_ba4f3_87 : decode cJ2_getChars_ba4f3 87 = .ok (.baload, 1) := by decide +kernel
theorem dJ2_getChars_ba4f3_88 : decode cJ2_getChars_ba4f3 88 = .ok (.invokestatic 111, 3) := by decide +kernel
theorem dJ2_getChars_ba4f3_91 : decode cJ2_getChars_ba4f3 91 = .ok (.iload_n 0, 1) := by decide +kernel
theorem dJ2_getChars_ba4f3_92 : decode cJ2_getChars_ba4f3 92 = .ok (.bipush (-9), 2) := by decide +kernel
theorem dJ2_getChars_ba4f3_94 : decode cJ2_getChars_ba4f3 94 = .ok (.if_icmp .ge 18, 3) := by decide +kernel
theorem dJ2_getChars_ba4f3_97 : decode cJ2_getChars_ba4f3 97 = .ok (.aload_n 2, 1) := by decide +kernel
theorem dJ2_getChars_ba4f3_98 : decode cJ2_getChars_ba4f3 98 = .ok (.iinc 5 (-1), 3) := by decide +kernel
theorem dJ2_getChars_ba4f3_101 : decode cJ2_getChars_ba4f3 101 = .ok (.iload 5, 2) := by decide +kernel
theorem dJ2_getChars_ba4f3_103 : decode cJ2_getChars_ba4f3 103 = .ok (.getstatic 407, 3) := by decide +kernel
theorem dJ2_getChars_ba4f3_106 : decode cJ2_getChars_ba4f3 106 = .ok (.iload_n 0, 1) := by decide +kernel
theorem dJ2_getChars_ba4f3_107 : decode cJ2_getChars_ba4f3 107 = .ok (.ineg, 1) := by decide +kernel
theorem dJ2_getChars_ba4f3_108 : decode cJ2_getChars_ba4f3 108 = .ok (.baload, 1) := by decide +kernel
theorem dJ2_getChars_ba4f3_109 : decode cJ2_getChars_ba4f3 109 = .ok (.invokestatic 111, 3) := by decide +kernel
theorem dJ2_getChars_ba4f3_112 : decode cJ2_getChars_ba4f3 112 = .ok (.iload 6, 2) := by decide +kernel
theorem dJ2_getChars_ba4f3_114 : decode cJ2_getChars_ba4f3 114 = .ok (.ifCond .eq 14, 3) := by decide +kernel
theorem dJ2_getChars_ba4f3_117 : decode cJ2_getChars_ba4f3 117 = .ok (.aload_n 2, 1) := by decide +kernel
theorem dJ2_getChars_ba4f3_118 : decode cJ2_getChars_ba4f3 118 = .ok (.iinc 5 (-1), 3) := by decide +kernel
theorem dJ2_getChars_ba4f3_121 : decode cJ2_getChars_ba4f3 121 = .ok (.iload 5, 2) := by decide +kernel
theorem dJ2_getChars_ba4f3_123 : decode cJ2_getChars_ba4f3 123 = .ok (.bipush 45, 2) := by decide +kernel
theorem dJ2_getChars_ba4f3_125 : decode cJ2_getChars_ba4f3 125 = .ok (.invokestatic 111, 3) := by decide +kernel
theorem dJ2_getChars_ba4f3_128 : decode cJ2_getChars_ba4f3 128 = .ok (.iload 5, 2) := by decide +kernel
theorem dJ2_getChars_ba4f3_130 : decode cJ2_getChars_ba4f3 130 = .ok (.ireturn, 1) := by decide +kernel
theorem dJ2_checkIndex_2214a_0 : decode cJ2_checkIndex_2214a 0 = .ok (.iload_n 0, 1) := by decide +kernel
theorem dJ2_checkIndex_2214a_1 : decode cJ2_checkIndex_2214a 1 = .ok (.aload_n 1, 1) := by decide +kernel
theorem dJ2_checkIndex_2214a_2 : decode cJ2_checkIndex_2214a 2 = .ok (.invokestatic 48, 3) := by decide +kernel
theorem dJ2_checkIndex_2214a_5 : decode cJ2_checkIndex_2214a 5 = .ok (.invokestatic 414, 3) := by decide +kernel
theorem dJ2_checkIndex_2214a_8 : decode cJ2_checkIndex_2214a 8 = .ok (.return_, 1) := by decide +kernel
theorem dJ2_checkBoundsBeginEnd_d044e_0 : decode cJ2_checkBoundsBeginEnd_d044e 0 = .ok (.iload_n 0, 1) := by decide +kernel
theorem dJ2_checkBoundsBeginEnd_d044e_1 : decode cJ2_checkBoundsBeginEnd_d044e 1 = .ok (.iload_n 1, 1) := by decide +kernel
theorem dJ2_checkBoundsBeginEnd_d044e_2 : decode cJ2_checkBoundsBeginEnd_d044e 2 = .ok (.aload_n 2, 1) := by decide +kernel
theorem dJ2_checkBoundsBeginEnd_d044e_3 : decode cJ2_checkBoundsBeginEnd_d044e 3 = .ok (.invokestatic 48, 3) := by decide +kernel
theorem dJ2_checkBoundsBeginEnd_d044e_6 : decode cJ2_checkBoundsBeginEnd_d044e 6 = .ok (.invokestatic 241, 3) := by decide +kernel
theorem dJ2_checkBoundsBeginEnd_d044e_9 : decode cJ2_checkBoundsBeginEnd_d044e 9 = .ok (.return_, 1) := by decide +kernel
theorem dJ2_checkBoundsOffCount_d044e_0 : decode cJ2_checkBoundsOffCount_d044e 0 = .ok (.iload_n 0, 1) := by decide +kernel
theorem dJ2_checkBoundsOffCount_d044e_1 : decode cJ2_checkBoundsOffCount_d044e 1 = .ok (.iload_n 1, 1) := by decide +kernel
theorem dJ2_checkBoundsOffCount_d044e_2 : decode cJ2_checkBoundsOffCount_d044e 2 = .ok (.aload_n 2, 1) := by decide +kernel
theorem dJ2_checkBoundsOffCount_d044e_3 : decode cJ2_checkBoundsOffCount_d044e 3 = .ok (.invokestatic 48, 3) := by decide +kernel
theorem dJ2_checkBoundsOffCount_d044e_6 : decode cJ2_checkBoundsOffCount_d044e 6 = .ok (.invokestatic 419, 3) := by decide +kernel
theorem dJ2_checkBoundsOffCount_d044e_9 : decode cJ2_checkBoundsOffCount_d044e 9 = .ok (.pop, 1) := by decide +kernel
theorem dJ2_checkBoundsOffCount_d044e_10 : decode cJ2_checkBoundsOffCount_d044e 10 = .ok (.return_, 1) := by decide +kernel
theorem dJ7_fill_53178_0 : decode cJ7_fill_53178 0 = .ok (.iconst 0, 1) := by decide +kernel
theorem dJ7_fill_53178_1 : decode cJ7_fill_53178 1 = .ok (.istore_n 2, 1) := by decide +kernel
theorem dJ7_fill_53178_2 : decode cJ7_fill_53178 2 = .ok (.aload_n 0, 1) := by decide +kernel
theorem dJ7_fill_53178_3 : decode cJ7_fill_53178 3 = .ok (.arraylength, 1) := by decide +kernel
theorem dJ7_fill_53178_4 : decode cJ7_fill_53178 4 = .ok (.istore_n 3, 1) := by decide +kernel
theorem dJ7_fill_53178_5 : decode cJ7_fill_53178 5 = .ok (.iload_n 2, 1) := by decide +kernel
theorem dJ7_fill_53178_6 : decode cJ7_fill_53178 6 = .ok (.iload_n 3, 1) := by decide +kernel
theorem dJ7_fill_53178_7 : decode cJ7_fill_53178 7 = .ok (.if_icmp .ge 13, 3) := by decide +kernel
theorem dJ7_fill_53178_10 : decode cJ7_fill_53178 10 = .ok (.aload_n 0, 1) := by decide +kernel
theorem dJ7_fill_53178_11 : decode cJ7_fill_53178 11 = .ok (.iload_n 2, 1) := by decide +kernel
theorem dJ7_fill_53178_12 : decode cJ7_fill_53178 12 = .ok (.iload_n 1, 1) := by decide +kernel
theorem dJ7_fill_53178_13 : decode cJ7_fill_53178 13 = .ok (.iastore, 1) := by decide +kernel
theorem dJ7_fill_53178_14 : decode cJ7_fill_53178 14 = .ok (.iinc 2 1, 3) := by decide +kernel
theorem dJ7_fill_53178_17 : decode cJ7_fill_53178 17 = .ok (.goto (-12), 3) := by decide +kernel
theorem dJ7_fill_53178_20 : decode cJ7_fill_53178 20 = .ok (.return_, 1) := by decide +kernel
theorem dJ7_copyOf_9075b_0 : decode cJ7_copyOf_9075b 0 = .ok (.iload_n 1, 1) := by decide +kernel
theorem dJ7_copyOf_9075b_1 : decode cJ7_copyOf_9075b 1 = .ok (.aload_n 0, 1) := by decide +kernel
theorem dJ7_copyOf_9075b_2 : decode cJ7_copyOf_9075b 2 = .ok (.arraylength, 1) := by decide +kernel
theorem dJ7_copyOf_9075b_3 : decode cJ7_copyOf_9075b 3 = .ok (.if_icmp .ne 11, 3) := by decide +kernel
theorem dJ7_copyOf_9075b_6 : decode cJ7_copyOf_9075b 6 = .ok (.aload_n 0, 1) := by decide +kernel
theorem dJ7_copyOf_9075b_7 : decode cJ7_copyOf_9075b 7 = .ok (.invokevirtual 310, 3) := by decide +kernel
theorem dJ7_copyOf_9075b_10 : decode cJ7_copyOf_9075b 10 = .ok (.checkcast 311, 3) := by decide +kernel
theorem dJ7_copyOf_9075b_13 : decode cJ7_copyOf_9075b 13 = .ok (.areturn, 1) := by decide +kernel
theorem dJ7_copyOf_9075b_14 : decode cJ7_copyOf_9075b 14 = .ok (.iload_n 1, 1) := by decide +kernel
theorem dJ7_copyOf_9075b_15 : decode cJ7_copyOf_9075b 15 = .ok (.newarray .byte, 2) := by decide +kernel
theorem dJ7_copyOf_9075b_17 : decode cJ7_copyOf_9075b 17 = .ok (.astore_n 2, 1) := by decide +kernel
theorem dJ7_copyOf_9075b_18 : decode cJ7_copyOf_9075b 18 = .ok (.aload_n 0, 1) := by decide +kernel
theorem dJ7_copyOf_9075b_19 : decode cJ7_copyOf_9075b 19 = .ok (.iconst 0, 1) := by decide +kernel
theorem dJ7_copyOf_9075b_20 : decode cJ7_copyOf_9075b 20 = .ok (.aload_n 2, 1) := by decide +kernel
theorem dJ7_copyOf_9075b_21 : decode cJ7_copyOf_9075b 21 = .ok (.iconst 0, 1) := by decide +kernel
theorem dJ7_copyOf_9075b_22 : decode cJ7_copyOf_9075b 22 = .ok (.aload_n 0, 1) := by decide +kernel
theorem dJ7_copyOf_9075b_23 : decode cJ7_copyOf_9075b 23 = .ok (.arraylength, 1) := by decide +kernel
theorem dJ7_copyOf_9075b_24 : decode cJ7_copyOf_9075b 24 = .ok (.iload_n 1, 1) := by decide +kernel
theorem dJ7_copyOf_9075b_25 : decode cJ7_copyOf_9075b 25 = .ok (.invokestatic 304, 3) := by decide +kernel
theorem dJ7_copyOf_9075b_28 : decode cJ7_copyOf_9075b 28 = .ok (.invokestatic 150, 3) := by decide +kernel
theorem dJ7_copyOf_9075b_31 : decode cJ7_copyOf_9075b 31 = .ok (.aload_n 2, 1) := by decide +kernel
theorem dJ7_copyOf_9075b_32 : decode cJ7_copyOf_9075b 32 = .ok (.areturn, 1) := by decide +kernel
theorem dJ7_checkLength_df160_0 : decode cJ7_checkLength_df160 0 = .ok (.iload_n 1, 1) := by decide +kernel
theorem dJ7_checkLength_df160_1 : decode cJ7_checkLength_df160 1 = .ok (.iload_n 0, 1) := by decide +kernel
theorem dJ7_checkLength_df160_2 : decode cJ7_checkLength_df160 2 = .ok (.if_icmp .ge 35, 3) := by decide +kernel
theorem dJ7_checkLength_df160_5 : decode cJ7_checkLength_df160 5 = .ok (.new 43, 3) := by decide +kernel
theorem dJ7_checkLength_df160_8 : decode cJ7_checkLength_df160 8 = .ok (.dup, 1) := by decide +kernel
theorem dJ7_checkLength_df160_9 : decode cJ7_checkLength_df160 9 = .ok (.new 45, 3) := by decide +kernel
theorem dJ7_checkLength_df160_12 : decode cJ7_checkLength_df160 12 = .ok (.dup, 1) := by decide +kernel
theorem dJ7_checkLength_df160_13 : decode cJ7_checkLength_df160 13 = .ok (.invokespecial 47, 3) := by decide +kernel
theorem dJ7_checkLength_df160_16 : decode cJ7_checkLength_df160 16 = .ok (.iload_n 0, 1) := by decide +kernel
theorem dJ7_checkLength_df160_17 : decode cJ7_checkLength_df160 17 = .ok (.invokevirtual 54, 3) := by decide +kernel
theorem dJ7_checkLength_df160_20 : decode cJ7_checkLength_df160 20 = .ok (.ldc_w 337, 3) := by decide +kernel
theorem dJ7_checkLength_df160_23 : decode cJ7_checkLength_df160 23 = .ok (.invokevirtual 50, 3) := by decide +kernel
theorem dJ7_checkLength_df160_26 : decode cJ7_checkLength_df160 26 = .ok (.iload_n 1, 1) := by decide +kernel
theorem dJ7_checkLength_df160_27 : decode cJ7_checkLength_df160 27 = .ok (.invokevirtual 54, 3) := by decide +kernel
theorem dJ7_checkLength_df160_30 : decode cJ7_checkLength_df160 30 = .ok (.invokevirtual 61, 3) := by decide +kernel
theorem dJ7_checkLength_df160_33 : decode cJ7_checkLength_df160 33 = .ok (.invokespecial 65, 3) := by decide +kernel
theorem dJ7_checkLength_df160_36 : decode cJ7_checkLength_df160 36 = .ok (.athrow, 1) := by decide +kernel
theorem dJ7_checkLength_df160_37 : decode cJ7_checkLength_df160 37 = .ok (.return_, 1) := by decide +kernel
theorem dJ7_copyOfRange_39247_0 : decode cJ7_copyOfRange_39247 0 = .ok (.iload_n 1, 1) := by decide +kernel
theorem dJ7_copyOfRange_39247_1 : decode cJ7_copyOfRange_39247 1 = .ok (.ifCond .ne 9, 3) := by decide +kernel
theorem dJ7_copyOfRange_39247_4 : decode cJ7_copyOfRange_39247 4 = .ok (.iload_n 2, 1) := by decide +kernel
theorem dJ7_copyOfRange_39247_5 : decode cJ7_copyOfRange_39247 5 = .ok (.aload_n 0, 1) := by decide +kernel
theorem dJ7_copyOfRange_39247_6 : decode cJ7_copyOfRange_39247 6 = .ok (.arraylength, 1) := by decide +kernel
theorem dJ7_copyOfRange_39247_7 : decode cJ7_copyOfRange_39247 7 = .ok (.if_icmp .eq 10, 3) := by decide +kernel
theorem dJ7_copyOfRange_39247_10 : decode cJ7_copyOfRange_39247 10 = .ok (.aload_n 0, 1) := by decide +kernel
theorem dJ7_copyOfRange_39247_11 : decode cJ7_copyOfRange_39247 11 = .ok (.iload_n 1, 1) := by decide +kernel
theorem dJ7_copyOfRange_39247_12 : decode cJ7_copyOfRange_39247 12 = .ok (.iload_n 2, 1) := by decide +kernel
theorem dJ7_copyOfRange_39247_13 : decode cJ7_copyOfRange_39247 13 = .ok (.invokestatic 339, 3) := by decide +kernel
theorem dJ7_copyOfRange_39247_16 : decode cJ7_copyOfRange_39247 16 = .ok (.areturn, 1) := by decide +kernel
theorem dJ7_copyOfRange_39247_17 : decode cJ7_copyOfRange_39247 17 = .ok (.aload_n 0, 1) := by decide +kernel
theorem dJ7_copyOfRange_39247_18 : decode cJ7_copyOfRange_39247 18 = .ok (.invokevirtual 310, 3) := by decide +kernel
theorem dJ7_copyOfRange_39247_21 : decode cJ7_copyOfRange_39247 21 = .ok (.checkcast 311, 3) := by decide +kernel
theorem dJ7_copyOfRange_39247_24 : decode cJ7_copyOfRange_39247 24 = .ok (.areturn, 1) := by decide +kernel
theorem dJ7_copyOfRangeByte_39247_0 : decode cJ7_copyOfRangeByte_39247 0 = .ok (.iload_n 1, 1) := by decide +kernel
theorem dJ7_copyOfRangeByte_39247_1 : decode cJ7_copyOfRangeByte_39247 1 = .ok (.iload_n 2, 1) := by decide +kernel
theorem dJ7_copyOfRangeByte_39247_2 : decode cJ7_copyOfRangeByte_39247 2 = .ok (.invokestatic 343, 3) := by decide +kernel
theorem dJ7_copyOfRangeByte_39247_5 : decode cJ7_copyOfRangeByte_39247 5 = .ok (.iload_n 2, 1) := by decide +kernel
theorem dJ7_copyOfRangeByte_39247_6 : decode cJ7_copyOfRangeByte_39247 6 = .ok (.iload_n 1, 1) := by decide +kernel
theorem dJ7_copyOfRangeByte_39247_7 : decode cJ7_copyOfRangeByte_39247 7 = .ok (.isub, 1) := by decide +kernel
theorem dJ7_copyOfRangeByte_39247_8 : decode cJ7_copyOfRangeByte_39247 8 = .ok (.istore_n 3, 1) := by decide +kernel
theorem dJ7_copyOfRangeByte_39247_9 : decode cJ7_copyOfRangeByte_39247 9 = .ok (.iload_n 3, 1) := by decide +kernel
theorem dJ7_copyOfRangeByte_39247_10 : decode cJ7_copyOfRangeByte_39247 10 = .ok (.newarray .byte, 2) := by decide +kernel
theorem dJ7_copyOfRangeByte_39247_12 : decode cJ7_copyOfRangeByte_39247 12 = .ok (.astore 4, 2) := by decide +kernel
theorem dJ7_copyOfRangeByte_39247_14 : decode cJ7_copyOfRangeByte_39247 14 = .ok (.aload_n 0, 1) := by decide +kernel
theorem dJ7_copyOfRangeByte_39247_15 : decode cJ7_copyOfRangeByte_39247 15 = .ok (.iload_n 1, 1) := by decide +kernel
theorem dJ7_copyOfRangeByte_39247_16 : decode cJ7_copyOfRangeByte_39247 16 = .ok (.aload 4, 2) := by decide +kernel
theorem dJ7_copyOfRangeByte_39247_18 : decode cJ7_copyOfRangeByte_39247 18 = .ok (.iconst 0, 1) := by decide +kernel
theorem dJ7_copyOfRangeByte_39247_19 : decode cJ7_copyOfRangeByte_39247 19 = .ok (.aload_n 0, 1) := by decide +kernel
theorem dJ7_copyOfRangeByte_39247_20 : decode cJ7_copyOfRangeByte_39247 20 = .ok (.arraylength, 1) := by decide +kernel
theorem dJ7_copyOfRangeByte_39247_21 : decode cJ7_copyOfRangeByte_39247 21 = .ok (.iload_n 1, 1) := by decide +kernel
theorem dJ7_copyOfRangeByte_39247_22 : decode cJ7_copyOfRangeByte_39247 22 = .ok (.isub, 1) := by decide +kernel
theorem dJ7_copyOfRangeByte_39247_23 : decode cJ7_copyOfRangeByte_39247 23 = .ok (.iload_n 3, 1) := by decide +kernel
theorem dJ7_copyOfRangeByte_39247_24 : decode cJ7_copyOfRangeByte_39247 24 = .ok (.invokestatic 304, 3) := by decide +kernel
theorem dJ7_copyOfRangeByte_39247_27 : decode cJ7_copyOfRangeByte_39247 27 = .ok (.invokestatic 150, 3) := by decide +kernel
theorem dJ7_copyOfRangeByte_39247_30 : decode cJ7_copyOfRangeByte_39247 30 = .ok (.aload 4, 2) := by decide +kernel
theorem dJ7_copyOfRangeByte_39247_32 : decode cJ7_copyOfRangeByte_39247 32 = .ok (.areturn, 1) := by decide +kernel
theorem dJ8_newLength_cabcc_0 : decode cJ8_newLength_cabcc 0 = .ok (.iload_n 0, 1) := by decide +kernel
theorem dJ8_newLength_cabcc_1 : decode cJ8_newLength_cabcc 1 = .ok (.iload_n 1, 1) := by decide +kernel
theorem dJ8_newLength_cabcc_2 : decode cJ8_newLength_cabcc 2 = .ok (.iload_n 2, 1) := by decide +kernel
theorem dJ8_newLength_cabcc_3 : decode cJ8_newLength_cabcc 3 = .ok (.invokestatic 194, 3) := by decide +kernel
theorem dJ8_newLength_cabcc_6 : decode cJ8_newLength_cabcc 6 = .ok (.iadd, 1) := by decide +kernel
theorem dJ8_newLength_cabcc_7 : decode cJ8_newLength_cabcc 7 = .ok (.istore_n 3, 1) := by decide +kernel
theorem dJ8_newLength_cabcc_8 : decode cJ8_newLength_cabcc 8 = .ok (.iconst 0, 1) := by decide +kernel
theorem dJ8_newLength_cabcc_9 : decode cJ8_newLength_cabcc 9 = .ok (.iload_n 3, 1) := by decide +kernel
theorem dJ8_newLength_cabcc_10 : decode cJ8_newLength_cabcc 10 = .ok (.if_icmp .ge 11, 3) := by decide +kernel
theorem dJ8_newLength_cabcc_13 : decode cJ8_newLength_cabcc 13 = .ok (.iload_n 3, 1) := by decide +kernel
theorem dJ8_newLength_cabcc_14 : decode cJ8_newLength_cabcc 14 = .ok (.ldc 200, 2) := by decide +kernel
theorem dJ8_newLength_cabcc_16 : decode cJ8_newLength_cabcc 16 = .ok (.if_icmp .gt 5, 3) := by decide +kernel
theorem dJ8_newLength_cabcc_19 : decode cJ8_newLength_cabcc 19 = .ok (.iload_n 3, 1) := by decide +kernel
theorem dJ8_newLength_cabcc_20 : decode cJ8_newLength_cabcc 20 = .ok (.ireturn, 1) := by decide +kernel
theorem dJ8_newLength_cabcc_21 : decode cJ8_newLength_cabcc 21 = .ok (.iload_n 0, 1) := by decide +kernel
theorem dJ8_newLength_cabcc_22 : decode cJ8_newLength_cabcc 22 = .ok (.iload_n 1, 1) := by decide +kernel
theorem dJ8_newLength_cabcc_23 : decode cJ8_newLength_cabcc 23 = .ok (.invokestatic 201, 3) := by decide +kernel
theorem dJ8_newLength_cabcc_26 : decode cJ8_newLength_cabcc 26 = .ok (.ireturn, 1) := by decide +kernel
theorem dJ8_hugeLength_7cf53_0 : decode cJ8_hugeLength_7cf53 0 = .ok (.iload_n 0, 1) := by decide +kernel
theorem dJ8_hugeLength_7cf53_1 : decode cJ8_hugeLength_7cf53 1 = .ok (.iload_n 1, 1) := by decide +kernel
theorem dJ8_hugeLength_7cf53_2 : decode cJ8_hugeLength_7cf53 2 = .ok (.iadd, 1) := by decide +kernel
theorem dJ8_hugeLength_7cf53_3 : decode cJ8_hugeLength_7cf53 3 = .ok (.istore_n 2, 1) := by decide +kernel
theorem dJ8_hugeLength_7cf53_4 : decode cJ8_hugeLength_7cf53 4 = .ok (.iload_n 2, 1) := by decide +kernel
theorem dJ8_hugeLength_7cf53_5 : decode cJ8_hugeLength_7cf53 5 = .ok (.ifCond .ge 44, 3) := by decide +kernel
theorem dJ8_hugeLength_7cf53_8 : decode cJ8_hugeLength_7cf53 8 = .ok (.new 204, 3) := by decide +kernel
theorem dJ8_hugeLength_7cf53_11 : decode cJ8_hugeLength_7cf53 11 = .ok (.dup, 1) := by decide +kernel
theorem dJ8_hugeLength_7cf53_12 : decode cJ8_hugeLength_7cf53 12 = .ok (.new 89, 3) := by decide +kernel
theorem dJ8_hugeLength_7cf53_15 : decode cJ8_hugeLength_7cf53 15 = .ok (.dup, 1) := by decide +kernel
theorem dJ8_hugeLength_7cf53_16 : decode cJ8_hugeLength_7cf53 16 = .ok (.invokespecial 91, 3) := by decide +kernel
theorem dJ8_hugeLength_7cf53_19 : decode cJ8_hugeLength_7cf53 19 = .ok (.ldc 206, 2) := by decide +kernel
theorem dJ8_hugeLength_7cf53_21 : decode cJ8_hugeLength_7cf53 21 = .ok (.invokevirtual 94, 3) := by decide +kernel
theorem dJ8_hugeLength_7cf53_24 : decode cJ8_hugeLength_7cf53 24 = .ok (.iload_n 0, 1) := by decide +kernel
theorem dJ8_hugeLength_7cf53_25 : decode cJ8_hugeLength_7cf53 25 = .ok (.invokevirtual 98, 3) := by decide +kernel
theorem dJ8_hugeLength_7cf53_28 : decode cJ8_hugeLength_7cf53 28 = .ok (.ldc 208, 2) := by decide +kernel
theorem dJ8_hugeLength_7cf53_30 : decode cJ8_hugeLength_7cf53 30 = .ok (.invokevirtual 94, 3) := by decide +kernel
theorem dJ8_hugeLength_7cf53_33 : decode cJ8_hugeLength_7cf53 33 = .ok (.iload_n 1, 1) := by decide +kernel
theorem dJ8_hugeLength_7cf53_34 : decode cJ8_hugeLength_7cf53 34 = .ok (.invokevirtual 98, 3) := by decide +kernel
theorem dJ8_hugeLength_7cf53_37 : decode cJ8_hugeLength_7cf53 37 = .ok (.ldc 210, 2) := by decide +kernel
theorem dJ8_hugeLength_7cf53_39 : decode cJ8_hugeLength_7cf53 39 = .ok (.invokevirtual 94, 3) := by decide +kernel
theorem dJ8_hugeLength_7cf53_42 : decode cJ8_hugeLength_7cf53 42 = .ok (.invokevirtual 101, 3) := by decide +kernel
theorem dJ8_hugeLength_7cf53_45 : decode cJ8_hugeLength_7cf53 45 = .ok (.invokespecial 212, 3) := by decide +kernel
theorem dJ8_hugeLength_7cf53_48 : decode cJ8_hugeLength_7cf53 48 = .ok (.athrow, 1) := by decide +kernel
theorem dJ8_hugeLength_7cf53_49 : decode cJ8_hugeLength_7cf53 49 = .ok (.iload_n 2, 1) := by decide +kernel
theorem dJ8_hugeLength_7cf53_50 : decode cJ8_hugeLength_7cf53 50 = .ok (.ldc 200, 2) := by decide +kernel
theorem dJ8_hugeLength_7cf53_52 : decode cJ8_hugeLength_7cf53 52 = .ok (.if_icmp .gt 6, 3) := by decide +kernel
theorem dJ8_hugeLength_7cf53_55 : decode cJ8_hugeLength_7cf53 55 = .ok (.ldc 200, 2) := by decide +kernel
theorem dJ8_hugeLength_7cf53_57 : decode cJ8_hugeLength_7cf53 57 = .ok (.ireturn, 1) := by decide +kernel
theorem dJ8_hugeLength_7cf53_58 : decode cJ8_hugeLength_7cf53 58 = .ok (.iload_n 2, 1) := by decide +kernel
theorem dJ8_hugeLength_7cf53_59 : decode cJ8_hugeLength_7cf53 59 = .ok (.ireturn, 1) := by decide +kernel
theorem dJ3_checkIndex_8e157_0 : decode cJ3_checkIndex_8e157 0 = .ok (.iload_n 0, 1) := by decide +kernel
theorem dJ3_checkIndex_8e157_1 : decode cJ3_checkIndex_8e157 1 = .ok (.ifCond .lt 8, 3) := by decide +kernel
theorem dJ3_checkIndex_8e157_4 : decode cJ3_checkIndex_8e157 4 = .ok (.iload_n 0, 1) := by decide +kernel
theorem dJ3_checkIndex_8e157_5 : decode cJ3_checkIndex_8e157 5 = .ok (.iload_n 1, 1) := by decide +kernel
theorem dJ3_checkIndex_8e157_6 : decode cJ3_checkIndex_8e157 6 = .ok (.if_icmp .lt 10, 3) := by decide +kernel
theorem dJ3_checkIndex_8e157_9 : decode cJ3_checkIndex_8e157 9 = .ok (.aload_n 2, 1) := by decide +kernel
theorem dJ3_checkIndex_8e157_10 : decode cJ3_checkIndex_8e157 10 = .ok (.iload_n 0, 1) := by decide +kernel
theorem dJ3_checkIndex_8e157_11 : decode cJ3_checkIndex_8e157 11 = .ok (.iload_n 1, 1) := by decide +kernel
theorem dJ3_checkIndex_8e157_12 : decode cJ3_checkIndex_8e157 12 = .ok (.invokestatic 95, 3) := by decide +kernel
theorem dJ3_checkIndex_8e157_15 : decode cJ3_checkIndex_8e157 15 = .ok (.athrow, 1) := by decide +kernel
theorem dJ3_checkIndex_8e157_16 : decode cJ3_checkIndex_8e157 16 = .ok (.iload_n 0, 1) := by decide +kernel
theorem dJ3_checkIndex_8e157_17 : decode cJ3_checkIndex_8e157 17 = .ok (.ireturn, 1) := by decide +kernel
theorem dJ3_checkFromToIndex_8c36e_0 : decode cJ3_checkFromToIndex_8c36e 0 = .ok (.iload_n 0, 1) := by decide +kernel
theorem dJ3_checkFromToIndex_8c36e_1 : decode cJ3_checkFromToIndex_8c36e 1 = .ok (.ifCond .lt 13, 3) := by decide +kernel
theorem dJ3_checkFromToIndex_8c36e_4 : decode cJ3_checkFromToIndex_8c36e 4 = .ok (.iload_n 0, 1) := by decide +kernel
theorem dJ3_checkFromToIndex_8c36e_5 : decode cJ3_checkFromToIndex_8c36e 5 = .ok (.iload_n 1, 1) := by decide +kernel
theorem dJ3_checkFromToIndex_8c36e_6 : decode cJ3_checkFromToIndex_8c36e 6 = .ok (.if_icmp .gt 8, 3) := by decide +kernel
theorem dJ3_checkFromToIndex_8c36e_9 : decode cJ3_checkFromToIndex_8c36e 9 = .ok (.iload_n 1, 1) := by decide +kernel
theorem dJ3_checkFromToIndex_8c36e_10 : decode cJ3_checkFromToIndex_8c36e 10 = .ok (.iload_n 2, 1) := by decide +kernel
theorem dJ3_checkFromToIndex_8c36e_11 : decode cJ3_checkFromToIndex_8c36e 11 = .ok (.if_icmp .le 11, 3) := by decide +kernel
theorem dJ3_checkFromToIndex_8c36e_14 : decode cJ3_checkFromToIndex_8c36e 14 = .ok (.aload_n 3, 1) := by decide +kernel
theorem dJ3_checkFromToIndex_8c36e_15 : decode cJ3_checkFromToIndex_8c36e 15 = .ok (.iload_n 0, 1) := by decide +kernel
theorem dJ3_checkFromToIndex_8c36e_16 : decode cJ3_checkFromToIndex_8c36e 16 = .ok (.iload_n 1, 1) := by decide +kernel
theorem dJ3_checkFromToIndex_8c36e_17 : decode cJ3_checkFromToIndex_8c36e 17 = .ok (.iload_n 2, 1) := by decide +kernel
theorem dJ3_checkFromToIndex_8c36e_18 : decode cJ3_checkFromToIndex_8c36e 18 = .ok (.invokestatic 99, 3) := by decide +kernel
theorem dJ3_checkFromToIndex_8c36e_21 : decode cJ3_checkFromToIndex_8c36e 21 = .ok (.athrow, 1) := by decide +kernel
theorem dJ3_checkFromToIndex_8c36e_22 : decode cJ3_checkFromToIndex_8c36e 22 = .ok (.iload_n 0, 1) := by decide +kernel
theorem dJ3_checkFromToIndex_8c36e_23 : decode cJ3_checkFromToIndex_8c36e 23 = .ok (.ireturn, 1) := by decide +kernel
theorem dJ3_checkFromIndexSize_8c36e_0 : decode cJ3_checkFromIndexSize_8c36e 0 = .ok (.iload_n 2, 1) := by decide +kernel
theorem dJ3_checkFromIndexSize_8c36e_1 : decode cJ3_checkFromIndexSize_8c36e 1 = .ok (.iload_n 0, 1) := by decide +kernel
theorem dJ3_checkFromIndexSize_8c36e_2 : decode cJ3_checkFromIndexSize_8c36e 2 = .ok (.ior, 1) := by decide +kernel
theorem dJ3_checkFromIndexSize_8c36e_3 : decode cJ3_checkFromIndexSize_8c36e 3 = .ok (.iload_n 1, 1) := by decide +kernel
theorem dJ3_checkFromIndexSize_8c36e_4 : decode cJ3_checkFromIndexSize_8c36e 4 = .ok (.ior, 1) := by decide +kernel
theorem dJ3_checkFromIndexSize_8c36e_5 : decode cJ3_checkFromIndexSize_8c36e 5 = .ok (.ifCond .lt 10, 3) := by decide +kernel
theorem dJ3_checkFromIndexSize_8c36e_8 : decode cJ3_checkFromIndexSize_8c36e 8 = .ok (.iload_n 1, 1) := by decide +kernel
theorem dJ3_checkFromIndexSize_8c36e_9 : decode cJ3_checkFromIndexSize_8c36e 9 = .ok (.iload_n 2, 1) := by decide +kernel
theorem dJ3_checkFromIndexSize_8c36e_10 : decode cJ3_checkFromIndexSize_8c36e 10 = .ok (.iload_n 0, 1) := by decide +kernel
theorem dJ3_checkFromIndexSize_8c36e_11 : decode cJ3_checkFromIndexSize_8c36e 11 = .ok (.isub, 1) := by decide +kernel
theorem dJ3_checkFromIndexSize_8c36e_12 : decode cJ3_checkFromIndexSize_8c36e 12 = .ok (.if_icmp .le 11, 3) := by decide +kernel
theorem dJ3_checkFromIndexSize_8c36e_15 : decode cJ3_checkFromIndexSize_8c36e 15 = .ok (.aload_n 3, 1) := by decide +kernel
theorem dJ3_checkFromIndexSize_8c36e_16 : decode cJ3_checkFromIndexSize_8c36e 16 = .ok (.iload_n 0, 1) := by decide +kernel
theorem dJ3_checkFromIndexSize_8c36e_17 : decode cJ3_checkFromIndexSize_8c36e 17 = .ok (.iload_n 1, 1) := by decide +kernel
theorem dJ3_checkFromIndexSize_8c36e_18 : decode cJ3_checkFromIndexSize_8c36e 18 = .ok (.iload_n 2, 1) := by decide +kernel
theorem dJ3_checkFromIndexSize_8c36e_19 : decode cJ3_checkFromIndexSize_8c36e 19 = .ok (.invokestatic 103, 3) := by decide +kernel
theorem dJ3_checkFromIndexSize_8c36e_22 : decode cJ3_checkFromIndexSize_8c36e 22 = .ok (.athrow, 1) := by decide +kernel
theorem dJ3_checkFromIndexSize_8c36e_23 : decode cJ3_checkFromIndexSize_8c36e 23 = .ok (.iload_n 0, 1) := by decide +kernel
theorem dJ3_checkFromIndexSize_8c36e_24 : decode cJ3_checkFromIndexSize_8c36e 24 = .ok (.ireturn, 1) := by decide +kernel
