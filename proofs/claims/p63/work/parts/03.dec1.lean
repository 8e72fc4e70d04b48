theorem dX0_init_0 : decode cX0_init 0 = .ok (.aload_n 0, 1) := by decide +kernel
theorem dX0_init_1 : decode cX0_init 1 = .ok (.invokespecial 3, 3) := by decide +kernel
theorem dX0_init_4 : decode cX0_init 4 = .ok (.aload_n 0, 1) := by decide +kernel
theorem dX0_init_5 : decode cX0_init 5 = .ok (.bipush 8, 2) := by decide +kernel
theorem dX0_init_7 : decode cX0_init 7 = .ok (.newarray .int, 2) := by decide +kernel
theorem dX0_init_9 : decode cX0_init 9 = .ok (.putfield 9, 3) := by decide +kernel
theorem dX0_init_12 : decode cX0_init 12 = .ok (.aload_n 0, 1) := by decide +kernel
theorem dX0_init_13 : decode cX0_init 13 = .ok (.bipush 8, 2) := by decide +kernel
theorem dX0_init_15 : decode cX0_init 15 = .ok (.newarray .int, 2) := by decide +kernel
theorem dX0_init_17 : decode cX0_init 17 = .ok (.putfield 15, 3) := by decide +kernel
theorem dX0_init_20 : decode cX0_init 20 = .ok (.aload_n 0, 1) := by decide +kernel
theorem dX0_init_21 : decode cX0_init 21 = .ok (.aload_n 1, 1) := by decide +kernel
theorem dX0_init_22 : decode cX0_init 22 = .ok (.putfield 18, 3) := by decide +kernel
theorem dX0_init_25 : decode cX0_init 25 = .ok (.aload_n 0, 1) := by decide +kernel
theorem dX0_init_26 : decode cX0_init 26 = .ok (.aload_n 1, 1) := by decide +kernel
theorem dX0_init_27 : decode cX0_init 27 = .ok (.putfield 22, 3) := by decide +kernel
theorem dX0_init_30 : decode cX0_init 30 = .ok (.return_, 1) := by decide +kernel
theorem dX0_topOf_0 : decode cX0_topOf 0 = .ok (.aload_n 0, 1) := by decide +kernel
theorem dX0_topOf_1 : decode cX0_topOf 1 = .ok (.getfield 9, 3) := by decide +kernel
theorem dX0_topOf_4 : decode cX0_topOf 4 = .ok (.iload_n 1, 1) := by decide +kernel
theorem dX0_topOf_5 : decode cX0_topOf 5 = .ok (.invokestatic 25, 3) := by decide +kernel
theorem dX0_topOf_8 : decode cX0_topOf 8 = .ok (.ireturn, 1) := by decide +kernel
theorem dX0_bottomOf_0 : decode cX0_bottomOf 0 = .ok (.aload_n 0, 1) := by decide +kernel
theorem dX0_bottomOf_1 : decode cX0_bottomOf 1 = .ok (.getfield 15, 3) := by decide +kernel
theorem dX0_bottomOf_4 : decode cX0_bottomOf 4 = .ok (.iload_n 1, 1) := by decide +kernel
theorem dX0_bottomOf_5 : decode cX0_bottomOf 5 = .ok (.invokestatic 25, 3) := by decide +kernel
theorem dX0_bottomOf_8 : decode cX0_bottomOf 8 = .ok (.ireturn, 1) := by decide +kernel
theorem dX0_firstReason_0 : decode cX0_firstReason 0 = .ok (.aload_n 0, 1) := by decide +kernel
theorem dX0_firstReason_1 : decode cX0_firstReason 1 = .ok (.getfield 18, 3) := by decide +kernel
theorem dX0_firstReason_4 : decode cX0_firstReason 4 = .ok (.getfield 29, 3) := by decide +kernel
theorem dX0_firstReason_7 : decode cX0_firstReason 7 = .ok (.ifCond .ne 13, 3) := by decide +kernel
theorem dX0_firstReason_10 : decode cX0_firstReason 10 = .ok (.aload_n 0, 1) := by decide +kernel
theorem dX0_firstReason_11 : decode cX0_firstReason 11 = .ok (.getfield 22, 3) := by decide +kernel
theorem dX0_firstReason_14 : decode cX0_firstReason 14 = .ok (.getfield 29, 3) := by decide +kernel
theorem dX0_firstReason_17 : decode cX0_firstReason 17 = .ok (.ifCond .eq 5, 3) := by decide +kernel
theorem dX0_firstReason_20 : decode cX0_firstReason 20 = .ok (.iconst 1, 1) := by decide +kernel
theorem dX0_firstReason_21 : decode cX0_firstReason 21 = .ok (.ireturn, 1) := by decide +kernel
theorem dX0_firstReason_22 : decode cX0_firstReason 22 = .ok (.aload_n 0, 1) := by decide +kernel
theorem dX0_firstReason_23 : decode cX0_firstReason 23 = .ok (.getfield 9, 3) := by decide +kernel
theorem dX0_firstReason_26 : decode cX0_firstReason 26 = .ok (.aload_n 0, 1) := by decide +kernel
theorem dX0_firstReason_27 : decode cX0_firstReason 27 = .ok (.getfield 18, 3) := by decide +kernel
theorem dX0_firstReason_30 : decode cX0_firstReason 30 = .ok (.getfield 35, 3) := by decide +kernel
theorem dX0_firstReason_33 : decode cX0_firstReason 33 = .ok (.aload_n 0, 1) := by decide +kernel
theorem dX0_firstReason_34 : decode cX0_firstReason 34 = .ok (.getfield 22, 3) := by decide +kernel
theorem dX0_firstReason_37 : decode cX0_firstReason 37 = .ok (.getfield 35, 3) := by decide +kernel
theorem dX0_firstReason_40 : decode cX0_firstReason 40 = .ok (.invokestatic 39, 3) := by decide +kernel
theorem dX0_firstReason_43 : decode cX0_firstReason 43 = .ok (.ifCond .ne 5, 3) := by decide +kernel
theorem dX0_firstReason_46 : decode cX0_firstReason 46 = .ok (.iconst 2, 1) := by decide +kernel
theorem dX0_firstReason_47 : decode cX0_firstReason 47 = .ok (.ireturn, 1) := by decide +kernel
theorem dX0_firstReason_48 : decode cX0_firstReason 48 = .ok (.aload_n 0, 1) := by decide +kernel
theorem dX0_firstReason_49 : decode cX0_firstReason 49 = .ok (.getfield 15, 3) := by decide +kernel
theorem dX0_firstReason_52 : decode cX0_firstReason 52 = .ok (.aload_n 0, 1) := by decide +kernel
theorem dX0_firstReason_53 : decode cX0_firstReason 53 = .ok (.getfield 18, 3) := by decide +kernel
theorem dX0_firstReason_56 : decode cX0_firstReason 56 = .ok (.getfield 43, 3) := by decide +kernel
theorem dX0_firstReason_59 : decode cX0_firstReason 59 = .ok (.aload_n 0, 1) := by decide +kernel
theorem dX0_firstReason_60 : decode cX0_firstReason 60 = .ok (.getfield 22, 3) := by decide +kernel
theorem dX0_firstReason_63 : decode cX0_firstReason 63 = .ok (.getfield 43, 3) := by decide +kernel
theorem dX0_firstReason_66 : decode cX0_firstReason 66 = .ok (.invokestatic 39, 3) := by decide +kernel
theorem dX0_firstReason_69 : decode cX0_firstReason 69 = .ok (.ifCond .ne 5, 3) := by decide +kernel
theorem dX0_firstReason_72 : decode cX0_firstReason 72 = .ok (.iconst 3, 1) := by decide +kernel
theorem dX0_firstReason_73 : decode cX0_firstReason 73 = .ok (.ireturn, 1) := by decide +kernel
theorem dX0_firstReason_74 : decode cX0_firstReason 74 = .ok (.aload_n 0, 1) := by decide +kernel
theorem dX0_firstReason_75 : decode cX0_firstReason 75 = .ok (.invokevirtual 46, 3) := by decide +kernel
theorem dX0_firstReason_78 : decode cX0_firstReason 78 = .ok (.ifCond .ne 5, 3) := by decide +kernel
theorem dX0_firstReason_81 : decode cX0_firstReason 81 = .ok (.iconst 4, 1) := by decide +kernel
theorem dX0_firstReason_82 : decode cX0_firstReason 82 = .ok (.ireturn, 1) := by decide +kernel
theorem dX0_firstReason_83 : decode cX0_firstReason 83 = .ok (.aload_n 0, 1) := by decide +kernel
theorem dX0_firstReason_84 : decode cX0_firstReason 84 = .ok (.invokevirtual 50, 3) := by decide +kernel
theorem dX0_firstReason_87 : decode cX0_firstReason 87 = .ok (.ifCond .eq 7, 3) := by decide +kernel
theorem dX0_firstReason_90 : decode cX0_firstReason 90 = .ok (.iconst 0, 1) := by decide +kernel
theorem dX0_firstReason_91 : decode cX0_firstReason 91 = .ok (.goto 4, 3) := by decide +kernel
theorem dX0_firstReason_94 : decode cX0_firstReason 94 = .ok (.iconst 5, 1) := by decide +kernel
theorem dX0_firstReason_95 : decode cX0_firstReason 95 = .ok (.ireturn, 1) := by decide +kernel
theorem dX0_keepsProducts_0 : decode cX0_keepsProducts 0 = .ok (.iconst 0, 1) := by decide +kernel
theorem dX0_keepsProducts_1 : decode cX0_keepsProducts 1 = .ok (.istore_n 3, 1) := by decide +kernel
theorem dX0_keepsProducts_2 : decode cX0_keepsProducts 2 = .ok (.iload_n 3, 1) := by decide +kernel
theorem dX0_keepsProducts_3 : decode cX0_keepsProducts 3 = .ok (.aload_n 1, 1) := by decide +kernel
theorem dX0_keepsProducts_4 : decode cX0_keepsProducts 4 = .ok (.getfield 53, 3) := by decide +kernel
theorem dX0_keepsProducts_7 : decode cX0_keepsProducts 7 = .ok (.if_icmp .ge 58, 3) := by decide +kernel
theorem dX0_keepsProducts_10 : decode cX0_keepsProducts 10 = .ok (.iconst 0, 1) := by decide +kernel
theorem dX0_keepsProducts_11 : decode cX0_keepsProducts 11 = .ok (.istore 4, 2) := by decide +kernel
theorem dX0_keepsProducts_13 : decode cX0_keepsProducts 13 = .ok (.iload 4, 2) := by decide +kernel
theorem dX0_keepsProducts_15 : decode cX0_keepsProducts 15 = .ok (.aload_n 1, 1) := by decide +kernel
theorem dX0_keepsProducts_16 : decode cX0_keepsProducts 16 = .ok (.getfield 53, 3) := by decide +kernel
theorem dX0_keepsProducts_19 : decode cX0_keepsProducts 19 = .ok (.if_icmp .ge 40, 3) := by decide +kernel
theorem dX0_keepsProducts_22 : decode cX0_keepsProducts 22 = .ok (.aload_n 0, 1) := by decide +kernel
theorem dX0_keepsProducts_23 : decode cX0_keepsProducts 23 = .ok (.aload_n 1, 1) := by decide +kernel
theorem dX0_keepsProducts_24 : decode cX0_keepsProducts 24 = .ok (.iload_n 3, 1) := by decide +kernel
theorem dX0_keepsProducts_25 : decode cX0_keepsProducts 25 = .ok (.iload 4, 2) := by decide +kernel
theorem dX0_keepsProducts_27 : decode cX0_keepsProducts 27 = .ok (.invokevirtual 58, 3) := by decide +kernel
theorem dX0_keepsProducts_30 : decode cX0_keepsProducts 30 = .ok (.invokestatic 25, 3) := by decide +kernel
theorem dX0_keepsProducts_33 : decode cX0_keepsProducts 33 = .ok (.aload_n 2, 1) := by decide +kernel
theorem dX0_keepsProducts_34 : decode cX0_keepsProducts 34 = .ok (.aload_n 0, 1) := by decide +kernel
theorem dX0_keepsProducts_35 : decode cX0_keepsProducts 35 = .ok (.iload_n 3, 1) := by decide +kernel
theorem dX0_keepsProducts_36 : decode cX0_keepsProducts 36 = .ok (.invokestatic 25, 3) := by decide +kernel
theorem dX0_keepsProducts_39 : decode cX0_keepsProducts 39 = .ok (.aload_n 0, 1) := by decide +kernel
theorem dX0_keepsProducts_40 : decode cX0_keepsProducts 40 = .ok (.iload 4, 2) := by decide +kernel
theorem dX0_keepsProducts_42 : decode cX0_keepsProducts 42 = .ok (.invokestatic 25, 3) := by decide +kernel
theorem dX0_keepsProducts_45 : decode cX0_keepsProducts 45 = .ok (.invokevirtual 58, 3) := by decide +kernel
theorem dX0_keepsProducts_48 : decode cX0_keepsProducts 48 = .ok (.if_icmp .eq 5, 3) := by decide +kernel
theorem dX0_keepsProducts_51 : decode cX0_keepsProducts 51 = .ok (.iconst 0, 1) := by decide +kernel
theorem dX0_keepsProducts_52 : decode cX0_keepsProducts 52 = .ok (.ireturn, 1) := by decide +kernel
theorem dX0_keepsProducts_53 : decode cX0_keepsProducts 53 = .ok (.iinc 4 1, 3) := by decide +kernel
theorem dX0_keepsProducts_56 : decode cX0_keepsProducts 56 = .ok (.goto (-43), 3) := by decide +kernel
theorem dX0_keepsProducts_59 : decode cX0_keepsProducts 59 = .ok (.iinc 3 1, 3) := by decide +kernel
theorem dX0_keepsProducts_62 : decode cX0_keepsProducts 62 = .ok (.goto (-60), 3) := by decide +kernel
theorem dX0_keepsProducts_65 : decode cX0_keepsProducts 65 = .ok (.iconst 1, 1) := by decide +kernel
theorem dX0_keepsProducts_66 : decode cX0_keepsProducts 66 = .ok (.ireturn, 1) := by decide +kernel
theorem dX0_keepsBoundaries_0 : decode cX0_keepsBoundaries 0 = .ok (.iconst 0, 1) := by decide +kernel
theorem dX0_keepsBoundaries_1 : decode cX0_keepsBoundaries 1 = .ok (.istore_n 1, 1) := by decide +kernel
theorem dX0_keepsBoundaries_2 : decode cX0_keepsBoundaries 2 = .ok (.iload_n 1, 1) := by decide +kernel
theorem dX0_keepsBoundaries_3 : decode cX0_keepsBoundaries 3 = .ok (.aload_n 0, 1) := by decide +kernel
theorem dX0_keepsBoundaries_4 : decode cX0_keepsBoundaries 4 = .ok (.getfield 18, 3) := by decide +kernel
theorem dX0_keepsBoundaries_7 : decode cX0_keepsBoundaries 7 = .ok (.getfield 35, 3) := by decide +kernel
theorem dX0_keepsBoundaries_10 : decode cX0_keepsBoundaries 10 = .ok (.getfield 53, 3) := by decide +kernel
theorem dX0_keepsBoundaries_13 : decode cX0_keepsBoundaries 13 = .ok (.if_icmp .ge 38, 3) := by decide +kernel
theorem dX0_keepsBoundaries_16 : decode cX0_keepsBoundaries 16 = .ok (.aload_n 0, 1) := by decide +kernel
theorem dX0_keepsBoundaries_17 : decode cX0_keepsBoundaries 17 = .ok (.getfield 22, 3) := by decide +kernel
theorem dX0_keepsBoundaries_20 : decode cX0_keepsBoundaries 20 = .ok (.aload_n 0, 1) := by decide +kernel
theorem dX0_keepsBoundaries_21 : decode cX0_keepsBoundaries 21 = .ok (.iload_n 1, 1) := by decide +kernel
theorem dX0_keepsBoundaries_22 : decode cX0_keepsBoundaries 22 = .ok (.invokevirtual 62, 3) := by decide +kernel
theorem dX0_keepsBoundaries_25 : decode cX0_keepsBoundaries 25 = .ok (.invokevirtual 66, 3) := by decide +kernel
theorem dX0_keepsBoundaries_28 : decode cX0_keepsBoundaries 28 = .ok (.aload_n 0, 1) := by decide +kernel
theorem dX0_keepsBoundaries_29 : decode cX0_keepsBoundaries 29 = .ok (.aload_n 0, 1) := by decide +kernel
theorem dX0_keepsBoundaries_30 : decode cX0_keepsBoundaries 30 = .ok (.getfield 18, 3) := by decide +kernel
theorem dX0_keepsBoundaries_33 : decode cX0_keepsBoundaries 33 = .ok (.iload_n 1, 1) := by decide +kernel
theorem dX0_keepsBoundaries_34 : decode cX0_keepsBoundaries 34 = .ok (.invokevirtual 66, 3) := by decide +kernel
theorem dX0_keepsBoundaries_37 : decode cX0_keepsBoundaries 37 = .ok (.invokevirtual 69, 3) := by decide +kernel
theorem dX0_keepsBoundaries_40 : decode cX0_keepsBoundaries 40 = .ok (.if_icmp .eq 5, 3) := by decide +kernel
theorem dX0_keepsBoundaries_43 : decode cX0_keepsBoundaries 43 = .ok (.iconst 0, 1) := by decide +kernel
theorem dX0_keepsBoundaries_44 : decode cX0_keepsBoundaries 44 = .ok (.ireturn, 1) := by decide +kernel
theorem dX0_keepsBoundaries_45 : decode cX0_keepsBoundaries 45 = .ok (.iinc 1 1, 3) := by decide +kernel
theorem dX0_keepsBoundaries_48 : decode cX0_keepsBoundaries 48 = .ok (.goto (-46), 3) := by decide +kernel
theorem dX0_keepsBoundaries_51 : decode cX0_keepsBoundaries 51 = .ok (.iconst 1, 1) := by decide +kernel
theorem dX0_keepsBoundaries_52 : decode cX0_keepsBoundaries 52 = .ok (.ireturn, 1) := by decide +kernel
theorem dX0_keepsActions_0 : decode cX0_keepsActions 0 = .ok (.iconst 0, 1) := by decide +kernel
theorem dX0_keepsActions_1 : decode cX0_keepsActions 1 = .ok (.istore_n 1, 1) := by decide +kernel
theorem dX0_keepsActions_2 : decode cX0_keepsActions 2 = .ok (.iload_n 1, 1) := by decide +kernel
theorem dX0_keepsActions_3 : decode cX0_keepsActions 3 = .ok (.aload_n 0, 1) := by decide +kernel
theorem dX0_keepsActions_4 : decode cX0_keepsActions 4 = .ok (.getfield 18, 3) := by decide +kernel
theorem dX0_keepsActions_7 : decode cX0_keepsActions 7 = .ok (.getfield 43, 3) := by decide +kernel
theorem dX0_keepsActions_10 : decode cX0_keepsActions 10 = .ok (.getfield 53, 3) := by decide +kernel
theorem dX0_keepsActions_13 : decode cX0_keepsActions 13 = .ok (.if_icmp .ge 66, 3) := by decide +kernel
theorem dX0_keepsActions_16 : decode cX0_keepsActions 16 = .ok (.iconst 0, 1) := by decide +kernel
theorem dX0_keepsActions_17 : decode cX0_keepsActions 17 = .ok (.istore_n 2, 1) := by decide +kernel
theorem dX0_keepsActions_18 : decode cX0_keepsActions 18 = .ok (.iload_n 2, 1) := by decide +kernel
theorem dX0_keepsActions_19 : decode cX0_keepsActions 19 = .ok (.aload_n 0, 1) := by decide +kernel
theorem dX0_keepsActions_20 : decode cX0_keepsActions 20 = .ok (.getfield 18, 3) := by decide +kernel
theorem dX0_keepsActions_23 : decode cX0_keepsActions 23 = .ok (.getfield 35, 3) := by decide +kernel
theorem dX0_keepsActions_26 : decode cX0_keepsActions 26 = .ok (.getfield 53, 3) := by decide +kernel
theorem dX0_keepsActions_29 : decode cX0_keepsActions 29 = .ok (.if_icmp .ge 44, 3) := by decide +kernel
theorem dX0_keepsActions_32 : decode cX0_keepsActions 32 = .ok (.aload_n 0, 1) := by decide +kernel
theorem dX0_keepsActions_33 : decode cX0_keepsActions 33 = .ok (.aload_n 0, 1) := by decide +kernel
theorem dX0_keepsActions_34 : decode cX0_keepsActions 34 = .ok (.getfield 18, 3) := by decide +kernel
theorem dX0_keepsActions_37 : decode cX0_keepsActions 37 = .ok (.iload_n 1, 1) := by decide +kernel
theorem dX0_keepsActions_38 : decode cX0_keepsActions 38 = .ok (.iload_n 2, 1) := by decide +kernel
theorem dX0_keepsActions_39 : decode cX0_keepsActions 39 = .ok (.invokevirtual 72, 3) := by decide +kernel
theorem dX0_keepsActions_42 : decode cX0_keepsActions 42 = .ok (.invokevirtual 62, 3) := by decide +kernel
theorem dX0_keepsActions_45 : decode cX0_keepsActions 45 = .ok (.aload_n 0, 1) := by decide +kernel
theorem dX0_keepsActions_46 : decode cX0_keepsActions 46 = .ok (.getfield 22, 3) := by decide +kernel
theorem dX0_keepsActions_49 : decode cX0_keepsActions 49 = .ok (.aload_n 0, 1) := by decide +kernel
theorem dX0_keepsActions_50 : decode cX0_keepsActions 50 = .ok (.iload_n 1, 1) := by decide +kernel
theorem dX0_keepsActions_51 : decode cX0_keepsActions 51 = .ok (.invokevirtual 69, 3) := by decide +kernel
theorem dX0_keepsActions_54 : decode cX0_keepsActions 54 = .ok (.aload_n 0, 1) := by decide +kernel
theorem dX0_keepsActions_55 : decode cX0_keepsActions 55 = .ok (.iload_n 2, 1) := by decide +kernel
theorem dX0_keepsActions_56 : decode cX0_keepsActions 56 = .ok (.invokevirtual 62, 3) := by decide +kernel
theorem dX0_keepsActions_59 : decode cX0_keepsActions 59 = .ok (.invokevirtual 72, 3) := by decide +kernel
theorem dX0_keepsActions_62 : decode cX0_keepsActions 62 = .ok (.if_icmp .eq 5, 3) := by decide +kernel
theorem dX0_keepsActions_65 : decode cX0_keepsActions 65 = .ok (.iconst 0, 1) := by decide +kernel
theorem dX0_keepsActions_66 : decode cX0_keepsActions 66 = .ok (.ireturn, 1) := by decide +kernel
theorem dX0_keepsActions_67 : decode cX0_keepsActions 67 = .ok (.iinc 2 1, 3) := by decide +kernel
theorem dX0_keepsActions_70 : decode cX0_keepsActions 70 = .ok (.goto (-52), 3) := by decide +kernel
theorem dX0_keepsActions_73 : decode cX0_keepsActions 73 = .ok (.iinc 1 1, 3) := by decide +kernel
theorem dX0_keepsActions_76 : decode cX0_keepsActions 76 = .ok (.goto (-74), 3) := by decide +kernel
theorem dX0_keepsActions_79 : decode cX0_keepsActions 79 = .ok (.iconst 1, 1) := by decide +kernel
theorem dX0_keepsActions_80 : decode cX0_keepsActions 80 = .ok (.ireturn, 1) := by decide +kernel
theorem dX0_joinsAlikePairs_0 : decode cX0_joinsAlikePairs 0 = .ok (.aload_n 0, 1) := by decide +kernel
theorem dX0_joinsAlikePairs_1 : decode cX0_joinsAlikePairs 1 = .ok (.invokevirtual 75, 3) := by decide +kernel
theorem dX0_joinsAlikePairs_4 : decode cX0_joinsAlikePairs 4 = .ok (.ifCond .eq 5, 3) := by decide +kernel
theorem dX0_joinsAlikePairs_7 : decode cX0_joinsAlikePairs 7 = .ok (.iconst 0, 1) := by decide +kernel
theorem dX0_joinsAlikePairs_8 : decode cX0_joinsAlikePairs 8 = .ok (.ireturn, 1) := by decide +kernel
theorem dX0_joinsAlikePairs_9 : decode cX0_joinsAlikePairs 9 = .ok (.aload_n 0, 1) := by decide +kernel
theorem dX0_joinsAlikePairs_10 : decode cX0_joinsAlikePairs 10 = .ok (.getfield 18, 3) := by decide +kernel
theorem dX0_joinsAlikePairs_13 : decode cX0_joinsAlikePairs 13 = .ok (.invokevirtual 79, 3) := by decide +kernel
theorem dX0_joinsAlikePairs_16 : decode cX0_joinsAlikePairs 16 = .ok (.istore_n 1, 1) := by decide +kernel
theorem dX0_joinsAlikePairs_17 : decode cX0_joinsAlikePairs 17 = .ok (.aload_n 0, 1) := by decide +kernel
theorem dX0_joinsAlikePairs_18 : decode cX0_joinsAlikePairs 18 = .ok (.getfield 22, 3) := by decide +kernel
theorem dX0_joinsAlikePairs_21 : decode cX0_joinsAlikePairs 21 = .ok (.invokevirtual 79, 3) := by decide +kernel
theorem dX0_joinsAlikePairs_24 : decode cX0_joinsAlikePairs 24 = .ok (.istore_n 2, 1) := by decide +kernel
theorem dX0_joinsAlikePairs_25 : decode cX0_joinsAlikePairs 25 = .ok (.iload_n 1, 1) := by decide +kernel
theorem dX0_joinsAlikePairs_26 : decode cX0_joinsAlikePairs 26 = .ok (.invokestatic 82, 3) := by decide +kernel
theorem dX0_joinsAlikePairs_29 : decode cX0_joinsAlikePairs 29 = .ok (.iload_n 2, 1) := by decide +kernel
theorem dX0_joinsAlikePairs_30 : decode cX0_joinsAlikePairs 30 = .ok (.invokestatic 82, 3) := by decide +kernel
theorem dX0_joinsAlikePairs_33 : decode cX0_joinsAlikePairs 33 = .ok (.if_icmp .ne 22, 3) := by decide +kernel
theorem dX0_joinsAlikePairs_36 : decode cX0_joinsAlikePairs 36 = .ok (.aload_n 0, 1) := by decide +kernel
theorem dX0_joinsAlikePairs_37 : decode cX0_joinsAlikePairs 37 = .ok (.iload_n 1, 1) := by decide +kernel
theorem dX0_joinsAlikePairs_38 : decode cX0_joinsAlikePairs 38 = .ok (.invokevirtual 87, 3) := by decide +kernel
theorem dX0_joinsAlikePairs_41 : decode cX0_joinsAlikePairs 41 = .ok (.ifCond .eq 14, 3) := by decide +kernel
theorem dX0_joinsAlikePairs_44 : decode cX0_joinsAlikePairs 44 = .ok (.aload_n 0, 1) := by decide +kernel
theorem dX0_joinsAlikePairs_45 : decode cX0_joinsAlikePairs 45 = .ok (.invokevirtual 91, 3) := by decide +kernel
theorem dX0_joinsAlikePairs_48 : decode cX0_joinsAlikePairs 48 = .ok (.ifCond .eq 7, 3) := by decide +kernel
theorem dX0_joinsAlikePairs_51 : decode cX0_joinsAlikePairs 51 = .ok (.iconst 1, 1) := by decide +kernel
theorem dX0_joinsAlikePairs_52 : decode cX0_joinsAlikePairs 52 = .ok (.goto 4, 3) := by decide +kernel
theorem dX0_joinsAlikePairs_55 : decode cX0_joinsAlikePairs 55 = .ok (.iconst 0, 1) := by decide +kernel
theorem dX0_joinsAlikePairs_56 : decode cX0_joinsAlikePairs 56 = .ok (.ireturn, 1) := by decide +kernel
theorem dX0_partsKernel_0 : decode cX0_partsKernel 0 = .ok (.iconst 0, 1) := by decide +kernel
theorem dX0_partsKernel_1 : decode cX0_partsKernel 1 = .ok (.istore_n 2, 1) := by decide +kernel
theorem dX0_partsKernel_2 : decode cX0_partsKernel 2 = .ok (.iconst 0, 1) := by decide +kernel
theorem dX0_partsKernel_3 : decode cX0_partsKernel 3 = .ok (.istore_n 3, 1) := by decide +kernel
theorem dX0_partsKernel_4 : decode cX0_partsKernel 4 = .ok (.iload_n 3, 1) := by decide +kernel
theorem dX0_partsKernel_5 : decode cX0_partsKernel 5 = .ok (.aload_n 0, 1) := by decide +kernel
theorem dX0_partsKernel_6 : decode cX0_partsKernel 6 = .ok (.getfield 18, 3) := by decide +kernel
theorem dX0_partsKernel_9 : decode cX0_partsKernel 9 = .ok (.getfield 35, 3) := by decide +kernel
theorem dX0_partsKernel_12 : decode cX0_partsKernel 12 = .ok (.getfield 53, 3) := by decide +kernel
theorem dX0_partsKernel_15 : decode cX0_partsKernel 15 = .ok (.if_icmp .ge 53, 3) := by decide +kernel
theorem dX0_partsKernel_18 : decode cX0_partsKernel 18 = .ok (.iload_n 1, 1) := by decide +kernel
theorem dX0_partsKernel_19 : decode cX0_partsKernel 19 = .ok (.iload_n 3, 1) := by decide +kernel
theorem dX0_partsKernel_20 : decode cX0_partsKernel 20 = .ok (.invokestatic 94, 3) := by decide +kernel
theorem dX0_partsKernel_23 : decode cX0_partsKernel 23 = .ok (.ifCond .eq 17, 3) := by decide +kernel
theorem dX0_partsKernel_26 : decode cX0_partsKernel 26 = .ok (.iload_n 2, 1) := by decide +kernel
theorem dX0_partsKernel_27 : decode cX0_partsKernel 27 = .ok (.aload_n 0, 1) := by decide +kernel
theorem dX0_partsKernel_28 : decode cX0_partsKernel 28 = .ok (.iload_n 3, 1) := by decide +kernel
theorem dX0_partsKernel_29 : decode cX0_partsKernel 29 = .ok (.invokevirtual 62, 3) := by decide +kernel
theorem dX0_partsKernel_32 : decode cX0_partsKernel 32 = .ok (.invokestatic 94, 3) := by decide +kernel
theorem dX0_partsKernel_35 : decode cX0_partsKernel 35 = .ok (.ifCond .eq 5, 3) := by decide +kernel
theorem dX0_partsKernel_38 : decode cX0_partsKernel 38 = .ok (.iconst 0, 1) := by decide +kernel
theorem dX0_partsKernel_39 : decode cX0_partsKernel 39 = .ok (.ireturn, 1) := by decide +kernel
theorem dX0_partsKernel_40 : decode cX0_partsKernel 40 = .ok (.iload_n 2, 1) := by decide +kernel
theorem dX0_partsKernel_41 : decode cX0_partsKernel 41 = .ok (.iload_n 1, 1) := by decide +kernel
theorem dX0_partsKernel_42 : decode cX0_partsKernel 42 = .ok (.iload_n 3, 1) := by decide +kernel
theorem dX0_partsKernel_43 : decode cX0_partsKernel 43 = .ok (.invokestatic 94, 3) := by decide +kernel
theorem dX0_partsKernel_46 : decode cX0_partsKernel 46 = .ok (.ifCond .eq 13, 3) := by decide +kernel
theorem dX0_partsKernel_49 : decode cX0_partsKernel 49 = .ok (.iconst 1, 1) := by decide +kernel
theorem dX0_partsKernel_50 : decode cX0_partsKernel 50 = .ok (.aload_n 0, 1) := by decide +kernel
theorem dX0_partsKernel_51 : decode cX0_partsKernel 51 = .ok (.iload_n 3, 1) := by decide +kernel
theorem dX0_partsKernel_52 : decode cX0_partsKernel 52 = .ok (.invokevirtual 62, 3) := by decide +kernel
theorem dX0_partsKernel_55 : decode cX0_partsKernel 55 = .ok (.ishl, 1) := by decide +kernel
theorem dX0_partsKernel_56 : decode cX0_partsKernel 56 = .ok (.goto 4, 3) := by decide +kernel
theorem dX0_partsKernel_59 : decode cX0_partsKernel 59 = .ok (.iconst 0, 1) := by decide +kernel
theorem dX0_partsKernel_60 : decode cX0_partsKernel 60 = .ok (.ior, 1) := by decide +kernel
theorem dX0_partsKernel_61 : decode cX0_partsKernel 61 = .ok (.istore_n 2, 1) := by decide +kernel
theorem dX0_partsKernel_62 : decode cX0_partsKernel 62 = .ok (.iinc 3 1, 3) := by decide +kernel
theorem dX0_partsKernel_65 : decode cX0_partsKernel 65 = .ok (.goto (-61), 3) := by decide +kernel
theorem dX0_partsKernel_68 : decode cX0_partsKernel 68 = .ok (.iconst 1, 1) := by decide +kernel
theorem dX0_partsKernel_69 : decode cX0_partsKernel 69 = .ok (.ireturn, 1) := by decide +kernel
theorem dX0_matchesClasses_0 : decode cX0_matchesClasses 0 = .ok (.aload_n 0, 1) := by decide +kernel
theorem dX0_matchesClasses_1 : decode cX0_matchesClasses 1 = .ok (.getfield 18, 3) := by decide +kernel
theorem dX0_matchesClasses_4 : decode cX0_matchesClasses 4 = .ok (.getfield 98, 3) := by decide +kernel
theorem dX0_matchesClasses_7 : decode cX0_matchesClasses 7 = .ok (.astore_n 1, 1) := by decide +kernel
theorem dX0_matchesClasses_8 : decode cX0_matchesClasses 8 = .ok (.aload_n 0, 1) := by decide +kernel
theorem dX0_matchesClasses_9 : decode cX0_matchesClasses 9 = .ok (.getfield 22, 3) := by decide +kernel
theorem dX0_matchesClasses_12 : decode cX0_matchesClasses 12 = .ok (.getfield 98, 3) := by decide +kernel
theorem dX0_matchesClasses_15 : decode cX0_matchesClasses 15 = .ok (.astore_n 2, 1) := by decide +kernel
theorem dX0_matchesClasses_16 : decode cX0_matchesClasses 16 = .ok (.aload_n 1, 1) := by decide +kernel
theorem dX0_matchesClasses_17 : decode cX0_matchesClasses 17 = .ok (.aload_n 0, 1) := by decide +kernel
theorem dX0_matchesClasses_18 : decode cX0_matchesClasses 18 = .ok (.getfield 18, 3) := by decide +kernel
theorem dX0_matchesClasses_21 : decode cX0_matchesClasses 21 = .ok (.invokevirtual 102, 3) := by decide +kernel
theorem dX0_matchesClasses_24 : decode cX0_matchesClasses 24 = .ok (.aload_n 2, 1) := by decide +kernel
theorem dX0_matchesClasses_25 : decode cX0_matchesClasses 25 = .ok (.aload_n 0, 1) := by decide +kernel
theorem dX0_matchesClasses_26 : decode cX0_matchesClasses 26 = .ok (.getfield 22, 3) := by decide +kernel
theorem dX0_matchesClasses_29 : decode cX0_matchesClasses 29 = .ok (.invokevirtual 102, 3) := by decide +kernel
theorem dX0_matchesClasses_32 : decode cX0_matchesClasses 32 = .ok (.iconst 0, 1) := by decide +kernel
theorem dX0_matchesClasses_33 : decode cX0_matchesClasses 33 = .ok (.istore_n 3, 1) := by decide +kernel
theorem dX0_matchesClasses_34 : decode cX0_matchesClasses 34 = .ok (.iload_n 3, 1) := by decide +kernel
theorem dX0_matchesClasses_35 : decode cX0_matchesClasses 35 = .ok (.aload_n 0, 1) := by decide +kernel
theorem dX0_matchesClasses_36 : decode cX0_matchesClasses 36 = .ok (.getfield 18, 3) := by decide +kernel
theorem dX0_matchesClasses_39 : decode cX0_matchesClasses 39 = .ok (.getfield 43, 3) := by decide +kernel
theorem dX0_matchesClasses_42 : decode cX0_matchesClasses 42 = .ok (.getfield 53, 3) := by decide +kernel
theorem dX0_matchesClasses_45 : decode cX0_matchesClasses 45 = .ok (.if_icmp .ge 74, 3) := by decide +kernel
theorem dX0_matchesClasses_48 : decode cX0_matchesClasses 48 = .ok (.iconst 0, 1) := by decide +kernel
theorem dX0_matchesClasses_49 : decode cX0_matchesClasses 49 = .ok (.istore 4, 2) := by decide +kernel
theorem dX0_matchesClasses_51 : decode cX0_matchesClasses 51 = .ok (.iload 4, 2) := by decide +kernel
theorem dX0_matchesClasses_53 : decode cX0_matchesClasses 53 = .ok (.iload_n 3, 1) := by decide +kernel
theorem dX0_matchesClasses_54 : decode cX0_matchesClasses 54 = .ok (.if_icmp .ge 59, 3) := by decide +kernel
theorem dX0_matchesClasses_57 : decode cX0_matchesClasses 57 = .ok (.aload_n 1, 1) := by decide +kernel
theorem dX0_matchesClasses_58 : decode cX0_matchesClasses 58 = .ok (.iload_n 3, 1) := by decide +kernel
theorem dX0_matchesClasses_59 : decode cX0_matchesClasses 59 = .ok (.invokevirtual 108, 3) := by decide +kernel
theorem dX0_matchesClasses_62 : decode cX0_matchesClasses 62 = .ok (.aload_n 1, 1) := by decide +kernel
theorem dX0_matchesClasses_63 : decode cX0_matchesClasses 63 = .ok (.iload 4, 2) := by decide +kernel
theorem dX0_matchesClasses_65 : decode cX0_matchesClasses 65 = .ok (.invokevirtual 108, 3) := by decide +kernel
theorem dX0_matchesClasses_68 : decode cX0_matchesClasses 68 = .ok (.if_icmp .eq 7, 3) := by decide +kernel
theorem dX0_matchesClasses_71 : decode cX0_matchesClasses 71 = .ok (.iconst 1, 1) := by decide +kernel
theorem dX0_matchesClasses_72 : decode cX0_matchesClasses 72 = .ok (.goto 4, 3) := by decide +kernel
theorem dX0_matchesClasses_75 : decode cX0_matchesClasses 75 = .ok (.iconst 0, 1) := by decide +kernel
theorem dX0_matchesClasses_76 : decode cX0_matchesClasses 76 = .ok (.istore 5, 2) := by decide +kernel
theorem dX0_matchesClasses_78 : decode cX0_matchesClasses 78 = .ok (.iload 5, 2) := by decide +kernel
theorem dX0_matchesClasses_80 : decode cX0_matchesClasses 80 = .ok (.ifCond .eq 27, 3) := by decide +kernel
theorem dX0_matchesClasses_83 : decode cX0_matchesClasses 83 = .ok (.aload_n 2, 1) := by decide +kernel
theorem dX0_matchesClasses_84 : decode cX0_matchesClasses 84 = .ok (.aload_n 0, 1) := by decide +kernel
theorem dX0_matchesClasses_85 : decode cX0_matchesClasses 85 = .ok (.iload_n 3, 1) := by decide +kernel
theorem dX0_matchesClasses_86 : decode cX0_matchesClasses 86 = .ok (.invokevirtual 69, 3) := by decide +kernel
theorem dX0_matchesClasses_89 : decode cX0_matchesClasses 89 = .ok (.invokevirtual 108, 3) := by decide +kernel
theorem dX0_matchesClasses_92 : decode cX0_matchesClasses 92 = .ok (.aload_n 2, 1) := by decide +kernel
theorem dX0_matchesClasses_93 : decode cX0_matchesClasses 93 = .ok (.aload_n 0, 1) := by decide +kernel
theorem dX0_matchesClasses_94 : decode cX0_matchesClasses 94 = .ok (.iload 4, 2) := by decide +kernel
theorem dX0_matchesClasses_96 : decode cX0_matchesClasses 96 = .ok (.invokevirtual 69, 3) := by decide +kernel
theorem dX0_matchesClasses_99 : decode cX0_matchesClasses 99 = .ok (.invokevirtual 108, 3) := by decide +kernel
theorem dX0_matchesClasses_102 : decode cX0_matchesClasses 102 = .ok (.if_icmp .ne 5, 3) := by decide +kernel
theorem dX0_matchesClasses_105 : decode cX0_matchesClasses 105 = .ok (.iconst 0, 1) := by decide +kernel
theorem dX0_matchesClasses_106 : decode cX0_matchesClasses 106 = .ok (.ireturn, 1) := by decide +kernel
theorem dX0_matchesClasses_107 : decode cX0_matchesClasses 107 = .ok (.iinc 4 1, 3) := by decide +kernel
theorem dX0_matchesClasses_110 : decode cX0_matchesClasses 110 = .ok (.goto (-59), 3) := by decide +kernel
theorem dX0_matchesClasses_113 : decode cX0_matchesClasses 113 = .ok (.iinc 3 1, 3) := by decide +kernel
theorem dX0_matchesClasses_116 : decode cX0_matchesClasses 116 = .ok (.goto (-82), 3) := by decide +kernel
theorem dX0_matchesClasses_119 : decode cX0_matchesClasses 119 = .ok (.aload_n 1, 1) := by decide +kernel
theorem dX0_matchesClasses_120 : decode cX0_matchesClasses 120 = .ok (.getfield 111, 3) := by decide +kernel
theorem dX0_matchesClasses_123 : decode cX0_matchesClasses 123 = .ok (.aload_n 2, 1) := by decide +kernel
theorem dX0_matchesClasses_124 : decode cX0_matchesClasses 124 = .ok (.getfield 111, 3) := by decide +kernel
theorem dX0_matchesClasses_127 : decode cX0_matchesClasses 127 = .ok (.if_icmp .ne 7, 3) := by decide +kernel
theorem dX0_matchesClasses_130 : decode cX0_matchesClasses 130 = .ok (.iconst 1, 1) := by decide +kernel
theorem dX0_matchesClasses_131 : decode cX0_matchesClasses 131 = .ok (.goto 4, 3) := by decide +kernel
theorem dX0_matchesClasses_134 : decode cX0_matchesClasses 134 = .ok (.iconst 0, 1) := by decide +kernel
theorem dX0_matchesClasses_135 : decode cX0_matchesClasses 135 = .ok (.ireturn, 1) := by decide +kernel
theorem dX1_init_0 : decode cX1_init 0 = .ok (.aload_n 0, 1) := by decide +kernel
theorem dX1_init_1 : decode cX1_init 1 = .ok (.invokespecial 3, 3) := by decide +kernel
theorem dX1_init_4 : decode cX1_init 4 = .ok (.aload_n 0, 1) := by decide +kernel
theorem dX1_init_5 : decode cX1_init 5 = .ok (.bipush 8, 2) := by decide +kernel
theorem dX1_init_7 : decode cX1_init 7 = .ok (.newarray .int, 2) := by decide +kernel
theorem dX1_init_9 : decode cX1_init 9 = .ok (.putfield 9, 3) := by decide +kernel
theorem dX1_init_12 : decode cX1_init 12 = .ok (.aload_n 0, 1) := by decide +kernel
theorem dX1_init_13 : decode cX1_init 13 = .ok (.bipush 64, 2) := by decide +kernel
theorem dX1_init_15 : decode cX1_init 15 = .ok (.newarray .int, 2) := by decide +kernel
theorem dX1_init_17 : decode cX1_init 17 = .ok (.putfield 15, 3) := by decide +kernel
theorem dX1_init_20 : decode cX1_init 20 = .ok (.aload_n 0, 1) := by decide +kernel
theorem dX1_init_21 : decode cX1_init 21 = .ok (.new 18, 3) := by decide +kernel
theorem dX1_init_24 : decode cX1_init 24 = .ok (.dup, 1) := by decide +kernel
theorem dX1_init_25 : decode cX1_init 25 = .ok (.invokespecial 20, 3) := by decide +kernel
theorem dX1_init_28 : decode cX1_init 28 = .ok (.putfield 21, 3) := by decide +kernel
theorem dX1_init_31 : decode cX1_init 31 = .ok (.aload_n 0, 1) := by decide +kernel
theorem dX1_init_32 : decode cX1_init 32 = .ok (.iload_n 1, 1) := by decide +kernel
theorem dX1_init_33 : decode cX1_init 33 = .ok (.putfield 25, 3) := by decide +kernel
theorem dX1_init_36 : decode cX1_init 36 = .ok (.aload_n 0, 1) := by decide +kernel
theorem dX1_init_37 : decode cX1_init 37 = .ok (.aload_n 2, 1) := by decide +kernel
theorem dX1_init_38 : decode cX1_init 38 = .ok (.putfield 29, 3) := by decide +kernel
theorem dX1_init_41 : decode cX1_init 41 = .ok (.aload_n 0, 1) := by decide +kernel
theorem dX1_init_42 : decode cX1_init 42 = .ok (.aload_n 2, 1) := by decide +kernel
theorem dX1_init_43 : decode cX1_init 43 = .ok (.putfield 33, 3) := by decide +kernel
theorem dX1_init_46 : decode cX1_init 46 = .ok (.return_, 1) := by decide +kernel
theorem dX1_start_0 : decode cX1_start 0 = .ok (.aload_n 0, 1) := by decide +kernel
theorem dX1_start_1 : decode cX1_start 1 = .ok (.aload_n 1, 1) := by decide +kernel
theorem dX1_start_2 : decode cX1_start 2 = .ok (.putfield 29, 3) := by decide +kernel
theorem dX1_start_5 : decode cX1_start 5 = .ok (.aload_n 0, 1) := by decide +kernel
theorem dX1_start_6 : decode cX1_start 6 = .ok (.aload_n 2, 1) := by decide +kernel
theorem dX1_start_7 : decode cX1_start 7 = .ok (.putfield 33, 3) := by decide +kernel
theorem dX1_start_10 : decode cX1_start 10 = .ok (.aload_n 0, 1) := by decide +kernel
theorem dX1_start_11 : decode cX1_start 11 = .ok (.iconst 0, 1) := by decide +kernel
theorem dX1_start_12 : decode cX1_start 12 = .ok (.putfield 36, 3) := by decide +kernel
theorem dX1_start_15 : decode cX1_start 15 = .ok (.iconst 0, 1) := by decide +kernel
theorem dX1_start_16 : decode cX1_start 16 = .ok (.istore_n 3, 1) := by decide +kernel
theorem dX1_start_17 : decode cX1_start 17 = .ok (.iload_n 3, 1) := by decide +kernel
theorem dX1_start_18 : decode cX1_start 18 = .ok (.aload_n 0, 1) := by decide +kernel
theorem dX1_start_19 : decode cX1_start 19 = .ok (.getfield 15, 3) := by decide +kernel
theorem dX1_start_22 : decode cX1_start 22 = .ok (.arraylength, 1) := by decide +kernel
theorem dX1_start_23 : decode cX1_start 23 = .ok (.if_icmp .ge 21, 3) := by decide +kernel
theorem dX1_start_26 : decode cX1_start 26 = .ok (.aload_n 0, 1) := by decide +kernel
theorem dX1_start_27 : decode cX1_start 27 = .ok (.getfield 15, 3) := by decide +kernel
theorem dX1_start_30 : decode cX1_start 30 = .ok (.iload_n 3, 1) := by decide +kernel
theorem dX1_start_31 : decode cX1_start 31 = .ok (.iload_n 3, 1) := by decide +kernel
theorem dX1_start_32 : decode cX1_start 32 = .ok (.bipush 8, 2) := by decide +kernel
theorem dX1_start_34 : decode cX1_start 34 = .ok (.invokestatic 39, 3) := by decide +kernel
theorem dX1_start_37 : decode cX1_start 37 = .ok (.iastore, 1) := by decide +kernel
theorem dX1_start_38 : decode cX1_start 38 = .ok (.iinc 3 1, 3) := by decide +kernel
theorem dX1_start_41 : decode cX1_start 41 = .ok (.goto (-24), 3) := by decide +kernel
theorem dX1_start_44 : decode cX1_start 44 = .ok (.return_, 1) := by decide +kernel
theorem dX1_boundaryOf_0 : decode cX1_boundaryOf 0 = .ok (.aload_n 0, 1) := by decide +kernel
theorem dX1_boundaryOf_1 : decode cX1_boundaryOf 1 = .ok (.getfield 9, 3) := by decide +kernel
theorem dX1_boundaryOf_4 : decode cX1_boundaryOf 4 = .ok (.iload_n 1, 1) := by decide +kernel
theorem dX1_boundaryOf_5 : decode cX1_boundaryOf 5 = .ok (.invokestatic 45, 3) := by decide +kernel
theorem dX1_boundaryOf_8 : decode cX1_boundaryOf 8 = .ok (.ireturn, 1) := by decide +kernel
theorem dX1_actionOf_0 : decode cX1_actionOf 0 = .ok (.aload_n 0, 1) := by decide +kernel
theorem dX1_actionOf_1 : decode cX1_actionOf 1 = .ok (.getfield 15, 3) := by decide +kernel
theorem dX1_actionOf_4 : decode cX1_actionOf 4 = .ok (.iload_n 1, 1) := by decide +kernel
theorem dX1_actionOf_5 : decode cX1_actionOf 5 = .ok (.bipush 8, 2) := by decide +kernel
theorem dX1_actionOf_7 : decode cX1_actionOf 7 = .ok (.imul, 1) := by decide +kernel
theorem dX1_actionOf_8 : decode cX1_actionOf 8 = .ok (.iload_n 2, 1) := by decide +kernel
theorem dX1_actionOf_9 : decode cX1_actionOf 9 = .ok (.iadd, 1) := by decide +kernel
theorem dX1_actionOf_10 : decode cX1_actionOf 10 = .ok (.invokestatic 45, 3) := by decide +kernel
theorem dX1_actionOf_13 : decode cX1_actionOf 13 = .ok (.ireturn, 1) := by decide +kernel
theorem dX1_replaceAction_0 : decode cX1_replaceAction 0 = .ok (.aload_n 0, 1) := by decide +kernel
theorem dX1_replaceAction_1 : decode cX1_replaceAction 1 = .ok (.iload_n 1, 1) := by decide +kernel
theorem dX1_replaceAction_2 : decode cX1_replaceAction 2 = .ok (.iload_n 2, 1) := by decide +kernel
theorem dX1_replaceAction_3 : decode cX1_replaceAction 3 = .ok (.invokevirtual 49, 3) := by decide +kernel
theorem dX1_replaceAction_6 : decode cX1_replaceAction 6 = .ok (.istore 4, 2) := by decide +kernel
theorem dX1_replaceAction_8 : decode cX1_replaceAction 8 = .ok (.aload_n 0, 1) := by decide +kernel
theorem dX1_replaceAction_9 : decode cX1_replaceAction 9 = .ok (.getfield 15, 3) := by decide +kernel
theorem dX1_replaceAction_12 : decode cX1_replaceAction 12 = .ok (.iload_n 1, 1) := by decide +kernel
theorem dX1_replaceAction_13 : decode cX1_replaceAction 13 = .ok (.bipush 8, 2) := by decide +kernel
theorem dX1_replaceAction_15 : decode cX1_replaceAction 15 = .ok (.imul, 1) := by decide +kernel
theorem dX1_replaceAction_16 : decode cX1_replaceAction 16 = .ok (.iload_n 2, 1) := by decide +kernel
theorem dX1_replaceAction_17 : decode cX1_replaceAction 17 = .ok (.iadd, 1) := by decide +kernel
theorem dX1_replaceAction_18 : decode cX1_replaceAction 18 = .ok (.iload_n 3, 1) := by decide +kernel
theorem dX1_replaceAction_19 : decode cX1_replaceAction 19 = .ok (.invokestatic 52, 3) := by decide +kernel
theorem dX1_replaceAction_22 : decode cX1_replaceAction 22 = .ok (.iload 4, 2) := by decide +kernel
theorem dX1_replaceAction_24 : decode cX1_replaceAction 24 = .ok (.iload_n 3, 1) := by decide +kernel
theorem dX1_replaceAction_25 : decode cX1_replaceAction 25 = .ok (.if_icmp .ne 7, 3) := by decide +kernel
theorem dX1_replaceAction_28 : decode cX1_replaceAction 28 = .ok (.iconst 0, 1) := by decide +kernel
theorem dX1_replaceAction_29 : decode cX1_replaceAction 29 = .ok (.goto 4, 3) := by decide +kernel
theorem dX1_replaceAction_32 : decode cX1_replaceAction 32 = .ok (.iconst 1, 1) := by decide +kernel
theorem dX1_replaceAction_33 : decode cX1_replaceAction 33 = .ok (.ireturn, 1) := by decide +kernel
theorem dX1_becomeRestful_0 : decode cX1_becomeRestful 0 = .ok (.iconst 0, 1) := by decide +kernel
theorem dX1_becomeRestful_1 : decode cX1_becomeRestful 1 = .ok (.istore_n 1, 1) := by decide +kernel
theorem dX1_becomeRestful_2 : decode cX1_becomeRestful 2 = .ok (.iconst 0, 1) := by decide +kernel
theorem dX1_becomeRestful_3 : decode cX1_becomeRestful 3 = .ok (.istore_n 2, 1) := by decide +kernel
theorem dX1_becomeRestful_4 : decode cX1_becomeRestful 4 = .ok (.iload_n 2, 1) := by decide +kernel
theorem dX1_becomeRestful_5 : decode cX1_becomeRestful 5 = .ok (.aload_n 0, 1) := by decide +kernel
theorem dX1_becomeRestful_6 : decode cX1_becomeRestful 6 = .ok (.getfield 33, 3) := by decide +kernel
theorem dX1_becomeRestful_9 : decode cX1_becomeRestful 9 = .ok (.getfield 56, 3) := by decide +kernel
theorem dX1_becomeRestful_12 : decode cX1_becomeRestful 12 = .ok (.if_icmp .ge 38, 3) := by decide +kernel
theorem dX1_becomeRestful_15 : decode cX1_becomeRestful 15 = .ok (.iconst 0, 1) := by decide +kernel
theorem dX1_becomeRestful_16 : decode cX1_becomeRestful 16 = .ok (.istore_n 3, 1) := by decide +kernel
theorem dX1_becomeRestful_17 : decode cX1_becomeRestful 17 = .ok (.iload_n 3, 1) := by decide +kernel
theorem dX1_becomeRestful_18 : decode cX1_becomeRestful 18 = .ok (.aload_n 0, 1) := by decide +kernel
theorem dX1_becomeRestful_19 : decode cX1_becomeRestful 19 = .ok (.getfield 29, 3) := by decide +kernel
theorem dX1_becomeRestful_22 : decode cX1_becomeRestful 22 = .ok (.getfield 56, 3) := by decide +kernel
theorem dX1_becomeRestful_25 : decode cX1_becomeRestful 25 = .ok (.if_icmp .ge 19, 3) := by decide +kernel
theorem dX1_becomeRestful_28 : decode cX1_becomeRestful 28 = .ok (.iload_n 1, 1) := by decide +kernel
theorem dX1_becomeRestful_29 : decode cX1_becomeRestful 29 = .ok (.aload_n 0, 1) := by decide +kernel
theorem dX1_becomeRestful_30 : decode cX1_becomeRestful 30 = .ok (.iload_n 2, 1) := by decide +kernel
theorem dX1_becomeRestful_31 : decode cX1_becomeRestful 31 = .ok (.iload_n 3, 1) := by decide +kernel
theorem dX1_becomeRestful_32 : decode cX1_becomeRestful 32 = .ok (.iload_n 3, 1) := by decide +kernel
theorem dX1_becomeRestful_33 : decode cX1_becomeRestful 33 = .ok (.invokevirtual 61, 3) := by decide +kernel
theorem dX1_becomeRestful_36 : decode cX1_becomeRestful 36 = .ok (.iadd, 1) := by decide +kernel
theorem dX1_becomeRestful_37 : decode cX1_becomeRestful 37 = .ok (.istore_n 1, 1) := by decide +kernel
theorem dX1_becomeRestful_38 : decode cX1_becomeRestful 38 = .ok (.iinc 3 1, 3) := by decide +kernel
theorem dX1_becomeRestful_41 : decode cX1_becomeRestful 41 = .ok (.goto (-24), 3) := by decide +kernel
theorem dX1_becomeRestful_44 : decode cX1_becomeRestful 44 = .ok (.iinc 2 1, 3) := by decide +kernel
theorem dX1_becomeRestful_47 : decode cX1_becomeRestful 47 = .ok (.goto (-43), 3) := by decide +kernel
theorem dX1_becomeRestful_50 : decode cX1_becomeRestful 50 = .ok (.iload_n 1, 1) := by decide +kernel
theorem dX1_becomeRestful_51 : decode cX1_becomeRestful 51 = .ok (.ireturn, 1) := by decide +kernel
theorem dX1_becomeConjugation_0 : decode cX1_becomeConjugation 0 = .ok (.iconst 0, 1) := by decide +kernel
theorem dX1_becomeConjugation_1 : decode cX1_becomeConjugation 1 = .ok (.istore_n 1, 1) := by decide +kernel
theorem dX1_becomeConjugation_2 : decode cX1_becomeConjugation 2 = .ok (.iconst 0, 1) := by decide +kernel
theorem dX1_becomeConjugation_3 : decode cX1_becomeConjugation 3 = .ok (.istore_n 2, 1) := by decide +kernel
theorem dX1_becomeConjugation_4 : decode cX1_becomeConjugation 4 = .ok (.iload_n 2, 1) := by decide +kernel
theorem dX1_becomeConjugation_5 : decode cX1_becomeConjugation 5 = .ok (.aload_n 0, 1) := by decide +kernel
theorem dX1_becomeConjugation_6 : decode cX1_becomeConjugation 6 = .ok (.getfield 33, 3) := by decide +kernel
theorem dX1_becomeConjugation_9 : decode cX1_becomeConjugation 9 = .ok (.getfield 56, 3) := by decide +kernel
theorem dX1_becomeConjugation_12 : decode cX1_becomeConjugation 12 = .ok (.if_icmp .ge 46, 3) := by decide +kernel
theorem dX1_becomeConjugation_15 : decode cX1_becomeConjugation 15 = .ok (.iconst 0, 1) := by decide +kernel
theorem dX1_becomeConjugation_16 : decode cX1_becomeConjugation 16 = .ok (.istore_n 3, 1) := by decide +kernel
theorem dX1_becomeConjugation_17 : decode cX1_becomeConjugation 17 = .ok (.iload_n 3, 1) := by decide +kernel
theorem dX1_becomeConjugation_18 : decode cX1_becomeConjugation 18 = .ok (.aload_n 0, 1) := by decide +kernel
theorem dX1_becomeConjugation_19 : decode cX1_becomeConjugation 19 = .ok (.getfield 29, 3) := by decide +kernel
theorem dX1_becomeConjugation_22 : decode cX1_becomeConjugation 22 = .ok (.getfield 56, 3) := by decide +kernel
theorem dX1_becomeConjugation_25 : decode cX1_becomeConjugation 25 = .ok (.if_icmp .ge 27, 3) := by decide +kernel
theorem dX1_becomeConjugation_28 : decode cX1_becomeConjugation 28 = .ok (.iload_n 1, 1) := by decide +kernel
theorem dX1_becomeConjugation_29 : decode cX1_becomeConjugation 29 = .ok (.aload_n 0, 1) := by decide +kernel
theorem dX1_becomeConjugation_30 : decode cX1_becomeConjugation 30 = .ok (.iload_n 2, 1) := by decide +kernel
theorem dX1_becomeConjugation_31 : decode cX1_becomeConjugation 31 = .ok (.iload_n 3, 1) := by decide +kernel
theorem dX1_becomeConjugation_32 : decode cX1_becomeConjugation 32 = .ok (.aload_n 0, 1) := by decide +kernel
theorem dX1_becomeConjugation_33 : decode cX1_becomeConjugation 33 = .ok (.getfield 29, 3) := by decide +kernel
theorem dX1_becomeConjugation_36 : decode cX1_becomeConjugation 36 = .ok (.iload_n 2, 1) := by decide +kernel
theorem dX1_becomeConjugation_37 : decode cX1_becomeConjugation 37 = .ok (.iload_n 3, 1) := by decide +kernel
theorem dX1_becomeConjugation_38 : decode cX1_becomeConjugation 38 = .ok (.invokevirtual 65, 3) := by decide +kernel
theorem dX1_becomeConjugation_41 : decode cX1_becomeConjugation 41 = .ok (.invokevirtual 61, 3) := by decide +kernel
theorem dX1_becomeConjugation_44 : decode cX1_becomeConjugation 44 = .ok (.iadd, 1) := by decide +kernel
theorem dX1_becomeConjugation_45 : decode cX1_becomeConjugation 45 = .ok (.istore_n 1, 1) := by decide +kernel
theorem dX1_becomeConjugation_46 : decode cX1_becomeConjugation 46 = .ok (.iinc 3 1, 3) := by decide +kernel
theorem dX1_becomeConjugation_49 : decode cX1_becomeConjugation 49 = .ok (.goto (-32), 3) := by decide +kernel
theorem dX1_becomeConjugation_52 : decode cX1_becomeConjugation 52 = .ok (.iinc 2 1, 3) := by decide +kernel
theorem dX1_becomeConjugation_55 : decode cX1_becomeConjugation 55 = .ok (.goto (-51), 3) := by decide +kernel
theorem dX1_becomeConjugation_58 : decode cX1_becomeConjugation 58 = .ok (.iload_n 1, 1) := by decide +kernel
theorem dX1_becomeConjugation_59 : decode cX1_becomeConjugation 59 = .ok (.ireturn, 1) := by decide +kernel
theorem dX1_firstReason_0 : decode cX1_firstReason 0 = .ok (.aload_n 0, 1) := by decide +kernel
theorem dX1_firstReason_1 : decode cX1_firstReason 1 = .ok (.invokevirtual 68, 3) := by decide +kernel
theorem dX1_firstReason_4 : decode cX1_firstReason 4 = .ok (.ifCond .ne 5, 3) := by decide +kernel
theorem dX1_firstReason_7 : decode cX1_firstReason 7 = .ok (.iconst 1, 1) := by decide +kernel
theorem dX1_firstReason_8 : decode cX1_firstReason 8 = .ok (.ireturn, 1) := by decide +kernel
theorem dX1_firstReason_9 : decode cX1_firstReason 9 = .ok (.iconst 0, 1) := by decide +kernel
theorem dX1_firstReason_10 : decode cX1_firstReason 10 = .ok (.istore_n 1, 1) := by decide +kernel
theorem dX1_firstReason_11 : decode cX1_firstReason 11 = .ok (.iload_n 1, 1) := by decide +kernel
theorem dX1_firstReason_12 : decode cX1_firstReason 12 = .ok (.aload_n 0, 1) := by decide +kernel
theorem dX1_firstReason_13 : decode cX1_firstReason 13 = .ok (.getfield 33, 3) := by decide +kernel
theorem dX1_firstReason_16 : decode cX1_firstReason 16 = .ok (.getfield 56, 3) := by decide +kernel
theorem dX1_firstReason_19 : decode cX1_firstReason 19 = .ok (.if_icmp .ge 19, 3) := by decide +kernel
theorem dX1_firstReason_22 : decode cX1_firstReason 22 = .ok (.aload_n 0, 1) := by decide +kernel
theorem dX1_firstReason_23 : decode cX1_firstReason 23 = .ok (.iload_n 1, 1) := by decide +kernel
theorem dX1_firstReason_24 : decode cX1_firstReason 24 = .ok (.invokevirtual 72, 3) := by decide +kernel
theorem dX1_firstReason_27 : decode cX1_firstReason 27 = .ok (.ifCond .ne 5, 3) := by decide +kernel
theorem dX1_firstReason_30 : decode cX1_firstReason 30 = .ok (.iconst 2, 1) := by decide +kernel
theorem dX1_firstReason_31 : decode cX1_firstReason 31 = .ok (.ireturn, 1) := by decide +kernel
theorem dX1_firstReason_32 : decode cX1_firstReason 32 = .ok (.iinc 1 1, 3) := by decide +kernel
theorem dX1_firstReason_35 : decode cX1_firstReason 35 = .ok (.goto (-24), 3) := by decide +kernel
theorem dX1_firstReason_38 : decode cX1_firstReason 38 = .ok (.aload_n 0, 1) := by decide +kernel
theorem dX1_firstReason_39 : decode cX1_firstReason 39 = .ok (.invokevirtual 76, 3) := by decide +kernel
theorem dX1_firstReason_42 : decode cX1_firstReason 42 = .ok (.ifCond .ne 5, 3) := by decide +kernel
theorem dX1_firstReason_45 : decode cX1_firstReason 45 = .ok (.iconst 3, 1) := by decide +kernel
theorem dX1_firstReason_46 : decode cX1_firstReason 46 = .ok (.ireturn, 1) := by decide +kernel
theorem dX1_firstReason_47 : decode cX1_firstReason 47 = .ok (.aload_n 0, 1) := by decide +kernel
theorem dX1_firstReason_48 : decode cX1_firstReason 48 = .ok (.invokevirtual 79, 3) := by decide +kernel
theorem dX1_firstReason_51 : decode cX1_firstReason 51 = .ok (.ifCond .ne 5, 3) := by decide +kernel
theorem dX1_firstReason_54 : decode cX1_firstReason 54 = .ok (.iconst 4, 1) := by decide +kernel
theorem dX1_firstReason_55 : decode cX1_firstReason 55 = .ok (.ireturn, 1) := by decide +kernel
theorem dX1_firstReason_56 : decode cX1_firstReason 56 = .ok (.aload_n 0, 1) := by decide +kernel
theorem dX1_firstReason_57 : decode cX1_firstReason 57 = .ok (.invokevirtual 82, 3) := by decide +kernel
theorem dX1_firstReason_60 : decode cX1_firstReason 60 = .ok (.ifCond .eq 7, 3) := by decide +kernel
theorem dX1_firstReason_63 : decode cX1_firstReason 63 = .ok (.iconst 0, 1) := by decide +kernel
theorem dX1_firstReason_64 : decode cX1_firstReason 64 = .ok (.goto 4, 3) := by decide +kernel
theorem dX1_firstReason_67 : decode cX1_firstReason 67 = .ok (.iconst 5, 1) := by decide +kernel
theorem dX1_firstReason_68 : decode cX1_firstReason 68 = .ok (.ireturn, 1) := by decide +kernel
theorem dX1_boundaryKeepsProducts_0 : decode cX1_boundaryKeepsProducts 0 = .ok (.iconst 0, 1) := by decide +kernel
theorem dX1_boundaryKeepsProducts_1 : decode cX1_boundaryKeepsProducts 1 = .ok (.istore_n 1, 1) := by decide +kernel
theorem dX1_boundaryKeepsProducts_2 : decode cX1_boundaryKeepsProducts 2 = .ok (.iload_n 1, 1) := by decide +kernel
theorem dX1_boundaryKeepsProducts_3 : decode cX1_boundaryKeepsProducts 3 = .ok (.aload_n 0, 1) := by decide +kernel
theorem dX1_boundaryKeepsProducts_4 : decode cX1_boundaryKeepsProducts 4 = .ok (.getfield 29, 3) := by decide +kernel
theorem dX1_boundaryKeepsProducts_7 : decode cX1_boundaryKeepsProducts 7 = .ok (.getfield 56, 3) := by decide +kernel
theorem dX1_boundaryKeepsProducts_10 : decode cX1_boundaryKeepsProducts 10 = .ok (.if_icmp .ge 63, 3) := by decide +kernel
theorem dX1_boundaryKeepsProducts_13 : decode cX1_boundaryKeepsProducts 13 = .ok (.iconst 0, 1) := by decide +kernel
theorem dX1_boundaryKeepsProducts_14 : decode cX1_boundaryKeepsProducts 14 = .ok (.istore_n 2, 1) := by decide +kernel
theorem dX1_boundaryKeepsProducts_15 : decode cX1_boundaryKeepsProducts 15 = .ok (.iload_n 2, 1) := by decide +kernel
theorem dX1_boundaryKeepsProducts_16 : decode cX1_boundaryKeepsProducts 16 = .ok (.aload_n 0, 1) := by decide +kernel
theorem dX1_boundaryKeepsProducts_17 : decode cX1_boundaryKeepsProducts 17 = .ok (.getfield 29, 3) := by decide +kernel
theorem dX1_boundaryKeepsProducts_20 : decode cX1_boundaryKeepsProducts 20 = .ok (.getfield 56, 3) := by decide +kernel
theorem dX1_boundaryKeepsProducts_23 : decode cX1_boundaryKeepsProducts 23 = .ok (.if_icmp .ge 44, 3) := by decide +kernel
theorem dX1_boundaryKeepsProducts_26 : decode cX1_boundaryKeepsProducts 26 = .ok (.aload_n 0, 1) := by decide +kernel
theorem dX1_boundaryKeepsProducts_27 : decode cX1_boundaryKeepsProducts 27 = .ok (.aload_n 0, 1) := by decide +kernel
theorem dX1_boundaryKeepsProducts_28 : decode cX1_boundaryKeepsProducts 28 = .ok (.getfield 29, 3) := by decide +kernel
theorem dX1_boundaryKeepsProducts_31 : decode cX1_boundaryKeepsProducts 31 = .ok (.iload_n 1, 1) := by decide +kernel
theorem dX1_boundaryKeepsProducts_32 : decode cX1_boundaryKeepsProducts 32 = .ok (.iload_n 2, 1) := by decide +kernel
theorem dX1_boundaryKeepsProducts_33 : decode cX1_boundaryKeepsProducts 33 = .ok (.invokevirtual 85, 3) := by decide +kernel
theorem dX1_boundaryKeepsProducts_36 : decode cX1_boundaryKeepsProducts 36 = .ok (.invokevirtual 88, 3) := by decide +kernel
theorem dX1_boundaryKeepsProducts_39 : decode cX1_boundaryKeepsProducts 39 = .ok (.aload_n 0, 1) := by decide +kernel
theorem dX1_boundaryKeepsProducts_40 : decode cX1_boundaryKeepsProducts 40 = .ok (.getfield 33, 3) := by decide +kernel
theorem dX1_boundaryKeepsProducts_43 : decode cX1_boundaryKeepsProducts 43 = .ok (.aload_n 0, 1) := by decide +kernel
theorem dX1_boundaryKeepsProducts_44 : decode cX1_boundaryKeepsProducts 44 = .ok (.iload_n 1, 1) := by decide +kernel
theorem dX1_boundaryKeepsProducts_45 : decode cX1_boundaryKeepsProducts 45 = .ok (.invokevirtual 88, 3) := by decide +kernel
theorem dX1_boundaryKeepsProducts_48 : decode cX1_boundaryKeepsProducts 48 = .ok (.aload_n 0, 1) := by decide +kernel
theorem dX1_boundaryKeepsProducts_49 : decode cX1_boundaryKeepsProducts 49 = .ok (.iload_n 2, 1) := by decide +kernel
theorem dX1_boundaryKeepsProducts_50 : decode cX1_boundaryKeepsProducts 50 = .ok (.invokevirtual 88, 3) := by decide +kernel
theorem dX1_boundaryKeepsProducts_53 : decode cX1_boundaryKeepsProducts 53 = .ok (.invokevirtual 85, 3) := by decide +kernel
theorem dX1_boundaryKeepsProducts_56 : decode cX1_boundaryKeepsProducts 56 = .ok (.if_icmp .eq 5, 3) := by decide +kernel
theorem dX1_boundaryKeepsProducts_59 : decode cX1_boundaryKeepsProducts 59 = .ok (.iconst 0, 1) := by decide +kernel
theorem dX1_boundaryKeepsProducts_60 : decode cX1_boundaryKeepsProducts 60 = .ok (.ireturn, 1) := by decide +kernel
theorem dX1_boundaryKeepsProducts_61 : decode cX1_boundaryKeepsProducts 61 = .ok (.iinc 2 1, 3) := by decide +kernel
theorem dX1_boundaryKeepsProducts_64 : decode cX1_boundaryKeepsProducts 64 = .ok (.goto (-49), 3) := by decide +kernel
theorem dX1_boundaryKeepsProducts_67 : decode cX1_boundaryKeepsProducts 67 = .ok (.iinc 1 1, 3) := by decide +kernel
theorem dX1_boundaryKeepsProducts_70 : decode cX1_boundaryKeepsProducts 70 = .ok (.goto (-68), 3) := by decide +kernel
theorem dX1_boundaryKeepsProducts_73 : decode cX1_boundaryKeepsProducts 73 = .ok (.iconst 1, 1) := by decide +kernel
theorem dX1_boundaryKeepsProducts_74 : decode cX1_boundaryKeepsProducts 74 = .ok (.ireturn, 1) := by decide +kernel
theorem dX1_isAutomorphism_0 : decode cX1_isAutomorphism 0 = .ok (.iconst 0, 1) := by decide +kernel
theorem dX1_isAutomorphism_1 : decode cX1_isAutomorphism 1 = .ok (.istore_n 2, 1) := by decide +kernel
theorem dX1_isAutomorphism_2 : decode cX1_isAutomorphism 2 = .ok (.iconst 0, 1) := by decide +kernel
theorem dX1_isAutomorphism_3 : decode cX1_isAutomorphism 3 = .ok (.istore_n 3, 1) := by decide +kernel
theorem dX1_isAutomorphism_4 : decode cX1_isAutomorphism 4 = .ok (.iload_n 3, 1) := by decide +kernel
theorem dX1_isAutomorphism_5 : decode cX1_isAutomorphism 5 = .ok (.aload_n 0, 1) := by decide +kernel
theorem dX1_isAutomorphism_6 : decode cX1_isAutomorphism 6 = .ok (.getfield 29, 3) := by decide +kernel
theorem dX1_isAutomorphism_9 : decode cX1_isAutomorphism 9 = .ok (.getfield 56, 3) := by decide +kernel
theorem dX1_isAutomorphism_12 : decode cX1_isAutomorphism 12 = .ok (.if_icmp .ge 35, 3) := by decide +kernel
theorem dX1_isAutomorphism_15 : decode cX1_isAutomorphism 15 = .ok (.iload_n 2, 1) := by decide +kernel
theorem dX1_isAutomorphism_16 : decode cX1_isAutomorphism 16 = .ok (.aload_n 0, 1) := by decide +kernel
theorem dX1_isAutomorphism_17 : decode cX1_isAutomorphism 17 = .ok (.iload_n 1, 1) := by decide +kernel
theorem dX1_isAutomorphism_18 : decode cX1_isAutomorphism 18 = .ok (.iload_n 3, 1) := by decide +kernel
theorem dX1_isAutomorphism_19 : decode cX1_isAutomorphism 19 = .ok (.invokevirtual 49, 3) := by decide +kernel
theorem dX1_isAutomorphism_22 : decode cX1_isAutomorphism 22 = .ok (.invokestatic 92, 3) := by decide +kernel
theorem dX1_isAutomorphism_25 : decode cX1_isAutomorphism 25 = .ok (.ifCond .eq 5, 3) := by decide +kernel
theorem dX1_isAutomorphism_28 : decode cX1_isAutomorphism 28 = .ok (.iconst 0, 1) := by decide +kernel
theorem dX1_isAutomorphism_29 : decode cX1_isAutomorphism 29 = .ok (.ireturn, 1) := by decide +kernel
theorem dX1_isAutomorphism_30 : decode cX1_isAutomorphism 30 = .ok (.iload_n 2, 1) := by decide +kernel
theorem dX1_isAutomorphism_31 : decode cX1_isAutomorphism 31 = .ok (.iconst 1, 1) := by decide +kernel
theorem dX1_isAutomorphism_32 : decode cX1_isAutomorphism 32 = .ok (.aload_n 0, 1) := by decide +kernel
theorem dX1_isAutomorphism_33 : decode cX1_isAutomorphism 33 = .ok (.iload_n 1, 1) := by decide +kernel
theorem dX1_isAutomorphism_34 : decode cX1_isAutomorphism 34 = .ok (.iload_n 3, 1) := by decide +kernel
theorem dX1_isAutomorphism_35 : decode cX1_isAutomorphism 35 = .ok (.invokevirtual 49, 3) := by decide +kernel
theorem dX1_isAutomorphism_38 : decode cX1_isAutomorphism 38 = .ok (.ishl, 1) := by decide +kernel
theorem dX1_isAutomorphism_39 : decode cX1_isAutomorphism 39 = .ok (.ior, 1) := by decide +kernel
theorem dX1_isAutomorphism_40 : decode cX1_isAutomorphism 40 = .ok (.istore_n 2, 1) := by decide +kernel
theorem dX1_isAutomorphism_41 : decode cX1_isAutomorphism 41 = .ok (.iinc 3 1, 3) := by decide +kernel
theorem dX1_isAutomorphism_44 : decode cX1_isAutomorphism 44 = .ok (.goto (-40), 3) := by decide +kernel
theorem dX1_isAutomorphism_47 : decode cX1_isAutomorphism 47 = .ok (.iconst 0, 1) := by decide +kernel
theorem dX1_isAutomorphism_48 : decode cX1_isAutomorphism 48 = .ok (.istore_n 3, 1) := by decide +kernel
theorem dX1_isAutomorphism_49 : decode cX1_isAutomorphism 49 = .ok (.iload_n 3, 1) := by decide +kernel
theorem dX1_isAutomorphism_50 : decode cX1_isAutomorphism 50 = .ok (.aload_n 0, 1) := by decide +kernel
theorem dX1_isAutomorphism_51 : decode cX1_isAutomorphism 51 = .ok (.getfield 29, 3) := by decide +kernel
theorem dX1_isAutomorphism_54 : decode cX1_isAutomorphism 54 = .ok (.getfield 56, 3) := by decide +kernel
theorem dX1_isAutomorphism_57 : decode cX1_isAutomorphism 57 = .ok (.if_icmp .ge 70, 3) := by decide +kernel
theorem dX1_isAutomorphism_60 : decode cX1_isAutomorphism 60 = .ok (.iconst 0, 1) := by decide +kernel
theorem dX1_isAutomorphism_61 : decode cX1_isAutomorphism 61 = .ok (.istore 4, 2) := by decide +kernel
theorem dX1_isAutomorphism_63 : decode cX1_isAutomorphism 63 = .ok (.iload 4, 2) := by decide +kernel
theorem dX1_isAutomorphism_65 : decode cX1_isAutomorphism 65 = .ok (.aload_n 0, 1) := by decide +kernel
theorem dX1_isAutomorphism_66 : decode cX1_isAutomorphism 66 = .ok (.getfield 29, 3) := by decide +kernel
theorem dX1_isAutomorphism_69 : decode cX1_isAutomorphism 69 = .ok (.getfield 56, 3) := by decide +kernel
theorem dX1_isAutomorphism_72 : decode cX1_isAutomorphism 72 = .ok (.if_icmp .ge 49, 3) := by decide +kernel
theorem dX1_isAutomorphism_75 : decode cX1_isAutomorphism 75 = .ok (.aload_n 0, 1) := by decide +kernel
theorem dX1_isAutomorphism_76 : decode cX1_isAutomorphism 76 = .ok (.iload_n 1, 1) := by decide +kernel
theorem dX1_isAutomorphism_77 : decode cX1_isAutomorphism 77 = .ok (.aload_n 0, 1) := by decide +kernel
theorem dX1_isAutomorphism_78 : decode cX1_isAutomorphism 78 = .ok (.getfield 29, 3) := by decide +kernel
theorem dX1_isAutomorphism_81 : decode cX1_isAutomorphism 81 = .ok (.iload_n 3, 1) := by decide +kernel
theorem dX1_isAutomorphism_82 : decode cX1_isAutomorphism 82 = .ok (.iload 4, 2) := by decide +kernel
theorem dX1_isAutomorphism_84 : decode cX1_isAutomorphism 84 = .ok (.invokevirtual 85, 3) := by decide +kernel
theorem dX1_isAutomorphism_87 : decode cX1_isAutomorphism 87 = .ok (.invokevirtual 49, 3) := by decide +kernel
theorem dX1_isAutomorphism_90 : decode cX1_isAutomorphism 90 = .ok (.aload_n 0, 1) := by decide +kernel
theorem dX1_isAutomorphism_91 : decode cX1_isAutomorphism 91 = .ok (.getfield 29, 3) := by decide +kernel
theorem dX1_isAutomorphism_94 : decode cX1_isAutomorphism 94 = .ok (.aload_n 0, 1) := by decide +kernel
theorem dX1_isAutomorphism_95 : decode cX1_isAutomorphism 95 = .ok (.iload_n 1, 1) := by decide +kernel
theorem dX1_isAutomorphism_96 : decode cX1_isAutomorphism 96 = .ok (.iload_n 3, 1) := by decide +kernel
theorem dX1_isAutomorphism_97 : decode cX1_isAutomorphism 97 = .ok (.invokevirtual 49, 3) := by decide +kernel
theorem dX1_isAutomorphism_100 : decode cX1_isAutomorphism 100 = .ok (.aload_n 0, 1) := by decide +kernel
theorem dX1_isAutomorphism_101 : decode cX1_isAutomorphism 101 = .ok (.iload_n 1, 1) := by decide +kernel
theorem dX1_isAutomorphism_102 : decode cX1_isAutomorphism 102 = .ok (.iload 4, 2) := by decide +kernel
theorem dX1_isAutomorphism_104 : decode cX1_isAutomorphism 104 = .ok (.invokevirtual 49, 3) := by decide +kernel
theorem dX1_isAutomorphism_107 : decode cX1_isAutomorphism 107 = .ok (.invokevirtual 85, 3) := by decide +kernel
theorem dX1_isAutomorphism_110 : decode cX1_isAutomorphism 110 = .ok (.if_icmp .eq 5, 3) := by decide +kernel
theorem dX1_isAutomorphism_113 : decode cX1_isAutomorphism 113 = .ok (.iconst 0, 1) := by decide +kernel
theorem dX1_isAutomorphism_114 : decode cX1_isAutomorphism 114 = .ok (.ireturn, 1) := by decide +kernel
theorem dX1_isAutomorphism_115 : decode cX1_isAutomorphism 115 = .ok (.iinc 4 1, 3) := by decide +kernel
theorem dX1_isAutomorphism_118 : decode cX1_isAutomorphism 118 = .ok (.goto (-55), 3) := by decide +kernel
theorem dX1_isAutomorphism_121 : decode cX1_isAutomorphism 121 = .ok (.iinc 3 1, 3) := by decide +kernel
theorem dX1_isAutomorphism_124 : decode cX1_isAutomorphism 124 = .ok (.goto (-75), 3) := by decide +kernel
theorem dX1_isAutomorphism_127 : decode cX1_isAutomorphism 127 = .ok (.iconst 1, 1) := by decide +kernel
theorem dX1_isAutomorphism_128 : decode cX1_isAutomorphism 128 = .ok (.ireturn, 1) := by decide +kernel
theorem dX1_actionKeepsProducts_0 : decode cX1_actionKeepsProducts 0 = .ok (.iconst 0, 1) := by decide +kernel
theorem dX1_actionKeepsProducts_1 : decode cX1_actionKeepsProducts 1 = .ok (.istore_n 1, 1) := by decide +kernel
theorem dX1_actionKeepsProducts_2 : decode cX1_actionKeepsProducts 2 = .ok (.iload_n 1, 1) := by decide +kernel
theorem dX1_actionKeepsProducts_3 : decode cX1_actionKeepsProducts 3 = .ok (.aload_n 0, 1) := by decide +kernel
theorem dX1_actionKeepsProducts_4 : decode cX1_actionKeepsProducts 4 = .ok (.getfield 29, 3) := by decide +kernel
theorem dX1_actionKeepsProducts_7 : decode cX1_actionKeepsProducts 7 = .ok (.getfield 56, 3) := by decide +kernel
theorem dX1_actionKeepsProducts_10 : decode cX1_actionKeepsProducts 10 = .ok (.if_icmp .ge 21, 3) := by decide +kernel
theorem dX1_actionKeepsProducts_13 : decode cX1_actionKeepsProducts 13 = .ok (.aload_n 0, 1) := by decide +kernel
theorem dX1_actionKeepsProducts_14 : decode cX1_actionKeepsProducts 14 = .ok (.iconst 0, 1) := by decide +kernel
theorem dX1_actionKeepsProducts_15 : decode cX1_actionKeepsProducts 15 = .ok (.iload_n 1, 1) := by decide +kernel
theorem dX1_actionKeepsProducts_16 : decode cX1_actionKeepsProducts 16 = .ok (.invokevirtual 49, 3) := by decide +kernel
theorem dX1_actionKeepsProducts_19 : decode cX1_actionKeepsProducts 19 = .ok (.iload_n 1, 1) := by decide +kernel
theorem dX1_actionKeepsProducts_20 : decode cX1_actionKeepsProducts 20 = .ok (.if_icmp .eq 5, 3) := by decide +kernel
theorem dX1_actionKeepsProducts_23 : decode cX1_actionKeepsProducts 23 = .ok (.iconst 0, 1) := by decide +kernel
theorem dX1_actionKeepsProducts_24 : decode cX1_actionKeepsProducts 24 = .ok (.ireturn, 1) := by decide +kernel
theorem dX1_actionKeepsProducts_25 : decode cX1_actionKeepsProducts 25 = .ok (.iinc 1 1, 3) := by decide +kernel
theorem dX1_actionKeepsProducts_28 : decode cX1_actionKeepsProducts 28 = .ok (.goto (-26), 3) := by decide +kernel
theorem dX1_actionKeepsProducts_31 : decode cX1_actionKeepsProducts 31 = .ok (.iconst 0, 1) := by decide +kernel
theorem dX1_actionKeepsProducts_32 : decode cX1_actionKeepsProducts 32 = .ok (.istore_n 1, 1) := by decide +kernel
theorem dX1_actionKeepsProducts_33 : decode cX1_actionKeepsProducts 33 = .ok (.iload_n 1, 1) := by decide +kernel
theorem dX1_actionKeepsProducts_34 : decode cX1_actionKeepsProducts 34 = .ok (.aload_n 0, 1) := by decide +kernel
theorem dX1_actionKeepsProducts_35 : decode cX1_actionKeepsProducts 35 = .ok (.getfield 33, 3) := by decide +kernel
theorem dX1_actionKeepsProducts_38 : decode cX1_actionKeepsProducts 38 = .ok (.getfield 56, 3) := by decide +kernel
theorem dX1_actionKeepsProducts_41 : decode cX1_actionKeepsProducts 41 = .ok (.if_icmp .ge 77, 3) := by decide +kernel
theorem dX1_actionKeepsProducts_44 : decode cX1_actionKeepsProducts 44 = .ok (.iconst 0, 1) := by decide +kernel
theorem dX1_actionKeepsProducts_45 : decode cX1_actionKeepsProducts 45 = .ok (.istore_n 2, 1) := by decide +kernel
theorem dX1_actionKeepsProducts_46 : decode cX1_actionKeepsProducts 46 = .ok (.iload_n 2, 1) := by decide +kernel
theorem dX1_actionKeepsProducts_47 : decode cX1_actionKeepsProducts 47 = .ok (.aload_n 0, 1) := by decide +kernel
theorem dX1_actionKeepsProducts_48 : decode cX1_actionKeepsProducts 48 = .ok (.getfield 33, 3) := by decide +kernel
theorem dX1_actionKeepsProducts_51 : decode cX1_actionKeepsProducts 51 = .ok (.getfield 56, 3) := by decide +kernel
theorem dX1_actionKeepsProducts_54 : decode cX1_actionKeepsProducts 54 = .ok (.if_icmp .ge 58, 3) := by decide +kernel
theorem dX1_actionKeepsProducts_57 : decode cX1_actionKeepsProducts 57 = .ok (.iconst 0, 1) := by decide +kernel
theorem dX1_actionKeepsProducts_58 : decode cX1_actionKeepsProducts 58 = .ok (.istore_n 3, 1) := by decide +kernel
theorem dX1_actionKeepsProducts_59 : decode cX1_actionKeepsProducts 59 = .ok (.iload_n 3, 1) := by decide +kernel
theorem dX1_actionKeepsProducts_60 : decode cX1_actionKeepsProducts 60 = .ok (.aload_n 0, 1) := by decide +kernel
theorem dX1_actionKeepsProducts_61 : decode cX1_actionKeepsProducts 61 = .ok (.getfield 29, 3) := by decide +kernel
theorem dX1_actionKeepsProducts_64 : decode cX1_actionKeepsProducts 64 = .ok (.getfield 56, 3) := by decide +kernel
theorem dX1_actionKeepsProducts_67 : decode cX1_actionKeepsProducts 67 = .ok (.if_icmp .ge 39, 3) := by decide +kernel
theorem dX1_actionKeepsProducts_70 : decode cX1_actionKeepsProducts 70 = .ok (.aload_n 0, 1) := by decide +kernel
theorem dX1_actionKeepsProducts_71 : decode cX1_actionKeepsProducts 71 = .ok (.aload_n 0, 1) := by decide +kernel
theorem dX1_actionKeepsProducts_72 : decode cX1_actionKeepsProducts 72 = .ok (.getfield 33, 3) := by decide +kernel
theorem dX1_actionKeepsProducts_75 : decode cX1_actionKeepsProducts 75 = .ok (.iload_n 1, 1) := by decide +kernel
theorem dX1_actionKeepsProducts_76 : decode cX1_actionKeepsProducts 76 = .ok (.iload_n 2, 1) := by decide +kernel
theorem dX1_actionKeepsProducts_77 : decode cX1_actionKeepsProducts 77 = .ok (.invokevirtual 85, 3) := by decide +kernel
theorem dX1_actionKeepsProducts_80 : decode cX1_actionKeepsProducts 80 = .ok (.iload_n 3, 1) := by decide +kernel
theorem dX1_actionKeepsProducts_81 : decode cX1_actionKeepsProducts 81 = .ok (.invokevirtual 49, 3) := by decide +kernel
theorem dX1_actionKeepsProducts_84 : decode cX1_actionKeepsProducts 84 = .ok (.aload_n 0, 1) := by decide +kernel
theorem dX1_actionKeepsProducts_85 : decode cX1_actionKeepsProducts 85 = .ok (.iload_n 1, 1) := by decide +kernel
theorem dX1_actionKeepsProducts_86 : decode cX1_actionKeepsProducts 86 = .ok (.aload_n 0, 1) := by decide +kernel
theorem dX1_actionKeepsProducts_87 : decode cX1_actionKeepsProducts 87 = .ok (.iload_n 2, 1) := by decide +kernel
theorem dX1_actionKeepsProducts_88 : decode cX1_actionKeepsProducts 88 = .ok (.iload_n 3, 1) := by decide +kernel
theorem dX1_actionKeepsProducts_89 : decode cX1_actionKeepsProducts 89 = .ok (.invokevirtual 49, 3) := by decide +kernel
theorem dX1_actionKeepsProducts_92 : decode cX1_actionKeepsProducts 92 = .ok (.invokevirtual 49, 3) := by decide +kernel
theorem dX1_actionKeepsProducts_95 : decode cX1_actionKeepsProducts 95 = .ok (.if_icmp .eq 5, 3) := by decide +kernel
theorem dX1_actionKeepsProducts_98 : decode cX1_actionKeepsProducts 98 = .ok (.iconst 0, 1) := by decide +kernel
theorem dX1_actionKeepsProducts_99 : decode cX1_actionKeepsProducts 99 = .ok (.ireturn, 1) := by decide +kernel
theorem dX1_actionKeepsProducts_100 : decode cX1_actionKeepsProducts 100 = .ok (.iinc 3 1, 3) := by decide +kernel
theorem dX1_actionKeepsProducts_103 : decode cX1_actionKeepsProducts 103 = .ok (.goto (-44), 3) := by decide +kernel
theorem dX1_actionKeepsProducts_106 : decode cX1_actionKeepsProducts 106 = .ok (.iinc 2 1, 3) := by decide +kernel
theorem dX1_actionKeepsProducts_109 : decode cX1_actionKeepsProducts 109 = .ok (.goto (-63), 3) := by decide +kernel
theorem dX1_actionKeepsProducts_112 : decode cX1_actionKeepsProducts 112 = .ok (.iinc 1 1, 3) := by decide +kernel
theorem dX1_actionKeepsProducts_115 : decode cX1_actionKeepsProducts 115 = .ok (.goto (-82), 3) := by decide +kernel
theorem dX1_actionKeepsProducts_118 : decode cX1_actionKeepsProducts 118 = .ok (.iconst 1, 1) := by decide +kernel
theorem dX1_actionKeepsProducts_119 : decode cX1_actionKeepsProducts 119 = .ok (.ireturn, 1) := by decide +kernel
theorem dX1_boundaryFollowsAction_0 : decode cX1_boundaryFollowsAction 0 = .ok (.iconst 0, 1) := by decide +kernel
theorem dX1_boundaryFollowsAction_1 : decode cX1_boundaryFollowsAction 1 = .ok (.istore_n 1, 1) := by decide +kernel
theorem dX1_boundaryFollowsAction_2 : decode cX1_boundaryFollowsAction 2 = .ok (.iload_n 1, 1) := by decide +kernel
theorem dX1_boundaryFollowsAction_3 : decode cX1_boundaryFollowsAction 3 = .ok (.aload_n 0, 1) := by decide +kernel
theorem dX1_boundaryFollowsAction_4 : decode cX1_boundaryFollowsAction 4 = .ok (.getfield 33, 3) := by decide +kernel
theorem dX1_boundaryFollowsAction_7 : decode cX1_boundaryFollowsAction 7 = .ok (.getfield 56, 3) := by decide +kernel
theorem dX1_boundaryFollowsAction_10 : decode cX1_boundaryFollowsAction 10 = .ok (.if_icmp .ge 56, 3) := by decide +kernel
theorem dX1_boundaryFollowsAction_13 : decode cX1_boundaryFollowsAction 13 = .ok (.iconst 0, 1) := by decide +kernel
theorem dX1_boundaryFollowsAction_14 : decode cX1_boundaryFollowsAction 14 = .ok (.istore_n 2, 1) := by decide +kernel
theorem dX1_boundaryFollowsAction_15 : decode cX1_boundaryFollowsAction 15 = .ok (.iload_n 2, 1) := by decide +kernel
theorem dX1_boundaryFollowsAction_16 : decode cX1_boundaryFollowsAction 16 = .ok (.aload_n 0, 1) := by decide +kernel
theorem dX1_boundaryFollowsAction_17 : decode cX1_boundaryFollowsAction 17 = .ok (.getfield 29, 3) := by decide +kernel
theorem dX1_boundaryFollowsAction_20 : decode cX1_boundaryFollowsAction 20 = .ok (.getfield 56, 3) := by decide +kernel
theorem dX1_boundaryFollowsAction_23 : decode cX1_boundaryFollowsAction 23 = .ok (.if_icmp .ge 37, 3) := by decide +kernel
theorem dX1_boundaryFollowsAction_26 : decode cX1_boundaryFollowsAction 26 = .ok (.aload_n 0, 1) := by decide +kernel
theorem dX1_boundaryFollowsAction_27 : decode cX1_boundaryFollowsAction 27 = .ok (.aload_n 0, 1) := by decide +kernel
theorem dX1_boundaryFollowsAction_28 : decode cX1_boundaryFollowsAction 28 = .ok (.iload_n 1, 1) := by decide +kernel
theorem dX1_boundaryFollowsAction_29 : decode cX1_boundaryFollowsAction 29 = .ok (.iload_n 2, 1) := by decide +kernel
theorem dX1_boundaryFollowsAction_30 : decode cX1_boundaryFollowsAction 30 = .ok (.invokevirtual 49, 3) := by decide +kernel
theorem dX1_boundaryFollowsAction_33 : decode cX1_boundaryFollowsAction 33 = .ok (.invokevirtual 88, 3) := by decide +kernel
theorem dX1_boundaryFollowsAction_36 : decode cX1_boundaryFollowsAction 36 = .ok (.aload_n 0, 1) := by decide +kernel
theorem dX1_boundaryFollowsAction_37 : decode cX1_boundaryFollowsAction 37 = .ok (.getfield 33, 3) := by decide +kernel
theorem dX1_boundaryFollowsAction_40 : decode cX1_boundaryFollowsAction 40 = .ok (.iload_n 1, 1) := by decide +kernel
theorem dX1_boundaryFollowsAction_41 : decode cX1_boundaryFollowsAction 41 = .ok (.aload_n 0, 1) := by decide +kernel
theorem dX1_boundaryFollowsAction_42 : decode cX1_boundaryFollowsAction 42 = .ok (.iload_n 2, 1) := by decide +kernel
theorem dX1_boundaryFollowsAction_43 : decode cX1_boundaryFollowsAction 43 = .ok (.invokevirtual 88, 3) := by decide +kernel
theorem dX1_boundaryFollowsAction_46 : decode cX1_boundaryFollowsAction 46 = .ok (.invokevirtual 65, 3) := by decide +kernel
theorem dX1_boundaryFollowsAction_49 : decode cX1_boundaryFollowsAction 49 = .ok (.if_icmp .eq 5, 3) := by decide +kernel
theorem dX1_boundaryFollowsAction_52 : decode cX1_boundaryFollowsAction 52 = .ok (.iconst 0, 1) := by decide +kernel
theorem dX1_boundaryFollowsAction_53 : decode cX1_boundaryFollowsAction 53 = .ok (.ireturn, 1) := by decide +kernel
theorem dX1_boundaryFollowsAction_54 : decode cX1_boundaryFollowsAction 54 = .ok (.iinc 2 1, 3) := by decide +kernel
theorem dX1_boundaryFollowsAction_57 : decode cX1_boundaryFollowsAction 57 = .ok (.goto (-42), 3) := by decide +kernel
theorem dX1_boundaryFollowsAction_60 : decode cX1_boundaryFollowsAction 60 = .ok (.iinc 1 1, 3) := by decide +kernel
theorem dX1_boundaryFollowsAction_63 : decode cX1_boundaryFollowsAction 63 = .ok (.goto (-61), 3) := by decide +kernel
theorem dX1_boundaryFollowsAction_66 : decode cX1_boundaryFollowsAction 66 = .ok (.iconst 1, 1) := by decide +kernel
theorem dX1_boundaryFollowsAction_67 : decode cX1_boundaryFollowsAction 67 = .ok (.ireturn, 1) := by decide +kernel
theorem dX1_boundaryActsAsConjugation_0 : decode cX1_boundaryActsAsConjugation 0 = .ok (.iconst 0, 1) := by decide +kernel
theorem dX1_boundaryActsAsConjugation_1 : decode cX1_boundaryActsAsConjugation 1 = .ok (.istore_n 1, 1) := by decide +kernel
theorem dX1_boundaryActsAsConjugation_2 : decode cX1_boundaryActsAsConjugation 2 = .ok (.iload_n 1, 1) := by decide +kernel
theorem dX1_boundaryActsAsConjugation_3 : decode cX1_boundaryActsAsConjugation 3 = .ok (.aload_n 0, 1) := by decide +kernel
theorem dX1_boundaryActsAsConjugation_4 : decode cX1_boundaryActsAsConjugation 4 = .ok (.getfield 29, 3) := by decide +kernel
theorem dX1_boundaryActsAsConjugation_7 : decode cX1_boundaryActsAsConjugation 7 = .ok (.getfield 56, 3) := by decide +kernel
theorem dX1_boundaryActsAsConjugation_10 : decode cX1_boundaryActsAsConjugation 10 = .ok (.if_icmp .ge 52, 3) := by decide +kernel
theorem dX1_boundaryActsAsConjugation_13 : decode cX1_boundaryActsAsConjugation 13 = .ok (.iconst 0, 1) := by decide +kernel
theorem dX1_boundaryActsAsConjugation_14 : decode cX1_boundaryActsAsConjugation 14 = .ok (.istore_n 2, 1) := by decide +kernel
theorem dX1_boundaryActsAsConjugation_15 : decode cX1_boundaryActsAsConjugation 15 = .ok (.iload_n 2, 1) := by decide +kernel
theorem dX1_boundaryActsAsConjugation_16 : decode cX1_boundaryActsAsConjugation 16 = .ok (.aload_n 0, 1) := by decide +kernel
theorem dX1_boundaryActsAsConjugation_17 : decode cX1_boundaryActsAsConjugation 17 = .ok (.getfield 29, 3) := by decide +kernel
theorem dX1_boundaryActsAsConjugation_20 : decode cX1_boundaryActsAsConjugation 20 = .ok (.getfield 56, 3) := by decide +kernel
theorem dX1_boundaryActsAsConjugation_23 : decode cX1_boundaryActsAsConjugation 23 = .ok (.if_icmp .ge 33, 3) := by decide +kernel
theorem dX1_boundaryActsAsConjugation_26 : decode cX1_boundaryActsAsConjugation 26 = .ok (.aload_n 0, 1) := by decide +kernel
theorem dX1_boundaryActsAsConjugation_27 : decode cX1_boundaryActsAsConjugation 27 = .ok (.aload_n 0, 1) := by decide +kernel
theorem dX1_boundaryActsAsConjugation_28 : decode cX1_boundaryActsAsConjugation 28 = .ok (.iload_n 1, 1) := by decide +kernel
theorem dX1_boundaryActsAsConjugation_29 : decode cX1_boundaryActsAsConjugation 29 = .ok (.invokevirtual 88, 3) := by decide +kernel
theorem dX1_boundaryActsAsConjugation_32 : decode cX1_boundaryActsAsConjugation 32 = .ok (.iload_n 2, 1) := by decide +kernel
theorem dX1_boundaryActsAsConjugation_33 : decode cX1_boundaryActsAsConjugation 33 = .ok (.invokevirtual 49, 3) := by decide +kernel
theorem dX1_boundaryActsAsConjugation_36 : decode cX1_boundaryActsAsConjugation 36 = .ok (.aload_n 0, 1) := by decide +kernel
theorem dX1_boundaryActsAsConjugation_37 : decode cX1_boundaryActsAsConjugation 37 = .ok (.getfield 29, 3) := by decide +kernel
theorem dX1_boundaryActsAsConjugation_40 : decode cX1_boundaryActsAsConjugation 40 = .ok (.iload_n 1, 1) := by decide +kernel
theorem dX1_boundaryActsAsConjugation_41 : decode cX1_boundaryActsAsConjugation 41 = .ok (.iload_n 2, 1) := by decide +kernel
theorem dX1_boundaryActsAsConjugation_42 : decode cX1_boundaryActsAsConjugation 42 = .ok (.invokevirtual 65, 3) := by decide +kernel
theorem dX1_boundaryActsAsConjugation_45 : decode cX1_boundaryActsAsConjugation 45 = .ok (.if_icmp .eq 5, 3) := by decide +kernel
theorem dX1_boundaryActsAsConjugation_48 : decode cX1_boundaryActsAsConjugation 48 = .ok (.iconst 0, 1) := by decide +kernel
theorem dX1_boundaryActsAsConjugation_49 : decode cX1_boundaryActsAsConjugation 49 = .ok (.ireturn, 1) := by decide +kernel
theorem dX1_boundaryActsAsConjugation_50 : decode cX1_boundaryActsAsConjugation 50 = .ok (.iinc 2 1, 3) := by decide +kernel
theorem dX1_boundaryActsAsConjugation_53 : decode cX1_boundaryActsAsConjugation 53 = .ok (.goto (-38), 3) := by decide +kernel
theorem dX1_boundaryActsAsConjugation_56 : decode cX1_boundaryActsAsConjugation 56 = .ok (.iinc 1 1, 3) := by decide +kernel
theorem dX1_boundaryActsAsConjugation_59 : decode cX1_boundaryActsAsConjugation 59 = .ok (.goto (-57), 3) := by decide +kernel
theorem dX1_boundaryActsAsConjugation_62 : decode cX1_boundaryActsAsConjugation 62 = .ok (.iconst 1, 1) := by decide +kernel
theorem dX1_boundaryActsAsConjugation_63 : decode cX1_boundaryActsAsConjugation 63 = .ok (.ireturn, 1) := by decide +kernel
theorem dX1_kernelSet_0 : decode cX1_kernelSet 0 = .ok (.iconst 0, 1) := by decide +kernel
theorem dX1_kernelSet_1 : decode cX1_kernelSet 1 = .ok (.istore_n 1, 1) := by decide +kernel
theorem dX1_kernelSet_2 : decode cX1_kernelSet 2 = .ok (.iconst 0, 1) := by decide +kernel
theorem dX1_kernelSet_3 : decode cX1_kernelSet 3 = .ok (.istore_n 2, 1) := by decide +kernel
theorem dX1_kernelSet_4 : decode cX1_kernelSet 4 = .ok (.iload_n 2, 1) := by decide +kernel
theorem dX1_kernelSet_5 : decode cX1_kernelSet 5 = .ok (.aload_n 0, 1) := by decide +kernel
theorem dX1_kernelSet_6 : decode cX1_kernelSet 6 = .ok (.getfield 29, 3) := by decide +kernel
theorem dX1_kernelSet_9 : decode cX1_kernelSet 9 = .ok (.getfield 56, 3) := by decide +kernel
theorem dX1_kernelSet_12 : decode cX1_kernelSet 12 = .ok (.if_icmp .ge 27, 3) := by decide +kernel
theorem dX1_kernelSet_15 : decode cX1_kernelSet 15 = .ok (.iload_n 1, 1) := by decide +kernel
theorem dX1_kernelSet_16 : decode cX1_kernelSet 16 = .ok (.aload_n 0, 1) := by decide +kernel
theorem dX1_kernelSet_17 : decode cX1_kernelSet 17 = .ok (.iload_n 2, 1) := by decide +kernel
theorem dX1_kernelSet_18 : decode cX1_kernelSet 18 = .ok (.invokevirtual 88, 3) := by decide +kernel
theorem dX1_kernelSet_21 : decode cX1_kernelSet 21 = .ok (.ifCond .ne 9, 3) := by decide +kernel
theorem dX1_kernelSet_24 : decode cX1_kernelSet 24 = .ok (.iconst 1, 1) := by decide +kernel
theorem dX1_kernelSet_25 : decode cX1_kernelSet 25 = .ok (.iload_n 2, 1) := by decide +kernel
theorem dX1_kernelSet_26 : decode cX1_kernelSet 26 = .ok (.ishl, 1) := by decide +kernel
theorem dX1_kernelSet_27 : decode cX1_kernelSet 27 = .ok (.goto 4, 3) := by decide +kernel
theorem dX1_kernelSet_30 : decode cX1_kernelSet 30 = .ok (.iconst 0, 1) := by decide +kernel
theorem dX1_kernelSet_31 : decode cX1_kernelSet 31 = .ok (.ior, 1) := by decide +kernel
theorem dX1_kernelSet_32 : decode cX1_kernelSet 32 = .ok (.istore_n 1, 1) := by decide +kernel
theorem dX1_kernelSet_33 : decode cX1_kernelSet 33 = .ok (.iinc 2 1, 3) := by decide +kernel
theorem dX1_kernelSet_36 : decode cX1_kernelSet 36 = .ok (.goto (-32), 3) := by decide +kernel
theorem dX1_kernelSet_39 : decode cX1_kernelSet 39 = .ok (.iload_n 1, 1) := by decide +kernel
theorem dX1_kernelSet_40 : decode cX1_kernelSet 40 = .ok (.ireturn, 1) := by decide +kernel
theorem dX1_imageSet_0 : decode cX1_imageSet 0 = .ok (.iconst 0, 1) := by decide +kernel
theorem dX1_imageSet_1 : decode cX1_imageSet 1 = .ok (.istore_n 1, 1) := by decide +kernel
theorem dX1_imageSet_2 : decode cX1_imageSet 2 = .ok (.iconst 0, 1) := by decide +kernel
theorem dX1_imageSet_3 : decode cX1_imageSet 3 = .ok (.istore_n 2, 1) := by decide +kernel
theorem dX1_imageSet_4 : decode cX1_imageSet 4 = .ok (.iload_n 2, 1) := by decide +kernel
theorem dX1_imageSet_5 : decode cX1_imageSet 5 = .ok (.aload_n 0, 1) := by decide +kernel
theorem dX1_imageSet_6 : decode cX1_imageSet 6 = .ok (.getfield 29, 3) := by decide +kernel
theorem dX1_imageSet_9 : decode cX1_imageSet 9 = .ok (.getfield 56, 3) := by decide +kernel
theorem dX1_imageSet_12 : decode cX1_imageSet 12 = .ok (.if_icmp .ge 19, 3) := by decide +kernel
theorem dX1_imageSet_15 : decode cX1_imageSet 15 = .ok (.iload_n 1, 1) := by decide +kernel
theorem dX1_imageSet_16 : decode cX1_imageSet 16 = .ok (.iconst 1, 1) := by decide +kernel
theorem dX1_imageSet_17 : decode cX1_imageSet 17 = .ok (.aload_n 0, 1) := by decide +kernel
theorem dX1_imageSet_18 : decode cX1_imageSet 18 = .ok (.iload_n 2, 1) := by decide +kernel
theorem dX1_imageSet_19 : decode cX1_imageSet 19 = .ok (.invokevirtual 88, 3) := by decide +kernel
theorem dX1_imageSet_22 : decode cX1_imageSet 22 = .ok (.ishl, 1) := by decide +kernel
theorem dX1_imageSet_23 : decode cX1_imageSet 23 = .ok (.ior, 1) := by decide +kernel
theorem dX1_imageSet_24 : decode cX1_imageSet 24 = .ok (.istore_n 1, 1) := by decide +kernel
theorem dX1_imageSet_25 : decode cX1_imageSet 25 = .ok (.iinc 2 1, 3) := by decide +kernel
theorem dX1_imageSet_28 : decode cX1_imageSet 28 = .ok (.goto (-24), 3) := by decide +kernel
theorem dX1_imageSet_31 : decode cX1_imageSet 31 = .ok (.iload_n 1, 1) := by decide +kernel
theorem dX1_imageSet_32 : decode cX1_imageSet 32 = .ok (.ireturn, 1) := by decide +kernel
theorem dX1_stabilizer_0 : decode cX1_stabilizer 0 = .ok (.iconst 0, 1) := by decide +kernel
theorem dX1_stabilizer_1 : decode cX1_stabilizer 1 = .ok (.istore_n 2, 1) := by decide +kernel
theorem dX1_stabilizer_2 : decode cX1_stabilizer 2 = .ok (.iconst 0, 1) := by decide +kernel
theorem dX1_stabilizer_3 : decode cX1_stabilizer 3 = .ok (.istore_n 3, 1) := by decide +kernel
theorem dX1_stabilizer_4 : decode cX1_stabilizer 4 = .ok (.iload_n 3, 1) := by decide +kernel
theorem dX1_stabilizer_5 : decode cX1_stabilizer 5 = .ok (.aload_n 0, 1) := by decide +kernel
theorem dX1_stabilizer_6 : decode cX1_stabilizer 6 = .ok (.getfield 33, 3) := by decide +kernel
theorem dX1_stabilizer_9 : decode cX1_stabilizer 9 = .ok (.getfield 56, 3) := by decide +kernel
theorem dX1_stabilizer_12 : decode cX1_stabilizer 12 = .ok (.if_icmp .ge 29, 3) := by decide +kernel
theorem dX1_stabilizer_15 : decode cX1_stabilizer 15 = .ok (.iload_n 2, 1) := by decide +kernel
theorem dX1_stabilizer_16 : decode cX1_stabilizer 16 = .ok (.aload_n 0, 1) := by decide +kernel
theorem dX1_stabilizer_17 : decode cX1_stabilizer 17 = .ok (.iload_n 3, 1) := by decide +kernel
theorem dX1_stabilizer_18 : decode cX1_stabilizer 18 = .ok (.iload_n 1, 1) := by decide +kernel
theorem dX1_stabilizer_19 : decode cX1_stabilizer 19 = .ok (.invokevirtual 49, 3) := by decide +kernel
theorem dX1_stabilizer_22 : decode cX1_stabilizer 22 = .ok (.iload_n 1, 1) := by decide +kernel
theorem dX1_stabilizer_23 : decode cX1_stabilizer 23 = .ok (.if_icmp .ne 9, 3) := by decide +kernel
theorem dX1_stabilizer_26 : decode cX1_stabilizer 26 = .ok (.iconst 1, 1) := by decide +kernel
theorem dX1_stabilizer_27 : decode cX1_stabilizer 27 = .ok (.iload_n 3, 1) := by decide +kernel
theorem dX1_stabilizer_28 : decode cX1_stabilizer 28 = .ok (.ishl, 1) := by decide +kernel
theorem dX1_stabilizer_29 : decode cX1_stabilizer 29 = .ok (.goto 4, 3) := by decide +kernel
theorem dX1_stabilizer_32 : decode cX1_stabilizer 32 = .ok (.iconst 0, 1) := by decide +kernel
theorem dX1_stabilizer_33 : decode cX1_stabilizer 33 = .ok (.ior, 1) := by decide +kernel
theorem dX1_stabilizer_34 : decode cX1_stabilizer 34 = .ok (.istore_n 2, 1) := by decide +kernel
theorem dX1_stabilizer_35 : decode cX1_stabilizer 35 = .ok (.iinc 3 1, 3) := by decide +kernel
theorem dX1_stabilizer_38 : decode cX1_stabilizer 38 = .ok (.goto (-34), 3) := by decide +kernel
theorem dX1_stabilizer_41 : decode cX1_stabilizer 41 = .ok (.iload_n 2, 1) := by decide +kernel
theorem dX1_stabilizer_42 : decode cX1_stabilizer 42 = .ok (.ireturn, 1) := by decide +kernel
theorem dX1_orbitSet_0 : decode cX1_orbitSet 0 = .ok (.iconst 0, 1) := by decide +kernel
theorem dX1_orbitSet_1 : decode cX1_orbitSet 1 = .ok (.istore_n 2, 1) := by decide +kernel
theorem dX1_orbitSet_2 : decode cX1_orbitSet 2 = .ok (.iconst 0, 1) := by decide +kernel
theorem dX1_orbitSet_3 : decode cX1_orbitSet 3 = .ok (.istore_n 3, 1) := by decide +kernel
theorem dX1_orbitSet_4 : decode cX1_orbitSet 4 = .ok (.iload_n 3, 1) := by decide +kernel
theorem dX1_orbitSet_5 : decode cX1_orbitSet 5 = .ok (.aload_n 0, 1) := by decide +kernel
theorem dX1_orbitSet_6 : decode cX1_orbitSet 6 = .ok (.getfield 33, 3) := by decide +kernel
theorem dX1_orbitSet_9 : decode cX1_orbitSet 9 = .ok (.getfield 56, 3) := by decide +kernel
theorem dX1_orbitSet_12 : decode cX1_orbitSet 12 = .ok (.if_icmp .ge 20, 3) := by decide +kernel
theorem dX1_orbitSet_15 : decode cX1_orbitSet 15 = .ok (.iload_n 2, 1) := by decide +kernel
theorem dX1_orbitSet_16 : decode cX1_orbitSet 16 = .ok (.iconst 1, 1) := by decide +kernel
theorem dX1_orbitSet_17 : decode cX1_orbitSet 17 = .ok (.aload_n 0, 1) := by decide +kernel
theorem dX1_orbitSet_18 : decode cX1_orbitSet 18 = .ok (.iload_n 3, 1) := by decide +kernel
theorem dX1_orbitSet_19 : decode cX1_orbitSet 19 = .ok (.iload_n 1, 1) := by decide +kernel
theorem dX1_orbitSet_20 : decode cX1_orbitSet 20 = .ok (.invokevirtual 49, 3) := by decide +kernel
theorem dX1_orbitSet_23 : decode cX1_orbitSet 23 = .ok (.ishl, 1) := by decide +kernel
theorem dX1_orbitSet_24 : decode cX1_orbitSet 24 = .ok (.ior, 1) := by decide +kernel
theorem dX1_orbitSet_25 : decode cX1_orbitSet 25 = .ok (.istore_n 2, 1) := by decide +kernel
theorem dX1_orbitSet_26 : decode cX1_orbitSet 26 = .ok (.iinc 3 1, 3) := by decide +kernel
theorem dX1_orbitSet_29 : decode cX1_orbitSet 29 = .ok (.goto (-25), 3) := by decide +kernel
theorem dX1_orbitSet_32 : decode cX1_orbitSet 32 = .ok (.iload_n 2, 1) := by decide +kernel
theorem dX1_orbitSet_33 : decode cX1_orbitSet 33 = .ok (.ireturn, 1) := by decide +kernel
theorem dX1_freshPair_0 : decode cX1_freshPair 0 = .ok (.aload_n 0, 1) := by decide +kernel
theorem dX1_freshPair_1 : decode cX1_freshPair 1 = .ok (.getfield 21, 3) := by decide +kernel
theorem dX1_freshPair_4 : decode cX1_freshPair 4 = .ok (.aload_n 0, 1) := by decide +kernel
theorem dX1_freshPair_5 : decode cX1_freshPair 5 = .ok (.invokevirtual 96, 3) := by decide +kernel
theorem dX1_freshPair_8 : decode cX1_freshPair 8 = .ok (.aload_n 0, 1) := by decide +kernel
theorem dX1_freshPair_9 : decode cX1_freshPair 9 = .ok (.getfield 21, 3) := by decide +kernel
theorem dX1_freshPair_12 : decode cX1_freshPair 12 = .ok (.aload_n 0, 1) := by decide +kernel
theorem dX1_freshPair_13 : decode cX1_freshPair 13 = .ok (.invokevirtual 100, 3) := by decide +kernel
theorem dX1_freshPair_16 : decode cX1_freshPair 16 = .ok (.aload_n 0, 1) := by decide +kernel
theorem dX1_freshPair_17 : decode cX1_freshPair 17 = .ok (.getfield 21, 3) := by decide +kernel
theorem dX1_freshPair_20 : decode cX1_freshPair 20 = .ok (.areturn, 1) := by decide +kernel
theorem dX1_hasLarge_0 : decode cX1_hasLarge 0 = .ok (.iload_n 1, 1) := by decide +kernel
theorem dX1_hasLarge_1 : decode cX1_hasLarge 1 = .ok (.ifCond .lt 26, 3) := by decide +kernel
theorem dX1_hasLarge_4 : decode cX1_hasLarge 4 = .ok (.iload_n 1, 1) := by decide +kernel
theorem dX1_hasLarge_5 : decode cX1_hasLarge 5 = .ok (.aload_n 0, 1) := by decide +kernel
theorem dX1_hasLarge_6 : decode cX1_hasLarge 6 = .ok (.getfield 29, 3) := by decide +kernel
theorem dX1_hasLarge_9 : decode cX1_hasLarge 9 = .ok (.getfield 56, 3) := by decide +kernel
theorem dX1_hasLarge_12 : decode cX1_hasLarge 12 = .ok (.aload_n 0, 1) := by decide +kernel
theorem dX1_hasLarge_13 : decode cX1_hasLarge 13 = .ok (.getfield 33, 3) := by decide +kernel
theorem dX1_hasLarge_16 : decode cX1_hasLarge 16 = .ok (.getfield 56, 3) := by decide +kernel
theorem dX1_hasLarge_19 : decode cX1_hasLarge 19 = .ok (.imul, 1) := by decide +kernel
theorem dX1_hasLarge_20 : decode cX1_hasLarge 20 = .ok (.if_icmp .ge 7, 3) := by decide +kernel
theorem dX1_hasLarge_23 : decode cX1_hasLarge 23 = .ok (.iconst 1, 1) := by decide +kernel
theorem dX1_hasLarge_24 : decode cX1_hasLarge 24 = .ok (.goto 4, 3) := by decide +kernel
theorem dX1_hasLarge_27 : decode cX1_hasLarge 27 = .ok (.iconst 0, 1) := by decide +kernel
theorem dX1_hasLarge_28 : decode cX1_hasLarge 28 = .ok (.ireturn, 1) := by decide +kernel
theorem dX1_upperPart_0 : decode cX1_upperPart 0 = .ok (.aload_n 0, 1) := by decide +kernel
theorem dX1_upperPart_1 : decode cX1_upperPart 1 = .ok (.getfield 33, 3) := by decide +kernel
theorem dX1_upperPart_4 : decode cX1_upperPart 4 = .ok (.getfield 56, 3) := by decide +kernel
theorem dX1_upperPart_7 : decode cX1_upperPart 7 = .ok (.ifCond .le 15, 3) := by decide +kernel
theorem dX1_upperPart_10 : decode cX1_upperPart 10 = .ok (.iload_n 1, 1) := by decide +kernel
theorem dX1_upperPart_11 : decode cX1_upperPart 11 = .ok (.aload_n 0, 1) := by decide +kernel
theorem dX1_upperPart_12 : decode cX1_upperPart 12 = .ok (.getfield 33, 3) := by decide +kernel
theorem dX1_upperPart_15 : decode cX1_upperPart 15 = .ok (.getfield 56, 3) := by decide +kernel
theorem dX1_upperPart_18 : decode cX1_upperPart 18 = .ok (.idiv, 1) := by decide +kernel
theorem dX1_upperPart_19 : decode cX1_upperPart 19 = .ok (.goto 4, 3) := by decide +kernel
theorem dX1_upperPart_22 : decode cX1_upperPart 22 = .ok (.iconst 0, 1) := by decide +kernel
theorem dX1_upperPart_23 : decode cX1_upperPart 23 = .ok (.ireturn, 1) := by decide +kernel
theorem dX1_lowerPart_0 : decode cX1_lowerPart 0 = .ok (.aload_n 0, 1) := by decide +kernel
theorem dX1_lowerPart_1 : decode cX1_lowerPart 1 = .ok (.getfield 33, 3) := by decide +kernel
theorem dX1_lowerPart_4 : decode cX1_lowerPart 4 = .ok (.getfield 56, 3) := by decide +kernel
theorem dX1_lowerPart_7 : decode cX1_lowerPart 7 = .ok (.ifCond .le 15, 3) := by decide +kernel
theorem dX1_lowerPart_10 : decode cX1_lowerPart 10 = .ok (.iload_n 1, 1) := by decide +kernel
theorem dX1_lowerPart_11 : decode cX1_lowerPart 11 = .ok (.aload_n 0, 1) := by decide +kernel
theorem dX1_lowerPart_12 : decode cX1_lowerPart 12 = .ok (.getfield 33, 3) := by decide +kernel
theorem dX1_lowerPart_15 : decode cX1_lowerPart 15 = .ok (.getfield 56, 3) := by decide +kernel
theorem dX1_lowerPart_18 : decode cX1_lowerPart 18 = .ok (.irem, 1) := by decide +kernel
theorem dX1_lowerPart_19 : decode cX1_lowerPart 19 = .ok (.goto 4, 3) := by decide +kernel
theorem dX1_lowerPart_22 : decode cX1_lowerPart 22 = .ok (.iconst 0, 1) := by decide +kernel
theorem dX1_lowerPart_23 : decode cX1_lowerPart 23 = .ok (.ireturn, 1) := by decide +kernel
theorem dX1_largeProduct_0 : decode cX1_largeProduct 0 = .ok (.aload_n 0, 1) := by decide +kernel
theorem dX1_largeProduct_1 : decode cX1_largeProduct 1 = .ok (.iload_n 1, 1) := by decide +kernel
theorem dX1_largeProduct_2 : decode cX1_largeProduct 2 = .ok (.invokevirtual 103, 3) := by decide +kernel
theorem dX1_largeProduct_5 : decode cX1_largeProduct 5 = .ok (.istore_n 3, 1) := by decide +kernel
theorem dX1_largeProduct_6 : decode cX1_largeProduct 6 = .ok (.aload_n 0, 1) := by decide +kernel
theorem dX1_largeProduct_7 : decode cX1_largeProduct 7 = .ok (.getfield 29, 3) := by decide +kernel
theorem dX1_largeProduct_10 : decode cX1_largeProduct 10 = .ok (.aload_n 0, 1) := by decide +kernel
theorem dX1_largeProduct_11 : decode cX1_largeProduct 11 = .ok (.iload_n 1, 1) := by decide +kernel
theorem dX1_largeProduct_12 : decode cX1_largeProduct 12 = .ok (.invokevirtual 106, 3) := by decide +kernel
theorem dX1_largeProduct_15 : decode cX1_largeProduct 15 = .ok (.aload_n 0, 1) := by decide +kernel
theorem dX1_largeProduct_16 : decode cX1_largeProduct 16 = .ok (.iload_n 3, 1) := by decide +kernel
theorem dX1_largeProduct_17 : decode cX1_largeProduct 17 = .ok (.aload_n 0, 1) := by decide +kernel
theorem dX1_largeProduct_18 : decode cX1_largeProduct 18 = .ok (.iload_n 2, 1) := by decide +kernel
theorem dX1_largeProduct_19 : decode cX1_largeProduct 19 = .ok (.invokevirtual 106, 3) := by decide +kernel
theorem dX1_largeProduct_22 : decode cX1_largeProduct 22 = .ok (.invokevirtual 49, 3) := by decide +kernel
theorem dX1_largeProduct_25 : decode cX1_largeProduct 25 = .ok (.invokevirtual 85, 3) := by decide +kernel
theorem dX1_largeProduct_28 : decode cX1_largeProduct 28 = .ok (.istore 4, 2) := by decide +kernel
theorem dX1_largeProduct_30 : decode cX1_largeProduct 30 = .ok (.iload 4, 2) := by decide +kernel
theorem dX1_largeProduct_32 : decode cX1_largeProduct 32 = .ok (.aload_n 0, 1) := by decide +kernel
theorem dX1_largeProduct_33 : decode cX1_largeProduct 33 = .ok (.getfield 33, 3) := by decide +kernel
theorem dX1_largeProduct_36 : decode cX1_largeProduct 36 = .ok (.getfield 56, 3) := by decide +kernel
theorem dX1_largeProduct_39 : decode cX1_largeProduct 39 = .ok (.imul, 1) := by decide +kernel
theorem dX1_largeProduct_40 : decode cX1_largeProduct 40 = .ok (.aload_n 0, 1) := by decide +kernel
theorem dX1_largeProduct_41 : decode cX1_largeProduct 41 = .ok (.getfield 33, 3) := by decide +kernel
theorem dX1_largeProduct_44 : decode cX1_largeProduct 44 = .ok (.iload_n 3, 1) := by decide +kernel
theorem dX1_largeProduct_45 : decode cX1_largeProduct 45 = .ok (.aload_n 0, 1) := by decide +kernel
theorem dX1_largeProduct_46 : decode cX1_largeProduct 46 = .ok (.iload_n 2, 1) := by decide +kernel
theorem dX1_largeProduct_47 : decode cX1_largeProduct 47 = .ok (.invokevirtual 103, 3) := by decide +kernel
theorem dX1_largeProduct_50 : decode cX1_largeProduct 50 = .ok (.invokevirtual 85, 3) := by decide +kernel
theorem dX1_largeProduct_53 : decode cX1_largeProduct 53 = .ok (.iadd, 1) := by decide +kernel
theorem dX1_largeProduct_54 : decode cX1_largeProduct 54 = .ok (.ireturn, 1) := by decide +kernel
theorem dX1_largePeriod_0 : decode cX1_largePeriod 0 = .ok (.iconst 1, 1) := by decide +kernel
theorem dX1_largePeriod_1 : decode cX1_largePeriod 1 = .ok (.istore_n 2, 1) := by decide +kernel
theorem dX1_largePeriod_2 : decode cX1_largePeriod 2 = .ok (.iload_n 1, 1) := by decide +kernel
theorem dX1_largePeriod_3 : decode cX1_largePeriod 3 = .ok (.istore_n 3, 1) := by decide +kernel
theorem dX1_largePeriod_4 : decode cX1_largePeriod 4 = .ok (.iload_n 3, 1) := by decide +kernel
theorem dX1_largePeriod_5 : decode cX1_largePeriod 5 = .ok (.ifCond .eq 22, 3) := by decide +kernel
theorem dX1_largePeriod_8 : decode cX1_largePeriod 8 = .ok (.iload_n 2, 1) := by decide +kernel
theorem dX1_largePeriod_9 : decode cX1_largePeriod 9 = .ok (.bipush 64, 2) := by decide +kernel
theorem dX1_largePeriod_11 : decode cX1_largePeriod 11 = .ok (.if_icmp .ge 16, 3) := by decide +kernel
theorem dX1_largePeriod_14 : decode cX1_largePeriod 14 = .ok (.aload_n 0, 1) := by decide +kernel
theorem dX1_largePeriod_15 : decode cX1_largePeriod 15 = .ok (.iload_n 3, 1) := by decide +kernel
theorem dX1_largePeriod_16 : decode cX1_largePeriod 16 = .ok (.iload_n 1, 1) := by decide +kernel
theorem dX1_largePeriod_17 : decode cX1_largePeriod 17 = .ok (.invokevirtual 109, 3) := by decide +kernel
theorem dX1_largePeriod_20 : decode cX1_largePeriod 20 = .ok (.istore_n 3, 1) := by decide +kernel
theorem dX1_largePeriod_21 : decode cX1_largePeriod 21 = .ok (.iinc 2 1, 3) := by decide +kernel
theorem dX1_largePeriod_24 : decode cX1_largePeriod 24 = .ok (.goto (-20), 3) := by decide +kernel
theorem dX1_largePeriod_27 : decode cX1_largePeriod 27 = .ok (.iload_n 2, 1) := by decide +kernel
theorem dX1_largePeriod_28 : decode cX1_largePeriod 28 = .ok (.ireturn, 1) := by decide +kernel
theorem dX1_targetOf_0 : decode cX1_targetOf 0 = .ok (.aload_n 0, 1) := by decide +kernel
theorem dX1_targetOf_1 : decode cX1_targetOf 1 = .ok (.getfield 33, 3) := by decide +kernel
theorem dX1_targetOf_4 : decode cX1_targetOf 4 = .ok (.aload_n 0, 1) := by decide +kernel
theorem dX1_targetOf_5 : decode cX1_targetOf 5 = .ok (.iload_n 1, 1) := by decide +kernel
theorem dX1_targetOf_6 : decode cX1_targetOf 6 = .ok (.invokevirtual 88, 3) := by decide +kernel
theorem dX1_targetOf_9 : decode cX1_targetOf 9 = .ok (.iload_n 2, 1) := by decide +kernel
theorem dX1_targetOf_10 : decode cX1_targetOf 10 = .ok (.invokevirtual 85, 3) := by decide +kernel
theorem dX1_targetOf_13 : decode cX1_targetOf 13 = .ok (.ireturn, 1) := by decide +kernel
theorem dX1_countBetween_0 : decode cX1_countBetween 0 = .ok (.iconst 0, 1) := by decide +kernel
theorem dX1_countBetween_1 : decode cX1_countBetween 1 = .ok (.istore_n 3, 1) := by decide +kernel
theorem dX1_countBetween_2 : decode cX1_countBetween 2 = .ok (.iconst 0, 1) := by decide +kernel
theorem dX1_countBetween_3 : decode cX1_countBetween 3 = .ok (.istore 4, 2) := by decide +kernel
theorem dX1_countBetween_5 : decode cX1_countBetween 5 = .ok (.iload 4, 2) := by decide +kernel
theorem dX1_countBetween_7 : decode cX1_countBetween 7 = .ok (.aload_n 0, 1) := by decide +kernel
theorem dX1_countBetween_8 : decode cX1_countBetween 8 = .ok (.getfield 29, 3) := by decide +kernel
theorem dX1_countBetween_11 : decode cX1_countBetween 11 = .ok (.getfield 56, 3) := by decide +kernel
theorem dX1_countBetween_14 : decode cX1_countBetween 14 = .ok (.if_icmp .ge 28, 3) := by decide +kernel
theorem dX1_countBetween_17 : decode cX1_countBetween 17 = .ok (.iload_n 3, 1) := by decide +kernel
theorem dX1_countBetween_18 : decode cX1_countBetween 18 = .ok (.aload_n 0, 1) := by decide +kernel
theorem dX1_countBetween_19 : decode cX1_countBetween 19 = .ok (.iload 4, 2) := by decide +kernel
theorem dX1_countBetween_21 : decode cX1_countBetween 21 = .ok (.iload_n 1, 1) := by decide +kernel
theorem dX1_countBetween_22 : decode cX1_countBetween 22 = .ok (.invokevirtual 112, 3) := by decide +kernel
theorem dX1_countBetween_25 : decode cX1_countBetween 25 = .ok (.iload_n 2, 1) := by decide +kernel
theorem dX1_countBetween_26 : decode cX1_countBetween 26 = .ok (.if_icmp .ne 7, 3) := by decide +kernel
theorem dX1_countBetween_29 : decode cX1_countBetween 29 = .ok (.iconst 1, 1) := by decide +kernel
theorem dX1_countBetween_30 : decode cX1_countBetween 30 = .ok (.goto 4, 3) := by decide +kernel
theorem dX1_countBetween_33 : decode cX1_countBetween 33 = .ok (.iconst 0, 1) := by decide +kernel
theorem dX1_countBetween_34 : decode cX1_countBetween 34 = .ok (.iadd, 1) := by decide +kernel
theorem dX1_countBetween_35 : decode cX1_countBetween 35 = .ok (.istore_n 3, 1) := by decide +kernel
theorem dX1_countBetween_36 : decode cX1_countBetween 36 = .ok (.iinc 4 1, 3) := by decide +kernel
theorem dX1_countBetween_39 : decode cX1_countBetween 39 = .ok (.goto (-34), 3) := by decide +kernel
theorem dX1_countBetween_42 : decode cX1_countBetween 42 = .ok (.iload_n 3, 1) := by decide +kernel
theorem dX1_countBetween_43 : decode cX1_countBetween 43 = .ok (.ireturn, 1) := by decide +kernel
theorem dX2_init_0 : decode cX2_init 0 = .ok (.aload_n 0, 1) := by decide +kernel
theorem dX2_init_1 : decode cX2_init 1 = .ok (.invokespecial 3, 3) := by decide +kernel
theorem dX2_init_4 : decode cX2_init 4 = .ok (.aload_n 0, 1) := by decide +kernel
theorem dX2_init_5 : decode cX2_init 5 = .ok (.bipush 64, 2) := by decide +kernel
theorem dX2_init_7 : decode cX2_init 7 = .ok (.newarray .int, 2) := by decide +kernel
theorem dX2_init_9 : decode cX2_init 9 = .ok (.putfield 9, 3) := by decide +kernel
theorem dX2_init_12 : decode cX2_init 12 = .ok (.aload_n 0, 1) := by decide +kernel
theorem dX2_init_13 : decode cX2_init 13 = .ok (.bipush 8, 2) := by decide +kernel
theorem dX2_init_15 : decode cX2_init 15 = .ok (.newarray .int, 2) := by decide +kernel
theorem dX2_init_17 : decode cX2_init 17 = .ok (.putfield 15, 3) := by decide +kernel
theorem dX2_init_20 : decode cX2_init 20 = .ok (.aload_n 0, 1) := by decide +kernel
theorem dX2_init_21 : decode cX2_init 21 = .ok (.iconst 1, 1) := by decide +kernel
theorem dX2_init_22 : decode cX2_init 22 = .ok (.putfield 18, 3) := by decide +kernel
theorem dX2_init_25 : decode cX2_init 25 = .ok (.aload_n 0, 1) := by decide +kernel
theorem dX2_init_26 : decode cX2_init 26 = .ok (.iload_n 1, 1) := by decide +kernel
theorem dX2_init_27 : decode cX2_init 27 = .ok (.putfield 22, 3) := by decide +kernel
theorem dX2_init_30 : decode cX2_init 30 = .ok (.return_, 1) := by decide +kernel
theorem dX2_has_0 : decode cX2_has 0 = .ok (.iload_n 1, 1) := by decide +kernel
theorem dX2_has_1 : decode cX2_has 1 = .ok (.ifCond .lt 15, 3) := by decide +kernel
theorem dX2_has_4 : decode cX2_has 4 = .ok (.iload_n 1, 1) := by decide +kernel
theorem dX2_has_5 : decode cX2_has 5 = .ok (.aload_n 0, 1) := by decide +kernel
theorem dX2_has_6 : decode cX2_has 6 = .ok (.getfield 18, 3) := by decide +kernel
theorem dX2_has_9 : decode cX2_has 9 = .ok (.if_icmp .ge 7, 3) := by decide +kernel
theorem dX2_has_12 : decode cX2_has 12 = .ok (.iconst 1, 1) := by decide +kernel
theorem dX2_has_13 : decode cX2_has 13 = .ok (.goto 4, 3) := by decide +kernel
theorem dX2_has_16 : decode cX2_has 16 = .ok (.iconst 0, 1) := by decide +kernel
theorem dX2_has_17 : decode cX2_has 17 = .ok (.ireturn, 1) := by decide +kernel
theorem dX2_hasAll_0 : decode cX2_hasAll 0 = .ok (.iload_n 1, 1) := by decide +kernel
theorem dX2_hasAll_1 : decode cX2_hasAll 1 = .ok (.iconst 1, 1) := by decide +kernel
theorem dX2_hasAll_2 : decode cX2_hasAll 2 = .ok (.aload_n 0, 1) := by decide +kernel
theorem dX2_hasAll_3 : decode cX2_hasAll 3 = .ok (.getfield 18, 3) := by decide +kernel
theorem dX2_hasAll_6 : decode cX2_hasAll 6 = .ok (.ishl, 1) := by decide +kernel
theorem dX2_hasAll_7 : decode cX2_hasAll 7 = .ok (.iconst 1, 1) := by decide +kernel
theorem dX2_hasAll_8 : decode cX2_hasAll 8 = .ok (.isub, 1) := by decide +kernel
theorem dX2_hasAll_9 : decode cX2_hasAll 9 = .ok (.iconst (-1), 1) := by decide +kernel
theorem dX2_hasAll_10 : decode cX2_hasAll 10 = .ok (.ixor, 1) := by decide +kernel
theorem dX2_hasAll_11 : decode cX2_hasAll 11 = .ok (.iand, 1) := by decide +kernel
theorem dX2_hasAll_12 : decode cX2_hasAll 12 = .ok (.ifCond .ne 7, 3) := by decide +kernel
theorem dX2_hasAll_15 : decode cX2_hasAll 15 = .ok (.iconst 1, 1) := by decide +kernel
theorem dX2_hasAll_16 : decode cX2_hasAll 16 = .ok (.goto 4, 3) := by decide +kernel
theorem dX2_hasAll_19 : decode cX2_hasAll 19 = .ok (.iconst 0, 1) := by decide +kernel
theorem dX2_hasAll_20 : decode cX2_hasAll 20 = .ok (.ireturn, 1) := by decide +kernel
theorem dX2_product_0 : decode cX2_product 0 = .ok (.iload_n 1, 1) := by decide +kernel
theorem dX2_product_1 : decode cX2_product 1 = .ok (.bipush 8, 2) := by decide +kernel
theorem dX2_product_3 : decode cX2_product 3 = .ok (.imul, 1) := by decide +kernel
theorem dX2_product_4 : decode cX2_product 4 = .ok (.iload_n 2, 1) := by decide +kernel
theorem dX2_product_5 : decode cX2_product 5 = .ok (.iadd, 1) := by decide +kernel
theorem dX2_product_6 : decode cX2_product 6 = .ok (.istore_n 3, 1) := by decide +kernel
theorem dX2_product_7 : decode cX2_product 7 = .ok (.iload_n 3, 1) := by decide +kernel
theorem dX2_product_8 : decode cX2_product 8 = .ok (.ifCond .lt 21, 3) := by decide +kernel
theorem dX2_product_11 : decode cX2_product 11 = .ok (.iload_n 3, 1) := by decide +kernel
theorem dX2_product_12 : decode cX2_product 12 = .ok (.aload_n 0, 1) := by decide +kernel
theorem dX2_product_13 : decode cX2_product 13 = .ok (.getfield 9, 3) := by decide +kernel
theorem dX2_product_16 : decode cX2_product 16 = .ok (.arraylength, 1) := by decide +kernel
theorem dX2_product_17 : decode cX2_product 17 = .ok (.if_icmp .ge 12, 3) := by decide +kernel
theorem dX2_product_20 : decode cX2_product 20 = .ok (.aload_n 0, 1) := by decide +kernel
theorem dX2_product_21 : decode cX2_product 21 = .ok (.getfield 9, 3) := by decide +kernel
theorem dX2_product_24 : decode cX2_product 24 = .ok (.iload_n 3, 1) := by decide +kernel
theorem dX2_product_25 : decode cX2_product 25 = .ok (.iaload, 1) := by decide +kernel
theorem dX2_product_26 : decode cX2_product 26 = .ok (.goto 4, 3) := by decide +kernel
theorem dX2_product_29 : decode cX2_product 29 = .ok (.iconst 0, 1) := by decide +kernel
theorem dX2_product_30 : decode cX2_product 30 = .ok (.ireturn, 1) := by decide +kernel
theorem dX2_setProduct_0 : decode cX2_setProduct 0 = .ok (.iload_n 1, 1) := by decide +kernel
theorem dX2_setProduct_1 : decode cX2_setProduct 1 = .ok (.bipush 8, 2) := by decide +kernel
theorem dX2_setProduct_3 : decode cX2_setProduct 3 = .ok (.imul, 1) := by decide +kernel
theorem dX2_setProduct_4 : decode cX2_setProduct 4 = .ok (.iload_n 2, 1) := by decide +kernel
theorem dX2_setProduct_5 : decode cX2_setProduct 5 = .ok (.iadd, 1) := by decide +kernel
theorem dX2_setProduct_6 : decode cX2_setProduct 6 = .ok (.istore 4, 2) := by decide +kernel
theorem dX2_setProduct_8 : decode cX2_setProduct 8 = .ok (.iload 4, 2) := by decide +kernel
theorem dX2_setProduct_10 : decode cX2_setProduct 10 = .ok (.ifCond .lt 21, 3) := by decide +kernel
theorem dX2_setProduct_13 : decode cX2_setProduct 13 = .ok (.iload 4, 2) := by decide +kernel
theorem dX2_setProduct_15 : decode cX2_setProduct 15 = .ok (.aload_n 0, 1) := by decide +kernel
theorem dX2_setProduct_16 : decode cX2_setProduct 16 = .ok (.getfield 9, 3) := by decide +kernel
theorem dX2_setProduct_19 : decode cX2_setProduct 19 = .ok (.arraylength, 1) := by decide +kernel
theorem dX2_setProduct_20 : decode cX2_setProduct 20 = .ok (.if_icmp .ge 11, 3) := by decide +kernel
theorem dX2_setProduct_23 : decode cX2_setProduct 23 = .ok (.aload_n 0, 1) := by decide +kernel
theorem dX2_setProduct_24 : decode cX2_setProduct 24 = .ok (.getfield 9, 3) := by decide +kernel
theorem dX2_setProduct_27 : decode cX2_setProduct 27 = .ok (.iload 4, 2) := by decide +kernel
theorem dX2_setProduct_29 : decode cX2_setProduct 29 = .ok (.iload_n 3, 1) := by decide +kernel
theorem dX2_setProduct_30 : decode cX2_setProduct 30 = .ok (.iastore, 1) := by decide +kernel
theorem dX2_setProduct_31 : decode cX2_setProduct 31 = .ok (.return_, 1) := by decide +kernel
theorem dX2_opposite_0 : decode cX2_opposite 0 = .ok (.aload_n 0, 1) := by decide +kernel
theorem dX2_opposite_1 : decode cX2_opposite 1 = .ok (.getfield 15, 3) := by decide +kernel
theorem dX2_opposite_4 : decode cX2_opposite 4 = .ok (.iload_n 1, 1) := by decide +kernel
theorem dX2_opposite_5 : decode cX2_opposite 5 = .ok (.invokestatic 25, 3) := by decide +kernel
theorem dX2_opposite_8 : decode cX2_opposite 8 = .ok (.ireturn, 1) := by decide +kernel
theorem dX2_conjugateBy_0 : decode cX2_conjugateBy 0 = .ok (.aload_n 0, 1) := by decide +kernel
theorem dX2_conjugateBy_1 : decode cX2_conjugateBy 1 = .ok (.aload_n 0, 1) := by decide +kernel
theorem dX2_conjugateBy_2 : decode cX2_conjugateBy 2 = .ok (.iload_n 1, 1) := by decide +kernel
theorem dX2_conjugateBy_3 : decode cX2_conjugateBy 3 = .ok (.iload_n 2, 1) := by decide +kernel
theorem dX2_conjugateBy_4 : decode cX2_conjugateBy 4 = .ok (.invokevirtual 29, 3) := by decide +kernel
theorem dX2_conjugateBy_7 : decode cX2_conjugateBy 7 = .ok (.aload_n 0, 1) := by decide +kernel
theorem dX2_conjugateBy_8 : decode cX2_conjugateBy 8 = .ok (.iload_n 1, 1) := by decide +kernel
theorem dX2_conjugateBy_9 : decode cX2_conjugateBy 9 = .ok (.invokevirtual 33, 3) := by decide +kernel
theorem dX2_conjugateBy_12 : decode cX2_conjugateBy 12 = .ok (.invokevirtual 29, 3) := by decide +kernel
theorem dX2_conjugateBy_15 : decode cX2_conjugateBy 15 = .ok (.ireturn, 1) := by decide +kernel
theorem dX2_becomeCyclic_0 : decode cX2_becomeCyclic 0 = .ok (.aload_n 0, 1) := by decide +kernel
theorem dX2_becomeCyclic_1 : decode cX2_becomeCyclic 1 = .ok (.iload_n 1, 1) := by decide +kernel
theorem dX2_becomeCyclic_2 : decode cX2_becomeCyclic 2 = .ok (.putfield 18, 3) := by decide +kernel
theorem dX2_becomeCyclic_5 : decode cX2_becomeCyclic 5 = .ok (.iconst 0, 1) := by decide +kernel
theorem dX2_becomeCyclic_6 : decode cX2_becomeCyclic 6 = .ok (.istore_n 2, 1) := by decide +kernel
theorem dX2_becomeCyclic_7 : decode cX2_becomeCyclic 7 = .ok (.iload_n 2, 1) := by decide +kernel
theorem dX2_becomeCyclic_8 : decode cX2_becomeCyclic 8 = .ok (.iload_n 1, 1) := by decide +kernel
theorem dX2_becomeCyclic_9 : decode cX2_becomeCyclic 9 = .ok (.if_icmp .ge 35, 3) := by decide +kernel
theorem dX2_becomeCyclic_12 : decode cX2_becomeCyclic 12 = .ok (.iconst 0, 1) := by decide +kernel
theorem dX2_becomeCyclic_13 : decode cX2_becomeCyclic 13 = .ok (.istore_n 3, 1) := by decide +kernel
theorem dX2_becomeCyclic_14 : decode cX2_becomeCyclic 14 = .ok (.iload_n 3, 1) := by decide +kernel
theorem dX2_becomeCyclic_15 : decode cX2_becomeCyclic 15 = .ok (.iload_n 1, 1) := by decide +kernel
theorem dX2_becomeCyclic_16 : decode cX2_becomeCyclic 16 = .ok (.if_icmp .ge 22, 3) := by decide +kernel
theorem dX2_becomeCyclic_19 : decode cX2_becomeCyclic 19 = .ok (.aload_n 0, 1) := by decide +kernel
theorem dX2_becomeCyclic_20 : decode cX2_becomeCyclic 20 = .ok (.iload_n 2, 1) := by decide +kernel
theorem dX2_becomeCyclic_21 : decode cX2_becomeCyclic 21 = .ok (.iload_n 3, 1) := by decide +kernel
theorem dX2_becomeCyclic_22 : decode cX2_becomeCyclic 22 = .ok (.iload_n 2, 1) := by decide +kernel
theorem dX2_becomeCyclic_23 : decode cX2_becomeCyclic 23 = .ok (.iload_n 3, 1) := by decide +kernel
theorem dX2_becomeCyclic_24 : decode cX2_becomeCyclic 24 = .ok (.iadd, 1) := by decide +kernel
theorem dX2_becomeCyclic_25 : decode cX2_becomeCyclic 25 = .ok (.iload_n 1, 1) := by decide +kernel
theorem dX2_becomeCyclic_26 : decode cX2_becomeCyclic 26 = .ok (.invokestatic 37, 3) := by decide +kernel
theorem dX2_becomeCyclic_29 : decode cX2_becomeCyclic 29 = .ok (.invokevirtual 42, 3) := by decide +kernel
theorem dX2_becomeCyclic_32 : decode cX2_becomeCyclic 32 = .ok (.iinc 3 1, 3) := by decide +kernel
theorem dX2_becomeCyclic_35 : decode cX2_becomeCyclic 35 = .ok (.goto (-21), 3) := by decide +kernel
theorem dX2_becomeCyclic_38 : decode cX2_becomeCyclic 38 = .ok (.iinc 2 1, 3) := by decide +kernel
theorem dX2_becomeCyclic_41 : decode cX2_becomeCyclic 41 = .ok (.goto (-34), 3) := by decide +kernel
theorem dX2_becomeCyclic_44 : decode cX2_becomeCyclic 44 = .ok (.return_, 1) := by decide +kernel
theorem dX2_becomeDihedral_0 : decode cX2_becomeDihedral 0 = .ok (.aload_n 0, 1) := by decide +kernel
theorem dX2_becomeDihedral_1 : decode cX2_becomeDihedral 1 = .ok (.iconst 2, 1) := by decide +kernel
theorem dX2_becomeDihedral_2 : decode cX2_becomeDihedral 2 = .ok (.iload_n 1, 1) := by decide +kernel
theorem dX2_becomeDihedral_3 : decode cX2_becomeDihedral 3 = .ok (.imul, 1) := by decide +kernel
theorem dX2_becomeDihedral_4 : decode cX2_becomeDihedral 4 = .ok (.putfield 18, 3) := by decide +kernel
theorem dX2_becomeDihedral_7 : decode cX2_becomeDihedral 7 = .ok (.iconst 0, 1) := by decide +kernel
theorem dX2_becomeDihedral_8 : decode cX2_becomeDihedral 8 = .ok (.istore_n 2, 1) := by decide +kernel
theorem dX2_becomeDihedral_9 : decode cX2_becomeDihedral 9 = .ok (.iload_n 2, 1) := by decide +kernel
theorem dX2_becomeDihedral_10 : decode cX2_becomeDihedral 10 = .ok (.iload_n 1, 1) := by decide +kernel
theorem dX2_becomeDihedral_11 : decode cX2_becomeDihedral 11 = .ok (.if_icmp .ge 84, 3) := by decide +kernel
theorem dX2_becomeDihedral_14 : decode cX2_becomeDihedral 14 = .ok (.iconst 0, 1) := by decide +kernel
theorem dX2_becomeDihedral_15 : decode cX2_becomeDihedral 15 = .ok (.istore_n 3, 1) := by decide +kernel
theorem dX2_becomeDihedral_16 : decode cX2_becomeDihedral 16 = .ok (.iload_n 3, 1) := by decide +kernel
theorem dX2_becomeDihedral_17 : decode cX2_becomeDihedral 17 = .ok (.iload_n 1, 1) := by decide +kernel
theorem dX2_becomeDihedral_18 : decode cX2_becomeDihedral 18 = .ok (.if_icmp .ge 71, 3) := by decide +kernel
theorem dX2_becomeDihedral_21 : decode cX2_becomeDihedral 21 = .ok (.iload_n 2, 1) := by decide +kernel
theorem dX2_becomeDihedral_22 : decode cX2_becomeDihedral 22 = .ok (.iload_n 3, 1) := by decide +kernel
theorem dX2_becomeDihedral_23 : decode cX2_becomeDihedral 23 = .ok (.iadd, 1) := by decide +kernel
theorem dX2_becomeDihedral_24 : decode cX2_becomeDihedral 24 = .ok (.iload_n 1, 1) := by decide +kernel
theorem dX2_becomeDihedral_25 : decode cX2_becomeDihedral 25 = .ok (.invokestatic 37, 3) := by decide +kernel
theorem dX2_becomeDihedral_28 : decode cX2_becomeDihedral 28 = .ok (.istore 4, 2) := by decide +kernel
theorem dX2_becomeDihedral_30 : decode cX2_becomeDihedral 30 = .ok (.iload_n 2, 1) := by decide +kernel
theorem dX2_becomeDihedral_31 : decode cX2_becomeDihedral 31 = .ok (.iload_n 3, 1) := by decide +kernel
theorem dX2_becomeDihedral_32 : decode cX2_becomeDihedral 32 = .ok (.isub, 1) := by decide +kernel
theorem dX2_becomeDihedral_33 : decode cX2_becomeDihedral 33 = .ok (.iload_n 1, 1) := by decide +kernel
theorem dX2_becomeDihedral_34 : decode cX2_becomeDihedral 34 = .ok (.invokestatic 37, 3) := by decide +kernel
theorem dX2_becomeDihedral_37 : decode cX2_becomeDihedral 37 = .ok (.istore 5, 2) := by decide +kernel
theorem dX2_becomeDihedral_39 : decode cX2_becomeDihedral 39 = .ok (.aload_n 0, 1) := by decide +kernel
theorem dX2_becomeDihedral_40 : decode cX2_becomeDihedral 40 = .ok (.iload_n 2, 1) := by decide +kernel
theorem dX2_becomeDihedral_41 : decode cX2_becomeDihedral 41 = .ok (.iload_n 3, 1) := by decide +kernel
theorem dX2_becomeDihedral_42 : decode cX2_becomeDihedral 42 = .ok (.iload 4, 2) := by decide +kernel
theorem dX2_becomeDihedral_44 : decode cX2_becomeDihedral 44 = .ok (.invokevirtual 42, 3) := by decide +kernel
theorem dX2_becomeDihedral_47 : decode cX2_becomeDihedral 47 = .ok (.aload_n 0, 1) := by decide +kernel
theorem dX2_becomeDihedral_48 : decode cX2_becomeDihedral 48 = .ok (.iload_n 2, 1) := by decide +kernel
theorem dX2_becomeDihedral_49 : decode cX2_becomeDihedral 49 = .ok (.iload_n 1, 1) := by decide +kernel
theorem dX2_becomeDihedral_50 : decode cX2_becomeDihedral 50 = .ok (.iload_n 3, 1) := by decide +kernel
theorem dX2_becomeDihedral_51 : decode cX2_becomeDihedral 51 = .ok (.iadd, 1) := by decide +kernel
theorem dX2_becomeDihedral_52 : decode cX2_becomeDihedral 52 = .ok (.iload_n 1, 1) := by decide +kernel
theorem dX2_becomeDihedral_53 : decode cX2_becomeDihedral 53 = .ok (.iload 4, 2) := by decide +kernel
theorem dX2_becomeDihedral_55 : decode cX2_becomeDihedral 55 = .ok (.iadd, 1) := by decide +kernel
theorem dX2_becomeDihedral_56 : decode cX2_becomeDihedral 56 = .ok (.invokevirtual 42, 3) := by decide +kernel
theorem dX2_becomeDihedral_59 : decode cX2_becomeDihedral 59 = .ok (.aload_n 0, 1) := by decide +kernel
theorem dX2_becomeDihedral_60 : decode cX2_becomeDihedral 60 = .ok (.iload_n 1, 1) := by decide +kernel
theorem dX2_becomeDihedral_61 : decode cX2_becomeDihedral 61 = .ok (.iload_n 2, 1) := by decide +kernel
theorem dX2_becomeDihedral_62 : decode cX2_becomeDihedral 62 = .ok (.iadd, 1) := by decide +kernel
theorem dX2_becomeDihedral_63 : decode cX2_becomeDihedral 63 = .ok (.iload_n 3, 1) := by decide +kernel
theorem dX2_becomeDihedral_64 : decode cX2_becomeDihedral 64 = .ok (.iload_n 1, 1) := by decide +kernel
theorem dX2_becomeDihedral_65 : decode cX2_becomeDihedral 65 = .ok (.iload 5, 2) := by decide +kernel
theorem dX2_becomeDihedral_67 : decode cX2_becomeDihedral 67 = .ok (.iadd, 1) := by decide +kernel
theorem dX2_becomeDihedral_68 : decode cX2_becomeDihedral 68 = .ok (.invokevirtual 42, 3) := by decide +kernel
theorem dX2_becomeDihedral_71 : decode cX2_becomeDihedral 71 = .ok (.aload_n 0, 1) := by decide +kernel
theorem dX2_becomeDihedral_72 : decode cX2_becomeDihedral 72 = .ok (.iload_n 1, 1) := by decide +kernel
theorem dX2_becomeDihedral_73 : decode cX2_becomeDihedral 73 = .ok (.iload_n 2, 1) := by decide +kernel
theorem dX2_becomeDihedral_74 : decode cX2_becomeDihedral 74 = .ok (.iadd, 1) := by decide +kernel
theorem dX2_becomeDihedral_75 : decode cX2_becomeDihedral 75 = .ok (.iload_n 1, 1) := by decide +kernel
theorem dX2_becomeDihedral_76 : decode cX2_becomeDihedral 76 = .ok (.iload_n 3, 1) := by decide +kernel
theorem dX2_becomeDihedral_77 : decode cX2_becomeDihedral 77 = .ok (.iadd, 1) := by decide +kernel
theorem dX2_becomeDihedral_78 : decode cX2_becomeDihedral 78 = .ok (.iload 5, 2) := by decide +kernel
theorem dX2_becomeDihedral_80 : decode cX2_becomeDihedral 80 = .ok (.invokevirtual 42, 3) := by decide +kernel
theorem dX2_becomeDihedral_83 : decode cX2_becomeDihedral 83 = .ok (.iinc 3 1, 3) := by decide +kernel
theorem dX2_becomeDihedral_86 : decode cX2_becomeDihedral 86 = .ok (.goto (-70), 3) := by decide +kernel
theorem dX2_becomeDihedral_89 : decode cX2_becomeDihedral 89 = .ok (.iinc 2 1, 3) := by decide +kernel
theorem dX2_becomeDihedral_92 : decode cX2_becomeDihedral 92 = .ok (.goto (-83), 3) := by decide +kernel
theorem dX2_becomeDihedral_95 : decode cX2_becomeDihedral 95 = .ok (.return_, 1) := by decide +kernel
theorem dX2_becomeQuaternion_0 : decode cX2_becomeQuaternion 0 = .ok (.aload_n 0, 1) := by decide +kernel
theorem dX2_becomeQuaternion_1 : decode cX2_becomeQuaternion 1 = .ok (.bipush 8, 2) := by decide +kernel
theorem dX2_becomeQuaternion_3 : decode cX2_becomeQuaternion 3 = .ok (.putfield 18, 3) := by decide +kernel
theorem dX2_becomeQuaternion_6 : decode cX2_becomeQuaternion 6 = .ok (.iconst 0, 1) := by decide +kernel
theorem dX2_becomeQuaternion_7 : decode cX2_becomeQuaternion 7 = .ok (.istore_n 1, 1) := by decide +kernel
theorem dX2_becomeQuaternion_8 : decode cX2_becomeQuaternion 8 = .ok (.iload_n 1, 1) := by decide +kernel
theorem dX2_becomeQuaternion_9 : decode cX2_becomeQuaternion 9 = .ok (.bipush 8, 2) := by decide +kernel
theorem dX2_becomeQuaternion_11 : decode cX2_becomeQuaternion 11 = .ok (.if_icmp .ge 46, 3) := by decide +kernel
theorem dX2_becomeQuaternion_14 : decode cX2_becomeQuaternion 14 = .ok (.iconst 0, 1) := by decide +kernel
theorem dX2_becomeQuaternion_15 : decode cX2_becomeQuaternion 15 = .ok (.istore_n 2, 1) := by decide +kernel
theorem dX2_becomeQuaternion_16 : decode cX2_becomeQuaternion 16 = .ok (.iload_n 2, 1) := by decide +kernel
theorem dX2_becomeQuaternion_17 : decode cX2_becomeQuaternion 17 = .ok (.bipush 8, 2) := by decide +kernel
theorem dX2_becomeQuaternion_19 : decode cX2_becomeQuaternion 19 = .ok (.if_icmp .ge 32, 3) := by decide +kernel
theorem dX2_becomeQuaternion_22 : decode cX2_becomeQuaternion 22 = .ok (.aload_n 0, 1) := by decide +kernel
theorem dX2_becomeQuaternion_23 : decode cX2_becomeQuaternion 23 = .ok (.iload_n 1, 1) := by decide +kernel
theorem dX2_becomeQuaternion_24 : decode cX2_becomeQuaternion 24 = .ok (.iload_n 2, 1) := by decide +kernel
theorem dX2_becomeQuaternion_25 : decode cX2_becomeQuaternion 25 = .ok (.iload_n 1, 1) := by decide +kernel
theorem dX2_becomeQuaternion_26 : decode cX2_becomeQuaternion 26 = .ok (.iconst 4, 1) := by decide +kernel
theorem dX2_becomeQuaternion_27 : decode cX2_becomeQuaternion 27 = .ok (.iand, 1) := by decide +kernel
theorem dX2_becomeQuaternion_28 : decode cX2_becomeQuaternion 28 = .ok (.iload_n 2, 1) := by decide +kernel
theorem dX2_becomeQuaternion_29 : decode cX2_becomeQuaternion 29 = .ok (.iconst 4, 1) := by decide +kernel
theorem dX2_becomeQuaternion_30 : decode cX2_becomeQuaternion 30 = .ok (.iand, 1) := by decide +kernel
theorem dX2_becomeQuaternion_31 : decode cX2_becomeQuaternion 31 = .ok (.ixor, 1) := by decide +kernel
theorem dX2_becomeQuaternion_32 : decode cX2_becomeQuaternion 32 = .ok (.iload_n 1, 1) := by decide +kernel
theorem dX2_becomeQuaternion_33 : decode cX2_becomeQuaternion 33 = .ok (.iconst 3, 1) := by decide +kernel
theorem dX2_becomeQuaternion_34 : decode cX2_becomeQuaternion 34 = .ok (.iand, 1) := by decide +kernel
theorem dX2_becomeQuaternion_35 : decode cX2_becomeQuaternion 35 = .ok (.iload_n 2, 1) := by decide +kernel
theorem dX2_becomeQuaternion_36 : decode cX2_becomeQuaternion 36 = .ok (.iconst 3, 1) := by decide +kernel
theorem dX2_becomeQuaternion_37 : decode cX2_becomeQuaternion 37 = .ok (.iand, 1) := by decide +kernel
theorem dX2_becomeQuaternion_38 : decode cX2_becomeQuaternion 38 = .ok (.invokestatic 46, 3) := by decide +kernel
theorem dX2_becomeQuaternion_41 : decode cX2_becomeQuaternion 41 = .ok (.ixor, 1) := by decide +kernel
theorem dX2_becomeQuaternion_42 : decode cX2_becomeQuaternion 42 = .ok (.invokevirtual 42, 3) := by decide +kernel
theorem dX2_becomeQuaternion_45 : decode cX2_becomeQuaternion 45 = .ok (.iinc 2 1, 3) := by decide +kernel
theorem dX2_becomeQuaternion_48 : decode cX2_becomeQuaternion 48 = .ok (.goto (-32), 3) := by decide +kernel
theorem dX2_becomeQuaternion_51 : decode cX2_becomeQuaternion 51 = .ok (.iinc 1 1, 3) := by decide +kernel
theorem dX2_becomeQuaternion_54 : decode cX2_becomeQuaternion 54 = .ok (.goto (-46), 3) := by decide +kernel
theorem dX2_becomeQuaternion_57 : decode cX2_becomeQuaternion 57 = .ok (.return_, 1) := by decide +kernel
theorem dX2_productOfUnits_0 : decode cX2_productOfUnits 0 = .ok (.iload_n 0, 1) := by decide +kernel
theorem dX2_productOfUnits_1 : decode cX2_productOfUnits 1 = .ok (.ifCond .eq 7, 3) := by decide +kernel
theorem dX2_productOfUnits_4 : decode cX2_productOfUnits 4 = .ok (.iload_n 1, 1) := by decide +kernel
theorem dX2_productOfUnits_5 : decode cX2_productOfUnits 5 = .ok (.ifCond .ne 7, 3) := by decide +kernel
theorem dX2_productOfUnits_8 : decode cX2_productOfUnits 8 = .ok (.iload_n 0, 1) := by decide +kernel
theorem dX2_productOfUnits_9 : decode cX2_productOfUnits 9 = .ok (.iload_n 1, 1) := by decide +kernel
theorem dX2_productOfUnits_10 : decode cX2_productOfUnits 10 = .ok (.iadd, 1) := by decide +kernel
theorem dX2_productOfUnits_11 : decode cX2_productOfUnits 11 = .ok (.ireturn, 1) := by decide +kernel
theorem dX2_productOfUnits_12 : decode cX2_productOfUnits 12 = .ok (.iload_n 0, 1) := by decide +kernel
theorem dX2_productOfUnits_13 : decode cX2_productOfUnits 13 = .ok (.iload_n 1, 1) := by decide +kernel
theorem dX2_productOfUnits_14 : decode cX2_productOfUnits 14 = .ok (.if_icmp .ne 5, 3) := by decide +kernel
theorem dX2_productOfUnits_17 : decode cX2_productOfUnits 17 = .ok (.iconst 4, 1) := by decide +kernel
theorem dX2_productOfUnits_18 : decode cX2_productOfUnits 18 = .ok (.ireturn, 1) := by decide +kernel
theorem dX2_productOfUnits_19 : decode cX2_productOfUnits 19 = .ok (.bipush 6, 2) := by decide +kernel
theorem dX2_productOfUnits_21 : decode cX2_productOfUnits 21 = .ok (.iload_n 0, 1) := by decide +kernel
theorem dX2_productOfUnits_22 : decode cX2_productOfUnits 22 = .ok (.isub, 1) := by decide +kernel
theorem dX2_productOfUnits_23 : decode cX2_productOfUnits 23 = .ok (.iload_n 1, 1) := by decide +kernel
theorem dX2_productOfUnits_24 : decode cX2_productOfUnits 24 = .ok (.isub, 1) := by decide +kernel
theorem dX2_productOfUnits_25 : decode cX2_productOfUnits 25 = .ok (.istore_n 2, 1) := by decide +kernel
theorem dX2_productOfUnits_26 : decode cX2_productOfUnits 26 = .ok (.iload_n 0, 1) := by decide +kernel
theorem dX2_productOfUnits_27 : decode cX2_productOfUnits 27 = .ok (.iconst 1, 1) := by decide +kernel
theorem dX2_productOfUnits_28 : decode cX2_productOfUnits 28 = .ok (.if_icmp .ne 8, 3) := by decide +kernel
theorem dX2_productOfUnits_31 : decode cX2_productOfUnits 31 = .ok (.iload_n 1, 1) := by decide +kernel
theorem dX2_productOfUnits_32 : decode cX2_productOfUnits 32 = .ok (.iconst 2, 1) := by decide +kernel
theorem dX2_productOfUnits_33 : decode cX2_productOfUnits 33 = .ok (.if_icmp .eq 23, 3) := by decide +kernel
theorem dX2_productOfUnits_36 : decode cX2_productOfUnits 36 = .ok (.iload_n 0, 1) := by decide +kernel
theorem dX2_productOfUnits_37 : decode cX2_productOfUnits 37 = .ok (.iconst 2, 1) := by decide +kernel
theorem dX2_productOfUnits_38 : decode cX2_productOfUnits 38 = .ok (.if_icmp .ne 8, 3) := by decide +kernel
theorem dX2_productOfUnits_41 : decode cX2_productOfUnits 41 = .ok (.iload_n 1, 1) := by decide +kernel
theorem dX2_productOfUnits_42 : decode cX2_productOfUnits 42 = .ok (.iconst 3, 1) := by decide +kernel
theorem dX2_productOfUnits_43 : decode cX2_productOfUnits 43 = .ok (.if_icmp .eq 13, 3) := by decide +kernel
theorem dX2_productOfUnits_46 : decode cX2_productOfUnits 46 = .ok (.iload_n 0, 1) := by decide +kernel
theorem dX2_productOfUnits_47 : decode cX2_productOfUnits 47 = .ok (.iconst 3, 1) := by decide +kernel
theorem dX2_productOfUnits_48 : decode cX2_productOfUnits 48 = .ok (.if_icmp .ne 12, 3) := by decide +kernel
theorem dX2_productOfUnits_51 : decode cX2_productOfUnits 51 = .ok (.iload_n 1, 1) := by decide +kernel
theorem dX2_productOfUnits_52 : decode cX2_productOfUnits 52 = .ok (.iconst 1, 1) := by decide +kernel
theorem dX2_productOfUnits_53 : decode cX2_productOfUnits 53 = .ok (.if_icmp .ne 7, 3) := by decide +kernel
theorem dX2_productOfUnits_56 : decode cX2_productOfUnits 56 = .ok (.iconst 1, 1) := by decide +kernel
theorem dX2_productOfUnits_57 : decode cX2_productOfUnits 57 = .ok (.goto 4, 3) := by decide +kernel
theorem dX2_productOfUnits_60 : decode cX2_productOfUnits 60 = .ok (.iconst 0, 1) := by decide +kernel
theorem dX2_productOfUnits_61 : decode cX2_productOfUnits 61 = .ok (.istore_n 3, 1) := by decide +kernel
theorem dX2_productOfUnits_62 : decode cX2_productOfUnits 62 = .ok (.iload_n 3, 1) := by decide +kernel
theorem dX2_productOfUnits_63 : decode cX2_productOfUnits 63 = .ok (.ifCond .eq 7, 3) := by decide +kernel
theorem dX2_productOfUnits_66 : decode cX2_productOfUnits 66 = .ok (.iload_n 2, 1) := by decide +kernel
theorem dX2_productOfUnits_67 : decode cX2_productOfUnits 67 = .ok (.goto 6, 3) := by decide +kernel
theorem dX2_productOfUnits_70 : decode cX2_productOfUnits 70 = .ok (.iconst 4, 1) := by decide +kernel
theorem dX2_productOfUnits_71 : decode cX2_productOfUnits 71 = .ok (.iload_n 2, 1) := by decide +kernel
theorem dX2_productOfUnits_72 : decode cX2_productOfUnits 72 = .ok (.iadd, 1) := by decide +kernel
theorem dX2_productOfUnits_73 : decode cX2_productOfUnits 73 = .ok (.ireturn, 1) := by decide +kernel
theorem dX2_becomeProduct_0 : decode cX2_becomeProduct 0 = .ok (.aload_n 2, 1) := by decide +kernel
theorem dX2_becomeProduct_1 : decode cX2_becomeProduct 1 = .ok (.getfield 18, 3) := by decide +kernel
theorem dX2_becomeProduct_4 : decode cX2_becomeProduct 4 = .ok (.istore_n 3, 1) := by decide +kernel
theorem dX2_becomeProduct_5 : decode cX2_becomeProduct 5 = .ok (.aload_n 0, 1) := by decide +kernel
theorem dX2_becomeProduct_6 : decode cX2_becomeProduct 6 = .ok (.aload_n 1, 1) := by decide +kernel
theorem dX2_becomeProduct_7 : decode cX2_becomeProduct 7 = .ok (.getfield 18, 3) := by decide +kernel
theorem dX2_becomeProduct_10 : decode cX2_becomeProduct 10 = .ok (.iload_n 3, 1) := by decide +kernel
theorem dX2_becomeProduct_11 : decode cX2_becomeProduct 11 = .ok (.imul, 1) := by decide +kernel
theorem dX2_becomeProduct_12 : decode cX2_becomeProduct 12 = .ok (.putfield 18, 3) := by decide +kernel
theorem dX2_becomeProduct_15 : decode cX2_becomeProduct 15 = .ok (.iconst 0, 1) := by decide +kernel
theorem dX2_becomeProduct_16 : decode cX2_becomeProduct 16 = .ok (.istore 4, 2) := by decide +kernel
theorem dX2_becomeProduct_18 : decode cX2_becomeProduct 18 = .ok (.iload 4, 2) := by decide +kernel
theorem dX2_becomeProduct_20 : decode cX2_becomeProduct 20 = .ok (.aload_n 0, 1) := by decide +kernel
theorem dX2_becomeProduct_21 : decode cX2_becomeProduct 21 = .ok (.getfield 18, 3) := by decide +kernel
theorem dX2_becomeProduct_24 : decode cX2_becomeProduct 24 = .ok (.if_icmp .ge 78, 3) := by decide +kernel
theorem dX2_becomeProduct_27 : decode cX2_becomeProduct 27 = .ok (.iconst 0, 1) := by decide +kernel
theorem dX2_becomeProduct_28 : decode cX2_becomeProduct 28 = .ok (.istore 5, 2) := by decide +kernel
theorem dX2_becomeProduct_30 : decode cX2_becomeProduct 30 = .ok (.iload 5, 2) := by decide +kernel
theorem dX2_becomeProduct_32 : decode cX2_becomeProduct 32 = .ok (.aload_n 0, 1) := by decide +kernel
theorem dX2_becomeProduct_33 : decode cX2_becomeProduct 33 = .ok (.getfield 18, 3) := by decide +kernel
theorem dX2_becomeProduct_36 : decode cX2_becomeProduct 36 = .ok (.if_icmp .ge 60, 3) := by decide +kernel
theorem dX2_becomeProduct_39 : decode cX2_becomeProduct 39 = .ok (.aload_n 1, 1) := by decide +kernel
theorem dX2_becomeProduct_40 : decode cX2_becomeProduct 40 = .ok (.iload 4, 2) := by decide +kernel
theorem dX2_becomeProduct_42 : decode cX2_becomeProduct 42 = .ok (.iload_n 3, 1) := by decide +kernel
theorem dX2_becomeProduct_43 : decode cX2_becomeProduct 43 = .ok (.invokestatic 49, 3) := by decide +kernel
theorem dX2_becomeProduct_46 : decode cX2_becomeProduct 46 = .ok (.iload 5, 2) := by decide +kernel
theorem dX2_becomeProduct_48 : decode cX2_becomeProduct 48 = .ok (.iload_n 3, 1) := by decide +kernel
theorem dX2_becomeProduct_49 : decode cX2_becomeProduct 49 = .ok (.invokestatic 49, 3) := by decide +kernel
theorem dX2_becomeProduct_52 : decode cX2_becomeProduct 52 = .ok (.invokevirtual 29, 3) := by decide +kernel
theorem dX2_becomeProduct_55 : decode cX2_becomeProduct 55 = .ok (.istore 6, 2) := by decide +kernel
theorem dX2_becomeProduct_57 : decode cX2_becomeProduct 57 = .ok (.aload_n 2, 1) := by decide +kernel
theorem dX2_becomeProduct_58 : decode cX2_becomeProduct 58 = .ok (.iload 4, 2) := by decide +kernel
theorem dX2_becomeProduct_60 : decode cX2_becomeProduct 60 = .ok (.iload_n 3, 1) := by decide +kernel
theorem dX2_becomeProduct_61 : decode cX2_becomeProduct 61 = .ok (.invokestatic 37, 3) := by decide +kernel
theorem dX2_becomeProduct_64 : decode cX2_becomeProduct 64 = .ok (.iload 5, 2) := by decide +kernel
theorem dX2_becomeProduct_66 : decode cX2_becomeProduct 66 = .ok (.iload_n 3, 1) := by decide +kernel
theorem dX2_becomeProduct_67 : decode cX2_becomeProduct 67 = .ok (.invokestatic 37, 3) := by decide +kernel
theorem dX2_becomeProduct_70 : decode cX2_becomeProduct 70 = .ok (.invokevirtual 29, 3) := by decide +kernel
theorem dX2_becomeProduct_73 : decode cX2_becomeProduct 73 = .ok (.istore 7, 2) := by decide +kernel
theorem dX2_becomeProduct_75 : decode cX2_becomeProduct 75 = .ok (.aload_n 0, 1) := by decide +kernel
theorem dX2_becomeProduct_76 : decode cX2_becomeProduct 76 = .ok (.iload 4, 2) := by decide +kernel
theorem dX2_becomeProduct_78 : decode cX2_becomeProduct 78 = .ok (.iload 5, 2) := by decide +kernel
theorem dX2_becomeProduct_80 : decode cX2_becomeProduct 80 = .ok (.iload 6, 2) := by decide +kernel
theorem dX2_becomeProduct_82 : decode cX2_becomeProduct 82 = .ok (.iload_n 3, 1) := by decide +kernel
theorem dX2_becomeProduct_83 : decode cX2_becomeProduct 83 = .ok (.imul, 1) := by decide +kernel
theorem dX2_becomeProduct_84 : decode cX2_becomeProduct 84 = .ok (.iload 7, 2) := by decide +kernel
theorem dX2_becomeProduct_86 : decode cX2_becomeProduct 86 = .ok (.iadd, 1) := by decide +kernel
theorem dX2_becomeProduct_87 : decode cX2_becomeProduct 87 = .ok (.invokevirtual 42, 3) := by decide +kernel
theorem dX2_becomeProduct_90 : decode cX2_becomeProduct 90 = .ok (.iinc 5 1, 3) := by decide +kernel
theorem dX2_becomeProduct_93 : decode cX2_becomeProduct 93 = .ok (.goto (-63), 3) := by decide +kernel
theorem dX2_becomeProduct_96 : decode cX2_becomeProduct 96 = .ok (.iinc 4 1, 3) := by decide +kernel
theorem dX2_becomeProduct_99 : decode cX2_becomeProduct 99 = .ok (.goto (-81), 3) := by decide +kernel
theorem dX2_becomeProduct_102 : decode cX2_becomeProduct 102 = .ok (.return_, 1) := by decide +kernel
theorem dX2_findOpposites_0 : decode cX2_findOpposites 0 = .ok (.iconst 0, 1) := by decide +kernel
theorem dX2_findOpposites_1 : decode cX2_findOpposites 1 = .ok (.istore_n 1, 1) := by decide +kernel
theorem dX2_findOpposites_2 : decode cX2_findOpposites 2 = .ok (.iload_n 1, 1) := by decide +kernel
theorem dX2_findOpposites_3 : decode cX2_findOpposites 3 = .ok (.aload_n 0, 1) := by decide +kernel
theorem dX2_findOpposites_4 : decode cX2_findOpposites 4 = .ok (.getfield 18, 3) := by decide +kernel
theorem dX2_findOpposites_7 : decode cX2_findOpposites 7 = .ok (.if_icmp .ge 43, 3) := by decide +kernel
theorem dX2_findOpposites_10 : decode cX2_findOpposites 10 = .ok (.iconst 0, 1) := by decide +kernel
theorem dX2_findOpposites_11 : decode cX2_findOpposites 11 = .ok (.istore_n 2, 1) := by decide +kernel
theorem dX2_findOpposites_12 : decode cX2_findOpposites 12 = .ok (.iload_n 2, 1) := by decide +kernel
theorem dX2_findOpposites_13 : decode cX2_findOpposites 13 = .ok (.aload_n 0, 1) := by decide +kernel
theorem dX2_findOpposites_14 : decode cX2_findOpposites 14 = .ok (.getfield 18, 3) := by decide +kernel
theorem dX2_findOpposites_17 : decode cX2_findOpposites 17 = .ok (.if_icmp .ge 27, 3) := by decide +kernel
theorem dX2_findOpposites_20 : decode cX2_findOpposites 20 = .ok (.aload_n 0, 1) := by decide +kernel
theorem dX2_findOpposites_21 : decode cX2_findOpposites 21 = .ok (.iload_n 1, 1) := by decide +kernel
theorem dX2_findOpposites_22 : decode cX2_findOpposites 22 = .ok (.iload_n 2, 1) := by decide +kernel
theorem dX2_findOpposites_23 : decode cX2_findOpposites 23 = .ok (.invokevirtual 29, 3) := by decide +kernel
theorem dX2_findOpposites_26 : decode cX2_findOpposites 26 = .ok (.ifCond .ne 12, 3) := by decide +kernel
theorem dX2_findOpposites_29 : decode cX2_findOpposites 29 = .ok (.aload_n 0, 1) := by decide +kernel
theorem dX2_findOpposites_30 : decode cX2_findOpposites 30 = .ok (.getfield 15, 3) := by decide +kernel
theorem dX2_findOpposites_33 : decode cX2_findOpposites 33 = .ok (.iload_n 1, 1) := by decide +kernel
theorem dX2_findOpposites_34 : decode cX2_findOpposites 34 = .ok (.iload_n 2, 1) := by decide +kernel
theorem dX2_findOpposites_35 : decode cX2_findOpposites 35 = .ok (.invokestatic 52, 3) := by decide +kernel
theorem dX2_findOpposites_38 : decode cX2_findOpposites 38 = .ok (.iinc 2 1, 3) := by decide +kernel
theorem dX2_findOpposites_41 : decode cX2_findOpposites 41 = .ok (.goto (-29), 3) := by decide +kernel
theorem dX2_findOpposites_44 : decode cX2_findOpposites 44 = .ok (.iinc 1 1, 3) := by decide +kernel
theorem dX2_findOpposites_47 : decode cX2_findOpposites 47 = .ok (.goto (-45), 3) := by decide +kernel
theorem dX2_findOpposites_50 : decode cX2_findOpposites 50 = .ok (.return_, 1) := by decide +kernel
theorem dX2_period_0 : decode cX2_period 0 = .ok (.iconst 1, 1) := by decide +kernel
theorem dX2_period_1 : decode cX2_period 1 = .ok (.istore_n 2, 1) := by decide +kernel
theorem dX2_period_2 : decode cX2_period 2 = .ok (.iload_n 1, 1) := by decide +kernel
theorem dX2_period_3 : decode cX2_period 3 = .ok (.istore_n 3, 1) := by decide +kernel
theorem dX2_period_4 : decode cX2_period 4 = .ok (.iload_n 3, 1) := by decide +kernel
theorem dX2_period_5 : decode cX2_period 5 = .ok (.ifCond .eq 22, 3) := by decide +kernel
theorem dX2_period_8 : decode cX2_period 8 = .ok (.iload_n 2, 1) := by decide +kernel
theorem dX2_period_9 : decode cX2_period 9 = .ok (.bipush 8, 2) := by decide +kernel
theorem dX2_period_11 : decode cX2_period 11 = .ok (.if_icmp .ge 16, 3) := by decide +kernel
theorem dX2_period_14 : decode cX2_period 14 = .ok (.aload_n 0, 1) := by decide +kernel
theorem dX2_period_15 : decode cX2_period 15 = .ok (.iload_n 3, 1) := by decide +kernel
theorem dX2_period_16 : decode cX2_period 16 = .ok (.iload_n 1, 1) := by decide +kernel
theorem dX2_period_17 : decode cX2_period 17 = .ok (.invokevirtual 29, 3) := by decide +kernel
theorem dX2_period_20 : decode cX2_period 20 = .ok (.istore_n 3, 1) := by decide +kernel
theorem dX2_period_21 : decode cX2_period 21 = .ok (.iinc 2 1, 3) := by decide +kernel
theorem dX2_period_24 : decode cX2_period 24 = .ok (.goto (-20), 3) := by decide +kernel
theorem dX2_period_27 : decode cX2_period 27 = .ok (.iload_n 2, 1) := by decide +kernel
theorem dX2_period_28 : decode cX2_period 28 = .ok (.ireturn, 1) := by decide +kernel
theorem dX2_middle_0 : decode cX2_middle 0 = .ok (.iconst 0, 1) := by decide +kernel
theorem dX2_middle_1 : decode cX2_middle 1 = .ok (.istore_n 1, 1) := by decide +kernel
theorem dX2_middle_2 : decode cX2_middle 2 = .ok (.iconst 0, 1) := by decide +kernel
theorem dX2_middle_3 : decode cX2_middle 3 = .ok (.istore_n 2, 1) := by decide +kernel
theorem dX2_middle_4 : decode cX2_middle 4 = .ok (.iload_n 2, 1) := by decide +kernel
theorem dX2_middle_5 : decode cX2_middle 5 = .ok (.aload_n 0, 1) := by decide +kernel
theorem dX2_middle_6 : decode cX2_middle 6 = .ok (.getfield 18, 3) := by decide +kernel
theorem dX2_middle_9 : decode cX2_middle 9 = .ok (.if_icmp .ge 70, 3) := by decide +kernel
theorem dX2_middle_12 : decode cX2_middle 12 = .ok (.iconst 1, 1) := by decide +kernel
theorem dX2_middle_13 : decode cX2_middle 13 = .ok (.istore_n 3, 1) := by decide +kernel
theorem dX2_middle_14 : decode cX2_middle 14 = .ok (.iconst 0, 1) := by decide +kernel
theorem dX2_middle_15 : decode cX2_middle 15 = .ok (.istore 4, 2) := by decide +kernel
theorem dX2_middle_17 : decode cX2_middle 17 = .ok (.iload 4, 2) := by decide +kernel
theorem dX2_middle_19 : decode cX2_middle 19 = .ok (.aload_n 0, 1) := by decide +kernel
theorem dX2_middle_20 : decode cX2_middle 20 = .ok (.getfield 18, 3) := by decide +kernel
theorem dX2_middle_23 : decode cX2_middle 23 = .ok (.if_icmp .ge 36, 3) := by decide +kernel
theorem dX2_middle_26 : decode cX2_middle 26 = .ok (.iload_n 3, 1) := by decide +kernel
theorem dX2_middle_27 : decode cX2_middle 27 = .ok (.ifCond .eq 32, 3) := by decide +kernel
theorem dX2_middle_30 : decode cX2_middle 30 = .ok (.aload_n 0, 1) := by decide +kernel
theorem dX2_middle_31 : decode cX2_middle 31 = .ok (.iload_n 2, 1) := by decide +kernel
theorem dX2_middle_32 : decode cX2_middle 32 = .ok (.iload 4, 2) := by decide +kernel
theorem dX2_middle_34 : decode cX2_middle 34 = .ok (.invokevirtual 29, 3) := by decide +kernel
theorem dX2_middle_37 : decode cX2_middle 37 = .ok (.aload_n 0, 1) := by decide +kernel
theorem dX2_middle_38 : decode cX2_middle 38 = .ok (.iload 4, 2) := by decide +kernel
theorem dX2_middle_40 : decode cX2_middle 40 = .ok (.iload_n 2, 1) := by decide +kernel
theorem dX2_middle_41 : decode cX2_middle 41 = .ok (.invokevirtual 29, 3) := by decide +kernel
theorem dX2_middle_44 : decode cX2_middle 44 = .ok (.if_icmp .ne 7, 3) := by decide +kernel
theorem dX2_middle_47 : decode cX2_middle 47 = .ok (.iconst 1, 1) := by decide +kernel
theorem dX2_middle_48 : decode cX2_middle 48 = .ok (.goto 4, 3) := by decide +kernel
theorem dX2_middle_51 : decode cX2_middle 51 = .ok (.iconst 0, 1) := by decide +kernel
theorem dX2_middle_52 : decode cX2_middle 52 = .ok (.istore_n 3, 1) := by decide +kernel
theorem dX2_middle_53 : decode cX2_middle 53 = .ok (.iinc 4 1, 3) := by decide +kernel
theorem dX2_middle_56 : decode cX2_middle 56 = .ok (.goto (-39), 3) := by decide +kernel
theorem dX2_middle_59 : decode cX2_middle 59 = .ok (.iload_n 1, 1) := by decide +kernel
theorem dX2_middle_60 : decode cX2_middle 60 = .ok (.iload_n 3, 1) := by decide +kernel
theorem dX2_middle_61 : decode cX2_middle 61 = .ok (.ifCond .eq 9, 3) := by decide +kernel
theorem dX2_middle_64 : decode cX2_middle 64 = .ok (.iconst 1, 1) := by decide +kernel
theorem dX2_middle_65 : decode cX2_middle 65 = .ok (.iload_n 2, 1) := by decide +kernel
theorem dX2_middle_66 : decode cX2_middle 66 = .ok (.ishl, 1) := by decide +kernel
theorem dX2_middle_67 : decode cX2_middle 67 = .ok (.goto 4, 3) := by decide +kernel
theorem dX2_middle_70 : decode cX2_middle 70 = .ok (.iconst 0, 1) := by decide +kernel
theorem dX2_middle_71 : decode cX2_middle 71 = .ok (.ior, 1) := by decide +kernel
theorem dX2_middle_72 : decode cX2_middle 72 = .ok (.istore_n 1, 1) := by decide +kernel
theorem dX2_middle_73 : decode cX2_middle 73 = .ok (.iinc 2 1, 3) := by decide +kernel
theorem dX2_middle_76 : decode cX2_middle 76 = .ok (.goto (-72), 3) := by decide +kernel
theorem dX2_middle_79 : decode cX2_middle 79 = .ok (.iload_n 1, 1) := by decide +kernel
theorem dX2_middle_80 : decode cX2_middle 80 = .ok (.ireturn, 1) := by decide +kernel
theorem dX2_closure_0 : decode cX2_closure 0 = .ok (.iload_n 1, 1) := by decide +kernel
theorem dX2_closure_1 : decode cX2_closure 1 = .ok (.iconst 1, 1) := by decide +kernel
theorem dX2_closure_2 : decode cX2_closure 2 = .ok (.ior, 1) := by decide +kernel
theorem dX2_closure_3 : decode cX2_closure 3 = .ok (.istore_n 2, 1) := by decide +kernel
theorem dX2_closure_4 : decode cX2_closure 4 = .ok (.iconst 0, 1) := by decide +kernel
theorem dX2_closure_5 : decode cX2_closure 5 = .ok (.istore_n 3, 1) := by decide +kernel
theorem dX2_closure_6 : decode cX2_closure 6 = .ok (.iconst 0, 1) := by decide +kernel
theorem dX2_closure_7 : decode cX2_closure 7 = .ok (.istore 4, 2) := by decide +kernel
theorem dX2_closure_9 : decode cX2_closure 9 = .ok (.iload 4, 2) := by decide +kernel
theorem dX2_closure_11 : decode cX2_closure 11 = .ok (.bipush 8, 2) := by decide +kernel
theorem dX2_closure_13 : decode cX2_closure 13 = .ok (.if_icmp .gt 24, 3) := by decide +kernel
theorem dX2_closure_16 : decode cX2_closure 16 = .ok (.iload_n 2, 1) := by decide +kernel
theorem dX2_closure_17 : decode cX2_closure 17 = .ok (.iload_n 3, 1) := by decide +kernel
theorem dX2_closure_18 : decode cX2_closure 18 = .ok (.if_icmp .eq 19, 3) := by decide +kernel
theorem dX2_closure_21 : decode cX2_closure 21 = .ok (.iload_n 2, 1) := by decide +kernel
theorem dX2_closure_22 : decode cX2_closure 22 = .ok (.istore_n 3, 1) := by decide +kernel
theorem dX2_closure_23 : decode cX2_closure 23 = .ok (.iload_n 2, 1) := by decide +kernel
theorem dX2_closure_24 : decode cX2_closure 24 = .ok (.aload_n 0, 1) := by decide +kernel
theorem dX2_closure_25 : decode cX2_closure 25 = .ok (.iload_n 3, 1) := by decide +kernel
theorem dX2_closure_26 : decode cX2_closure 26 = .ok (.invokevirtual 66, 3) := by decide +kernel
theorem dX2_closure_29 : decode cX2_closure 29 = .ok (.ior, 1) := by decide +kernel
theorem dX2_closure_30 : decode cX2_closure 30 = .ok (.istore_n 2, 1) := by decide +kernel
theorem dX2_closure_31 : decode cX2_closure 31 = .ok (.iinc 4 1, 3) := by decide +kernel
theorem dX2_closure_34 : decode cX2_closure 34 = .ok (.goto (-25), 3) := by decide +kernel
theorem dX2_closure_37 : decode cX2_closure 37 = .ok (.iload_n 2, 1) := by decide +kernel
theorem dX2_closure_38 : decode cX2_closure 38 = .ok (.ireturn, 1) := by decide +kernel
theorem dX2_productsWithin_0 : decode cX2_productsWithin 0 = .ok (.iconst 0, 1) := by decide +kernel
theorem dX2_productsWithin_1 : decode cX2_productsWithin 1 = .ok (.istore_n 2, 1) := by decide +kernel
theorem dX2_productsWithin_2 : decode cX2_productsWithin 2 = .ok (.iconst 0, 1) := by decide +kernel
theorem dX2_productsWithin_3 : decode cX2_productsWithin 3 = .ok (.istore_n 3, 1) := by decide +kernel
theorem dX2_productsWithin_4 : decode cX2_productsWithin 4 = .ok (.iload_n 3, 1) := by decide +kernel
theorem dX2_productsWithin_5 : decode cX2_productsWithin 5 = .ok (.aload_n 0, 1) := by decide +kernel
theorem dX2_productsWithin_6 : decode cX2_productsWithin 6 = .ok (.getfield 18, 3) := by decide +kernel
theorem dX2_productsWithin_9 : decode cX2_productsWithin 9 = .ok (.if_icmp .ge 60, 3) := by decide +kernel
theorem dX2_productsWithin_12 : decode cX2_productsWithin 12 = .ok (.iconst 0, 1) := by decide +kernel
theorem dX2_productsWithin_13 : decode cX2_productsWithin 13 = .ok (.istore 4, 2) := by decide +kernel
theorem dX2_productsWithin_15 : decode cX2_productsWithin 15 = .ok (.iload 4, 2) := by decide +kernel
theorem dX2_productsWithin_17 : decode cX2_productsWithin 17 = .ok (.aload_n 0, 1) := by decide +kernel
theorem dX2_productsWithin_18 : decode cX2_productsWithin 18 = .ok (.getfield 18, 3) := by decide +kernel
theorem dX2_productsWithin_21 : decode cX2_productsWithin 21 = .ok (.if_icmp .ge 42, 3) := by decide +kernel
theorem dX2_productsWithin_24 : decode cX2_productsWithin 24 = .ok (.iload_n 1, 1) := by decide +kernel
theorem dX2_productsWithin_25 : decode cX2_productsWithin 25 = .ok (.iload_n 3, 1) := by decide +kernel
theorem dX2_productsWithin_26 : decode cX2_productsWithin 26 = .ok (.invokestatic 59, 3) := by decide +kernel
theorem dX2_productsWithin_29 : decode cX2_productsWithin 29 = .ok (.ifCond .eq 34, 3) := by decide +kernel
theorem dX2_productsWithin_32 : decode cX2_productsWithin 32 = .ok (.iload_n 2, 1) := by decide +kernel
theorem dX2_productsWithin_33 : decode cX2_productsWithin 33 = .ok (.iload_n 1, 1) := by decide +kernel
theorem dX2_productsWithin_34 : decode cX2_productsWithin 34 = .ok (.iload 4, 2) := by decide +kernel
theorem dX2_productsWithin_36 : decode cX2_productsWithin 36 = .ok (.invokestatic 59, 3) := by decide +kernel
theorem dX2_productsWithin_39 : decode cX2_productsWithin 39 = .ok (.ifCond .eq 15, 3) := by decide +kernel
theorem dX2_productsWithin_42 : decode cX2_productsWithin 42 = .ok (.iconst 1, 1) := by decide +kernel
theorem dX2_productsWithin_43 : decode cX2_productsWithin 43 = .ok (.aload_n 0, 1) := by decide +kernel
theorem dX2_productsWithin_44 : decode cX2_productsWithin 44 = .ok (.iload_n 3, 1) := by decide +kernel
theorem dX2_productsWithin_45 : decode cX2_productsWithin 45 = .ok (.iload 4, 2) := by decide +kernel
theorem dX2_productsWithin_47 : decode cX2_productsWithin 47 = .ok (.invokevirtual 29, 3) := by decide +kernel
theorem dX2_productsWithin_50 : decode cX2_productsWithin 50 = .ok (.ishl, 1) := by decide +kernel
theorem dX2_productsWithin_51 : decode cX2_productsWithin 51 = .ok (.goto 4, 3) := by decide +kernel
theorem dX2_productsWithin_54 : decode cX2_productsWithin 54 = .ok (.iconst 0, 1) := by decide +kernel
theorem dX2_productsWithin_55 : decode cX2_productsWithin 55 = .ok (.ior, 1) := by decide +kernel
theorem dX2_productsWithin_56 : decode cX2_productsWithin 56 = .ok (.istore_n 2, 1) := by decide +kernel
theorem dX2_productsWithin_57 : decode cX2_productsWithin 57 = .ok (.iinc 4 1, 3) := by decide +kernel
theorem dX2_productsWithin_60 : decode cX2_productsWithin 60 = .ok (.goto (-45), 3) := by decide +kernel
theorem dX2_productsWithin_63 : decode cX2_productsWithin 63 = .ok (.iinc 3 1, 3) := by decide +kernel
theorem dX2_productsWithin_66 : decode cX2_productsWithin 66 = .ok (.goto (-62), 3) := by decide +kernel
theorem dX2_productsWithin_69 : decode cX2_productsWithin 69 = .ok (.iload_n 2, 1) := by decide +kernel
theorem dX2_productsWithin_70 : decode cX2_productsWithin 70 = .ok (.ireturn, 1) := by decide +kernel
theorem dX3_init_0 : decode cX3_init 0 = .ok (.aload_n 0, 1) := by decide +kernel
theorem dX3_init_1 : decode cX3_init 1 = .ok (.invokespecial 3, 3) := by decide +kernel
theorem dX3_init_4 : decode cX3_init 4 = .ok (.aload_n 0, 1) := by decide +kernel
theorem dX3_init_5 : decode cX3_init 5 = .ok (.iload_n 1, 1) := by decide +kernel
theorem dX3_init_6 : decode cX3_init 6 = .ok (.newarray .long, 2) := by decide +kernel
theorem dX3_init_8 : decode cX3_init 8 = .ok (.putfield 9, 3) := by decide +kernel
theorem dX3_init_11 : decode cX3_init 11 = .ok (.aload_n 0, 1) := by decide +kernel
theorem dX3_init_12 : decode cX3_init 12 = .ok (.iload_n 1, 1) := by decide +kernel
theorem dX3_init_13 : decode cX3_init 13 = .ok (.newarray .int, 2) := by decide +kernel
theorem dX3_init_15 : decode cX3_init 15 = .ok (.putfield 15, 3) := by decide +kernel
theorem dX3_init_18 : decode cX3_init 18 = .ok (.return_, 1) := by decide +kernel
theorem dX3_isFull_0 : decode cX3_isFull 0 = .ok (.aload_n 0, 1) := by decide +kernel
theorem dX3_isFull_1 : decode cX3_isFull 1 = .ok (.getfield 19, 3) := by decide +kernel
theorem dX3_isFull_4 : decode cX3_isFull 4 = .ok (.aload_n 0, 1) := by decide +kernel
theorem dX3_isFull_5 : decode cX3_isFull 5 = .ok (.getfield 9, 3) := by decide +kernel
theorem dX3_isFull_8 : decode cX3_isFull 8 = .ok (.arraylength, 1) := by decide +kernel
theorem dX3_isFull_9 : decode cX3_isFull 9 = .ok (.if_icmp .lt 7, 3) := by decide +kernel
theorem dX3_isFull_12 : decode cX3_isFull 12 = .ok (.iconst 1, 1) := by decide +kernel
theorem dX3_isFull_13 : decode cX3_isFull 13 = .ok (.goto 4, 3) := by decide +kernel
theorem dX3_isFull_16 : decode cX3_isFull 16 = .ok (.iconst 0, 1) := by decide +kernel
theorem dX3_isFull_17 : decode cX3_isFull 17 = .ok (.ireturn, 1) := by decide +kernel
theorem dX3_has_0 : decode cX3_has 0 = .ok (.iload_n 1, 1) := by decide +kernel
theorem dX3_has_1 : decode cX3_has 1 = .ok (.ifCond .lt 24, 3) := by decide +kernel
theorem dX3_has_4 : decode cX3_has 4 = .ok (.iload_n 1, 1) := by decide +kernel
theorem dX3_has_5 : decode cX3_has 5 = .ok (.aload_n 0, 1) := by decide +kernel
theorem dX3_has_6 : decode cX3_has 6 = .ok (.getfield 19, 3) := by decide +kernel
theorem dX3_has_9 : decode cX3_has 9 = .ok (.if_icmp .ge 16, 3) := by decide +kernel
theorem dX3_has_12 : decode cX3_has 12 = .ok (.iload_n 1, 1) := by decide +kernel
theorem dX3_has_13 : decode cX3_has 13 = .ok (.aload_n 0, 1) := by decide +kernel
theorem dX3_has_14 : decode cX3_has 14 = .ok (.getfield 9, 3) := by decide +kernel
theorem dX3_has_17 : decode cX3_has 17 = .ok (.arraylength, 1) := by decide +kernel
theorem dX3_has_18 : decode cX3_has 18 = .ok (.if_icmp .ge 7, 3) := by decide +kernel
theorem dX3_has_21 : decode cX3_has 21 = .ok (.iconst 1, 1) := by decide +kernel
theorem dX3_has_22 : decode cX3_has 22 = .ok (.goto 4, 3) := by decide +kernel
theorem dX3_has_25 : decode cX3_has 25 = .ok (.iconst 0, 1) := by decide +kernel
theorem dX3_has_26 : decode cX3_has 26 = .ok (.ireturn, 1) := by decide +kernel
theorem dX3_lengthOf_0 : decode cX3_lengthOf 0 = .ok (.aload_n 0, 1) := by decide +kernel
theorem dX3_lengthOf_1 : decode cX3_lengthOf 1 = .ok (.getfield 15, 3) := by decide +kernel
theorem dX3_lengthOf_4 : decode cX3_lengthOf 4 = .ok (.iload_n 1, 1) := by decide +kernel
theorem dX3_lengthOf_5 : decode cX3_lengthOf 5 = .ok (.invokestatic 23, 3) := by decide +kernel
theorem dX3_lengthOf_8 : decode cX3_lengthOf 8 = .ok (.ireturn, 1) := by decide +kernel
theorem dX3_letterOf_0 : decode cX3_letterOf 0 = .ok (.aload_n 0, 1) := by decide +kernel
theorem dX3_letterOf_1 : decode cX3_letterOf 1 = .ok (.iload_n 1, 1) := by decide +kernel
theorem dX3_letterOf_2 : decode cX3_letterOf 2 = .ok (.invokevirtual 27, 3) := by decide +kernel
theorem dX3_letterOf_5 : decode cX3_letterOf 5 = .ok (.ifCond .ne 5, 3) := by decide +kernel
theorem dX3_letterOf_8 : decode cX3_letterOf 8 = .ok (.iconst 0, 1) := by decide +kernel
theorem dX3_letterOf_9 : decode cX3_letterOf 9 = .ok (.ireturn, 1) := by decide +kernel
theorem dX3_letterOf_10 : decode cX3_letterOf 10 = .ok (.aload_n 0, 1) := by decide +kernel
theorem dX3_letterOf_11 : decode cX3_letterOf 11 = .ok (.iload_n 1, 1) := by decide +kernel
theorem dX3_letterOf_12 : decode cX3_letterOf 12 = .ok (.invokevirtual 31, 3) := by decide +kernel
theorem dX3_letterOf_15 : decode cX3_letterOf 15 = .ok (.iconst 1, 1) := by decide +kernel
theorem dX3_letterOf_16 : decode cX3_letterOf 16 = .ok (.isub, 1) := by decide +kernel
theorem dX3_letterOf_17 : decode cX3_letterOf 17 = .ok (.iload_n 2, 1) := by decide +kernel
theorem dX3_letterOf_18 : decode cX3_letterOf 18 = .ok (.isub, 1) := by decide +kernel
theorem dX3_letterOf_19 : decode cX3_letterOf 19 = .ok (.istore_n 3, 1) := by decide +kernel
theorem dX3_letterOf_20 : decode cX3_letterOf 20 = .ok (.bipush 96, 2) := by decide +kernel
theorem dX3_letterOf_22 : decode cX3_letterOf 22 = .ok (.aload_n 0, 1) := by decide +kernel
theorem dX3_letterOf_23 : decode cX3_letterOf 23 = .ok (.getfield 9, 3) := by decide +kernel
theorem dX3_letterOf_26 : decode cX3_letterOf 26 = .ok (.iload_n 1, 1) := by decide +kernel
theorem dX3_letterOf_27 : decode cX3_letterOf 27 = .ok (.laload, 1) := by decide +kernel
theorem dX3_letterOf_28 : decode cX3_letterOf 28 = .ok (.iconst 5, 1) := by decide +kernel
theorem dX3_letterOf_29 : decode cX3_letterOf 29 = .ok (.iload_n 3, 1) := by decide +kernel
theorem dX3_letterOf_30 : decode cX3_letterOf 30 = .ok (.imul, 1) := by decide +kernel
theorem dX3_letterOf_31 : decode cX3_letterOf 31 = .ok (.lshr, 1) := by decide +kernel
theorem dX3_letterOf_32 : decode cX3_letterOf 32 = .ok (.ldc2_w 35, 3) := by decide +kernel
theorem dX3_letterOf_35 : decode cX3_letterOf 35 = .ok (.land, 1) := by decide +kernel
theorem dX3_letterOf_36 : decode cX3_letterOf 36 = .ok (.l2i, 1) := by decide +kernel
theorem dX3_letterOf_37 : decode cX3_letterOf 37 = .ok (.iadd, 1) := by decide +kernel
theorem dX3_letterOf_38 : decode cX3_letterOf 38 = .ok (.ireturn, 1) := by decide +kernel
theorem dX3_numberOf_0 : decode cX3_numberOf 0 = .ok (.iconst 0, 1) := by decide +kernel
theorem dX3_numberOf_1 : decode cX3_numberOf 1 = .ok (.istore_n 3, 1) := by decide +kernel
theorem dX3_numberOf_2 : decode cX3_numberOf 2 = .ok (.iload_n 3, 1) := by decide +kernel
theorem dX3_numberOf_3 : decode cX3_numberOf 3 = .ok (.aload_n 0, 1) := by decide +kernel
theorem dX3_numberOf_4 : decode cX3_numberOf 4 = .ok (.getfield 19, 3) := by decide +kernel
theorem dX3_numberOf_7 : decode cX3_numberOf 7 = .ok (.if_icmp .ge 31, 3) := by decide +kernel
theorem dX3_numberOf_10 : decode cX3_numberOf 10 = .ok (.iload_n 3, 1) := by decide +kernel
theorem dX3_numberOf_11 : decode cX3_numberOf 11 = .ok (.aload_n 0, 1) := by decide +kernel
theorem dX3_numberOf_12 : decode cX3_numberOf 12 = .ok (.getfield 9, 3) := by decide +kernel
theorem dX3_numberOf_15 : decode cX3_numberOf 15 = .ok (.arraylength, 1) := by decide +kernel
theorem dX3_numberOf_16 : decode cX3_numberOf 16 = .ok (.if_icmp .ge 22, 3) := by decide +kernel
theorem dX3_numberOf_19 : decode cX3_numberOf 19 = .ok (.aload_n 0, 1) := by decide +kernel
theorem dX3_numberOf_20 : decode cX3_numberOf 20 = .ok (.getfield 9, 3) := by decide +kernel
theorem dX3_numberOf_23 : decode cX3_numberOf 23 = .ok (.iload_n 3, 1) := by decide +kernel
theorem dX3_numberOf_24 : decode cX3_numberOf 24 = .ok (.laload, 1) := by decide +kernel
theorem dX3_numberOf_25 : decode cX3_numberOf 25 = .ok (.lload_n 1, 1) := by decide +kernel
theorem dX3_numberOf_26 : decode cX3_numberOf 26 = .ok (.lcmp, 1) := by decide +kernel
theorem dX3_numberOf_27 : decode cX3_numberOf 27 = .ok (.ifCond .ne 5, 3) := by decide +kernel
theorem dX3_numberOf_30 : decode cX3_numberOf 30 = .ok (.iload_n 3, 1) := by decide +kernel
theorem dX3_numberOf_31 : decode cX3_numberOf 31 = .ok (.ireturn, 1) := by decide +kernel
theorem dX3_numberOf_32 : decode cX3_numberOf 32 = .ok (.iinc 3 1, 3) := by decide +kernel
theorem dX3_numberOf_35 : decode cX3_numberOf 35 = .ok (.goto (-33), 3) := by decide +kernel
theorem dX3_numberOf_38 : decode cX3_numberOf 38 = .ok (.iconst (-1), 1) := by decide +kernel
theorem dX3_numberOf_39 : decode cX3_numberOf 39 = .ok (.ireturn, 1) := by decide +kernel
theorem dX3_noteNext_0 : decode cX3_noteNext 0 = .ok (.aload_n 0, 1) := by decide +kernel
theorem dX3_noteNext_1 : decode cX3_noteNext 1 = .ok (.getfield 19, 3) := by decide +kernel
theorem dX3_noteNext_4 : decode cX3_noteNext 4 = .ok (.aload_n 0, 1) := by decide +kernel
theorem dX3_noteNext_5 : decode cX3_noteNext 5 = .ok (.getfield 9, 3) := by decide +kernel
theorem dX3_noteNext_8 : decode cX3_noteNext 8 = .ok (.arraylength, 1) := by decide +kernel
theorem dX3_noteNext_9 : decode cX3_noteNext 9 = .ok (.if_icmp .ge 25, 3) := by decide +kernel
theorem dX3_noteNext_12 : decode cX3_noteNext 12 = .ok (.aload_n 0, 1) := by decide +kernel
theorem dX3_noteNext_13 : decode cX3_noteNext 13 = .ok (.getfield 9, 3) := by decide +kernel
theorem dX3_noteNext_16 : decode cX3_noteNext 16 = .ok (.aload_n 0, 1) := by decide +kernel
theorem dX3_noteNext_17 : decode cX3_noteNext 17 = .ok (.getfield 19, 3) := by decide +kernel
theorem dX3_noteNext_20 : decode cX3_noteNext 20 = .ok (.lload_n 1, 1) := by decide +kernel
theorem dX3_noteNext_21 : decode cX3_noteNext 21 = .ok (.lastore, 1) := by decide +kernel
theorem dX3_noteNext_22 : decode cX3_noteNext 22 = .ok (.aload_n 0, 1) := by decide +kernel
theorem dX3_noteNext_23 : decode cX3_noteNext 23 = .ok (.getfield 15, 3) := by decide +kernel
theorem dX3_noteNext_26 : decode cX3_noteNext 26 = .ok (.aload_n 0, 1) := by decide +kernel
theorem dX3_noteNext_27 : decode cX3_noteNext 27 = .ok (.getfield 19, 3) := by decide +kernel
theorem dX3_noteNext_30 : decode cX3_noteNext 30 = .ok (.iload_n 3, 1) := by decide +kernel
theorem dX3_noteNext_31 : decode cX3_noteNext 31 = .ok (.invokestatic 37, 3) := by decide +kernel
theorem dX3_noteNext_34 : decode cX3_noteNext 34 = .ok (.return_, 1) := by decide +kernel
theorem dX4_init_0 : decode cX4_init 0 = .ok (.aload_n 0, 1) := by decide +kernel
theorem dX4_init_1 : decode cX4_init 1 = .ok (.invokespecial 3, 3) := by decide +kernel
theorem dX4_init_4 : decode cX4_init 4 = .ok (.aload_n 0, 1) := by decide +kernel
theorem dX4_init_5 : decode cX4_init 5 = .ok (.bipush 8, 2) := by decide +kernel
theorem dX4_init_7 : decode cX4_init 7 = .ok (.newarray .int, 2) := by decide +kernel
theorem dX4_init_9 : decode cX4_init 9 = .ok (.putfield 9, 3) := by decide +kernel
theorem dX4_init_12 : decode cX4_init 12 = .ok (.aload_n 0, 1) := by decide +kernel
theorem dX4_init_13 : decode cX4_init 13 = .ok (.bipush 8, 2) := by decide +kernel
theorem dX4_init_15 : decode cX4_init 15 = .ok (.newarray .int, 2) := by decide +kernel
theorem dX4_init_17 : decode cX4_init 17 = .ok (.putfield 15, 3) := by decide +kernel
theorem dX4_init_20 : decode cX4_init 20 = .ok (.aload_n 0, 1) := by decide +kernel
theorem dX4_init_21 : decode cX4_init 21 = .ok (.bipush 9, 2) := by decide +kernel
theorem dX4_init_23 : decode cX4_init 23 = .ok (.newarray .int, 2) := by decide +kernel
theorem dX4_init_25 : decode cX4_init 25 = .ok (.putfield 18, 3) := by decide +kernel
theorem dX4_init_28 : decode cX4_init 28 = .ok (.aload_n 0, 1) := by decide +kernel
theorem dX4_init_29 : decode cX4_init 29 = .ok (.bipush 9, 2) := by decide +kernel
theorem dX4_init_31 : decode cX4_init 31 = .ok (.newarray .int, 2) := by decide +kernel
theorem dX4_init_33 : decode cX4_init 33 = .ok (.putfield 21, 3) := by decide +kernel
theorem dX4_init_36 : decode cX4_init 36 = .ok (.return_, 1) := by decide +kernel
theorem dX4_has_0 : decode cX4_has 0 = .ok (.iload_n 1, 1) := by decide +kernel
theorem dX4_has_1 : decode cX4_has 1 = .ok (.ifCond .lt 15, 3) := by decide +kernel
theorem dX4_has_4 : decode cX4_has 4 = .ok (.iload_n 1, 1) := by decide +kernel
theorem dX4_has_5 : decode cX4_has 5 = .ok (.aload_n 0, 1) := by decide +kernel
theorem dX4_has_6 : decode cX4_has 6 = .ok (.getfield 24, 3) := by decide +kernel
theorem dX4_has_9 : decode cX4_has 9 = .ok (.if_icmp .ge 7, 3) := by decide +kernel
theorem dX4_has_12 : decode cX4_has 12 = .ok (.iconst 1, 1) := by decide +kernel
theorem dX4_has_13 : decode cX4_has 13 = .ok (.goto 4, 3) := by decide +kernel
theorem dX4_has_16 : decode cX4_has 16 = .ok (.iconst 0, 1) := by decide +kernel
theorem dX4_has_17 : decode cX4_has 17 = .ok (.ireturn, 1) := by decide +kernel
theorem dX4_classHolding_0 : decode cX4_classHolding 0 = .ok (.aload_n 0, 1) := by decide +kernel
theorem dX4_classHolding_1 : decode cX4_classHolding 1 = .ok (.getfield 9, 3) := by decide +kernel
theorem dX4_classHolding_4 : decode cX4_classHolding 4 = .ok (.iload_n 1, 1) := by decide +kernel
theorem dX4_classHolding_5 : decode cX4_classHolding 5 = .ok (.invokestatic 28, 3) := by decide +kernel
theorem dX4_classHolding_8 : decode cX4_classHolding 8 = .ok (.ireturn, 1) := by decide +kernel
theorem dX4_leastOf_0 : decode cX4_leastOf 0 = .ok (.aload_n 0, 1) := by decide +kernel
theorem dX4_leastOf_1 : decode cX4_leastOf 1 = .ok (.getfield 15, 3) := by decide +kernel
theorem dX4_leastOf_4 : decode cX4_leastOf 4 = .ok (.iload_n 1, 1) := by decide +kernel
theorem dX4_leastOf_5 : decode cX4_leastOf 5 = .ok (.invokestatic 28, 3) := by decide +kernel
theorem dX4_leastOf_8 : decode cX4_leastOf 8 = .ok (.ireturn, 1) := by decide +kernel
theorem dX4_product_0 : decode cX4_product 0 = .ok (.aload_n 0, 1) := by decide +kernel
theorem dX4_product_1 : decode cX4_product 1 = .ok (.getfield 9, 3) := by decide +kernel
theorem dX4_product_4 : decode cX4_product 4 = .ok (.aload_n 1, 1) := by decide +kernel
theorem dX4_product_5 : decode cX4_product 5 = .ok (.aload_n 0, 1) := by decide +kernel
theorem dX4_product_6 : decode cX4_product 6 = .ok (.getfield 15, 3) := by decide +kernel
theorem dX4_product_9 : decode cX4_product 9 = .ok (.iload_n 2, 1) := by decide +kernel
theorem dX4_product_10 : decode cX4_product 10 = .ok (.invokestatic 28, 3) := by decide +kernel
theorem dX4_product_13 : decode cX4_product 13 = .ok (.aload_n 0, 1) := by decide +kernel
theorem dX4_product_14 : decode cX4_product 14 = .ok (.getfield 15, 3) := by decide +kernel
theorem dX4_product_17 : decode cX4_product 17 = .ok (.iload_n 3, 1) := by decide +kernel
theorem dX4_product_18 : decode cX4_product 18 = .ok (.invokestatic 28, 3) := by decide +kernel
theorem dX4_product_21 : decode cX4_product 21 = .ok (.invokevirtual 32, 3) := by decide +kernel
theorem dX4_product_24 : decode cX4_product 24 = .ok (.invokestatic 28, 3) := by decide +kernel
theorem dX4_product_27 : decode cX4_product 27 = .ok (.ireturn, 1) := by decide +kernel
theorem dX4_period_0 : decode cX4_period 0 = .ok (.iconst 1, 1) := by decide +kernel
theorem dX4_period_1 : decode cX4_period 1 = .ok (.istore_n 3, 1) := by decide +kernel
theorem dX4_period_2 : decode cX4_period 2 = .ok (.iload_n 2, 1) := by decide +kernel
theorem dX4_period_3 : decode cX4_period 3 = .ok (.istore 4, 2) := by decide +kernel
theorem dX4_period_5 : decode cX4_period 5 = .ok (.iload 4, 2) := by decide +kernel
theorem dX4_period_7 : decode cX4_period 7 = .ok (.ifCond .eq 25, 3) := by decide +kernel
theorem dX4_period_10 : decode cX4_period 10 = .ok (.iload_n 3, 1) := by decide +kernel
theorem dX4_period_11 : decode cX4_period 11 = .ok (.bipush 8, 2) := by decide +kernel
theorem dX4_period_13 : decode cX4_period 13 = .ok (.if_icmp .ge 19, 3) := by decide +kernel
theorem dX4_period_16 : decode cX4_period 16 = .ok (.aload_n 0, 1) := by decide +kernel
theorem dX4_period_17 : decode cX4_period 17 = .ok (.aload_n 1, 1) := by decide +kernel
theorem dX4_period_18 : decode cX4_period 18 = .ok (.iload 4, 2) := by decide +kernel
theorem dX4_period_20 : decode cX4_period 20 = .ok (.iload_n 2, 1) := by decide +kernel
theorem dX4_period_21 : decode cX4_period 21 = .ok (.invokevirtual 38, 3) := by decide +kernel
theorem dX4_period_24 : decode cX4_period 24 = .ok (.istore 4, 2) := by decide +kernel
theorem dX4_period_26 : decode cX4_period 26 = .ok (.iinc 3 1, 3) := by decide +kernel
theorem dX4_period_29 : decode cX4_period 29 = .ok (.goto (-24), 3) := by decide +kernel
theorem dX4_period_32 : decode cX4_period 32 = .ok (.iload_n 3, 1) := by decide +kernel
theorem dX4_period_33 : decode cX4_period 33 = .ok (.ireturn, 1) := by decide +kernel
theorem dX4_sortClasses_0 : decode cX4_sortClasses 0 = .ok (.aload_n 0, 1) := by decide +kernel
theorem dX4_sortClasses_1 : decode cX4_sortClasses 1 = .ok (.getfield 9, 3) := by decide +kernel
theorem dX4_sortClasses_4 : decode cX4_sortClasses 4 = .ok (.iconst (-1), 1) := by decide +kernel
theorem dX4_sortClasses_5 : decode cX4_sortClasses 5 = .ok (.invokestatic 41, 3) := by decide +kernel
theorem dX4_sortClasses_8 : decode cX4_sortClasses 8 = .ok (.aload_n 0, 1) := by decide +kernel
theorem dX4_sortClasses_9 : decode cX4_sortClasses 9 = .ok (.iconst 0, 1) := by decide +kernel
theorem dX4_sortClasses_10 : decode cX4_sortClasses 10 = .ok (.putfield 24, 3) := by decide +kernel
theorem dX4_sortClasses_13 : decode cX4_sortClasses 13 = .ok (.iconst 0, 1) := by decide +kernel
theorem dX4_sortClasses_14 : decode cX4_sortClasses 14 = .ok (.istore_n 2, 1) := by decide +kernel
theorem dX4_sortClasses_15 : decode cX4_sortClasses 15 = .ok (.iload_n 2, 1) := by decide +kernel
theorem dX4_sortClasses_16 : decode cX4_sortClasses 16 = .ok (.aload_n 1, 1) := by decide +kernel
theorem dX4_sortClasses_17 : decode cX4_sortClasses 17 = .ok (.getfield 47, 3) := by decide +kernel
theorem dX4_sortClasses_20 : decode cX4_sortClasses 20 = .ok (.getfield 53, 3) := by decide +kernel
theorem dX4_sortClasses_23 : decode cX4_sortClasses 23 = .ok (.if_icmp .ge 83, 3) := by decide +kernel
theorem dX4_sortClasses_26 : decode cX4_sortClasses 26 = .ok (.aload_n 0, 1) := by decide +kernel
theorem dX4_sortClasses_27 : decode cX4_sortClasses 27 = .ok (.iload_n 2, 1) := by decide +kernel
theorem dX4_sortClasses_28 : decode cX4_sortClasses 28 = .ok (.invokevirtual 56, 3) := by decide +kernel
theorem dX4_sortClasses_31 : decode cX4_sortClasses 31 = .ok (.iconst (-1), 1) := by decide +kernel
theorem dX4_sortClasses_32 : decode cX4_sortClasses 32 = .ok (.if_icmp .ne 68, 3) := by decide +kernel
theorem dX4_sortClasses_35 : decode cX4_sortClasses 35 = .ok (.aload_n 0, 1) := by decide +kernel
theorem dX4_sortClasses_36 : decode cX4_sortClasses 36 = .ok (.getfield 15, 3) := by decide +kernel
theorem dX4_sortClasses_39 : decode cX4_sortClasses 39 = .ok (.aload_n 0, 1) := by decide +kernel
theorem dX4_sortClasses_40 : decode cX4_sortClasses 40 = .ok (.getfield 24, 3) := by decide +kernel
theorem dX4_sortClasses_43 : decode cX4_sortClasses 43 = .ok (.iload_n 2, 1) := by decide +kernel
theorem dX4_sortClasses_44 : decode cX4_sortClasses 44 = .ok (.invokestatic 60, 3) := by decide +kernel
theorem dX4_sortClasses_47 : decode cX4_sortClasses 47 = .ok (.iconst 0, 1) := by decide +kernel
theorem dX4_sortClasses_48 : decode cX4_sortClasses 48 = .ok (.istore_n 3, 1) := by decide +kernel
theorem dX4_sortClasses_49 : decode cX4_sortClasses 49 = .ok (.iload_n 3, 1) := by decide +kernel
theorem dX4_sortClasses_50 : decode cX4_sortClasses 50 = .ok (.aload_n 1, 1) := by decide +kernel
theorem dX4_sortClasses_51 : decode cX4_sortClasses 51 = .ok (.getfield 64, 3) := by decide +kernel
theorem dX4_sortClasses_54 : decode cX4_sortClasses 54 = .ok (.getfield 53, 3) := by decide +kernel
theorem dX4_sortClasses_57 : decode cX4_sortClasses 57 = .ok (.if_icmp .ge 33, 3) := by decide +kernel
theorem dX4_sortClasses_60 : decode cX4_sortClasses 60 = .ok (.aload_n 0, 1) := by decide +kernel
theorem dX4_sortClasses_61 : decode cX4_sortClasses 61 = .ok (.getfield 9, 3) := by decide +kernel
theorem dX4_sortClasses_64 : decode cX4_sortClasses 64 = .ok (.aload_n 1, 1) := by decide +kernel
theorem dX4_sortClasses_65 : decode cX4_sortClasses 65 = .ok (.getfield 47, 3) := by decide +kernel
theorem dX4_sortClasses_68 : decode cX4_sortClasses 68 = .ok (.iload_n 2, 1) := by decide +kernel
theorem dX4_sortClasses_69 : decode cX4_sortClasses 69 = .ok (.aload_n 1, 1) := by decide +kernel
theorem dX4_sortClasses_70 : decode cX4_sortClasses 70 = .ok (.iload_n 3, 1) := by decide +kernel
theorem dX4_sortClasses_71 : decode cX4_sortClasses 71 = .ok (.invokevirtual 67, 3) := by decide +kernel
theorem dX4_sortClasses_74 : decode cX4_sortClasses 74 = .ok (.invokevirtual 32, 3) := by decide +kernel
theorem dX4_sortClasses_77 : decode cX4_sortClasses 77 = .ok (.aload_n 0, 1) := by decide +kernel
theorem dX4_sortClasses_78 : decode cX4_sortClasses 78 = .ok (.getfield 24, 3) := by decide +kernel
theorem dX4_sortClasses_81 : decode cX4_sortClasses 81 = .ok (.invokestatic 60, 3) := by decide +kernel
theorem dX4_sortClasses_84 : decode cX4_sortClasses 84 = .ok (.iinc 3 1, 3) := by decide +kernel
theorem dX4_sortClasses_87 : decode cX4_sortClasses 87 = .ok (.goto (-38), 3) := by decide +kernel
theorem dX4_sortClasses_90 : decode cX4_sortClasses 90 = .ok (.aload_n 0, 1) := by decide +kernel
theorem dX4_sortClasses_91 : decode cX4_sortClasses 91 = .ok (.dup, 1) := by decide +kernel
theorem dX4_sortClasses_92 : decode cX4_sortClasses 92 = .ok (.getfield 24, 3) := by decide +kernel
theorem dX4_sortClasses_95 : decode cX4_sortClasses 95 = .ok (.iconst 1, 1) := by decide +kernel
theorem dX4_sortClasses_96 : decode cX4_sortClasses 96 = .ok (.iadd, 1) := by decide +kernel
theorem dX4_sortClasses_97 : decode cX4_sortClasses 97 = .ok (.putfield 24, 3) := by decide +kernel
theorem dX4_sortClasses_100 : decode cX4_sortClasses 100 = .ok (.iinc 2 1, 3) := by decide +kernel
theorem dX4_sortClasses_103 : decode cX4_sortClasses 103 = .ok (.goto (-88), 3) := by decide +kernel
theorem dX4_sortClasses_106 : decode cX4_sortClasses 106 = .ok (.return_, 1) := by decide +kernel
theorem dX4_countOrders_0 : decode cX4_countOrders 0 = .ok (.aload_n 0, 1) := by decide +kernel
theorem dX4_countOrders_1 : decode cX4_countOrders 1 = .ok (.getfield 18, 3) := by decide +kernel
theorem dX4_countOrders_4 : decode cX4_countOrders 4 = .ok (.iconst 0, 1) := by decide +kernel
theorem dX4_countOrders_5 : decode cX4_countOrders 5 = .ok (.invokestatic 41, 3) := by decide +kernel
theorem dX4_countOrders_8 : decode cX4_countOrders 8 = .ok (.aload_n 0, 1) := by decide +kernel
theorem dX4_countOrders_9 : decode cX4_countOrders 9 = .ok (.getfield 21, 3) := by decide +kernel
theorem dX4_countOrders_12 : decode cX4_countOrders 12 = .ok (.iconst 0, 1) := by decide +kernel
theorem dX4_countOrders_13 : decode cX4_countOrders 13 = .ok (.invokestatic 41, 3) := by decide +kernel
theorem dX4_countOrders_16 : decode cX4_countOrders 16 = .ok (.iconst 0, 1) := by decide +kernel
theorem dX4_countOrders_17 : decode cX4_countOrders 17 = .ok (.istore_n 2, 1) := by decide +kernel
theorem dX4_countOrders_18 : decode cX4_countOrders 18 = .ok (.iload_n 2, 1) := by decide +kernel
theorem dX4_countOrders_19 : decode cX4_countOrders 19 = .ok (.aload_n 1, 1) := by decide +kernel
theorem dX4_countOrders_20 : decode cX4_countOrders 20 = .ok (.getfield 64, 3) := by decide +kernel
theorem dX4_countOrders_23 : decode cX4_countOrders 23 = .ok (.getfield 53, 3) := by decide +kernel
theorem dX4_countOrders_26 : decode cX4_countOrders 26 = .ok (.if_icmp .ge 32, 3) := by decide +kernel
theorem dX4_countOrders_29 : decode cX4_countOrders 29 = .ok (.aload_n 1, 1) := by decide +kernel
theorem dX4_countOrders_30 : decode cX4_countOrders 30 = .ok (.iload_n 2, 1) := by decide +kernel
theorem dX4_countOrders_31 : decode cX4_countOrders 31 = .ok (.invokevirtual 67, 3) := by decide +kernel
theorem dX4_countOrders_34 : decode cX4_countOrders 34 = .ok (.ifCond .ne 18, 3) := by decide +kernel
theorem dX4_countOrders_37 : decode cX4_countOrders 37 = .ok (.aload_n 0, 1) := by decide +kernel
theorem dX4_countOrders_38 : decode cX4_countOrders 38 = .ok (.getfield 18, 3) := by decide +kernel
theorem dX4_countOrders_41 : decode cX4_countOrders 41 = .ok (.aload_n 1, 1) := by decide +kernel
theorem dX4_countOrders_42 : decode cX4_countOrders 42 = .ok (.getfield 64, 3) := by decide +kernel
theorem dX4_countOrders_45 : decode cX4_countOrders 45 = .ok (.iload_n 2, 1) := by decide +kernel
theorem dX4_countOrders_46 : decode cX4_countOrders 46 = .ok (.invokevirtual 70, 3) := by decide +kernel
theorem dX4_countOrders_49 : decode cX4_countOrders 49 = .ok (.invokestatic 73, 3) := by decide +kernel
theorem dX4_countOrders_52 : decode cX4_countOrders 52 = .ok (.iinc 2 1, 3) := by decide +kernel
theorem dX4_countOrders_55 : decode cX4_countOrders 55 = .ok (.goto (-37), 3) := by decide +kernel
theorem dX4_countOrders_58 : decode cX4_countOrders 58 = .ok (.iconst 0, 1) := by decide +kernel
theorem dX4_countOrders_59 : decode cX4_countOrders 59 = .ok (.istore_n 2, 1) := by decide +kernel
theorem dX4_countOrders_60 : decode cX4_countOrders 60 = .ok (.iload_n 2, 1) := by decide +kernel
theorem dX4_countOrders_61 : decode cX4_countOrders 61 = .ok (.aload_n 0, 1) := by decide +kernel
theorem dX4_countOrders_62 : decode cX4_countOrders 62 = .ok (.getfield 24, 3) := by decide +kernel
theorem dX4_countOrders_65 : decode cX4_countOrders 65 = .ok (.if_icmp .ge 25, 3) := by decide +kernel
theorem dX4_countOrders_68 : decode cX4_countOrders 68 = .ok (.aload_n 0, 1) := by decide +kernel
theorem dX4_countOrders_69 : decode cX4_countOrders 69 = .ok (.getfield 21, 3) := by decide +kernel
theorem dX4_countOrders_72 : decode cX4_countOrders 72 = .ok (.aload_n 0, 1) := by decide +kernel
theorem dX4_countOrders_73 : decode cX4_countOrders 73 = .ok (.aload_n 1, 1) := by decide +kernel
theorem dX4_countOrders_74 : decode cX4_countOrders 74 = .ok (.getfield 47, 3) := by decide +kernel
theorem dX4_countOrders_77 : decode cX4_countOrders 77 = .ok (.iload_n 2, 1) := by decide +kernel
theorem dX4_countOrders_78 : decode cX4_countOrders 78 = .ok (.invokevirtual 76, 3) := by decide +kernel
theorem dX4_countOrders_81 : decode cX4_countOrders 81 = .ok (.invokestatic 73, 3) := by decide +kernel
theorem dX4_countOrders_84 : decode cX4_countOrders 84 = .ok (.iinc 2 1, 3) := by decide +kernel
theorem dX4_countOrders_87 : decode cX4_countOrders 87 = .ok (.goto (-27), 3) := by decide +kernel
theorem dX4_countOrders_90 : decode cX4_countOrders 90 = .ok (.return_, 1) := by decide +kernel
theorem dX4_addOne_0 : decode cX4_addOne 0 = .ok (.aload_n 0, 1) := by decide +kernel
theorem dX4_addOne_1 : decode cX4_addOne 1 = .ok (.iload_n 1, 1) := by decide +kernel
theorem dX4_addOne_2 : decode cX4_addOne 2 = .ok (.aload_n 0, 1) := by decide +kernel
theorem dX4_addOne_3 : decode cX4_addOne 3 = .ok (.iload_n 1, 1) := by decide +kernel
theorem dX4_addOne_4 : decode cX4_addOne 4 = .ok (.invokestatic 28, 3) := by decide +kernel
theorem dX4_addOne_7 : decode cX4_addOne 7 = .ok (.iconst 1, 1) := by decide +kernel
theorem dX4_addOne_8 : decode cX4_addOne 8 = .ok (.iadd, 1) := by decide +kernel
theorem dX4_addOne_9 : decode cX4_addOne 9 = .ok (.invokestatic 60, 3) := by decide +kernel
theorem dX4_addOne_12 : decode cX4_addOne 12 = .ok (.return_, 1) := by decide +kernel
theorem dX4_matches_0 : decode cX4_matches 0 = .ok (.iconst 1, 1) := by decide +kernel
theorem dX4_matches_1 : decode cX4_matches 1 = .ok (.istore_n 2, 1) := by decide +kernel
theorem dX4_matches_2 : decode cX4_matches 2 = .ok (.iconst 1, 1) := by decide +kernel
theorem dX4_matches_3 : decode cX4_matches 3 = .ok (.istore_n 3, 1) := by decide +kernel
theorem dX4_matches_4 : decode cX4_matches 4 = .ok (.iload_n 3, 1) := by decide +kernel
theorem dX4_matches_5 : decode cX4_matches 5 = .ok (.bipush 8, 2) := by decide +kernel
theorem dX4_matches_7 : decode cX4_matches 7 = .ok (.if_icmp .gt 57, 3) := by decide +kernel
theorem dX4_matches_10 : decode cX4_matches 10 = .ok (.iload_n 2, 1) := by decide +kernel
theorem dX4_matches_11 : decode cX4_matches 11 = .ok (.ifCond .eq 53, 3) := by decide +kernel
theorem dX4_matches_14 : decode cX4_matches 14 = .ok (.aload_n 0, 1) := by decide +kernel
theorem dX4_matches_15 : decode cX4_matches 15 = .ok (.getfield 18, 3) := by decide +kernel
theorem dX4_matches_18 : decode cX4_matches 18 = .ok (.iload_n 3, 1) := by decide +kernel
theorem dX4_matches_19 : decode cX4_matches 19 = .ok (.invokestatic 28, 3) := by decide +kernel
theorem dX4_matches_22 : decode cX4_matches 22 = .ok (.aload_n 1, 1) := by decide +kernel
theorem dX4_matches_23 : decode cX4_matches 23 = .ok (.getfield 18, 3) := by decide +kernel
theorem dX4_matches_26 : decode cX4_matches 26 = .ok (.iload_n 3, 1) := by decide +kernel
theorem dX4_matches_27 : decode cX4_matches 27 = .ok (.invokestatic 28, 3) := by decide +kernel
theorem dX4_matches_30 : decode cX4_matches 30 = .ok (.if_icmp .ne 26, 3) := by decide +kernel
theorem dX4_matches_33 : decode cX4_matches 33 = .ok (.aload_n 0, 1) := by decide +kernel
theorem dX4_matches_34 : decode cX4_matches 34 = .ok (.getfield 21, 3) := by decide +kernel
theorem dX4_matches_37 : decode cX4_matches 37 = .ok (.iload_n 3, 1) := by decide +kernel
theorem dX4_matches_38 : decode cX4_matches 38 = .ok (.invokestatic 28, 3) := by decide +kernel
theorem dX4_matches_41 : decode cX4_matches 41 = .ok (.aload_n 1, 1) := by decide +kernel
theorem dX4_matches_42 : decode cX4_matches 42 = .ok (.getfield 21, 3) := by decide +kernel
theorem dX4_matches_45 : decode cX4_matches 45 = .ok (.iload_n 3, 1) := by decide +kernel
theorem dX4_matches_46 : decode cX4_matches 46 = .ok (.invokestatic 28, 3) := by decide +kernel
theorem dX4_matches_49 : decode cX4_matches 49 = .ok (.if_icmp .ne 7, 3) := by decide +kernel
theorem dX4_matches_52 : decode cX4_matches 52 = .ok (.iconst 1, 1) := by decide +kernel
theorem dX4_matches_53 : decode cX4_matches 53 = .ok (.goto 4, 3) := by decide +kernel
theorem dX4_matches_56 : decode cX4_matches 56 = .ok (.iconst 0, 1) := by decide +kernel
theorem dX4_matches_57 : decode cX4_matches 57 = .ok (.istore_n 2, 1) := by decide +kernel
theorem dX4_matches_58 : decode cX4_matches 58 = .ok (.iinc 3 1, 3) := by decide +kernel
theorem dX4_matches_61 : decode cX4_matches 61 = .ok (.goto (-57), 3) := by decide +kernel
theorem dX4_matches_64 : decode cX4_matches 64 = .ok (.iload_n 2, 1) := by decide +kernel
theorem dX4_matches_65 : decode cX4_matches 65 = .ok (.ireturn, 1) := by decide +kernel
theorem dX5_init_0 : decode cX5_init 0 = .ok (.aload_n 0, 1) := by decide +kernel
theorem dX5_init_1 : decode cX5_init 1 = .ok (.invokespecial 3, 3) := by decide +kernel
theorem dX5_init_4 : decode cX5_init 4 = .ok (.aload_n 0, 1) := by decide +kernel
theorem dX5_init_5 : decode cX5_init 5 = .ok (.iconst (-1), 1) := by decide +kernel
theorem dX5_init_6 : decode cX5_init 6 = .ok (.putfield 9, 3) := by decide +kernel
theorem dX5_init_9 : decode cX5_init 9 = .ok (.aload_n 0, 1) := by decide +kernel
theorem dX5_init_10 : decode cX5_init 10 = .ok (.aload_n 1, 1) := by decide +kernel
theorem dX5_init_11 : decode cX5_init 11 = .ok (.putfield 15, 3) := by decide +kernel
theorem dX5_init_14 : decode cX5_init 14 = .ok (.aload_n 0, 1) := by decide +kernel
theorem dX5_init_15 : decode cX5_init 15 = .ok (.aload_n 2, 1) := by decide +kernel
theorem dX5_init_16 : decode cX5_init 16 = .ok (.putfield 19, 3) := by decide +kernel
theorem dX5_init_19 : decode cX5_init 19 = .ok (.return_, 1) := by decide +kernel
theorem dX5_refuse_0 : decode cX5_refuse 0 = .ok (.aload_n 0, 1) := by decide +kernel
theorem dX5_refuse_1 : decode cX5_refuse 1 = .ok (.iload_n 1, 1) := by decide +kernel
theorem dX5_refuse_2 : decode cX5_refuse 2 = .ok (.putfield 23, 3) := by decide +kernel
theorem dX5_refuse_5 : decode cX5_refuse 5 = .ok (.aload_n 0, 1) := by decide +kernel
theorem dX5_refuse_6 : decode cX5_refuse 6 = .ok (.aload_n 0, 1) := by decide +kernel
theorem dX5_refuse_7 : decode cX5_refuse 7 = .ok (.getfield 15, 3) := by decide +kernel
theorem dX5_refuse_10 : decode cX5_refuse 10 = .ok (.getfield 26, 3) := by decide +kernel
theorem dX5_refuse_13 : decode cX5_refuse 13 = .ok (.putfield 9, 3) := by decide +kernel
theorem dX5_refuse_16 : decode cX5_refuse 16 = .ok (.iconst 0, 1) := by decide +kernel
theorem dX5_refuse_17 : decode cX5_refuse 17 = .ok (.ireturn, 1) := by decide +kernel
theorem dX5_readText_0 : decode cX5_readText 0 = .ok (.aload_n 0, 1) := by decide +kernel
theorem dX5_readText_1 : decode cX5_readText 1 = .ok (.getfield 15, 3) := by decide +kernel
theorem dX5_readText_4 : decode cX5_readText 4 = .ok (.invokevirtual 31, 3) := by decide +kernel
theorem dX5_readText_7 : decode cX5_readText 7 = .ok (.aload_n 0, 1) := by decide +kernel
theorem dX5_readText_8 : decode cX5_readText 8 = .ok (.getfield 15, 3) := by decide +kernel
theorem dX5_readText_11 : decode cX5_readText 11 = .ok (.ldc 34, 2) := by decide +kernel
theorem dX5_readText_13 : decode cX5_readText 13 = .ok (.invokevirtual 36, 3) := by decide +kernel
theorem dX5_readText_16 : decode cX5_readText 16 = .ok (.ifCond .ne 9, 3) := by decide +kernel
theorem dX5_readText_19 : decode cX5_readText 19 = .ok (.aload_n 0, 1) := by decide +kernel
theorem dX5_readText_20 : decode cX5_readText 20 = .ok (.iconst 1, 1) := by decide +kernel
theorem dX5_readText_21 : decode cX5_readText 21 = .ok (.invokevirtual 40, 3) := by decide +kernel
theorem dX5_readText_24 : decode cX5_readText 24 = .ok (.ireturn, 1) := by decide +kernel
theorem dX5_readText_25 : decode cX5_readText 25 = .ok (.aload_n 0, 1) := by decide +kernel
theorem dX5_readText_26 : decode cX5_readText 26 = .ok (.getfield 15, 3) := by decide +kernel
theorem dX5_readText_29 : decode cX5_readText 29 = .ok (.invokevirtual 31, 3) := by decide +kernel
theorem dX5_readText_32 : decode cX5_readText 32 = .ok (.iconst 0, 1) := by decide +kernel
theorem dX5_readText_33 : decode cX5_readText 33 = .ok (.istore_n 1, 1) := by decide +kernel
theorem dX5_readText_34 : decode cX5_readText 34 = .ok (.iload_n 1, 1) := by decide +kernel
theorem dX5_readText_35 : decode cX5_readText 35 = .ok (.sipush 900, 3) := by decide +kernel
theorem dX5_readText_38 : decode cX5_readText 38 = .ok (.if_icmp .ge 36, 3) := by decide +kernel
theorem dX5_readText_41 : decode cX5_readText 41 = .ok (.aload_n 0, 1) := by decide +kernel
theorem dX5_readText_42 : decode cX5_readText 42 = .ok (.getfield 15, 3) := by decide +kernel
theorem dX5_readText_45 : decode cX5_readText 45 = .ok (.getfield 44, 3) := by decide +kernel
theorem dX5_readText_48 : decode cX5_readText 48 = .ok (.iconst 3, 1) := by decide +kernel
theorem dX5_readText_49 : decode cX5_readText 49 = .ok (.if_icmp .ne 25, 3) := by decide +kernel
theorem dX5_readText_52 : decode cX5_readText 52 = .ok (.aload_n 0, 1) := by decide +kernel
theorem dX5_readText_53 : decode cX5_readText 53 = .ok (.getfield 15, 3) := by decide +kernel
theorem dX5_readText_56 : decode cX5_readText 56 = .ok (.invokevirtual 31, 3) := by decide +kernel
theorem dX5_readText_59 : decode cX5_readText 59 = .ok (.aload_n 0, 1) := by decide +kernel
theorem dX5_readText_60 : decode cX5_readText 60 = .ok (.invokevirtual 47, 3) := by decide +kernel
theorem dX5_readText_63 : decode cX5_readText 63 = .ok (.ifCond .ne 5, 3) := by decide +kernel
theorem dX5_readText_66 : decode cX5_readText 66 = .ok (.iconst 0, 1) := by decide +kernel
theorem dX5_readText_67 : decode cX5_readText 67 = .ok (.ireturn, 1) := by decide +kernel
theorem dX5_readText_68 : decode cX5_readText 68 = .ok (.iinc 1 1, 3) := by decide +kernel
theorem dX5_readText_71 : decode cX5_readText 71 = .ok (.goto (-37), 3) := by decide +kernel
theorem dX5_readText_74 : decode cX5_readText 74 = .ok (.aload_n 0, 1) := by decide +kernel
theorem dX5_readText_75 : decode cX5_readText 75 = .ok (.getfield 15, 3) := by decide +kernel
theorem dX5_readText_78 : decode cX5_readText 78 = .ok (.getfield 44, 3) := by decide +kernel
theorem dX5_readText_81 : decode cX5_readText 81 = .ok (.ifCond .eq 11, 3) := by decide +kernel
theorem dX5_readText_84 : decode cX5_readText 84 = .ok (.aload_n 0, 1) := by decide +kernel
theorem dX5_readText_85 : decode cX5_readText 85 = .ok (.iconst 1, 1) := by decide +kernel
theorem dX5_readText_86 : decode cX5_readText 86 = .ok (.invokevirtual 40, 3) := by decide +kernel
theorem dX5_readText_89 : decode cX5_readText 89 = .ok (.ifCond .eq 7, 3) := by decide +kernel
theorem dX5_readText_92 : decode cX5_readText 92 = .ok (.iconst 1, 1) := by decide +kernel
theorem dX5_readText_93 : decode cX5_readText 93 = .ok (.goto 4, 3) := by decide +kernel
theorem dX5_readText_96 : decode cX5_readText 96 = .ok (.iconst 0, 1) := by decide +kernel
theorem dX5_readText_97 : decode cX5_readText 97 = .ok (.ireturn, 1) := by decide +kernel
theorem dX5_readLine_0 : decode cX5_readLine 0 = .ok (.aload_n 0, 1) := by decide +kernel
theorem dX5_readLine_1 : decode cX5_readLine 1 = .ok (.getfield 15, 3) := by decide +kernel
theorem dX5_readLine_4 : decode cX5_readLine 4 = .ok (.ldc 51, 2) := by decide +kernel
theorem dX5_readLine_6 : decode cX5_readLine 6 = .ok (.invokevirtual 36, 3) := by decide +kernel
theorem dX5_readLine_9 : decode cX5_readLine 9 = .ok (.ifCond .eq 8, 3) := by decide +kernel
theorem dX5_readLine_12 : decode cX5_readLine 12 = .ok (.aload_n 0, 1) := by decide +kernel
theorem dX5_readLine_13 : decode cX5_readLine 13 = .ok (.invokevirtual 53, 3) := by decide +kernel
theorem dX5_readLine_16 : decode cX5_readLine 16 = .ok (.ireturn, 1) := by decide +kernel
theorem dX5_readLine_17 : decode cX5_readLine 17 = .ok (.aload_n 0, 1) := by decide +kernel
theorem dX5_readLine_18 : decode cX5_readLine 18 = .ok (.getfield 15, 3) := by decide +kernel
theorem dX5_readLine_21 : decode cX5_readLine 21 = .ok (.ldc 56, 2) := by decide +kernel
theorem dX5_readLine_23 : decode cX5_readLine 23 = .ok (.invokevirtual 36, 3) := by decide +kernel
theorem dX5_readLine_26 : decode cX5_readLine 26 = .ok (.ifCond .eq 8, 3) := by decide +kernel
theorem dX5_readLine_29 : decode cX5_readLine 29 = .ok (.aload_n 0, 1) := by decide +kernel
theorem dX5_readLine_30 : decode cX5_readLine 30 = .ok (.invokevirtual 58, 3) := by decide +kernel
theorem dX5_readLine_33 : decode cX5_readLine 33 = .ok (.ireturn, 1) := by decide +kernel
theorem dX5_readLine_34 : decode cX5_readLine 34 = .ok (.aload_n 0, 1) := by decide +kernel
theorem dX5_readLine_35 : decode cX5_readLine 35 = .ok (.getfield 15, 3) := by decide +kernel
theorem dX5_readLine_38 : decode cX5_readLine 38 = .ok (.ldc 61, 2) := by decide +kernel
theorem dX5_readLine_40 : decode cX5_readLine 40 = .ok (.invokevirtual 36, 3) := by decide +kernel
theorem dX5_readLine_43 : decode cX5_readLine 43 = .ok (.ifCond .eq 8, 3) := by decide +kernel
theorem dX5_readLine_46 : decode cX5_readLine 46 = .ok (.aload_n 0, 1) := by decide +kernel
theorem dX5_readLine_47 : decode cX5_readLine 47 = .ok (.invokevirtual 63, 3) := by decide +kernel
theorem dX5_readLine_50 : decode cX5_readLine 50 = .ok (.ireturn, 1) := by decide +kernel
theorem dX5_readLine_51 : decode cX5_readLine 51 = .ok (.aload_n 0, 1) := by decide +kernel
theorem dX5_readLine_52 : decode cX5_readLine 52 = .ok (.getfield 15, 3) := by decide +kernel
theorem dX5_readLine_55 : decode cX5_readLine 55 = .ok (.ldc 66, 2) := by decide +kernel
theorem dX5_readLine_57 : decode cX5_readLine 57 = .ok (.invokevirtual 36, 3) := by decide +kernel
theorem dX5_readLine_60 : decode cX5_readLine 60 = .ok (.ifCond .eq 10, 3) := by decide +kernel
theorem dX5_readLine_63 : decode cX5_readLine 63 = .ok (.aload_n 0, 1) := by decide +kernel
theorem dX5_readLine_64 : decode cX5_readLine 64 = .ok (.invokevirtual 68, 3) := by decide +kernel
theorem dX5_readLine_67 : decode cX5_readLine 67 = .ok (.goto 8, 3) := by decide +kernel
theorem dX5_readLine_70 : decode cX5_readLine 70 = .ok (.aload_n 0, 1) := by decide +kernel
theorem dX5_readLine_71 : decode cX5_readLine 71 = .ok (.iconst 1, 1) := by decide +kernel
theorem dX5_readLine_72 : decode cX5_readLine 72 = .ok (.invokevirtual 40, 3) := by decide +kernel
theorem dX5_readLine_75 : decode cX5_readLine 75 = .ok (.ireturn, 1) := by decide +kernel
theorem dX5_readGroup_0 : decode cX5_readGroup 0 = .ok (.aload_n 0, 1) := by decide +kernel
theorem dX5_readGroup_1 : decode cX5_readGroup 1 = .ok (.getfield 19, 3) := by decide +kernel
theorem dX5_readGroup_4 : decode cX5_readGroup 4 = .ok (.getfield 71, 3) := by decide +kernel
theorem dX5_readGroup_7 : decode cX5_readGroup 7 = .ok (.astore_n 1, 1) := by decide +kernel
theorem dX5_readGroup_8 : decode cX5_readGroup 8 = .ok (.aload_n 0, 1) := by decide +kernel
theorem dX5_readGroup_9 : decode cX5_readGroup 9 = .ok (.aload_n 1, 1) := by decide +kernel
theorem dX5_readGroup_10 : decode cX5_readGroup 10 = .ok (.invokevirtual 77, 3) := by decide +kernel
theorem dX5_readGroup_13 : decode cX5_readGroup 13 = .ok (.ifCond .ne 5, 3) := by decide +kernel
theorem dX5_readGroup_16 : decode cX5_readGroup 16 = .ok (.iconst 0, 1) := by decide +kernel
theorem dX5_readGroup_17 : decode cX5_readGroup 17 = .ok (.ireturn, 1) := by decide +kernel
theorem dX5_readGroup_18 : decode cX5_readGroup 18 = .ok (.aload_n 0, 1) := by decide +kernel
theorem dX5_readGroup_19 : decode cX5_readGroup 19 = .ok (.getfield 19, 3) := by decide +kernel
theorem dX5_readGroup_22 : decode cX5_readGroup 22 = .ok (.getfield 81, 3) := by decide +kernel
theorem dX5_readGroup_25 : decode cX5_readGroup 25 = .ok (.aload_n 1, 1) := by decide +kernel
theorem dX5_readGroup_26 : decode cX5_readGroup 26 = .ok (.getfield 85, 3) := by decide +kernel
theorem dX5_readGroup_29 : decode cX5_readGroup 29 = .ok (.aaload, 1) := by decide +kernel
theorem dX5_readGroup_30 : decode cX5_readGroup 30 = .ok (.astore_n 2, 1) := by decide +kernel
theorem dX5_readGroup_31 : decode cX5_readGroup 31 = .ok (.aload_n 0, 1) := by decide +kernel
theorem dX5_readGroup_32 : decode cX5_readGroup 32 = .ok (.getfield 15, 3) := by decide +kernel
theorem dX5_readGroup_35 : decode cX5_readGroup 35 = .ok (.ldc 90, 2) := by decide +kernel
theorem dX5_readGroup_37 : decode cX5_readGroup 37 = .ok (.invokevirtual 36, 3) := by decide +kernel
theorem dX5_readGroup_40 : decode cX5_readGroup 40 = .ok (.ifCond .eq 12, 3) := by decide +kernel
theorem dX5_readGroup_43 : decode cX5_readGroup 43 = .ok (.aload_n 0, 1) := by decide +kernel
theorem dX5_readGroup_44 : decode cX5_readGroup 44 = .ok (.aload_n 2, 1) := by decide +kernel
theorem dX5_readGroup_45 : decode cX5_readGroup 45 = .ok (.invokevirtual 92, 3) := by decide +kernel
theorem dX5_readGroup_48 : decode cX5_readGroup 48 = .ok (.istore_n 3, 1) := by decide +kernel
theorem dX5_readGroup_49 : decode cX5_readGroup 49 = .ok (.goto 71, 3) := by decide +kernel
theorem dX5_readGroup_52 : decode cX5_readGroup 52 = .ok (.aload_n 0, 1) := by decide +kernel
theorem dX5_readGroup_53 : decode cX5_readGroup 53 = .ok (.getfield 15, 3) := by decide +kernel
theorem dX5_readGroup_56 : decode cX5_readGroup 56 = .ok (.ldc 96, 2) := by decide +kernel
theorem dX5_readGroup_58 : decode cX5_readGroup 58 = .ok (.invokevirtual 36, 3) := by decide +kernel
theorem dX5_readGroup_61 : decode cX5_readGroup 61 = .ok (.ifCond .eq 12, 3) := by decide +kernel
theorem dX5_readGroup_64 : decode cX5_readGroup 64 = .ok (.aload_n 0, 1) := by decide +kernel
theorem dX5_readGroup_65 : decode cX5_readGroup 65 = .ok (.aload_n 2, 1) := by decide +kernel
theorem dX5_readGroup_66 : decode cX5_readGroup 66 = .ok (.invokevirtual 98, 3) := by decide +kernel
theorem dX5_readGroup_69 : decode cX5_readGroup 69 = .ok (.istore_n 3, 1) := by decide +kernel
theorem dX5_readGroup_70 : decode cX5_readGroup 70 = .ok (.goto 50, 3) := by decide +kernel
theorem dX5_readGroup_73 : decode cX5_readGroup 73 = .ok (.aload_n 0, 1) := by decide +kernel
theorem dX5_readGroup_74 : decode cX5_readGroup 74 = .ok (.getfield 15, 3) := by decide +kernel
theorem dX5_readGroup_77 : decode cX5_readGroup 77 = .ok (.ldc 101, 2) := by decide +kernel
theorem dX5_readGroup_79 : decode cX5_readGroup 79 = .ok (.invokevirtual 36, 3) := by decide +kernel
theorem dX5_readGroup_82 : decode cX5_readGroup 82 = .ok (.ifCond .eq 12, 3) := by decide +kernel
theorem dX5_readGroup_85 : decode cX5_readGroup 85 = .ok (.aload_n 0, 1) := by decide +kernel
theorem dX5_readGroup_86 : decode cX5_readGroup 86 = .ok (.aload_n 2, 1) := by decide +kernel
theorem dX5_readGroup_87 : decode cX5_readGroup 87 = .ok (.invokevirtual 103, 3) := by decide +kernel
theorem dX5_readGroup_90 : decode cX5_readGroup 90 = .ok (.istore_n 3, 1) := by decide +kernel
theorem dX5_readGroup_91 : decode cX5_readGroup 91 = .ok (.goto 29, 3) := by decide +kernel
theorem dX5_readGroup_94 : decode cX5_readGroup 94 = .ok (.aload_n 0, 1) := by decide +kernel
theorem dX5_readGroup_95 : decode cX5_readGroup 95 = .ok (.getfield 15, 3) := by decide +kernel
theorem dX5_readGroup_98 : decode cX5_readGroup 98 = .ok (.ldc 106, 2) := by decide +kernel
theorem dX5_readGroup_100 : decode cX5_readGroup 100 = .ok (.invokevirtual 36, 3) := by decide +kernel
theorem dX5_readGroup_103 : decode cX5_readGroup 103 = .ok (.ifCond .eq 11, 3) := by decide +kernel
theorem dX5_readGroup_106 : decode cX5_readGroup 106 = .ok (.aload_n 0, 1) := by decide +kernel
theorem dX5_readGroup_107 : decode cX5_readGroup 107 = .ok (.aload_n 2, 1) := by decide +kernel
theorem dX5_readGroup_108 : decode cX5_readGroup 108 = .ok (.invokevirtual 108, 3) := by decide +kernel
theorem dX5_readGroup_111 : decode cX5_readGroup 111 = .ok (.goto 8, 3) := by decide +kernel
theorem dX5_readGroup_114 : decode cX5_readGroup 114 = .ok (.aload_n 0, 1) := by decide +kernel
theorem dX5_readGroup_115 : decode cX5_readGroup 115 = .ok (.iconst 1, 1) := by decide +kernel
theorem dX5_readGroup_116 : decode cX5_readGroup 116 = .ok (.invokevirtual 40, 3) := by decide +kernel
theorem dX5_readGroup_119 : decode cX5_readGroup 119 = .ok (.istore_n 3, 1) := by decide +kernel
theorem dX5_readGroup_120 : decode cX5_readGroup 120 = .ok (.aload_n 1, 1) := by decide +kernel
theorem dX5_readGroup_121 : decode cX5_readGroup 121 = .ok (.dup, 1) := by decide +kernel
theorem dX5_readGroup_122 : decode cX5_readGroup 122 = .ok (.getfield 85, 3) := by decide +kernel
theorem dX5_readGroup_125 : decode cX5_readGroup 125 = .ok (.iload_n 3, 1) := by decide +kernel
theorem dX5_readGroup_126 : decode cX5_readGroup 126 = .ok (.ifCond .eq 7, 3) := by decide +kernel
theorem dX5_readGroup_129 : decode cX5_readGroup 129 = .ok (.iconst 1, 1) := by decide +kernel
theorem dX5_readGroup_130 : decode cX5_readGroup 130 = .ok (.goto 4, 3) := by decide +kernel
theorem dX5_readGroup_133 : decode cX5_readGroup 133 = .ok (.iconst 0, 1) := by decide +kernel
theorem dX5_readGroup_134 : decode cX5_readGroup 134 = .ok (.iadd, 1) := by decide +kernel
theorem dX5_readGroup_135 : decode cX5_readGroup 135 = .ok (.putfield 85, 3) := by decide +kernel
theorem dX5_readGroup_138 : decode cX5_readGroup 138 = .ok (.iload_n 3, 1) := by decide +kernel
theorem dX5_readGroup_139 : decode cX5_readGroup 139 = .ok (.ireturn, 1) := by decide +kernel
theorem dX5_readCyclic_0 : decode cX5_readCyclic 0 = .ok (.aload_n 0, 1) := by decide +kernel
theorem dX5_readCyclic_1 : decode cX5_readCyclic 1 = .ok (.getfield 15, 3) := by decide +kernel
theorem dX5_readCyclic_4 : decode cX5_readCyclic 4 = .ok (.invokevirtual 31, 3) := by decide +kernel
theorem dX5_readCyclic_7 : decode cX5_readCyclic 7 = .ok (.aload_n 0, 1) := by decide +kernel
theorem dX5_readCyclic_8 : decode cX5_readCyclic 8 = .ok (.iconst 1, 1) := by decide +kernel
theorem dX5_readCyclic_9 : decode cX5_readCyclic 9 = .ok (.bipush 8, 2) := by decide +kernel
theorem dX5_readCyclic_11 : decode cX5_readCyclic 11 = .ok (.invokevirtual 111, 3) := by decide +kernel
theorem dX5_readCyclic_14 : decode cX5_readCyclic 14 = .ok (.ifCond .ne 5, 3) := by decide +kernel
theorem dX5_readCyclic_17 : decode cX5_readCyclic 17 = .ok (.iconst 0, 1) := by decide +kernel
theorem dX5_readCyclic_18 : decode cX5_readCyclic 18 = .ok (.ireturn, 1) := by decide +kernel
theorem dX5_readCyclic_19 : decode cX5_readCyclic 19 = .ok (.aload_n 1, 1) := by decide +kernel
theorem dX5_readCyclic_20 : decode cX5_readCyclic 20 = .ok (.aload_n 0, 1) := by decide +kernel
theorem dX5_readCyclic_21 : decode cX5_readCyclic 21 = .ok (.getfield 15, 3) := by decide +kernel
theorem dX5_readCyclic_24 : decode cX5_readCyclic 24 = .ok (.getfield 115, 3) := by decide +kernel
theorem dX5_readCyclic_27 : decode cX5_readCyclic 27 = .ok (.invokevirtual 118, 3) := by decide +kernel
theorem dX5_readCyclic_30 : decode cX5_readCyclic 30 = .ok (.aload_n 0, 1) := by decide +kernel
theorem dX5_readCyclic_31 : decode cX5_readCyclic 31 = .ok (.getfield 15, 3) := by decide +kernel
theorem dX5_readCyclic_34 : decode cX5_readCyclic 34 = .ok (.invokevirtual 31, 3) := by decide +kernel
theorem dX5_readCyclic_37 : decode cX5_readCyclic 37 = .ok (.iconst 1, 1) := by decide +kernel
theorem dX5_readCyclic_38 : decode cX5_readCyclic 38 = .ok (.ireturn, 1) := by decide +kernel
theorem dX5_readDihedral_0 : decode cX5_readDihedral 0 = .ok (.aload_n 0, 1) := by decide +kernel
theorem dX5_readDihedral_1 : decode cX5_readDihedral 1 = .ok (.getfield 15, 3) := by decide +kernel
theorem dX5_readDihedral_4 : decode cX5_readDihedral 4 = .ok (.invokevirtual 31, 3) := by decide +kernel
theorem dX5_readDihedral_7 : decode cX5_readDihedral 7 = .ok (.aload_n 0, 1) := by decide +kernel
theorem dX5_readDihedral_8 : decode cX5_readDihedral 8 = .ok (.iconst 3, 1) := by decide +kernel
theorem dX5_readDihedral_9 : decode cX5_readDihedral 9 = .ok (.iconst 4, 1) := by decide +kernel
theorem dX5_readDihedral_10 : decode cX5_readDihedral 10 = .ok (.invokevirtual 111, 3) := by decide +kernel
theorem dX5_readDihedral_13 : decode cX5_readDihedral 13 = .ok (.ifCond .ne 5, 3) := by decide +kernel
theorem dX5_readDihedral_16 : decode cX5_readDihedral 16 = .ok (.iconst 0, 1) := by decide +kernel
theorem dX5_readDihedral_17 : decode cX5_readDihedral 17 = .ok (.ireturn, 1) := by decide +kernel
theorem dX5_readDihedral_18 : decode cX5_readDihedral 18 = .ok (.aload_n 1, 1) := by decide +kernel
theorem dX5_readDihedral_19 : decode cX5_readDihedral 19 = .ok (.aload_n 0, 1) := by decide +kernel
theorem dX5_readDihedral_20 : decode cX5_readDihedral 20 = .ok (.getfield 15, 3) := by decide +kernel
theorem dX5_readDihedral_23 : decode cX5_readDihedral 23 = .ok (.getfield 115, 3) := by decide +kernel
theorem dX5_readDihedral_26 : decode cX5_readDihedral 26 = .ok (.invokevirtual 124, 3) := by decide +kernel
theorem dX5_readDihedral_29 : decode cX5_readDihedral 29 = .ok (.aload_n 0, 1) := by decide +kernel
theorem dX5_readDihedral_30 : decode cX5_readDihedral 30 = .ok (.getfield 15, 3) := by decide +kernel
theorem dX5_readDihedral_33 : decode cX5_readDihedral 33 = .ok (.invokevirtual 31, 3) := by decide +kernel
theorem dX5_readDihedral_36 : decode cX5_readDihedral 36 = .ok (.iconst 1, 1) := by decide +kernel
theorem dX5_readDihedral_37 : decode cX5_readDihedral 37 = .ok (.ireturn, 1) := by decide +kernel
theorem dX5_readQuaternion_0 : decode cX5_readQuaternion 0 = .ok (.aload_n 0, 1) := by decide +kernel
theorem dX5_readQuaternion_1 : decode cX5_readQuaternion 1 = .ok (.getfield 15, 3) := by decide +kernel
theorem dX5_readQuaternion_4 : decode cX5_readQuaternion 4 = .ok (.invokevirtual 31, 3) := by decide +kernel
theorem dX5_readQuaternion_7 : decode cX5_readQuaternion 7 = .ok (.aload_n 1, 1) := by decide +kernel
theorem dX5_readQuaternion_8 : decode cX5_readQuaternion 8 = .ok (.invokevirtual 127, 3) := by decide +kernel
theorem dX5_readQuaternion_11 : decode cX5_readQuaternion 11 = .ok (.iconst 1, 1) := by decide +kernel
theorem dX5_readQuaternion_12 : decode cX5_readQuaternion 12 = .ok (.ireturn, 1) := by decide +kernel
theorem dX5_readProduct_0 : decode cX5_readProduct 0 = .ok (.aload_n 0, 1) := by decide +kernel
theorem dX5_readProduct_1 : decode cX5_readProduct 1 = .ok (.getfield 15, 3) := by decide +kernel
theorem dX5_readProduct_4 : decode cX5_readProduct 4 = .ok (.invokevirtual 31, 3) := by decide +kernel
theorem dX5_readProduct_7 : decode cX5_readProduct 7 = .ok (.aload_n 0, 1) := by decide +kernel
theorem dX5_readProduct_8 : decode cX5_readProduct 8 = .ok (.aload_n 0, 1) := by decide +kernel
theorem dX5_readProduct_9 : decode cX5_readProduct 9 = .ok (.getfield 19, 3) := by decide +kernel
theorem dX5_readProduct_12 : decode cX5_readProduct 12 = .ok (.getfield 71, 3) := by decide +kernel
theorem dX5_readProduct_15 : decode cX5_readProduct 15 = .ok (.invokevirtual 130, 3) := by decide +kernel
theorem dX5_readProduct_18 : decode cX5_readProduct 18 = .ok (.ifCond .ne 5, 3) := by decide +kernel
theorem dX5_readProduct_21 : decode cX5_readProduct 21 = .ok (.iconst 0, 1) := by decide +kernel
theorem dX5_readProduct_22 : decode cX5_readProduct 22 = .ok (.ireturn, 1) := by decide +kernel
theorem dX5_readProduct_23 : decode cX5_readProduct 23 = .ok (.aload_n 0, 1) := by decide +kernel
theorem dX5_readProduct_24 : decode cX5_readProduct 24 = .ok (.invokevirtual 133, 3) := by decide +kernel
theorem dX5_readProduct_27 : decode cX5_readProduct 27 = .ok (.astore_n 2, 1) := by decide +kernel
theorem dX5_readProduct_28 : decode cX5_readProduct 28 = .ok (.aload_n 0, 1) := by decide +kernel
theorem dX5_readProduct_29 : decode cX5_readProduct 29 = .ok (.getfield 15, 3) := by decide +kernel
theorem dX5_readProduct_32 : decode cX5_readProduct 32 = .ok (.invokevirtual 31, 3) := by decide +kernel
theorem dX5_readProduct_35 : decode cX5_readProduct 35 = .ok (.aload_n 0, 1) := by decide +kernel
theorem dX5_readProduct_36 : decode cX5_readProduct 36 = .ok (.aload_n 0, 1) := by decide +kernel
theorem dX5_readProduct_37 : decode cX5_readProduct 37 = .ok (.getfield 19, 3) := by decide +kernel
theorem dX5_readProduct_40 : decode cX5_readProduct 40 = .ok (.getfield 71, 3) := by decide +kernel
theorem dX5_readProduct_43 : decode cX5_readProduct 43 = .ok (.invokevirtual 130, 3) := by decide +kernel
theorem dX5_readProduct_46 : decode cX5_readProduct 46 = .ok (.ifCond .ne 5, 3) := by decide +kernel
theorem dX5_readProduct_49 : decode cX5_readProduct 49 = .ok (.iconst 0, 1) := by decide +kernel
theorem dX5_readProduct_50 : decode cX5_readProduct 50 = .ok (.ireturn, 1) := by decide +kernel
theorem dX5_readProduct_51 : decode cX5_readProduct 51 = .ok (.aload_n 0, 1) := by decide +kernel
theorem dX5_readProduct_52 : decode cX5_readProduct 52 = .ok (.invokevirtual 133, 3) := by decide +kernel
theorem dX5_readProduct_55 : decode cX5_readProduct 55 = .ok (.astore_n 3, 1) := by decide +kernel
theorem dX5_readProduct_56 : decode cX5_readProduct 56 = .ok (.aload_n 2, 1) := by decide +kernel
theorem dX5_readProduct_57 : decode cX5_readProduct 57 = .ok (.getfield 137, 3) := by decide +kernel
theorem dX5_readProduct_60 : decode cX5_readProduct 60 = .ok (.aload_n 3, 1) := by decide +kernel
theorem dX5_readProduct_61 : decode cX5_readProduct 61 = .ok (.getfield 137, 3) := by decide +kernel
theorem dX5_readProduct_64 : decode cX5_readProduct 64 = .ok (.imul, 1) := by decide +kernel
theorem dX5_readProduct_65 : decode cX5_readProduct 65 = .ok (.bipush 8, 2) := by decide +kernel
theorem dX5_readProduct_67 : decode cX5_readProduct 67 = .ok (.if_icmp .le 9, 3) := by decide +kernel
theorem dX5_readProduct_70 : decode cX5_readProduct 70 = .ok (.aload_n 0, 1) := by decide +kernel
theorem dX5_readProduct_71 : decode cX5_readProduct 71 = .ok (.iconst 4, 1) := by decide +kernel
theorem dX5_readProduct_72 : decode cX5_readProduct 72 = .ok (.invokevirtual 40, 3) := by decide +kernel
theorem dX5_readProduct_75 : decode cX5_readProduct 75 = .ok (.ireturn, 1) := by decide +kernel
theorem dX5_readProduct_76 : decode cX5_readProduct 76 = .ok (.aload_n 0, 1) := by decide +kernel
theorem dX5_readProduct_77 : decode cX5_readProduct 77 = .ok (.getfield 15, 3) := by decide +kernel
theorem dX5_readProduct_80 : decode cX5_readProduct 80 = .ok (.invokevirtual 31, 3) := by decide +kernel
theorem dX5_readProduct_83 : decode cX5_readProduct 83 = .ok (.aload_n 1, 1) := by decide +kernel
theorem dX5_readProduct_84 : decode cX5_readProduct 84 = .ok (.aload_n 2, 1) := by decide +kernel
theorem dX5_readProduct_85 : decode cX5_readProduct 85 = .ok (.aload_n 3, 1) := by decide +kernel
theorem dX5_readProduct_86 : decode cX5_readProduct 86 = .ok (.invokevirtual 140, 3) := by decide +kernel
theorem dX5_readProduct_89 : decode cX5_readProduct 89 = .ok (.iconst 1, 1) := by decide +kernel
theorem dX5_readProduct_90 : decode cX5_readProduct 90 = .ok (.ireturn, 1) := by decide +kernel
theorem dX5_readModule_0 : decode cX5_readModule 0 = .ok (.aload_n 0, 1) := by decide +kernel
theorem dX5_readModule_1 : decode cX5_readModule 1 = .ok (.getfield 19, 3) := by decide +kernel
theorem dX5_readModule_4 : decode cX5_readModule 4 = .ok (.getfield 144, 3) := by decide +kernel
theorem dX5_readModule_7 : decode cX5_readModule 7 = .ok (.astore_n 1, 1) := by decide +kernel
theorem dX5_readModule_8 : decode cX5_readModule 8 = .ok (.aload_n 0, 1) := by decide +kernel
theorem dX5_readModule_9 : decode cX5_readModule 9 = .ok (.aload_n 1, 1) := by decide +kernel
theorem dX5_readModule_10 : decode cX5_readModule 10 = .ok (.invokevirtual 77, 3) := by decide +kernel
theorem dX5_readModule_13 : decode cX5_readModule 13 = .ok (.ifCond .eq 17, 3) := by decide +kernel
theorem dX5_readModule_16 : decode cX5_readModule 16 = .ok (.aload_n 0, 1) := by decide +kernel
theorem dX5_readModule_17 : decode cX5_readModule 17 = .ok (.aload_n 0, 1) := by decide +kernel
theorem dX5_readModule_18 : decode cX5_readModule 18 = .ok (.getfield 19, 3) := by decide +kernel
theorem dX5_readModule_21 : decode cX5_readModule 21 = .ok (.getfield 71, 3) := by decide +kernel
theorem dX5_readModule_24 : decode cX5_readModule 24 = .ok (.invokevirtual 130, 3) := by decide +kernel
theorem dX5_readModule_27 : decode cX5_readModule 27 = .ok (.ifCond .ne 5, 3) := by decide +kernel
theorem dX5_readModule_30 : decode cX5_readModule 30 = .ok (.iconst 0, 1) := by decide +kernel
theorem dX5_readModule_31 : decode cX5_readModule 31 = .ok (.ireturn, 1) := by decide +kernel
theorem dX5_readModule_32 : decode cX5_readModule 32 = .ok (.aload_n 0, 1) := by decide +kernel
theorem dX5_readModule_33 : decode cX5_readModule 33 = .ok (.invokevirtual 133, 3) := by decide +kernel
theorem dX5_readModule_36 : decode cX5_readModule 36 = .ok (.astore_n 2, 1) := by decide +kernel
theorem dX5_readModule_37 : decode cX5_readModule 37 = .ok (.aload_n 0, 1) := by decide +kernel
theorem dX5_readModule_38 : decode cX5_readModule 38 = .ok (.getfield 15, 3) := by decide +kernel
theorem dX5_readModule_41 : decode cX5_readModule 41 = .ok (.invokevirtual 31, 3) := by decide +kernel
theorem dX5_readModule_44 : decode cX5_readModule 44 = .ok (.aload_n 0, 1) := by decide +kernel
theorem dX5_readModule_45 : decode cX5_readModule 45 = .ok (.aload_n 0, 1) := by decide +kernel
theorem dX5_readModule_46 : decode cX5_readModule 46 = .ok (.getfield 19, 3) := by decide +kernel
theorem dX5_readModule_49 : decode cX5_readModule 49 = .ok (.getfield 71, 3) := by decide +kernel
theorem dX5_readModule_52 : decode cX5_readModule 52 = .ok (.invokevirtual 130, 3) := by decide +kernel
theorem dX5_readModule_55 : decode cX5_readModule 55 = .ok (.ifCond .ne 5, 3) := by decide +kernel
theorem dX5_readModule_58 : decode cX5_readModule 58 = .ok (.iconst 0, 1) := by decide +kernel
theorem dX5_readModule_59 : decode cX5_readModule 59 = .ok (.ireturn, 1) := by decide +kernel
theorem dX5_readModule_60 : decode cX5_readModule 60 = .ok (.aload_n 0, 1) := by decide +kernel
theorem dX5_readModule_61 : decode cX5_readModule 61 = .ok (.invokevirtual 133, 3) := by decide +kernel
theorem dX5_readModule_64 : decode cX5_readModule 64 = .ok (.astore_n 3, 1) := by decide +kernel
theorem dX5_readModule_65 : decode cX5_readModule 65 = .ok (.aload_n 0, 1) := by decide +kernel
theorem dX5_readModule_66 : decode cX5_readModule 66 = .ok (.getfield 15, 3) := by decide +kernel
theorem dX5_readModule_69 : decode cX5_readModule 69 = .ok (.invokevirtual 31, 3) := by decide +kernel
theorem dX5_readModule_72 : decode cX5_readModule 72 = .ok (.aload_n 0, 1) := by decide +kernel
theorem dX5_readModule_73 : decode cX5_readModule 73 = .ok (.getfield 19, 3) := by decide +kernel
theorem dX5_readModule_76 : decode cX5_readModule 76 = .ok (.getfield 147, 3) := by decide +kernel
theorem dX5_readModule_79 : decode cX5_readModule 79 = .ok (.aload_n 1, 1) := by decide +kernel
theorem dX5_readModule_80 : decode cX5_readModule 80 = .ok (.getfield 85, 3) := by decide +kernel
theorem dX5_readModule_83 : decode cX5_readModule 83 = .ok (.aaload, 1) := by decide +kernel
theorem dX5_readModule_84 : decode cX5_readModule 84 = .ok (.astore 4, 2) := by decide +kernel
theorem dX5_readModule_86 : decode cX5_readModule 86 = .ok (.aload 4, 2) := by decide +kernel
theorem dX5_readModule_88 : decode cX5_readModule 88 = .ok (.aload_n 2, 1) := by decide +kernel
theorem dX5_readModule_89 : decode cX5_readModule 89 = .ok (.aload_n 3, 1) := by decide +kernel
theorem dX5_readModule_90 : decode cX5_readModule 90 = .ok (.invokevirtual 151, 3) := by decide +kernel
theorem dX5_readModule_93 : decode cX5_readModule 93 = .ok (.aload_n 0, 1) := by decide +kernel
theorem dX5_readModule_94 : decode cX5_readModule 94 = .ok (.aload 4, 2) := by decide +kernel
theorem dX5_readModule_96 : decode cX5_readModule 96 = .ok (.getfield 155, 3) := by decide +kernel
theorem dX5_readModule_99 : decode cX5_readModule 99 = .ok (.iconst 0, 1) := by decide +kernel
theorem dX5_readModule_100 : decode cX5_readModule 100 = .ok (.aload_n 2, 1) := by decide +kernel
theorem dX5_readModule_101 : decode cX5_readModule 101 = .ok (.aload_n 3, 1) := by decide +kernel
theorem dX5_readModule_102 : decode cX5_readModule 102 = .ok (.invokevirtual 159, 3) := by decide +kernel
theorem dX5_readModule_105 : decode cX5_readModule 105 = .ok (.ifCond .ne 5, 3) := by decide +kernel
theorem dX5_readModule_108 : decode cX5_readModule 108 = .ok (.iconst 0, 1) := by decide +kernel
theorem dX5_readModule_109 : decode cX5_readModule 109 = .ok (.ireturn, 1) := by decide +kernel
theorem dX5_readModule_110 : decode cX5_readModule 110 = .ok (.aload_n 1, 1) := by decide +kernel
theorem dX5_readModule_111 : decode cX5_readModule 111 = .ok (.dup, 1) := by decide +kernel
theorem dX5_readModule_112 : decode cX5_readModule 112 = .ok (.getfield 85, 3) := by decide +kernel
theorem dX5_readModule_115 : decode cX5_readModule 115 = .ok (.iconst 1, 1) := by decide +kernel
theorem dX5_readModule_116 : decode cX5_readModule 116 = .ok (.iadd, 1) := by decide +kernel
theorem dX5_readModule_117 : decode cX5_readModule 117 = .ok (.putfield 85, 3) := by decide +kernel
theorem dX5_readModule_120 : decode cX5_readModule 120 = .ok (.iconst 1, 1) := by decide +kernel
theorem dX5_readModule_121 : decode cX5_readModule 121 = .ok (.ireturn, 1) := by decide +kernel
theorem dX5_readAct_0 : decode cX5_readAct 0 = .ok (.aload_n 0, 1) := by decide +kernel
theorem dX5_readAct_1 : decode cX5_readAct 1 = .ok (.getfield 15, 3) := by decide +kernel
theorem dX5_readAct_4 : decode cX5_readAct 4 = .ok (.invokevirtual 31, 3) := by decide +kernel
theorem dX5_readAct_7 : decode cX5_readAct 7 = .ok (.aload_n 0, 1) := by decide +kernel
theorem dX5_readAct_8 : decode cX5_readAct 8 = .ok (.aload_n 0, 1) := by decide +kernel
theorem dX5_readAct_9 : decode cX5_readAct 9 = .ok (.getfield 19, 3) := by decide +kernel
theorem dX5_readAct_12 : decode cX5_readAct 12 = .ok (.getfield 144, 3) := by decide +kernel
theorem dX5_readAct_15 : decode cX5_readAct 15 = .ok (.invokevirtual 130, 3) := by decide +kernel
theorem dX5_readAct_18 : decode cX5_readAct 18 = .ok (.ifCond .ne 5, 3) := by decide +kernel
theorem dX5_readAct_21 : decode cX5_readAct 21 = .ok (.iconst 0, 1) := by decide +kernel
theorem dX5_readAct_22 : decode cX5_readAct 22 = .ok (.ireturn, 1) := by decide +kernel
theorem dX5_readAct_23 : decode cX5_readAct 23 = .ok (.aload_n 0, 1) := by decide +kernel
theorem dX5_readAct_24 : decode cX5_readAct 24 = .ok (.invokevirtual 163, 3) := by decide +kernel
theorem dX5_readAct_27 : decode cX5_readAct 27 = .ok (.astore_n 1, 1) := by decide +kernel
theorem dX5_readAct_28 : decode cX5_readAct 28 = .ok (.aload_n 0, 1) := by decide +kernel
theorem dX5_readAct_29 : decode cX5_readAct 29 = .ok (.getfield 15, 3) := by decide +kernel
theorem dX5_readAct_32 : decode cX5_readAct 32 = .ok (.invokevirtual 31, 3) := by decide +kernel
theorem dX5_readAct_35 : decode cX5_readAct 35 = .ok (.aload_n 0, 1) := by decide +kernel
theorem dX5_readAct_36 : decode cX5_readAct 36 = .ok (.iconst 0, 1) := by decide +kernel
theorem dX5_readAct_37 : decode cX5_readAct 37 = .ok (.aload_n 1, 1) := by decide +kernel
theorem dX5_readAct_38 : decode cX5_readAct 38 = .ok (.getfield 167, 3) := by decide +kernel
theorem dX5_readAct_41 : decode cX5_readAct 41 = .ok (.getfield 137, 3) := by decide +kernel
theorem dX5_readAct_44 : decode cX5_readAct 44 = .ok (.iconst 1, 1) := by decide +kernel
theorem dX5_readAct_45 : decode cX5_readAct 45 = .ok (.isub, 1) := by decide +kernel
theorem dX5_readAct_46 : decode cX5_readAct 46 = .ok (.invokevirtual 111, 3) := by decide +kernel
theorem dX5_readAct_49 : decode cX5_readAct 49 = .ok (.ifCond .ne 5, 3) := by decide +kernel
theorem dX5_readAct_52 : decode cX5_readAct 52 = .ok (.iconst 0, 1) := by decide +kernel
theorem dX5_readAct_53 : decode cX5_readAct 53 = .ok (.ireturn, 1) := by decide +kernel
theorem dX5_readAct_54 : decode cX5_readAct 54 = .ok (.aload_n 0, 1) := by decide +kernel
theorem dX5_readAct_55 : decode cX5_readAct 55 = .ok (.getfield 15, 3) := by decide +kernel
theorem dX5_readAct_58 : decode cX5_readAct 58 = .ok (.getfield 115, 3) := by decide +kernel
theorem dX5_readAct_61 : decode cX5_readAct 61 = .ok (.istore_n 2, 1) := by decide +kernel
theorem dX5_readAct_62 : decode cX5_readAct 62 = .ok (.aload_n 1, 1) := by decide +kernel
theorem dX5_readAct_63 : decode cX5_readAct 63 = .ok (.getfield 171, 3) := by decide +kernel
theorem dX5_readAct_66 : decode cX5_readAct 66 = .ok (.iload_n 2, 1) := by decide +kernel
theorem dX5_readAct_67 : decode cX5_readAct 67 = .ok (.invokestatic 174, 3) := by decide +kernel
theorem dX5_readAct_70 : decode cX5_readAct 70 = .ok (.ifCond .eq 9, 3) := by decide +kernel
theorem dX5_readAct_73 : decode cX5_readAct 73 = .ok (.aload_n 0, 1) := by decide +kernel
theorem dX5_readAct_74 : decode cX5_readAct 74 = .ok (.iconst 3, 1) := by decide +kernel
theorem dX5_readAct_75 : decode cX5_readAct 75 = .ok (.invokevirtual 40, 3) := by decide +kernel
theorem dX5_readAct_78 : decode cX5_readAct 78 = .ok (.ireturn, 1) := by decide +kernel
theorem dX5_readAct_79 : decode cX5_readAct 79 = .ok (.aload_n 1, 1) := by decide +kernel
theorem dX5_readAct_80 : decode cX5_readAct 80 = .ok (.dup, 1) := by decide +kernel
theorem dX5_readAct_81 : decode cX5_readAct 81 = .ok (.getfield 171, 3) := by decide +kernel
theorem dX5_readAct_84 : decode cX5_readAct 84 = .ok (.iconst 1, 1) := by decide +kernel
theorem dX5_readAct_85 : decode cX5_readAct 85 = .ok (.iload_n 2, 1) := by decide +kernel
theorem dX5_readAct_86 : decode cX5_readAct 86 = .ok (.ishl, 1) := by decide +kernel
theorem dX5_readAct_87 : decode cX5_readAct 87 = .ok (.ior, 1) := by decide +kernel
theorem dX5_readAct_88 : decode cX5_readAct 88 = .ok (.putfield 171, 3) := by decide +kernel
theorem dX5_readAct_91 : decode cX5_readAct 91 = .ok (.aload_n 0, 1) := by decide +kernel
theorem dX5_readAct_92 : decode cX5_readAct 92 = .ok (.getfield 15, 3) := by decide +kernel
theorem dX5_readAct_95 : decode cX5_readAct 95 = .ok (.invokevirtual 31, 3) := by decide +kernel
theorem dX5_readAct_98 : decode cX5_readAct 98 = .ok (.aload_n 0, 1) := by decide +kernel
theorem dX5_readAct_99 : decode cX5_readAct 99 = .ok (.aload_n 1, 1) := by decide +kernel
theorem dX5_readAct_100 : decode cX5_readAct 100 = .ok (.getfield 177, 3) := by decide +kernel
theorem dX5_readAct_103 : decode cX5_readAct 103 = .ok (.iload_n 2, 1) := by decide +kernel
theorem dX5_readAct_104 : decode cX5_readAct 104 = .ok (.bipush 8, 2) := by decide +kernel
theorem dX5_readAct_106 : decode cX5_readAct 106 = .ok (.imul, 1) := by decide +kernel
theorem dX5_readAct_107 : decode cX5_readAct 107 = .ok (.aload_n 1, 1) := by decide +kernel
theorem dX5_readAct_108 : decode cX5_readAct 108 = .ok (.getfield 180, 3) := by decide +kernel
theorem dX5_readAct_111 : decode cX5_readAct 111 = .ok (.aload_n 1, 1) := by decide +kernel
theorem dX5_readAct_112 : decode cX5_readAct 112 = .ok (.getfield 180, 3) := by decide +kernel
theorem dX5_readAct_115 : decode cX5_readAct 115 = .ok (.invokevirtual 159, 3) := by decide +kernel
theorem dX5_readAct_118 : decode cX5_readAct 118 = .ok (.ireturn, 1) := by decide +kernel
theorem dX5_readArrow_0 : decode cX5_readArrow 0 = .ok (.aload_n 0, 1) := by decide +kernel
theorem dX5_readArrow_1 : decode cX5_readArrow 1 = .ok (.getfield 19, 3) := by decide +kernel
theorem dX5_readArrow_4 : decode cX5_readArrow 4 = .ok (.getfield 183, 3) := by decide +kernel
theorem dX5_readArrow_7 : decode cX5_readArrow 7 = .ok (.astore_n 1, 1) := by decide +kernel
theorem dX5_readArrow_8 : decode cX5_readArrow 8 = .ok (.aload_n 0, 1) := by decide +kernel
theorem dX5_readArrow_9 : decode cX5_readArrow 9 = .ok (.aload_n 1, 1) := by decide +kernel
theorem dX5_readArrow_10 : decode cX5_readArrow 10 = .ok (.invokevirtual 77, 3) := by decide +kernel
theorem dX5_readArrow_13 : decode cX5_readArrow 13 = .ok (.ifCond .eq 17, 3) := by decide +kernel
theorem dX5_readArrow_16 : decode cX5_readArrow 16 = .ok (.aload_n 0, 1) := by decide +kernel
theorem dX5_readArrow_17 : decode cX5_readArrow 17 = .ok (.aload_n 0, 1) := by decide +kernel
theorem dX5_readArrow_18 : decode cX5_readArrow 18 = .ok (.getfield 19, 3) := by decide +kernel
theorem dX5_readArrow_21 : decode cX5_readArrow 21 = .ok (.getfield 144, 3) := by decide +kernel
theorem dX5_readArrow_24 : decode cX5_readArrow 24 = .ok (.invokevirtual 130, 3) := by decide +kernel
theorem dX5_readArrow_27 : decode cX5_readArrow 27 = .ok (.ifCond .ne 5, 3) := by decide +kernel
theorem dX5_readArrow_30 : decode cX5_readArrow 30 = .ok (.iconst 0, 1) := by decide +kernel
theorem dX5_readArrow_31 : decode cX5_readArrow 31 = .ok (.ireturn, 1) := by decide +kernel
theorem dX5_readArrow_32 : decode cX5_readArrow 32 = .ok (.aload_n 0, 1) := by decide +kernel
theorem dX5_readArrow_33 : decode cX5_readArrow 33 = .ok (.invokevirtual 163, 3) := by decide +kernel
theorem dX5_readArrow_36 : decode cX5_readArrow 36 = .ok (.astore_n 2, 1) := by decide +kernel
theorem dX5_readArrow_37 : decode cX5_readArrow 37 = .ok (.aload_n 0, 1) := by decide +kernel
theorem dX5_readArrow_38 : decode cX5_readArrow 38 = .ok (.getfield 15, 3) := by decide +kernel
theorem dX5_readArrow_41 : decode cX5_readArrow 41 = .ok (.invokevirtual 31, 3) := by decide +kernel
theorem dX5_readArrow_44 : decode cX5_readArrow 44 = .ok (.aload_n 0, 1) := by decide +kernel
theorem dX5_readArrow_45 : decode cX5_readArrow 45 = .ok (.aload_n 0, 1) := by decide +kernel
theorem dX5_readArrow_46 : decode cX5_readArrow 46 = .ok (.getfield 19, 3) := by decide +kernel
theorem dX5_readArrow_49 : decode cX5_readArrow 49 = .ok (.getfield 144, 3) := by decide +kernel
theorem dX5_readArrow_52 : decode cX5_readArrow 52 = .ok (.invokevirtual 130, 3) := by decide +kernel
theorem dX5_readArrow_55 : decode cX5_readArrow 55 = .ok (.ifCond .ne 5, 3) := by decide +kernel
theorem dX5_readArrow_58 : decode cX5_readArrow 58 = .ok (.iconst 0, 1) := by decide +kernel
theorem dX5_readArrow_59 : decode cX5_readArrow 59 = .ok (.ireturn, 1) := by decide +kernel
theorem dX5_readArrow_60 : decode cX5_readArrow 60 = .ok (.aload_n 0, 1) := by decide +kernel
theorem dX5_readArrow_61 : decode cX5_readArrow 61 = .ok (.invokevirtual 163, 3) := by decide +kernel
theorem dX5_readArrow_64 : decode cX5_readArrow 64 = .ok (.astore_n 3, 1) := by decide +kernel
theorem dX5_readArrow_65 : decode cX5_readArrow 65 = .ok (.aload_n 0, 1) := by decide +kernel
theorem dX5_readArrow_66 : decode cX5_readArrow 66 = .ok (.getfield 15, 3) := by decide +kernel
theorem dX5_readArrow_69 : decode cX5_readArrow 69 = .ok (.invokevirtual 31, 3) := by decide +kernel
theorem dX5_readArrow_72 : decode cX5_readArrow 72 = .ok (.aload_n 0, 1) := by decide +kernel
theorem dX5_readArrow_73 : decode cX5_readArrow 73 = .ok (.getfield 19, 3) := by decide +kernel
theorem dX5_readArrow_76 : decode cX5_readArrow 76 = .ok (.getfield 186, 3) := by decide +kernel
theorem dX5_readArrow_79 : decode cX5_readArrow 79 = .ok (.aload_n 1, 1) := by decide +kernel
theorem dX5_readArrow_80 : decode cX5_readArrow 80 = .ok (.getfield 85, 3) := by decide +kernel
theorem dX5_readArrow_83 : decode cX5_readArrow 83 = .ok (.aaload, 1) := by decide +kernel
theorem dX5_readArrow_84 : decode cX5_readArrow 84 = .ok (.astore 4, 2) := by decide +kernel
theorem dX5_readArrow_86 : decode cX5_readArrow 86 = .ok (.aload 4, 2) := by decide +kernel
theorem dX5_readArrow_88 : decode cX5_readArrow 88 = .ok (.aload_n 2, 1) := by decide +kernel
theorem dX5_readArrow_89 : decode cX5_readArrow 89 = .ok (.putfield 190, 3) := by decide +kernel
theorem dX5_readArrow_92 : decode cX5_readArrow 92 = .ok (.aload 4, 2) := by decide +kernel
theorem dX5_readArrow_94 : decode cX5_readArrow 94 = .ok (.aload_n 3, 1) := by decide +kernel
theorem dX5_readArrow_95 : decode cX5_readArrow 95 = .ok (.putfield 196, 3) := by decide +kernel
theorem dX5_readArrow_98 : decode cX5_readArrow 98 = .ok (.aload_n 0, 1) := by decide +kernel
theorem dX5_readArrow_99 : decode cX5_readArrow 99 = .ok (.aload 4, 2) := by decide +kernel
theorem dX5_readArrow_101 : decode cX5_readArrow 101 = .ok (.getfield 199, 3) := by decide +kernel
theorem dX5_readArrow_104 : decode cX5_readArrow 104 = .ok (.iconst 0, 1) := by decide +kernel
theorem dX5_readArrow_105 : decode cX5_readArrow 105 = .ok (.aload_n 2, 1) := by decide +kernel
theorem dX5_readArrow_106 : decode cX5_readArrow 106 = .ok (.getfield 180, 3) := by decide +kernel
theorem dX5_readArrow_109 : decode cX5_readArrow 109 = .ok (.aload_n 3, 1) := by decide +kernel
theorem dX5_readArrow_110 : decode cX5_readArrow 110 = .ok (.getfield 180, 3) := by decide +kernel
theorem dX5_readArrow_113 : decode cX5_readArrow 113 = .ok (.invokevirtual 159, 3) := by decide +kernel
theorem dX5_readArrow_116 : decode cX5_readArrow 116 = .ok (.ifCond .eq 24, 3) := by decide +kernel
theorem dX5_readArrow_119 : decode cX5_readArrow 119 = .ok (.aload_n 0, 1) := by decide +kernel
theorem dX5_readArrow_120 : decode cX5_readArrow 120 = .ok (.aload 4, 2) := by decide +kernel
theorem dX5_readArrow_122 : decode cX5_readArrow 122 = .ok (.getfield 202, 3) := by decide +kernel
theorem dX5_readArrow_125 : decode cX5_readArrow 125 = .ok (.iconst 0, 1) := by decide +kernel
theorem dX5_readArrow_126 : decode cX5_readArrow 126 = .ok (.aload_n 2, 1) := by decide +kernel
theorem dX5_readArrow_127 : decode cX5_readArrow 127 = .ok (.getfield 167, 3) := by decide +kernel
theorem dX5_readArrow_130 : decode cX5_readArrow 130 = .ok (.aload_n 3, 1) := by decide +kernel
theorem dX5_readArrow_131 : decode cX5_readArrow 131 = .ok (.getfield 167, 3) := by decide +kernel
theorem dX5_readArrow_134 : decode cX5_readArrow 134 = .ok (.invokevirtual 159, 3) := by decide +kernel
theorem dX5_readArrow_137 : decode cX5_readArrow 137 = .ok (.ifCond .ne 5, 3) := by decide +kernel
theorem dX5_readArrow_140 : decode cX5_readArrow 140 = .ok (.iconst 0, 1) := by decide +kernel
theorem dX5_readArrow_141 : decode cX5_readArrow 141 = .ok (.ireturn, 1) := by decide +kernel
theorem dX5_readArrow_142 : decode cX5_readArrow 142 = .ok (.aload_n 1, 1) := by decide +kernel
theorem dX5_readArrow_143 : decode cX5_readArrow 143 = .ok (.dup, 1) := by decide +kernel
theorem dX5_readArrow_144 : decode cX5_readArrow 144 = .ok (.getfield 85, 3) := by decide +kernel
theorem dX5_readArrow_147 : decode cX5_readArrow 147 = .ok (.iconst 1, 1) := by decide +kernel
theorem dX5_readArrow_148 : decode cX5_readArrow 148 = .ok (.iadd, 1) := by decide +kernel
theorem dX5_readArrow_149 : decode cX5_readArrow 149 = .ok (.putfield 85, 3) := by decide +kernel
theorem dX5_readArrow_152 : decode cX5_readArrow 152 = .ok (.iconst 1, 1) := by decide +kernel
theorem dX5_readArrow_153 : decode cX5_readArrow 153 = .ok (.ireturn, 1) := by decide +kernel
theorem dX5_readNewName_0 : decode cX5_readNewName 0 = .ok (.aload_n 1, 1) := by decide +kernel
theorem dX5_readNewName_1 : decode cX5_readNewName 1 = .ok (.invokevirtual 205, 3) := by decide +kernel
theorem dX5_readNewName_4 : decode cX5_readNewName 4 = .ok (.ifCond .eq 9, 3) := by decide +kernel
theorem dX5_readNewName_7 : decode cX5_readNewName 7 = .ok (.aload_n 0, 1) := by decide +kernel
theorem dX5_readNewName_8 : decode cX5_readNewName 8 = .ok (.iconst 4, 1) := by decide +kernel
theorem dX5_readNewName_9 : decode cX5_readNewName 9 = .ok (.invokevirtual 40, 3) := by decide +kernel
theorem dX5_readNewName_12 : decode cX5_readNewName 12 = .ok (.ireturn, 1) := by decide +kernel
theorem dX5_readNewName_13 : decode cX5_readNewName 13 = .ok (.aload_n 0, 1) := by decide +kernel
theorem dX5_readNewName_14 : decode cX5_readNewName 14 = .ok (.getfield 15, 3) := by decide +kernel
theorem dX5_readNewName_17 : decode cX5_readNewName 17 = .ok (.invokevirtual 31, 3) := by decide +kernel
theorem dX5_readNewName_20 : decode cX5_readNewName 20 = .ok (.aload_n 0, 1) := by decide +kernel
theorem dX5_readNewName_21 : decode cX5_readNewName 21 = .ok (.getfield 15, 3) := by decide +kernel
theorem dX5_readNewName_24 : decode cX5_readNewName 24 = .ok (.getfield 44, 3) := by decide +kernel
theorem dX5_readNewName_27 : decode cX5_readNewName 27 = .ok (.iconst 1, 1) := by decide +kernel
theorem dX5_readNewName_28 : decode cX5_readNewName 28 = .ok (.if_icmp .eq 9, 3) := by decide +kernel
theorem dX5_readNewName_31 : decode cX5_readNewName 31 = .ok (.aload_n 0, 1) := by decide +kernel
theorem dX5_readNewName_32 : decode cX5_readNewName 32 = .ok (.iconst 1, 1) := by decide +kernel
theorem dX5_readNewName_33 : decode cX5_readNewName 33 = .ok (.invokevirtual 40, 3) := by decide +kernel
theorem dX5_readNewName_36 : decode cX5_readNewName 36 = .ok (.ireturn, 1) := by decide +kernel
theorem dX5_readNewName_37 : decode cX5_readNewName 37 = .ok (.aload_n 1, 1) := by decide +kernel
theorem dX5_readNewName_38 : decode cX5_readNewName 38 = .ok (.aload_n 0, 1) := by decide +kernel
theorem dX5_readNewName_39 : decode cX5_readNewName 39 = .ok (.getfield 15, 3) := by decide +kernel
theorem dX5_readNewName_42 : decode cX5_readNewName 42 = .ok (.getfield 208, 3) := by decide +kernel
theorem dX5_readNewName_45 : decode cX5_readNewName 45 = .ok (.invokevirtual 212, 3) := by decide +kernel
theorem dX5_readNewName_48 : decode cX5_readNewName 48 = .ok (.iconst (-1), 1) := by decide +kernel
theorem dX5_readNewName_49 : decode cX5_readNewName 49 = .ok (.if_icmp .eq 9, 3) := by decide +kernel
theorem dX5_readNewName_52 : decode cX5_readNewName 52 = .ok (.aload_n 0, 1) := by decide +kernel
theorem dX5_readNewName_53 : decode cX5_readNewName 53 = .ok (.iconst 3, 1) := by decide +kernel
theorem dX5_readNewName_54 : decode cX5_readNewName 54 = .ok (.invokevirtual 40, 3) := by decide +kernel
theorem dX5_readNewName_57 : decode cX5_readNewName 57 = .ok (.ireturn, 1) := by decide +kernel
theorem dX5_readNewName_58 : decode cX5_readNewName 58 = .ok (.aload_n 1, 1) := by decide +kernel
theorem dX5_readNewName_59 : decode cX5_readNewName 59 = .ok (.aload_n 0, 1) := by decide +kernel
theorem dX5_readNewName_60 : decode cX5_readNewName 60 = .ok (.getfield 15, 3) := by decide +kernel
theorem dX5_readNewName_63 : decode cX5_readNewName 63 = .ok (.getfield 208, 3) := by decide +kernel
theorem dX5_readNewName_66 : decode cX5_readNewName 66 = .ok (.aload_n 0, 1) := by decide +kernel
theorem dX5_readNewName_67 : decode cX5_readNewName 67 = .ok (.getfield 15, 3) := by decide +kernel
theorem dX5_readNewName_70 : decode cX5_readNewName 70 = .ok (.getfield 216, 3) := by decide +kernel
theorem dX5_readNewName_73 : decode cX5_readNewName 73 = .ok (.aload_n 0, 1) := by decide +kernel
theorem dX5_readNewName_74 : decode cX5_readNewName 74 = .ok (.getfield 15, 3) := by decide +kernel
theorem dX5_readNewName_77 : decode cX5_readNewName 77 = .ok (.getfield 26, 3) := by decide +kernel
theorem dX5_readNewName_80 : decode cX5_readNewName 80 = .ok (.isub, 1) := by decide +kernel
theorem dX5_readNewName_81 : decode cX5_readNewName 81 = .ok (.invokevirtual 219, 3) := by decide +kernel
theorem dX5_readNewName_84 : decode cX5_readNewName 84 = .ok (.aload_n 0, 1) := by decide +kernel
theorem dX5_readNewName_85 : decode cX5_readNewName 85 = .ok (.getfield 15, 3) := by decide +kernel
theorem dX5_readNewName_88 : decode cX5_readNewName 88 = .ok (.invokevirtual 31, 3) := by decide +kernel
theorem dX5_readNewName_91 : decode cX5_readNewName 91 = .ok (.iconst 1, 1) := by decide +kernel
theorem dX5_readNewName_92 : decode cX5_readNewName 92 = .ok (.ireturn, 1) := by decide +kernel
theorem dX5_readElements_0 : decode cX5_readElements 0 = .ok (.iconst 0, 1) := by decide +kernel
theorem dX5_readElements_1 : decode cX5_readElements 1 = .ok (.istore 5, 2) := by decide +kernel
theorem dX5_readElements_3 : decode cX5_readElements 3 = .ok (.iload 5, 2) := by decide +kernel
theorem dX5_readElements_5 : decode cX5_readElements 5 = .ok (.aload_n 3, 1) := by decide +kernel
theorem dX5_readElements_6 : decode cX5_readElements 6 = .ok (.getfield 137, 3) := by decide +kernel
theorem dX5_readElements_9 : decode cX5_readElements 9 = .ok (.if_icmp .ge 48, 3) := by decide +kernel
theorem dX5_readElements_12 : decode cX5_readElements 12 = .ok (.aload_n 0, 1) := by decide +kernel
theorem dX5_readElements_13 : decode cX5_readElements 13 = .ok (.iconst 0, 1) := by decide +kernel
theorem dX5_readElements_14 : decode cX5_readElements 14 = .ok (.aload 4, 2) := by decide +kernel
theorem dX5_readElements_16 : decode cX5_readElements 16 = .ok (.getfield 137, 3) := by decide +kernel
theorem dX5_readElements_19 : decode cX5_readElements 19 = .ok (.iconst 1, 1) := by decide +kernel
theorem dX5_readElements_20 : decode cX5_readElements 20 = .ok (.isub, 1) := by decide +kernel
theorem dX5_readElements_21 : decode cX5_readElements 21 = .ok (.invokevirtual 111, 3) := by decide +kernel
theorem dX5_readElements_24 : decode cX5_readElements 24 = .ok (.ifCond .ne 5, 3) := by decide +kernel
theorem dX5_readElements_27 : decode cX5_readElements 27 = .ok (.iconst 0, 1) := by decide +kernel
theorem dX5_readElements_28 : decode cX5_readElements 28 = .ok (.ireturn, 1) := by decide +kernel
theorem dX5_readElements_29 : decode cX5_readElements 29 = .ok (.aload_n 1, 1) := by decide +kernel
theorem dX5_readElements_30 : decode cX5_readElements 30 = .ok (.iload_n 2, 1) := by decide +kernel
theorem dX5_readElements_31 : decode cX5_readElements 31 = .ok (.iload 5, 2) := by decide +kernel
theorem dX5_readElements_33 : decode cX5_readElements 33 = .ok (.iadd, 1) := by decide +kernel
theorem dX5_readElements_34 : decode cX5_readElements 34 = .ok (.aload_n 0, 1) := by decide +kernel
theorem dX5_readElements_35 : decode cX5_readElements 35 = .ok (.getfield 15, 3) := by decide +kernel
theorem dX5_readElements_38 : decode cX5_readElements 38 = .ok (.getfield 115, 3) := by decide +kernel
theorem dX5_readElements_41 : decode cX5_readElements 41 = .ok (.invokestatic 223, 3) := by decide +kernel
theorem dX5_readElements_44 : decode cX5_readElements 44 = .ok (.aload_n 0, 1) := by decide +kernel
theorem dX5_readElements_45 : decode cX5_readElements 45 = .ok (.getfield 15, 3) := by decide +kernel
theorem dX5_readElements_48 : decode cX5_readElements 48 = .ok (.invokevirtual 31, 3) := by decide +kernel
theorem dX5_readElements_51 : decode cX5_readElements 51 = .ok (.iinc 5 1, 3) := by decide +kernel
theorem dX5_readElements_54 : decode cX5_readElements 54 = .ok (.goto (-51), 3) := by decide +kernel
theorem dX5_readElements_57 : decode cX5_readElements 57 = .ok (.iconst 1, 1) := by decide +kernel
theorem dX5_readElements_58 : decode cX5_readElements 58 = .ok (.ireturn, 1) := by decide +kernel
theorem dX5_isNumber_0 : decode cX5_isNumber 0 = .ok (.aload_n 0, 1) := by decide +kernel
theorem dX5_isNumber_1 : decode cX5_isNumber 1 = .ok (.getfield 15, 3) := by decide +kernel
theorem dX5_isNumber_4 : decode cX5_isNumber 4 = .ok (.getfield 44, 3) := by decide +kernel
theorem dX5_isNumber_7 : decode cX5_isNumber 7 = .ok (.iconst 2, 1) := by decide +kernel
theorem dX5_isNumber_8 : decode cX5_isNumber 8 = .ok (.if_icmp .eq 9, 3) := by decide +kernel
theorem dX5_isNumber_11 : decode cX5_isNumber 11 = .ok (.aload_n 0, 1) := by decide +kernel
theorem dX5_isNumber_12 : decode cX5_isNumber 12 = .ok (.iconst 1, 1) := by decide +kernel
theorem dX5_isNumber_13 : decode cX5_isNumber 13 = .ok (.invokevirtual 40, 3) := by decide +kernel
theorem dX5_isNumber_16 : decode cX5_isNumber 16 = .ok (.ireturn, 1) := by decide +kernel
theorem dX5_isNumber_17 : decode cX5_isNumber 17 = .ok (.aload_n 0, 1) := by decide +kernel
theorem dX5_isNumber_18 : decode cX5_isNumber 18 = .ok (.getfield 15, 3) := by decide +kernel
theorem dX5_isNumber_21 : decode cX5_isNumber 21 = .ok (.getfield 115, 3) := by decide +kernel
theorem dX5_isNumber_24 : decode cX5_isNumber 24 = .ok (.iload_n 1, 1) := by decide +kernel
theorem dX5_isNumber_25 : decode cX5_isNumber 25 = .ok (.iload_n 2, 1) := by decide +kernel
theorem dX5_isNumber_26 : decode cX5_isNumber 26 = .ok (.invokestatic 227, 3) := by decide +kernel
theorem dX5_isNumber_29 : decode cX5_isNumber 29 = .ok (.ifCond .ne 11, 3) := by decide +kernel
theorem dX5_isNumber_32 : decode cX5_isNumber 32 = .ok (.aload_n 0, 1) := by decide +kernel
theorem dX5_isNumber_33 : decode cX5_isNumber 33 = .ok (.iconst 2, 1) := by decide +kernel
theorem dX5_isNumber_34 : decode cX5_isNumber 34 = .ok (.invokevirtual 40, 3) := by decide +kernel
theorem dX5_isNumber_37 : decode cX5_isNumber 37 = .ok (.ifCond .eq 7, 3) := by decide +kernel
theorem dX5_isNumber_40 : decode cX5_isNumber 40 = .ok (.iconst 1, 1) := by decide +kernel
theorem dX5_isNumber_41 : decode cX5_isNumber 41 = .ok (.goto 4, 3) := by decide +kernel
theorem dX5_isNumber_44 : decode cX5_isNumber 44 = .ok (.iconst 0, 1) := by decide +kernel
theorem dX5_isNumber_45 : decode cX5_isNumber 45 = .ok (.ireturn, 1) := by decide +kernel
theorem dX5_isKnown_0 : decode cX5_isKnown 0 = .ok (.aload_n 0, 1) := by decide +kernel
theorem dX5_isKnown_1 : decode cX5_isKnown 1 = .ok (.getfield 15, 3) := by decide +kernel
theorem dX5_isKnown_4 : decode cX5_isKnown 4 = .ok (.getfield 44, 3) := by decide +kernel
theorem dX5_isKnown_7 : decode cX5_isKnown 7 = .ok (.iconst 1, 1) := by decide +kernel
theorem dX5_isKnown_8 : decode cX5_isKnown 8 = .ok (.if_icmp .eq 9, 3) := by decide +kernel
theorem dX5_isKnown_11 : decode cX5_isKnown 11 = .ok (.aload_n 0, 1) := by decide +kernel
theorem dX5_isKnown_12 : decode cX5_isKnown 12 = .ok (.iconst 1, 1) := by decide +kernel
theorem dX5_isKnown_13 : decode cX5_isKnown 13 = .ok (.invokevirtual 40, 3) := by decide +kernel
theorem dX5_isKnown_16 : decode cX5_isKnown 16 = .ok (.ireturn, 1) := by decide +kernel
theorem dX5_isKnown_17 : decode cX5_isKnown 17 = .ok (.aload_n 1, 1) := by decide +kernel
theorem dX5_isKnown_18 : decode cX5_isKnown 18 = .ok (.aload_n 0, 1) := by decide +kernel
theorem dX5_isKnown_19 : decode cX5_isKnown 19 = .ok (.getfield 15, 3) := by decide +kernel
theorem dX5_isKnown_22 : decode cX5_isKnown 22 = .ok (.getfield 208, 3) := by decide +kernel
theorem dX5_isKnown_25 : decode cX5_isKnown 25 = .ok (.invokevirtual 212, 3) := by decide +kernel
theorem dX5_isKnown_28 : decode cX5_isKnown 28 = .ok (.iconst (-1), 1) := by decide +kernel
theorem dX5_isKnown_29 : decode cX5_isKnown 29 = .ok (.if_icmp .ne 11, 3) := by decide +kernel
theorem dX5_isKnown_32 : decode cX5_isKnown 32 = .ok (.aload_n 0, 1) := by decide +kernel
theorem dX5_isKnown_33 : decode cX5_isKnown 33 = .ok (.iconst 3, 1) := by decide +kernel
theorem dX5_isKnown_34 : decode cX5_isKnown 34 = .ok (.invokevirtual 40, 3) := by decide +kernel
theorem dX5_isKnown_37 : decode cX5_isKnown 37 = .ok (.ifCond .eq 7, 3) := by decide +kernel
theorem dX5_isKnown_40 : decode cX5_isKnown 40 = .ok (.iconst 1, 1) := by decide +kernel
theorem dX5_isKnown_41 : decode cX5_isKnown 41 = .ok (.goto 4, 3) := by decide +kernel
theorem dX5_isKnown_44 : decode cX5_isKnown 44 = .ok (.iconst 0, 1) := by decide +kernel
theorem dX5_isKnown_45 : decode cX5_isKnown 45 = .ok (.ireturn, 1) := by decide +kernel
theorem dX5_groupTold_0 : decode cX5_groupTold 0 = .ok (.aload_n 0, 1) := by decide +kernel
theorem dX5_groupTold_1 : decode cX5_groupTold 1 = .ok (.getfield 19, 3) := by decide +kernel
theorem dX5_groupTold_4 : decode cX5_groupTold 4 = .ok (.getfield 71, 3) := by decide +kernel
theorem dX5_groupTold_7 : decode cX5_groupTold 7 = .ok (.aload_n 0, 1) := by decide +kernel
theorem dX5_groupTold_8 : decode cX5_groupTold 8 = .ok (.getfield 15, 3) := by decide +kernel
theorem dX5_groupTold_11 : decode cX5_groupTold 11 = .ok (.getfield 208, 3) := by decide +kernel
theorem dX5_groupTold_14 : decode cX5_groupTold 14 = .ok (.invokevirtual 212, 3) := by decide +kernel
theorem dX5_groupTold_17 : decode cX5_groupTold 17 = .ok (.istore_n 1, 1) := by decide +kernel
theorem dX5_groupTold_18 : decode cX5_groupTold 18 = .ok (.aload_n 0, 1) := by decide +kernel
theorem dX5_groupTold_19 : decode cX5_groupTold 19 = .ok (.getfield 19, 3) := by decide +kernel
theorem dX5_groupTold_22 : decode cX5_groupTold 22 = .ok (.getfield 81, 3) := by decide +kernel
theorem dX5_groupTold_25 : decode cX5_groupTold 25 = .ok (.iload_n 1, 1) := by decide +kernel
theorem dX5_groupTold_26 : decode cX5_groupTold 26 = .ok (.ifCond .lt 7, 3) := by decide +kernel
theorem dX5_groupTold_29 : decode cX5_groupTold 29 = .ok (.iload_n 1, 1) := by decide +kernel
theorem dX5_groupTold_30 : decode cX5_groupTold 30 = .ok (.goto 4, 3) := by decide +kernel
theorem dX5_groupTold_33 : decode cX5_groupTold 33 = .ok (.iconst 0, 1) := by decide +kernel
theorem dX5_groupTold_34 : decode cX5_groupTold 34 = .ok (.aaload, 1) := by decide +kernel
theorem dX5_groupTold_35 : decode cX5_groupTold 35 = .ok (.areturn, 1) := by decide +kernel
theorem dX5_moduleTold_0 : decode cX5_moduleTold 0 = .ok (.aload_n 0, 1) := by decide +kernel
theorem dX5_moduleTold_1 : decode cX5_moduleTold 1 = .ok (.getfield 19, 3) := by decide +kernel
theorem dX5_moduleTold_4 : decode cX5_moduleTold 4 = .ok (.getfield 144, 3) := by decide +kernel
theorem dX5_moduleTold_7 : decode cX5_moduleTold 7 = .ok (.aload_n 0, 1) := by decide +kernel
theorem dX5_moduleTold_8 : decode cX5_moduleTold 8 = .ok (.getfield 15, 3) := by decide +kernel
theorem dX5_moduleTold_11 : decode cX5_moduleTold 11 = .ok (.getfield 208, 3) := by decide +kernel
theorem dX5_moduleTold_14 : decode cX5_moduleTold 14 = .ok (.invokevirtual 212, 3) := by decide +kernel
theorem dX5_moduleTold_17 : decode cX5_moduleTold 17 = .ok (.istore_n 1, 1) := by decide +kernel
theorem dX5_moduleTold_18 : decode cX5_moduleTold 18 = .ok (.aload_n 0, 1) := by decide +kernel
theorem dX5_moduleTold_19 : decode cX5_moduleTold 19 = .ok (.getfield 19, 3) := by decide +kernel
theorem dX5_moduleTold_22 : decode cX5_moduleTold 22 = .ok (.getfield 147, 3) := by decide +kernel
theorem dX5_moduleTold_25 : decode cX5_moduleTold 25 = .ok (.iload_n 1, 1) := by decide +kernel
theorem dX5_moduleTold_26 : decode cX5_moduleTold 26 = .ok (.ifCond .lt 7, 3) := by decide +kernel
theorem dX5_moduleTold_29 : decode cX5_moduleTold 29 = .ok (.iload_n 1, 1) := by decide +kernel
theorem dX5_moduleTold_30 : decode cX5_moduleTold 30 = .ok (.goto 4, 3) := by decide +kernel
theorem dX5_moduleTold_33 : decode cX5_moduleTold 33 = .ok (.iconst 0, 1) := by decide +kernel
theorem dX5_moduleTold_34 : decode cX5_moduleTold 34 = .ok (.aaload, 1) := by decide +kernel
theorem dX5_moduleTold_35 : decode cX5_moduleTold 35 = .ok (.areturn, 1) := by decide +kernel
theorem dX6_init_0 : decode cX6_init 0 = .ok (.aload_n 0, 1) := by decide +kernel
theorem dX6_init_1 : decode cX6_init 1 = .ok (.invokespecial 3, 3) := by decide +kernel
theorem dX6_init_4 : decode cX6_init 4 = .ok (.aload_n 0, 1) := by decide +kernel
theorem dX6_init_5 : decode cX6_init 5 = .ok (.aload_n 1, 1) := by decide +kernel
theorem dX6_init_6 : decode cX6_init 6 = .ok (.putfield 9, 3) := by decide +kernel
theorem dX6_init_9 : decode cX6_init 9 = .ok (.aload_n 0, 1) := by decide +kernel
theorem dX6_init_10 : decode cX6_init 10 = .ok (.iload_n 2, 1) := by decide +kernel
theorem dX6_init_11 : decode cX6_init 11 = .ok (.putfield 15, 3) := by decide +kernel
theorem dX6_init_14 : decode cX6_init 14 = .ok (.return_, 1) := by decide +kernel
theorem dX6_byteAt_0 : decode cX6_byteAt 0 = .ok (.iload_n 1, 1) := by decide +kernel
theorem dX6_byteAt_1 : decode cX6_byteAt 1 = .ok (.ifCond .lt 29, 3) := by decide +kernel
theorem dX6_byteAt_4 : decode cX6_byteAt 4 = .ok (.iload_n 1, 1) := by decide +kernel
theorem dX6_byteAt_5 : decode cX6_byteAt 5 = .ok (.aload_n 0, 1) := by decide +kernel
theorem dX6_byteAt_6 : decode cX6_byteAt 6 = .ok (.getfield 15, 3) := by decide +kernel
theorem dX6_byteAt_9 : decode cX6_byteAt 9 = .ok (.if_icmp .ge 21, 3) := by decide +kernel
theorem dX6_byteAt_12 : decode cX6_byteAt 12 = .ok (.iload_n 1, 1) := by decide +kernel
theorem dX6_byteAt_13 : decode cX6_byteAt 13 = .ok (.aload_n 0, 1) := by decide +kernel
theorem dX6_byteAt_14 : decode cX6_byteAt 14 = .ok (.getfield 9, 3) := by decide +kernel
theorem dX6_byteAt_17 : decode cX6_byteAt 17 = .ok (.arraylength, 1) := by decide +kernel
theorem dX6_byteAt_18 : decode cX6_byteAt 18 = .ok (.if_icmp .ge 12, 3) := by decide +kernel
theorem dX6_byteAt_21 : decode cX6_byteAt 21 = .ok (.aload_n 0, 1) := by decide +kernel
theorem dX6_byteAt_22 : decode cX6_byteAt 22 = .ok (.getfield 9, 3) := by decide +kernel
theorem dX6_byteAt_25 : decode cX6_byteAt 25 = .ok (.iload_n 1, 1) := by decide +kernel
theorem dX6_byteAt_26 : decode cX6_byteAt 26 = .ok (.baload, 1) := by decide +kernel
theorem dX6_byteAt_27 : decode cX6_byteAt 27 = .ok (.goto 4, 3) := by decide +kernel
theorem dX6_byteAt_30 : decode cX6_byteAt 30 = .ok (.iconst 0, 1) := by decide +kernel
theorem dX6_byteAt_31 : decode cX6_byteAt 31 = .ok (.ireturn, 1) := by decide +kernel
theorem dX6_advance_0 : decode cX6_advance 0 = .ok (.aload_n 0, 1) := by decide +kernel
theorem dX6_advance_1 : decode cX6_advance 1 = .ok (.aload_n 0, 1) := by decide +kernel
theorem dX6_advance_2 : decode cX6_advance 2 = .ok (.aload_n 0, 1) := by decide +kernel
theorem dX6_advance_3 : decode cX6_advance 3 = .ok (.getfield 19, 3) := by decide +kernel
theorem dX6_advance_6 : decode cX6_advance 6 = .ok (.bipush 32, 2) := by decide +kernel
theorem dX6_advance_8 : decode cX6_advance 8 = .ok (.bipush 32, 2) := by decide +kernel
theorem dX6_advance_10 : decode cX6_advance 10 = .ok (.invokevirtual 22, 3) := by decide +kernel
theorem dX6_advance_13 : decode cX6_advance 13 = .ok (.putfield 26, 3) := by decide +kernel
theorem dX6_advance_16 : decode cX6_advance 16 = .ok (.aload_n 0, 1) := by decide +kernel
theorem dX6_advance_17 : decode cX6_advance 17 = .ok (.aload_n 0, 1) := by decide +kernel
theorem dX6_advance_18 : decode cX6_advance 18 = .ok (.getfield 26, 3) := by decide +kernel
theorem dX6_advance_21 : decode cX6_advance 21 = .ok (.invokevirtual 29, 3) := by decide +kernel
theorem dX6_advance_24 : decode cX6_advance 24 = .ok (.istore_n 1, 1) := by decide +kernel
theorem dX6_advance_25 : decode cX6_advance 25 = .ok (.aload_n 0, 1) := by decide +kernel
theorem dX6_advance_26 : decode cX6_advance 26 = .ok (.getfield 26, 3) := by decide +kernel
theorem dX6_advance_29 : decode cX6_advance 29 = .ok (.aload_n 0, 1) := by decide +kernel
theorem dX6_advance_30 : decode cX6_advance 30 = .ok (.getfield 15, 3) := by decide +kernel
theorem dX6_advance_33 : decode cX6_advance 33 = .ok (.if_icmp .lt 19, 3) := by decide +kernel
theorem dX6_advance_36 : decode cX6_advance 36 = .ok (.aload_n 0, 1) := by decide +kernel
theorem dX6_advance_37 : decode cX6_advance 37 = .ok (.aload_n 0, 1) := by decide +kernel
theorem dX6_advance_38 : decode cX6_advance 38 = .ok (.getfield 26, 3) := by decide +kernel
theorem dX6_advance_41 : decode cX6_advance 41 = .ok (.putfield 19, 3) := by decide +kernel
theorem dX6_advance_44 : decode cX6_advance 44 = .ok (.aload_n 0, 1) := by decide +kernel
theorem dX6_advance_45 : decode cX6_advance 45 = .ok (.iconst 0, 1) := by decide +kernel
theorem dX6_advance_46 : decode cX6_advance 46 = .ok (.putfield 33, 3) := by decide +kernel
theorem dX6_advance_49 : decode cX6_advance 49 = .ok (.goto 173, 3) := by decide +kernel
theorem dX6_advance_52 : decode cX6_advance 52 = .ok (.iload_n 1, 1) := by decide +kernel
theorem dX6_advance_53 : decode cX6_advance 53 = .ok (.bipush 97, 2) := by decide +kernel
theorem dX6_advance_55 : decode cX6_advance 55 = .ok (.bipush 122, 2) := by decide +kernel
theorem dX6_advance_57 : decode cX6_advance 57 = .ok (.invokestatic 36, 3) := by decide +kernel
theorem dX6_advance_60 : decode cX6_advance 60 = .ok (.ifCond .eq 65, 3) := by decide +kernel
theorem dX6_advance_63 : decode cX6_advance 63 = .ok (.aload_n 0, 1) := by decide +kernel
theorem dX6_advance_64 : decode cX6_advance 64 = .ok (.aload_n 0, 1) := by decide +kernel
theorem dX6_advance_65 : decode cX6_advance 65 = .ok (.aload_n 0, 1) := by decide +kernel
theorem dX6_advance_66 : decode cX6_advance 66 = .ok (.getfield 26, 3) := by decide +kernel
theorem dX6_advance_69 : decode cX6_advance 69 = .ok (.bipush 97, 2) := by decide +kernel
theorem dX6_advance_71 : decode cX6_advance 71 = .ok (.bipush 122, 2) := by decide +kernel
theorem dX6_advance_73 : decode cX6_advance 73 = .ok (.invokevirtual 22, 3) := by decide +kernel
theorem dX6_advance_76 : decode cX6_advance 76 = .ok (.putfield 19, 3) := by decide +kernel
theorem dX6_advance_79 : decode cX6_advance 79 = .ok (.aload_n 0, 1) := by decide +kernel
theorem dX6_advance_80 : decode cX6_advance 80 = .ok (.aload_n 0, 1) := by decide +kernel
theorem dX6_advance_81 : decode cX6_advance 81 = .ok (.getfield 19, 3) := by decide +kernel
theorem dX6_advance_84 : decode cX6_advance 84 = .ok (.aload_n 0, 1) := by decide +kernel
theorem dX6_advance_85 : decode cX6_advance 85 = .ok (.getfield 26, 3) := by decide +kernel
theorem dX6_advance_88 : decode cX6_advance 88 = .ok (.isub, 1) := by decide +kernel
theorem dX6_advance_89 : decode cX6_advance 89 = .ok (.bipush 10, 2) := by decide +kernel
theorem dX6_advance_91 : decode cX6_advance 91 = .ok (.if_icmp .gt 7, 3) := by decide +kernel
theorem dX6_advance_94 : decode cX6_advance 94 = .ok (.iconst 1, 1) := by decide +kernel
theorem dX6_advance_95 : decode cX6_advance 95 = .ok (.goto 4, 3) := by decide +kernel
theorem dX6_advance_98 : decode cX6_advance 98 = .ok (.iconst 4, 1) := by decide +kernel
theorem dX6_advance_99 : decode cX6_advance 99 = .ok (.putfield 33, 3) := by decide +kernel
theorem dX6_advance_102 : decode cX6_advance 102 = .ok (.aload_n 0, 1) := by decide +kernel
theorem dX6_advance_103 : decode cX6_advance 103 = .ok (.aload_n 0, 1) := by decide +kernel
theorem dX6_advance_104 : decode cX6_advance 104 = .ok (.getfield 33, 3) := by decide +kernel
theorem dX6_advance_107 : decode cX6_advance 107 = .ok (.iconst 1, 1) := by decide +kernel
theorem dX6_advance_108 : decode cX6_advance 108 = .ok (.if_icmp .ne 10, 3) := by decide +kernel
theorem dX6_advance_111 : decode cX6_advance 111 = .ok (.aload_n 0, 1) := by decide +kernel
theorem dX6_advance_112 : decode cX6_advance 112 = .ok (.invokevirtual 40, 3) := by decide +kernel
theorem dX6_advance_115 : decode cX6_advance 115 = .ok (.goto 4, 3) := by decide +kernel
theorem dX6_advance_118 : decode cX6_advance 118 = .ok (.lconst 0, 1) := by decide +kernel
theorem dX6_advance_119 : decode cX6_advance 119 = .ok (.putfield 44, 3) := by decide +kernel
theorem dX6_advance_122 : decode cX6_advance 122 = .ok (.goto 100, 3) := by decide +kernel
theorem dX6_advance_125 : decode cX6_advance 125 = .ok (.iload_n 1, 1) := by decide +kernel
theorem dX6_advance_126 : decode cX6_advance 126 = .ok (.bipush 48, 2) := by decide +kernel
theorem dX6_advance_128 : decode cX6_advance 128 = .ok (.bipush 57, 2) := by decide +kernel
theorem dX6_advance_130 : decode cX6_advance 130 = .ok (.invokestatic 36, 3) := by decide +kernel
theorem dX6_advance_133 : decode cX6_advance 133 = .ok (.ifCond .eq 64, 3) := by decide +kernel
theorem dX6_advance_136 : decode cX6_advance 136 = .ok (.aload_n 0, 1) := by decide +kernel
theorem dX6_advance_137 : decode cX6_advance 137 = .ok (.aload_n 0, 1) := by decide +kernel
theorem dX6_advance_138 : decode cX6_advance 138 = .ok (.aload_n 0, 1) := by decide +kernel
theorem dX6_advance_139 : decode cX6_advance 139 = .ok (.getfield 26, 3) := by decide +kernel
theorem dX6_advance_142 : decode cX6_advance 142 = .ok (.bipush 48, 2) := by decide +kernel
theorem dX6_advance_144 : decode cX6_advance 144 = .ok (.bipush 57, 2) := by decide +kernel
theorem dX6_advance_146 : decode cX6_advance 146 = .ok (.invokevirtual 22, 3) := by decide +kernel
theorem dX6_advance_149 : decode cX6_advance 149 = .ok (.putfield 19, 3) := by decide +kernel
theorem dX6_advance_152 : decode cX6_advance 152 = .ok (.aload_n 0, 1) := by decide +kernel
theorem dX6_advance_153 : decode cX6_advance 153 = .ok (.aload_n 0, 1) := by decide +kernel
theorem dX6_advance_154 : decode cX6_advance 154 = .ok (.getfield 19, 3) := by decide +kernel
theorem dX6_advance_157 : decode cX6_advance 157 = .ok (.aload_n 0, 1) := by decide +kernel
theorem dX6_advance_158 : decode cX6_advance 158 = .ok (.getfield 26, 3) := by decide +kernel
theorem dX6_advance_161 : decode cX6_advance 161 = .ok (.isub, 1) := by decide +kernel
theorem dX6_advance_162 : decode cX6_advance 162 = .ok (.iconst 2, 1) := by decide +kernel
theorem dX6_advance_163 : decode cX6_advance 163 = .ok (.if_icmp .gt 7, 3) := by decide +kernel
theorem dX6_advance_166 : decode cX6_advance 166 = .ok (.iconst 2, 1) := by decide +kernel
theorem dX6_advance_167 : decode cX6_advance 167 = .ok (.goto 4, 3) := by decide +kernel
theorem dX6_advance_170 : decode cX6_advance 170 = .ok (.iconst 4, 1) := by decide +kernel
theorem dX6_advance_171 : decode cX6_advance 171 = .ok (.putfield 33, 3) := by decide +kernel
theorem dX6_advance_174 : decode cX6_advance 174 = .ok (.aload_n 0, 1) := by decide +kernel
theorem dX6_advance_175 : decode cX6_advance 175 = .ok (.aload_n 0, 1) := by decide +kernel
theorem dX6_advance_176 : decode cX6_advance 176 = .ok (.getfield 33, 3) := by decide +kernel
theorem dX6_advance_179 : decode cX6_advance 179 = .ok (.iconst 2, 1) := by decide +kernel
theorem dX6_advance_180 : decode cX6_advance 180 = .ok (.if_icmp .ne 10, 3) := by decide +kernel
theorem dX6_advance_183 : decode cX6_advance 183 = .ok (.aload_n 0, 1) := by decide +kernel
theorem dX6_advance_184 : decode cX6_advance 184 = .ok (.invokevirtual 48, 3) := by decide +kernel
theorem dX6_advance_187 : decode cX6_advance 187 = .ok (.goto 4, 3) := by decide +kernel
theorem dX6_advance_190 : decode cX6_advance 190 = .ok (.iconst 0, 1) := by decide +kernel
theorem dX6_advance_191 : decode cX6_advance 191 = .ok (.putfield 52, 3) := by decide +kernel
theorem dX6_advance_194 : decode cX6_advance 194 = .ok (.goto 28, 3) := by decide +kernel
theorem dX6_advance_197 : decode cX6_advance 197 = .ok (.aload_n 0, 1) := by decide +kernel
theorem dX6_advance_198 : decode cX6_advance 198 = .ok (.aload_n 0, 1) := by decide +kernel
theorem dX6_advance_199 : decode cX6_advance 199 = .ok (.getfield 26, 3) := by decide +kernel
theorem dX6_advance_202 : decode cX6_advance 202 = .ok (.iconst 1, 1) := by decide +kernel
theorem dX6_advance_203 : decode cX6_advance 203 = .ok (.iadd, 1) := by decide +kernel
theorem dX6_advance_204 : decode cX6_advance 204 = .ok (.putfield 19, 3) := by decide +kernel
theorem dX6_advance_207 : decode cX6_advance 207 = .ok (.aload_n 0, 1) := by decide +kernel
theorem dX6_advance_208 : decode cX6_advance 208 = .ok (.iload_n 1, 1) := by decide +kernel
theorem dX6_advance_209 : decode cX6_advance 209 = .ok (.bipush 59, 2) := by decide +kernel
theorem dX6_advance_211 : decode cX6_advance 211 = .ok (.if_icmp .ne 7, 3) := by decide +kernel
theorem dX6_advance_214 : decode cX6_advance 214 = .ok (.iconst 3, 1) := by decide +kernel
theorem dX6_advance_215 : decode cX6_advance 215 = .ok (.goto 4, 3) := by decide +kernel
theorem dX6_advance_218 : decode cX6_advance 218 = .ok (.iconst 4, 1) := by decide +kernel
theorem dX6_advance_219 : decode cX6_advance 219 = .ok (.putfield 33, 3) := by decide +kernel
theorem dX6_advance_222 : decode cX6_advance 222 = .ok (.return_, 1) := by decide +kernel
theorem dX6_endOfRun_0 : decode cX6_endOfRun 0 = .ok (.iload_n 1, 1) := by decide +kernel
theorem dX6_endOfRun_1 : decode cX6_endOfRun 1 = .ok (.istore 4, 2) := by decide +kernel
theorem dX6_endOfRun_3 : decode cX6_endOfRun 3 = .ok (.iload 4, 2) := by decide +kernel
theorem dX6_endOfRun_5 : decode cX6_endOfRun 5 = .ok (.ifCond .lt 50, 3) := by decide +kernel
theorem dX6_endOfRun_8 : decode cX6_endOfRun 8 = .ok (.iload 4, 2) := by decide +kernel
theorem dX6_endOfRun_10 : decode cX6_endOfRun 10 = .ok (.aload_n 0, 1) := by decide +kernel
theorem dX6_endOfRun_11 : decode cX6_endOfRun 11 = .ok (.getfield 15, 3) := by decide +kernel
theorem dX6_endOfRun_14 : decode cX6_endOfRun 14 = .ok (.if_icmp .ge 41, 3) := by decide +kernel
theorem dX6_endOfRun_17 : decode cX6_endOfRun 17 = .ok (.iload 4, 2) := by decide +kernel
theorem dX6_endOfRun_19 : decode cX6_endOfRun 19 = .ok (.aload_n 0, 1) := by decide +kernel
theorem dX6_endOfRun_20 : decode cX6_endOfRun 20 = .ok (.getfield 9, 3) := by decide +kernel
theorem dX6_endOfRun_23 : decode cX6_endOfRun 23 = .ok (.arraylength, 1) := by decide +kernel
theorem dX6_endOfRun_24 : decode cX6_endOfRun 24 = .ok (.if_icmp .ge 31, 3) := by decide +kernel
theorem dX6_endOfRun_27 : decode cX6_endOfRun 27 = .ok (.aload_n 0, 1) := by decide +kernel
theorem dX6_endOfRun_28 : decode cX6_endOfRun 28 = .ok (.getfield 9, 3) := by decide +kernel
theorem dX6_endOfRun_31 : decode cX6_endOfRun 31 = .ok (.iload 4, 2) := by decide +kernel
theorem dX6_endOfRun_33 : decode cX6_endOfRun 33 = .ok (.baload, 1) := by decide +kernel
theorem dX6_endOfRun_34 : decode cX6_endOfRun 34 = .ok (.iload_n 2, 1) := by decide +kernel
theorem dX6_endOfRun_35 : decode cX6_endOfRun 35 = .ok (.if_icmp .lt 20, 3) := by decide +kernel
theorem dX6_endOfRun_38 : decode cX6_endOfRun 38 = .ok (.aload_n 0, 1) := by decide +kernel
theorem dX6_endOfRun_39 : decode cX6_endOfRun 39 = .ok (.getfield 9, 3) := by decide +kernel
theorem dX6_endOfRun_42 : decode cX6_endOfRun 42 = .ok (.iload 4, 2) := by decide +kernel
theorem dX6_endOfRun_44 : decode cX6_endOfRun 44 = .ok (.baload, 1) := by decide +kernel
theorem dX6_endOfRun_45 : decode cX6_endOfRun 45 = .ok (.iload_n 3, 1) := by decide +kernel
theorem dX6_endOfRun_46 : decode cX6_endOfRun 46 = .ok (.if_icmp .gt 9, 3) := by decide +kernel
theorem dX6_endOfRun_49 : decode cX6_endOfRun 49 = .ok (.iinc 4 1, 3) := by decide +kernel
theorem dX6_endOfRun_52 : decode cX6_endOfRun 52 = .ok (.goto (-49), 3) := by decide +kernel
theorem dX6_endOfRun_55 : decode cX6_endOfRun 55 = .ok (.iload 4, 2) := by decide +kernel
theorem dX6_endOfRun_57 : decode cX6_endOfRun 57 = .ok (.ireturn, 1) := by decide +kernel
theorem dX6_packed_0 : decode cX6_packed 0 = .ok (.lconst 0, 1) := by decide +kernel
theorem dX6_packed_1 : decode cX6_packed 1 = .ok (.lstore_n 1, 1) := by decide +kernel
theorem dX6_packed_2 : decode cX6_packed 2 = .ok (.aload_n 0, 1) := by decide +kernel
theorem dX6_packed_3 : decode cX6_packed 3 = .ok (.getfield 26, 3) := by decide +kernel
theorem dX6_packed_6 : decode cX6_packed 6 = .ok (.istore_n 3, 1) := by decide +kernel
theorem dX6_packed_7 : decode cX6_packed 7 = .ok (.iload_n 3, 1) := by decide +kernel
theorem dX6_packed_8 : decode cX6_packed 8 = .ok (.ifCond .lt 43, 3) := by decide +kernel
theorem dX6_packed_11 : decode cX6_packed 11 = .ok (.iload_n 3, 1) := by decide +kernel
theorem dX6_packed_12 : decode cX6_packed 12 = .ok (.aload_n 0, 1) := by decide +kernel
theorem dX6_packed_13 : decode cX6_packed 13 = .ok (.getfield 19, 3) := by decide +kernel
theorem dX6_packed_16 : decode cX6_packed 16 = .ok (.if_icmp .ge 35, 3) := by decide +kernel
theorem dX6_packed_19 : decode cX6_packed 19 = .ok (.iload_n 3, 1) := by decide +kernel
theorem dX6_packed_20 : decode cX6_packed 20 = .ok (.aload_n 0, 1) := by decide +kernel
theorem dX6_packed_21 : decode cX6_packed 21 = .ok (.getfield 9, 3) := by decide +kernel
theorem dX6_packed_24 : decode cX6_packed 24 = .ok (.arraylength, 1) := by decide +kernel
theorem dX6_packed_25 : decode cX6_packed 25 = .ok (.if_icmp .ge 26, 3) := by decide +kernel
theorem dX6_packed_28 : decode cX6_packed 28 = .ok (.lload_n 1, 1) := by decide +kernel
theorem dX6_packed_29 : decode cX6_packed 29 = .ok (.iconst 5, 1) := by decide +kernel
theorem dX6_packed_30 : decode cX6_packed 30 = .ok (.lshl, 1) := by decide +kernel
theorem dX6_packed_31 : decode cX6_packed 31 = .ok (.aload_n 0, 1) := by decide +kernel
theorem dX6_packed_32 : decode cX6_packed 32 = .ok (.getfield 9, 3) := by decide +kernel
theorem dX6_packed_35 : decode cX6_packed 35 = .ok (.iload_n 3, 1) := by decide +kernel
theorem dX6_packed_36 : decode cX6_packed 36 = .ok (.baload, 1) := by decide +kernel
theorem dX6_packed_37 : decode cX6_packed 37 = .ok (.bipush 97, 2) := by decide +kernel
theorem dX6_packed_39 : decode cX6_packed 39 = .ok (.isub, 1) := by decide +kernel
theorem dX6_packed_40 : decode cX6_packed 40 = .ok (.iconst 1, 1) := by decide +kernel
theorem dX6_packed_41 : decode cX6_packed 41 = .ok (.iadd, 1) := by decide +kernel
theorem dX6_packed_42 : decode cX6_packed 42 = .ok (.i2l, 1) := by decide +kernel
theorem dX6_packed_43 : decode cX6_packed 43 = .ok (.lor, 1) := by decide +kernel
theorem dX6_packed_44 : decode cX6_packed 44 = .ok (.lstore_n 1, 1) := by decide +kernel
theorem dX6_packed_45 : decode cX6_packed 45 = .ok (.iinc 3 1, 3) := by decide +kernel
theorem dX6_packed_48 : decode cX6_packed 48 = .ok (.goto (-41), 3) := by decide +kernel
theorem dX6_packed_51 : decode cX6_packed 51 = .ok (.lload_n 1, 1) := by decide +kernel
theorem dX6_packed_52 : decode cX6_packed 52 = .ok (.lreturn, 1) := by decide +kernel
theorem dX6_spells_0 : decode cX6_spells 0 = .ok (.aload_n 0, 1) := by decide +kernel
theorem dX6_spells_1 : decode cX6_spells 1 = .ok (.getfield 33, 3) := by decide +kernel
theorem dX6_spells_4 : decode cX6_spells 4 = .ok (.iconst 1, 1) := by decide +kernel
theorem dX6_spells_5 : decode cX6_spells 5 = .ok (.if_icmp .ne 23, 3) := by decide +kernel
theorem dX6_spells_8 : decode cX6_spells 8 = .ok (.aload_n 0, 1) := by decide +kernel
theorem dX6_spells_9 : decode cX6_spells 9 = .ok (.getfield 19, 3) := by decide +kernel
theorem dX6_spells_12 : decode cX6_spells 12 = .ok (.aload_n 0, 1) := by decide +kernel
theorem dX6_spells_13 : decode cX6_spells 13 = .ok (.getfield 26, 3) := by decide +kernel
theorem dX6_spells_16 : decode cX6_spells 16 = .ok (.isub, 1) := by decide +kernel
theorem dX6_spells_17 : decode cX6_spells 17 = .ok (.aload_n 1, 1) := by decide +kernel
theorem dX6_spells_18 : decode cX6_spells 18 = .ok (.invokevirtual 55, 3) := by decide +kernel
theorem dX6_spells_21 : decode cX6_spells 21 = .ok (.if_icmp .ne 7, 3) := by decide +kernel
theorem dX6_spells_24 : decode cX6_spells 24 = .ok (.iconst 1, 1) := by decide +kernel
theorem dX6_spells_25 : decode cX6_spells 25 = .ok (.goto 4, 3) := by decide +kernel
theorem dX6_spells_28 : decode cX6_spells 28 = .ok (.iconst 0, 1) := by decide +kernel
theorem dX6_spells_29 : decode cX6_spells 29 = .ok (.istore_n 2, 1) := by decide +kernel
theorem dX6_spells_30 : decode cX6_spells 30 = .ok (.iconst 0, 1) := by decide +kernel
theorem dX6_spells_31 : decode cX6_spells 31 = .ok (.istore_n 3, 1) := by decide +kernel
theorem dX6_spells_32 : decode cX6_spells 32 = .ok (.iload_n 2, 1) := by decide +kernel
theorem dX6_spells_33 : decode cX6_spells 33 = .ok (.ifCond .eq 41, 3) := by decide +kernel
theorem dX6_spells_36 : decode cX6_spells 36 = .ok (.iload_n 3, 1) := by decide +kernel
theorem dX6_spells_37 : decode cX6_spells 37 = .ok (.aload_n 1, 1) := by decide +kernel
theorem dX6_spells_38 : decode cX6_spells 38 = .ok (.invokevirtual 55, 3) := by decide +kernel
theorem dX6_spells_41 : decode cX6_spells 41 = .ok (.if_icmp .ge 33, 3) := by decide +kernel
theorem dX6_spells_44 : decode cX6_spells 44 = .ok (.aload_n 0, 1) := by decide +kernel
theorem dX6_spells_45 : decode cX6_spells 45 = .ok (.aload_n 0, 1) := by decide +kernel
theorem dX6_spells_46 : decode cX6_spells 46 = .ok (.getfield 26, 3) := by decide +kernel
theorem dX6_spells_49 : decode cX6_spells 49 = .ok (.iload_n 3, 1) := by decide +kernel
theorem dX6_spells_50 : decode cX6_spells 50 = .ok (.iadd, 1) := by decide +kernel
theorem dX6_spells_51 : decode cX6_spells 51 = .ok (.invokevirtual 29, 3) := by decide +kernel
theorem dX6_spells_54 : decode cX6_spells 54 = .ok (.aload_n 1, 1) := by decide +kernel
theorem dX6_spells_55 : decode cX6_spells 55 = .ok (.iload_n 3, 1) := by decide +kernel
theorem dX6_spells_56 : decode cX6_spells 56 = .ok (.invokevirtual 59, 3) := by decide +kernel
theorem dX6_spells_59 : decode cX6_spells 59 = .ok (.if_icmp .ne 7, 3) := by decide +kernel
theorem dX6_spells_62 : decode cX6_spells 62 = .ok (.iconst 1, 1) := by decide +kernel
theorem dX6_spells_63 : decode cX6_spells 63 = .ok (.goto 4, 3) := by decide +kernel
theorem dX6_spells_66 : decode cX6_spells 66 = .ok (.iconst 0, 1) := by decide +kernel
theorem dX6_spells_67 : decode cX6_spells 67 = .ok (.istore_n 2, 1) := by decide +kernel
theorem dX6_spells_68 : decode cX6_spells 68 = .ok (.iinc 3 1, 3) := by decide +kernel
theorem dX6_spells_71 : decode cX6_spells 71 = .ok (.goto (-39), 3) := by decide +kernel
theorem dX6_spells_74 : decode cX6_spells 74 = .ok (.iload_n 2, 1) := by decide +kernel
theorem dX6_spells_75 : decode cX6_spells 75 = .ok (.ireturn, 1) := by decide +kernel
theorem dX6_reckoned_0 : decode cX6_reckoned 0 = .ok (.iconst 0, 1) := by decide +kernel
theorem dX6_reckoned_1 : decode cX6_reckoned 1 = .ok (.istore_n 1, 1) := by decide +kernel
theorem dX6_reckoned_2 : decode cX6_reckoned 2 = .ok (.aload_n 0, 1) := by decide +kernel
theorem dX6_reckoned_3 : decode cX6_reckoned 3 = .ok (.getfield 26, 3) := by decide +kernel
theorem dX6_reckoned_6 : decode cX6_reckoned 6 = .ok (.istore_n 2, 1) := by decide +kernel
theorem dX6_reckoned_7 : decode cX6_reckoned 7 = .ok (.iload_n 2, 1) := by decide +kernel
theorem dX6_reckoned_8 : decode cX6_reckoned 8 = .ok (.ifCond .lt 41, 3) := by decide +kernel
theorem dX6_reckoned_11 : decode cX6_reckoned 11 = .ok (.iload_n 2, 1) := by decide +kernel
theorem dX6_reckoned_12 : decode cX6_reckoned 12 = .ok (.aload_n 0, 1) := by decide +kernel
theorem dX6_reckoned_13 : decode cX6_reckoned 13 = .ok (.getfield 19, 3) := by decide +kernel
theorem dX6_reckoned_16 : decode cX6_reckoned 16 = .ok (.if_icmp .ge 33, 3) := by decide +kernel
theorem dX6_reckoned_19 : decode cX6_reckoned 19 = .ok (.iload_n 2, 1) := by decide +kernel
theorem dX6_reckoned_20 : decode cX6_reckoned 20 = .ok (.aload_n 0, 1) := by decide +kernel
theorem dX6_reckoned_21 : decode cX6_reckoned 21 = .ok (.getfield 9, 3) := by decide +kernel
theorem dX6_reckoned_24 : decode cX6_reckoned 24 = .ok (.arraylength, 1) := by decide +kernel
theorem dX6_reckoned_25 : decode cX6_reckoned 25 = .ok (.if_icmp .ge 24, 3) := by decide +kernel
theorem dX6_reckoned_28 : decode cX6_reckoned 28 = .ok (.iload_n 1, 1) := by decide +kernel
theorem dX6_reckoned_29 : decode cX6_reckoned 29 = .ok (.bipush 10, 2) := by decide +kernel
theorem dX6_reckoned_31 : decode cX6_reckoned 31 = .ok (.imul, 1) := by decide +kernel
theorem dX6_reckoned_32 : decode cX6_reckoned 32 = .ok (.aload_n 0, 1) := by decide +kernel
theorem dX6_reckoned_33 : decode cX6_reckoned 33 = .ok (.getfield 9, 3) := by decide +kernel
theorem dX6_reckoned_36 : decode cX6_reckoned 36 = .ok (.iload_n 2, 1) := by decide +kernel
theorem dX6_reckoned_37 : decode cX6_reckoned 37 = .ok (.baload, 1) := by decide +kernel
theorem dX6_reckoned_38 : decode cX6_reckoned 38 = .ok (.iadd, 1) := by decide +kernel
theorem dX6_reckoned_39 : decode cX6_reckoned 39 = .ok (.bipush 48, 2) := by decide +kernel
theorem dX6_reckoned_41 : decode cX6_reckoned 41 = .ok (.isub, 1) := by decide +kernel
theorem dX6_reckoned_42 : decode cX6_reckoned 42 = .ok (.istore_n 1, 1) := by decide +kernel
theorem dX6_reckoned_43 : decode cX6_reckoned 43 = .ok (.iinc 2 1, 3) := by decide +kernel
theorem dX6_reckoned_46 : decode cX6_reckoned 46 = .ok (.goto (-39), 3) := by decide +kernel
theorem dX6_reckoned_49 : decode cX6_reckoned 49 = .ok (.iload_n 1, 1) := by decide +kernel
theorem dX6_reckoned_50 : decode cX6_reckoned 50 = .ok (.ireturn, 1) := by decide +kernel
theorem dX7_init_0 : decode cX7_init 0 = .ok (.aload_n 0, 1) := by decide +kernel
theorem dX7_init_1 : decode cX7_init 1 = .ok (.invokespecial 3, 3) := by decide +kernel
theorem dX7_init_4 : decode cX7_init 4 = .ok (.aload_n 0, 1) := by decide +kernel
theorem dX7_init_5 : decode cX7_init 5 = .ok (.new 9, 3) := by decide +kernel
theorem dX7_init_8 : decode cX7_init 8 = .ok (.dup, 1) := by decide +kernel
theorem dX7_init_9 : decode cX7_init 9 = .ok (.bipush 6, 2) := by decide +kernel
theorem dX7_init_11 : decode cX7_init 11 = .ok (.invokespecial 11, 3) := by decide +kernel
theorem dX7_init_14 : decode cX7_init 14 = .ok (.putfield 14, 3) := by decide +kernel
theorem dX7_init_17 : decode cX7_init 17 = .ok (.aload_n 0, 1) := by decide +kernel
theorem dX7_init_18 : decode cX7_init 18 = .ok (.new 9, 3) := by decide +kernel
theorem dX7_init_21 : decode cX7_init 21 = .ok (.dup, 1) := by decide +kernel
theorem dX7_init_22 : decode cX7_init 22 = .ok (.bipush 6, 2) := by decide +kernel
theorem dX7_init_24 : decode cX7_init 24 = .ok (.invokespecial 11, 3) := by decide +kernel
theorem dX7_init_27 : decode cX7_init 27 = .ok (.putfield 20, 3) := by decide +kernel
theorem dX7_init_30 : decode cX7_init 30 = .ok (.aload_n 0, 1) := by decide +kernel
theorem dX7_init_31 : decode cX7_init 31 = .ok (.new 9, 3) := by decide +kernel
theorem dX7_init_34 : decode cX7_init 34 = .ok (.dup, 1) := by decide +kernel
theorem dX7_init_35 : decode cX7_init 35 = .ok (.bipush 8, 2) := by decide +kernel
theorem dX7_init_37 : decode cX7_init 37 = .ok (.invokespecial 11, 3) := by decide +kernel
theorem dX7_init_40 : decode cX7_init 40 = .ok (.putfield 23, 3) := by decide +kernel
theorem dX7_init_43 : decode cX7_init 43 = .ok (.aload_n 0, 1) := by decide +kernel
theorem dX7_init_44 : decode cX7_init 44 = .ok (.bipush 6, 2) := by decide +kernel
theorem dX7_init_46 : decode cX7_init 46 = .ok (.anewarray 26, 3) := by decide +kernel
theorem dX7_init_49 : decode cX7_init 49 = .ok (.putfield 28, 3) := by decide +kernel
theorem dX7_init_52 : decode cX7_init 52 = .ok (.aload_n 0, 1) := by decide +kernel
theorem dX7_init_53 : decode cX7_init 53 = .ok (.bipush 6, 2) := by decide +kernel
theorem dX7_init_55 : decode cX7_init 55 = .ok (.anewarray 32, 3) := by decide +kernel
theorem dX7_init_58 : decode cX7_init 58 = .ok (.putfield 34, 3) := by decide +kernel
theorem dX7_init_61 : decode cX7_init 61 = .ok (.aload_n 0, 1) := by decide +kernel
theorem dX7_init_62 : decode cX7_init 62 = .ok (.bipush 8, 2) := by decide +kernel
theorem dX7_init_64 : decode cX7_init 64 = .ok (.anewarray 38, 3) := by decide +kernel
theorem dX7_init_67 : decode cX7_init 67 = .ok (.putfield 40, 3) := by decide +kernel
theorem dX7_init_70 : decode cX7_init 70 = .ok (.aload_n 0, 1) := by decide +kernel
theorem dX7_init_71 : decode cX7_init 71 = .ok (.iconst 3, 1) := by decide +kernel
theorem dX7_init_72 : decode cX7_init 72 = .ok (.newarray .int, 2) := by decide +kernel
theorem dX7_init_74 : decode cX7_init 74 = .ok (.putfield 44, 3) := by decide +kernel
theorem dX7_init_77 : decode cX7_init 77 = .ok (.iconst 0, 1) := by decide +kernel
theorem dX7_init_78 : decode cX7_init 78 = .ok (.istore_n 1, 1) := by decide +kernel
theorem dX7_init_79 : decode cX7_init 79 = .ok (.iload_n 1, 1) := by decide +kernel
theorem dX7_init_80 : decode cX7_init 80 = .ok (.bipush 6, 2) := by decide +kernel
theorem dX7_init_82 : decode cX7_init 82 = .ok (.if_icmp .ge 23, 3) := by decide +kernel
theorem dX7_init_85 : decode cX7_init 85 = .ok (.aload_n 0, 1) := by decide +kernel
theorem dX7_init_86 : decode cX7_init 86 = .ok (.getfield 28, 3) := by decide +kernel
theorem dX7_init_89 : decode cX7_init 89 = .ok (.iload_n 1, 1) := by decide +kernel
theorem dX7_init_90 : decode cX7_init 90 = .ok (.new 26, 3) := by decide +kernel
theorem dX7_init_93 : decode cX7_init 93 = .ok (.dup, 1) := by decide +kernel
theorem dX7_init_94 : decode cX7_init 94 = .ok (.iload_n 1, 1) := by decide +kernel
theorem dX7_init_95 : decode cX7_init 95 = .ok (.invokespecial 48, 3) := by decide +kernel
theorem dX7_init_98 : decode cX7_init 98 = .ok (.aastore, 1) := by decide +kernel
theorem dX7_init_99 : decode cX7_init 99 = .ok (.iinc 1 1, 3) := by decide +kernel
theorem dX7_init_102 : decode cX7_init 102 = .ok (.goto (-23), 3) := by decide +kernel
theorem dX7_init_105 : decode cX7_init 105 = .ok (.iconst 0, 1) := by decide +kernel
theorem dX7_init_106 : decode cX7_init 106 = .ok (.istore_n 1, 1) := by decide +kernel
theorem dX7_init_107 : decode cX7_init 107 = .ok (.iload_n 1, 1) := by decide +kernel
theorem dX7_init_108 : decode cX7_init 108 = .ok (.bipush 6, 2) := by decide +kernel
theorem dX7_init_110 : decode cX7_init 110 = .ok (.if_icmp .ge 29, 3) := by decide +kernel
theorem dX7_init_113 : decode cX7_init 113 = .ok (.aload_n 0, 1) := by decide +kernel
theorem dX7_init_114 : decode cX7_init 114 = .ok (.getfield 34, 3) := by decide +kernel
theorem dX7_init_117 : decode cX7_init 117 = .ok (.iload_n 1, 1) := by decide +kernel
theorem dX7_init_118 : decode cX7_init 118 = .ok (.new 32, 3) := by decide +kernel
theorem dX7_init_121 : decode cX7_init 121 = .ok (.dup, 1) := by decide +kernel
theorem dX7_init_122 : decode cX7_init 122 = .ok (.iload_n 1, 1) := by decide +kernel
theorem dX7_init_123 : decode cX7_init 123 = .ok (.aload_n 0, 1) := by decide +kernel
theorem dX7_init_124 : decode cX7_init 124 = .ok (.getfield 28, 3) := by decide +kernel
theorem dX7_init_127 : decode cX7_init 127 = .ok (.iconst 0, 1) := by decide +kernel
theorem dX7_init_128 : decode cX7_init 128 = .ok (.aaload, 1) := by decide +kernel
theorem dX7_init_129 : decode cX7_init 129 = .ok (.invokespecial 49, 3) := by decide +kernel
theorem dX7_init_132 : decode cX7_init 132 = .ok (.aastore, 1) := by decide +kernel
theorem dX7_init_133 : decode cX7_init 133 = .ok (.iinc 1 1, 3) := by decide +kernel
theorem dX7_init_136 : decode cX7_init 136 = .ok (.goto (-29), 3) := by decide +kernel
theorem dX7_init_139 : decode cX7_init 139 = .ok (.iconst 0, 1) := by decide +kernel
theorem dX7_init_140 : decode cX7_init 140 = .ok (.istore_n 1, 1) := by decide +kernel
theorem dX7_init_141 : decode cX7_init 141 = .ok (.iload_n 1, 1) := by decide +kernel
theorem dX7_init_142 : decode cX7_init 142 = .ok (.bipush 8, 2) := by decide +kernel
theorem dX7_init_144 : decode cX7_init 144 = .ok (.if_icmp .ge 28, 3) := by decide +kernel
theorem dX7_init_147 : decode cX7_init 147 = .ok (.aload_n 0, 1) := by decide +kernel
theorem dX7_init_148 : decode cX7_init 148 = .ok (.getfield 40, 3) := by decide +kernel
theorem dX7_init_151 : decode cX7_init 151 = .ok (.iload_n 1, 1) := by decide +kernel
theorem dX7_init_152 : decode cX7_init 152 = .ok (.new 38, 3) := by decide +kernel
theorem dX7_init_155 : decode cX7_init 155 = .ok (.dup, 1) := by decide +kernel
theorem dX7_init_156 : decode cX7_init 156 = .ok (.aload_n 0, 1) := by decide +kernel
theorem dX7_init_157 : decode cX7_init 157 = .ok (.getfield 34, 3) := by decide +kernel
theorem dX7_init_160 : decode cX7_init 160 = .ok (.iconst 0, 1) := by decide +kernel
theorem dX7_init_161 : decode cX7_init 161 = .ok (.aaload, 1) := by decide +kernel
theorem dX7_init_162 : decode cX7_init 162 = .ok (.invokespecial 52, 3) := by decide +kernel
theorem dX7_init_165 : decode cX7_init 165 = .ok (.aastore, 1) := by decide +kernel
theorem dX7_init_166 : decode cX7_init 166 = .ok (.iinc 1 1, 3) := by decide +kernel
theorem dX7_init_169 : decode cX7_init 169 = .ok (.goto (-28), 3) := by decide +kernel
theorem dX7_init_172 : decode cX7_init 172 = .ok (.return_, 1) := by decide +kernel
theorem dX7_clear_0 : decode cX7_clear 0 = .ok (.aload_n 0, 1) := by decide +kernel
theorem dX7_clear_1 : decode cX7_clear 1 = .ok (.getfield 14, 3) := by decide +kernel
theorem dX7_clear_4 : decode cX7_clear 4 = .ok (.iconst 0, 1) := by decide +kernel
theorem dX7_clear_5 : decode cX7_clear 5 = .ok (.putfield 55, 3) := by decide +kernel
theorem dX7_clear_8 : decode cX7_clear 8 = .ok (.aload_n 0, 1) := by decide +kernel
theorem dX7_clear_9 : decode cX7_clear 9 = .ok (.getfield 20, 3) := by decide +kernel
theorem dX7_clear_12 : decode cX7_clear 12 = .ok (.iconst 0, 1) := by decide +kernel
theorem dX7_clear_13 : decode cX7_clear 13 = .ok (.putfield 55, 3) := by decide +kernel
theorem dX7_clear_16 : decode cX7_clear 16 = .ok (.aload_n 0, 1) := by decide +kernel
theorem dX7_clear_17 : decode cX7_clear 17 = .ok (.getfield 23, 3) := by decide +kernel
theorem dX7_clear_20 : decode cX7_clear 20 = .ok (.iconst 0, 1) := by decide +kernel
theorem dX7_clear_21 : decode cX7_clear 21 = .ok (.putfield 55, 3) := by decide +kernel
theorem dX7_clear_24 : decode cX7_clear 24 = .ok (.aload_n 0, 1) := by decide +kernel
theorem dX7_clear_25 : decode cX7_clear 25 = .ok (.getfield 44, 3) := by decide +kernel
theorem dX7_clear_28 : decode cX7_clear 28 = .ok (.iconst 0, 1) := by decide +kernel
theorem dX7_clear_29 : decode cX7_clear 29 = .ok (.invokestatic 59, 3) := by decide +kernel
theorem dX7_clear_32 : decode cX7_clear 32 = .ok (.return_, 1) := by decide +kernel
theorem dX7_namesOf_0 : decode cX7_namesOf 0 = .ok (.iload_n 1, 1) := by decide +kernel
theorem dX7_namesOf_1 : decode cX7_namesOf 1 = .ok (.ifCond .ne 8, 3) := by decide +kernel
theorem dX7_namesOf_4 : decode cX7_namesOf 4 = .ok (.aload_n 0, 1) := by decide +kernel
theorem dX7_namesOf_5 : decode cX7_namesOf 5 = .ok (.getfield 14, 3) := by decide +kernel
theorem dX7_namesOf_8 : decode cX7_namesOf 8 = .ok (.areturn, 1) := by decide +kernel
theorem dX7_namesOf_9 : decode cX7_namesOf 9 = .ok (.iload_n 1, 1) := by decide +kernel
theorem dX7_namesOf_10 : decode cX7_namesOf 10 = .ok (.iconst 1, 1) := by decide +kernel
theorem dX7_namesOf_11 : decode cX7_namesOf 11 = .ok (.if_icmp .ne 10, 3) := by decide +kernel
theorem dX7_namesOf_14 : decode cX7_namesOf 14 = .ok (.aload_n 0, 1) := by decide +kernel
theorem dX7_namesOf_15 : decode cX7_namesOf 15 = .ok (.getfield 20, 3) := by decide +kernel
theorem dX7_namesOf_18 : decode cX7_namesOf 18 = .ok (.goto 7, 3) := by decide +kernel
theorem dX7_namesOf_21 : decode cX7_namesOf 21 = .ok (.aload_n 0, 1) := by decide +kernel
theorem dX7_namesOf_22 : decode cX7_namesOf 22 = .ok (.getfield 23, 3) := by decide +kernel
theorem dX7_namesOf_25 : decode cX7_namesOf 25 = .ok (.areturn, 1) := by decide +kernel
theorem dX7_settle_0 : decode cX7_settle 0 = .ok (.iconst 0, 1) := by decide +kernel
theorem dX7_settle_1 : decode cX7_settle 1 = .ok (.istore_n 1, 1) := by decide +kernel
theorem dX7_settle_2 : decode cX7_settle 2 = .ok (.iload_n 1, 1) := by decide +kernel
theorem dX7_settle_3 : decode cX7_settle 3 = .ok (.aload_n 0, 1) := by decide +kernel
theorem dX7_settle_4 : decode cX7_settle 4 = .ok (.getfield 14, 3) := by decide +kernel
theorem dX7_settle_7 : decode cX7_settle 7 = .ok (.getfield 55, 3) := by decide +kernel
theorem dX7_settle_10 : decode cX7_settle 10 = .ok (.if_icmp .ge 27, 3) := by decide +kernel
theorem dX7_settle_13 : decode cX7_settle 13 = .ok (.iload_n 1, 1) := by decide +kernel
theorem dX7_settle_14 : decode cX7_settle 14 = .ok (.aload_n 0, 1) := by decide +kernel
theorem dX7_settle_15 : decode cX7_settle 15 = .ok (.getfield 28, 3) := by decide +kernel
theorem dX7_settle_18 : decode cX7_settle 18 = .ok (.arraylength, 1) := by decide +kernel
theorem dX7_settle_19 : decode cX7_settle 19 = .ok (.if_icmp .ge 18, 3) := by decide +kernel
theorem dX7_settle_22 : decode cX7_settle 22 = .ok (.aload_n 0, 1) := by decide +kernel
theorem dX7_settle_23 : decode cX7_settle 23 = .ok (.getfield 28, 3) := by decide +kernel
theorem dX7_settle_26 : decode cX7_settle 26 = .ok (.iload_n 1, 1) := by decide +kernel
theorem dX7_settle_27 : decode cX7_settle 27 = .ok (.aaload, 1) := by decide +kernel
theorem dX7_settle_28 : decode cX7_settle 28 = .ok (.invokevirtual 65, 3) := by decide +kernel
theorem dX7_settle_31 : decode cX7_settle 31 = .ok (.iinc 1 1, 3) := by decide +kernel
theorem dX7_settle_34 : decode cX7_settle 34 = .ok (.goto (-32), 3) := by decide +kernel
theorem dX7_settle_37 : decode cX7_settle 37 = .ok (.iconst 0, 1) := by decide +kernel
theorem dX7_settle_38 : decode cX7_settle 38 = .ok (.istore_n 1, 1) := by decide +kernel
theorem dX7_settle_39 : decode cX7_settle 39 = .ok (.iload_n 1, 1) := by decide +kernel
theorem dX7_settle_40 : decode cX7_settle 40 = .ok (.aload_n 0, 1) := by decide +kernel
theorem dX7_settle_41 : decode cX7_settle 41 = .ok (.getfield 20, 3) := by decide +kernel
theorem dX7_settle_44 : decode cX7_settle 44 = .ok (.getfield 55, 3) := by decide +kernel
theorem dX7_settle_47 : decode cX7_settle 47 = .ok (.if_icmp .ge 36, 3) := by decide +kernel
theorem dX7_settle_50 : decode cX7_settle 50 = .ok (.iload_n 1, 1) := by decide +kernel
theorem dX7_settle_51 : decode cX7_settle 51 = .ok (.aload_n 0, 1) := by decide +kernel
theorem dX7_settle_52 : decode cX7_settle 52 = .ok (.getfield 34, 3) := by decide +kernel
theorem dX7_settle_55 : decode cX7_settle 55 = .ok (.arraylength, 1) := by decide +kernel
theorem dX7_settle_56 : decode cX7_settle 56 = .ok (.if_icmp .ge 27, 3) := by decide +kernel
theorem dX7_settle_59 : decode cX7_settle 59 = .ok (.aload_n 0, 1) := by decide +kernel
theorem dX7_settle_60 : decode cX7_settle 60 = .ok (.getfield 34, 3) := by decide +kernel
theorem dX7_settle_63 : decode cX7_settle 63 = .ok (.iload_n 1, 1) := by decide +kernel
theorem dX7_settle_64 : decode cX7_settle 64 = .ok (.aaload, 1) := by decide +kernel
theorem dX7_settle_65 : decode cX7_settle 65 = .ok (.aload_n 0, 1) := by decide +kernel
theorem dX7_settle_66 : decode cX7_settle 66 = .ok (.getfield 34, 3) := by decide +kernel
theorem dX7_settle_69 : decode cX7_settle 69 = .ok (.iload_n 1, 1) := by decide +kernel
theorem dX7_settle_70 : decode cX7_settle 70 = .ok (.aaload, 1) := by decide +kernel
theorem dX7_settle_71 : decode cX7_settle 71 = .ok (.invokevirtual 68, 3) := by decide +kernel
theorem dX7_settle_74 : decode cX7_settle 74 = .ok (.putfield 72, 3) := by decide +kernel
theorem dX7_settle_77 : decode cX7_settle 77 = .ok (.iinc 1 1, 3) := by decide +kernel
theorem dX7_settle_80 : decode cX7_settle 80 = .ok (.goto (-41), 3) := by decide +kernel
theorem dX7_settle_83 : decode cX7_settle 83 = .ok (.return_, 1) := by decide +kernel
theorem dX7_addToAccount_0 : decode cX7_addToAccount 0 = .ok (.aload_n 0, 1) := by decide +kernel
theorem dX7_addToAccount_1 : decode cX7_addToAccount 1 = .ok (.getfield 44, 3) := by decide +kernel
theorem dX7_addToAccount_4 : decode cX7_addToAccount 4 = .ok (.iload_n 1, 1) := by decide +kernel
theorem dX7_addToAccount_5 : decode cX7_addToAccount 5 = .ok (.aload_n 0, 1) := by decide +kernel
theorem dX7_addToAccount_6 : decode cX7_addToAccount 6 = .ok (.getfield 44, 3) := by decide +kernel
theorem dX7_addToAccount_9 : decode cX7_addToAccount 9 = .ok (.iload_n 1, 1) := by decide +kernel
theorem dX7_addToAccount_10 : decode cX7_addToAccount 10 = .ok (.invokestatic 75, 3) := by decide +kernel
theorem dX7_addToAccount_13 : decode cX7_addToAccount 13 = .ok (.iconst 1, 1) := by decide +kernel
theorem dX7_addToAccount_14 : decode cX7_addToAccount 14 = .ok (.iadd, 1) := by decide +kernel
theorem dX7_addToAccount_15 : decode cX7_addToAccount 15 = .ok (.invokestatic 79, 3) := by decide +kernel
theorem dX7_addToAccount_18 : decode cX7_addToAccount 18 = .ok (.return_, 1) := by decide +kernel
theorem dX7_judgeAgain_0 : decode cX7_judgeAgain 0 = .ok (.aload_n 1, 1) := by decide +kernel
theorem dX7_judgeAgain_1 : decode cX7_judgeAgain 1 = .ok (.getfield 72, 3) := by decide +kernel
theorem dX7_judgeAgain_4 : decode cX7_judgeAgain 4 = .ok (.istore_n 2, 1) := by decide +kernel
theorem dX7_judgeAgain_5 : decode cX7_judgeAgain 5 = .ok (.aload_n 1, 1) := by decide +kernel
theorem dX7_judgeAgain_6 : decode cX7_judgeAgain 6 = .ok (.aload_n 1, 1) := by decide +kernel
theorem dX7_judgeAgain_7 : decode cX7_judgeAgain 7 = .ok (.invokevirtual 68, 3) := by decide +kernel
theorem dX7_judgeAgain_10 : decode cX7_judgeAgain 10 = .ok (.putfield 72, 3) := by decide +kernel
theorem dX7_judgeAgain_13 : decode cX7_judgeAgain 13 = .ok (.iload_n 2, 1) := by decide +kernel
theorem dX7_judgeAgain_14 : decode cX7_judgeAgain 14 = .ok (.ifCond .ne 15, 3) := by decide +kernel
theorem dX7_judgeAgain_17 : decode cX7_judgeAgain 17 = .ok (.aload_n 1, 1) := by decide +kernel
theorem dX7_judgeAgain_18 : decode cX7_judgeAgain 18 = .ok (.getfield 72, 3) := by decide +kernel
theorem dX7_judgeAgain_21 : decode cX7_judgeAgain 21 = .ok (.ifCond .eq 8, 3) := by decide +kernel
theorem dX7_judgeAgain_24 : decode cX7_judgeAgain 24 = .ok (.aload_n 0, 1) := by decide +kernel
theorem dX7_judgeAgain_25 : decode cX7_judgeAgain 25 = .ok (.iconst 1, 1) := by decide +kernel
theorem dX7_judgeAgain_26 : decode cX7_judgeAgain 26 = .ok (.invokevirtual 83, 3) := by decide +kernel
theorem dX7_judgeAgain_29 : decode cX7_judgeAgain 29 = .ok (.iload_n 2, 1) := by decide +kernel
theorem dX7_judgeAgain_30 : decode cX7_judgeAgain 30 = .ok (.ifCond .eq 15, 3) := by decide +kernel
theorem dX7_judgeAgain_33 : decode cX7_judgeAgain 33 = .ok (.aload_n 1, 1) := by decide +kernel
theorem dX7_judgeAgain_34 : decode cX7_judgeAgain 34 = .ok (.getfield 72, 3) := by decide +kernel
theorem dX7_judgeAgain_37 : decode cX7_judgeAgain 37 = .ok (.ifCond .ne 8, 3) := by decide +kernel
theorem dX7_judgeAgain_40 : decode cX7_judgeAgain 40 = .ok (.aload_n 0, 1) := by decide +kernel
theorem dX7_judgeAgain_41 : decode cX7_judgeAgain 41 = .ok (.iconst 2, 1) := by decide +kernel
theorem dX7_judgeAgain_42 : decode cX7_judgeAgain 42 = .ok (.invokevirtual 83, 3) := by decide +kernel
theorem dX7_judgeAgain_45 : decode cX7_judgeAgain 45 = .ok (.return_, 1) := by decide +kernel
theorem dX7_lawfulModules_0 : decode cX7_lawfulModules 0 = .ok (.iconst 0, 1) := by decide +kernel
theorem dX7_lawfulModules_1 : decode cX7_lawfulModules 1 = .ok (.istore_n 1, 1) := by decide +kernel
theorem dX7_lawfulModules_2 : decode cX7_lawfulModules 2 = .ok (.iconst 0, 1) := by decide +kernel
theorem dX7_lawfulModules_3 : decode cX7_lawfulModules 3 = .ok (.istore_n 2, 1) := by decide +kernel
theorem dX7_lawfulModules_4 : decode cX7_lawfulModules 4 = .ok (.iload_n 2, 1) := by decide +kernel
theorem dX7_lawfulModules_5 : decode cX7_lawfulModules 5 = .ok (.aload_n 0, 1) := by decide +kernel
theorem dX7_lawfulModules_6 : decode cX7_lawfulModules 6 = .ok (.getfield 20, 3) := by decide +kernel
theorem dX7_lawfulModules_9 : decode cX7_lawfulModules 9 = .ok (.getfield 55, 3) := by decide +kernel
theorem dX7_lawfulModules_12 : decode cX7_lawfulModules 12 = .ok (.if_icmp .ge 40, 3) := by decide +kernel
theorem dX7_lawfulModules_15 : decode cX7_lawfulModules 15 = .ok (.iload_n 2, 1) := by decide +kernel
theorem dX7_lawfulModules_16 : decode cX7_lawfulModules 16 = .ok (.aload_n 0, 1) := by decide +kernel
theorem dX7_lawfulModules_17 : decode cX7_lawfulModules 17 = .ok (.getfield 34, 3) := by decide +kernel
theorem dX7_lawfulModules_20 : decode cX7_lawfulModules 20 = .ok (.arraylength, 1) := by decide +kernel
theorem dX7_lawfulModules_21 : decode cX7_lawfulModules 21 = .ok (.if_icmp .ge 31, 3) := by decide +kernel
theorem dX7_lawfulModules_24 : decode cX7_lawfulModules 24 = .ok (.iload_n 1, 1) := by decide +kernel
theorem dX7_lawfulModules_25 : decode cX7_lawfulModules 25 = .ok (.aload_n 0, 1) := by decide +kernel
theorem dX7_lawfulModules_26 : decode cX7_lawfulModules 26 = .ok (.getfield 34, 3) := by decide +kernel
theorem dX7_lawfulModules_29 : decode cX7_lawfulModules 29 = .ok (.iload_n 2, 1) := by decide +kernel
theorem dX7_lawfulModules_30 : decode cX7_lawfulModules 30 = .ok (.aaload, 1) := by decide +kernel
theorem dX7_lawfulModules_31 : decode cX7_lawfulModules 31 = .ok (.getfield 72, 3) := by decide +kernel
theorem dX7_lawfulModules_34 : decode cX7_lawfulModules 34 = .ok (.ifCond .ne 9, 3) := by decide +kernel
theorem dX7_lawfulModules_37 : decode cX7_lawfulModules 37 = .ok (.iconst 1, 1) := by decide +kernel
theorem dX7_lawfulModules_38 : decode cX7_lawfulModules 38 = .ok (.iload_n 2, 1) := by decide +kernel
theorem dX7_lawfulModules_39 : decode cX7_lawfulModules 39 = .ok (.ishl, 1) := by decide +kernel
theorem dX7_lawfulModules_40 : decode cX7_lawfulModules 40 = .ok (.goto 4, 3) := by decide +kernel
theorem dX7_lawfulModules_43 : decode cX7_lawfulModules 43 = .ok (.iconst 0, 1) := by decide +kernel
theorem dX7_lawfulModules_44 : decode cX7_lawfulModules 44 = .ok (.ior, 1) := by decide +kernel
theorem dX7_lawfulModules_45 : decode cX7_lawfulModules 45 = .ok (.istore_n 1, 1) := by decide +kernel
theorem dX7_lawfulModules_46 : decode cX7_lawfulModules 46 = .ok (.iinc 2 1, 3) := by decide +kernel
theorem dX7_lawfulModules_49 : decode cX7_lawfulModules 49 = .ok (.goto (-45), 3) := by decide +kernel
theorem dX7_lawfulModules_52 : decode cX7_lawfulModules 52 = .ok (.iload_n 1, 1) := by decide +kernel
theorem dX7_lawfulModules_53 : decode cX7_lawfulModules 53 = .ok (.ireturn, 1) := by decide +kernel
theorem dX7_firstLike_0 : decode cX7_firstLike 0 = .ok (.aload_n 1, 1) := by decide +kernel
theorem dX7_firstLike_1 : decode cX7_firstLike 1 = .ok (.invokevirtual 86, 3) := by decide +kernel
theorem dX7_firstLike_4 : decode cX7_firstLike 4 = .ok (.astore_n 2, 1) := by decide +kernel
theorem dX7_firstLike_5 : decode cX7_firstLike 5 = .ok (.iconst 0, 1) := by decide +kernel
theorem dX7_firstLike_6 : decode cX7_firstLike 6 = .ok (.istore_n 3, 1) := by decide +kernel
theorem dX7_firstLike_7 : decode cX7_firstLike 7 = .ok (.iload_n 3, 1) := by decide +kernel
theorem dX7_firstLike_8 : decode cX7_firstLike 8 = .ok (.aload_n 1, 1) := by decide +kernel
theorem dX7_firstLike_9 : decode cX7_firstLike 9 = .ok (.getfield 90, 3) := by decide +kernel
theorem dX7_firstLike_12 : decode cX7_firstLike 12 = .ok (.if_icmp .ge 48, 3) := by decide +kernel
theorem dX7_firstLike_15 : decode cX7_firstLike 15 = .ok (.iload_n 3, 1) := by decide +kernel
theorem dX7_firstLike_16 : decode cX7_firstLike 16 = .ok (.aload_n 0, 1) := by decide +kernel
theorem dX7_firstLike_17 : decode cX7_firstLike 17 = .ok (.getfield 34, 3) := by decide +kernel
theorem dX7_firstLike_20 : decode cX7_firstLike 20 = .ok (.arraylength, 1) := by decide +kernel
theorem dX7_firstLike_21 : decode cX7_firstLike 21 = .ok (.if_icmp .ge 39, 3) := by decide +kernel
theorem dX7_firstLike_24 : decode cX7_firstLike 24 = .ok (.aload_n 0, 1) := by decide +kernel
theorem dX7_firstLike_25 : decode cX7_firstLike 25 = .ok (.getfield 34, 3) := by decide +kernel
theorem dX7_firstLike_28 : decode cX7_firstLike 28 = .ok (.iload_n 3, 1) := by decide +kernel
theorem dX7_firstLike_29 : decode cX7_firstLike 29 = .ok (.aaload, 1) := by decide +kernel
theorem dX7_firstLike_30 : decode cX7_firstLike 30 = .ok (.getfield 72, 3) := by decide +kernel
theorem dX7_firstLike_33 : decode cX7_firstLike 33 = .ok (.ifCond .ne 21, 3) := by decide +kernel
theorem dX7_firstLike_36 : decode cX7_firstLike 36 = .ok (.aload_n 0, 1) := by decide +kernel
theorem dX7_firstLike_37 : decode cX7_firstLike 37 = .ok (.getfield 34, 3) := by decide +kernel
theorem dX7_firstLike_40 : decode cX7_firstLike 40 = .ok (.iload_n 3, 1) := by decide +kernel
theorem dX7_firstLike_41 : decode cX7_firstLike 41 = .ok (.aaload, 1) := by decide +kernel
theorem dX7_firstLike_42 : decode cX7_firstLike 42 = .ok (.invokevirtual 86, 3) := by decide +kernel
theorem dX7_firstLike_45 : decode cX7_firstLike 45 = .ok (.aload_n 2, 1) := by decide +kernel
theorem dX7_firstLike_46 : decode cX7_firstLike 46 = .ok (.invokevirtual 93, 3) := by decide +kernel
theorem dX7_firstLike_49 : decode cX7_firstLike 49 = .ok (.ifCond .eq 5, 3) := by decide +kernel
theorem dX7_firstLike_52 : decode cX7_firstLike 52 = .ok (.iload_n 3, 1) := by decide +kernel
theorem dX7_firstLike_53 : decode cX7_firstLike 53 = .ok (.ireturn, 1) := by decide +kernel
theorem dX7_firstLike_54 : decode cX7_firstLike 54 = .ok (.iinc 3 1, 3) := by decide +kernel
theorem dX7_firstLike_57 : decode cX7_firstLike 57 = .ok (.goto (-50), 3) := by decide +kernel
theorem dX7_firstLike_60 : decode cX7_firstLike 60 = .ok (.aload_n 1, 1) := by decide +kernel
theorem dX7_firstLike_61 : decode cX7_firstLike 61 = .ok (.getfield 90, 3) := by decide +kernel
theorem dX7_firstLike_64 : decode cX7_firstLike 64 = .ok (.ireturn, 1) := by decide +kernel
theorem dX7_equivalenceSet_0 : decode cX7_equivalenceSet 0 = .ok (.iconst 0, 1) := by decide +kernel
theorem dX7_equivalenceSet_1 : decode cX7_equivalenceSet 1 = .ok (.istore_n 1, 1) := by decide +kernel
theorem dX7_equivalenceSet_2 : decode cX7_equivalenceSet 2 = .ok (.iconst 0, 1) := by decide +kernel
theorem dX7_equivalenceSet_3 : decode cX7_equivalenceSet 3 = .ok (.istore_n 2, 1) := by decide +kernel
theorem dX7_equivalenceSet_4 : decode cX7_equivalenceSet 4 = .ok (.iload_n 2, 1) := by decide +kernel
theorem dX7_equivalenceSet_5 : decode cX7_equivalenceSet 5 = .ok (.aload_n 0, 1) := by decide +kernel
theorem dX7_equivalenceSet_6 : decode cX7_equivalenceSet 6 = .ok (.getfield 23, 3) := by decide +kernel
theorem dX7_equivalenceSet_9 : decode cX7_equivalenceSet 9 = .ok (.getfield 55, 3) := by decide +kernel
theorem dX7_equivalenceSet_12 : decode cX7_equivalenceSet 12 = .ok (.if_icmp .ge 40, 3) := by decide +kernel
theorem dX7_equivalenceSet_15 : decode cX7_equivalenceSet 15 = .ok (.iload_n 2, 1) := by decide +kernel
theorem dX7_equivalenceSet_16 : decode cX7_equivalenceSet 16 = .ok (.aload_n 0, 1) := by decide +kernel
theorem dX7_equivalenceSet_17 : decode cX7_equivalenceSet 17 = .ok (.getfield 40, 3) := by decide +kernel
theorem dX7_equivalenceSet_20 : decode cX7_equivalenceSet 20 = .ok (.arraylength, 1) := by decide +kernel
theorem dX7_equivalenceSet_21 : decode cX7_equivalenceSet 21 = .ok (.if_icmp .ge 31, 3) := by decide +kernel
theorem dX7_equivalenceSet_24 : decode cX7_equivalenceSet 24 = .ok (.iload_n 1, 1) := by decide +kernel
theorem dX7_equivalenceSet_25 : decode cX7_equivalenceSet 25 = .ok (.aload_n 0, 1) := by decide +kernel
theorem dX7_equivalenceSet_26 : decode cX7_equivalenceSet 26 = .ok (.getfield 40, 3) := by decide +kernel
theorem dX7_equivalenceSet_29 : decode cX7_equivalenceSet 29 = .ok (.iload_n 2, 1) := by decide +kernel
theorem dX7_equivalenceSet_30 : decode cX7_equivalenceSet 30 = .ok (.aaload, 1) := by decide +kernel
theorem dX7_equivalenceSet_31 : decode cX7_equivalenceSet 31 = .ok (.invokevirtual 99, 3) := by decide +kernel
theorem dX7_equivalenceSet_34 : decode cX7_equivalenceSet 34 = .ok (.ifCond .eq 9, 3) := by decide +kernel
theorem dX7_equivalenceSet_37 : decode cX7_equivalenceSet 37 = .ok (.iconst 1, 1) := by decide +kernel
theorem dX7_equivalenceSet_38 : decode cX7_equivalenceSet 38 = .ok (.iload_n 2, 1) := by decide +kernel
theorem dX7_equivalenceSet_39 : decode cX7_equivalenceSet 39 = .ok (.ishl, 1) := by decide +kernel
theorem dX7_equivalenceSet_40 : decode cX7_equivalenceSet 40 = .ok (.goto 4, 3) := by decide +kernel
theorem dX7_equivalenceSet_43 : decode cX7_equivalenceSet 43 = .ok (.iconst 0, 1) := by decide +kernel
theorem dX7_equivalenceSet_44 : decode cX7_equivalenceSet 44 = .ok (.ior, 1) := by decide +kernel
theorem dX7_equivalenceSet_45 : decode cX7_equivalenceSet 45 = .ok (.istore_n 1, 1) := by decide +kernel
theorem dX7_equivalenceSet_46 : decode cX7_equivalenceSet 46 = .ok (.iinc 2 1, 3) := by decide +kernel
theorem dX7_equivalenceSet_49 : decode cX7_equivalenceSet 49 = .ok (.goto (-45), 3) := by decide +kernel
theorem dX7_equivalenceSet_52 : decode cX7_equivalenceSet 52 = .ok (.iload_n 1, 1) := by decide +kernel
theorem dX7_equivalenceSet_53 : decode cX7_equivalenceSet 53 = .ok (.ireturn, 1) := by decide +kernel
theorem dX7_oneStepFrom_0 : decode cX7_oneStepFrom 0 = .ok (.iload_n 1, 1) := by decide +kernel
theorem dX7_oneStepFrom_1 : decode cX7_oneStepFrom 1 = .ok (.istore_n 3, 1) := by decide +kernel
theorem dX7_oneStepFrom_2 : decode cX7_oneStepFrom 2 = .ok (.iconst 0, 1) := by decide +kernel
theorem dX7_oneStepFrom_3 : decode cX7_oneStepFrom 3 = .ok (.istore 4, 2) := by decide +kernel
theorem dX7_oneStepFrom_5 : decode cX7_oneStepFrom 5 = .ok (.iload 4, 2) := by decide +kernel
theorem dX7_oneStepFrom_7 : decode cX7_oneStepFrom 7 = .ok (.aload_n 0, 1) := by decide +kernel
theorem dX7_oneStepFrom_8 : decode cX7_oneStepFrom 8 = .ok (.getfield 23, 3) := by decide +kernel
theorem dX7_oneStepFrom_11 : decode cX7_oneStepFrom 11 = .ok (.getfield 55, 3) := by decide +kernel
theorem dX7_oneStepFrom_14 : decode cX7_oneStepFrom 14 = .ok (.if_icmp .ge 88, 3) := by decide +kernel
theorem dX7_oneStepFrom_17 : decode cX7_oneStepFrom 17 = .ok (.iload 4, 2) := by decide +kernel
theorem dX7_oneStepFrom_19 : decode cX7_oneStepFrom 19 = .ok (.aload_n 0, 1) := by decide +kernel
theorem dX7_oneStepFrom_20 : decode cX7_oneStepFrom 20 = .ok (.getfield 40, 3) := by decide +kernel
theorem dX7_oneStepFrom_23 : decode cX7_oneStepFrom 23 = .ok (.arraylength, 1) := by decide +kernel
theorem dX7_oneStepFrom_24 : decode cX7_oneStepFrom 24 = .ok (.if_icmp .ge 78, 3) := by decide +kernel
theorem dX7_oneStepFrom_27 : decode cX7_oneStepFrom 27 = .ok (.aload_n 0, 1) := by decide +kernel
theorem dX7_oneStepFrom_28 : decode cX7_oneStepFrom 28 = .ok (.getfield 40, 3) := by decide +kernel
theorem dX7_oneStepFrom_31 : decode cX7_oneStepFrom 31 = .ok (.iload 4, 2) := by decide +kernel
theorem dX7_oneStepFrom_33 : decode cX7_oneStepFrom 33 = .ok (.aaload, 1) := by decide +kernel
theorem dX7_oneStepFrom_34 : decode cX7_oneStepFrom 34 = .ok (.getfield 103, 3) := by decide +kernel
theorem dX7_oneStepFrom_37 : decode cX7_oneStepFrom 37 = .ok (.getfield 90, 3) := by decide +kernel
theorem dX7_oneStepFrom_40 : decode cX7_oneStepFrom 40 = .ok (.istore 5, 2) := by decide +kernel
theorem dX7_oneStepFrom_42 : decode cX7_oneStepFrom 42 = .ok (.aload_n 0, 1) := by decide +kernel
theorem dX7_oneStepFrom_43 : decode cX7_oneStepFrom 43 = .ok (.getfield 40, 3) := by decide +kernel
theorem dX7_oneStepFrom_46 : decode cX7_oneStepFrom 46 = .ok (.iload 4, 2) := by decide +kernel
theorem dX7_oneStepFrom_48 : decode cX7_oneStepFrom 48 = .ok (.aaload, 1) := by decide +kernel
theorem dX7_oneStepFrom_49 : decode cX7_oneStepFrom 49 = .ok (.getfield 107, 3) := by decide +kernel
theorem dX7_oneStepFrom_52 : decode cX7_oneStepFrom 52 = .ok (.getfield 90, 3) := by decide +kernel
theorem dX7_oneStepFrom_55 : decode cX7_oneStepFrom 55 = .ok (.istore 6, 2) := by decide +kernel
theorem dX7_oneStepFrom_57 : decode cX7_oneStepFrom 57 = .ok (.iload_n 2, 1) := by decide +kernel
theorem dX7_oneStepFrom_58 : decode cX7_oneStepFrom 58 = .ok (.iload 4, 2) := by decide +kernel
theorem dX7_oneStepFrom_60 : decode cX7_oneStepFrom 60 = .ok (.invokestatic 110, 3) := by decide +kernel
theorem dX7_oneStepFrom_63 : decode cX7_oneStepFrom 63 = .ok (.ifCond .eq 33, 3) := by decide +kernel
theorem dX7_oneStepFrom_66 : decode cX7_oneStepFrom 66 = .ok (.iload_n 1, 1) := by decide +kernel
theorem dX7_oneStepFrom_67 : decode cX7_oneStepFrom 67 = .ok (.iload 5, 2) := by decide +kernel
theorem dX7_oneStepFrom_69 : decode cX7_oneStepFrom 69 = .ok (.invokestatic 110, 3) := by decide +kernel
theorem dX7_oneStepFrom_72 : decode cX7_oneStepFrom 72 = .ok (.ifCond .ne 12, 3) := by decide +kernel
theorem dX7_oneStepFrom_75 : decode cX7_oneStepFrom 75 = .ok (.iload_n 1, 1) := by decide +kernel
theorem dX7_oneStepFrom_76 : decode cX7_oneStepFrom 76 = .ok (.iload 6, 2) := by decide +kernel
theorem dX7_oneStepFrom_78 : decode cX7_oneStepFrom 78 = .ok (.invokestatic 110, 3) := by decide +kernel
theorem dX7_oneStepFrom_81 : decode cX7_oneStepFrom 81 = .ok (.ifCond .eq 15, 3) := by decide +kernel
theorem dX7_oneStepFrom_84 : decode cX7_oneStepFrom 84 = .ok (.iload_n 3, 1) := by decide +kernel
theorem dX7_oneStepFrom_85 : decode cX7_oneStepFrom 85 = .ok (.iconst 1, 1) := by decide +kernel
theorem dX7_oneStepFrom_86 : decode cX7_oneStepFrom 86 = .ok (.iload 5, 2) := by decide +kernel
theorem dX7_oneStepFrom_88 : decode cX7_oneStepFrom 88 = .ok (.ishl, 1) := by decide +kernel
theorem dX7_oneStepFrom_89 : decode cX7_oneStepFrom 89 = .ok (.iconst 1, 1) := by decide +kernel
theorem dX7_oneStepFrom_90 : decode cX7_oneStepFrom 90 = .ok (.iload 6, 2) := by decide +kernel
theorem dX7_oneStepFrom_92 : decode cX7_oneStepFrom 92 = .ok (.ishl, 1) := by decide +kernel
theorem dX7_oneStepFrom_93 : decode cX7_oneStepFrom 93 = .ok (.ior, 1) := by decide +kernel
theorem dX7_oneStepFrom_94 : decode cX7_oneStepFrom 94 = .ok (.ior, 1) := by decide +kernel
theorem dX7_oneStepFrom_95 : decode cX7_oneStepFrom 95 = .ok (.istore_n 3, 1) := by decide +kernel
theorem dX7_oneStepFrom_96 : decode cX7_oneStepFrom 96 = .ok (.iinc 4 1, 3) := by decide +kernel
theorem dX7_oneStepFrom_99 : decode cX7_oneStepFrom 99 = .ok (.goto (-94), 3) := by decide +kernel
theorem dX7_oneStepFrom_102 : decode cX7_oneStepFrom 102 = .ok (.iload_n 3, 1) := by decide +kernel
theorem dX7_oneStepFrom_103 : decode cX7_oneStepFrom 103 = .ok (.ireturn, 1) := by decide +kernel
theorem dX7_stepsBetween_0 : decode cX7_stepsBetween 0 = .ok (.iconst 1, 1) := by decide +kernel
theorem dX7_stepsBetween_1 : decode cX7_stepsBetween 1 = .ok (.iload_n 1, 1) := by decide +kernel
theorem dX7_stepsBetween_2 : decode cX7_stepsBetween 2 = .ok (.ishl, 1) := by decide +kernel
theorem dX7_stepsBetween_3 : decode cX7_stepsBetween 3 = .ok (.istore 4, 2) := by decide +kernel
theorem dX7_stepsBetween_5 : decode cX7_stepsBetween 5 = .ok (.iconst 0, 1) := by decide +kernel
theorem dX7_stepsBetween_6 : decode cX7_stepsBetween 6 = .ok (.istore 5, 2) := by decide +kernel
theorem dX7_stepsBetween_8 : decode cX7_stepsBetween 8 = .ok (.iload 5, 2) := by decide +kernel
theorem dX7_stepsBetween_10 : decode cX7_stepsBetween 10 = .ok (.bipush 6, 2) := by decide +kernel
theorem dX7_stepsBetween_12 : decode cX7_stepsBetween 12 = .ok (.if_icmp .ge 30, 3) := by decide +kernel
theorem dX7_stepsBetween_15 : decode cX7_stepsBetween 15 = .ok (.iload 4, 2) := by decide +kernel
theorem dX7_stepsBetween_17 : decode cX7_stepsBetween 17 = .ok (.iload_n 2, 1) := by decide +kernel
theorem dX7_stepsBetween_18 : decode cX7_stepsBetween 18 = .ok (.invokestatic 110, 3) := by decide +kernel
theorem dX7_stepsBetween_21 : decode cX7_stepsBetween 21 = .ok (.ifCond .eq 6, 3) := by decide +kernel
theorem dX7_stepsBetween_24 : decode cX7_stepsBetween 24 = .ok (.iload 5, 2) := by decide +kernel
theorem dX7_stepsBetween_26 : decode cX7_stepsBetween 26 = .ok (.ireturn, 1) := by decide +kernel
theorem dX7_stepsBetween_27 : decode cX7_stepsBetween 27 = .ok (.aload_n 0, 1) := by decide +kernel
theorem dX7_stepsBetween_28 : decode cX7_stepsBetween 28 = .ok (.iload 4, 2) := by decide +kernel
theorem dX7_stepsBetween_30 : decode cX7_stepsBetween 30 = .ok (.iload_n 3, 1) := by decide +kernel
theorem dX7_stepsBetween_31 : decode cX7_stepsBetween 31 = .ok (.invokevirtual 114, 3) := by decide +kernel
theorem dX7_stepsBetween_34 : decode cX7_stepsBetween 34 = .ok (.istore 4, 2) := by decide +kernel
theorem dX7_stepsBetween_36 : decode cX7_stepsBetween 36 = .ok (.iinc 5 1, 3) := by decide +kernel
theorem dX7_stepsBetween_39 : decode cX7_stepsBetween 39 = .ok (.goto (-31), 3) := by decide +kernel
theorem dX7_stepsBetween_42 : decode cX7_stepsBetween 42 = .ok (.iconst (-1), 1) := by decide +kernel
theorem dX7_stepsBetween_43 : decode cX7_stepsBetween 43 = .ok (.ireturn, 1) := by decide +kernel
theorem dX7_giveState_0 : decode cX7_giveState 0 = .ok (.aload_n 1, 1) := by decide +kernel
theorem dX7_giveState_1 : decode cX7_giveState 1 = .ok (.arraylength, 1) := by decide +kernel
theorem dX7_giveState_2 : decode cX7_giveState 2 = .ok (.sipush 569, 3) := by decide +kernel
theorem dX7_giveState_5 : decode cX7_giveState 5 = .ok (.if_icmp .eq 4, 3) := by decide +kernel
theorem dX7_giveState_8 : decode cX7_giveState 8 = .ok (.return_, 1) := by decide +kernel
theorem dX7_giveState_9 : decode cX7_giveState 9 = .ok (.iconst 0, 1) := by decide +kernel
theorem dX7_giveState_10 : decode cX7_giveState 10 = .ok (.istore_n 2, 1) := by decide +kernel
theorem dX7_giveState_11 : decode cX7_giveState 11 = .ok (.iconst 0, 1) := by decide +kernel
theorem dX7_giveState_12 : decode cX7_giveState 12 = .ok (.istore_n 3, 1) := by decide +kernel
theorem dX7_giveState_13 : decode cX7_giveState 13 = .ok (.iload_n 3, 1) := by decide +kernel
theorem dX7_giveState_14 : decode cX7_giveState 14 = .ok (.bipush 6, 2) := by decide +kernel
theorem dX7_giveState_16 : decode cX7_giveState 16 = .ok (.if_icmp .ge 66, 3) := by decide +kernel
theorem dX7_giveState_19 : decode cX7_giveState 19 = .ok (.aload_n 0, 1) := by decide +kernel
theorem dX7_giveState_20 : decode cX7_giveState 20 = .ok (.getfield 34, 3) := by decide +kernel
theorem dX7_giveState_23 : decode cX7_giveState 23 = .ok (.iload_n 3, 1) := by decide +kernel
theorem dX7_giveState_24 : decode cX7_giveState 24 = .ok (.aaload, 1) := by decide +kernel
theorem dX7_giveState_25 : decode cX7_giveState 25 = .ok (.getfield 118, 3) := by decide +kernel
theorem dX7_giveState_28 : decode cX7_giveState 28 = .ok (.iconst 0, 1) := by decide +kernel
theorem dX7_giveState_29 : decode cX7_giveState 29 = .ok (.aload_n 1, 1) := by decide +kernel
theorem dX7_giveState_30 : decode cX7_giveState 30 = .ok (.iload_n 2, 1) := by decide +kernel
theorem dX7_giveState_31 : decode cX7_giveState 31 = .ok (.bipush 8, 2) := by decide +kernel
theorem dX7_giveState_33 : decode cX7_giveState 33 = .ok (.invokestatic 121, 3) := by decide +kernel
theorem dX7_giveState_36 : decode cX7_giveState 36 = .ok (.aload_n 0, 1) := by decide +kernel
theorem dX7_giveState_37 : decode cX7_giveState 37 = .ok (.getfield 34, 3) := by decide +kernel
theorem dX7_giveState_40 : decode cX7_giveState 40 = .ok (.iload_n 3, 1) := by decide +kernel
theorem dX7_giveState_41 : decode cX7_giveState 41 = .ok (.aaload, 1) := by decide +kernel
theorem dX7_giveState_42 : decode cX7_giveState 42 = .ok (.getfield 127, 3) := by decide +kernel
theorem dX7_giveState_45 : decode cX7_giveState 45 = .ok (.iconst 0, 1) := by decide +kernel
theorem dX7_giveState_46 : decode cX7_giveState 46 = .ok (.aload_n 1, 1) := by decide +kernel
theorem dX7_giveState_47 : decode cX7_giveState 47 = .ok (.iload_n 2, 1) := by decide +kernel
theorem dX7_giveState_48 : decode cX7_giveState 48 = .ok (.bipush 8, 2) := by decide +kernel
theorem dX7_giveState_50 : decode cX7_giveState 50 = .ok (.iadd, 1) := by decide +kernel
theorem dX7_giveState_51 : decode cX7_giveState 51 = .ok (.bipush 64, 2) := by decide +kernel
theorem dX7_giveState_53 : decode cX7_giveState 53 = .ok (.invokestatic 121, 3) := by decide +kernel
theorem dX7_giveState_56 : decode cX7_giveState 56 = .ok (.aload_n 1, 1) := by decide +kernel
theorem dX7_giveState_57 : decode cX7_giveState 57 = .ok (.iload_n 2, 1) := by decide +kernel
theorem dX7_giveState_58 : decode cX7_giveState 58 = .ok (.bipush 73, 2) := by decide +kernel
theorem dX7_giveState_60 : decode cX7_giveState 60 = .ok (.iadd, 1) := by decide +kernel
theorem dX7_giveState_61 : decode cX7_giveState 61 = .ok (.iconst 1, 1) := by decide +kernel
theorem dX7_giveState_62 : decode cX7_giveState 62 = .ok (.isub, 1) := by decide +kernel
theorem dX7_giveState_63 : decode cX7_giveState 63 = .ok (.aload_n 0, 1) := by decide +kernel
theorem dX7_giveState_64 : decode cX7_giveState 64 = .ok (.getfield 34, 3) := by decide +kernel
theorem dX7_giveState_67 : decode cX7_giveState 67 = .ok (.iload_n 3, 1) := by decide +kernel
theorem dX7_giveState_68 : decode cX7_giveState 68 = .ok (.aaload, 1) := by decide +kernel
theorem dX7_giveState_69 : decode cX7_giveState 69 = .ok (.getfield 72, 3) := by decide +kernel
theorem dX7_giveState_72 : decode cX7_giveState 72 = .ok (.iastore, 1) := by decide +kernel
theorem dX7_giveState_73 : decode cX7_giveState 73 = .ok (.iinc 2 73, 3) := by decide +kernel
theorem dX7_giveState_76 : decode cX7_giveState 76 = .ok (.iinc 3 1, 3) := by decide +kernel
theorem dX7_giveState_79 : decode cX7_giveState 79 = .ok (.goto (-66), 3) := by decide +kernel
theorem dX7_giveState_82 : decode cX7_giveState 82 = .ok (.iconst 0, 1) := by decide +kernel
theorem dX7_giveState_83 : decode cX7_giveState 83 = .ok (.istore_n 3, 1) := by decide +kernel
theorem dX7_giveState_84 : decode cX7_giveState 84 = .ok (.iload_n 3, 1) := by decide +kernel
theorem dX7_giveState_85 : decode cX7_giveState 85 = .ok (.bipush 8, 2) := by decide +kernel
theorem dX7_giveState_87 : decode cX7_giveState 87 = .ok (.if_icmp .ge 49, 3) := by decide +kernel
theorem dX7_giveState_90 : decode cX7_giveState 90 = .ok (.aload_n 0, 1) := by decide +kernel
theorem dX7_giveState_91 : decode cX7_giveState 91 = .ok (.getfield 40, 3) := by decide +kernel
theorem dX7_giveState_94 : decode cX7_giveState 94 = .ok (.iload_n 3, 1) := by decide +kernel
theorem dX7_giveState_95 : decode cX7_giveState 95 = .ok (.aaload, 1) := by decide +kernel
theorem dX7_giveState_96 : decode cX7_giveState 96 = .ok (.getfield 130, 3) := by decide +kernel
theorem dX7_giveState_99 : decode cX7_giveState 99 = .ok (.iconst 0, 1) := by decide +kernel
theorem dX7_giveState_100 : decode cX7_giveState 100 = .ok (.aload_n 1, 1) := by decide +kernel
theorem dX7_giveState_101 : decode cX7_giveState 101 = .ok (.iload_n 2, 1) := by decide +kernel
theorem dX7_giveState_102 : decode cX7_giveState 102 = .ok (.bipush 8, 2) := by decide +kernel
theorem dX7_giveState_104 : decode cX7_giveState 104 = .ok (.invokestatic 121, 3) := by decide +kernel
theorem dX7_giveState_107 : decode cX7_giveState 107 = .ok (.aload_n 0, 1) := by decide +kernel
theorem dX7_giveState_108 : decode cX7_giveState 108 = .ok (.getfield 40, 3) := by decide +kernel
theorem dX7_giveState_111 : decode cX7_giveState 111 = .ok (.iload_n 3, 1) := by decide +kernel
theorem dX7_giveState_112 : decode cX7_giveState 112 = .ok (.aaload, 1) := by decide +kernel
theorem dX7_giveState_113 : decode cX7_giveState 113 = .ok (.getfield 133, 3) := by decide +kernel
theorem dX7_giveState_116 : decode cX7_giveState 116 = .ok (.iconst 0, 1) := by decide +kernel
theorem dX7_giveState_117 : decode cX7_giveState 117 = .ok (.aload_n 1, 1) := by decide +kernel
theorem dX7_giveState_118 : decode cX7_giveState 118 = .ok (.iload_n 2, 1) := by decide +kernel
theorem dX7_giveState_119 : decode cX7_giveState 119 = .ok (.bipush 8, 2) := by decide +kernel
theorem dX7_giveState_121 : decode cX7_giveState 121 = .ok (.iadd, 1) := by decide +kernel
theorem dX7_giveState_122 : decode cX7_giveState 122 = .ok (.bipush 8, 2) := by decide +kernel
theorem dX7_giveState_124 : decode cX7_giveState 124 = .ok (.invokestatic 121, 3) := by decide +kernel
theorem dX7_giveState_127 : decode cX7_giveState 127 = .ok (.iinc 2 16, 3) := by decide +kernel
theorem dX7_giveState_130 : decode cX7_giveState 130 = .ok (.iinc 3 1, 3) := by decide +kernel
theorem dX7_giveState_133 : decode cX7_giveState 133 = .ok (.goto (-49), 3) := by decide +kernel
theorem dX7_giveState_136 : decode cX7_giveState 136 = .ok (.aload_n 0, 1) := by decide +kernel
theorem dX7_giveState_137 : decode cX7_giveState 137 = .ok (.getfield 44, 3) := by decide +kernel
theorem dX7_giveState_140 : decode cX7_giveState 140 = .ok (.iconst 0, 1) := by decide +kernel
theorem dX7_giveState_141 : decode cX7_giveState 141 = .ok (.aload_n 1, 1) := by decide +kernel
theorem dX7_giveState_142 : decode cX7_giveState 142 = .ok (.iload_n 2, 1) := by decide +kernel
theorem dX7_giveState_143 : decode cX7_giveState 143 = .ok (.iconst 3, 1) := by decide +kernel
theorem dX7_giveState_144 : decode cX7_giveState 144 = .ok (.invokestatic 121, 3) := by decide +kernel
theorem dX7_giveState_147 : decode cX7_giveState 147 = .ok (.return_, 1) := by decide +kernel
theorem dX7_takeState_0 : decode cX7_takeState 0 = .ok (.aload_n 1, 1) := by decide +kernel
theorem dX7_takeState_1 : decode cX7_takeState 1 = .ok (.arraylength, 1) := by decide +kernel
theorem dX7_takeState_2 : decode cX7_takeState 2 = .ok (.sipush 569, 3) := by decide +kernel
theorem dX7_takeState_5 : decode cX7_takeState 5 = .ok (.if_icmp .eq 4, 3) := by decide +kernel
theorem dX7_takeState_8 : decode cX7_takeState 8 = .ok (.return_, 1) := by decide +kernel
theorem dX7_takeState_9 : decode cX7_takeState 9 = .ok (.iconst 0, 1) := by decide +kernel
theorem dX7_takeState_10 : decode cX7_takeState 10 = .ok (.istore_n 2, 1) := by decide +kernel
theorem dX7_takeState_11 : decode cX7_takeState 11 = .ok (.iconst 0, 1) := by decide +kernel
theorem dX7_takeState_12 : decode cX7_takeState 12 = .ok (.istore_n 3, 1) := by decide +kernel
theorem dX7_takeState_13 : decode cX7_takeState 13 = .ok (.iload_n 3, 1) := by decide +kernel
theorem dX7_takeState_14 : decode cX7_takeState 14 = .ok (.bipush 6, 2) := by decide +kernel
theorem dX7_takeState_16 : decode cX7_takeState 16 = .ok (.if_icmp .ge 66, 3) := by decide +kernel
theorem dX7_takeState_19 : decode cX7_takeState 19 = .ok (.aload_n 1, 1) := by decide +kernel
theorem dX7_takeState_20 : decode cX7_takeState 20 = .ok (.iload_n 2, 1) := by decide +kernel
theorem dX7_takeState_21 : decode cX7_takeState 21 = .ok (.aload_n 0, 1) := by decide +kernel
theorem dX7_takeState_22 : decode cX7_takeState 22 = .ok (.getfield 34, 3) := by decide +kernel
theorem dX7_takeState_25 : decode cX7_takeState 25 = .ok (.iload_n 3, 1) := by decide +kernel
theorem dX7_takeState_26 : decode cX7_takeState 26 = .ok (.aaload, 1) := by decide +kernel
theorem dX7_takeState_27 : decode cX7_takeState 27 = .ok (.getfield 118, 3) := by decide +kernel
theorem dX7_takeState_30 : decode cX7_takeState 30 = .ok (.iconst 0, 1) := by decide +kernel
theorem dX7_takeState_31 : decode cX7_takeState 31 = .ok (.bipush 8, 2) := by decide +kernel
theorem dX7_takeState_33 : decode cX7_takeState 33 = .ok (.invokestatic 121, 3) := by decide +kernel
theorem dX7_takeState_36 : decode cX7_takeState 36 = .ok (.aload_n 1, 1) := by decide +kernel
theorem dX7_takeState_37 : decode cX7_takeState 37 = .ok (.iload_n 2, 1) := by decide +kernel
theorem dX7_takeState_38 : decode cX7_takeState 38 = .ok (.bipush 8, 2) := by decide +kernel
theorem dX7_takeState_40 : decode cX7_takeState 40 = .ok (.iadd, 1) := by decide +kernel
theorem dX7_takeState_41 : decode cX7_takeState 41 = .ok (.aload_n 0, 1) := by decide +kernel
theorem dX7_takeState_42 : decode cX7_takeState 42 = .ok (.getfield 34, 3) := by decide +kernel
theorem dX7_takeState_45 : decode cX7_takeState 45 = .ok (.iload_n 3, 1) := by decide +kernel
theorem dX7_takeState_46 : decode cX7_takeState 46 = .ok (.aaload, 1) := by decide +kernel
theorem dX7_takeState_47 : decode cX7_takeState 47 = .ok (.getfield 127, 3) := by decide +kernel
theorem dX7_takeState_50 : decode cX7_takeState 50 = .ok (.iconst 0, 1) := by decide +kernel
theorem dX7_takeState_51 : decode cX7_takeState 51 = .ok (.bipush 64, 2) := by decide +kernel
theorem dX7_takeState_53 : decode cX7_takeState 53 = .ok (.invokestatic 121, 3) := by decide +kernel
theorem dX7_takeState_56 : decode cX7_takeState 56 = .ok (.aload_n 0, 1) := by decide +kernel
theorem dX7_takeState_57 : decode cX7_takeState 57 = .ok (.getfield 34, 3) := by decide +kernel
theorem dX7_takeState_60 : decode cX7_takeState 60 = .ok (.iload_n 3, 1) := by decide +kernel
theorem dX7_takeState_61 : decode cX7_takeState 61 = .ok (.aaload, 1) := by decide +kernel
theorem dX7_takeState_62 : decode cX7_takeState 62 = .ok (.aload_n 1, 1) := by decide +kernel
theorem dX7_takeState_63 : decode cX7_takeState 63 = .ok (.iload_n 2, 1) := by decide +kernel
theorem dX7_takeState_64 : decode cX7_takeState 64 = .ok (.bipush 73, 2) := by decide +kernel
theorem dX7_takeState_66 : decode cX7_takeState 66 = .ok (.iadd, 1) := by decide +kernel
theorem dX7_takeState_67 : decode cX7_takeState 67 = .ok (.iconst 1, 1) := by decide +kernel
theorem dX7_takeState_68 : decode cX7_takeState 68 = .ok (.isub, 1) := by decide +kernel
theorem dX7_takeState_69 : decode cX7_takeState 69 = .ok (.iaload, 1) := by decide +kernel
theorem dX7_takeState_70 : decode cX7_takeState 70 = .ok (.putfield 72, 3) := by decide +kernel
theorem dX7_takeState_73 : decode cX7_takeState 73 = .ok (.iinc 2 73, 3) := by decide +kernel
theorem dX7_takeState_76 : decode cX7_takeState 76 = .ok (.iinc 3 1, 3) := by decide +kernel
theorem dX7_takeState_79 : decode cX7_takeState 79 = .ok (.goto (-66), 3) := by decide +kernel
theorem dX7_takeState_82 : decode cX7_takeState 82 = .ok (.iconst 0, 1) := by decide +kernel
theorem dX7_takeState_83 : decode cX7_takeState 83 = .ok (.istore_n 3, 1) := by decide +kernel
theorem dX7_takeState_84 : decode cX7_takeState 84 = .ok (.iload_n 3, 1) := by decide +kernel
theorem dX7_takeState_85 : decode cX7_takeState 85 = .ok (.bipush 8, 2) := by decide +kernel
theorem dX7_takeState_87 : decode cX7_takeState 87 = .ok (.if_icmp .ge 49, 3) := by decide +kernel
theorem dX7_takeState_90 : decode cX7_takeState 90 = .ok (.aload_n 1, 1) := by decide +kernel
theorem dX7_takeState_91 : decode cX7_takeState 91 = .ok (.iload_n 2, 1) := by decide +kernel
theorem dX7_takeState_92 : decode cX7_takeState 92 = .ok (.aload_n 0, 1) := by decide +kernel
theorem dX7_takeState_93 : decode cX7_takeState 93 = .ok (.getfield 40, 3) := by decide +kernel
theorem dX7_takeState_96 : decode cX7_takeState 96 = .ok (.iload_n 3, 1) := by decide +kernel
theorem dX7_takeState_97 : decode cX7_takeState 97 = .ok (.aaload, 1) := by decide +kernel
theorem dX7_takeState_98 : decode cX7_takeState 98 = .ok (.getfield 130, 3) := by decide +kernel
theorem dX7_takeState_101 : decode cX7_takeState 101 = .ok (.iconst 0, 1) := by decide +kernel
theorem dX7_takeState_102 : decode cX7_takeState 102 = .ok (.bipush 8, 2) := by decide +kernel
theorem dX7_takeState_104 : decode cX7_takeState 104 = .ok (.invokestatic 121, 3) := by decide +kernel
theorem dX7_takeState_107 : decode cX7_takeState 107 = .ok (.aload_n 1, 1) := by decide +kernel
theorem dX7_takeState_108 : decode cX7_takeState 108 = .ok (.iload_n 2, 1) := by decide +kernel
theorem dX7_takeState_109 : decode cX7_takeState 109 = .ok (.bipush 8, 2) := by decide +kernel
theorem dX7_takeState_111 : decode cX7_takeState 111 = .ok (.iadd, 1) := by decide +kernel
theorem dX7_takeState_112 : decode cX7_takeState 112 = .ok (.aload_n 0, 1) := by decide +kernel
theorem dX7_takeState_113 : decode cX7_takeState 113 = .ok (.getfield 40, 3) := by decide +kernel
theorem dX7_takeState_116 : decode cX7_takeState 116 = .ok (.iload_n 3, 1) := by decide +kernel
theorem dX7_takeState_117 : decode cX7_takeState 117 = .ok (.aaload, 1) := by decide +kernel
theorem dX7_takeState_118 : decode cX7_takeState 118 = .ok (.getfield 133, 3) := by decide +kernel
theorem dX7_takeState_121 : decode cX7_takeState 121 = .ok (.iconst 0, 1) := by decide +kernel
theorem dX7_takeState_122 : decode cX7_takeState 122 = .ok (.bipush 8, 2) := by decide +kernel
theorem dX7_takeState_124 : decode cX7_takeState 124 = .ok (.invokestatic 121, 3) := by decide +kernel
theorem dX7_takeState_127 : decode cX7_takeState 127 = .ok (.iinc 2 16, 3) := by decide +kernel
theorem dX7_takeState_130 : decode cX7_takeState 130 = .ok (.iinc 3 1, 3) := by decide +kernel
theorem dX7_takeState_133 : decode cX7_takeState 133 = .ok (.goto (-49), 3) := by decide +kernel
theorem dX7_takeState_136 : decode cX7_takeState 136 = .ok (.aload_n 1, 1) := by decide +kernel
theorem dX7_takeState_137 : decode cX7_takeState 137 = .ok (.iload_n 2, 1) := by decide +kernel
theorem dX7_takeState_138 : decode cX7_takeState 138 = .ok (.aload_n 0, 1) := by decide +kernel
theorem dX7_takeState_139 : decode cX7_takeState 139 = .ok (.getfield 44, 3) := by decide +kernel
theorem dX7_takeState_142 : decode cX7_takeState 142 = .ok (.iconst 0, 1) := by decide +kernel
theorem dX7_takeState_143 : decode cX7_takeState 143 = .ok (.iconst 3, 1) := by decide +kernel
theorem dX7_takeState_144 : decode cX7_takeState 144 = .ok (.invokestatic 121, 3) := by decide +kernel
theorem dX7_takeState_147 : decode cX7_takeState 147 = .ok (.return_, 1) := by decide +kernel
