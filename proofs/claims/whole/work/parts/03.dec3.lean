theorem dX9_init_0 : decode cX9_init 0 = .ok (.aload_n 0, 1) := by decide +kernel
theorem dX9_init_1 : decode cX9_init 1 = .ok (.invokespecial 1, 3) := by decide +kernel
theorem dX9_init_4 : decode cX9_init 4 = .ok (.aload_n 0, 1) := by decide +kernel
theorem dX9_init_5 : decode cX9_init 5 = .ok (.bipush 6, 2) := by decide +kernel
theorem dX9_init_7 : decode cX9_init 7 = .ok (.newarray .int, 2) := by decide +kernel
theorem dX9_init_9 : decode cX9_init 9 = .ok (.putfield 7, 3) := by decide +kernel
theorem dX9_init_12 : decode cX9_init 12 = .ok (.aload_n 0, 1) := by decide +kernel
theorem dX9_init_13 : decode cX9_init 13 = .ok (.sipush 384, 3) := by decide +kernel
theorem dX9_init_16 : decode cX9_init 16 = .ok (.newarray .int, 2) := by decide +kernel
theorem dX9_init_18 : decode cX9_init 18 = .ok (.putfield 13, 3) := by decide +kernel
theorem dX9_init_21 : decode cX9_init 21 = .ok (.aload_n 0, 1) := by decide +kernel
theorem dX9_init_22 : decode cX9_init 22 = .ok (.bipush 6, 2) := by decide +kernel
theorem dX9_init_24 : decode cX9_init 24 = .ok (.newarray .int, 2) := by decide +kernel
theorem dX9_init_26 : decode cX9_init 26 = .ok (.putfield 16, 3) := by decide +kernel
theorem dX9_init_29 : decode cX9_init 29 = .ok (.aload_n 0, 1) := by decide +kernel
theorem dX9_init_30 : decode cX9_init 30 = .ok (.bipush 6, 2) := by decide +kernel
theorem dX9_init_32 : decode cX9_init 32 = .ok (.newarray .int, 2) := by decide +kernel
theorem dX9_init_34 : decode cX9_init 34 = .ok (.putfield 19, 3) := by decide +kernel
theorem dX9_init_37 : decode cX9_init 37 = .ok (.aload_n 0, 1) := by decide +kernel
theorem dX9_init_38 : decode cX9_init 38 = .ok (.bipush 8, 2) := by decide +kernel
theorem dX9_init_40 : decode cX9_init 40 = .ok (.newarray .int, 2) := by decide +kernel
theorem dX9_init_42 : decode cX9_init 42 = .ok (.putfield 22, 3) := by decide +kernel
theorem dX9_init_45 : decode cX9_init 45 = .ok (.aload_n 0, 1) := by decide +kernel
theorem dX9_init_46 : decode cX9_init 46 = .ok (.bipush 8, 2) := by decide +kernel
theorem dX9_init_48 : decode cX9_init 48 = .ok (.newarray .int, 2) := by decide +kernel
theorem dX9_init_50 : decode cX9_init 50 = .ok (.putfield 25, 3) := by decide +kernel
theorem dX9_init_53 : decode cX9_init 53 = .ok (.aload_n 0, 1) := by decide +kernel
theorem dX9_init_54 : decode cX9_init 54 = .ok (.sipush 200, 3) := by decide +kernel
theorem dX9_init_57 : decode cX9_init 57 = .ok (.newarray .int, 2) := by decide +kernel
theorem dX9_init_59 : decode cX9_init 59 = .ok (.putfield 28, 3) := by decide +kernel
theorem dX9_init_62 : decode cX9_init 62 = .ok (.aload_n 0, 1) := by decide +kernel
theorem dX9_init_63 : decode cX9_init 63 = .ok (.sipush 563, 3) := by decide +kernel
theorem dX9_init_66 : decode cX9_init 66 = .ok (.newarray .int, 2) := by decide +kernel
theorem dX9_init_68 : decode cX9_init 68 = .ok (.putfield 31, 3) := by decide +kernel
theorem dX9_init_71 : decode cX9_init 71 = .ok (.aload_n 0, 1) := by decide +kernel
theorem dX9_init_72 : decode cX9_init 72 = .ok (.sipush 5630, 3) := by decide +kernel
theorem dX9_init_75 : decode cX9_init 75 = .ok (.newarray .int, 2) := by decide +kernel
theorem dX9_init_77 : decode cX9_init 77 = .ok (.putfield 34, 3) := by decide +kernel
theorem dX9_init_80 : decode cX9_init 80 = .ok (.aload_n 0, 1) := by decide +kernel
theorem dX9_init_81 : decode cX9_init 81 = .ok (.iconst 2, 1) := by decide +kernel
theorem dX9_init_82 : decode cX9_init 82 = .ok (.newarray .boolean, 2) := by decide +kernel
theorem dX9_init_84 : decode cX9_init 84 = .ok (.putfield 37, 3) := by decide +kernel
theorem dX9_init_87 : decode cX9_init 87 = .ok (.aload_n 0, 1) := by decide +kernel
theorem dX9_init_88 : decode cX9_init 88 = .ok (.sipush 900, 3) := by decide +kernel
theorem dX9_init_91 : decode cX9_init 91 = .ok (.newarray .int, 2) := by decide +kernel
theorem dX9_init_93 : decode cX9_init 93 = .ok (.putfield 41, 3) := by decide +kernel
theorem dX9_init_96 : decode cX9_init 96 = .ok (.aload_n 0, 1) := by decide +kernel
theorem dX9_init_97 : decode cX9_init 97 = .ok (.iconst (-1), 1) := by decide +kernel
theorem dX9_init_98 : decode cX9_init 98 = .ok (.putfield 44, 3) := by decide +kernel
theorem dX9_init_101 : decode cX9_init 101 = .ok (.aload_n 0, 1) := by decide +kernel
theorem dX9_init_102 : decode cX9_init 102 = .ok (.sipush 563, 3) := by decide +kernel
theorem dX9_init_105 : decode cX9_init 105 = .ok (.newarray .int, 2) := by decide +kernel
theorem dX9_init_107 : decode cX9_init 107 = .ok (.putfield 48, 3) := by decide +kernel
theorem dX9_init_110 : decode cX9_init 110 = .ok (.aload_n 0, 1) := by decide +kernel
theorem dX9_init_111 : decode cX9_init 111 = .ok (.bipush 6, 2) := by decide +kernel
theorem dX9_init_113 : decode cX9_init 113 = .ok (.newarray .int, 2) := by decide +kernel
theorem dX9_init_115 : decode cX9_init 115 = .ok (.putfield 51, 3) := by decide +kernel
theorem dX9_init_118 : decode cX9_init 118 = .ok (.aload_n 0, 1) := by decide +kernel
theorem dX9_init_119 : decode cX9_init 119 = .ok (.sipush 384, 3) := by decide +kernel
theorem dX9_init_122 : decode cX9_init 122 = .ok (.newarray .int, 2) := by decide +kernel
theorem dX9_init_124 : decode cX9_init 124 = .ok (.putfield 54, 3) := by decide +kernel
theorem dX9_init_127 : decode cX9_init 127 = .ok (.aload_n 0, 1) := by decide +kernel
theorem dX9_init_128 : decode cX9_init 128 = .ok (.bipush 6, 2) := by decide +kernel
theorem dX9_init_130 : decode cX9_init 130 = .ok (.newarray .int, 2) := by decide +kernel
theorem dX9_init_132 : decode cX9_init 132 = .ok (.putfield 57, 3) := by decide +kernel
theorem dX9_init_135 : decode cX9_init 135 = .ok (.aload_n 0, 1) := by decide +kernel
theorem dX9_init_136 : decode cX9_init 136 = .ok (.bipush 6, 2) := by decide +kernel
theorem dX9_init_138 : decode cX9_init 138 = .ok (.newarray .int, 2) := by decide +kernel
theorem dX9_init_140 : decode cX9_init 140 = .ok (.putfield 60, 3) := by decide +kernel
theorem dX9_init_143 : decode cX9_init 143 = .ok (.aload_n 0, 1) := by decide +kernel
theorem dX9_init_144 : decode cX9_init 144 = .ok (.bipush 8, 2) := by decide +kernel
theorem dX9_init_146 : decode cX9_init 146 = .ok (.newarray .int, 2) := by decide +kernel
theorem dX9_init_148 : decode cX9_init 148 = .ok (.putfield 63, 3) := by decide +kernel
theorem dX9_init_151 : decode cX9_init 151 = .ok (.aload_n 0, 1) := by decide +kernel
theorem dX9_init_152 : decode cX9_init 152 = .ok (.bipush 8, 2) := by decide +kernel
theorem dX9_init_154 : decode cX9_init 154 = .ok (.newarray .int, 2) := by decide +kernel
theorem dX9_init_156 : decode cX9_init 156 = .ok (.putfield 66, 3) := by decide +kernel
theorem dX9_init_159 : decode cX9_init 159 = .ok (.aload_n 0, 1) := by decide +kernel
theorem dX9_init_160 : decode cX9_init 160 = .ok (.sipush 200, 3) := by decide +kernel
theorem dX9_init_163 : decode cX9_init 163 = .ok (.newarray .int, 2) := by decide +kernel
theorem dX9_init_165 : decode cX9_init 165 = .ok (.putfield 69, 3) := by decide +kernel
theorem dX9_init_168 : decode cX9_init 168 = .ok (.aload_n 0, 1) := by decide +kernel
theorem dX9_init_169 : decode cX9_init 169 = .ok (.bipush 6, 2) := by decide +kernel
theorem dX9_init_171 : decode cX9_init 171 = .ok (.newarray .int, 2) := by decide +kernel
theorem dX9_init_173 : decode cX9_init 173 = .ok (.putfield 72, 3) := by decide +kernel
theorem dX9_init_176 : decode cX9_init 176 = .ok (.aload_n 0, 1) := by decide +kernel
theorem dX9_init_177 : decode cX9_init 177 = .ok (.bipush 8, 2) := by decide +kernel
theorem dX9_init_179 : decode cX9_init 179 = .ok (.newarray .int, 2) := by decide +kernel
theorem dX9_init_181 : decode cX9_init 181 = .ok (.putfield 75, 3) := by decide +kernel
theorem dX9_init_184 : decode cX9_init 184 = .ok (.aload_n 0, 1) := by decide +kernel
theorem dX9_init_185 : decode cX9_init 185 = .ok (.bipush 8, 2) := by decide +kernel
theorem dX9_init_187 : decode cX9_init 187 = .ok (.newarray .int, 2) := by decide +kernel
theorem dX9_init_189 : decode cX9_init 189 = .ok (.putfield 78, 3) := by decide +kernel
theorem dX9_init_192 : decode cX9_init 192 = .ok (.aload_n 0, 1) := by decide +kernel
theorem dX9_init_193 : decode cX9_init 193 = .ok (.bipush 8, 2) := by decide +kernel
theorem dX9_init_195 : decode cX9_init 195 = .ok (.newarray .int, 2) := by decide +kernel
theorem dX9_init_197 : decode cX9_init 197 = .ok (.putfield 81, 3) := by decide +kernel
theorem dX9_init_200 : decode cX9_init 200 = .ok (.aload_n 0, 1) := by decide +kernel
theorem dX9_init_201 : decode cX9_init 201 = .ok (.bipush 100, 2) := by decide +kernel
theorem dX9_init_203 : decode cX9_init 203 = .ok (.newarray .int, 2) := by decide +kernel
theorem dX9_init_205 : decode cX9_init 205 = .ok (.putfield 84, 3) := by decide +kernel
theorem dX9_init_208 : decode cX9_init 208 = .ok (.return_, 1) := by decide +kernel
theorem dX9_thrown_0 : decode cX9_thrown 0 = .ok (.aload_n 0, 1) := by decide +kernel
theorem dX9_thrown_1 : decode cX9_thrown 1 = .ok (.getfield 87, 3) := by decide +kernel
theorem dX9_thrown_4 : decode cX9_thrown 4 = .ok (.ireturn, 1) := by decide +kernel
theorem dX9_in_0 : decode cX9_in 0 = .ok (.iload_n 0, 1) := by decide +kernel
theorem dX9_in_1 : decode cX9_in 1 = .ok (.iload_n 1, 1) := by decide +kernel
theorem dX9_in_2 : decode cX9_in 2 = .ok (.if_icmp .lt 12, 3) := by decide +kernel
theorem dX9_in_5 : decode cX9_in 5 = .ok (.iload_n 0, 1) := by decide +kernel
theorem dX9_in_6 : decode cX9_in 6 = .ok (.iload_n 2, 1) := by decide +kernel
theorem dX9_in_7 : decode cX9_in 7 = .ok (.if_icmp .gt 7, 3) := by decide +kernel
theorem dX9_in_10 : decode cX9_in 10 = .ok (.iconst 1, 1) := by decide +kernel
theorem dX9_in_11 : decode cX9_in 11 = .ok (.goto 4, 3) := by decide +kernel
theorem dX9_in_14 : decode cX9_in 14 = .ok (.iconst 0, 1) := by decide +kernel
theorem dX9_in_15 : decode cX9_in 15 = .ok (.ireturn, 1) := by decide +kernel
theorem dX9_has_0 : decode cX9_has 0 = .ok (.iload_n 0, 1) := by decide +kernel
theorem dX9_has_1 : decode cX9_has 1 = .ok (.iload_n 1, 1) := by decide +kernel
theorem dX9_has_2 : decode cX9_has 2 = .ok (.ishr, 1) := by decide +kernel
theorem dX9_has_3 : decode cX9_has 3 = .ok (.iconst 1, 1) := by decide +kernel
theorem dX9_has_4 : decode cX9_has 4 = .ok (.iand, 1) := by decide +kernel
theorem dX9_has_5 : decode cX9_has 5 = .ok (.iconst 1, 1) := by decide +kernel
theorem dX9_has_6 : decode cX9_has 6 = .ok (.if_icmp .ne 7, 3) := by decide +kernel
theorem dX9_has_9 : decode cX9_has 9 = .ok (.iconst 1, 1) := by decide +kernel
theorem dX9_has_10 : decode cX9_has 10 = .ok (.goto 4, 3) := by decide +kernel
theorem dX9_has_13 : decode cX9_has 13 = .ok (.iconst 0, 1) := by decide +kernel
theorem dX9_has_14 : decode cX9_has 14 = .ok (.ireturn, 1) := by decide +kernel
theorem dX9_flag_0 : decode cX9_flag 0 = .ok (.iload_n 0, 1) := by decide +kernel
theorem dX9_flag_1 : decode cX9_flag 1 = .ok (.ifCond .eq 7, 3) := by decide +kernel
theorem dX9_flag_4 : decode cX9_flag 4 = .ok (.iconst 1, 1) := by decide +kernel
theorem dX9_flag_5 : decode cX9_flag 5 = .ok (.goto 4, 3) := by decide +kernel
theorem dX9_flag_8 : decode cX9_flag 8 = .ok (.iconst 0, 1) := by decide +kernel
theorem dX9_flag_9 : decode cX9_flag 9 = .ok (.ireturn, 1) := by decide +kernel
theorem dX9_ones_0 : decode cX9_ones 0 = .ok (.iconst 0, 1) := by decide +kernel
theorem dX9_ones_1 : decode cX9_ones 1 = .ok (.istore_n 1, 1) := by decide +kernel
theorem dX9_ones_2 : decode cX9_ones 2 = .ok (.iconst 0, 1) := by decide +kernel
theorem dX9_ones_3 : decode cX9_ones 3 = .ok (.istore_n 2, 1) := by decide +kernel
theorem dX9_ones_4 : decode cX9_ones 4 = .ok (.iload_n 2, 1) := by decide +kernel
theorem dX9_ones_5 : decode cX9_ones 5 = .ok (.bipush 8, 2) := by decide +kernel
theorem dX9_ones_7 : decode cX9_ones 7 = .ok (.if_icmp .ge 17, 3) := by decide +kernel
theorem dX9_ones_10 : decode cX9_ones 10 = .ok (.iload_n 1, 1) := by decide +kernel
theorem dX9_ones_11 : decode cX9_ones 11 = .ok (.iload_n 0, 1) := by decide +kernel
theorem dX9_ones_12 : decode cX9_ones 12 = .ok (.iload_n 2, 1) := by decide +kernel
theorem dX9_ones_13 : decode cX9_ones 13 = .ok (.ishr, 1) := by decide +kernel
theorem dX9_ones_14 : decode cX9_ones 14 = .ok (.iconst 1, 1) := by decide +kernel
theorem dX9_ones_15 : decode cX9_ones 15 = .ok (.iand, 1) := by decide +kernel
theorem dX9_ones_16 : decode cX9_ones 16 = .ok (.iadd, 1) := by decide +kernel
theorem dX9_ones_17 : decode cX9_ones 17 = .ok (.istore_n 1, 1) := by decide +kernel
theorem dX9_ones_18 : decode cX9_ones 18 = .ok (.iinc 2 1, 3) := by decide +kernel
theorem dX9_ones_21 : decode cX9_ones 21 = .ok (.goto (-17), 3) := by decide +kernel
theorem dX9_ones_24 : decode cX9_ones 24 = .ok (.iload_n 1, 1) := by decide +kernel
theorem dX9_ones_25 : decode cX9_ones 25 = .ok (.ireturn, 1) := by decide +kernel
theorem dX9_refuse_0 : decode cX9_refuse 0 = .ok (.aload_n 0, 1) := by decide +kernel
theorem dX9_refuse_1 : decode cX9_refuse 1 = .ok (.getfield 87, 3) := by decide +kernel
theorem dX9_refuse_4 : decode cX9_refuse 4 = .ok (.ifCond .ne 12, 3) := by decide +kernel
theorem dX9_refuse_7 : decode cX9_refuse 7 = .ok (.iload_n 1, 1) := by decide +kernel
theorem dX9_refuse_8 : decode cX9_refuse 8 = .ok (.ifCond .eq 8, 3) := by decide +kernel
theorem dX9_refuse_11 : decode cX9_refuse 11 = .ok (.aload_n 0, 1) := by decide +kernel
theorem dX9_refuse_12 : decode cX9_refuse 12 = .ok (.iload_n 2, 1) := by decide +kernel
theorem dX9_refuse_13 : decode cX9_refuse 13 = .ok (.putfield 87, 3) := by decide +kernel
theorem dX9_refuse_16 : decode cX9_refuse 16 = .ok (.aload_n 0, 1) := by decide +kernel
theorem dX9_refuse_17 : decode cX9_refuse 17 = .ok (.getfield 87, 3) := by decide +kernel
theorem dX9_refuse_20 : decode cX9_refuse 20 = .ok (.ifCond .eq 7, 3) := by decide +kernel
theorem dX9_refuse_23 : decode cX9_refuse 23 = .ok (.iconst 1, 1) := by decide +kernel
theorem dX9_refuse_24 : decode cX9_refuse 24 = .ok (.goto 4, 3) := by decide +kernel
theorem dX9_refuse_27 : decode cX9_refuse 27 = .ok (.iconst 0, 1) := by decide +kernel
theorem dX9_refuse_28 : decode cX9_refuse 28 = .ok (.ireturn, 1) := by decide +kernel
theorem dX9_notLoaded_0 : decode cX9_notLoaded 0 = .ok (.aload_n 0, 1) := by decide +kernel
theorem dX9_notLoaded_1 : decode cX9_notLoaded 1 = .ok (.iconst 0, 1) := by decide +kernel
theorem dX9_notLoaded_2 : decode cX9_notLoaded 2 = .ok (.putfield 87, 3) := by decide +kernel
theorem dX9_notLoaded_5 : decode cX9_notLoaded 5 = .ok (.aload_n 0, 1) := by decide +kernel
theorem dX9_notLoaded_6 : decode cX9_notLoaded 6 = .ok (.aload_n 0, 1) := by decide +kernel
theorem dX9_notLoaded_7 : decode cX9_notLoaded 7 = .ok (.getfield 90, 3) := by decide +kernel
theorem dX9_notLoaded_10 : decode cX9_notLoaded 10 = .ok (.ifCond .ne 7, 3) := by decide +kernel
theorem dX9_notLoaded_13 : decode cX9_notLoaded 13 = .ok (.iconst 1, 1) := by decide +kernel
theorem dX9_notLoaded_14 : decode cX9_notLoaded 14 = .ok (.goto 4, 3) := by decide +kernel
theorem dX9_notLoaded_17 : decode cX9_notLoaded 17 = .ok (.iconst 0, 1) := by decide +kernel
theorem dX9_notLoaded_18 : decode cX9_notLoaded 18 = .ok (.iconst 1, 1) := by decide +kernel
theorem dX9_notLoaded_19 : decode cX9_notLoaded 19 = .ok (.invokevirtual 94, 3) := by decide +kernel
theorem dX9_notLoaded_22 : decode cX9_notLoaded 22 = .ok (.ireturn, 1) := by decide +kernel
theorem dX9_append_0 : decode cX9_append 0 = .ok (.aload_n 0, 1) := by decide +kernel
theorem dX9_append_1 : decode cX9_append 1 = .ok (.iconst 0, 1) := by decide +kernel
theorem dX9_append_2 : decode cX9_append 2 = .ok (.putfield 87, 3) := by decide +kernel
theorem dX9_append_5 : decode cX9_append 5 = .ok (.aload_n 0, 1) := by decide +kernel
theorem dX9_append_6 : decode cX9_append 6 = .ok (.getfield 98, 3) := by decide +kernel
theorem dX9_append_9 : decode cX9_append 9 = .ok (.bipush 20, 2) := by decide +kernel
theorem dX9_append_11 : decode cX9_append 11 = .ok (.iadd, 1) := by decide +kernel
theorem dX9_append_12 : decode cX9_append 12 = .ok (.sipush 900, 3) := by decide +kernel
theorem dX9_append_15 : decode cX9_append 15 = .ok (.if_icmp .le 5, 3) := by decide +kernel
theorem dX9_append_18 : decode cX9_append 18 = .ok (.iconst (-1), 1) := by decide +kernel
theorem dX9_append_19 : decode cX9_append 19 = .ok (.ireturn, 1) := by decide +kernel
theorem dX9_append_20 : decode cX9_append 20 = .ok (.iconst 0, 1) := by decide +kernel
theorem dX9_append_21 : decode cX9_append 21 = .ok (.istore 6, 2) := by decide +kernel
theorem dX9_append_23 : decode cX9_append 23 = .ok (.iload 6, 2) := by decide +kernel
theorem dX9_append_25 : decode cX9_append 25 = .ok (.bipush 20, 2) := by decide +kernel
theorem dX9_append_27 : decode cX9_append 27 = .ok (.if_icmp .ge 86, 3) := by decide +kernel
theorem dX9_append_30 : decode cX9_append 30 = .ok (.iload 6, 2) := by decide +kernel
theorem dX9_append_32 : decode cX9_append 32 = .ok (.iconst 4, 1) := by decide +kernel
theorem dX9_append_33 : decode cX9_append 33 = .ok (.if_icmp .ge 7, 3) := by decide +kernel
theorem dX9_append_36 : decode cX9_append 36 = .ok (.iload_n 1, 1) := by decide +kernel
theorem dX9_append_37 : decode cX9_append 37 = .ok (.goto 39, 3) := by decide +kernel
theorem dX9_append_40 : decode cX9_append 40 = .ok (.iload 6, 2) := by decide +kernel
theorem dX9_append_42 : decode cX9_append 42 = .ok (.bipush 8, 2) := by decide +kernel
theorem dX9_append_44 : decode cX9_append 44 = .ok (.if_icmp .ge 7, 3) := by decide +kernel
theorem dX9_append_47 : decode cX9_append 47 = .ok (.iload_n 2, 1) := by decide +kernel
theorem dX9_append_48 : decode cX9_append 48 = .ok (.goto 28, 3) := by decide +kernel
theorem dX9_append_51 : decode cX9_append 51 = .ok (.iload 6, 2) := by decide +kernel
theorem dX9_append_53 : decode cX9_append 53 = .ok (.bipush 12, 2) := by decide +kernel
theorem dX9_append_55 : decode cX9_append 55 = .ok (.if_icmp .ge 7, 3) := by decide +kernel
theorem dX9_append_58 : decode cX9_append 58 = .ok (.iload_n 3, 1) := by decide +kernel
theorem dX9_append_59 : decode cX9_append 59 = .ok (.goto 17, 3) := by decide +kernel
theorem dX9_append_62 : decode cX9_append 62 = .ok (.iload 6, 2) := by decide +kernel
theorem dX9_append_64 : decode cX9_append 64 = .ok (.bipush 16, 2) := by decide +kernel
theorem dX9_append_66 : decode cX9_append 66 = .ok (.if_icmp .ge 8, 3) := by decide +kernel
theorem dX9_append_69 : decode cX9_append 69 = .ok (.iload 4, 2) := by decide +kernel
theorem dX9_append_71 : decode cX9_append 71 = .ok (.goto 5, 3) := by decide +kernel
theorem dX9_append_74 : decode cX9_append 74 = .ok (.iload 5, 2) := by decide +kernel
theorem dX9_append_76 : decode cX9_append 76 = .ok (.istore 7, 2) := by decide +kernel
theorem dX9_append_78 : decode cX9_append 78 = .ok (.aload_n 0, 1) := by decide +kernel
theorem dX9_append_79 : decode cX9_append 79 = .ok (.getfield 41, 3) := by decide +kernel
theorem dX9_append_82 : decode cX9_append 82 = .ok (.aload_n 0, 1) := by decide +kernel
theorem dX9_append_83 : decode cX9_append 83 = .ok (.getfield 98, 3) := by decide +kernel
theorem dX9_append_86 : decode cX9_append 86 = .ok (.iload 6, 2) := by decide +kernel
theorem dX9_append_88 : decode cX9_append 88 = .ok (.iadd, 1) := by decide +kernel
theorem dX9_append_89 : decode cX9_append 89 = .ok (.iload 7, 2) := by decide +kernel
theorem dX9_append_91 : decode cX9_append 91 = .ok (.bipush 24, 2) := by decide +kernel
theorem dX9_append_93 : decode cX9_append 93 = .ok (.bipush 8, 2) := by decide +kernel
theorem dX9_append_95 : decode cX9_append 95 = .ok (.iload 6, 2) := by decide +kernel
theorem dX9_append_97 : decode cX9_append 97 = .ok (.iconst 4, 1) := by decide +kernel
theorem dX9_append_98 : decode cX9_append 98 = .ok (.irem, 1) := by decide +kernel
theorem dX9_append_99 : decode cX9_append 99 = .ok (.imul, 1) := by decide +kernel
theorem dX9_append_100 : decode cX9_append 100 = .ok (.isub, 1) := by decide +kernel
theorem dX9_append_101 : decode cX9_append 101 = .ok (.ishr, 1) := by decide +kernel
theorem dX9_append_102 : decode cX9_append 102 = .ok (.sipush 255, 3) := by decide +kernel
theorem dX9_append_105 : decode cX9_append 105 = .ok (.iand, 1) := by decide +kernel
theorem dX9_append_106 : decode cX9_append 106 = .ok (.iastore, 1) := by decide +kernel
theorem dX9_append_107 : decode cX9_append 107 = .ok (.iinc 6 1, 3) := by decide +kernel
theorem dX9_append_110 : decode cX9_append 110 = .ok (.goto (-87), 3) := by decide +kernel
theorem dX9_append_113 : decode cX9_append 113 = .ok (.aload_n 0, 1) := by decide +kernel
theorem dX9_append_114 : decode cX9_append 114 = .ok (.dup, 1) := by decide +kernel
theorem dX9_append_115 : decode cX9_append 115 = .ok (.getfield 98, 3) := by decide +kernel
theorem dX9_append_118 : decode cX9_append 118 = .ok (.bipush 20, 2) := by decide +kernel
theorem dX9_append_120 : decode cX9_append 120 = .ok (.iadd, 1) := by decide +kernel
theorem dX9_append_121 : decode cX9_append 121 = .ok (.putfield 98, 3) := by decide +kernel
theorem dX9_append_124 : decode cX9_append 124 = .ok (.aload_n 0, 1) := by decide +kernel
theorem dX9_append_125 : decode cX9_append 125 = .ok (.getfield 98, 3) := by decide +kernel
theorem dX9_append_128 : decode cX9_append 128 = .ok (.ireturn, 1) := by decide +kernel
theorem dX9_buffered_0 : decode cX9_buffered 0 = .ok (.aload_n 0, 1) := by decide +kernel
theorem dX9_buffered_1 : decode cX9_buffered 1 = .ok (.iconst 0, 1) := by decide +kernel
theorem dX9_buffered_2 : decode cX9_buffered 2 = .ok (.putfield 87, 3) := by decide +kernel
theorem dX9_buffered_5 : decode cX9_buffered 5 = .ok (.aload_n 0, 1) := by decide +kernel
theorem dX9_buffered_6 : decode cX9_buffered 6 = .ok (.getfield 98, 3) := by decide +kernel
theorem dX9_buffered_9 : decode cX9_buffered 9 = .ok (.ireturn, 1) := by decide +kernel
theorem dX9_parseError_0 : decode cX9_parseError 0 = .ok (.aload_n 0, 1) := by decide +kernel
theorem dX9_parseError_1 : decode cX9_parseError 1 = .ok (.iconst 0, 1) := by decide +kernel
theorem dX9_parseError_2 : decode cX9_parseError 2 = .ok (.putfield 87, 3) := by decide +kernel
theorem dX9_parseError_5 : decode cX9_parseError 5 = .ok (.aload_n 0, 1) := by decide +kernel
theorem dX9_parseError_6 : decode cX9_parseError 6 = .ok (.getfield 101, 3) := by decide +kernel
theorem dX9_parseError_9 : decode cX9_parseError 9 = .ok (.ireturn, 1) := by decide +kernel
theorem dX9_errorPosition_0 : decode cX9_errorPosition 0 = .ok (.aload_n 0, 1) := by decide +kernel
theorem dX9_errorPosition_1 : decode cX9_errorPosition 1 = .ok (.iconst 0, 1) := by decide +kernel
theorem dX9_errorPosition_2 : decode cX9_errorPosition 2 = .ok (.putfield 87, 3) := by decide +kernel
theorem dX9_errorPosition_5 : decode cX9_errorPosition 5 = .ok (.aload_n 0, 1) := by decide +kernel
theorem dX9_errorPosition_6 : decode cX9_errorPosition 6 = .ok (.getfield 44, 3) := by decide +kernel
theorem dX9_errorPosition_9 : decode cX9_errorPosition 9 = .ok (.ireturn, 1) := by decide +kernel
theorem dX9_seen_0 : decode cX9_seen 0 = .ok (.iload_n 1, 1) := by decide +kernel
theorem dX9_seen_1 : decode cX9_seen 1 = .ok (.aload_n 0, 1) := by decide +kernel
theorem dX9_seen_2 : decode cX9_seen 2 = .ok (.getfield 104, 3) := by decide +kernel
theorem dX9_seen_5 : decode cX9_seen 5 = .ok (.if_icmp .ge 12, 3) := by decide +kernel
theorem dX9_seen_8 : decode cX9_seen 8 = .ok (.aload_n 0, 1) := by decide +kernel
theorem dX9_seen_9 : decode cX9_seen 9 = .ok (.getfield 41, 3) := by decide +kernel
theorem dX9_seen_12 : decode cX9_seen 12 = .ok (.iload_n 1, 1) := by decide +kernel
theorem dX9_seen_13 : decode cX9_seen 13 = .ok (.iaload, 1) := by decide +kernel
theorem dX9_seen_14 : decode cX9_seen 14 = .ok (.goto 4, 3) := by decide +kernel
theorem dX9_seen_17 : decode cX9_seen 17 = .ok (.iconst (-1), 1) := by decide +kernel
theorem dX9_seen_18 : decode cX9_seen 18 = .ok (.ireturn, 1) := by decide +kernel
theorem dX9_isLetter_0 : decode cX9_isLetter 0 = .ok (.iload_n 0, 1) := by decide +kernel
theorem dX9_isLetter_1 : decode cX9_isLetter 1 = .ok (.bipush 97, 2) := by decide +kernel
theorem dX9_isLetter_3 : decode cX9_isLetter 3 = .ok (.if_icmp .lt 13, 3) := by decide +kernel
theorem dX9_isLetter_6 : decode cX9_isLetter 6 = .ok (.iload_n 0, 1) := by decide +kernel
theorem dX9_isLetter_7 : decode cX9_isLetter 7 = .ok (.bipush 122, 2) := by decide +kernel
theorem dX9_isLetter_9 : decode cX9_isLetter 9 = .ok (.if_icmp .gt 7, 3) := by decide +kernel
theorem dX9_isLetter_12 : decode cX9_isLetter 12 = .ok (.iconst 1, 1) := by decide +kernel
theorem dX9_isLetter_13 : decode cX9_isLetter 13 = .ok (.goto 4, 3) := by decide +kernel
theorem dX9_isLetter_16 : decode cX9_isLetter 16 = .ok (.iconst 0, 1) := by decide +kernel
theorem dX9_isLetter_17 : decode cX9_isLetter 17 = .ok (.ireturn, 1) := by decide +kernel
theorem dX9_isDigit_0 : decode cX9_isDigit 0 = .ok (.iload_n 0, 1) := by decide +kernel
theorem dX9_isDigit_1 : decode cX9_isDigit 1 = .ok (.bipush 48, 2) := by decide +kernel
theorem dX9_isDigit_3 : decode cX9_isDigit 3 = .ok (.if_icmp .lt 13, 3) := by decide +kernel
theorem dX9_isDigit_6 : decode cX9_isDigit 6 = .ok (.iload_n 0, 1) := by decide +kernel
theorem dX9_isDigit_7 : decode cX9_isDigit 7 = .ok (.bipush 57, 2) := by decide +kernel
theorem dX9_isDigit_9 : decode cX9_isDigit 9 = .ok (.if_icmp .gt 7, 3) := by decide +kernel
theorem dX9_isDigit_12 : decode cX9_isDigit 12 = .ok (.iconst 1, 1) := by decide +kernel
theorem dX9_isDigit_13 : decode cX9_isDigit 13 = .ok (.goto 4, 3) := by decide +kernel
theorem dX9_isDigit_16 : decode cX9_isDigit 16 = .ok (.iconst 0, 1) := by decide +kernel
theorem dX9_isDigit_17 : decode cX9_isDigit 17 = .ok (.ireturn, 1) := by decide +kernel
theorem dX9_token_0 : decode cX9_token 0 = .ok (.aload_n 0, 1) := by decide +kernel
theorem dX9_token_1 : decode cX9_token 1 = .ok (.aload_n 0, 1) := by decide +kernel
theorem dX9_token_2 : decode cX9_token 2 = .ok (.getfield 107, 3) := by decide +kernel
theorem dX9_token_5 : decode cX9_token 5 = .ok (.invokevirtual 110, 3) := by decide +kernel
theorem dX9_token_8 : decode cX9_token 8 = .ok (.bipush 32, 2) := by decide +kernel
theorem dX9_token_10 : decode cX9_token 10 = .ok (.if_icmp .ne 16, 3) := by decide +kernel
theorem dX9_token_13 : decode cX9_token 13 = .ok (.aload_n 0, 1) := by decide +kernel
theorem dX9_token_14 : decode cX9_token 14 = .ok (.dup, 1) := by decide +kernel
theorem dX9_token_15 : decode cX9_token 15 = .ok (.getfield 107, 3) := by decide +kernel
theorem dX9_token_18 : decode cX9_token 18 = .ok (.iconst 1, 1) := by decide +kernel
theorem dX9_token_19 : decode cX9_token 19 = .ok (.iadd, 1) := by decide +kernel
theorem dX9_token_20 : decode cX9_token 20 = .ok (.putfield 107, 3) := by decide +kernel
theorem dX9_token_23 : decode cX9_token 23 = .ok (.goto (-23), 3) := by decide +kernel
theorem dX9_token_26 : decode cX9_token 26 = .ok (.aload_n 0, 1) := by decide +kernel
theorem dX9_token_27 : decode cX9_token 27 = .ok (.aload_n 0, 1) := by decide +kernel
theorem dX9_token_28 : decode cX9_token 28 = .ok (.getfield 107, 3) := by decide +kernel
theorem dX9_token_31 : decode cX9_token 31 = .ok (.putfield 114, 3) := by decide +kernel
theorem dX9_token_34 : decode cX9_token 34 = .ok (.aload_n 0, 1) := by decide +kernel
theorem dX9_token_35 : decode cX9_token 35 = .ok (.aload_n 0, 1) := by decide +kernel
theorem dX9_token_36 : decode cX9_token 36 = .ok (.getfield 107, 3) := by decide +kernel
theorem dX9_token_39 : decode cX9_token 39 = .ok (.invokevirtual 110, 3) := by decide +kernel
theorem dX9_token_42 : decode cX9_token 42 = .ok (.istore_n 1, 1) := by decide +kernel
theorem dX9_token_43 : decode cX9_token 43 = .ok (.iload_n 1, 1) := by decide +kernel
theorem dX9_token_44 : decode cX9_token 44 = .ok (.iconst (-1), 1) := by decide +kernel
theorem dX9_token_45 : decode cX9_token 45 = .ok (.if_icmp .ne 11, 3) := by decide +kernel
theorem dX9_token_48 : decode cX9_token 48 = .ok (.aload_n 0, 1) := by decide +kernel
theorem dX9_token_49 : decode cX9_token 49 = .ok (.iconst 0, 1) := by decide +kernel
theorem dX9_token_50 : decode cX9_token 50 = .ok (.putfield 117, 3) := by decide +kernel
theorem dX9_token_53 : decode cX9_token 53 = .ok (.goto 192, 3) := by decide +kernel
theorem dX9_token_56 : decode cX9_token 56 = .ok (.iload_n 1, 1) := by decide +kernel
theorem dX9_token_57 : decode cX9_token 57 = .ok (.invokestatic 120, 3) := by decide +kernel
theorem dX9_token_60 : decode cX9_token 60 = .ok (.ifCond .eq 56, 3) := by decide +kernel
theorem dX9_token_63 : decode cX9_token 63 = .ok (.aload_n 0, 1) := by decide +kernel
theorem dX9_token_64 : decode cX9_token 64 = .ok (.aload_n 0, 1) := by decide +kernel
theorem dX9_token_65 : decode cX9_token 65 = .ok (.getfield 107, 3) := by decide +kernel
theorem dX9_token_68 : decode cX9_token 68 = .ok (.invokevirtual 110, 3) := by decide +kernel
theorem dX9_token_71 : decode cX9_token 71 = .ok (.invokestatic 120, 3) := by decide +kernel
theorem dX9_token_74 : decode cX9_token 74 = .ok (.ifCond .eq 16, 3) := by decide +kernel
theorem dX9_token_77 : decode cX9_token 77 = .ok (.aload_n 0, 1) := by decide +kernel
theorem dX9_token_78 : decode cX9_token 78 = .ok (.dup, 1) := by decide +kernel
theorem dX9_token_79 : decode cX9_token 79 = .ok (.getfield 107, 3) := by decide +kernel
theorem dX9_token_82 : decode cX9_token 82 = .ok (.iconst 1, 1) := by decide +kernel
theorem dX9_token_83 : decode cX9_token 83 = .ok (.iadd, 1) := by decide +kernel
theorem dX9_token_84 : decode cX9_token 84 = .ok (.putfield 107, 3) := by decide +kernel
theorem dX9_token_87 : decode cX9_token 87 = .ok (.goto (-24), 3) := by decide +kernel
theorem dX9_token_90 : decode cX9_token 90 = .ok (.aload_n 0, 1) := by decide +kernel
theorem dX9_token_91 : decode cX9_token 91 = .ok (.aload_n 0, 1) := by decide +kernel
theorem dX9_token_92 : decode cX9_token 92 = .ok (.getfield 107, 3) := by decide +kernel
theorem dX9_token_95 : decode cX9_token 95 = .ok (.aload_n 0, 1) := by decide +kernel
theorem dX9_token_96 : decode cX9_token 96 = .ok (.getfield 114, 3) := by decide +kernel
theorem dX9_token_99 : decode cX9_token 99 = .ok (.isub, 1) := by decide +kernel
theorem dX9_token_100 : decode cX9_token 100 = .ok (.bipush 10, 2) := by decide +kernel
theorem dX9_token_102 : decode cX9_token 102 = .ok (.if_icmp .le 7, 3) := by decide +kernel
theorem dX9_token_105 : decode cX9_token 105 = .ok (.iconst 4, 1) := by decide +kernel
theorem dX9_token_106 : decode cX9_token 106 = .ok (.goto 4, 3) := by decide +kernel
theorem dX9_token_109 : decode cX9_token 109 = .ok (.iconst 1, 1) := by decide +kernel
theorem dX9_token_110 : decode cX9_token 110 = .ok (.putfield 117, 3) := by decide +kernel
theorem dX9_token_113 : decode cX9_token 113 = .ok (.goto 132, 3) := by decide +kernel
theorem dX9_token_116 : decode cX9_token 116 = .ok (.iload_n 1, 1) := by decide +kernel
theorem dX9_token_117 : decode cX9_token 117 = .ok (.invokestatic 124, 3) := by decide +kernel
theorem dX9_token_120 : decode cX9_token 120 = .ok (.ifCond .eq 100, 3) := by decide +kernel
theorem dX9_token_123 : decode cX9_token 123 = .ok (.aload_n 0, 1) := by decide +kernel
theorem dX9_token_124 : decode cX9_token 124 = .ok (.iconst 0, 1) := by decide +kernel
theorem dX9_token_125 : decode cX9_token 125 = .ok (.putfield 127, 3) := by decide +kernel
theorem dX9_token_128 : decode cX9_token 128 = .ok (.aload_n 0, 1) := by decide +kernel
theorem dX9_token_129 : decode cX9_token 129 = .ok (.aload_n 0, 1) := by decide +kernel
theorem dX9_token_130 : decode cX9_token 130 = .ok (.getfield 107, 3) := by decide +kernel
theorem dX9_token_133 : decode cX9_token 133 = .ok (.invokevirtual 110, 3) := by decide +kernel
theorem dX9_token_136 : decode cX9_token 136 = .ok (.invokestatic 124, 3) := by decide +kernel
theorem dX9_token_139 : decode cX9_token 139 = .ok (.ifCond .eq 56, 3) := by decide +kernel
theorem dX9_token_142 : decode cX9_token 142 = .ok (.aload_n 0, 1) := by decide +kernel
theorem dX9_token_143 : decode cX9_token 143 = .ok (.aload_n 0, 1) := by decide +kernel
theorem dX9_token_144 : decode cX9_token 144 = .ok (.getfield 107, 3) := by decide +kernel
theorem dX9_token_147 : decode cX9_token 147 = .ok (.aload_n 0, 1) := by decide +kernel
theorem dX9_token_148 : decode cX9_token 148 = .ok (.getfield 114, 3) := by decide +kernel
theorem dX9_token_151 : decode cX9_token 151 = .ok (.isub, 1) := by decide +kernel
theorem dX9_token_152 : decode cX9_token 152 = .ok (.iconst 2, 1) := by decide +kernel
theorem dX9_token_153 : decode cX9_token 153 = .ok (.if_icmp .ge 25, 3) := by decide +kernel
theorem dX9_token_156 : decode cX9_token 156 = .ok (.bipush 10, 2) := by decide +kernel
theorem dX9_token_158 : decode cX9_token 158 = .ok (.aload_n 0, 1) := by decide +kernel
theorem dX9_token_159 : decode cX9_token 159 = .ok (.getfield 127, 3) := by decide +kernel
theorem dX9_token_162 : decode cX9_token 162 = .ok (.imul, 1) := by decide +kernel
theorem dX9_token_163 : decode cX9_token 163 = .ok (.aload_n 0, 1) := by decide +kernel
theorem dX9_token_164 : decode cX9_token 164 = .ok (.aload_n 0, 1) := by decide +kernel
theorem dX9_token_165 : decode cX9_token 165 = .ok (.getfield 107, 3) := by decide +kernel
theorem dX9_token_168 : decode cX9_token 168 = .ok (.invokevirtual 110, 3) := by decide +kernel
theorem dX9_token_171 : decode cX9_token 171 = .ok (.iadd, 1) := by decide +kernel
theorem dX9_token_172 : decode cX9_token 172 = .ok (.bipush 48, 2) := by decide +kernel
theorem dX9_token_174 : decode cX9_token 174 = .ok (.isub, 1) := by decide +kernel
theorem dX9_token_175 : decode cX9_token 175 = .ok (.goto 4, 3) := by decide +kernel
theorem dX9_token_178 : decode cX9_token 178 = .ok (.iconst 0, 1) := by decide +kernel
theorem dX9_token_179 : decode cX9_token 179 = .ok (.putfield 127, 3) := by decide +kernel
theorem dX9_token_182 : decode cX9_token 182 = .ok (.aload_n 0, 1) := by decide +kernel
theorem dX9_token_183 : decode cX9_token 183 = .ok (.dup, 1) := by decide +kernel
theorem dX9_token_184 : decode cX9_token 184 = .ok (.getfield 107, 3) := by decide +kernel
theorem dX9_token_187 : decode cX9_token 187 = .ok (.iconst 1, 1) := by decide +kernel
theorem dX9_token_188 : decode cX9_token 188 = .ok (.iadd, 1) := by decide +kernel
theorem dX9_token_189 : decode cX9_token 189 = .ok (.putfield 107, 3) := by decide +kernel
theorem dX9_token_192 : decode cX9_token 192 = .ok (.goto (-64), 3) := by decide +kernel
theorem dX9_token_195 : decode cX9_token 195 = .ok (.aload_n 0, 1) := by decide +kernel
theorem dX9_token_196 : decode cX9_token 196 = .ok (.aload_n 0, 1) := by decide +kernel
theorem dX9_token_197 : decode cX9_token 197 = .ok (.getfield 107, 3) := by decide +kernel
theorem dX9_token_200 : decode cX9_token 200 = .ok (.aload_n 0, 1) := by decide +kernel
theorem dX9_token_201 : decode cX9_token 201 = .ok (.getfield 114, 3) := by decide +kernel
theorem dX9_token_204 : decode cX9_token 204 = .ok (.isub, 1) := by decide +kernel
theorem dX9_token_205 : decode cX9_token 205 = .ok (.iconst 2, 1) := by decide +kernel
theorem dX9_token_206 : decode cX9_token 206 = .ok (.if_icmp .le 7, 3) := by decide +kernel
theorem dX9_token_209 : decode cX9_token 209 = .ok (.iconst 4, 1) := by decide +kernel
theorem dX9_token_210 : decode cX9_token 210 = .ok (.goto 4, 3) := by decide +kernel
theorem dX9_token_213 : decode cX9_token 213 = .ok (.iconst 2, 1) := by decide +kernel
theorem dX9_token_214 : decode cX9_token 214 = .ok (.putfield 117, 3) := by decide +kernel
theorem dX9_token_217 : decode cX9_token 217 = .ok (.goto 28, 3) := by decide +kernel
theorem dX9_token_220 : decode cX9_token 220 = .ok (.aload_n 0, 1) := by decide +kernel
theorem dX9_token_221 : decode cX9_token 221 = .ok (.iload_n 1, 1) := by decide +kernel
theorem dX9_token_222 : decode cX9_token 222 = .ok (.bipush 59, 2) := by decide +kernel
theorem dX9_token_224 : decode cX9_token 224 = .ok (.if_icmp .ne 7, 3) := by decide +kernel
theorem dX9_token_227 : decode cX9_token 227 = .ok (.iconst 3, 1) := by decide +kernel
theorem dX9_token_228 : decode cX9_token 228 = .ok (.goto 4, 3) := by decide +kernel
theorem dX9_token_231 : decode cX9_token 231 = .ok (.iconst 4, 1) := by decide +kernel
theorem dX9_token_232 : decode cX9_token 232 = .ok (.putfield 117, 3) := by decide +kernel
theorem dX9_token_235 : decode cX9_token 235 = .ok (.aload_n 0, 1) := by decide +kernel
theorem dX9_token_236 : decode cX9_token 236 = .ok (.dup, 1) := by decide +kernel
theorem dX9_token_237 : decode cX9_token 237 = .ok (.getfield 107, 3) := by decide +kernel
theorem dX9_token_240 : decode cX9_token 240 = .ok (.iconst 1, 1) := by decide +kernel
theorem dX9_token_241 : decode cX9_token 241 = .ok (.iadd, 1) := by decide +kernel
theorem dX9_token_242 : decode cX9_token 242 = .ok (.putfield 107, 3) := by decide +kernel
theorem dX9_token_245 : decode cX9_token 245 = .ok (.return_, 1) := by decide +kernel
theorem dX9_fails_0 : decode cX9_fails 0 = .ok (.aload_n 0, 1) := by decide +kernel
theorem dX9_fails_1 : decode cX9_fails 1 = .ok (.getfield 130, 3) := by decide +kernel
theorem dX9_fails_4 : decode cX9_fails 4 = .ok (.ifCond .ne 16, 3) := by decide +kernel
theorem dX9_fails_7 : decode cX9_fails 7 = .ok (.aload_n 0, 1) := by decide +kernel
theorem dX9_fails_8 : decode cX9_fails 8 = .ok (.iload_n 1, 1) := by decide +kernel
theorem dX9_fails_9 : decode cX9_fails 9 = .ok (.putfield 130, 3) := by decide +kernel
theorem dX9_fails_12 : decode cX9_fails 12 = .ok (.aload_n 0, 1) := by decide +kernel
theorem dX9_fails_13 : decode cX9_fails 13 = .ok (.aload_n 0, 1) := by decide +kernel
theorem dX9_fails_14 : decode cX9_fails 14 = .ok (.getfield 114, 3) := by decide +kernel
theorem dX9_fails_17 : decode cX9_fails 17 = .ok (.putfield 133, 3) := by decide +kernel
theorem dX9_fails_20 : decode cX9_fails 20 = .ok (.return_, 1) := by decide +kernel
theorem dX9_failsIf_0 : decode cX9_failsIf 0 = .ok (.iload_n 1, 1) := by decide +kernel
theorem dX9_failsIf_1 : decode cX9_failsIf 1 = .ok (.ifCond .eq 8, 3) := by decide +kernel
theorem dX9_failsIf_4 : decode cX9_failsIf 4 = .ok (.aload_n 0, 1) := by decide +kernel
theorem dX9_failsIf_5 : decode cX9_failsIf 5 = .ok (.iload_n 2, 1) := by decide +kernel
theorem dX9_failsIf_6 : decode cX9_failsIf 6 = .ok (.invokevirtual 136, 3) := by decide +kernel
theorem dX9_failsIf_9 : decode cX9_failsIf 9 = .ok (.return_, 1) := by decide +kernel
theorem dX9_goesOn_0 : decode cX9_goesOn 0 = .ok (.aload_n 0, 1) := by decide +kernel
theorem dX9_goesOn_1 : decode cX9_goesOn 1 = .ok (.getfield 130, 3) := by decide +kernel
theorem dX9_goesOn_4 : decode cX9_goesOn 4 = .ok (.ifCond .ne 7, 3) := by decide +kernel
theorem dX9_goesOn_7 : decode cX9_goesOn 7 = .ok (.aload_n 0, 1) := by decide +kernel
theorem dX9_goesOn_8 : decode cX9_goesOn 8 = .ok (.invokevirtual 140, 3) := by decide +kernel
theorem dX9_goesOn_11 : decode cX9_goesOn 11 = .ok (.return_, 1) := by decide +kernel
theorem dX9_isWord_0 : decode cX9_isWord 0 = .ok (.aload_n 0, 1) := by decide +kernel
theorem dX9_isWord_1 : decode cX9_isWord 1 = .ok (.getfield 130, 3) := by decide +kernel
theorem dX9_isWord_4 : decode cX9_isWord 4 = .ok (.ifCond .ne 27, 3) := by decide +kernel
theorem dX9_isWord_7 : decode cX9_isWord 7 = .ok (.aload_n 0, 1) := by decide +kernel
theorem dX9_isWord_8 : decode cX9_isWord 8 = .ok (.getfield 117, 3) := by decide +kernel
theorem dX9_isWord_11 : decode cX9_isWord 11 = .ok (.iconst 1, 1) := by decide +kernel
theorem dX9_isWord_12 : decode cX9_isWord 12 = .ok (.if_icmp .ne 19, 3) := by decide +kernel
theorem dX9_isWord_15 : decode cX9_isWord 15 = .ok (.aload_n 0, 1) := by decide +kernel
theorem dX9_isWord_16 : decode cX9_isWord 16 = .ok (.getfield 107, 3) := by decide +kernel
theorem dX9_isWord_19 : decode cX9_isWord 19 = .ok (.aload_n 0, 1) := by decide +kernel
theorem dX9_isWord_20 : decode cX9_isWord 20 = .ok (.getfield 114, 3) := by decide +kernel
theorem dX9_isWord_23 : decode cX9_isWord 23 = .ok (.isub, 1) := by decide +kernel
theorem dX9_isWord_24 : decode cX9_isWord 24 = .ok (.aload_n 1, 1) := by decide +kernel
theorem dX9_isWord_25 : decode cX9_isWord 25 = .ok (.invokevirtual 143, 3) := by decide +kernel
theorem dX9_isWord_28 : decode cX9_isWord 28 = .ok (.if_icmp .eq 5, 3) := by decide +kernel
theorem dX9_isWord_31 : decode cX9_isWord 31 = .ok (.iconst 0, 1) := by decide +kernel
theorem dX9_isWord_32 : decode cX9_isWord 32 = .ok (.ireturn, 1) := by decide +kernel
theorem dX9_isWord_33 : decode cX9_isWord 33 = .ok (.iconst 0, 1) := by decide +kernel
theorem dX9_isWord_34 : decode cX9_isWord 34 = .ok (.istore_n 2, 1) := by decide +kernel
theorem dX9_isWord_35 : decode cX9_isWord 35 = .ok (.iload_n 2, 1) := by decide +kernel
theorem dX9_isWord_36 : decode cX9_isWord 36 = .ok (.aload_n 1, 1) := by decide +kernel
theorem dX9_isWord_37 : decode cX9_isWord 37 = .ok (.invokevirtual 143, 3) := by decide +kernel
theorem dX9_isWord_40 : decode cX9_isWord 40 = .ok (.if_icmp .ge 29, 3) := by decide +kernel
theorem dX9_isWord_43 : decode cX9_isWord 43 = .ok (.aload_n 0, 1) := by decide +kernel
theorem dX9_isWord_44 : decode cX9_isWord 44 = .ok (.aload_n 0, 1) := by decide +kernel
theorem dX9_isWord_45 : decode cX9_isWord 45 = .ok (.getfield 114, 3) := by decide +kernel
theorem dX9_isWord_48 : decode cX9_isWord 48 = .ok (.iload_n 2, 1) := by decide +kernel
theorem dX9_isWord_49 : decode cX9_isWord 49 = .ok (.iadd, 1) := by decide +kernel
theorem dX9_isWord_50 : decode cX9_isWord 50 = .ok (.invokevirtual 110, 3) := by decide +kernel
theorem dX9_isWord_53 : decode cX9_isWord 53 = .ok (.aload_n 1, 1) := by decide +kernel
theorem dX9_isWord_54 : decode cX9_isWord 54 = .ok (.iload_n 2, 1) := by decide +kernel
theorem dX9_isWord_55 : decode cX9_isWord 55 = .ok (.invokevirtual 148, 3) := by decide +kernel
theorem dX9_isWord_58 : decode cX9_isWord 58 = .ok (.if_icmp .eq 5, 3) := by decide +kernel
theorem dX9_isWord_61 : decode cX9_isWord 61 = .ok (.iconst 0, 1) := by decide +kernel
theorem dX9_isWord_62 : decode cX9_isWord 62 = .ok (.ireturn, 1) := by decide +kernel
theorem dX9_isWord_63 : decode cX9_isWord 63 = .ok (.iinc 2 1, 3) := by decide +kernel
theorem dX9_isWord_66 : decode cX9_isWord 66 = .ok (.goto (-31), 3) := by decide +kernel
theorem dX9_isWord_69 : decode cX9_isWord 69 = .ok (.iconst 1, 1) := by decide +kernel
theorem dX9_isWord_70 : decode cX9_isWord 70 = .ok (.ireturn, 1) := by decide +kernel
theorem dX9_takes_0 : decode cX9_takes 0 = .ok (.aload_n 0, 1) := by decide +kernel
theorem dX9_takes_1 : decode cX9_takes 1 = .ok (.getfield 117, 3) := by decide +kernel
theorem dX9_takes_4 : decode cX9_takes 4 = .ok (.iconst 2, 1) := by decide +kernel
theorem dX9_takes_5 : decode cX9_takes 5 = .ok (.if_icmp .eq 11, 3) := by decide +kernel
theorem dX9_takes_8 : decode cX9_takes 8 = .ok (.aload_n 0, 1) := by decide +kernel
theorem dX9_takes_9 : decode cX9_takes 9 = .ok (.iconst 1, 1) := by decide +kernel
theorem dX9_takes_10 : decode cX9_takes 10 = .ok (.invokevirtual 136, 3) := by decide +kernel
theorem dX9_takes_13 : decode cX9_takes 13 = .ok (.goto 20, 3) := by decide +kernel
theorem dX9_takes_16 : decode cX9_takes 16 = .ok (.aload_n 0, 1) := by decide +kernel
theorem dX9_takes_17 : decode cX9_takes 17 = .ok (.getfield 127, 3) := by decide +kernel
theorem dX9_takes_20 : decode cX9_takes 20 = .ok (.iload_n 1, 1) := by decide +kernel
theorem dX9_takes_21 : decode cX9_takes 21 = .ok (.iload_n 2, 1) := by decide +kernel
theorem dX9_takes_22 : decode cX9_takes 22 = .ok (.invokestatic 152, 3) := by decide +kernel
theorem dX9_takes_25 : decode cX9_takes 25 = .ok (.ifCond .ne 8, 3) := by decide +kernel
theorem dX9_takes_28 : decode cX9_takes 28 = .ok (.aload_n 0, 1) := by decide +kernel
theorem dX9_takes_29 : decode cX9_takes 29 = .ok (.iconst 2, 1) := by decide +kernel
theorem dX9_takes_30 : decode cX9_takes 30 = .ok (.invokevirtual 136, 3) := by decide +kernel
theorem dX9_takes_33 : decode cX9_takes 33 = .ok (.aload_n 0, 1) := by decide +kernel
theorem dX9_takes_34 : decode cX9_takes 34 = .ok (.getfield 130, 3) := by decide +kernel
theorem dX9_takes_37 : decode cX9_takes 37 = .ok (.ifCond .eq 7, 3) := by decide +kernel
theorem dX9_takes_40 : decode cX9_takes 40 = .ok (.iload_n 1, 1) := by decide +kernel
theorem dX9_takes_41 : decode cX9_takes 41 = .ok (.goto 7, 3) := by decide +kernel
theorem dX9_takes_44 : decode cX9_takes 44 = .ok (.aload_n 0, 1) := by decide +kernel
theorem dX9_takes_45 : decode cX9_takes 45 = .ok (.getfield 127, 3) := by decide +kernel
theorem dX9_takes_48 : decode cX9_takes 48 = .ok (.istore_n 3, 1) := by decide +kernel
theorem dX9_takes_49 : decode cX9_takes 49 = .ok (.aload_n 0, 1) := by decide +kernel
theorem dX9_takes_50 : decode cX9_takes 50 = .ok (.invokevirtual 156, 3) := by decide +kernel
theorem dX9_takes_53 : decode cX9_takes 53 = .ok (.iload_n 3, 1) := by decide +kernel
theorem dX9_takes_54 : decode cX9_takes 54 = .ok (.ireturn, 1) := by decide +kernel
theorem dX9_named_0 : decode cX9_named 0 = .ok (.iconst 0, 1) := by decide +kernel
theorem dX9_named_1 : decode cX9_named 1 = .ok (.istore_n 3, 1) := by decide +kernel
theorem dX9_named_2 : decode cX9_named 2 = .ok (.iload_n 3, 1) := by decide +kernel
theorem dX9_named_3 : decode cX9_named 3 = .ok (.iload_n 2, 1) := by decide +kernel
theorem dX9_named_4 : decode cX9_named 4 = .ok (.if_icmp .ge 105, 3) := by decide +kernel
theorem dX9_named_7 : decode cX9_named 7 = .ok (.aload_n 0, 1) := by decide +kernel
theorem dX9_named_8 : decode cX9_named 8 = .ok (.getfield 117, 3) := by decide +kernel
theorem dX9_named_11 : decode cX9_named 11 = .ok (.iconst 1, 1) := by decide +kernel
theorem dX9_named_12 : decode cX9_named 12 = .ok (.if_icmp .ne 7, 3) := by decide +kernel
theorem dX9_named_15 : decode cX9_named 15 = .ok (.iconst 1, 1) := by decide +kernel
theorem dX9_named_16 : decode cX9_named 16 = .ok (.goto 4, 3) := by decide +kernel
theorem dX9_named_19 : decode cX9_named 19 = .ok (.iconst 0, 1) := by decide +kernel
theorem dX9_named_20 : decode cX9_named 20 = .ok (.istore 4, 2) := by decide +kernel
theorem dX9_named_22 : decode cX9_named 22 = .ok (.iconst 0, 1) := by decide +kernel
theorem dX9_named_23 : decode cX9_named 23 = .ok (.istore 5, 2) := by decide +kernel
theorem dX9_named_25 : decode cX9_named 25 = .ok (.iload 5, 2) := by decide +kernel
theorem dX9_named_27 : decode cX9_named 27 = .ok (.bipush 10, 2) := by decide +kernel
theorem dX9_named_29 : decode cX9_named 29 = .ok (.if_icmp .ge 67, 3) := by decide +kernel
theorem dX9_named_32 : decode cX9_named 32 = .ok (.iload 4, 2) := by decide +kernel
theorem dX9_named_34 : decode cX9_named 34 = .ok (.ifCond .eq 62, 3) := by decide +kernel
theorem dX9_named_37 : decode cX9_named 37 = .ok (.aload_n 0, 1) := by decide +kernel
theorem dX9_named_38 : decode cX9_named 38 = .ok (.getfield 69, 3) := by decide +kernel
theorem dX9_named_41 : decode cX9_named 41 = .ok (.bipush 10, 2) := by decide +kernel
theorem dX9_named_43 : decode cX9_named 43 = .ok (.iload_n 1, 1) := by decide +kernel
theorem dX9_named_44 : decode cX9_named 44 = .ok (.iload_n 3, 1) := by decide +kernel
theorem dX9_named_45 : decode cX9_named 45 = .ok (.iadd, 1) := by decide +kernel
theorem dX9_named_46 : decode cX9_named 46 = .ok (.imul, 1) := by decide +kernel
theorem dX9_named_47 : decode cX9_named 47 = .ok (.iload 5, 2) := by decide +kernel
theorem dX9_named_49 : decode cX9_named 49 = .ok (.iadd, 1) := by decide +kernel
theorem dX9_named_50 : decode cX9_named 50 = .ok (.iaload, 1) := by decide +kernel
theorem dX9_named_51 : decode cX9_named 51 = .ok (.aload_n 0, 1) := by decide +kernel
theorem dX9_named_52 : decode cX9_named 52 = .ok (.getfield 114, 3) := by decide +kernel
theorem dX9_named_55 : decode cX9_named 55 = .ok (.iload 5, 2) := by decide +kernel
theorem dX9_named_57 : decode cX9_named 57 = .ok (.iadd, 1) := by decide +kernel
theorem dX9_named_58 : decode cX9_named 58 = .ok (.aload_n 0, 1) := by decide +kernel
theorem dX9_named_59 : decode cX9_named 59 = .ok (.getfield 107, 3) := by decide +kernel
theorem dX9_named_62 : decode cX9_named 62 = .ok (.if_icmp .ge 17, 3) := by decide +kernel
theorem dX9_named_65 : decode cX9_named 65 = .ok (.aload_n 0, 1) := by decide +kernel
theorem dX9_named_66 : decode cX9_named 66 = .ok (.aload_n 0, 1) := by decide +kernel
theorem dX9_named_67 : decode cX9_named 67 = .ok (.getfield 114, 3) := by decide +kernel
theorem dX9_named_70 : decode cX9_named 70 = .ok (.iload 5, 2) := by decide +kernel
theorem dX9_named_72 : decode cX9_named 72 = .ok (.iadd, 1) := by decide +kernel
theorem dX9_named_73 : decode cX9_named 73 = .ok (.invokevirtual 110, 3) := by decide +kernel
theorem dX9_named_76 : decode cX9_named 76 = .ok (.goto 4, 3) := by decide +kernel
theorem dX9_named_79 : decode cX9_named 79 = .ok (.iconst 0, 1) := by decide +kernel
theorem dX9_named_80 : decode cX9_named 80 = .ok (.if_icmp .ne 7, 3) := by decide +kernel
theorem dX9_named_83 : decode cX9_named 83 = .ok (.iconst 1, 1) := by decide +kernel
theorem dX9_named_84 : decode cX9_named 84 = .ok (.goto 4, 3) := by decide +kernel
theorem dX9_named_87 : decode cX9_named 87 = .ok (.iconst 0, 1) := by decide +kernel
theorem dX9_named_88 : decode cX9_named 88 = .ok (.istore 4, 2) := by decide +kernel
theorem dX9_named_90 : decode cX9_named 90 = .ok (.iinc 5 1, 3) := by decide +kernel
theorem dX9_named_93 : decode cX9_named 93 = .ok (.goto (-68), 3) := by decide +kernel
theorem dX9_named_96 : decode cX9_named 96 = .ok (.iload 4, 2) := by decide +kernel
theorem dX9_named_98 : decode cX9_named 98 = .ok (.ifCond .eq 5, 3) := by decide +kernel
theorem dX9_named_101 : decode cX9_named 101 = .ok (.iload_n 3, 1) := by decide +kernel
theorem dX9_named_102 : decode cX9_named 102 = .ok (.ireturn, 1) := by decide +kernel
theorem dX9_named_103 : decode cX9_named 103 = .ok (.iinc 3 1, 3) := by decide +kernel
theorem dX9_named_106 : decode cX9_named 106 = .ok (.goto (-104), 3) := by decide +kernel
theorem dX9_named_109 : decode cX9_named 109 = .ok (.iconst (-1), 1) := by decide +kernel
theorem dX9_named_110 : decode cX9_named 110 = .ok (.ireturn, 1) := by decide +kernel
theorem dX9_newName_0 : decode cX9_newName 0 = .ok (.aload_n 0, 1) := by decide +kernel
theorem dX9_newName_1 : decode cX9_newName 1 = .ok (.aload_n 0, 1) := by decide +kernel
theorem dX9_newName_2 : decode cX9_newName 2 = .ok (.getfield 117, 3) := by decide +kernel
theorem dX9_newName_5 : decode cX9_newName 5 = .ok (.iconst 1, 1) := by decide +kernel
theorem dX9_newName_6 : decode cX9_newName 6 = .ok (.if_icmp .eq 7, 3) := by decide +kernel
theorem dX9_newName_9 : decode cX9_newName 9 = .ok (.iconst 1, 1) := by decide +kernel
theorem dX9_newName_10 : decode cX9_newName 10 = .ok (.goto 4, 3) := by decide +kernel
theorem dX9_newName_13 : decode cX9_newName 13 = .ok (.iconst 0, 1) := by decide +kernel
theorem dX9_newName_14 : decode cX9_newName 14 = .ok (.iconst 1, 1) := by decide +kernel
theorem dX9_newName_15 : decode cX9_newName 15 = .ok (.invokevirtual 159, 3) := by decide +kernel
theorem dX9_newName_18 : decode cX9_newName 18 = .ok (.aload_n 0, 1) := by decide +kernel
theorem dX9_newName_19 : decode cX9_newName 19 = .ok (.aload_n 0, 1) := by decide +kernel
theorem dX9_newName_20 : decode cX9_newName 20 = .ok (.iload_n 1, 1) := by decide +kernel
theorem dX9_newName_21 : decode cX9_newName 21 = .ok (.iload_n 2, 1) := by decide +kernel
theorem dX9_newName_22 : decode cX9_newName 22 = .ok (.invokevirtual 163, 3) := by decide +kernel
theorem dX9_newName_25 : decode cX9_newName 25 = .ok (.iconst (-1), 1) := by decide +kernel
theorem dX9_newName_26 : decode cX9_newName 26 = .ok (.if_icmp .eq 7, 3) := by decide +kernel
theorem dX9_newName_29 : decode cX9_newName 29 = .ok (.iconst 1, 1) := by decide +kernel
theorem dX9_newName_30 : decode cX9_newName 30 = .ok (.goto 4, 3) := by decide +kernel
theorem dX9_newName_33 : decode cX9_newName 33 = .ok (.iconst 0, 1) := by decide +kernel
theorem dX9_newName_34 : decode cX9_newName 34 = .ok (.iconst 3, 1) := by decide +kernel
theorem dX9_newName_35 : decode cX9_newName 35 = .ok (.invokevirtual 159, 3) := by decide +kernel
theorem dX9_newName_38 : decode cX9_newName 38 = .ok (.iconst 0, 1) := by decide +kernel
theorem dX9_newName_39 : decode cX9_newName 39 = .ok (.istore_n 3, 1) := by decide +kernel
theorem dX9_newName_40 : decode cX9_newName 40 = .ok (.iload_n 3, 1) := by decide +kernel
theorem dX9_newName_41 : decode cX9_newName 41 = .ok (.bipush 10, 2) := by decide +kernel
theorem dX9_newName_43 : decode cX9_newName 43 = .ok (.if_icmp .ge 56, 3) := by decide +kernel
theorem dX9_newName_46 : decode cX9_newName 46 = .ok (.aload_n 0, 1) := by decide +kernel
theorem dX9_newName_47 : decode cX9_newName 47 = .ok (.getfield 130, 3) := by decide +kernel
theorem dX9_newName_50 : decode cX9_newName 50 = .ok (.ifCond .ne 49, 3) := by decide +kernel
theorem dX9_newName_53 : decode cX9_newName 53 = .ok (.aload_n 0, 1) := by decide +kernel
theorem dX9_newName_54 : decode cX9_newName 54 = .ok (.getfield 69, 3) := by decide +kernel
theorem dX9_newName_57 : decode cX9_newName 57 = .ok (.bipush 10, 2) := by decide +kernel
theorem dX9_newName_59 : decode cX9_newName 59 = .ok (.iload_n 1, 1) := by decide +kernel
theorem dX9_newName_60 : decode cX9_newName 60 = .ok (.iload_n 2, 1) := by decide +kernel
theorem dX9_newName_61 : decode cX9_newName 61 = .ok (.iadd, 1) := by decide +kernel
theorem dX9_newName_62 : decode cX9_newName 62 = .ok (.imul, 1) := by decide +kernel
theorem dX9_newName_63 : decode cX9_newName 63 = .ok (.iload_n 3, 1) := by decide +kernel
theorem dX9_newName_64 : decode cX9_newName 64 = .ok (.iadd, 1) := by decide +kernel
theorem dX9_newName_65 : decode cX9_newName 65 = .ok (.aload_n 0, 1) := by decide +kernel
theorem dX9_newName_66 : decode cX9_newName 66 = .ok (.getfield 114, 3) := by decide +kernel
theorem dX9_newName_69 : decode cX9_newName 69 = .ok (.iload_n 3, 1) := by decide +kernel
theorem dX9_newName_70 : decode cX9_newName 70 = .ok (.iadd, 1) := by decide +kernel
theorem dX9_newName_71 : decode cX9_newName 71 = .ok (.aload_n 0, 1) := by decide +kernel
theorem dX9_newName_72 : decode cX9_newName 72 = .ok (.getfield 107, 3) := by decide +kernel
theorem dX9_newName_75 : decode cX9_newName 75 = .ok (.if_icmp .ge 16, 3) := by decide +kernel
theorem dX9_newName_78 : decode cX9_newName 78 = .ok (.aload_n 0, 1) := by decide +kernel
theorem dX9_newName_79 : decode cX9_newName 79 = .ok (.aload_n 0, 1) := by decide +kernel
theorem dX9_newName_80 : decode cX9_newName 80 = .ok (.getfield 114, 3) := by decide +kernel
theorem dX9_newName_83 : decode cX9_newName 83 = .ok (.iload_n 3, 1) := by decide +kernel
theorem dX9_newName_84 : decode cX9_newName 84 = .ok (.iadd, 1) := by decide +kernel
theorem dX9_newName_85 : decode cX9_newName 85 = .ok (.invokevirtual 110, 3) := by decide +kernel
theorem dX9_newName_88 : decode cX9_newName 88 = .ok (.goto 4, 3) := by decide +kernel
theorem dX9_newName_91 : decode cX9_newName 91 = .ok (.iconst 0, 1) := by decide +kernel
theorem dX9_newName_92 : decode cX9_newName 92 = .ok (.iastore, 1) := by decide +kernel
theorem dX9_newName_93 : decode cX9_newName 93 = .ok (.iinc 3 1, 3) := by decide +kernel
theorem dX9_newName_96 : decode cX9_newName 96 = .ok (.goto (-56), 3) := by decide +kernel
theorem dX9_newName_99 : decode cX9_newName 99 = .ok (.aload_n 0, 1) := by decide +kernel
theorem dX9_newName_100 : decode cX9_newName 100 = .ok (.invokevirtual 156, 3) := by decide +kernel
theorem dX9_newName_103 : decode cX9_newName 103 = .ok (.return_, 1) := by decide +kernel
theorem dX9_oldName_0 : decode cX9_oldName 0 = .ok (.aload_n 0, 1) := by decide +kernel
theorem dX9_oldName_1 : decode cX9_oldName 1 = .ok (.aload_n 0, 1) := by decide +kernel
theorem dX9_oldName_2 : decode cX9_oldName 2 = .ok (.getfield 117, 3) := by decide +kernel
theorem dX9_oldName_5 : decode cX9_oldName 5 = .ok (.iconst 1, 1) := by decide +kernel
theorem dX9_oldName_6 : decode cX9_oldName 6 = .ok (.if_icmp .eq 7, 3) := by decide +kernel
theorem dX9_oldName_9 : decode cX9_oldName 9 = .ok (.iconst 1, 1) := by decide +kernel
theorem dX9_oldName_10 : decode cX9_oldName 10 = .ok (.goto 4, 3) := by decide +kernel
theorem dX9_oldName_13 : decode cX9_oldName 13 = .ok (.iconst 0, 1) := by decide +kernel
theorem dX9_oldName_14 : decode cX9_oldName 14 = .ok (.iconst 1, 1) := by decide +kernel
theorem dX9_oldName_15 : decode cX9_oldName 15 = .ok (.invokevirtual 159, 3) := by decide +kernel
theorem dX9_oldName_18 : decode cX9_oldName 18 = .ok (.aload_n 0, 1) := by decide +kernel
theorem dX9_oldName_19 : decode cX9_oldName 19 = .ok (.iload_n 1, 1) := by decide +kernel
theorem dX9_oldName_20 : decode cX9_oldName 20 = .ok (.iload_n 2, 1) := by decide +kernel
theorem dX9_oldName_21 : decode cX9_oldName 21 = .ok (.invokevirtual 163, 3) := by decide +kernel
theorem dX9_oldName_24 : decode cX9_oldName 24 = .ok (.istore_n 3, 1) := by decide +kernel
theorem dX9_oldName_25 : decode cX9_oldName 25 = .ok (.aload_n 0, 1) := by decide +kernel
theorem dX9_oldName_26 : decode cX9_oldName 26 = .ok (.iload_n 3, 1) := by decide +kernel
theorem dX9_oldName_27 : decode cX9_oldName 27 = .ok (.iconst (-1), 1) := by decide +kernel
theorem dX9_oldName_28 : decode cX9_oldName 28 = .ok (.if_icmp .ne 7, 3) := by decide +kernel
theorem dX9_oldName_31 : decode cX9_oldName 31 = .ok (.iconst 1, 1) := by decide +kernel
theorem dX9_oldName_32 : decode cX9_oldName 32 = .ok (.goto 4, 3) := by decide +kernel
theorem dX9_oldName_35 : decode cX9_oldName 35 = .ok (.iconst 0, 1) := by decide +kernel
theorem dX9_oldName_36 : decode cX9_oldName 36 = .ok (.iconst 3, 1) := by decide +kernel
theorem dX9_oldName_37 : decode cX9_oldName 37 = .ok (.invokevirtual 159, 3) := by decide +kernel
theorem dX9_oldName_40 : decode cX9_oldName 40 = .ok (.aload_n 0, 1) := by decide +kernel
theorem dX9_oldName_41 : decode cX9_oldName 41 = .ok (.getfield 130, 3) := by decide +kernel
theorem dX9_oldName_44 : decode cX9_oldName 44 = .ok (.ifCond .eq 7, 3) := by decide +kernel
theorem dX9_oldName_47 : decode cX9_oldName 47 = .ok (.iconst 0, 1) := by decide +kernel
theorem dX9_oldName_48 : decode cX9_oldName 48 = .ok (.goto 4, 3) := by decide +kernel
theorem dX9_oldName_51 : decode cX9_oldName 51 = .ok (.iload_n 3, 1) := by decide +kernel
theorem dX9_oldName_52 : decode cX9_oldName 52 = .ok (.ireturn, 1) := by decide +kernel
theorem dX9_takesName_0 : decode cX9_takesName 0 = .ok (.aload_n 0, 1) := by decide +kernel
theorem dX9_takesName_1 : decode cX9_takesName 1 = .ok (.iload_n 1, 1) := by decide +kernel
theorem dX9_takesName_2 : decode cX9_takesName 2 = .ok (.iload_n 2, 1) := by decide +kernel
theorem dX9_takesName_3 : decode cX9_takesName 3 = .ok (.invokevirtual 167, 3) := by decide +kernel
theorem dX9_takesName_6 : decode cX9_takesName 6 = .ok (.istore_n 3, 1) := by decide +kernel
theorem dX9_takesName_7 : decode cX9_takesName 7 = .ok (.aload_n 0, 1) := by decide +kernel
theorem dX9_takesName_8 : decode cX9_takesName 8 = .ok (.invokevirtual 156, 3) := by decide +kernel
theorem dX9_takesName_11 : decode cX9_takesName 11 = .ok (.iload_n 3, 1) := by decide +kernel
theorem dX9_takesName_12 : decode cX9_takesName 12 = .ok (.ireturn, 1) := by decide +kernel
theorem dX9_groupLine_0 : decode cX9_groupLine 0 = .ok (.aload_n 0, 1) := by decide +kernel
theorem dX9_groupLine_1 : decode cX9_groupLine 1 = .ok (.aload_n 0, 1) := by decide +kernel
theorem dX9_groupLine_2 : decode cX9_groupLine 2 = .ok (.getfield 170, 3) := by decide +kernel
theorem dX9_groupLine_5 : decode cX9_groupLine 5 = .ok (.bipush 6, 2) := by decide +kernel
theorem dX9_groupLine_7 : decode cX9_groupLine 7 = .ok (.if_icmp .ne 7, 3) := by decide +kernel
theorem dX9_groupLine_10 : decode cX9_groupLine 10 = .ok (.iconst 1, 1) := by decide +kernel
theorem dX9_groupLine_11 : decode cX9_groupLine 11 = .ok (.goto 4, 3) := by decide +kernel
theorem dX9_groupLine_14 : decode cX9_groupLine 14 = .ok (.iconst 0, 1) := by decide +kernel
theorem dX9_groupLine_15 : decode cX9_groupLine 15 = .ok (.iconst 4, 1) := by decide +kernel
theorem dX9_groupLine_16 : decode cX9_groupLine 16 = .ok (.invokevirtual 159, 3) := by decide +kernel
theorem dX9_groupLine_19 : decode cX9_groupLine 19 = .ok (.aload_n 0, 1) := by decide +kernel
theorem dX9_groupLine_20 : decode cX9_groupLine 20 = .ok (.invokevirtual 156, 3) := by decide +kernel
theorem dX9_groupLine_23 : decode cX9_groupLine 23 = .ok (.aload_n 0, 1) := by decide +kernel
theorem dX9_groupLine_24 : decode cX9_groupLine 24 = .ok (.iconst 0, 1) := by decide +kernel
theorem dX9_groupLine_25 : decode cX9_groupLine 25 = .ok (.aload_n 0, 1) := by decide +kernel
theorem dX9_groupLine_26 : decode cX9_groupLine 26 = .ok (.getfield 170, 3) := by decide +kernel
theorem dX9_groupLine_29 : decode cX9_groupLine 29 = .ok (.invokevirtual 173, 3) := by decide +kernel
theorem dX9_groupLine_32 : decode cX9_groupLine 32 = .ok (.aload_n 0, 1) := by decide +kernel
theorem dX9_groupLine_33 : decode cX9_groupLine 33 = .ok (.ldc 177, 2) := by decide +kernel
theorem dX9_groupLine_35 : decode cX9_groupLine 35 = .ok (.invokevirtual 179, 3) := by decide +kernel
theorem dX9_groupLine_38 : decode cX9_groupLine 38 = .ok (.ifCond .eq 21, 3) := by decide +kernel
theorem dX9_groupLine_41 : decode cX9_groupLine 41 = .ok (.aload_n 0, 1) := by decide +kernel
theorem dX9_groupLine_42 : decode cX9_groupLine 42 = .ok (.invokevirtual 156, 3) := by decide +kernel
theorem dX9_groupLine_45 : decode cX9_groupLine 45 = .ok (.aload_n 0, 1) := by decide +kernel
theorem dX9_groupLine_46 : decode cX9_groupLine 46 = .ok (.aload_n 0, 1) := by decide +kernel
theorem dX9_groupLine_47 : decode cX9_groupLine 47 = .ok (.iconst 1, 1) := by decide +kernel
theorem dX9_groupLine_48 : decode cX9_groupLine 48 = .ok (.bipush 8, 2) := by decide +kernel
theorem dX9_groupLine_50 : decode cX9_groupLine 50 = .ok (.invokevirtual 183, 3) := by decide +kernel
theorem dX9_groupLine_53 : decode cX9_groupLine 53 = .ok (.invokevirtual 186, 3) := by decide +kernel
theorem dX9_groupLine_56 : decode cX9_groupLine 56 = .ok (.goto 142, 3) := by decide +kernel
theorem dX9_groupLine_59 : decode cX9_groupLine 59 = .ok (.aload_n 0, 1) := by decide +kernel
theorem dX9_groupLine_60 : decode cX9_groupLine 60 = .ok (.ldc 189, 2) := by decide +kernel
theorem dX9_groupLine_62 : decode cX9_groupLine 62 = .ok (.invokevirtual 179, 3) := by decide +kernel
theorem dX9_groupLine_65 : decode cX9_groupLine 65 = .ok (.ifCond .eq 20, 3) := by decide +kernel
theorem dX9_groupLine_68 : decode cX9_groupLine 68 = .ok (.aload_n 0, 1) := by decide +kernel
theorem dX9_groupLine_69 : decode cX9_groupLine 69 = .ok (.invokevirtual 156, 3) := by decide +kernel
theorem dX9_groupLine_72 : decode cX9_groupLine 72 = .ok (.aload_n 0, 1) := by decide +kernel
theorem dX9_groupLine_73 : decode cX9_groupLine 73 = .ok (.aload_n 0, 1) := by decide +kernel
theorem dX9_groupLine_74 : decode cX9_groupLine 74 = .ok (.iconst 3, 1) := by decide +kernel
theorem dX9_groupLine_75 : decode cX9_groupLine 75 = .ok (.iconst 4, 1) := by decide +kernel
theorem dX9_groupLine_76 : decode cX9_groupLine 76 = .ok (.invokevirtual 183, 3) := by decide +kernel
theorem dX9_groupLine_79 : decode cX9_groupLine 79 = .ok (.invokevirtual 191, 3) := by decide +kernel
theorem dX9_groupLine_82 : decode cX9_groupLine 82 = .ok (.goto 116, 3) := by decide +kernel
theorem dX9_groupLine_85 : decode cX9_groupLine 85 = .ok (.aload_n 0, 1) := by decide +kernel
theorem dX9_groupLine_86 : decode cX9_groupLine 86 = .ok (.ldc 194, 2) := by decide +kernel
theorem dX9_groupLine_88 : decode cX9_groupLine 88 = .ok (.invokevirtual 179, 3) := by decide +kernel
theorem dX9_groupLine_91 : decode cX9_groupLine 91 = .ok (.ifCond .eq 14, 3) := by decide +kernel
theorem dX9_groupLine_94 : decode cX9_groupLine 94 = .ok (.aload_n 0, 1) := by decide +kernel
theorem dX9_groupLine_95 : decode cX9_groupLine 95 = .ok (.invokevirtual 156, 3) := by decide +kernel
theorem dX9_groupLine_98 : decode cX9_groupLine 98 = .ok (.aload_n 0, 1) := by decide +kernel
theorem dX9_groupLine_99 : decode cX9_groupLine 99 = .ok (.invokevirtual 196, 3) := by decide +kernel
theorem dX9_groupLine_102 : decode cX9_groupLine 102 = .ok (.goto 96, 3) := by decide +kernel
theorem dX9_groupLine_105 : decode cX9_groupLine 105 = .ok (.aload_n 0, 1) := by decide +kernel
theorem dX9_groupLine_106 : decode cX9_groupLine 106 = .ok (.ldc 199, 2) := by decide +kernel
theorem dX9_groupLine_108 : decode cX9_groupLine 108 = .ok (.invokevirtual 179, 3) := by decide +kernel
theorem dX9_groupLine_111 : decode cX9_groupLine 111 = .ok (.ifCond .eq 82, 3) := by decide +kernel
theorem dX9_groupLine_114 : decode cX9_groupLine 114 = .ok (.aload_n 0, 1) := by decide +kernel
theorem dX9_groupLine_115 : decode cX9_groupLine 115 = .ok (.invokevirtual 156, 3) := by decide +kernel
theorem dX9_groupLine_118 : decode cX9_groupLine 118 = .ok (.aload_n 0, 1) := by decide +kernel
theorem dX9_groupLine_119 : decode cX9_groupLine 119 = .ok (.iconst 0, 1) := by decide +kernel
theorem dX9_groupLine_120 : decode cX9_groupLine 120 = .ok (.aload_n 0, 1) := by decide +kernel
theorem dX9_groupLine_121 : decode cX9_groupLine 121 = .ok (.getfield 170, 3) := by decide +kernel
theorem dX9_groupLine_124 : decode cX9_groupLine 124 = .ok (.invokevirtual 201, 3) := by decide +kernel
theorem dX9_groupLine_127 : decode cX9_groupLine 127 = .ok (.istore_n 1, 1) := by decide +kernel
theorem dX9_groupLine_128 : decode cX9_groupLine 128 = .ok (.aload_n 0, 1) := by decide +kernel
theorem dX9_groupLine_129 : decode cX9_groupLine 129 = .ok (.iconst 0, 1) := by decide +kernel
theorem dX9_groupLine_130 : decode cX9_groupLine 130 = .ok (.aload_n 0, 1) := by decide +kernel
theorem dX9_groupLine_131 : decode cX9_groupLine 131 = .ok (.getfield 170, 3) := by decide +kernel
theorem dX9_groupLine_134 : decode cX9_groupLine 134 = .ok (.invokevirtual 167, 3) := by decide +kernel
theorem dX9_groupLine_137 : decode cX9_groupLine 137 = .ok (.istore_n 2, 1) := by decide +kernel
theorem dX9_groupLine_138 : decode cX9_groupLine 138 = .ok (.aload_n 0, 1) := by decide +kernel
theorem dX9_groupLine_139 : decode cX9_groupLine 139 = .ok (.aload_n 0, 1) := by decide +kernel
theorem dX9_groupLine_140 : decode cX9_groupLine 140 = .ok (.getfield 130, 3) := by decide +kernel
theorem dX9_groupLine_143 : decode cX9_groupLine 143 = .ok (.ifCond .ne 25, 3) := by decide +kernel
theorem dX9_groupLine_146 : decode cX9_groupLine 146 = .ok (.aload_n 0, 1) := by decide +kernel
theorem dX9_groupLine_147 : decode cX9_groupLine 147 = .ok (.getfield 51, 3) := by decide +kernel
theorem dX9_groupLine_150 : decode cX9_groupLine 150 = .ok (.iload_n 1, 1) := by decide +kernel
theorem dX9_groupLine_151 : decode cX9_groupLine 151 = .ok (.iaload, 1) := by decide +kernel
theorem dX9_groupLine_152 : decode cX9_groupLine 152 = .ok (.aload_n 0, 1) := by decide +kernel
theorem dX9_groupLine_153 : decode cX9_groupLine 153 = .ok (.getfield 51, 3) := by decide +kernel
theorem dX9_groupLine_156 : decode cX9_groupLine 156 = .ok (.iload_n 2, 1) := by decide +kernel
theorem dX9_groupLine_157 : decode cX9_groupLine 157 = .ok (.iaload, 1) := by decide +kernel
theorem dX9_groupLine_158 : decode cX9_groupLine 158 = .ok (.imul, 1) := by decide +kernel
theorem dX9_groupLine_159 : decode cX9_groupLine 159 = .ok (.bipush 8, 2) := by decide +kernel
theorem dX9_groupLine_161 : decode cX9_groupLine 161 = .ok (.if_icmp .le 7, 3) := by decide +kernel
theorem dX9_groupLine_164 : decode cX9_groupLine 164 = .ok (.iconst 1, 1) := by decide +kernel
theorem dX9_groupLine_165 : decode cX9_groupLine 165 = .ok (.goto 4, 3) := by decide +kernel
theorem dX9_groupLine_168 : decode cX9_groupLine 168 = .ok (.iconst 0, 1) := by decide +kernel
theorem dX9_groupLine_169 : decode cX9_groupLine 169 = .ok (.iconst 4, 1) := by decide +kernel
theorem dX9_groupLine_170 : decode cX9_groupLine 170 = .ok (.invokevirtual 159, 3) := by decide +kernel
theorem dX9_groupLine_173 : decode cX9_groupLine 173 = .ok (.aload_n 0, 1) := by decide +kernel
theorem dX9_groupLine_174 : decode cX9_groupLine 174 = .ok (.invokevirtual 156, 3) := by decide +kernel
theorem dX9_groupLine_177 : decode cX9_groupLine 177 = .ok (.aload_n 0, 1) := by decide +kernel
theorem dX9_groupLine_178 : decode cX9_groupLine 178 = .ok (.getfield 130, 3) := by decide +kernel
theorem dX9_groupLine_181 : decode cX9_groupLine 181 = .ok (.ifCond .ne 9, 3) := by decide +kernel
theorem dX9_groupLine_184 : decode cX9_groupLine 184 = .ok (.aload_n 0, 1) := by decide +kernel
theorem dX9_groupLine_185 : decode cX9_groupLine 185 = .ok (.iload_n 1, 1) := by decide +kernel
theorem dX9_groupLine_186 : decode cX9_groupLine 186 = .ok (.iload_n 2, 1) := by decide +kernel
theorem dX9_groupLine_187 : decode cX9_groupLine 187 = .ok (.invokevirtual 204, 3) := by decide +kernel
theorem dX9_groupLine_190 : decode cX9_groupLine 190 = .ok (.goto 8, 3) := by decide +kernel
theorem dX9_groupLine_193 : decode cX9_groupLine 193 = .ok (.aload_n 0, 1) := by decide +kernel
theorem dX9_groupLine_194 : decode cX9_groupLine 194 = .ok (.iconst 1, 1) := by decide +kernel
theorem dX9_groupLine_195 : decode cX9_groupLine 195 = .ok (.invokevirtual 136, 3) := by decide +kernel
theorem dX9_groupLine_198 : decode cX9_groupLine 198 = .ok (.aload_n 0, 1) := by decide +kernel
theorem dX9_groupLine_199 : decode cX9_groupLine 199 = .ok (.dup, 1) := by decide +kernel
theorem dX9_groupLine_200 : decode cX9_groupLine 200 = .ok (.getfield 170, 3) := by decide +kernel
theorem dX9_groupLine_203 : decode cX9_groupLine 203 = .ok (.aload_n 0, 1) := by decide +kernel
theorem dX9_groupLine_204 : decode cX9_groupLine 204 = .ok (.getfield 130, 3) := by decide +kernel
theorem dX9_groupLine_207 : decode cX9_groupLine 207 = .ok (.ifCond .ne 7, 3) := by decide +kernel
theorem dX9_groupLine_210 : decode cX9_groupLine 210 = .ok (.iconst 1, 1) := by decide +kernel
theorem dX9_groupLine_211 : decode cX9_groupLine 211 = .ok (.goto 4, 3) := by decide +kernel
theorem dX9_groupLine_214 : decode cX9_groupLine 214 = .ok (.iconst 0, 1) := by decide +kernel
theorem dX9_groupLine_215 : decode cX9_groupLine 215 = .ok (.invokestatic 207, 3) := by decide +kernel
theorem dX9_groupLine_218 : decode cX9_groupLine 218 = .ok (.iadd, 1) := by decide +kernel
theorem dX9_groupLine_219 : decode cX9_groupLine 219 = .ok (.putfield 170, 3) := by decide +kernel
theorem dX9_groupLine_222 : decode cX9_groupLine 222 = .ok (.return_, 1) := by decide +kernel
theorem dX9_lays_0 : decode cX9_lays 0 = .ok (.aload_n 0, 1) := by decide +kernel
theorem dX9_lays_1 : decode cX9_lays 1 = .ok (.getfield 54, 3) := by decide +kernel
theorem dX9_lays_4 : decode cX9_lays 4 = .ok (.bipush 64, 2) := by decide +kernel
theorem dX9_lays_6 : decode cX9_lays 6 = .ok (.aload_n 0, 1) := by decide +kernel
theorem dX9_lays_7 : decode cX9_lays 7 = .ok (.getfield 170, 3) := by decide +kernel
theorem dX9_lays_10 : decode cX9_lays 10 = .ok (.imul, 1) := by decide +kernel
theorem dX9_lays_11 : decode cX9_lays 11 = .ok (.bipush 8, 2) := by decide +kernel
theorem dX9_lays_13 : decode cX9_lays 13 = .ok (.iload_n 1, 1) := by decide +kernel
theorem dX9_lays_14 : decode cX9_lays 14 = .ok (.imul, 1) := by decide +kernel
theorem dX9_lays_15 : decode cX9_lays 15 = .ok (.iadd, 1) := by decide +kernel
theorem dX9_lays_16 : decode cX9_lays 16 = .ok (.iload_n 2, 1) := by decide +kernel
theorem dX9_lays_17 : decode cX9_lays 17 = .ok (.iadd, 1) := by decide +kernel
theorem dX9_lays_18 : decode cX9_lays 18 = .ok (.iload_n 3, 1) := by decide +kernel
theorem dX9_lays_19 : decode cX9_lays 19 = .ok (.iastore, 1) := by decide +kernel
theorem dX9_lays_20 : decode cX9_lays 20 = .ok (.return_, 1) := by decide +kernel
theorem dX9_laysCyclic_0 : decode cX9_laysCyclic 0 = .ok (.aload_n 0, 1) := by decide +kernel
theorem dX9_laysCyclic_1 : decode cX9_laysCyclic 1 = .ok (.getfield 130, 3) := by decide +kernel
theorem dX9_laysCyclic_4 : decode cX9_laysCyclic 4 = .ok (.ifCond .eq 4, 3) := by decide +kernel
theorem dX9_laysCyclic_7 : decode cX9_laysCyclic 7 = .ok (.return_, 1) := by decide +kernel
theorem dX9_laysCyclic_8 : decode cX9_laysCyclic 8 = .ok (.aload_n 0, 1) := by decide +kernel
theorem dX9_laysCyclic_9 : decode cX9_laysCyclic 9 = .ok (.getfield 51, 3) := by decide +kernel
theorem dX9_laysCyclic_12 : decode cX9_laysCyclic 12 = .ok (.aload_n 0, 1) := by decide +kernel
theorem dX9_laysCyclic_13 : decode cX9_laysCyclic 13 = .ok (.getfield 170, 3) := by decide +kernel
theorem dX9_laysCyclic_16 : decode cX9_laysCyclic 16 = .ok (.iload_n 1, 1) := by decide +kernel
theorem dX9_laysCyclic_17 : decode cX9_laysCyclic 17 = .ok (.iastore, 1) := by decide +kernel
theorem dX9_laysCyclic_18 : decode cX9_laysCyclic 18 = .ok (.iconst 0, 1) := by decide +kernel
theorem dX9_laysCyclic_19 : decode cX9_laysCyclic 19 = .ok (.istore_n 2, 1) := by decide +kernel
theorem dX9_laysCyclic_20 : decode cX9_laysCyclic 20 = .ok (.iload_n 2, 1) := by decide +kernel
theorem dX9_laysCyclic_21 : decode cX9_laysCyclic 21 = .ok (.iload_n 1, 1) := by decide +kernel
theorem dX9_laysCyclic_22 : decode cX9_laysCyclic 22 = .ok (.if_icmp .ge 33, 3) := by decide +kernel
theorem dX9_laysCyclic_25 : decode cX9_laysCyclic 25 = .ok (.iconst 0, 1) := by decide +kernel
theorem dX9_laysCyclic_26 : decode cX9_laysCyclic 26 = .ok (.istore_n 3, 1) := by decide +kernel
theorem dX9_laysCyclic_27 : decode cX9_laysCyclic 27 = .ok (.iload_n 3, 1) := by decide +kernel
theorem dX9_laysCyclic_28 : decode cX9_laysCyclic 28 = .ok (.iload_n 1, 1) := by decide +kernel
theorem dX9_laysCyclic_29 : decode cX9_laysCyclic 29 = .ok (.if_icmp .ge 20, 3) := by decide +kernel
theorem dX9_laysCyclic_32 : decode cX9_laysCyclic 32 = .ok (.aload_n 0, 1) := by decide +kernel
theorem dX9_laysCyclic_33 : decode cX9_laysCyclic 33 = .ok (.iload_n 2, 1) := by decide +kernel
theorem dX9_laysCyclic_34 : decode cX9_laysCyclic 34 = .ok (.iload_n 3, 1) := by decide +kernel
theorem dX9_laysCyclic_35 : decode cX9_laysCyclic 35 = .ok (.iload_n 2, 1) := by decide +kernel
theorem dX9_laysCyclic_36 : decode cX9_laysCyclic 36 = .ok (.iload_n 3, 1) := by decide +kernel
theorem dX9_laysCyclic_37 : decode cX9_laysCyclic 37 = .ok (.iadd, 1) := by decide +kernel
theorem dX9_laysCyclic_38 : decode cX9_laysCyclic 38 = .ok (.iload_n 1, 1) := by decide +kernel
theorem dX9_laysCyclic_39 : decode cX9_laysCyclic 39 = .ok (.irem, 1) := by decide +kernel
theorem dX9_laysCyclic_40 : decode cX9_laysCyclic 40 = .ok (.invokevirtual 211, 3) := by decide +kernel
theorem dX9_laysCyclic_43 : decode cX9_laysCyclic 43 = .ok (.iinc 3 1, 3) := by decide +kernel
theorem dX9_laysCyclic_46 : decode cX9_laysCyclic 46 = .ok (.goto (-19), 3) := by decide +kernel
theorem dX9_laysCyclic_49 : decode cX9_laysCyclic 49 = .ok (.iinc 2 1, 3) := by decide +kernel
theorem dX9_laysCyclic_52 : decode cX9_laysCyclic 52 = .ok (.goto (-32), 3) := by decide +kernel
theorem dX9_laysCyclic_55 : decode cX9_laysCyclic 55 = .ok (.return_, 1) := by decide +kernel
theorem dX9_laysDihedral_0 : decode cX9_laysDihedral 0 = .ok (.aload_n 0, 1) := by decide +kernel
theorem dX9_laysDihedral_1 : decode cX9_laysDihedral 1 = .ok (.getfield 130, 3) := by decide +kernel
theorem dX9_laysDihedral_4 : decode cX9_laysDihedral 4 = .ok (.ifCond .eq 4, 3) := by decide +kernel
theorem dX9_laysDihedral_7 : decode cX9_laysDihedral 7 = .ok (.return_, 1) := by decide +kernel
theorem dX9_laysDihedral_8 : decode cX9_laysDihedral 8 = .ok (.aload_n 0, 1) := by decide +kernel
theorem dX9_laysDihedral_9 : decode cX9_laysDihedral 9 = .ok (.getfield 51, 3) := by decide +kernel
theorem dX9_laysDihedral_12 : decode cX9_laysDihedral 12 = .ok (.aload_n 0, 1) := by decide +kernel
theorem dX9_laysDihedral_13 : decode cX9_laysDihedral 13 = .ok (.getfield 170, 3) := by decide +kernel
theorem dX9_laysDihedral_16 : decode cX9_laysDihedral 16 = .ok (.iconst 2, 1) := by decide +kernel
theorem dX9_laysDihedral_17 : decode cX9_laysDihedral 17 = .ok (.iload_n 1, 1) := by decide +kernel
theorem dX9_laysDihedral_18 : decode cX9_laysDihedral 18 = .ok (.imul, 1) := by decide +kernel
theorem dX9_laysDihedral_19 : decode cX9_laysDihedral 19 = .ok (.iastore, 1) := by decide +kernel
theorem dX9_laysDihedral_20 : decode cX9_laysDihedral 20 = .ok (.iconst 0, 1) := by decide +kernel
theorem dX9_laysDihedral_21 : decode cX9_laysDihedral 21 = .ok (.istore_n 2, 1) := by decide +kernel
theorem dX9_laysDihedral_22 : decode cX9_laysDihedral 22 = .ok (.iload_n 2, 1) := by decide +kernel
theorem dX9_laysDihedral_23 : decode cX9_laysDihedral 23 = .ok (.iload_n 1, 1) := by decide +kernel
theorem dX9_laysDihedral_24 : decode cX9_laysDihedral 24 = .ok (.if_icmp .ge 82, 3) := by decide +kernel
theorem dX9_laysDihedral_27 : decode cX9_laysDihedral 27 = .ok (.iconst 0, 1) := by decide +kernel
theorem dX9_laysDihedral_28 : decode cX9_laysDihedral 28 = .ok (.istore_n 3, 1) := by decide +kernel
theorem dX9_laysDihedral_29 : decode cX9_laysDihedral 29 = .ok (.iload_n 3, 1) := by decide +kernel
theorem dX9_laysDihedral_30 : decode cX9_laysDihedral 30 = .ok (.iload_n 1, 1) := by decide +kernel
theorem dX9_laysDihedral_31 : decode cX9_laysDihedral 31 = .ok (.if_icmp .ge 69, 3) := by decide +kernel
theorem dX9_laysDihedral_34 : decode cX9_laysDihedral 34 = .ok (.aload_n 0, 1) := by decide +kernel
theorem dX9_laysDihedral_35 : decode cX9_laysDihedral 35 = .ok (.iload_n 2, 1) := by decide +kernel
theorem dX9_laysDihedral_36 : decode cX9_laysDihedral 36 = .ok (.iload_n 3, 1) := by decide +kernel
theorem dX9_laysDihedral_37 : decode cX9_laysDihedral 37 = .ok (.iload_n 2, 1) := by decide +kernel
theorem dX9_laysDihedral_38 : decode cX9_laysDihedral 38 = .ok (.iload_n 3, 1) := by decide +kernel
theorem dX9_laysDihedral_39 : decode cX9_laysDihedral 39 = .ok (.iadd, 1) := by decide +kernel
theorem dX9_laysDihedral_40 : decode cX9_laysDihedral 40 = .ok (.iload_n 1, 1) := by decide +kernel
theorem dX9_laysDihedral_41 : decode cX9_laysDihedral 41 = .ok (.irem, 1) := by decide +kernel
theorem dX9_laysDihedral_42 : decode cX9_laysDihedral 42 = .ok (.invokevirtual 211, 3) := by decide +kernel
theorem dX9_laysDihedral_45 : decode cX9_laysDihedral 45 = .ok (.aload_n 0, 1) := by decide +kernel
theorem dX9_laysDihedral_46 : decode cX9_laysDihedral 46 = .ok (.iload_n 2, 1) := by decide +kernel
theorem dX9_laysDihedral_47 : decode cX9_laysDihedral 47 = .ok (.iload_n 1, 1) := by decide +kernel
theorem dX9_laysDihedral_48 : decode cX9_laysDihedral 48 = .ok (.iload_n 3, 1) := by decide +kernel
theorem dX9_laysDihedral_49 : decode cX9_laysDihedral 49 = .ok (.iadd, 1) := by decide +kernel
theorem dX9_laysDihedral_50 : decode cX9_laysDihedral 50 = .ok (.iload_n 1, 1) := by decide +kernel
theorem dX9_laysDihedral_51 : decode cX9_laysDihedral 51 = .ok (.iload_n 2, 1) := by decide +kernel
theorem dX9_laysDihedral_52 : decode cX9_laysDihedral 52 = .ok (.iload_n 3, 1) := by decide +kernel
theorem dX9_laysDihedral_53 : decode cX9_laysDihedral 53 = .ok (.iadd, 1) := by decide +kernel
theorem dX9_laysDihedral_54 : decode cX9_laysDihedral 54 = .ok (.iload_n 1, 1) := by decide +kernel
theorem dX9_laysDihedral_55 : decode cX9_laysDihedral 55 = .ok (.irem, 1) := by decide +kernel
theorem dX9_laysDihedral_56 : decode cX9_laysDihedral 56 = .ok (.iadd, 1) := by decide +kernel
theorem dX9_laysDihedral_57 : decode cX9_laysDihedral 57 = .ok (.invokevirtual 211, 3) := by decide +kernel
theorem dX9_laysDihedral_60 : decode cX9_laysDihedral 60 = .ok (.aload_n 0, 1) := by decide +kernel
theorem dX9_laysDihedral_61 : decode cX9_laysDihedral 61 = .ok (.iload_n 1, 1) := by decide +kernel
theorem dX9_laysDihedral_62 : decode cX9_laysDihedral 62 = .ok (.iload_n 2, 1) := by decide +kernel
theorem dX9_laysDihedral_63 : decode cX9_laysDihedral 63 = .ok (.iadd, 1) := by decide +kernel
theorem dX9_laysDihedral_64 : decode cX9_laysDihedral 64 = .ok (.iload_n 3, 1) := by decide +kernel
theorem dX9_laysDihedral_65 : decode cX9_laysDihedral 65 = .ok (.iload_n 1, 1) := by decide +kernel
theorem dX9_laysDihedral_66 : decode cX9_laysDihedral 66 = .ok (.iload_n 1, 1) := by decide +kernel
theorem dX9_laysDihedral_67 : decode cX9_laysDihedral 67 = .ok (.iload_n 2, 1) := by decide +kernel
theorem dX9_laysDihedral_68 : decode cX9_laysDihedral 68 = .ok (.iadd, 1) := by decide +kernel
theorem dX9_laysDihedral_69 : decode cX9_laysDihedral 69 = .ok (.iload_n 3, 1) := by decide +kernel
theorem dX9_laysDihedral_70 : decode cX9_laysDihedral 70 = .ok (.isub, 1) := by decide +kernel
theorem dX9_laysDihedral_71 : decode cX9_laysDihedral 71 = .ok (.iload_n 1, 1) := by decide +kernel
theorem dX9_laysDihedral_72 : decode cX9_laysDihedral 72 = .ok (.irem, 1) := by decide +kernel
theorem dX9_laysDihedral_73 : decode cX9_laysDihedral 73 = .ok (.iadd, 1) := by decide +kernel
theorem dX9_laysDihedral_74 : decode cX9_laysDihedral 74 = .ok (.invokevirtual 211, 3) := by decide +kernel
theorem dX9_laysDihedral_77 : decode cX9_laysDihedral 77 = .ok (.aload_n 0, 1) := by decide +kernel
theorem dX9_laysDihedral_78 : decode cX9_laysDihedral 78 = .ok (.iload_n 1, 1) := by decide +kernel
theorem dX9_laysDihedral_79 : decode cX9_laysDihedral 79 = .ok (.iload_n 2, 1) := by decide +kernel
theorem dX9_laysDihedral_80 : decode cX9_laysDihedral 80 = .ok (.iadd, 1) := by decide +kernel
theorem dX9_laysDihedral_81 : decode cX9_laysDihedral 81 = .ok (.iload_n 1, 1) := by decide +kernel
theorem dX9_laysDihedral_82 : decode cX9_laysDihedral 82 = .ok (.iload_n 3, 1) := by decide +kernel
theorem dX9_laysDihedral_83 : decode cX9_laysDihedral 83 = .ok (.iadd, 1) := by decide +kernel
theorem dX9_laysDihedral_84 : decode cX9_laysDihedral 84 = .ok (.iload_n 1, 1) := by decide +kernel
theorem dX9_laysDihedral_85 : decode cX9_laysDihedral 85 = .ok (.iload_n 2, 1) := by decide +kernel
theorem dX9_laysDihedral_86 : decode cX9_laysDihedral 86 = .ok (.iadd, 1) := by decide +kernel
theorem dX9_laysDihedral_87 : decode cX9_laysDihedral 87 = .ok (.iload_n 3, 1) := by decide +kernel
theorem dX9_laysDihedral_88 : decode cX9_laysDihedral 88 = .ok (.isub, 1) := by decide +kernel
theorem dX9_laysDihedral_89 : decode cX9_laysDihedral 89 = .ok (.iload_n 1, 1) := by decide +kernel
theorem dX9_laysDihedral_90 : decode cX9_laysDihedral 90 = .ok (.irem, 1) := by decide +kernel
theorem dX9_laysDihedral_91 : decode cX9_laysDihedral 91 = .ok (.invokevirtual 211, 3) := by decide +kernel
theorem dX9_laysDihedral_94 : decode cX9_laysDihedral 94 = .ok (.iinc 3 1, 3) := by decide +kernel
theorem dX9_laysDihedral_97 : decode cX9_laysDihedral 97 = .ok (.goto (-68), 3) := by decide +kernel
theorem dX9_laysDihedral_100 : decode cX9_laysDihedral 100 = .ok (.iinc 2 1, 3) := by decide +kernel
theorem dX9_laysDihedral_103 : decode cX9_laysDihedral 103 = .ok (.goto (-81), 3) := by decide +kernel
theorem dX9_laysDihedral_106 : decode cX9_laysDihedral 106 = .ok (.return_, 1) := by decide +kernel
theorem dX9_ofUnits_0 : decode cX9_ofUnits 0 = .ok (.iload_n 0, 1) := by decide +kernel
theorem dX9_ofUnits_1 : decode cX9_ofUnits 1 = .ok (.ifCond .eq 7, 3) := by decide +kernel
theorem dX9_ofUnits_4 : decode cX9_ofUnits 4 = .ok (.iload_n 1, 1) := by decide +kernel
theorem dX9_ofUnits_5 : decode cX9_ofUnits 5 = .ok (.ifCond .ne 7, 3) := by decide +kernel
theorem dX9_ofUnits_8 : decode cX9_ofUnits 8 = .ok (.iload_n 0, 1) := by decide +kernel
theorem dX9_ofUnits_9 : decode cX9_ofUnits 9 = .ok (.iload_n 1, 1) := by decide +kernel
theorem dX9_ofUnits_10 : decode cX9_ofUnits 10 = .ok (.iadd, 1) := by decide +kernel
theorem dX9_ofUnits_11 : decode cX9_ofUnits 11 = .ok (.ireturn, 1) := by decide +kernel
theorem dX9_ofUnits_12 : decode cX9_ofUnits 12 = .ok (.iload_n 0, 1) := by decide +kernel
theorem dX9_ofUnits_13 : decode cX9_ofUnits 13 = .ok (.iload_n 1, 1) := by decide +kernel
theorem dX9_ofUnits_14 : decode cX9_ofUnits 14 = .ok (.if_icmp .ne 5, 3) := by decide +kernel
theorem dX9_ofUnits_17 : decode cX9_ofUnits 17 = .ok (.iconst 4, 1) := by decide +kernel
theorem dX9_ofUnits_18 : decode cX9_ofUnits 18 = .ok (.ireturn, 1) := by decide +kernel
theorem dX9_ofUnits_19 : decode cX9_ofUnits 19 = .ok (.bipush 6, 2) := by decide +kernel
theorem dX9_ofUnits_21 : decode cX9_ofUnits 21 = .ok (.iload_n 0, 1) := by decide +kernel
theorem dX9_ofUnits_22 : decode cX9_ofUnits 22 = .ok (.isub, 1) := by decide +kernel
theorem dX9_ofUnits_23 : decode cX9_ofUnits 23 = .ok (.iload_n 1, 1) := by decide +kernel
theorem dX9_ofUnits_24 : decode cX9_ofUnits 24 = .ok (.isub, 1) := by decide +kernel
theorem dX9_ofUnits_25 : decode cX9_ofUnits 25 = .ok (.istore_n 2, 1) := by decide +kernel
theorem dX9_ofUnits_26 : decode cX9_ofUnits 26 = .ok (.iload_n 1, 1) := by decide +kernel
theorem dX9_ofUnits_27 : decode cX9_ofUnits 27 = .ok (.iload_n 0, 1) := by decide +kernel
theorem dX9_ofUnits_28 : decode cX9_ofUnits 28 = .ok (.iconst 3, 1) := by decide +kernel
theorem dX9_ofUnits_29 : decode cX9_ofUnits 29 = .ok (.irem, 1) := by decide +kernel
theorem dX9_ofUnits_30 : decode cX9_ofUnits 30 = .ok (.iconst 1, 1) := by decide +kernel
theorem dX9_ofUnits_31 : decode cX9_ofUnits 31 = .ok (.iadd, 1) := by decide +kernel
theorem dX9_ofUnits_32 : decode cX9_ofUnits 32 = .ok (.if_icmp .ne 7, 3) := by decide +kernel
theorem dX9_ofUnits_35 : decode cX9_ofUnits 35 = .ok (.iload_n 2, 1) := by decide +kernel
theorem dX9_ofUnits_36 : decode cX9_ofUnits 36 = .ok (.goto 6, 3) := by decide +kernel
theorem dX9_ofUnits_39 : decode cX9_ofUnits 39 = .ok (.iload_n 2, 1) := by decide +kernel
theorem dX9_ofUnits_40 : decode cX9_ofUnits 40 = .ok (.iconst 4, 1) := by decide +kernel
theorem dX9_ofUnits_41 : decode cX9_ofUnits 41 = .ok (.iadd, 1) := by decide +kernel
theorem dX9_ofUnits_42 : decode cX9_ofUnits 42 = .ok (.ireturn, 1) := by decide +kernel
theorem dX9_laysQuaternion_0 : decode cX9_laysQuaternion 0 = .ok (.aload_n 0, 1) := by decide +kernel
theorem dX9_laysQuaternion_1 : decode cX9_laysQuaternion 1 = .ok (.getfield 130, 3) := by decide +kernel
theorem dX9_laysQuaternion_4 : decode cX9_laysQuaternion 4 = .ok (.ifCond .eq 4, 3) := by decide +kernel
theorem dX9_laysQuaternion_7 : decode cX9_laysQuaternion 7 = .ok (.return_, 1) := by decide +kernel
theorem dX9_laysQuaternion_8 : decode cX9_laysQuaternion 8 = .ok (.aload_n 0, 1) := by decide +kernel
theorem dX9_laysQuaternion_9 : decode cX9_laysQuaternion 9 = .ok (.getfield 51, 3) := by decide +kernel
theorem dX9_laysQuaternion_12 : decode cX9_laysQuaternion 12 = .ok (.aload_n 0, 1) := by decide +kernel
theorem dX9_laysQuaternion_13 : decode cX9_laysQuaternion 13 = .ok (.getfield 170, 3) := by decide +kernel
theorem dX9_laysQuaternion_16 : decode cX9_laysQuaternion 16 = .ok (.bipush 8, 2) := by decide +kernel
theorem dX9_laysQuaternion_18 : decode cX9_laysQuaternion 18 = .ok (.iastore, 1) := by decide +kernel
theorem dX9_laysQuaternion_19 : decode cX9_laysQuaternion 19 = .ok (.iconst 0, 1) := by decide +kernel
theorem dX9_laysQuaternion_20 : decode cX9_laysQuaternion 20 = .ok (.istore_n 1, 1) := by decide +kernel
theorem dX9_laysQuaternion_21 : decode cX9_laysQuaternion 21 = .ok (.iload_n 1, 1) := by decide +kernel
theorem dX9_laysQuaternion_22 : decode cX9_laysQuaternion 22 = .ok (.bipush 8, 2) := by decide +kernel
theorem dX9_laysQuaternion_24 : decode cX9_laysQuaternion 24 = .ok (.if_icmp .ge 53, 3) := by decide +kernel
theorem dX9_laysQuaternion_27 : decode cX9_laysQuaternion 27 = .ok (.iconst 0, 1) := by decide +kernel
theorem dX9_laysQuaternion_28 : decode cX9_laysQuaternion 28 = .ok (.istore_n 2, 1) := by decide +kernel
theorem dX9_laysQuaternion_29 : decode cX9_laysQuaternion 29 = .ok (.iload_n 2, 1) := by decide +kernel
theorem dX9_laysQuaternion_30 : decode cX9_laysQuaternion 30 = .ok (.bipush 8, 2) := by decide +kernel
theorem dX9_laysQuaternion_32 : decode cX9_laysQuaternion 32 = .ok (.if_icmp .ge 39, 3) := by decide +kernel
theorem dX9_laysQuaternion_35 : decode cX9_laysQuaternion 35 = .ok (.aload_n 0, 1) := by decide +kernel
theorem dX9_laysQuaternion_36 : decode cX9_laysQuaternion 36 = .ok (.iload_n 1, 1) := by decide +kernel
theorem dX9_laysQuaternion_37 : decode cX9_laysQuaternion 37 = .ok (.iload_n 2, 1) := by decide +kernel
theorem dX9_laysQuaternion_38 : decode cX9_laysQuaternion 38 = .ok (.iload_n 1, 1) := by decide +kernel
theorem dX9_laysQuaternion_39 : decode cX9_laysQuaternion 39 = .ok (.iconst 4, 1) := by decide +kernel
theorem dX9_laysQuaternion_40 : decode cX9_laysQuaternion 40 = .ok (.irem, 1) := by decide +kernel
theorem dX9_laysQuaternion_41 : decode cX9_laysQuaternion 41 = .ok (.iload_n 2, 1) := by decide +kernel
theorem dX9_laysQuaternion_42 : decode cX9_laysQuaternion 42 = .ok (.iconst 4, 1) := by decide +kernel
theorem dX9_laysQuaternion_43 : decode cX9_laysQuaternion 43 = .ok (.irem, 1) := by decide +kernel
theorem dX9_laysQuaternion_44 : decode cX9_laysQuaternion 44 = .ok (.invokestatic 215, 3) := by decide +kernel
theorem dX9_laysQuaternion_47 : decode cX9_laysQuaternion 47 = .ok (.iload_n 1, 1) := by decide +kernel
theorem dX9_laysQuaternion_48 : decode cX9_laysQuaternion 48 = .ok (.iconst 4, 1) := by decide +kernel
theorem dX9_laysQuaternion_49 : decode cX9_laysQuaternion 49 = .ok (.idiv, 1) := by decide +kernel
theorem dX9_laysQuaternion_50 : decode cX9_laysQuaternion 50 = .ok (.iconst 4, 1) := by decide +kernel
theorem dX9_laysQuaternion_51 : decode cX9_laysQuaternion 51 = .ok (.imul, 1) := by decide +kernel
theorem dX9_laysQuaternion_52 : decode cX9_laysQuaternion 52 = .ok (.iadd, 1) := by decide +kernel
theorem dX9_laysQuaternion_53 : decode cX9_laysQuaternion 53 = .ok (.iload_n 2, 1) := by decide +kernel
theorem dX9_laysQuaternion_54 : decode cX9_laysQuaternion 54 = .ok (.iconst 4, 1) := by decide +kernel
theorem dX9_laysQuaternion_55 : decode cX9_laysQuaternion 55 = .ok (.idiv, 1) := by decide +kernel
theorem dX9_laysQuaternion_56 : decode cX9_laysQuaternion 56 = .ok (.iconst 4, 1) := by decide +kernel
theorem dX9_laysQuaternion_57 : decode cX9_laysQuaternion 57 = .ok (.imul, 1) := by decide +kernel
theorem dX9_laysQuaternion_58 : decode cX9_laysQuaternion 58 = .ok (.iadd, 1) := by decide +kernel
theorem dX9_laysQuaternion_59 : decode cX9_laysQuaternion 59 = .ok (.bipush 8, 2) := by decide +kernel
theorem dX9_laysQuaternion_61 : decode cX9_laysQuaternion 61 = .ok (.irem, 1) := by decide +kernel
theorem dX9_laysQuaternion_62 : decode cX9_laysQuaternion 62 = .ok (.invokevirtual 211, 3) := by decide +kernel
theorem dX9_laysQuaternion_65 : decode cX9_laysQuaternion 65 = .ok (.iinc 2 1, 3) := by decide +kernel
theorem dX9_laysQuaternion_68 : decode cX9_laysQuaternion 68 = .ok (.goto (-39), 3) := by decide +kernel
theorem dX9_laysQuaternion_71 : decode cX9_laysQuaternion 71 = .ok (.iinc 1 1, 3) := by decide +kernel
theorem dX9_laysQuaternion_74 : decode cX9_laysQuaternion 74 = .ok (.goto (-53), 3) := by decide +kernel
theorem dX9_laysQuaternion_77 : decode cX9_laysQuaternion 77 = .ok (.return_, 1) := by decide +kernel
theorem dX9_laysProduct_0 : decode cX9_laysProduct 0 = .ok (.aload_n 0, 1) := by decide +kernel
theorem dX9_laysProduct_1 : decode cX9_laysProduct 1 = .ok (.getfield 51, 3) := by decide +kernel
theorem dX9_laysProduct_4 : decode cX9_laysProduct 4 = .ok (.iload_n 2, 1) := by decide +kernel
theorem dX9_laysProduct_5 : decode cX9_laysProduct 5 = .ok (.iaload, 1) := by decide +kernel
theorem dX9_laysProduct_6 : decode cX9_laysProduct 6 = .ok (.istore_n 3, 1) := by decide +kernel
theorem dX9_laysProduct_7 : decode cX9_laysProduct 7 = .ok (.aload_n 0, 1) := by decide +kernel
theorem dX9_laysProduct_8 : decode cX9_laysProduct 8 = .ok (.getfield 51, 3) := by decide +kernel
theorem dX9_laysProduct_11 : decode cX9_laysProduct 11 = .ok (.aload_n 0, 1) := by decide +kernel
theorem dX9_laysProduct_12 : decode cX9_laysProduct 12 = .ok (.getfield 170, 3) := by decide +kernel
theorem dX9_laysProduct_15 : decode cX9_laysProduct 15 = .ok (.aload_n 0, 1) := by decide +kernel
theorem dX9_laysProduct_16 : decode cX9_laysProduct 16 = .ok (.getfield 51, 3) := by decide +kernel
theorem dX9_laysProduct_19 : decode cX9_laysProduct 19 = .ok (.iload_n 1, 1) := by decide +kernel
theorem dX9_laysProduct_20 : decode cX9_laysProduct 20 = .ok (.iaload, 1) := by decide +kernel
theorem dX9_laysProduct_21 : decode cX9_laysProduct 21 = .ok (.iload_n 3, 1) := by decide +kernel
theorem dX9_laysProduct_22 : decode cX9_laysProduct 22 = .ok (.imul, 1) := by decide +kernel
theorem dX9_laysProduct_23 : decode cX9_laysProduct 23 = .ok (.iastore, 1) := by decide +kernel
theorem dX9_laysProduct_24 : decode cX9_laysProduct 24 = .ok (.iconst 0, 1) := by decide +kernel
theorem dX9_laysProduct_25 : decode cX9_laysProduct 25 = .ok (.istore 4, 2) := by decide +kernel
theorem dX9_laysProduct_27 : decode cX9_laysProduct 27 = .ok (.iload 4, 2) := by decide +kernel
theorem dX9_laysProduct_29 : decode cX9_laysProduct 29 = .ok (.aload_n 0, 1) := by decide +kernel
theorem dX9_laysProduct_30 : decode cX9_laysProduct 30 = .ok (.getfield 51, 3) := by decide +kernel
theorem dX9_laysProduct_33 : decode cX9_laysProduct 33 = .ok (.iload_n 1, 1) := by decide +kernel
theorem dX9_laysProduct_34 : decode cX9_laysProduct 34 = .ok (.iaload, 1) := by decide +kernel
theorem dX9_laysProduct_35 : decode cX9_laysProduct 35 = .ok (.iload_n 3, 1) := by decide +kernel
theorem dX9_laysProduct_36 : decode cX9_laysProduct 36 = .ok (.imul, 1) := by decide +kernel
theorem dX9_laysProduct_37 : decode cX9_laysProduct 37 = .ok (.if_icmp .ge 86, 3) := by decide +kernel
theorem dX9_laysProduct_40 : decode cX9_laysProduct 40 = .ok (.iconst 0, 1) := by decide +kernel
theorem dX9_laysProduct_41 : decode cX9_laysProduct 41 = .ok (.istore 5, 2) := by decide +kernel
theorem dX9_laysProduct_43 : decode cX9_laysProduct 43 = .ok (.iload 5, 2) := by decide +kernel
theorem dX9_laysProduct_45 : decode cX9_laysProduct 45 = .ok (.aload_n 0, 1) := by decide +kernel
theorem dX9_laysProduct_46 : decode cX9_laysProduct 46 = .ok (.getfield 51, 3) := by decide +kernel
theorem dX9_laysProduct_49 : decode cX9_laysProduct 49 = .ok (.iload_n 1, 1) := by decide +kernel
theorem dX9_laysProduct_50 : decode cX9_laysProduct 50 = .ok (.iaload, 1) := by decide +kernel
theorem dX9_laysProduct_51 : decode cX9_laysProduct 51 = .ok (.iload_n 3, 1) := by decide +kernel
theorem dX9_laysProduct_52 : decode cX9_laysProduct 52 = .ok (.imul, 1) := by decide +kernel
theorem dX9_laysProduct_53 : decode cX9_laysProduct 53 = .ok (.if_icmp .ge 64, 3) := by decide +kernel
theorem dX9_laysProduct_56 : decode cX9_laysProduct 56 = .ok (.aload_n 0, 1) := by decide +kernel
theorem dX9_laysProduct_57 : decode cX9_laysProduct 57 = .ok (.iload 4, 2) := by decide +kernel
theorem dX9_laysProduct_59 : decode cX9_laysProduct 59 = .ok (.iload 5, 2) := by decide +kernel
theorem dX9_laysProduct_61 : decode cX9_laysProduct 61 = .ok (.aload_n 0, 1) := by decide +kernel
theorem dX9_laysProduct_62 : decode cX9_laysProduct 62 = .ok (.getfield 54, 3) := by decide +kernel
theorem dX9_laysProduct_65 : decode cX9_laysProduct 65 = .ok (.bipush 64, 2) := by decide +kernel
theorem dX9_laysProduct_67 : decode cX9_laysProduct 67 = .ok (.iload_n 1, 1) := by decide +kernel
theorem dX9_laysProduct_68 : decode cX9_laysProduct 68 = .ok (.imul, 1) := by decide +kernel
theorem dX9_laysProduct_69 : decode cX9_laysProduct 69 = .ok (.bipush 8, 2) := by decide +kernel
theorem dX9_laysProduct_71 : decode cX9_laysProduct 71 = .ok (.iload 4, 2) := by decide +kernel
theorem dX9_laysProduct_73 : decode cX9_laysProduct 73 = .ok (.iload_n 3, 1) := by decide +kernel
theorem dX9_laysProduct_74 : decode cX9_laysProduct 74 = .ok (.idiv, 1) := by decide +kernel
theorem dX9_laysProduct_75 : decode cX9_laysProduct 75 = .ok (.imul, 1) := by decide +kernel
theorem dX9_laysProduct_76 : decode cX9_laysProduct 76 = .ok (.iadd, 1) := by decide +kernel
theorem dX9_laysProduct_77 : decode cX9_laysProduct 77 = .ok (.iload 5, 2) := by decide +kernel
theorem dX9_laysProduct_79 : decode cX9_laysProduct 79 = .ok (.iload_n 3, 1) := by decide +kernel
theorem dX9_laysProduct_80 : decode cX9_laysProduct 80 = .ok (.idiv, 1) := by decide +kernel
theorem dX9_laysProduct_81 : decode cX9_laysProduct 81 = .ok (.iadd, 1) := by decide +kernel
theorem dX9_laysProduct_82 : decode cX9_laysProduct 82 = .ok (.iaload, 1) := by decide +kernel
theorem dX9_laysProduct_83 : decode cX9_laysProduct 83 = .ok (.iload_n 3, 1) := by decide +kernel
theorem dX9_laysProduct_84 : decode cX9_laysProduct 84 = .ok (.imul, 1) := by decide +kernel
theorem dX9_laysProduct_85 : decode cX9_laysProduct 85 = .ok (.aload_n 0, 1) := by decide +kernel
theorem dX9_laysProduct_86 : decode cX9_laysProduct 86 = .ok (.getfield 54, 3) := by decide +kernel
theorem dX9_laysProduct_89 : decode cX9_laysProduct 89 = .ok (.bipush 64, 2) := by decide +kernel
theorem dX9_laysProduct_91 : decode cX9_laysProduct 91 = .ok (.iload_n 2, 1) := by decide +kernel
theorem dX9_laysProduct_92 : decode cX9_laysProduct 92 = .ok (.imul, 1) := by decide +kernel
theorem dX9_laysProduct_93 : decode cX9_laysProduct 93 = .ok (.bipush 8, 2) := by decide +kernel
theorem dX9_laysProduct_95 : decode cX9_laysProduct 95 = .ok (.iload 4, 2) := by decide +kernel
theorem dX9_laysProduct_97 : decode cX9_laysProduct 97 = .ok (.iload_n 3, 1) := by decide +kernel
theorem dX9_laysProduct_98 : decode cX9_laysProduct 98 = .ok (.irem, 1) := by decide +kernel
theorem dX9_laysProduct_99 : decode cX9_laysProduct 99 = .ok (.imul, 1) := by decide +kernel
theorem dX9_laysProduct_100 : decode cX9_laysProduct 100 = .ok (.iadd, 1) := by decide +kernel
theorem dX9_laysProduct_101 : decode cX9_laysProduct 101 = .ok (.iload 5, 2) := by decide +kernel
theorem dX9_laysProduct_103 : decode cX9_laysProduct 103 = .ok (.iload_n 3, 1) := by decide +kernel
theorem dX9_laysProduct_104 : decode cX9_laysProduct 104 = .ok (.irem, 1) := by decide +kernel
theorem dX9_laysProduct_105 : decode cX9_laysProduct 105 = .ok (.iadd, 1) := by decide +kernel
theorem dX9_laysProduct_106 : decode cX9_laysProduct 106 = .ok (.iaload, 1) := by decide +kernel
theorem dX9_laysProduct_107 : decode cX9_laysProduct 107 = .ok (.iadd, 1) := by decide +kernel
theorem dX9_laysProduct_108 : decode cX9_laysProduct 108 = .ok (.invokevirtual 211, 3) := by decide +kernel
theorem dX9_laysProduct_111 : decode cX9_laysProduct 111 = .ok (.iinc 5 1, 3) := by decide +kernel
theorem dX9_laysProduct_114 : decode cX9_laysProduct 114 = .ok (.goto (-71), 3) := by decide +kernel
theorem dX9_laysProduct_117 : decode cX9_laysProduct 117 = .ok (.iinc 4 1, 3) := by decide +kernel
theorem dX9_laysProduct_120 : decode cX9_laysProduct 120 = .ok (.goto (-93), 3) := by decide +kernel
theorem dX9_laysProduct_123 : decode cX9_laysProduct 123 = .ok (.return_, 1) := by decide +kernel
theorem dX9_moduleLine_0 : decode cX9_moduleLine 0 = .ok (.aload_n 0, 1) := by decide +kernel
theorem dX9_moduleLine_1 : decode cX9_moduleLine 1 = .ok (.getfield 218, 3) := by decide +kernel
theorem dX9_moduleLine_4 : decode cX9_moduleLine 4 = .ok (.istore_n 1, 1) := by decide +kernel
theorem dX9_moduleLine_5 : decode cX9_moduleLine 5 = .ok (.aload_n 0, 1) := by decide +kernel
theorem dX9_moduleLine_6 : decode cX9_moduleLine 6 = .ok (.iload_n 1, 1) := by decide +kernel
theorem dX9_moduleLine_7 : decode cX9_moduleLine 7 = .ok (.bipush 6, 2) := by decide +kernel
theorem dX9_moduleLine_9 : decode cX9_moduleLine 9 = .ok (.if_icmp .ne 7, 3) := by decide +kernel
theorem dX9_moduleLine_12 : decode cX9_moduleLine 12 = .ok (.iconst 1, 1) := by decide +kernel
theorem dX9_moduleLine_13 : decode cX9_moduleLine 13 = .ok (.goto 4, 3) := by decide +kernel
theorem dX9_moduleLine_16 : decode cX9_moduleLine 16 = .ok (.iconst 0, 1) := by decide +kernel
theorem dX9_moduleLine_17 : decode cX9_moduleLine 17 = .ok (.iconst 4, 1) := by decide +kernel
theorem dX9_moduleLine_18 : decode cX9_moduleLine 18 = .ok (.invokevirtual 159, 3) := by decide +kernel
theorem dX9_moduleLine_21 : decode cX9_moduleLine 21 = .ok (.aload_n 0, 1) := by decide +kernel
theorem dX9_moduleLine_22 : decode cX9_moduleLine 22 = .ok (.invokevirtual 156, 3) := by decide +kernel
theorem dX9_moduleLine_25 : decode cX9_moduleLine 25 = .ok (.aload_n 0, 1) := by decide +kernel
theorem dX9_moduleLine_26 : decode cX9_moduleLine 26 = .ok (.bipush 6, 2) := by decide +kernel
theorem dX9_moduleLine_28 : decode cX9_moduleLine 28 = .ok (.iload_n 1, 1) := by decide +kernel
theorem dX9_moduleLine_29 : decode cX9_moduleLine 29 = .ok (.invokevirtual 173, 3) := by decide +kernel
theorem dX9_moduleLine_32 : decode cX9_moduleLine 32 = .ok (.aload_n 0, 1) := by decide +kernel
theorem dX9_moduleLine_33 : decode cX9_moduleLine 33 = .ok (.iconst 0, 1) := by decide +kernel
theorem dX9_moduleLine_34 : decode cX9_moduleLine 34 = .ok (.aload_n 0, 1) := by decide +kernel
theorem dX9_moduleLine_35 : decode cX9_moduleLine 35 = .ok (.getfield 170, 3) := by decide +kernel
theorem dX9_moduleLine_38 : decode cX9_moduleLine 38 = .ok (.invokevirtual 201, 3) := by decide +kernel
theorem dX9_moduleLine_41 : decode cX9_moduleLine 41 = .ok (.istore_n 2, 1) := by decide +kernel
theorem dX9_moduleLine_42 : decode cX9_moduleLine 42 = .ok (.aload_n 0, 1) := by decide +kernel
theorem dX9_moduleLine_43 : decode cX9_moduleLine 43 = .ok (.iconst 0, 1) := by decide +kernel
theorem dX9_moduleLine_44 : decode cX9_moduleLine 44 = .ok (.aload_n 0, 1) := by decide +kernel
theorem dX9_moduleLine_45 : decode cX9_moduleLine 45 = .ok (.getfield 170, 3) := by decide +kernel
theorem dX9_moduleLine_48 : decode cX9_moduleLine 48 = .ok (.invokevirtual 201, 3) := by decide +kernel
theorem dX9_moduleLine_51 : decode cX9_moduleLine 51 = .ok (.istore_n 3, 1) := by decide +kernel
theorem dX9_moduleLine_52 : decode cX9_moduleLine 52 = .ok (.iconst 0, 1) := by decide +kernel
theorem dX9_moduleLine_53 : decode cX9_moduleLine 53 = .ok (.istore 4, 2) := by decide +kernel
theorem dX9_moduleLine_55 : decode cX9_moduleLine 55 = .ok (.aload_n 0, 1) := by decide +kernel
theorem dX9_moduleLine_56 : decode cX9_moduleLine 56 = .ok (.getfield 130, 3) := by decide +kernel
theorem dX9_moduleLine_59 : decode cX9_moduleLine 59 = .ok (.ifCond .ne 47, 3) := by decide +kernel
theorem dX9_moduleLine_62 : decode cX9_moduleLine 62 = .ok (.iload 4, 2) := by decide +kernel
theorem dX9_moduleLine_64 : decode cX9_moduleLine 64 = .ok (.aload_n 0, 1) := by decide +kernel
theorem dX9_moduleLine_65 : decode cX9_moduleLine 65 = .ok (.getfield 51, 3) := by decide +kernel
theorem dX9_moduleLine_68 : decode cX9_moduleLine 68 = .ok (.iload_n 2, 1) := by decide +kernel
theorem dX9_moduleLine_69 : decode cX9_moduleLine 69 = .ok (.iaload, 1) := by decide +kernel
theorem dX9_moduleLine_70 : decode cX9_moduleLine 70 = .ok (.if_icmp .ge 36, 3) := by decide +kernel
theorem dX9_moduleLine_73 : decode cX9_moduleLine 73 = .ok (.aload_n 0, 1) := by decide +kernel
theorem dX9_moduleLine_74 : decode cX9_moduleLine 74 = .ok (.getfield 48, 3) := by decide +kernel
theorem dX9_moduleLine_77 : decode cX9_moduleLine 77 = .ok (.iconst 0, 1) := by decide +kernel
theorem dX9_moduleLine_78 : decode cX9_moduleLine 78 = .ok (.bipush 8, 2) := by decide +kernel
theorem dX9_moduleLine_80 : decode cX9_moduleLine 80 = .ok (.iload_n 1, 1) := by decide +kernel
theorem dX9_moduleLine_81 : decode cX9_moduleLine 81 = .ok (.imul, 1) := by decide +kernel
theorem dX9_moduleLine_82 : decode cX9_moduleLine 82 = .ok (.iadd, 1) := by decide +kernel
theorem dX9_moduleLine_83 : decode cX9_moduleLine 83 = .ok (.iload 4, 2) := by decide +kernel
theorem dX9_moduleLine_85 : decode cX9_moduleLine 85 = .ok (.iadd, 1) := by decide +kernel
theorem dX9_moduleLine_86 : decode cX9_moduleLine 86 = .ok (.aload_n 0, 1) := by decide +kernel
theorem dX9_moduleLine_87 : decode cX9_moduleLine 87 = .ok (.iconst 0, 1) := by decide +kernel
theorem dX9_moduleLine_88 : decode cX9_moduleLine 88 = .ok (.aload_n 0, 1) := by decide +kernel
theorem dX9_moduleLine_89 : decode cX9_moduleLine 89 = .ok (.getfield 51, 3) := by decide +kernel
theorem dX9_moduleLine_92 : decode cX9_moduleLine 92 = .ok (.iload_n 3, 1) := by decide +kernel
theorem dX9_moduleLine_93 : decode cX9_moduleLine 93 = .ok (.iaload, 1) := by decide +kernel
theorem dX9_moduleLine_94 : decode cX9_moduleLine 94 = .ok (.iconst 1, 1) := by decide +kernel
theorem dX9_moduleLine_95 : decode cX9_moduleLine 95 = .ok (.isub, 1) := by decide +kernel
theorem dX9_moduleLine_96 : decode cX9_moduleLine 96 = .ok (.invokevirtual 183, 3) := by decide +kernel
theorem dX9_moduleLine_99 : decode cX9_moduleLine 99 = .ok (.iastore, 1) := by decide +kernel
theorem dX9_moduleLine_100 : decode cX9_moduleLine 100 = .ok (.iinc 4 1, 3) := by decide +kernel
theorem dX9_moduleLine_103 : decode cX9_moduleLine 103 = .ok (.goto (-48), 3) := by decide +kernel
theorem dX9_moduleLine_106 : decode cX9_moduleLine 106 = .ok (.aload_n 0, 1) := by decide +kernel
theorem dX9_moduleLine_107 : decode cX9_moduleLine 107 = .ok (.getfield 130, 3) := by decide +kernel
theorem dX9_moduleLine_110 : decode cX9_moduleLine 110 = .ok (.ifCond .eq 4, 3) := by decide +kernel
theorem dX9_moduleLine_113 : decode cX9_moduleLine 113 = .ok (.return_, 1) := by decide +kernel
theorem dX9_moduleLine_114 : decode cX9_moduleLine 114 = .ok (.aload_n 0, 1) := by decide +kernel
theorem dX9_moduleLine_115 : decode cX9_moduleLine 115 = .ok (.getfield 57, 3) := by decide +kernel
theorem dX9_moduleLine_118 : decode cX9_moduleLine 118 = .ok (.iload_n 1, 1) := by decide +kernel
theorem dX9_moduleLine_119 : decode cX9_moduleLine 119 = .ok (.iload_n 2, 1) := by decide +kernel
theorem dX9_moduleLine_120 : decode cX9_moduleLine 120 = .ok (.iastore, 1) := by decide +kernel
theorem dX9_moduleLine_121 : decode cX9_moduleLine 121 = .ok (.aload_n 0, 1) := by decide +kernel
theorem dX9_moduleLine_122 : decode cX9_moduleLine 122 = .ok (.getfield 60, 3) := by decide +kernel
theorem dX9_moduleLine_125 : decode cX9_moduleLine 125 = .ok (.iload_n 1, 1) := by decide +kernel
theorem dX9_moduleLine_126 : decode cX9_moduleLine 126 = .ok (.iload_n 3, 1) := by decide +kernel
theorem dX9_moduleLine_127 : decode cX9_moduleLine 127 = .ok (.iastore, 1) := by decide +kernel
theorem dX9_moduleLine_128 : decode cX9_moduleLine 128 = .ok (.aload_n 0, 1) := by decide +kernel
theorem dX9_moduleLine_129 : decode cX9_moduleLine 129 = .ok (.getfield 72, 3) := by decide +kernel
theorem dX9_moduleLine_132 : decode cX9_moduleLine 132 = .ok (.iload_n 1, 1) := by decide +kernel
theorem dX9_moduleLine_133 : decode cX9_moduleLine 133 = .ok (.iconst 0, 1) := by decide +kernel
theorem dX9_moduleLine_134 : decode cX9_moduleLine 134 = .ok (.iastore, 1) := by decide +kernel
theorem dX9_moduleLine_135 : decode cX9_moduleLine 135 = .ok (.iconst 0, 1) := by decide +kernel
theorem dX9_moduleLine_136 : decode cX9_moduleLine 136 = .ok (.istore 4, 2) := by decide +kernel
theorem dX9_moduleLine_138 : decode cX9_moduleLine 138 = .ok (.iload 4, 2) := by decide +kernel
theorem dX9_moduleLine_140 : decode cX9_moduleLine 140 = .ok (.bipush 64, 2) := by decide +kernel
theorem dX9_moduleLine_142 : decode cX9_moduleLine 142 = .ok (.if_icmp .ge 29, 3) := by decide +kernel
theorem dX9_moduleLine_145 : decode cX9_moduleLine 145 = .ok (.aload_n 0, 1) := by decide +kernel
theorem dX9_moduleLine_146 : decode cX9_moduleLine 146 = .ok (.getfield 48, 3) := by decide +kernel
theorem dX9_moduleLine_149 : decode cX9_moduleLine 149 = .ok (.bipush 48, 2) := by decide +kernel
theorem dX9_moduleLine_151 : decode cX9_moduleLine 151 = .ok (.bipush 64, 2) := by decide +kernel
theorem dX9_moduleLine_153 : decode cX9_moduleLine 153 = .ok (.iload_n 1, 1) := by decide +kernel
theorem dX9_moduleLine_154 : decode cX9_moduleLine 154 = .ok (.imul, 1) := by decide +kernel
theorem dX9_moduleLine_155 : decode cX9_moduleLine 155 = .ok (.iadd, 1) := by decide +kernel
theorem dX9_moduleLine_156 : decode cX9_moduleLine 156 = .ok (.iload 4, 2) := by decide +kernel
theorem dX9_moduleLine_158 : decode cX9_moduleLine 158 = .ok (.iadd, 1) := by decide +kernel
theorem dX9_moduleLine_159 : decode cX9_moduleLine 159 = .ok (.iload 4, 2) := by decide +kernel
theorem dX9_moduleLine_161 : decode cX9_moduleLine 161 = .ok (.bipush 8, 2) := by decide +kernel
theorem dX9_moduleLine_163 : decode cX9_moduleLine 163 = .ok (.irem, 1) := by decide +kernel
theorem dX9_moduleLine_164 : decode cX9_moduleLine 164 = .ok (.iastore, 1) := by decide +kernel
theorem dX9_moduleLine_165 : decode cX9_moduleLine 165 = .ok (.iinc 4 1, 3) := by decide +kernel
theorem dX9_moduleLine_168 : decode cX9_moduleLine 168 = .ok (.goto (-30), 3) := by decide +kernel
theorem dX9_moduleLine_171 : decode cX9_moduleLine 171 = .ok (.aload_n 0, 1) := by decide +kernel
theorem dX9_moduleLine_172 : decode cX9_moduleLine 172 = .ok (.dup, 1) := by decide +kernel
theorem dX9_moduleLine_173 : decode cX9_moduleLine 173 = .ok (.getfield 218, 3) := by decide +kernel
theorem dX9_moduleLine_176 : decode cX9_moduleLine 176 = .ok (.iconst 1, 1) := by decide +kernel
theorem dX9_moduleLine_177 : decode cX9_moduleLine 177 = .ok (.iadd, 1) := by decide +kernel
theorem dX9_moduleLine_178 : decode cX9_moduleLine 178 = .ok (.putfield 218, 3) := by decide +kernel
theorem dX9_moduleLine_181 : decode cX9_moduleLine 181 = .ok (.return_, 1) := by decide +kernel
theorem dX9_actLine_0 : decode cX9_actLine 0 = .ok (.aload_n 0, 1) := by decide +kernel
theorem dX9_actLine_1 : decode cX9_actLine 1 = .ok (.invokevirtual 156, 3) := by decide +kernel
theorem dX9_actLine_4 : decode cX9_actLine 4 = .ok (.aload_n 0, 1) := by decide +kernel
theorem dX9_actLine_5 : decode cX9_actLine 5 = .ok (.bipush 6, 2) := by decide +kernel
theorem dX9_actLine_7 : decode cX9_actLine 7 = .ok (.aload_n 0, 1) := by decide +kernel
theorem dX9_actLine_8 : decode cX9_actLine 8 = .ok (.getfield 218, 3) := by decide +kernel
theorem dX9_actLine_11 : decode cX9_actLine 11 = .ok (.invokevirtual 201, 3) := by decide +kernel
theorem dX9_actLine_14 : decode cX9_actLine 14 = .ok (.istore_n 1, 1) := by decide +kernel
theorem dX9_actLine_15 : decode cX9_actLine 15 = .ok (.aload_n 0, 1) := by decide +kernel
theorem dX9_actLine_16 : decode cX9_actLine 16 = .ok (.getfield 130, 3) := by decide +kernel
theorem dX9_actLine_19 : decode cX9_actLine 19 = .ok (.ifCond .eq 4, 3) := by decide +kernel
theorem dX9_actLine_22 : decode cX9_actLine 22 = .ok (.return_, 1) := by decide +kernel
theorem dX9_actLine_23 : decode cX9_actLine 23 = .ok (.aload_n 0, 1) := by decide +kernel
theorem dX9_actLine_24 : decode cX9_actLine 24 = .ok (.getfield 117, 3) := by decide +kernel
theorem dX9_actLine_27 : decode cX9_actLine 27 = .ok (.iconst 2, 1) := by decide +kernel
theorem dX9_actLine_28 : decode cX9_actLine 28 = .ok (.if_icmp .ne 45, 3) := by decide +kernel
theorem dX9_actLine_31 : decode cX9_actLine 31 = .ok (.aload_n 0, 1) := by decide +kernel
theorem dX9_actLine_32 : decode cX9_actLine 32 = .ok (.getfield 127, 3) := by decide +kernel
theorem dX9_actLine_35 : decode cX9_actLine 35 = .ok (.iconst 0, 1) := by decide +kernel
theorem dX9_actLine_36 : decode cX9_actLine 36 = .ok (.aload_n 0, 1) := by decide +kernel
theorem dX9_actLine_37 : decode cX9_actLine 37 = .ok (.getfield 51, 3) := by decide +kernel
theorem dX9_actLine_40 : decode cX9_actLine 40 = .ok (.aload_n 0, 1) := by decide +kernel
theorem dX9_actLine_41 : decode cX9_actLine 41 = .ok (.getfield 60, 3) := by decide +kernel
theorem dX9_actLine_44 : decode cX9_actLine 44 = .ok (.iload_n 1, 1) := by decide +kernel
theorem dX9_actLine_45 : decode cX9_actLine 45 = .ok (.iaload, 1) := by decide +kernel
theorem dX9_actLine_46 : decode cX9_actLine 46 = .ok (.iaload, 1) := by decide +kernel
theorem dX9_actLine_47 : decode cX9_actLine 47 = .ok (.iconst 1, 1) := by decide +kernel
theorem dX9_actLine_48 : decode cX9_actLine 48 = .ok (.isub, 1) := by decide +kernel
theorem dX9_actLine_49 : decode cX9_actLine 49 = .ok (.invokestatic 152, 3) := by decide +kernel
theorem dX9_actLine_52 : decode cX9_actLine 52 = .ok (.ifCond .eq 21, 3) := by decide +kernel
theorem dX9_actLine_55 : decode cX9_actLine 55 = .ok (.aload_n 0, 1) := by decide +kernel
theorem dX9_actLine_56 : decode cX9_actLine 56 = .ok (.aload_n 0, 1) := by decide +kernel
theorem dX9_actLine_57 : decode cX9_actLine 57 = .ok (.getfield 72, 3) := by decide +kernel
theorem dX9_actLine_60 : decode cX9_actLine 60 = .ok (.iload_n 1, 1) := by decide +kernel
theorem dX9_actLine_61 : decode cX9_actLine 61 = .ok (.iaload, 1) := by decide +kernel
theorem dX9_actLine_62 : decode cX9_actLine 62 = .ok (.aload_n 0, 1) := by decide +kernel
theorem dX9_actLine_63 : decode cX9_actLine 63 = .ok (.getfield 127, 3) := by decide +kernel
theorem dX9_actLine_66 : decode cX9_actLine 66 = .ok (.invokestatic 221, 3) := by decide +kernel
theorem dX9_actLine_69 : decode cX9_actLine 69 = .ok (.iconst 3, 1) := by decide +kernel
theorem dX9_actLine_70 : decode cX9_actLine 70 = .ok (.invokevirtual 159, 3) := by decide +kernel
theorem dX9_actLine_73 : decode cX9_actLine 73 = .ok (.aload_n 0, 1) := by decide +kernel
theorem dX9_actLine_74 : decode cX9_actLine 74 = .ok (.iconst 0, 1) := by decide +kernel
theorem dX9_actLine_75 : decode cX9_actLine 75 = .ok (.aload_n 0, 1) := by decide +kernel
theorem dX9_actLine_76 : decode cX9_actLine 76 = .ok (.getfield 51, 3) := by decide +kernel
theorem dX9_actLine_79 : decode cX9_actLine 79 = .ok (.aload_n 0, 1) := by decide +kernel
theorem dX9_actLine_80 : decode cX9_actLine 80 = .ok (.getfield 60, 3) := by decide +kernel
theorem dX9_actLine_83 : decode cX9_actLine 83 = .ok (.iload_n 1, 1) := by decide +kernel
theorem dX9_actLine_84 : decode cX9_actLine 84 = .ok (.iaload, 1) := by decide +kernel
theorem dX9_actLine_85 : decode cX9_actLine 85 = .ok (.iaload, 1) := by decide +kernel
theorem dX9_actLine_86 : decode cX9_actLine 86 = .ok (.iconst 1, 1) := by decide +kernel
theorem dX9_actLine_87 : decode cX9_actLine 87 = .ok (.isub, 1) := by decide +kernel
theorem dX9_actLine_88 : decode cX9_actLine 88 = .ok (.invokevirtual 183, 3) := by decide +kernel
theorem dX9_actLine_91 : decode cX9_actLine 91 = .ok (.istore_n 2, 1) := by decide +kernel
theorem dX9_actLine_92 : decode cX9_actLine 92 = .ok (.aload_n 0, 1) := by decide +kernel
theorem dX9_actLine_93 : decode cX9_actLine 93 = .ok (.getfield 51, 3) := by decide +kernel
theorem dX9_actLine_96 : decode cX9_actLine 96 = .ok (.aload_n 0, 1) := by decide +kernel
theorem dX9_actLine_97 : decode cX9_actLine 97 = .ok (.getfield 57, 3) := by decide +kernel
theorem dX9_actLine_100 : decode cX9_actLine 100 = .ok (.iload_n 1, 1) := by decide +kernel
theorem dX9_actLine_101 : decode cX9_actLine 101 = .ok (.iaload, 1) := by decide +kernel
theorem dX9_actLine_102 : decode cX9_actLine 102 = .ok (.iaload, 1) := by decide +kernel
theorem dX9_actLine_103 : decode cX9_actLine 103 = .ok (.istore_n 3, 1) := by decide +kernel
theorem dX9_actLine_104 : decode cX9_actLine 104 = .ok (.iconst 0, 1) := by decide +kernel
theorem dX9_actLine_105 : decode cX9_actLine 105 = .ok (.istore 4, 2) := by decide +kernel
theorem dX9_actLine_107 : decode cX9_actLine 107 = .ok (.aload_n 0, 1) := by decide +kernel
theorem dX9_actLine_108 : decode cX9_actLine 108 = .ok (.getfield 130, 3) := by decide +kernel
theorem dX9_actLine_111 : decode cX9_actLine 111 = .ok (.ifCond .ne 43, 3) := by decide +kernel
theorem dX9_actLine_114 : decode cX9_actLine 114 = .ok (.iload 4, 2) := by decide +kernel
theorem dX9_actLine_116 : decode cX9_actLine 116 = .ok (.iload_n 3, 1) := by decide +kernel
theorem dX9_actLine_117 : decode cX9_actLine 117 = .ok (.if_icmp .ge 37, 3) := by decide +kernel
theorem dX9_actLine_120 : decode cX9_actLine 120 = .ok (.aload_n 0, 1) := by decide +kernel
theorem dX9_actLine_121 : decode cX9_actLine 121 = .ok (.getfield 48, 3) := by decide +kernel
theorem dX9_actLine_124 : decode cX9_actLine 124 = .ok (.bipush 48, 2) := by decide +kernel
theorem dX9_actLine_126 : decode cX9_actLine 126 = .ok (.bipush 64, 2) := by decide +kernel
theorem dX9_actLine_128 : decode cX9_actLine 128 = .ok (.iload_n 1, 1) := by decide +kernel
theorem dX9_actLine_129 : decode cX9_actLine 129 = .ok (.imul, 1) := by decide +kernel
theorem dX9_actLine_130 : decode cX9_actLine 130 = .ok (.iadd, 1) := by decide +kernel
theorem dX9_actLine_131 : decode cX9_actLine 131 = .ok (.bipush 8, 2) := by decide +kernel
theorem dX9_actLine_133 : decode cX9_actLine 133 = .ok (.iload_n 2, 1) := by decide +kernel
theorem dX9_actLine_134 : decode cX9_actLine 134 = .ok (.imul, 1) := by decide +kernel
theorem dX9_actLine_135 : decode cX9_actLine 135 = .ok (.iadd, 1) := by decide +kernel
theorem dX9_actLine_136 : decode cX9_actLine 136 = .ok (.iload 4, 2) := by decide +kernel
theorem dX9_actLine_138 : decode cX9_actLine 138 = .ok (.iadd, 1) := by decide +kernel
theorem dX9_actLine_139 : decode cX9_actLine 139 = .ok (.aload_n 0, 1) := by decide +kernel
theorem dX9_actLine_140 : decode cX9_actLine 140 = .ok (.iconst 0, 1) := by decide +kernel
theorem dX9_actLine_141 : decode cX9_actLine 141 = .ok (.iload_n 3, 1) := by decide +kernel
theorem dX9_actLine_142 : decode cX9_actLine 142 = .ok (.iconst 1, 1) := by decide +kernel
theorem dX9_actLine_143 : decode cX9_actLine 143 = .ok (.isub, 1) := by decide +kernel
theorem dX9_actLine_144 : decode cX9_actLine 144 = .ok (.invokevirtual 183, 3) := by decide +kernel
theorem dX9_actLine_147 : decode cX9_actLine 147 = .ok (.iastore, 1) := by decide +kernel
theorem dX9_actLine_148 : decode cX9_actLine 148 = .ok (.iinc 4 1, 3) := by decide +kernel
theorem dX9_actLine_151 : decode cX9_actLine 151 = .ok (.goto (-44), 3) := by decide +kernel
theorem dX9_actLine_154 : decode cX9_actLine 154 = .ok (.aload_n 0, 1) := by decide +kernel
theorem dX9_actLine_155 : decode cX9_actLine 155 = .ok (.getfield 72, 3) := by decide +kernel
theorem dX9_actLine_158 : decode cX9_actLine 158 = .ok (.iload_n 1, 1) := by decide +kernel
theorem dX9_actLine_159 : decode cX9_actLine 159 = .ok (.dup2, 1) := by decide +kernel
theorem dX9_actLine_160 : decode cX9_actLine 160 = .ok (.iaload, 1) := by decide +kernel
theorem dX9_actLine_161 : decode cX9_actLine 161 = .ok (.iconst 1, 1) := by decide +kernel
theorem dX9_actLine_162 : decode cX9_actLine 162 = .ok (.iload_n 2, 1) := by decide +kernel
theorem dX9_actLine_163 : decode cX9_actLine 163 = .ok (.ishl, 1) := by decide +kernel
theorem dX9_actLine_164 : decode cX9_actLine 164 = .ok (.ior, 1) := by decide +kernel
theorem dX9_actLine_165 : decode cX9_actLine 165 = .ok (.iastore, 1) := by decide +kernel
theorem dX9_actLine_166 : decode cX9_actLine 166 = .ok (.return_, 1) := by decide +kernel
theorem dX9_arrowLine_0 : decode cX9_arrowLine 0 = .ok (.aload_n 0, 1) := by decide +kernel
theorem dX9_arrowLine_1 : decode cX9_arrowLine 1 = .ok (.getfield 225, 3) := by decide +kernel
theorem dX9_arrowLine_4 : decode cX9_arrowLine 4 = .ok (.istore_n 1, 1) := by decide +kernel
theorem dX9_arrowLine_5 : decode cX9_arrowLine 5 = .ok (.aload_n 0, 1) := by decide +kernel
theorem dX9_arrowLine_6 : decode cX9_arrowLine 6 = .ok (.iload_n 1, 1) := by decide +kernel
theorem dX9_arrowLine_7 : decode cX9_arrowLine 7 = .ok (.bipush 8, 2) := by decide +kernel
theorem dX9_arrowLine_9 : decode cX9_arrowLine 9 = .ok (.if_icmp .ne 7, 3) := by decide +kernel
theorem dX9_arrowLine_12 : decode cX9_arrowLine 12 = .ok (.iconst 1, 1) := by decide +kernel
theorem dX9_arrowLine_13 : decode cX9_arrowLine 13 = .ok (.goto 4, 3) := by decide +kernel
theorem dX9_arrowLine_16 : decode cX9_arrowLine 16 = .ok (.iconst 0, 1) := by decide +kernel
theorem dX9_arrowLine_17 : decode cX9_arrowLine 17 = .ok (.iconst 4, 1) := by decide +kernel
theorem dX9_arrowLine_18 : decode cX9_arrowLine 18 = .ok (.invokevirtual 159, 3) := by decide +kernel
theorem dX9_arrowLine_21 : decode cX9_arrowLine 21 = .ok (.aload_n 0, 1) := by decide +kernel
theorem dX9_arrowLine_22 : decode cX9_arrowLine 22 = .ok (.invokevirtual 156, 3) := by decide +kernel
theorem dX9_arrowLine_25 : decode cX9_arrowLine 25 = .ok (.aload_n 0, 1) := by decide +kernel
theorem dX9_arrowLine_26 : decode cX9_arrowLine 26 = .ok (.bipush 12, 2) := by decide +kernel
theorem dX9_arrowLine_28 : decode cX9_arrowLine 28 = .ok (.iload_n 1, 1) := by decide +kernel
theorem dX9_arrowLine_29 : decode cX9_arrowLine 29 = .ok (.invokevirtual 173, 3) := by decide +kernel
theorem dX9_arrowLine_32 : decode cX9_arrowLine 32 = .ok (.aload_n 0, 1) := by decide +kernel
theorem dX9_arrowLine_33 : decode cX9_arrowLine 33 = .ok (.bipush 6, 2) := by decide +kernel
theorem dX9_arrowLine_35 : decode cX9_arrowLine 35 = .ok (.aload_n 0, 1) := by decide +kernel
theorem dX9_arrowLine_36 : decode cX9_arrowLine 36 = .ok (.getfield 218, 3) := by decide +kernel
theorem dX9_arrowLine_39 : decode cX9_arrowLine 39 = .ok (.invokevirtual 201, 3) := by decide +kernel
theorem dX9_arrowLine_42 : decode cX9_arrowLine 42 = .ok (.istore_n 2, 1) := by decide +kernel
theorem dX9_arrowLine_43 : decode cX9_arrowLine 43 = .ok (.aload_n 0, 1) := by decide +kernel
theorem dX9_arrowLine_44 : decode cX9_arrowLine 44 = .ok (.bipush 6, 2) := by decide +kernel
theorem dX9_arrowLine_46 : decode cX9_arrowLine 46 = .ok (.aload_n 0, 1) := by decide +kernel
theorem dX9_arrowLine_47 : decode cX9_arrowLine 47 = .ok (.getfield 218, 3) := by decide +kernel
theorem dX9_arrowLine_50 : decode cX9_arrowLine 50 = .ok (.invokevirtual 201, 3) := by decide +kernel
theorem dX9_arrowLine_53 : decode cX9_arrowLine 53 = .ok (.istore_n 3, 1) := by decide +kernel
theorem dX9_arrowLine_54 : decode cX9_arrowLine 54 = .ok (.iconst 0, 1) := by decide +kernel
theorem dX9_arrowLine_55 : decode cX9_arrowLine 55 = .ok (.istore 4, 2) := by decide +kernel
theorem dX9_arrowLine_57 : decode cX9_arrowLine 57 = .ok (.aload_n 0, 1) := by decide +kernel
theorem dX9_arrowLine_58 : decode cX9_arrowLine 58 = .ok (.getfield 130, 3) := by decide +kernel
theorem dX9_arrowLine_61 : decode cX9_arrowLine 61 = .ok (.ifCond .ne 59, 3) := by decide +kernel
theorem dX9_arrowLine_64 : decode cX9_arrowLine 64 = .ok (.iload 4, 2) := by decide +kernel
theorem dX9_arrowLine_66 : decode cX9_arrowLine 66 = .ok (.aload_n 0, 1) := by decide +kernel
theorem dX9_arrowLine_67 : decode cX9_arrowLine 67 = .ok (.getfield 51, 3) := by decide +kernel
theorem dX9_arrowLine_70 : decode cX9_arrowLine 70 = .ok (.aload_n 0, 1) := by decide +kernel
theorem dX9_arrowLine_71 : decode cX9_arrowLine 71 = .ok (.getfield 57, 3) := by decide +kernel
theorem dX9_arrowLine_74 : decode cX9_arrowLine 74 = .ok (.iload_n 2, 1) := by decide +kernel
theorem dX9_arrowLine_75 : decode cX9_arrowLine 75 = .ok (.iaload, 1) := by decide +kernel
theorem dX9_arrowLine_76 : decode cX9_arrowLine 76 = .ok (.iaload, 1) := by decide +kernel
theorem dX9_arrowLine_77 : decode cX9_arrowLine 77 = .ok (.if_icmp .ge 43, 3) := by decide +kernel
theorem dX9_arrowLine_80 : decode cX9_arrowLine 80 = .ok (.aload_n 0, 1) := by decide +kernel
theorem dX9_arrowLine_81 : decode cX9_arrowLine 81 = .ok (.getfield 48, 3) := by decide +kernel
theorem dX9_arrowLine_84 : decode cX9_arrowLine 84 = .ok (.sipush 432, 3) := by decide +kernel
theorem dX9_arrowLine_87 : decode cX9_arrowLine 87 = .ok (.bipush 8, 2) := by decide +kernel
theorem dX9_arrowLine_89 : decode cX9_arrowLine 89 = .ok (.iload_n 1, 1) := by decide +kernel
theorem dX9_arrowLine_90 : decode cX9_arrowLine 90 = .ok (.imul, 1) := by decide +kernel
theorem dX9_arrowLine_91 : decode cX9_arrowLine 91 = .ok (.iadd, 1) := by decide +kernel
theorem dX9_arrowLine_92 : decode cX9_arrowLine 92 = .ok (.iload 4, 2) := by decide +kernel
theorem dX9_arrowLine_94 : decode cX9_arrowLine 94 = .ok (.iadd, 1) := by decide +kernel
theorem dX9_arrowLine_95 : decode cX9_arrowLine 95 = .ok (.aload_n 0, 1) := by decide +kernel
theorem dX9_arrowLine_96 : decode cX9_arrowLine 96 = .ok (.iconst 0, 1) := by decide +kernel
theorem dX9_arrowLine_97 : decode cX9_arrowLine 97 = .ok (.aload_n 0, 1) := by decide +kernel
theorem dX9_arrowLine_98 : decode cX9_arrowLine 98 = .ok (.getfield 51, 3) := by decide +kernel
theorem dX9_arrowLine_101 : decode cX9_arrowLine 101 = .ok (.aload_n 0, 1) := by decide +kernel
theorem dX9_arrowLine_102 : decode cX9_arrowLine 102 = .ok (.getfield 57, 3) := by decide +kernel
theorem dX9_arrowLine_105 : decode cX9_arrowLine 105 = .ok (.iload_n 3, 1) := by decide +kernel
theorem dX9_arrowLine_106 : decode cX9_arrowLine 106 = .ok (.iaload, 1) := by decide +kernel
theorem dX9_arrowLine_107 : decode cX9_arrowLine 107 = .ok (.iaload, 1) := by decide +kernel
theorem dX9_arrowLine_108 : decode cX9_arrowLine 108 = .ok (.iconst 1, 1) := by decide +kernel
theorem dX9_arrowLine_109 : decode cX9_arrowLine 109 = .ok (.isub, 1) := by decide +kernel
theorem dX9_arrowLine_110 : decode cX9_arrowLine 110 = .ok (.invokevirtual 183, 3) := by decide +kernel
theorem dX9_arrowLine_113 : decode cX9_arrowLine 113 = .ok (.iastore, 1) := by decide +kernel
theorem dX9_arrowLine_114 : decode cX9_arrowLine 114 = .ok (.iinc 4 1, 3) := by decide +kernel
theorem dX9_arrowLine_117 : decode cX9_arrowLine 117 = .ok (.goto (-60), 3) := by decide +kernel
theorem dX9_arrowLine_120 : decode cX9_arrowLine 120 = .ok (.iconst 0, 1) := by decide +kernel
theorem dX9_arrowLine_121 : decode cX9_arrowLine 121 = .ok (.istore 4, 2) := by decide +kernel
theorem dX9_arrowLine_123 : decode cX9_arrowLine 123 = .ok (.aload_n 0, 1) := by decide +kernel
theorem dX9_arrowLine_124 : decode cX9_arrowLine 124 = .ok (.getfield 130, 3) := by decide +kernel
theorem dX9_arrowLine_127 : decode cX9_arrowLine 127 = .ok (.ifCond .ne 59, 3) := by decide +kernel
theorem dX9_arrowLine_130 : decode cX9_arrowLine 130 = .ok (.iload 4, 2) := by decide +kernel
theorem dX9_arrowLine_132 : decode cX9_arrowLine 132 = .ok (.aload_n 0, 1) := by decide +kernel
theorem dX9_arrowLine_133 : decode cX9_arrowLine 133 = .ok (.getfield 51, 3) := by decide +kernel
theorem dX9_arrowLine_136 : decode cX9_arrowLine 136 = .ok (.aload_n 0, 1) := by decide +kernel
theorem dX9_arrowLine_137 : decode cX9_arrowLine 137 = .ok (.getfield 60, 3) := by decide +kernel
theorem dX9_arrowLine_140 : decode cX9_arrowLine 140 = .ok (.iload_n 2, 1) := by decide +kernel
theorem dX9_arrowLine_141 : decode cX9_arrowLine 141 = .ok (.iaload, 1) := by decide +kernel
theorem dX9_arrowLine_142 : decode cX9_arrowLine 142 = .ok (.iaload, 1) := by decide +kernel
theorem dX9_arrowLine_143 : decode cX9_arrowLine 143 = .ok (.if_icmp .ge 43, 3) := by decide +kernel
theorem dX9_arrowLine_146 : decode cX9_arrowLine 146 = .ok (.aload_n 0, 1) := by decide +kernel
theorem dX9_arrowLine_147 : decode cX9_arrowLine 147 = .ok (.getfield 48, 3) := by decide +kernel
theorem dX9_arrowLine_150 : decode cX9_arrowLine 150 = .ok (.sipush 496, 3) := by decide +kernel
theorem dX9_arrowLine_153 : decode cX9_arrowLine 153 = .ok (.bipush 8, 2) := by decide +kernel
theorem dX9_arrowLine_155 : decode cX9_arrowLine 155 = .ok (.iload_n 1, 1) := by decide +kernel
theorem dX9_arrowLine_156 : decode cX9_arrowLine 156 = .ok (.imul, 1) := by decide +kernel
theorem dX9_arrowLine_157 : decode cX9_arrowLine 157 = .ok (.iadd, 1) := by decide +kernel
theorem dX9_arrowLine_158 : decode cX9_arrowLine 158 = .ok (.iload 4, 2) := by decide +kernel
theorem dX9_arrowLine_160 : decode cX9_arrowLine 160 = .ok (.iadd, 1) := by decide +kernel
theorem dX9_arrowLine_161 : decode cX9_arrowLine 161 = .ok (.aload_n 0, 1) := by decide +kernel
theorem dX9_arrowLine_162 : decode cX9_arrowLine 162 = .ok (.iconst 0, 1) := by decide +kernel
theorem dX9_arrowLine_163 : decode cX9_arrowLine 163 = .ok (.aload_n 0, 1) := by decide +kernel
theorem dX9_arrowLine_164 : decode cX9_arrowLine 164 = .ok (.getfield 51, 3) := by decide +kernel
theorem dX9_arrowLine_167 : decode cX9_arrowLine 167 = .ok (.aload_n 0, 1) := by decide +kernel
theorem dX9_arrowLine_168 : decode cX9_arrowLine 168 = .ok (.getfield 60, 3) := by decide +kernel
theorem dX9_arrowLine_171 : decode cX9_arrowLine 171 = .ok (.iload_n 3, 1) := by decide +kernel
theorem dX9_arrowLine_172 : decode cX9_arrowLine 172 = .ok (.iaload, 1) := by decide +kernel
theorem dX9_arrowLine_173 : decode cX9_arrowLine 173 = .ok (.iaload, 1) := by decide +kernel
theorem dX9_arrowLine_174 : decode cX9_arrowLine 174 = .ok (.iconst 1, 1) := by decide +kernel
theorem dX9_arrowLine_175 : decode cX9_arrowLine 175 = .ok (.isub, 1) := by decide +kernel
theorem dX9_arrowLine_176 : decode cX9_arrowLine 176 = .ok (.invokevirtual 183, 3) := by decide +kernel
theorem dX9_arrowLine_179 : decode cX9_arrowLine 179 = .ok (.iastore, 1) := by decide +kernel
theorem dX9_arrowLine_180 : decode cX9_arrowLine 180 = .ok (.iinc 4 1, 3) := by decide +kernel
theorem dX9_arrowLine_183 : decode cX9_arrowLine 183 = .ok (.goto (-60), 3) := by decide +kernel
theorem dX9_arrowLine_186 : decode cX9_arrowLine 186 = .ok (.aload_n 0, 1) := by decide +kernel
theorem dX9_arrowLine_187 : decode cX9_arrowLine 187 = .ok (.getfield 130, 3) := by decide +kernel
theorem dX9_arrowLine_190 : decode cX9_arrowLine 190 = .ok (.ifCond .ne 27, 3) := by decide +kernel
theorem dX9_arrowLine_193 : decode cX9_arrowLine 193 = .ok (.aload_n 0, 1) := by decide +kernel
theorem dX9_arrowLine_194 : decode cX9_arrowLine 194 = .ok (.getfield 63, 3) := by decide +kernel
theorem dX9_arrowLine_197 : decode cX9_arrowLine 197 = .ok (.iload_n 1, 1) := by decide +kernel
theorem dX9_arrowLine_198 : decode cX9_arrowLine 198 = .ok (.iload_n 2, 1) := by decide +kernel
theorem dX9_arrowLine_199 : decode cX9_arrowLine 199 = .ok (.iastore, 1) := by decide +kernel
theorem dX9_arrowLine_200 : decode cX9_arrowLine 200 = .ok (.aload_n 0, 1) := by decide +kernel
theorem dX9_arrowLine_201 : decode cX9_arrowLine 201 = .ok (.getfield 66, 3) := by decide +kernel
theorem dX9_arrowLine_204 : decode cX9_arrowLine 204 = .ok (.iload_n 1, 1) := by decide +kernel
theorem dX9_arrowLine_205 : decode cX9_arrowLine 205 = .ok (.iload_n 3, 1) := by decide +kernel
theorem dX9_arrowLine_206 : decode cX9_arrowLine 206 = .ok (.iastore, 1) := by decide +kernel
theorem dX9_arrowLine_207 : decode cX9_arrowLine 207 = .ok (.aload_n 0, 1) := by decide +kernel
theorem dX9_arrowLine_208 : decode cX9_arrowLine 208 = .ok (.dup, 1) := by decide +kernel
theorem dX9_arrowLine_209 : decode cX9_arrowLine 209 = .ok (.getfield 225, 3) := by decide +kernel
theorem dX9_arrowLine_212 : decode cX9_arrowLine 212 = .ok (.iconst 1, 1) := by decide +kernel
theorem dX9_arrowLine_213 : decode cX9_arrowLine 213 = .ok (.iadd, 1) := by decide +kernel
theorem dX9_arrowLine_214 : decode cX9_arrowLine 214 = .ok (.putfield 225, 3) := by decide +kernel
theorem dX9_arrowLine_217 : decode cX9_arrowLine 217 = .ok (.return_, 1) := by decide +kernel
theorem dX9_line_0 : decode cX9_line 0 = .ok (.aload_n 0, 1) := by decide +kernel
theorem dX9_line_1 : decode cX9_line 1 = .ok (.ldc 228, 2) := by decide +kernel
theorem dX9_line_3 : decode cX9_line 3 = .ok (.invokevirtual 179, 3) := by decide +kernel
theorem dX9_line_6 : decode cX9_line 6 = .ok (.ifCond .eq 10, 3) := by decide +kernel
theorem dX9_line_9 : decode cX9_line 9 = .ok (.aload_n 0, 1) := by decide +kernel
theorem dX9_line_10 : decode cX9_line 10 = .ok (.invokevirtual 230, 3) := by decide +kernel
theorem dX9_line_13 : decode cX9_line 13 = .ok (.goto 56, 3) := by decide +kernel
theorem dX9_line_16 : decode cX9_line 16 = .ok (.aload_n 0, 1) := by decide +kernel
theorem dX9_line_17 : decode cX9_line 17 = .ok (.ldc 233, 2) := by decide +kernel
theorem dX9_line_19 : decode cX9_line 19 = .ok (.invokevirtual 179, 3) := by decide +kernel
theorem dX9_line_22 : decode cX9_line 22 = .ok (.ifCond .eq 10, 3) := by decide +kernel
theorem dX9_line_25 : decode cX9_line 25 = .ok (.aload_n 0, 1) := by decide +kernel
theorem dX9_line_26 : decode cX9_line 26 = .ok (.invokevirtual 235, 3) := by decide +kernel
theorem dX9_line_29 : decode cX9_line 29 = .ok (.goto 40, 3) := by decide +kernel
theorem dX9_line_32 : decode cX9_line 32 = .ok (.aload_n 0, 1) := by decide +kernel
theorem dX9_line_33 : decode cX9_line 33 = .ok (.ldc 238, 2) := by decide +kernel
theorem dX9_line_35 : decode cX9_line 35 = .ok (.invokevirtual 179, 3) := by decide +kernel
theorem dX9_line_38 : decode cX9_line 38 = .ok (.ifCond .eq 10, 3) := by decide +kernel
theorem dX9_line_41 : decode cX9_line 41 = .ok (.aload_n 0, 1) := by decide +kernel
theorem dX9_line_42 : decode cX9_line 42 = .ok (.invokevirtual 240, 3) := by decide +kernel
theorem dX9_line_45 : decode cX9_line 45 = .ok (.goto 24, 3) := by decide +kernel
theorem dX9_line_48 : decode cX9_line 48 = .ok (.aload_n 0, 1) := by decide +kernel
theorem dX9_line_49 : decode cX9_line 49 = .ok (.ldc 243, 2) := by decide +kernel
theorem dX9_line_51 : decode cX9_line 51 = .ok (.invokevirtual 179, 3) := by decide +kernel
theorem dX9_line_54 : decode cX9_line 54 = .ok (.ifCond .eq 10, 3) := by decide +kernel
theorem dX9_line_57 : decode cX9_line 57 = .ok (.aload_n 0, 1) := by decide +kernel
theorem dX9_line_58 : decode cX9_line 58 = .ok (.invokevirtual 245, 3) := by decide +kernel
theorem dX9_line_61 : decode cX9_line 61 = .ok (.goto 8, 3) := by decide +kernel
theorem dX9_line_64 : decode cX9_line 64 = .ok (.aload_n 0, 1) := by decide +kernel
theorem dX9_line_65 : decode cX9_line 65 = .ok (.iconst 1, 1) := by decide +kernel
theorem dX9_line_66 : decode cX9_line 66 = .ok (.invokevirtual 136, 3) := by decide +kernel
theorem dX9_line_69 : decode cX9_line 69 = .ok (.return_, 1) := by decide +kernel
theorem dX9_reads_0 : decode cX9_reads 0 = .ok (.aload_n 0, 1) := by decide +kernel
theorem dX9_reads_1 : decode cX9_reads 1 = .ok (.iload_n 1, 1) := by decide +kernel
theorem dX9_reads_2 : decode cX9_reads 2 = .ok (.putfield 104, 3) := by decide +kernel
theorem dX9_reads_5 : decode cX9_reads 5 = .ok (.aload_n 0, 1) := by decide +kernel
theorem dX9_reads_6 : decode cX9_reads 6 = .ok (.iconst 0, 1) := by decide +kernel
theorem dX9_reads_7 : decode cX9_reads 7 = .ok (.putfield 107, 3) := by decide +kernel
theorem dX9_reads_10 : decode cX9_reads 10 = .ok (.aload_n 0, 1) := by decide +kernel
theorem dX9_reads_11 : decode cX9_reads 11 = .ok (.iconst 0, 1) := by decide +kernel
theorem dX9_reads_12 : decode cX9_reads 12 = .ok (.putfield 130, 3) := by decide +kernel
theorem dX9_reads_15 : decode cX9_reads 15 = .ok (.aload_n 0, 1) := by decide +kernel
theorem dX9_reads_16 : decode cX9_reads 16 = .ok (.iconst (-1), 1) := by decide +kernel
theorem dX9_reads_17 : decode cX9_reads 17 = .ok (.putfield 133, 3) := by decide +kernel
theorem dX9_reads_20 : decode cX9_reads 20 = .ok (.aload_n 0, 1) := by decide +kernel
theorem dX9_reads_21 : decode cX9_reads 21 = .ok (.iconst 0, 1) := by decide +kernel
theorem dX9_reads_22 : decode cX9_reads 22 = .ok (.putfield 170, 3) := by decide +kernel
theorem dX9_reads_25 : decode cX9_reads 25 = .ok (.aload_n 0, 1) := by decide +kernel
theorem dX9_reads_26 : decode cX9_reads 26 = .ok (.iconst 0, 1) := by decide +kernel
theorem dX9_reads_27 : decode cX9_reads 27 = .ok (.putfield 218, 3) := by decide +kernel
theorem dX9_reads_30 : decode cX9_reads 30 = .ok (.aload_n 0, 1) := by decide +kernel
theorem dX9_reads_31 : decode cX9_reads 31 = .ok (.iconst 0, 1) := by decide +kernel
theorem dX9_reads_32 : decode cX9_reads 32 = .ok (.putfield 225, 3) := by decide +kernel
theorem dX9_reads_35 : decode cX9_reads 35 = .ok (.iconst 0, 1) := by decide +kernel
theorem dX9_reads_36 : decode cX9_reads 36 = .ok (.istore_n 2, 1) := by decide +kernel
theorem dX9_reads_37 : decode cX9_reads 37 = .ok (.iload_n 2, 1) := by decide +kernel
theorem dX9_reads_38 : decode cX9_reads 38 = .ok (.sipush 563, 3) := by decide +kernel
theorem dX9_reads_41 : decode cX9_reads 41 = .ok (.if_icmp .ge 16, 3) := by decide +kernel
theorem dX9_reads_44 : decode cX9_reads 44 = .ok (.aload_n 0, 1) := by decide +kernel
theorem dX9_reads_45 : decode cX9_reads 45 = .ok (.getfield 48, 3) := by decide +kernel
theorem dX9_reads_48 : decode cX9_reads 48 = .ok (.iload_n 2, 1) := by decide +kernel
theorem dX9_reads_49 : decode cX9_reads 49 = .ok (.iconst 0, 1) := by decide +kernel
theorem dX9_reads_50 : decode cX9_reads 50 = .ok (.iastore, 1) := by decide +kernel
theorem dX9_reads_51 : decode cX9_reads 51 = .ok (.iinc 2 1, 3) := by decide +kernel
theorem dX9_reads_54 : decode cX9_reads 54 = .ok (.goto (-17), 3) := by decide +kernel
theorem dX9_reads_57 : decode cX9_reads 57 = .ok (.aload_n 0, 1) := by decide +kernel
theorem dX9_reads_58 : decode cX9_reads 58 = .ok (.invokevirtual 140, 3) := by decide +kernel
theorem dX9_reads_61 : decode cX9_reads 61 = .ok (.aload_n 0, 1) := by decide +kernel
theorem dX9_reads_62 : decode cX9_reads 62 = .ok (.aload_n 0, 1) := by decide +kernel
theorem dX9_reads_63 : decode cX9_reads 63 = .ok (.ldc 248, 2) := by decide +kernel
theorem dX9_reads_65 : decode cX9_reads 65 = .ok (.invokevirtual 179, 3) := by decide +kernel
theorem dX9_reads_68 : decode cX9_reads 68 = .ok (.ifCond .ne 7, 3) := by decide +kernel
theorem dX9_reads_71 : decode cX9_reads 71 = .ok (.iconst 1, 1) := by decide +kernel
theorem dX9_reads_72 : decode cX9_reads 72 = .ok (.goto 4, 3) := by decide +kernel
theorem dX9_reads_75 : decode cX9_reads 75 = .ok (.iconst 0, 1) := by decide +kernel
theorem dX9_reads_76 : decode cX9_reads 76 = .ok (.iconst 1, 1) := by decide +kernel
theorem dX9_reads_77 : decode cX9_reads 77 = .ok (.invokevirtual 159, 3) := by decide +kernel
theorem dX9_reads_80 : decode cX9_reads 80 = .ok (.aload_n 0, 1) := by decide +kernel
theorem dX9_reads_81 : decode cX9_reads 81 = .ok (.invokevirtual 156, 3) := by decide +kernel
theorem dX9_reads_84 : decode cX9_reads 84 = .ok (.aload_n 0, 1) := by decide +kernel
theorem dX9_reads_85 : decode cX9_reads 85 = .ok (.getfield 130, 3) := by decide +kernel
theorem dX9_reads_88 : decode cX9_reads 88 = .ok (.ifCond .ne 22, 3) := by decide +kernel
theorem dX9_reads_91 : decode cX9_reads 91 = .ok (.aload_n 0, 1) := by decide +kernel
theorem dX9_reads_92 : decode cX9_reads 92 = .ok (.getfield 117, 3) := by decide +kernel
theorem dX9_reads_95 : decode cX9_reads 95 = .ok (.iconst 3, 1) := by decide +kernel
theorem dX9_reads_96 : decode cX9_reads 96 = .ok (.if_icmp .ne 14, 3) := by decide +kernel
theorem dX9_reads_99 : decode cX9_reads 99 = .ok (.aload_n 0, 1) := by decide +kernel
theorem dX9_reads_100 : decode cX9_reads 100 = .ok (.invokevirtual 140, 3) := by decide +kernel
theorem dX9_reads_103 : decode cX9_reads 103 = .ok (.aload_n 0, 1) := by decide +kernel
theorem dX9_reads_104 : decode cX9_reads 104 = .ok (.invokevirtual 250, 3) := by decide +kernel
theorem dX9_reads_107 : decode cX9_reads 107 = .ok (.goto (-23), 3) := by decide +kernel
theorem dX9_reads_110 : decode cX9_reads 110 = .ok (.aload_n 0, 1) := by decide +kernel
theorem dX9_reads_111 : decode cX9_reads 111 = .ok (.aload_n 0, 1) := by decide +kernel
theorem dX9_reads_112 : decode cX9_reads 112 = .ok (.getfield 117, 3) := by decide +kernel
theorem dX9_reads_115 : decode cX9_reads 115 = .ok (.ifCond .eq 7, 3) := by decide +kernel
theorem dX9_reads_118 : decode cX9_reads 118 = .ok (.iconst 1, 1) := by decide +kernel
theorem dX9_reads_119 : decode cX9_reads 119 = .ok (.goto 4, 3) := by decide +kernel
theorem dX9_reads_122 : decode cX9_reads 122 = .ok (.iconst 0, 1) := by decide +kernel
theorem dX9_reads_123 : decode cX9_reads 123 = .ok (.iconst 1, 1) := by decide +kernel
theorem dX9_reads_124 : decode cX9_reads 124 = .ok (.invokevirtual 159, 3) := by decide +kernel
theorem dX9_reads_127 : decode cX9_reads 127 = .ok (.return_, 1) := by decide +kernel
theorem dX9_copies_0 : decode cX9_copies 0 = .ok (.iconst 0, 1) := by decide +kernel
theorem dX9_copies_1 : decode cX9_copies 1 = .ok (.istore_n 2, 1) := by decide +kernel
theorem dX9_copies_2 : decode cX9_copies 2 = .ok (.iload_n 2, 1) := by decide +kernel
theorem dX9_copies_3 : decode cX9_copies 3 = .ok (.aload_n 1, 1) := by decide +kernel
theorem dX9_copies_4 : decode cX9_copies 4 = .ok (.arraylength, 1) := by decide +kernel
theorem dX9_copies_5 : decode cX9_copies 5 = .ok (.if_icmp .ge 15, 3) := by decide +kernel
theorem dX9_copies_8 : decode cX9_copies 8 = .ok (.aload_n 1, 1) := by decide +kernel
theorem dX9_copies_9 : decode cX9_copies 9 = .ok (.iload_n 2, 1) := by decide +kernel
theorem dX9_copies_10 : decode cX9_copies 10 = .ok (.aload_n 0, 1) := by decide +kernel
theorem dX9_copies_11 : decode cX9_copies 11 = .ok (.iload_n 2, 1) := by decide +kernel
theorem dX9_copies_12 : decode cX9_copies 12 = .ok (.iaload, 1) := by decide +kernel
theorem dX9_copies_13 : decode cX9_copies 13 = .ok (.iastore, 1) := by decide +kernel
theorem dX9_copies_14 : decode cX9_copies 14 = .ok (.iinc 2 1, 3) := by decide +kernel
theorem dX9_copies_17 : decode cX9_copies 17 = .ok (.goto (-15), 3) := by decide +kernel
theorem dX9_copies_20 : decode cX9_copies 20 = .ok (.return_, 1) := by decide +kernel
theorem dX9_load_0 : decode cX9_load 0 = .ok (.aload_n 0, 1) := by decide +kernel
theorem dX9_load_1 : decode cX9_load 1 = .ok (.iconst 0, 1) := by decide +kernel
theorem dX9_load_2 : decode cX9_load 2 = .ok (.putfield 87, 3) := by decide +kernel
theorem dX9_load_5 : decode cX9_load 5 = .ok (.aload_n 0, 1) := by decide +kernel
theorem dX9_load_6 : decode cX9_load 6 = .ok (.iload_n 1, 1) := by decide +kernel
theorem dX9_load_7 : decode cX9_load 7 = .ok (.iconst 0, 1) := by decide +kernel
theorem dX9_load_8 : decode cX9_load 8 = .ok (.aload_n 0, 1) := by decide +kernel
theorem dX9_load_9 : decode cX9_load 9 = .ok (.getfield 98, 3) := by decide +kernel
theorem dX9_load_12 : decode cX9_load 12 = .ok (.invokestatic 152, 3) := by decide +kernel
theorem dX9_load_15 : decode cX9_load 15 = .ok (.ifCond .ne 7, 3) := by decide +kernel
theorem dX9_load_18 : decode cX9_load 18 = .ok (.iconst 1, 1) := by decide +kernel
theorem dX9_load_19 : decode cX9_load 19 = .ok (.goto 4, 3) := by decide +kernel
theorem dX9_load_22 : decode cX9_load 22 = .ok (.iconst 0, 1) := by decide +kernel
theorem dX9_load_23 : decode cX9_load 23 = .ok (.iconst 1, 1) := by decide +kernel
theorem dX9_load_24 : decode cX9_load 24 = .ok (.invokevirtual 94, 3) := by decide +kernel
theorem dX9_load_27 : decode cX9_load 27 = .ok (.ifCond .eq 5, 3) := by decide +kernel
theorem dX9_load_30 : decode cX9_load 30 = .ok (.iconst 0, 1) := by decide +kernel
theorem dX9_load_31 : decode cX9_load 31 = .ok (.ireturn, 1) := by decide +kernel
theorem dX9_load_32 : decode cX9_load 32 = .ok (.aload_n 0, 1) := by decide +kernel
theorem dX9_load_33 : decode cX9_load 33 = .ok (.iconst 0, 1) := by decide +kernel
theorem dX9_load_34 : decode cX9_load 34 = .ok (.putfield 98, 3) := by decide +kernel
theorem dX9_load_37 : decode cX9_load 37 = .ok (.aload_n 0, 1) := by decide +kernel
theorem dX9_load_38 : decode cX9_load 38 = .ok (.iload_n 1, 1) := by decide +kernel
theorem dX9_load_39 : decode cX9_load 39 = .ok (.invokevirtual 253, 3) := by decide +kernel
theorem dX9_load_42 : decode cX9_load 42 = .ok (.aload_n 0, 1) := by decide +kernel
theorem dX9_load_43 : decode cX9_load 43 = .ok (.aload_n 0, 1) := by decide +kernel
theorem dX9_load_44 : decode cX9_load 44 = .ok (.getfield 130, 3) := by decide +kernel
theorem dX9_load_47 : decode cX9_load 47 = .ok (.putfield 101, 3) := by decide +kernel
theorem dX9_load_50 : decode cX9_load 50 = .ok (.aload_n 0, 1) := by decide +kernel
theorem dX9_load_51 : decode cX9_load 51 = .ok (.aload_n 0, 1) := by decide +kernel
theorem dX9_load_52 : decode cX9_load 52 = .ok (.getfield 130, 3) := by decide +kernel
theorem dX9_load_55 : decode cX9_load 55 = .ok (.ifCond .ne 7, 3) := by decide +kernel
theorem dX9_load_58 : decode cX9_load 58 = .ok (.iconst (-1), 1) := by decide +kernel
theorem dX9_load_59 : decode cX9_load 59 = .ok (.goto 7, 3) := by decide +kernel
theorem dX9_load_62 : decode cX9_load 62 = .ok (.aload_n 0, 1) := by decide +kernel
theorem dX9_load_63 : decode cX9_load 63 = .ok (.getfield 133, 3) := by decide +kernel
theorem dX9_load_66 : decode cX9_load 66 = .ok (.putfield 44, 3) := by decide +kernel
theorem dX9_load_69 : decode cX9_load 69 = .ok (.aload_n 0, 1) := by decide +kernel
theorem dX9_load_70 : decode cX9_load 70 = .ok (.aload_n 0, 1) := by decide +kernel
theorem dX9_load_71 : decode cX9_load 71 = .ok (.getfield 130, 3) := by decide +kernel
theorem dX9_load_74 : decode cX9_load 74 = .ok (.ifCond .eq 7, 3) := by decide +kernel
theorem dX9_load_77 : decode cX9_load 77 = .ok (.iconst 1, 1) := by decide +kernel
theorem dX9_load_78 : decode cX9_load 78 = .ok (.goto 4, 3) := by decide +kernel
theorem dX9_load_81 : decode cX9_load 81 = .ok (.iconst 0, 1) := by decide +kernel
theorem dX9_load_82 : decode cX9_load 82 = .ok (.iconst 2, 1) := by decide +kernel
theorem dX9_load_83 : decode cX9_load 83 = .ok (.invokevirtual 94, 3) := by decide +kernel
theorem dX9_load_86 : decode cX9_load 86 = .ok (.ifCond .eq 5, 3) := by decide +kernel
theorem dX9_load_89 : decode cX9_load 89 = .ok (.iconst 0, 1) := by decide +kernel
theorem dX9_load_90 : decode cX9_load 90 = .ok (.ireturn, 1) := by decide +kernel
theorem dX9_load_91 : decode cX9_load 91 = .ok (.aload_n 0, 1) := by decide +kernel
theorem dX9_load_92 : decode cX9_load 92 = .ok (.iconst 1, 1) := by decide +kernel
theorem dX9_load_93 : decode cX9_load 93 = .ok (.putfield 90, 3) := by decide +kernel
theorem dX9_load_96 : decode cX9_load 96 = .ok (.aload_n 0, 1) := by decide +kernel
theorem dX9_load_97 : decode cX9_load 97 = .ok (.aload_n 0, 1) := by decide +kernel
theorem dX9_load_98 : decode cX9_load 98 = .ok (.getfield 170, 3) := by decide +kernel
theorem dX9_load_101 : decode cX9_load 101 = .ok (.putfield 256, 3) := by decide +kernel
theorem dX9_load_104 : decode cX9_load 104 = .ok (.aload_n 0, 1) := by decide +kernel
theorem dX9_load_105 : decode cX9_load 105 = .ok (.aload_n 0, 1) := by decide +kernel
theorem dX9_load_106 : decode cX9_load 106 = .ok (.getfield 218, 3) := by decide +kernel
theorem dX9_load_109 : decode cX9_load 109 = .ok (.putfield 259, 3) := by decide +kernel
theorem dX9_load_112 : decode cX9_load 112 = .ok (.aload_n 0, 1) := by decide +kernel
theorem dX9_load_113 : decode cX9_load 113 = .ok (.aload_n 0, 1) := by decide +kernel
theorem dX9_load_114 : decode cX9_load 114 = .ok (.getfield 225, 3) := by decide +kernel
theorem dX9_load_117 : decode cX9_load 117 = .ok (.putfield 262, 3) := by decide +kernel
theorem dX9_load_120 : decode cX9_load 120 = .ok (.aload_n 0, 1) := by decide +kernel
theorem dX9_load_121 : decode cX9_load 121 = .ok (.getfield 51, 3) := by decide +kernel
theorem dX9_load_124 : decode cX9_load 124 = .ok (.aload_n 0, 1) := by decide +kernel
theorem dX9_load_125 : decode cX9_load 125 = .ok (.getfield 7, 3) := by decide +kernel
theorem dX9_load_128 : decode cX9_load 128 = .ok (.invokestatic 265, 3) := by decide +kernel
theorem dX9_load_131 : decode cX9_load 131 = .ok (.aload_n 0, 1) := by decide +kernel
theorem dX9_load_132 : decode cX9_load 132 = .ok (.getfield 54, 3) := by decide +kernel
theorem dX9_load_135 : decode cX9_load 135 = .ok (.aload_n 0, 1) := by decide +kernel
theorem dX9_load_136 : decode cX9_load 136 = .ok (.getfield 13, 3) := by decide +kernel
theorem dX9_load_139 : decode cX9_load 139 = .ok (.invokestatic 265, 3) := by decide +kernel
theorem dX9_load_142 : decode cX9_load 142 = .ok (.aload_n 0, 1) := by decide +kernel
theorem dX9_load_143 : decode cX9_load 143 = .ok (.getfield 57, 3) := by decide +kernel
theorem dX9_load_146 : decode cX9_load 146 = .ok (.aload_n 0, 1) := by decide +kernel
theorem dX9_load_147 : decode cX9_load 147 = .ok (.getfield 16, 3) := by decide +kernel
theorem dX9_load_150 : decode cX9_load 150 = .ok (.invokestatic 265, 3) := by decide +kernel
theorem dX9_load_153 : decode cX9_load 153 = .ok (.aload_n 0, 1) := by decide +kernel
theorem dX9_load_154 : decode cX9_load 154 = .ok (.getfield 60, 3) := by decide +kernel
theorem dX9_load_157 : decode cX9_load 157 = .ok (.aload_n 0, 1) := by decide +kernel
theorem dX9_load_158 : decode cX9_load 158 = .ok (.getfield 19, 3) := by decide +kernel
theorem dX9_load_161 : decode cX9_load 161 = .ok (.invokestatic 265, 3) := by decide +kernel
theorem dX9_load_164 : decode cX9_load 164 = .ok (.aload_n 0, 1) := by decide +kernel
theorem dX9_load_165 : decode cX9_load 165 = .ok (.getfield 63, 3) := by decide +kernel
theorem dX9_load_168 : decode cX9_load 168 = .ok (.aload_n 0, 1) := by decide +kernel
theorem dX9_load_169 : decode cX9_load 169 = .ok (.getfield 22, 3) := by decide +kernel
theorem dX9_load_172 : decode cX9_load 172 = .ok (.invokestatic 265, 3) := by decide +kernel
theorem dX9_load_175 : decode cX9_load 175 = .ok (.aload_n 0, 1) := by decide +kernel
theorem dX9_load_176 : decode cX9_load 176 = .ok (.getfield 66, 3) := by decide +kernel
theorem dX9_load_179 : decode cX9_load 179 = .ok (.aload_n 0, 1) := by decide +kernel
theorem dX9_load_180 : decode cX9_load 180 = .ok (.getfield 25, 3) := by decide +kernel
theorem dX9_load_183 : decode cX9_load 183 = .ok (.invokestatic 265, 3) := by decide +kernel
theorem dX9_load_186 : decode cX9_load 186 = .ok (.aload_n 0, 1) := by decide +kernel
theorem dX9_load_187 : decode cX9_load 187 = .ok (.getfield 69, 3) := by decide +kernel
theorem dX9_load_190 : decode cX9_load 190 = .ok (.aload_n 0, 1) := by decide +kernel
theorem dX9_load_191 : decode cX9_load 191 = .ok (.getfield 28, 3) := by decide +kernel
theorem dX9_load_194 : decode cX9_load 194 = .ok (.invokestatic 265, 3) := by decide +kernel
theorem dX9_load_197 : decode cX9_load 197 = .ok (.aload_n 0, 1) := by decide +kernel
theorem dX9_load_198 : decode cX9_load 198 = .ok (.getfield 48, 3) := by decide +kernel
theorem dX9_load_201 : decode cX9_load 201 = .ok (.aload_n 0, 1) := by decide +kernel
theorem dX9_load_202 : decode cX9_load 202 = .ok (.getfield 31, 3) := by decide +kernel
theorem dX9_load_205 : decode cX9_load 205 = .ok (.invokestatic 265, 3) := by decide +kernel
theorem dX9_load_208 : decode cX9_load 208 = .ok (.aload_n 0, 1) := by decide +kernel
theorem dX9_load_209 : decode cX9_load 209 = .ok (.iconst 0, 1) := by decide +kernel
theorem dX9_load_210 : decode cX9_load 210 = .ok (.putfield 269, 3) := by decide +kernel
theorem dX9_load_213 : decode cX9_load 213 = .ok (.aload_n 0, 1) := by decide +kernel
theorem dX9_load_214 : decode cX9_load 214 = .ok (.getfield 37, 3) := by decide +kernel
theorem dX9_load_217 : decode cX9_load 217 = .ok (.iconst 0, 1) := by decide +kernel
theorem dX9_load_218 : decode cX9_load 218 = .ok (.iconst 0, 1) := by decide +kernel
theorem dX9_load_219 : decode cX9_load 219 = .ok (.bastore, 1) := by decide +kernel
theorem dX9_load_220 : decode cX9_load 220 = .ok (.aload_n 0, 1) := by decide +kernel
theorem dX9_load_221 : decode cX9_load 221 = .ok (.getfield 37, 3) := by decide +kernel
theorem dX9_load_224 : decode cX9_load 224 = .ok (.iconst 1, 1) := by decide +kernel
theorem dX9_load_225 : decode cX9_load 225 = .ok (.iconst 0, 1) := by decide +kernel
theorem dX9_load_226 : decode cX9_load 226 = .ok (.bastore, 1) := by decide +kernel
theorem dX9_load_227 : decode cX9_load 227 = .ok (.aload_n 0, 1) := by decide +kernel
theorem dX9_load_228 : decode cX9_load 228 = .ok (.getfield 259, 3) := by decide +kernel
theorem dX9_load_231 : decode cX9_load 231 = .ok (.ireturn, 1) := by decide +kernel
theorem dX9_count_0 : decode cX9_count 0 = .ok (.aload_n 0, 1) := by decide +kernel
theorem dX9_count_1 : decode cX9_count 1 = .ok (.invokevirtual 272, 3) := by decide +kernel
theorem dX9_count_4 : decode cX9_count 4 = .ok (.ifCond .ne 25, 3) := by decide +kernel
theorem dX9_count_7 : decode cX9_count 7 = .ok (.aload_n 0, 1) := by decide +kernel
theorem dX9_count_8 : decode cX9_count 8 = .ok (.iload_n 1, 1) := by decide +kernel
theorem dX9_count_9 : decode cX9_count 9 = .ok (.iconst 0, 1) := by decide +kernel
theorem dX9_count_10 : decode cX9_count 10 = .ok (.iconst 2, 1) := by decide +kernel
theorem dX9_count_11 : decode cX9_count 11 = .ok (.invokestatic 152, 3) := by decide +kernel
theorem dX9_count_14 : decode cX9_count 14 = .ok (.ifCond .ne 7, 3) := by decide +kernel
theorem dX9_count_17 : decode cX9_count 17 = .ok (.iconst 1, 1) := by decide +kernel
theorem dX9_count_18 : decode cX9_count 18 = .ok (.goto 4, 3) := by decide +kernel
theorem dX9_count_21 : decode cX9_count 21 = .ok (.iconst 0, 1) := by decide +kernel
theorem dX9_count_22 : decode cX9_count 22 = .ok (.iconst 2, 1) := by decide +kernel
theorem dX9_count_23 : decode cX9_count 23 = .ok (.invokevirtual 94, 3) := by decide +kernel
theorem dX9_count_26 : decode cX9_count 26 = .ok (.ifCond .eq 7, 3) := by decide +kernel
theorem dX9_count_29 : decode cX9_count 29 = .ok (.iconst 0, 1) := by decide +kernel
theorem dX9_count_30 : decode cX9_count 30 = .ok (.goto 30, 3) := by decide +kernel
theorem dX9_count_33 : decode cX9_count 33 = .ok (.iload_n 1, 1) := by decide +kernel
theorem dX9_count_34 : decode cX9_count 34 = .ok (.ifCond .ne 10, 3) := by decide +kernel
theorem dX9_count_37 : decode cX9_count 37 = .ok (.aload_n 0, 1) := by decide +kernel
theorem dX9_count_38 : decode cX9_count 38 = .ok (.getfield 256, 3) := by decide +kernel
theorem dX9_count_41 : decode cX9_count 41 = .ok (.goto 19, 3) := by decide +kernel
theorem dX9_count_44 : decode cX9_count 44 = .ok (.iload_n 1, 1) := by decide +kernel
theorem dX9_count_45 : decode cX9_count 45 = .ok (.iconst 1, 1) := by decide +kernel
theorem dX9_count_46 : decode cX9_count 46 = .ok (.if_icmp .ne 10, 3) := by decide +kernel
theorem dX9_count_49 : decode cX9_count 49 = .ok (.aload_n 0, 1) := by decide +kernel
theorem dX9_count_50 : decode cX9_count 50 = .ok (.getfield 259, 3) := by decide +kernel
theorem dX9_count_53 : decode cX9_count 53 = .ok (.goto 7, 3) := by decide +kernel
theorem dX9_count_56 : decode cX9_count 56 = .ok (.aload_n 0, 1) := by decide +kernel
theorem dX9_count_57 : decode cX9_count 57 = .ok (.getfield 262, 3) := by decide +kernel
theorem dX9_count_60 : decode cX9_count 60 = .ok (.ireturn, 1) := by decide +kernel
theorem dX9_nameLong_0 : decode cX9_nameLong 0 = .ok (.iconst 0, 1) := by decide +kernel
theorem dX9_nameLong_1 : decode cX9_nameLong 1 = .ok (.istore_n 2, 1) := by decide +kernel
theorem dX9_nameLong_2 : decode cX9_nameLong 2 = .ok (.iload_n 2, 1) := by decide +kernel
theorem dX9_nameLong_3 : decode cX9_nameLong 3 = .ok (.bipush 10, 2) := by decide +kernel
theorem dX9_nameLong_5 : decode cX9_nameLong 5 = .ok (.if_icmp .ge 23, 3) := by decide +kernel
theorem dX9_nameLong_8 : decode cX9_nameLong 8 = .ok (.aload_n 0, 1) := by decide +kernel
theorem dX9_nameLong_9 : decode cX9_nameLong 9 = .ok (.getfield 28, 3) := by decide +kernel
theorem dX9_nameLong_12 : decode cX9_nameLong 12 = .ok (.bipush 10, 2) := by decide +kernel
theorem dX9_nameLong_14 : decode cX9_nameLong 14 = .ok (.iload_n 1, 1) := by decide +kernel
theorem dX9_nameLong_15 : decode cX9_nameLong 15 = .ok (.imul, 1) := by decide +kernel
theorem dX9_nameLong_16 : decode cX9_nameLong 16 = .ok (.iload_n 2, 1) := by decide +kernel
theorem dX9_nameLong_17 : decode cX9_nameLong 17 = .ok (.iadd, 1) := by decide +kernel
theorem dX9_nameLong_18 : decode cX9_nameLong 18 = .ok (.iaload, 1) := by decide +kernel
theorem dX9_nameLong_19 : decode cX9_nameLong 19 = .ok (.ifCond .eq 9, 3) := by decide +kernel
theorem dX9_nameLong_22 : decode cX9_nameLong 22 = .ok (.iinc 2 1, 3) := by decide +kernel
theorem dX9_nameLong_25 : decode cX9_nameLong 25 = .ok (.goto (-23), 3) := by decide +kernel
theorem dX9_nameLong_28 : decode cX9_nameLong 28 = .ok (.iload_n 2, 1) := by decide +kernel
theorem dX9_nameLong_29 : decode cX9_nameLong 29 = .ok (.ireturn, 1) := by decide +kernel
theorem dX9_letter_0 : decode cX9_letter 0 = .ok (.aload_n 0, 1) := by decide +kernel
theorem dX9_letter_1 : decode cX9_letter 1 = .ok (.invokevirtual 272, 3) := by decide +kernel
theorem dX9_letter_4 : decode cX9_letter 4 = .ok (.ifCond .ne 25, 3) := by decide +kernel
theorem dX9_letter_7 : decode cX9_letter 7 = .ok (.aload_n 0, 1) := by decide +kernel
theorem dX9_letter_8 : decode cX9_letter 8 = .ok (.iload_n 1, 1) := by decide +kernel
theorem dX9_letter_9 : decode cX9_letter 9 = .ok (.iconst 0, 1) := by decide +kernel
theorem dX9_letter_10 : decode cX9_letter 10 = .ok (.iconst 2, 1) := by decide +kernel
theorem dX9_letter_11 : decode cX9_letter 11 = .ok (.invokestatic 152, 3) := by decide +kernel
theorem dX9_letter_14 : decode cX9_letter 14 = .ok (.ifCond .ne 7, 3) := by decide +kernel
theorem dX9_letter_17 : decode cX9_letter 17 = .ok (.iconst 1, 1) := by decide +kernel
theorem dX9_letter_18 : decode cX9_letter 18 = .ok (.goto 4, 3) := by decide +kernel
theorem dX9_letter_21 : decode cX9_letter 21 = .ok (.iconst 0, 1) := by decide +kernel
theorem dX9_letter_22 : decode cX9_letter 22 = .ok (.iconst 3, 1) := by decide +kernel
theorem dX9_letter_23 : decode cX9_letter 23 = .ok (.invokevirtual 94, 3) := by decide +kernel
theorem dX9_letter_26 : decode cX9_letter 26 = .ok (.ifCond .eq 5, 3) := by decide +kernel
theorem dX9_letter_29 : decode cX9_letter 29 = .ok (.iconst 0, 1) := by decide +kernel
theorem dX9_letter_30 : decode cX9_letter 30 = .ok (.ireturn, 1) := by decide +kernel
theorem dX9_letter_31 : decode cX9_letter 31 = .ok (.iload_n 1, 1) := by decide +kernel
theorem dX9_letter_32 : decode cX9_letter 32 = .ok (.ifCond .ne 10, 3) := by decide +kernel
theorem dX9_letter_35 : decode cX9_letter 35 = .ok (.aload_n 0, 1) := by decide +kernel
theorem dX9_letter_36 : decode cX9_letter 36 = .ok (.getfield 256, 3) := by decide +kernel
theorem dX9_letter_39 : decode cX9_letter 39 = .ok (.goto 19, 3) := by decide +kernel
theorem dX9_letter_42 : decode cX9_letter 42 = .ok (.iload_n 1, 1) := by decide +kernel
theorem dX9_letter_43 : decode cX9_letter 43 = .ok (.iconst 1, 1) := by decide +kernel
theorem dX9_letter_44 : decode cX9_letter 44 = .ok (.if_icmp .ne 10, 3) := by decide +kernel
theorem dX9_letter_47 : decode cX9_letter 47 = .ok (.aload_n 0, 1) := by decide +kernel
theorem dX9_letter_48 : decode cX9_letter 48 = .ok (.getfield 259, 3) := by decide +kernel
theorem dX9_letter_51 : decode cX9_letter 51 = .ok (.goto 7, 3) := by decide +kernel
theorem dX9_letter_54 : decode cX9_letter 54 = .ok (.aload_n 0, 1) := by decide +kernel
theorem dX9_letter_55 : decode cX9_letter 55 = .ok (.getfield 262, 3) := by decide +kernel
theorem dX9_letter_58 : decode cX9_letter 58 = .ok (.istore 4, 2) := by decide +kernel
theorem dX9_letter_60 : decode cX9_letter 60 = .ok (.aload_n 0, 1) := by decide +kernel
theorem dX9_letter_61 : decode cX9_letter 61 = .ok (.iload_n 2, 1) := by decide +kernel
theorem dX9_letter_62 : decode cX9_letter 62 = .ok (.iconst 0, 1) := by decide +kernel
theorem dX9_letter_63 : decode cX9_letter 63 = .ok (.iload 4, 2) := by decide +kernel
theorem dX9_letter_65 : decode cX9_letter 65 = .ok (.iconst 1, 1) := by decide +kernel
theorem dX9_letter_66 : decode cX9_letter 66 = .ok (.isub, 1) := by decide +kernel
theorem dX9_letter_67 : decode cX9_letter 67 = .ok (.invokestatic 152, 3) := by decide +kernel
theorem dX9_letter_70 : decode cX9_letter 70 = .ok (.ifCond .ne 7, 3) := by decide +kernel
theorem dX9_letter_73 : decode cX9_letter 73 = .ok (.iconst 1, 1) := by decide +kernel
theorem dX9_letter_74 : decode cX9_letter 74 = .ok (.goto 4, 3) := by decide +kernel
theorem dX9_letter_77 : decode cX9_letter 77 = .ok (.iconst 0, 1) := by decide +kernel
theorem dX9_letter_78 : decode cX9_letter 78 = .ok (.iconst 2, 1) := by decide +kernel
theorem dX9_letter_79 : decode cX9_letter 79 = .ok (.invokevirtual 94, 3) := by decide +kernel
theorem dX9_letter_82 : decode cX9_letter 82 = .ok (.ifCond .ne 36, 3) := by decide +kernel
theorem dX9_letter_85 : decode cX9_letter 85 = .ok (.aload_n 0, 1) := by decide +kernel
theorem dX9_letter_86 : decode cX9_letter 86 = .ok (.iload_n 3, 1) := by decide +kernel
theorem dX9_letter_87 : decode cX9_letter 87 = .ok (.iconst 0, 1) := by decide +kernel
theorem dX9_letter_88 : decode cX9_letter 88 = .ok (.aload_n 0, 1) := by decide +kernel
theorem dX9_letter_89 : decode cX9_letter 89 = .ok (.bipush 6, 2) := by decide +kernel
theorem dX9_letter_91 : decode cX9_letter 91 = .ok (.iload_n 1, 1) := by decide +kernel
theorem dX9_letter_92 : decode cX9_letter 92 = .ok (.imul, 1) := by decide +kernel
theorem dX9_letter_93 : decode cX9_letter 93 = .ok (.iload_n 2, 1) := by decide +kernel
theorem dX9_letter_94 : decode cX9_letter 94 = .ok (.iadd, 1) := by decide +kernel
theorem dX9_letter_95 : decode cX9_letter 95 = .ok (.invokevirtual 276, 3) := by decide +kernel
theorem dX9_letter_98 : decode cX9_letter 98 = .ok (.iconst 1, 1) := by decide +kernel
theorem dX9_letter_99 : decode cX9_letter 99 = .ok (.isub, 1) := by decide +kernel
theorem dX9_letter_100 : decode cX9_letter 100 = .ok (.invokestatic 152, 3) := by decide +kernel
theorem dX9_letter_103 : decode cX9_letter 103 = .ok (.ifCond .ne 7, 3) := by decide +kernel
theorem dX9_letter_106 : decode cX9_letter 106 = .ok (.iconst 1, 1) := by decide +kernel
theorem dX9_letter_107 : decode cX9_letter 107 = .ok (.goto 4, 3) := by decide +kernel
theorem dX9_letter_110 : decode cX9_letter 110 = .ok (.iconst 0, 1) := by decide +kernel
theorem dX9_letter_111 : decode cX9_letter 111 = .ok (.iconst 2, 1) := by decide +kernel
theorem dX9_letter_112 : decode cX9_letter 112 = .ok (.invokevirtual 94, 3) := by decide +kernel
theorem dX9_letter_115 : decode cX9_letter 115 = .ok (.ifCond .eq 5, 3) := by decide +kernel
theorem dX9_letter_118 : decode cX9_letter 118 = .ok (.iconst 0, 1) := by decide +kernel
theorem dX9_letter_119 : decode cX9_letter 119 = .ok (.ireturn, 1) := by decide +kernel
theorem dX9_letter_120 : decode cX9_letter 120 = .ok (.aload_n 0, 1) := by decide +kernel
theorem dX9_letter_121 : decode cX9_letter 121 = .ok (.getfield 28, 3) := by decide +kernel
theorem dX9_letter_124 : decode cX9_letter 124 = .ok (.bipush 10, 2) := by decide +kernel
theorem dX9_letter_126 : decode cX9_letter 126 = .ok (.bipush 6, 2) := by decide +kernel
theorem dX9_letter_128 : decode cX9_letter 128 = .ok (.iload_n 1, 1) := by decide +kernel
theorem dX9_letter_129 : decode cX9_letter 129 = .ok (.imul, 1) := by decide +kernel
theorem dX9_letter_130 : decode cX9_letter 130 = .ok (.iload_n 2, 1) := by decide +kernel
theorem dX9_letter_131 : decode cX9_letter 131 = .ok (.iadd, 1) := by decide +kernel
theorem dX9_letter_132 : decode cX9_letter 132 = .ok (.imul, 1) := by decide +kernel
theorem dX9_letter_133 : decode cX9_letter 133 = .ok (.iload_n 3, 1) := by decide +kernel
theorem dX9_letter_134 : decode cX9_letter 134 = .ok (.iadd, 1) := by decide +kernel
theorem dX9_letter_135 : decode cX9_letter 135 = .ok (.iaload, 1) := by decide +kernel
theorem dX9_letter_136 : decode cX9_letter 136 = .ok (.ireturn, 1) := by decide +kernel
theorem dX9_noGroup_0 : decode cX9_noGroup 0 = .ok (.aload_n 0, 1) := by decide +kernel
theorem dX9_noGroup_1 : decode cX9_noGroup 1 = .ok (.invokevirtual 272, 3) := by decide +kernel
theorem dX9_noGroup_4 : decode cX9_noGroup 4 = .ok (.ifCond .ne 30, 3) := by decide +kernel
theorem dX9_noGroup_7 : decode cX9_noGroup 7 = .ok (.aload_n 0, 1) := by decide +kernel
theorem dX9_noGroup_8 : decode cX9_noGroup 8 = .ok (.iload_n 1, 1) := by decide +kernel
theorem dX9_noGroup_9 : decode cX9_noGroup 9 = .ok (.iconst 0, 1) := by decide +kernel
theorem dX9_noGroup_10 : decode cX9_noGroup 10 = .ok (.aload_n 0, 1) := by decide +kernel
theorem dX9_noGroup_11 : decode cX9_noGroup 11 = .ok (.getfield 256, 3) := by decide +kernel
theorem dX9_noGroup_14 : decode cX9_noGroup 14 = .ok (.iconst 1, 1) := by decide +kernel
theorem dX9_noGroup_15 : decode cX9_noGroup 15 = .ok (.isub, 1) := by decide +kernel
theorem dX9_noGroup_16 : decode cX9_noGroup 16 = .ok (.invokestatic 152, 3) := by decide +kernel
theorem dX9_noGroup_19 : decode cX9_noGroup 19 = .ok (.ifCond .ne 7, 3) := by decide +kernel
theorem dX9_noGroup_22 : decode cX9_noGroup 22 = .ok (.iconst 1, 1) := by decide +kernel
theorem dX9_noGroup_23 : decode cX9_noGroup 23 = .ok (.goto 4, 3) := by decide +kernel
theorem dX9_noGroup_26 : decode cX9_noGroup 26 = .ok (.iconst 0, 1) := by decide +kernel
theorem dX9_noGroup_27 : decode cX9_noGroup 27 = .ok (.iconst 2, 1) := by decide +kernel
theorem dX9_noGroup_28 : decode cX9_noGroup 28 = .ok (.invokevirtual 94, 3) := by decide +kernel
theorem dX9_noGroup_31 : decode cX9_noGroup 31 = .ok (.ifCond .eq 7, 3) := by decide +kernel
theorem dX9_noGroup_34 : decode cX9_noGroup 34 = .ok (.iconst 1, 1) := by decide +kernel
theorem dX9_noGroup_35 : decode cX9_noGroup 35 = .ok (.goto 4, 3) := by decide +kernel
theorem dX9_noGroup_38 : decode cX9_noGroup 38 = .ok (.iconst 0, 1) := by decide +kernel
theorem dX9_noGroup_39 : decode cX9_noGroup 39 = .ok (.ireturn, 1) := by decide +kernel
theorem dX9_noElement_0 : decode cX9_noElement 0 = .ok (.aload_n 0, 1) := by decide +kernel
theorem dX9_noElement_1 : decode cX9_noElement 1 = .ok (.iload_n 1, 1) := by decide +kernel
theorem dX9_noElement_2 : decode cX9_noElement 2 = .ok (.invokevirtual 279, 3) := by decide +kernel
theorem dX9_noElement_5 : decode cX9_noElement 5 = .ok (.ifCond .ne 32, 3) := by decide +kernel
theorem dX9_noElement_8 : decode cX9_noElement 8 = .ok (.aload_n 0, 1) := by decide +kernel
theorem dX9_noElement_9 : decode cX9_noElement 9 = .ok (.iload_n 2, 1) := by decide +kernel
theorem dX9_noElement_10 : decode cX9_noElement 10 = .ok (.iconst 0, 1) := by decide +kernel
theorem dX9_noElement_11 : decode cX9_noElement 11 = .ok (.aload_n 0, 1) := by decide +kernel
theorem dX9_noElement_12 : decode cX9_noElement 12 = .ok (.getfield 7, 3) := by decide +kernel
theorem dX9_noElement_15 : decode cX9_noElement 15 = .ok (.iload_n 1, 1) := by decide +kernel
theorem dX9_noElement_16 : decode cX9_noElement 16 = .ok (.iaload, 1) := by decide +kernel
theorem dX9_noElement_17 : decode cX9_noElement 17 = .ok (.iconst 1, 1) := by decide +kernel
theorem dX9_noElement_18 : decode cX9_noElement 18 = .ok (.isub, 1) := by decide +kernel
theorem dX9_noElement_19 : decode cX9_noElement 19 = .ok (.invokestatic 152, 3) := by decide +kernel
theorem dX9_noElement_22 : decode cX9_noElement 22 = .ok (.ifCond .ne 7, 3) := by decide +kernel
theorem dX9_noElement_25 : decode cX9_noElement 25 = .ok (.iconst 1, 1) := by decide +kernel
theorem dX9_noElement_26 : decode cX9_noElement 26 = .ok (.goto 4, 3) := by decide +kernel
theorem dX9_noElement_29 : decode cX9_noElement 29 = .ok (.iconst 0, 1) := by decide +kernel
theorem dX9_noElement_30 : decode cX9_noElement 30 = .ok (.iconst 2, 1) := by decide +kernel
theorem dX9_noElement_31 : decode cX9_noElement 31 = .ok (.invokevirtual 94, 3) := by decide +kernel
theorem dX9_noElement_34 : decode cX9_noElement 34 = .ok (.ifCond .eq 7, 3) := by decide +kernel
theorem dX9_noElement_37 : decode cX9_noElement 37 = .ok (.iconst 1, 1) := by decide +kernel
theorem dX9_noElement_38 : decode cX9_noElement 38 = .ok (.goto 4, 3) := by decide +kernel
theorem dX9_noElement_41 : decode cX9_noElement 41 = .ok (.iconst 0, 1) := by decide +kernel
theorem dX9_noElement_42 : decode cX9_noElement 42 = .ok (.ireturn, 1) := by decide +kernel
theorem dX9_size_0 : decode cX9_size 0 = .ok (.aload_n 0, 1) := by decide +kernel
theorem dX9_size_1 : decode cX9_size 1 = .ok (.iload_n 1, 1) := by decide +kernel
theorem dX9_size_2 : decode cX9_size 2 = .ok (.invokevirtual 279, 3) := by decide +kernel
theorem dX9_size_5 : decode cX9_size 5 = .ok (.ifCond .eq 7, 3) := by decide +kernel
theorem dX9_size_8 : decode cX9_size 8 = .ok (.iconst 0, 1) := by decide +kernel
theorem dX9_size_9 : decode cX9_size 9 = .ok (.goto 9, 3) := by decide +kernel
theorem dX9_size_12 : decode cX9_size 12 = .ok (.aload_n 0, 1) := by decide +kernel
theorem dX9_size_13 : decode cX9_size 13 = .ok (.getfield 7, 3) := by decide +kernel
theorem dX9_size_16 : decode cX9_size 16 = .ok (.iload_n 1, 1) := by decide +kernel
theorem dX9_size_17 : decode cX9_size 17 = .ok (.iaload, 1) := by decide +kernel
theorem dX9_size_18 : decode cX9_size 18 = .ok (.ireturn, 1) := by decide +kernel
theorem dX9_of_0 : decode cX9_of 0 = .ok (.aload_n 0, 1) := by decide +kernel
theorem dX9_of_1 : decode cX9_of 1 = .ok (.getfield 13, 3) := by decide +kernel
theorem dX9_of_4 : decode cX9_of 4 = .ok (.bipush 64, 2) := by decide +kernel
theorem dX9_of_6 : decode cX9_of 6 = .ok (.iload_n 1, 1) := by decide +kernel
theorem dX9_of_7 : decode cX9_of 7 = .ok (.imul, 1) := by decide +kernel
theorem dX9_of_8 : decode cX9_of 8 = .ok (.bipush 8, 2) := by decide +kernel
theorem dX9_of_10 : decode cX9_of 10 = .ok (.iload_n 2, 1) := by decide +kernel
theorem dX9_of_11 : decode cX9_of 11 = .ok (.imul, 1) := by decide +kernel
theorem dX9_of_12 : decode cX9_of 12 = .ok (.iadd, 1) := by decide +kernel
theorem dX9_of_13 : decode cX9_of 13 = .ok (.iload_n 3, 1) := by decide +kernel
theorem dX9_of_14 : decode cX9_of 14 = .ok (.iadd, 1) := by decide +kernel
theorem dX9_of_15 : decode cX9_of 15 = .ok (.iaload, 1) := by decide +kernel
theorem dX9_of_16 : decode cX9_of 16 = .ok (.ireturn, 1) := by decide +kernel
theorem dX9_times_0 : decode cX9_times 0 = .ok (.aload_n 0, 1) := by decide +kernel
theorem dX9_times_1 : decode cX9_times 1 = .ok (.iload_n 1, 1) := by decide +kernel
theorem dX9_times_2 : decode cX9_times 2 = .ok (.iload_n 2, 1) := by decide +kernel
theorem dX9_times_3 : decode cX9_times 3 = .ok (.invokevirtual 282, 3) := by decide +kernel
theorem dX9_times_6 : decode cX9_times 6 = .ok (.ifCond .ne 12, 3) := by decide +kernel
theorem dX9_times_9 : decode cX9_times 9 = .ok (.aload_n 0, 1) := by decide +kernel
theorem dX9_times_10 : decode cX9_times 10 = .ok (.iload_n 1, 1) := by decide +kernel
theorem dX9_times_11 : decode cX9_times 11 = .ok (.iload_n 3, 1) := by decide +kernel
theorem dX9_times_12 : decode cX9_times 12 = .ok (.invokevirtual 282, 3) := by decide +kernel
theorem dX9_times_15 : decode cX9_times 15 = .ok (.ifCond .eq 7, 3) := by decide +kernel
theorem dX9_times_18 : decode cX9_times 18 = .ok (.iconst 0, 1) := by decide +kernel
theorem dX9_times_19 : decode cX9_times 19 = .ok (.goto 10, 3) := by decide +kernel
theorem dX9_times_22 : decode cX9_times 22 = .ok (.aload_n 0, 1) := by decide +kernel
theorem dX9_times_23 : decode cX9_times 23 = .ok (.iload_n 1, 1) := by decide +kernel
theorem dX9_times_24 : decode cX9_times 24 = .ok (.iload_n 2, 1) := by decide +kernel
theorem dX9_times_25 : decode cX9_times 25 = .ok (.iload_n 3, 1) := by decide +kernel
theorem dX9_times_26 : decode cX9_times 26 = .ok (.invokevirtual 285, 3) := by decide +kernel
theorem dX9_times_29 : decode cX9_times 29 = .ok (.ireturn, 1) := by decide +kernel
theorem dX9_inverseOf_0 : decode cX9_inverseOf 0 = .ok (.iconst 0, 1) := by decide +kernel
theorem dX9_inverseOf_1 : decode cX9_inverseOf 1 = .ok (.istore_n 3, 1) := by decide +kernel
theorem dX9_inverseOf_2 : decode cX9_inverseOf 2 = .ok (.aload_n 0, 1) := by decide +kernel
theorem dX9_inverseOf_3 : decode cX9_inverseOf 3 = .ok (.iload_n 1, 1) := by decide +kernel
theorem dX9_inverseOf_4 : decode cX9_inverseOf 4 = .ok (.iload_n 2, 1) := by decide +kernel
theorem dX9_inverseOf_5 : decode cX9_inverseOf 5 = .ok (.iload_n 3, 1) := by decide +kernel
theorem dX9_inverseOf_6 : decode cX9_inverseOf 6 = .ok (.invokevirtual 285, 3) := by decide +kernel
theorem dX9_inverseOf_9 : decode cX9_inverseOf 9 = .ok (.ifCond .eq 9, 3) := by decide +kernel
theorem dX9_inverseOf_12 : decode cX9_inverseOf 12 = .ok (.iinc 3 1, 3) := by decide +kernel
theorem dX9_inverseOf_15 : decode cX9_inverseOf 15 = .ok (.goto (-13), 3) := by decide +kernel
theorem dX9_inverseOf_18 : decode cX9_inverseOf 18 = .ok (.iload_n 3, 1) := by decide +kernel
theorem dX9_inverseOf_19 : decode cX9_inverseOf 19 = .ok (.ireturn, 1) := by decide +kernel
theorem dX9_inverse_0 : decode cX9_inverse 0 = .ok (.aload_n 0, 1) := by decide +kernel
theorem dX9_inverse_1 : decode cX9_inverse 1 = .ok (.iload_n 1, 1) := by decide +kernel
theorem dX9_inverse_2 : decode cX9_inverse 2 = .ok (.iload_n 2, 1) := by decide +kernel
theorem dX9_inverse_3 : decode cX9_inverse 3 = .ok (.invokevirtual 282, 3) := by decide +kernel
theorem dX9_inverse_6 : decode cX9_inverse 6 = .ok (.ifCond .eq 7, 3) := by decide +kernel
theorem dX9_inverse_9 : decode cX9_inverse 9 = .ok (.iconst 0, 1) := by decide +kernel
theorem dX9_inverse_10 : decode cX9_inverse 10 = .ok (.goto 9, 3) := by decide +kernel
theorem dX9_inverse_13 : decode cX9_inverse 13 = .ok (.aload_n 0, 1) := by decide +kernel
theorem dX9_inverse_14 : decode cX9_inverse 14 = .ok (.iload_n 1, 1) := by decide +kernel
theorem dX9_inverse_15 : decode cX9_inverse 15 = .ok (.iload_n 2, 1) := by decide +kernel
theorem dX9_inverse_16 : decode cX9_inverse 16 = .ok (.invokevirtual 289, 3) := by decide +kernel
theorem dX9_inverse_19 : decode cX9_inverse 19 = .ok (.ireturn, 1) := by decide +kernel
theorem dX9_orderIn_0 : decode cX9_orderIn 0 = .ok (.iconst 1, 1) := by decide +kernel
theorem dX9_orderIn_1 : decode cX9_orderIn 1 = .ok (.istore_n 3, 1) := by decide +kernel
theorem dX9_orderIn_2 : decode cX9_orderIn 2 = .ok (.iload_n 2, 1) := by decide +kernel
theorem dX9_orderIn_3 : decode cX9_orderIn 3 = .ok (.istore 4, 2) := by decide +kernel
theorem dX9_orderIn_5 : decode cX9_orderIn 5 = .ok (.iload 4, 2) := by decide +kernel
theorem dX9_orderIn_7 : decode cX9_orderIn 7 = .ok (.ifCond .eq 19, 3) := by decide +kernel
theorem dX9_orderIn_10 : decode cX9_orderIn 10 = .ok (.iinc 3 1, 3) := by decide +kernel
theorem dX9_orderIn_13 : decode cX9_orderIn 13 = .ok (.aload_n 0, 1) := by decide +kernel
theorem dX9_orderIn_14 : decode cX9_orderIn 14 = .ok (.iload_n 1, 1) := by decide +kernel
theorem dX9_orderIn_15 : decode cX9_orderIn 15 = .ok (.iload 4, 2) := by decide +kernel
theorem dX9_orderIn_17 : decode cX9_orderIn 17 = .ok (.iload_n 2, 1) := by decide +kernel
theorem dX9_orderIn_18 : decode cX9_orderIn 18 = .ok (.invokevirtual 285, 3) := by decide +kernel
theorem dX9_orderIn_21 : decode cX9_orderIn 21 = .ok (.istore 4, 2) := by decide +kernel
theorem dX9_orderIn_23 : decode cX9_orderIn 23 = .ok (.goto (-18), 3) := by decide +kernel
theorem dX9_orderIn_26 : decode cX9_orderIn 26 = .ok (.iload_n 3, 1) := by decide +kernel
theorem dX9_orderIn_27 : decode cX9_orderIn 27 = .ok (.ireturn, 1) := by decide +kernel
theorem dX9_orderOf_0 : decode cX9_orderOf 0 = .ok (.aload_n 0, 1) := by decide +kernel
theorem dX9_orderOf_1 : decode cX9_orderOf 1 = .ok (.iload_n 1, 1) := by decide +kernel
theorem dX9_orderOf_2 : decode cX9_orderOf 2 = .ok (.iload_n 2, 1) := by decide +kernel
theorem dX9_orderOf_3 : decode cX9_orderOf 3 = .ok (.invokevirtual 282, 3) := by decide +kernel
theorem dX9_orderOf_6 : decode cX9_orderOf 6 = .ok (.ifCond .eq 7, 3) := by decide +kernel
theorem dX9_orderOf_9 : decode cX9_orderOf 9 = .ok (.iconst 0, 1) := by decide +kernel
theorem dX9_orderOf_10 : decode cX9_orderOf 10 = .ok (.goto 9, 3) := by decide +kernel
theorem dX9_orderOf_13 : decode cX9_orderOf 13 = .ok (.aload_n 0, 1) := by decide +kernel
theorem dX9_orderOf_14 : decode cX9_orderOf 14 = .ok (.iload_n 1, 1) := by decide +kernel
theorem dX9_orderOf_15 : decode cX9_orderOf 15 = .ok (.iload_n 2, 1) := by decide +kernel
theorem dX9_orderOf_16 : decode cX9_orderOf 16 = .ok (.invokevirtual 292, 3) := by decide +kernel
theorem dX9_orderOf_19 : decode cX9_orderOf 19 = .ok (.ireturn, 1) := by decide +kernel
theorem dX9_centreOf_0 : decode cX9_centreOf 0 = .ok (.iconst 0, 1) := by decide +kernel
theorem dX9_centreOf_1 : decode cX9_centreOf 1 = .ok (.istore_n 2, 1) := by decide +kernel
theorem dX9_centreOf_2 : decode cX9_centreOf 2 = .ok (.iconst 0, 1) := by decide +kernel
theorem dX9_centreOf_3 : decode cX9_centreOf 3 = .ok (.istore_n 3, 1) := by decide +kernel
theorem dX9_centreOf_4 : decode cX9_centreOf 4 = .ok (.iload_n 3, 1) := by decide +kernel
theorem dX9_centreOf_5 : decode cX9_centreOf 5 = .ok (.aload_n 0, 1) := by decide +kernel
theorem dX9_centreOf_6 : decode cX9_centreOf 6 = .ok (.getfield 7, 3) := by decide +kernel
theorem dX9_centreOf_9 : decode cX9_centreOf 9 = .ok (.iload_n 1, 1) := by decide +kernel
theorem dX9_centreOf_10 : decode cX9_centreOf 10 = .ok (.iaload, 1) := by decide +kernel
theorem dX9_centreOf_11 : decode cX9_centreOf 11 = .ok (.if_icmp .ge 78, 3) := by decide +kernel
theorem dX9_centreOf_14 : decode cX9_centreOf 14 = .ok (.iconst 1, 1) := by decide +kernel
theorem dX9_centreOf_15 : decode cX9_centreOf 15 = .ok (.istore 4, 2) := by decide +kernel
theorem dX9_centreOf_17 : decode cX9_centreOf 17 = .ok (.iconst 0, 1) := by decide +kernel
theorem dX9_centreOf_18 : decode cX9_centreOf 18 = .ok (.istore 5, 2) := by decide +kernel
theorem dX9_centreOf_20 : decode cX9_centreOf 20 = .ok (.iload 5, 2) := by decide +kernel
theorem dX9_centreOf_22 : decode cX9_centreOf 22 = .ok (.aload_n 0, 1) := by decide +kernel
theorem dX9_centreOf_23 : decode cX9_centreOf 23 = .ok (.getfield 7, 3) := by decide +kernel
theorem dX9_centreOf_26 : decode cX9_centreOf 26 = .ok (.iload_n 1, 1) := by decide +kernel
theorem dX9_centreOf_27 : decode cX9_centreOf 27 = .ok (.iaload, 1) := by decide +kernel
theorem dX9_centreOf_28 : decode cX9_centreOf 28 = .ok (.if_icmp .ge 40, 3) := by decide +kernel
theorem dX9_centreOf_31 : decode cX9_centreOf 31 = .ok (.iload 4, 2) := by decide +kernel
theorem dX9_centreOf_33 : decode cX9_centreOf 33 = .ok (.ifCond .eq 26, 3) := by decide +kernel
theorem dX9_centreOf_36 : decode cX9_centreOf 36 = .ok (.aload_n 0, 1) := by decide +kernel
theorem dX9_centreOf_37 : decode cX9_centreOf 37 = .ok (.iload_n 1, 1) := by decide +kernel
theorem dX9_centreOf_38 : decode cX9_centreOf 38 = .ok (.iload_n 3, 1) := by decide +kernel
theorem dX9_centreOf_39 : decode cX9_centreOf 39 = .ok (.iload 5, 2) := by decide +kernel
theorem dX9_centreOf_41 : decode cX9_centreOf 41 = .ok (.invokevirtual 285, 3) := by decide +kernel
theorem dX9_centreOf_44 : decode cX9_centreOf 44 = .ok (.aload_n 0, 1) := by decide +kernel
theorem dX9_centreOf_45 : decode cX9_centreOf 45 = .ok (.iload_n 1, 1) := by decide +kernel
theorem dX9_centreOf_46 : decode cX9_centreOf 46 = .ok (.iload 5, 2) := by decide +kernel
theorem dX9_centreOf_48 : decode cX9_centreOf 48 = .ok (.iload_n 3, 1) := by decide +kernel
theorem dX9_centreOf_49 : decode cX9_centreOf 49 = .ok (.invokevirtual 285, 3) := by decide +kernel
theorem dX9_centreOf_52 : decode cX9_centreOf 52 = .ok (.if_icmp .ne 7, 3) := by decide +kernel
theorem dX9_centreOf_55 : decode cX9_centreOf 55 = .ok (.iconst 1, 1) := by decide +kernel
theorem dX9_centreOf_56 : decode cX9_centreOf 56 = .ok (.goto 4, 3) := by decide +kernel
theorem dX9_centreOf_59 : decode cX9_centreOf 59 = .ok (.iconst 0, 1) := by decide +kernel
theorem dX9_centreOf_60 : decode cX9_centreOf 60 = .ok (.istore 4, 2) := by decide +kernel
theorem dX9_centreOf_62 : decode cX9_centreOf 62 = .ok (.iinc 5 1, 3) := by decide +kernel
theorem dX9_centreOf_65 : decode cX9_centreOf 65 = .ok (.goto (-45), 3) := by decide +kernel
theorem dX9_centreOf_68 : decode cX9_centreOf 68 = .ok (.iload_n 2, 1) := by decide +kernel
theorem dX9_centreOf_69 : decode cX9_centreOf 69 = .ok (.iload 4, 2) := by decide +kernel
theorem dX9_centreOf_71 : decode cX9_centreOf 71 = .ok (.ifCond .eq 9, 3) := by decide +kernel
theorem dX9_centreOf_74 : decode cX9_centreOf 74 = .ok (.iconst 1, 1) := by decide +kernel
theorem dX9_centreOf_75 : decode cX9_centreOf 75 = .ok (.iload_n 3, 1) := by decide +kernel
theorem dX9_centreOf_76 : decode cX9_centreOf 76 = .ok (.ishl, 1) := by decide +kernel
theorem dX9_centreOf_77 : decode cX9_centreOf 77 = .ok (.goto 4, 3) := by decide +kernel
theorem dX9_centreOf_80 : decode cX9_centreOf 80 = .ok (.iconst 0, 1) := by decide +kernel
theorem dX9_centreOf_81 : decode cX9_centreOf 81 = .ok (.ior, 1) := by decide +kernel
theorem dX9_centreOf_82 : decode cX9_centreOf 82 = .ok (.istore_n 2, 1) := by decide +kernel
theorem dX9_centreOf_83 : decode cX9_centreOf 83 = .ok (.iinc 3 1, 3) := by decide +kernel
theorem dX9_centreOf_86 : decode cX9_centreOf 86 = .ok (.goto (-82), 3) := by decide +kernel
theorem dX9_centreOf_89 : decode cX9_centreOf 89 = .ok (.iload_n 2, 1) := by decide +kernel
theorem dX9_centreOf_90 : decode cX9_centreOf 90 = .ok (.ireturn, 1) := by decide +kernel
theorem dX9_centre_0 : decode cX9_centre 0 = .ok (.aload_n 0, 1) := by decide +kernel
theorem dX9_centre_1 : decode cX9_centre 1 = .ok (.iload_n 1, 1) := by decide +kernel
theorem dX9_centre_2 : decode cX9_centre 2 = .ok (.invokevirtual 279, 3) := by decide +kernel
theorem dX9_centre_5 : decode cX9_centre 5 = .ok (.ifCond .eq 7, 3) := by decide +kernel
theorem dX9_centre_8 : decode cX9_centre 8 = .ok (.iconst 0, 1) := by decide +kernel
theorem dX9_centre_9 : decode cX9_centre 9 = .ok (.goto 8, 3) := by decide +kernel
theorem dX9_centre_12 : decode cX9_centre 12 = .ok (.aload_n 0, 1) := by decide +kernel
theorem dX9_centre_13 : decode cX9_centre 13 = .ok (.iload_n 1, 1) := by decide +kernel
theorem dX9_centre_14 : decode cX9_centre 14 = .ok (.invokevirtual 295, 3) := by decide +kernel
theorem dX9_centre_17 : decode cX9_centre 17 = .ok (.ireturn, 1) := by decide +kernel
theorem dX9_conjugateOf_0 : decode cX9_conjugateOf 0 = .ok (.aload_n 0, 1) := by decide +kernel
theorem dX9_conjugateOf_1 : decode cX9_conjugateOf 1 = .ok (.iload_n 1, 1) := by decide +kernel
theorem dX9_conjugateOf_2 : decode cX9_conjugateOf 2 = .ok (.aload_n 0, 1) := by decide +kernel
theorem dX9_conjugateOf_3 : decode cX9_conjugateOf 3 = .ok (.iload_n 1, 1) := by decide +kernel
theorem dX9_conjugateOf_4 : decode cX9_conjugateOf 4 = .ok (.iload_n 2, 1) := by decide +kernel
theorem dX9_conjugateOf_5 : decode cX9_conjugateOf 5 = .ok (.iload_n 3, 1) := by decide +kernel
theorem dX9_conjugateOf_6 : decode cX9_conjugateOf 6 = .ok (.invokevirtual 285, 3) := by decide +kernel
theorem dX9_conjugateOf_9 : decode cX9_conjugateOf 9 = .ok (.aload_n 0, 1) := by decide +kernel
theorem dX9_conjugateOf_10 : decode cX9_conjugateOf 10 = .ok (.iload_n 1, 1) := by decide +kernel
theorem dX9_conjugateOf_11 : decode cX9_conjugateOf 11 = .ok (.iload_n 2, 1) := by decide +kernel
theorem dX9_conjugateOf_12 : decode cX9_conjugateOf 12 = .ok (.invokevirtual 289, 3) := by decide +kernel
theorem dX9_conjugateOf_15 : decode cX9_conjugateOf 15 = .ok (.invokevirtual 285, 3) := by decide +kernel
theorem dX9_conjugateOf_18 : decode cX9_conjugateOf 18 = .ok (.ireturn, 1) := by decide +kernel
theorem dX9_conjugacy_0 : decode cX9_conjugacy 0 = .ok (.aload_n 0, 1) := by decide +kernel
theorem dX9_conjugacy_1 : decode cX9_conjugacy 1 = .ok (.iload_n 1, 1) := by decide +kernel
theorem dX9_conjugacy_2 : decode cX9_conjugacy 2 = .ok (.invokevirtual 279, 3) := by decide +kernel
theorem dX9_conjugacy_5 : decode cX9_conjugacy 5 = .ok (.ifCond .eq 5, 3) := by decide +kernel
theorem dX9_conjugacy_8 : decode cX9_conjugacy 8 = .ok (.iconst 0, 1) := by decide +kernel
theorem dX9_conjugacy_9 : decode cX9_conjugacy 9 = .ok (.ireturn, 1) := by decide +kernel
theorem dX9_conjugacy_10 : decode cX9_conjugacy 10 = .ok (.iconst 0, 1) := by decide +kernel
theorem dX9_conjugacy_11 : decode cX9_conjugacy 11 = .ok (.istore_n 2, 1) := by decide +kernel
theorem dX9_conjugacy_12 : decode cX9_conjugacy 12 = .ok (.iconst 0, 1) := by decide +kernel
theorem dX9_conjugacy_13 : decode cX9_conjugacy 13 = .ok (.istore_n 3, 1) := by decide +kernel
theorem dX9_conjugacy_14 : decode cX9_conjugacy 14 = .ok (.iconst 0, 1) := by decide +kernel
theorem dX9_conjugacy_15 : decode cX9_conjugacy 15 = .ok (.istore 4, 2) := by decide +kernel
theorem dX9_conjugacy_17 : decode cX9_conjugacy 17 = .ok (.iload 4, 2) := by decide +kernel
theorem dX9_conjugacy_19 : decode cX9_conjugacy 19 = .ok (.aload_n 0, 1) := by decide +kernel
theorem dX9_conjugacy_20 : decode cX9_conjugacy 20 = .ok (.getfield 7, 3) := by decide +kernel
theorem dX9_conjugacy_23 : decode cX9_conjugacy 23 = .ok (.iload_n 1, 1) := by decide +kernel
theorem dX9_conjugacy_24 : decode cX9_conjugacy 24 = .ok (.iaload, 1) := by decide +kernel
theorem dX9_conjugacy_25 : decode cX9_conjugacy 25 = .ok (.if_icmp .ge 60, 3) := by decide +kernel
theorem dX9_conjugacy_28 : decode cX9_conjugacy 28 = .ok (.iload_n 3, 1) := by decide +kernel
theorem dX9_conjugacy_29 : decode cX9_conjugacy 29 = .ok (.iload_n 2, 1) := by decide +kernel
theorem dX9_conjugacy_30 : decode cX9_conjugacy 30 = .ok (.iload 4, 2) := by decide +kernel
theorem dX9_conjugacy_32 : decode cX9_conjugacy 32 = .ok (.invokestatic 221, 3) := by decide +kernel
theorem dX9_conjugacy_35 : decode cX9_conjugacy 35 = .ok (.ifCond .eq 7, 3) := by decide +kernel
theorem dX9_conjugacy_38 : decode cX9_conjugacy 38 = .ok (.iconst 0, 1) := by decide +kernel
theorem dX9_conjugacy_39 : decode cX9_conjugacy 39 = .ok (.goto 4, 3) := by decide +kernel
theorem dX9_conjugacy_42 : decode cX9_conjugacy 42 = .ok (.iconst 1, 1) := by decide +kernel
theorem dX9_conjugacy_43 : decode cX9_conjugacy 43 = .ok (.iadd, 1) := by decide +kernel
theorem dX9_conjugacy_44 : decode cX9_conjugacy 44 = .ok (.istore_n 3, 1) := by decide +kernel
theorem dX9_conjugacy_45 : decode cX9_conjugacy 45 = .ok (.iconst 0, 1) := by decide +kernel
theorem dX9_conjugacy_46 : decode cX9_conjugacy 46 = .ok (.istore 5, 2) := by decide +kernel
theorem dX9_conjugacy_48 : decode cX9_conjugacy 48 = .ok (.iload 5, 2) := by decide +kernel
theorem dX9_conjugacy_50 : decode cX9_conjugacy 50 = .ok (.aload_n 0, 1) := by decide +kernel
theorem dX9_conjugacy_51 : decode cX9_conjugacy 51 = .ok (.getfield 7, 3) := by decide +kernel
theorem dX9_conjugacy_54 : decode cX9_conjugacy 54 = .ok (.iload_n 1, 1) := by decide +kernel
theorem dX9_conjugacy_55 : decode cX9_conjugacy 55 = .ok (.iaload, 1) := by decide +kernel
theorem dX9_conjugacy_56 : decode cX9_conjugacy 56 = .ok (.if_icmp .ge 23, 3) := by decide +kernel
theorem dX9_conjugacy_59 : decode cX9_conjugacy 59 = .ok (.iload_n 2, 1) := by decide +kernel
theorem dX9_conjugacy_60 : decode cX9_conjugacy 60 = .ok (.iconst 1, 1) := by decide +kernel
theorem dX9_conjugacy_61 : decode cX9_conjugacy 61 = .ok (.aload_n 0, 1) := by decide +kernel
theorem dX9_conjugacy_62 : decode cX9_conjugacy 62 = .ok (.iload_n 1, 1) := by decide +kernel
theorem dX9_conjugacy_63 : decode cX9_conjugacy 63 = .ok (.iload 5, 2) := by decide +kernel
theorem dX9_conjugacy_65 : decode cX9_conjugacy 65 = .ok (.iload 4, 2) := by decide +kernel
theorem dX9_conjugacy_67 : decode cX9_conjugacy 67 = .ok (.invokevirtual 298, 3) := by decide +kernel
theorem dX9_conjugacy_70 : decode cX9_conjugacy 70 = .ok (.ishl, 1) := by decide +kernel
theorem dX9_conjugacy_71 : decode cX9_conjugacy 71 = .ok (.ior, 1) := by decide +kernel
theorem dX9_conjugacy_72 : decode cX9_conjugacy 72 = .ok (.istore_n 2, 1) := by decide +kernel
theorem dX9_conjugacy_73 : decode cX9_conjugacy 73 = .ok (.iinc 5 1, 3) := by decide +kernel
theorem dX9_conjugacy_76 : decode cX9_conjugacy 76 = .ok (.goto (-28), 3) := by decide +kernel
theorem dX9_conjugacy_79 : decode cX9_conjugacy 79 = .ok (.iinc 4 1, 3) := by decide +kernel
theorem dX9_conjugacy_82 : decode cX9_conjugacy 82 = .ok (.goto (-65), 3) := by decide +kernel
theorem dX9_conjugacy_85 : decode cX9_conjugacy 85 = .ok (.iload_n 3, 1) := by decide +kernel
theorem dX9_conjugacy_86 : decode cX9_conjugacy 86 = .ok (.ireturn, 1) := by decide +kernel
theorem dX9_made_0 : decode cX9_made 0 = .ok (.iload_n 2, 1) := by decide +kernel
theorem dX9_made_1 : decode cX9_made 1 = .ok (.iconst 1, 1) := by decide +kernel
theorem dX9_made_2 : decode cX9_made 2 = .ok (.ior, 1) := by decide +kernel
theorem dX9_made_3 : decode cX9_made 3 = .ok (.istore 4, 2) := by decide +kernel
theorem dX9_made_5 : decode cX9_made 5 = .ok (.iconst 0, 1) := by decide +kernel
theorem dX9_made_6 : decode cX9_made 6 = .ok (.istore 5, 2) := by decide +kernel
theorem dX9_made_8 : decode cX9_made 8 = .ok (.iload 4, 2) := by decide +kernel
theorem dX9_made_10 : decode cX9_made 10 = .ok (.iload 5, 2) := by decide +kernel
theorem dX9_made_12 : decode cX9_made 12 = .ok (.if_icmp .eq 114, 3) := by decide +kernel
theorem dX9_made_15 : decode cX9_made 15 = .ok (.iload 4, 2) := by decide +kernel
theorem dX9_made_17 : decode cX9_made 17 = .ok (.istore 5, 2) := by decide +kernel
theorem dX9_made_19 : decode cX9_made 19 = .ok (.iconst 0, 1) := by decide +kernel
theorem dX9_made_20 : decode cX9_made 20 = .ok (.istore 6, 2) := by decide +kernel
theorem dX9_made_22 : decode cX9_made 22 = .ok (.iload 6, 2) := by decide +kernel
theorem dX9_made_24 : decode cX9_made 24 = .ok (.aload_n 0, 1) := by decide +kernel
theorem dX9_made_25 : decode cX9_made 25 = .ok (.getfield 7, 3) := by decide +kernel
theorem dX9_made_28 : decode cX9_made 28 = .ok (.iload_n 1, 1) := by decide +kernel
theorem dX9_made_29 : decode cX9_made 29 = .ok (.iaload, 1) := by decide +kernel
theorem dX9_made_30 : decode cX9_made 30 = .ok (.if_icmp .ge 93, 3) := by decide +kernel
theorem dX9_made_33 : decode cX9_made 33 = .ok (.iconst 0, 1) := by decide +kernel
theorem dX9_made_34 : decode cX9_made 34 = .ok (.istore 7, 2) := by decide +kernel
theorem dX9_made_36 : decode cX9_made 36 = .ok (.iload 7, 2) := by decide +kernel
theorem dX9_made_38 : decode cX9_made 38 = .ok (.aload_n 0, 1) := by decide +kernel
theorem dX9_made_39 : decode cX9_made 39 = .ok (.getfield 7, 3) := by decide +kernel
theorem dX9_made_42 : decode cX9_made 42 = .ok (.iload_n 1, 1) := by decide +kernel
theorem dX9_made_43 : decode cX9_made 43 = .ok (.iaload, 1) := by decide +kernel
theorem dX9_made_44 : decode cX9_made 44 = .ok (.if_icmp .ge 73, 3) := by decide +kernel
theorem dX9_made_47 : decode cX9_made 47 = .ok (.iload 4, 2) := by decide +kernel
theorem dX9_made_49 : decode cX9_made 49 = .ok (.iload 6, 2) := by decide +kernel
theorem dX9_made_51 : decode cX9_made 51 = .ok (.invokestatic 221, 3) := by decide +kernel
theorem dX9_made_54 : decode cX9_made 54 = .ok (.ifCond .eq 63, 3) := by decide +kernel
theorem dX9_made_57 : decode cX9_made 57 = .ok (.iload 4, 2) := by decide +kernel
theorem dX9_made_59 : decode cX9_made 59 = .ok (.iload 4, 2) := by decide +kernel
theorem dX9_made_61 : decode cX9_made 61 = .ok (.iload 7, 2) := by decide +kernel
theorem dX9_made_63 : decode cX9_made 63 = .ok (.invokestatic 221, 3) := by decide +kernel
theorem dX9_made_66 : decode cX9_made 66 = .ok (.ifCond .eq 17, 3) := by decide +kernel
theorem dX9_made_69 : decode cX9_made 69 = .ok (.iconst 1, 1) := by decide +kernel
theorem dX9_made_70 : decode cX9_made 70 = .ok (.aload_n 0, 1) := by decide +kernel
theorem dX9_made_71 : decode cX9_made 71 = .ok (.iload_n 1, 1) := by decide +kernel
theorem dX9_made_72 : decode cX9_made 72 = .ok (.iload 6, 2) := by decide +kernel
theorem dX9_made_74 : decode cX9_made 74 = .ok (.iload 7, 2) := by decide +kernel
theorem dX9_made_76 : decode cX9_made 76 = .ok (.invokevirtual 285, 3) := by decide +kernel
theorem dX9_made_79 : decode cX9_made 79 = .ok (.ishl, 1) := by decide +kernel
theorem dX9_made_80 : decode cX9_made 80 = .ok (.goto 4, 3) := by decide +kernel
theorem dX9_made_83 : decode cX9_made 83 = .ok (.iconst 0, 1) := by decide +kernel
theorem dX9_made_84 : decode cX9_made 84 = .ok (.ior, 1) := by decide +kernel
theorem dX9_made_85 : decode cX9_made 85 = .ok (.istore 4, 2) := by decide +kernel
theorem dX9_made_87 : decode cX9_made 87 = .ok (.iload 4, 2) := by decide +kernel
theorem dX9_made_89 : decode cX9_made 89 = .ok (.iload_n 3, 1) := by decide +kernel
theorem dX9_made_90 : decode cX9_made 90 = .ok (.ifCond .eq 17, 3) := by decide +kernel
theorem dX9_made_93 : decode cX9_made 93 = .ok (.iconst 1, 1) := by decide +kernel
theorem dX9_made_94 : decode cX9_made 94 = .ok (.aload_n 0, 1) := by decide +kernel
theorem dX9_made_95 : decode cX9_made 95 = .ok (.iload_n 1, 1) := by decide +kernel
theorem dX9_made_96 : decode cX9_made 96 = .ok (.iload 7, 2) := by decide +kernel
theorem dX9_made_98 : decode cX9_made 98 = .ok (.iload 6, 2) := by decide +kernel
theorem dX9_made_100 : decode cX9_made 100 = .ok (.invokevirtual 298, 3) := by decide +kernel
theorem dX9_made_103 : decode cX9_made 103 = .ok (.ishl, 1) := by decide +kernel
theorem dX9_made_104 : decode cX9_made 104 = .ok (.goto 4, 3) := by decide +kernel
theorem dX9_made_107 : decode cX9_made 107 = .ok (.iconst 0, 1) := by decide +kernel
theorem dX9_made_108 : decode cX9_made 108 = .ok (.ior, 1) := by decide +kernel
theorem dX9_made_109 : decode cX9_made 109 = .ok (.istore 4, 2) := by decide +kernel
theorem dX9_made_111 : decode cX9_made 111 = .ok (.iinc 7 1, 3) := by decide +kernel
theorem dX9_made_114 : decode cX9_made 114 = .ok (.goto (-78), 3) := by decide +kernel
theorem dX9_made_117 : decode cX9_made 117 = .ok (.iinc 6 1, 3) := by decide +kernel
theorem dX9_made_120 : decode cX9_made 120 = .ok (.goto (-98), 3) := by decide +kernel
theorem dX9_made_123 : decode cX9_made 123 = .ok (.goto (-115), 3) := by decide +kernel
theorem dX9_made_126 : decode cX9_made 126 = .ok (.iload 4, 2) := by decide +kernel
theorem dX9_made_128 : decode cX9_made 128 = .ok (.ireturn, 1) := by decide +kernel
theorem dX9_noSet_0 : decode cX9_noSet 0 = .ok (.aload_n 0, 1) := by decide +kernel
theorem dX9_noSet_1 : decode cX9_noSet 1 = .ok (.iload_n 1, 1) := by decide +kernel
theorem dX9_noSet_2 : decode cX9_noSet 2 = .ok (.invokevirtual 279, 3) := by decide +kernel
theorem dX9_noSet_5 : decode cX9_noSet 5 = .ok (.ifCond .ne 32, 3) := by decide +kernel
theorem dX9_noSet_8 : decode cX9_noSet 8 = .ok (.aload_n 0, 1) := by decide +kernel
theorem dX9_noSet_9 : decode cX9_noSet 9 = .ok (.iload_n 2, 1) := by decide +kernel
theorem dX9_noSet_10 : decode cX9_noSet 10 = .ok (.ifCond .lt 15, 3) := by decide +kernel
theorem dX9_noSet_13 : decode cX9_noSet 13 = .ok (.iload_n 2, 1) := by decide +kernel
theorem dX9_noSet_14 : decode cX9_noSet 14 = .ok (.iconst 1, 1) := by decide +kernel
theorem dX9_noSet_15 : decode cX9_noSet 15 = .ok (.aload_n 0, 1) := by decide +kernel
theorem dX9_noSet_16 : decode cX9_noSet 16 = .ok (.getfield 7, 3) := by decide +kernel
theorem dX9_noSet_19 : decode cX9_noSet 19 = .ok (.iload_n 1, 1) := by decide +kernel
theorem dX9_noSet_20 : decode cX9_noSet 20 = .ok (.iaload, 1) := by decide +kernel
theorem dX9_noSet_21 : decode cX9_noSet 21 = .ok (.ishl, 1) := by decide +kernel
theorem dX9_noSet_22 : decode cX9_noSet 22 = .ok (.if_icmp .lt 7, 3) := by decide +kernel
theorem dX9_noSet_25 : decode cX9_noSet 25 = .ok (.iconst 1, 1) := by decide +kernel
theorem dX9_noSet_26 : decode cX9_noSet 26 = .ok (.goto 4, 3) := by decide +kernel
theorem dX9_noSet_29 : decode cX9_noSet 29 = .ok (.iconst 0, 1) := by decide +kernel
theorem dX9_noSet_30 : decode cX9_noSet 30 = .ok (.iconst 3, 1) := by decide +kernel
theorem dX9_noSet_31 : decode cX9_noSet 31 = .ok (.invokevirtual 94, 3) := by decide +kernel
theorem dX9_noSet_34 : decode cX9_noSet 34 = .ok (.ifCond .eq 7, 3) := by decide +kernel
theorem dX9_noSet_37 : decode cX9_noSet 37 = .ok (.iconst 1, 1) := by decide +kernel
theorem dX9_noSet_38 : decode cX9_noSet 38 = .ok (.goto 4, 3) := by decide +kernel
theorem dX9_noSet_41 : decode cX9_noSet 41 = .ok (.iconst 0, 1) := by decide +kernel
theorem dX9_noSet_42 : decode cX9_noSet 42 = .ok (.ireturn, 1) := by decide +kernel
theorem dX9_generated_0 : decode cX9_generated 0 = .ok (.aload_n 0, 1) := by decide +kernel
theorem dX9_generated_1 : decode cX9_generated 1 = .ok (.iload_n 1, 1) := by decide +kernel
theorem dX9_generated_2 : decode cX9_generated 2 = .ok (.iload_n 2, 1) := by decide +kernel
theorem dX9_generated_3 : decode cX9_generated 3 = .ok (.invokevirtual 301, 3) := by decide +kernel
theorem dX9_generated_6 : decode cX9_generated 6 = .ok (.ifCond .eq 7, 3) := by decide +kernel
theorem dX9_generated_9 : decode cX9_generated 9 = .ok (.iconst 0, 1) := by decide +kernel
theorem dX9_generated_10 : decode cX9_generated 10 = .ok (.goto 10, 3) := by decide +kernel
theorem dX9_generated_13 : decode cX9_generated 13 = .ok (.aload_n 0, 1) := by decide +kernel
theorem dX9_generated_14 : decode cX9_generated 14 = .ok (.iload_n 1, 1) := by decide +kernel
theorem dX9_generated_15 : decode cX9_generated 15 = .ok (.iload_n 2, 1) := by decide +kernel
theorem dX9_generated_16 : decode cX9_generated 16 = .ok (.iconst 0, 1) := by decide +kernel
theorem dX9_generated_17 : decode cX9_generated 17 = .ok (.invokevirtual 304, 3) := by decide +kernel
theorem dX9_generated_20 : decode cX9_generated 20 = .ok (.ireturn, 1) := by decide +kernel
theorem dX9_normal_0 : decode cX9_normal 0 = .ok (.aload_n 0, 1) := by decide +kernel
theorem dX9_normal_1 : decode cX9_normal 1 = .ok (.iload_n 1, 1) := by decide +kernel
theorem dX9_normal_2 : decode cX9_normal 2 = .ok (.iload_n 2, 1) := by decide +kernel
theorem dX9_normal_3 : decode cX9_normal 3 = .ok (.invokevirtual 301, 3) := by decide +kernel
theorem dX9_normal_6 : decode cX9_normal 6 = .ok (.ifCond .eq 7, 3) := by decide +kernel
theorem dX9_normal_9 : decode cX9_normal 9 = .ok (.iconst 0, 1) := by decide +kernel
theorem dX9_normal_10 : decode cX9_normal 10 = .ok (.goto 10, 3) := by decide +kernel
theorem dX9_normal_13 : decode cX9_normal 13 = .ok (.aload_n 0, 1) := by decide +kernel
theorem dX9_normal_14 : decode cX9_normal 14 = .ok (.iload_n 1, 1) := by decide +kernel
theorem dX9_normal_15 : decode cX9_normal 15 = .ok (.iload_n 2, 1) := by decide +kernel
theorem dX9_normal_16 : decode cX9_normal 16 = .ok (.iconst 1, 1) := by decide +kernel
theorem dX9_normal_17 : decode cX9_normal 17 = .ok (.invokevirtual 304, 3) := by decide +kernel
theorem dX9_normal_20 : decode cX9_normal 20 = .ok (.ireturn, 1) := by decide +kernel
theorem dX9_noModule_0 : decode cX9_noModule 0 = .ok (.aload_n 0, 1) := by decide +kernel
theorem dX9_noModule_1 : decode cX9_noModule 1 = .ok (.invokevirtual 272, 3) := by decide +kernel
theorem dX9_noModule_4 : decode cX9_noModule 4 = .ok (.ifCond .ne 30, 3) := by decide +kernel
theorem dX9_noModule_7 : decode cX9_noModule 7 = .ok (.aload_n 0, 1) := by decide +kernel
theorem dX9_noModule_8 : decode cX9_noModule 8 = .ok (.iload_n 1, 1) := by decide +kernel
theorem dX9_noModule_9 : decode cX9_noModule 9 = .ok (.iconst 0, 1) := by decide +kernel
theorem dX9_noModule_10 : decode cX9_noModule 10 = .ok (.aload_n 0, 1) := by decide +kernel
theorem dX9_noModule_11 : decode cX9_noModule 11 = .ok (.getfield 259, 3) := by decide +kernel
theorem dX9_noModule_14 : decode cX9_noModule 14 = .ok (.iconst 1, 1) := by decide +kernel
theorem dX9_noModule_15 : decode cX9_noModule 15 = .ok (.isub, 1) := by decide +kernel
theorem dX9_noModule_16 : decode cX9_noModule 16 = .ok (.invokestatic 152, 3) := by decide +kernel
theorem dX9_noModule_19 : decode cX9_noModule 19 = .ok (.ifCond .ne 7, 3) := by decide +kernel
theorem dX9_noModule_22 : decode cX9_noModule 22 = .ok (.iconst 1, 1) := by decide +kernel
theorem dX9_noModule_23 : decode cX9_noModule 23 = .ok (.goto 4, 3) := by decide +kernel
theorem dX9_noModule_26 : decode cX9_noModule 26 = .ok (.iconst 0, 1) := by decide +kernel
theorem dX9_noModule_27 : decode cX9_noModule 27 = .ok (.iconst 2, 1) := by decide +kernel
theorem dX9_noModule_28 : decode cX9_noModule 28 = .ok (.invokevirtual 94, 3) := by decide +kernel
theorem dX9_noModule_31 : decode cX9_noModule 31 = .ok (.ifCond .eq 7, 3) := by decide +kernel
theorem dX9_noModule_34 : decode cX9_noModule 34 = .ok (.iconst 1, 1) := by decide +kernel
theorem dX9_noModule_35 : decode cX9_noModule 35 = .ok (.goto 4, 3) := by decide +kernel
theorem dX9_noModule_38 : decode cX9_noModule 38 = .ok (.iconst 0, 1) := by decide +kernel
theorem dX9_noModule_39 : decode cX9_noModule 39 = .ok (.ireturn, 1) := by decide +kernel
theorem dX9_noUpper_0 : decode cX9_noUpper 0 = .ok (.aload_n 0, 1) := by decide +kernel
theorem dX9_noUpper_1 : decode cX9_noUpper 1 = .ok (.iload_n 1, 1) := by decide +kernel
theorem dX9_noUpper_2 : decode cX9_noUpper 2 = .ok (.invokevirtual 308, 3) := by decide +kernel
theorem dX9_noUpper_5 : decode cX9_noUpper 5 = .ok (.ifCond .ne 37, 3) := by decide +kernel
theorem dX9_noUpper_8 : decode cX9_noUpper 8 = .ok (.aload_n 0, 1) := by decide +kernel
theorem dX9_noUpper_9 : decode cX9_noUpper 9 = .ok (.iload_n 2, 1) := by decide +kernel
theorem dX9_noUpper_10 : decode cX9_noUpper 10 = .ok (.iconst 0, 1) := by decide +kernel
theorem dX9_noUpper_11 : decode cX9_noUpper 11 = .ok (.aload_n 0, 1) := by decide +kernel
theorem dX9_noUpper_12 : decode cX9_noUpper 12 = .ok (.getfield 7, 3) := by decide +kernel
theorem dX9_noUpper_15 : decode cX9_noUpper 15 = .ok (.aload_n 0, 1) := by decide +kernel
theorem dX9_noUpper_16 : decode cX9_noUpper 16 = .ok (.getfield 16, 3) := by decide +kernel
theorem dX9_noUpper_19 : decode cX9_noUpper 19 = .ok (.iload_n 1, 1) := by decide +kernel
theorem dX9_noUpper_20 : decode cX9_noUpper 20 = .ok (.iaload, 1) := by decide +kernel
theorem dX9_noUpper_21 : decode cX9_noUpper 21 = .ok (.iaload, 1) := by decide +kernel
theorem dX9_noUpper_22 : decode cX9_noUpper 22 = .ok (.iconst 1, 1) := by decide +kernel
theorem dX9_noUpper_23 : decode cX9_noUpper 23 = .ok (.isub, 1) := by decide +kernel
theorem dX9_noUpper_24 : decode cX9_noUpper 24 = .ok (.invokestatic 152, 3) := by decide +kernel
theorem dX9_noUpper_27 : decode cX9_noUpper 27 = .ok (.ifCond .ne 7, 3) := by decide +kernel
theorem dX9_noUpper_30 : decode cX9_noUpper 30 = .ok (.iconst 1, 1) := by decide +kernel
theorem dX9_noUpper_31 : decode cX9_noUpper 31 = .ok (.goto 4, 3) := by decide +kernel
theorem dX9_noUpper_34 : decode cX9_noUpper 34 = .ok (.iconst 0, 1) := by decide +kernel
theorem dX9_noUpper_35 : decode cX9_noUpper 35 = .ok (.iconst 2, 1) := by decide +kernel
theorem dX9_noUpper_36 : decode cX9_noUpper 36 = .ok (.invokevirtual 94, 3) := by decide +kernel
theorem dX9_noUpper_39 : decode cX9_noUpper 39 = .ok (.ifCond .eq 7, 3) := by decide +kernel
theorem dX9_noUpper_42 : decode cX9_noUpper 42 = .ok (.iconst 1, 1) := by decide +kernel
theorem dX9_noUpper_43 : decode cX9_noUpper 43 = .ok (.goto 4, 3) := by decide +kernel
theorem dX9_noUpper_46 : decode cX9_noUpper 46 = .ok (.iconst 0, 1) := by decide +kernel
theorem dX9_noUpper_47 : decode cX9_noUpper 47 = .ok (.ireturn, 1) := by decide +kernel
theorem dX9_noLower_0 : decode cX9_noLower 0 = .ok (.aload_n 0, 1) := by decide +kernel
theorem dX9_noLower_1 : decode cX9_noLower 1 = .ok (.iload_n 1, 1) := by decide +kernel
theorem dX9_noLower_2 : decode cX9_noLower 2 = .ok (.invokevirtual 308, 3) := by decide +kernel
theorem dX9_noLower_5 : decode cX9_noLower 5 = .ok (.ifCond .ne 37, 3) := by decide +kernel
theorem dX9_noLower_8 : decode cX9_noLower 8 = .ok (.aload_n 0, 1) := by decide +kernel
theorem dX9_noLower_9 : decode cX9_noLower 9 = .ok (.iload_n 2, 1) := by decide +kernel
theorem dX9_noLower_10 : decode cX9_noLower 10 = .ok (.iconst 0, 1) := by decide +kernel
theorem dX9_noLower_11 : decode cX9_noLower 11 = .ok (.aload_n 0, 1) := by decide +kernel
theorem dX9_noLower_12 : decode cX9_noLower 12 = .ok (.getfield 7, 3) := by decide +kernel
theorem dX9_noLower_15 : decode cX9_noLower 15 = .ok (.aload_n 0, 1) := by decide +kernel
theorem dX9_noLower_16 : decode cX9_noLower 16 = .ok (.getfield 19, 3) := by decide +kernel
theorem dX9_noLower_19 : decode cX9_noLower 19 = .ok (.iload_n 1, 1) := by decide +kernel
theorem dX9_noLower_20 : decode cX9_noLower 20 = .ok (.iaload, 1) := by decide +kernel
theorem dX9_noLower_21 : decode cX9_noLower 21 = .ok (.iaload, 1) := by decide +kernel
theorem dX9_noLower_22 : decode cX9_noLower 22 = .ok (.iconst 1, 1) := by decide +kernel
theorem dX9_noLower_23 : decode cX9_noLower 23 = .ok (.isub, 1) := by decide +kernel
theorem dX9_noLower_24 : decode cX9_noLower 24 = .ok (.invokestatic 152, 3) := by decide +kernel
theorem dX9_noLower_27 : decode cX9_noLower 27 = .ok (.ifCond .ne 7, 3) := by decide +kernel
theorem dX9_noLower_30 : decode cX9_noLower 30 = .ok (.iconst 1, 1) := by decide +kernel
theorem dX9_noLower_31 : decode cX9_noLower 31 = .ok (.goto 4, 3) := by decide +kernel
theorem dX9_noLower_34 : decode cX9_noLower 34 = .ok (.iconst 0, 1) := by decide +kernel
theorem dX9_noLower_35 : decode cX9_noLower 35 = .ok (.iconst 2, 1) := by decide +kernel
theorem dX9_noLower_36 : decode cX9_noLower 36 = .ok (.invokevirtual 94, 3) := by decide +kernel
theorem dX9_noLower_39 : decode cX9_noLower 39 = .ok (.ifCond .eq 7, 3) := by decide +kernel
theorem dX9_noLower_42 : decode cX9_noLower 42 = .ok (.iconst 1, 1) := by decide +kernel
theorem dX9_noLower_43 : decode cX9_noLower 43 = .ok (.goto 4, 3) := by decide +kernel
theorem dX9_noLower_46 : decode cX9_noLower 46 = .ok (.iconst 0, 1) := by decide +kernel
theorem dX9_noLower_47 : decode cX9_noLower 47 = .ok (.ireturn, 1) := by decide +kernel
theorem dX9_boundaryOf_0 : decode cX9_boundaryOf 0 = .ok (.aload_n 0, 1) := by decide +kernel
theorem dX9_boundaryOf_1 : decode cX9_boundaryOf 1 = .ok (.getfield 31, 3) := by decide +kernel
theorem dX9_boundaryOf_4 : decode cX9_boundaryOf 4 = .ok (.iconst 0, 1) := by decide +kernel
theorem dX9_boundaryOf_5 : decode cX9_boundaryOf 5 = .ok (.bipush 8, 2) := by decide +kernel
theorem dX9_boundaryOf_7 : decode cX9_boundaryOf 7 = .ok (.iload_n 1, 1) := by decide +kernel
theorem dX9_boundaryOf_8 : decode cX9_boundaryOf 8 = .ok (.imul, 1) := by decide +kernel
theorem dX9_boundaryOf_9 : decode cX9_boundaryOf 9 = .ok (.iadd, 1) := by decide +kernel
theorem dX9_boundaryOf_10 : decode cX9_boundaryOf 10 = .ok (.iload_n 2, 1) := by decide +kernel
theorem dX9_boundaryOf_11 : decode cX9_boundaryOf 11 = .ok (.iadd, 1) := by decide +kernel
theorem dX9_boundaryOf_12 : decode cX9_boundaryOf 12 = .ok (.iaload, 1) := by decide +kernel
theorem dX9_boundaryOf_13 : decode cX9_boundaryOf 13 = .ok (.ireturn, 1) := by decide +kernel
theorem dX9_on_0 : decode cX9_on 0 = .ok (.aload_n 0, 1) := by decide +kernel
theorem dX9_on_1 : decode cX9_on 1 = .ok (.getfield 31, 3) := by decide +kernel
theorem dX9_on_4 : decode cX9_on 4 = .ok (.bipush 48, 2) := by decide +kernel
theorem dX9_on_6 : decode cX9_on 6 = .ok (.bipush 64, 2) := by decide +kernel
theorem dX9_on_8 : decode cX9_on 8 = .ok (.iload_n 1, 1) := by decide +kernel
theorem dX9_on_9 : decode cX9_on 9 = .ok (.imul, 1) := by decide +kernel
theorem dX9_on_10 : decode cX9_on 10 = .ok (.iadd, 1) := by decide +kernel
theorem dX9_on_11 : decode cX9_on 11 = .ok (.bipush 8, 2) := by decide +kernel
theorem dX9_on_13 : decode cX9_on 13 = .ok (.iload_n 2, 1) := by decide +kernel
theorem dX9_on_14 : decode cX9_on 14 = .ok (.imul, 1) := by decide +kernel
theorem dX9_on_15 : decode cX9_on 15 = .ok (.iadd, 1) := by decide +kernel
theorem dX9_on_16 : decode cX9_on 16 = .ok (.iload_n 3, 1) := by decide +kernel
theorem dX9_on_17 : decode cX9_on 17 = .ok (.iadd, 1) := by decide +kernel
theorem dX9_on_18 : decode cX9_on 18 = .ok (.iaload, 1) := by decide +kernel
theorem dX9_on_19 : decode cX9_on 19 = .ok (.ireturn, 1) := by decide +kernel
theorem dX9_up_0 : decode cX9_up 0 = .ok (.aload_n 0, 1) := by decide +kernel
theorem dX9_up_1 : decode cX9_up 1 = .ok (.aload_n 0, 1) := by decide +kernel
theorem dX9_up_2 : decode cX9_up 2 = .ok (.getfield 16, 3) := by decide +kernel
theorem dX9_up_5 : decode cX9_up 5 = .ok (.iload_n 1, 1) := by decide +kernel
theorem dX9_up_6 : decode cX9_up 6 = .ok (.iaload, 1) := by decide +kernel
theorem dX9_up_7 : decode cX9_up 7 = .ok (.iload_n 2, 1) := by decide +kernel
theorem dX9_up_8 : decode cX9_up 8 = .ok (.iload_n 3, 1) := by decide +kernel
theorem dX9_up_9 : decode cX9_up 9 = .ok (.invokevirtual 285, 3) := by decide +kernel
theorem dX9_up_12 : decode cX9_up 12 = .ok (.ireturn, 1) := by decide +kernel
theorem dX9_down_0 : decode cX9_down 0 = .ok (.aload_n 0, 1) := by decide +kernel
theorem dX9_down_1 : decode cX9_down 1 = .ok (.aload_n 0, 1) := by decide +kernel
theorem dX9_down_2 : decode cX9_down 2 = .ok (.getfield 19, 3) := by decide +kernel
theorem dX9_down_5 : decode cX9_down 5 = .ok (.iload_n 1, 1) := by decide +kernel
theorem dX9_down_6 : decode cX9_down 6 = .ok (.iaload, 1) := by decide +kernel
theorem dX9_down_7 : decode cX9_down 7 = .ok (.iload_n 2, 1) := by decide +kernel
theorem dX9_down_8 : decode cX9_down 8 = .ok (.iload_n 3, 1) := by decide +kernel
theorem dX9_down_9 : decode cX9_down 9 = .ok (.invokevirtual 285, 3) := by decide +kernel
theorem dX9_down_12 : decode cX9_down 12 = .ok (.ireturn, 1) := by decide +kernel
theorem dX9_uppers_0 : decode cX9_uppers 0 = .ok (.aload_n 0, 1) := by decide +kernel
theorem dX9_uppers_1 : decode cX9_uppers 1 = .ok (.getfield 7, 3) := by decide +kernel
theorem dX9_uppers_4 : decode cX9_uppers 4 = .ok (.aload_n 0, 1) := by decide +kernel
theorem dX9_uppers_5 : decode cX9_uppers 5 = .ok (.getfield 16, 3) := by decide +kernel
theorem dX9_uppers_8 : decode cX9_uppers 8 = .ok (.iload_n 1, 1) := by decide +kernel
theorem dX9_uppers_9 : decode cX9_uppers 9 = .ok (.iaload, 1) := by decide +kernel
theorem dX9_uppers_10 : decode cX9_uppers 10 = .ok (.iaload, 1) := by decide +kernel
theorem dX9_uppers_11 : decode cX9_uppers 11 = .ok (.ireturn, 1) := by decide +kernel
theorem dX9_lowers_0 : decode cX9_lowers 0 = .ok (.aload_n 0, 1) := by decide +kernel
theorem dX9_lowers_1 : decode cX9_lowers 1 = .ok (.getfield 7, 3) := by decide +kernel
theorem dX9_lowers_4 : decode cX9_lowers 4 = .ok (.aload_n 0, 1) := by decide +kernel
theorem dX9_lowers_5 : decode cX9_lowers 5 = .ok (.getfield 19, 3) := by decide +kernel
theorem dX9_lowers_8 : decode cX9_lowers 8 = .ok (.iload_n 1, 1) := by decide +kernel
theorem dX9_lowers_9 : decode cX9_lowers 9 = .ok (.iaload, 1) := by decide +kernel
theorem dX9_lowers_10 : decode cX9_lowers 10 = .ok (.iaload, 1) := by decide +kernel
theorem dX9_lowers_11 : decode cX9_lowers 11 = .ok (.ireturn, 1) := by decide +kernel
theorem dX9_groupOf_0 : decode cX9_groupOf 0 = .ok (.aload_n 0, 1) := by decide +kernel
theorem dX9_groupOf_1 : decode cX9_groupOf 1 = .ok (.iload_n 1, 1) := by decide +kernel
theorem dX9_groupOf_2 : decode cX9_groupOf 2 = .ok (.invokevirtual 308, 3) := by decide +kernel
theorem dX9_groupOf_5 : decode cX9_groupOf 5 = .ok (.ifCond .eq 7, 3) := by decide +kernel
theorem dX9_groupOf_8 : decode cX9_groupOf 8 = .ok (.iconst 0, 1) := by decide +kernel
theorem dX9_groupOf_9 : decode cX9_groupOf 9 = .ok (.goto 22, 3) := by decide +kernel
theorem dX9_groupOf_12 : decode cX9_groupOf 12 = .ok (.iload_n 2, 1) := by decide +kernel
theorem dX9_groupOf_13 : decode cX9_groupOf 13 = .ok (.ifCond .eq 12, 3) := by decide +kernel
theorem dX9_groupOf_16 : decode cX9_groupOf 16 = .ok (.aload_n 0, 1) := by decide +kernel
theorem dX9_groupOf_17 : decode cX9_groupOf 17 = .ok (.getfield 19, 3) := by decide +kernel
theorem dX9_groupOf_20 : decode cX9_groupOf 20 = .ok (.iload_n 1, 1) := by decide +kernel
theorem dX9_groupOf_21 : decode cX9_groupOf 21 = .ok (.iaload, 1) := by decide +kernel
theorem dX9_groupOf_22 : decode cX9_groupOf 22 = .ok (.goto 9, 3) := by decide +kernel
theorem dX9_groupOf_25 : decode cX9_groupOf 25 = .ok (.aload_n 0, 1) := by decide +kernel
theorem dX9_groupOf_26 : decode cX9_groupOf 26 = .ok (.getfield 16, 3) := by decide +kernel
theorem dX9_groupOf_29 : decode cX9_groupOf 29 = .ok (.iload_n 1, 1) := by decide +kernel
theorem dX9_groupOf_30 : decode cX9_groupOf 30 = .ok (.iaload, 1) := by decide +kernel
theorem dX9_groupOf_31 : decode cX9_groupOf 31 = .ok (.ireturn, 1) := by decide +kernel
theorem dX9_boundary_0 : decode cX9_boundary 0 = .ok (.aload_n 0, 1) := by decide +kernel
theorem dX9_boundary_1 : decode cX9_boundary 1 = .ok (.iload_n 1, 1) := by decide +kernel
theorem dX9_boundary_2 : decode cX9_boundary 2 = .ok (.iload_n 2, 1) := by decide +kernel
theorem dX9_boundary_3 : decode cX9_boundary 3 = .ok (.invokevirtual 311, 3) := by decide +kernel
theorem dX9_boundary_6 : decode cX9_boundary 6 = .ok (.ifCond .eq 7, 3) := by decide +kernel
theorem dX9_boundary_9 : decode cX9_boundary 9 = .ok (.iconst 0, 1) := by decide +kernel
theorem dX9_boundary_10 : decode cX9_boundary 10 = .ok (.goto 9, 3) := by decide +kernel
theorem dX9_boundary_13 : decode cX9_boundary 13 = .ok (.aload_n 0, 1) := by decide +kernel
theorem dX9_boundary_14 : decode cX9_boundary 14 = .ok (.iload_n 1, 1) := by decide +kernel
theorem dX9_boundary_15 : decode cX9_boundary 15 = .ok (.iload_n 2, 1) := by decide +kernel
theorem dX9_boundary_16 : decode cX9_boundary 16 = .ok (.invokevirtual 314, 3) := by decide +kernel
theorem dX9_boundary_19 : decode cX9_boundary 19 = .ok (.ireturn, 1) := by decide +kernel
theorem dX9_act_0 : decode cX9_act 0 = .ok (.aload_n 0, 1) := by decide +kernel
theorem dX9_act_1 : decode cX9_act 1 = .ok (.iload_n 1, 1) := by decide +kernel
theorem dX9_act_2 : decode cX9_act 2 = .ok (.iload_n 2, 1) := by decide +kernel
theorem dX9_act_3 : decode cX9_act 3 = .ok (.invokevirtual 317, 3) := by decide +kernel
theorem dX9_act_6 : decode cX9_act 6 = .ok (.ifCond .ne 12, 3) := by decide +kernel
theorem dX9_act_9 : decode cX9_act 9 = .ok (.aload_n 0, 1) := by decide +kernel
theorem dX9_act_10 : decode cX9_act 10 = .ok (.iload_n 1, 1) := by decide +kernel
theorem dX9_act_11 : decode cX9_act 11 = .ok (.iload_n 3, 1) := by decide +kernel
theorem dX9_act_12 : decode cX9_act 12 = .ok (.invokevirtual 311, 3) := by decide +kernel
theorem dX9_act_15 : decode cX9_act 15 = .ok (.ifCond .eq 7, 3) := by decide +kernel
theorem dX9_act_18 : decode cX9_act 18 = .ok (.iconst 0, 1) := by decide +kernel
theorem dX9_act_19 : decode cX9_act 19 = .ok (.goto 10, 3) := by decide +kernel
theorem dX9_act_22 : decode cX9_act 22 = .ok (.aload_n 0, 1) := by decide +kernel
theorem dX9_act_23 : decode cX9_act 23 = .ok (.iload_n 1, 1) := by decide +kernel
theorem dX9_act_24 : decode cX9_act 24 = .ok (.iload_n 2, 1) := by decide +kernel
theorem dX9_act_25 : decode cX9_act 25 = .ok (.iload_n 3, 1) := by decide +kernel
theorem dX9_act_26 : decode cX9_act 26 = .ok (.invokevirtual 320, 3) := by decide +kernel
theorem dX9_act_29 : decode cX9_act 29 = .ok (.ireturn, 1) := by decide +kernel
theorem dX9_breaksProducts_0 : decode cX9_breaksProducts 0 = .ok (.iconst 0, 1) := by decide +kernel
theorem dX9_breaksProducts_1 : decode cX9_breaksProducts 1 = .ok (.istore_n 2, 1) := by decide +kernel
theorem dX9_breaksProducts_2 : decode cX9_breaksProducts 2 = .ok (.iload_n 2, 1) := by decide +kernel
theorem dX9_breaksProducts_3 : decode cX9_breaksProducts 3 = .ok (.aload_n 0, 1) := by decide +kernel
theorem dX9_breaksProducts_4 : decode cX9_breaksProducts 4 = .ok (.iload_n 1, 1) := by decide +kernel
theorem dX9_breaksProducts_5 : decode cX9_breaksProducts 5 = .ok (.invokevirtual 323, 3) := by decide +kernel
theorem dX9_breaksProducts_8 : decode cX9_breaksProducts 8 = .ok (.if_icmp .ge 60, 3) := by decide +kernel
theorem dX9_breaksProducts_11 : decode cX9_breaksProducts 11 = .ok (.iconst 0, 1) := by decide +kernel
theorem dX9_breaksProducts_12 : decode cX9_breaksProducts 12 = .ok (.istore_n 3, 1) := by decide +kernel
theorem dX9_breaksProducts_13 : decode cX9_breaksProducts 13 = .ok (.iload_n 3, 1) := by decide +kernel
theorem dX9_breaksProducts_14 : decode cX9_breaksProducts 14 = .ok (.aload_n 0, 1) := by decide +kernel
theorem dX9_breaksProducts_15 : decode cX9_breaksProducts 15 = .ok (.iload_n 1, 1) := by decide +kernel
theorem dX9_breaksProducts_16 : decode cX9_breaksProducts 16 = .ok (.invokevirtual 323, 3) := by decide +kernel
theorem dX9_breaksProducts_19 : decode cX9_breaksProducts 19 = .ok (.if_icmp .ge 43, 3) := by decide +kernel
theorem dX9_breaksProducts_22 : decode cX9_breaksProducts 22 = .ok (.aload_n 0, 1) := by decide +kernel
theorem dX9_breaksProducts_23 : decode cX9_breaksProducts 23 = .ok (.iload_n 1, 1) := by decide +kernel
theorem dX9_breaksProducts_24 : decode cX9_breaksProducts 24 = .ok (.aload_n 0, 1) := by decide +kernel
theorem dX9_breaksProducts_25 : decode cX9_breaksProducts 25 = .ok (.iload_n 1, 1) := by decide +kernel
theorem dX9_breaksProducts_26 : decode cX9_breaksProducts 26 = .ok (.iload_n 2, 1) := by decide +kernel
theorem dX9_breaksProducts_27 : decode cX9_breaksProducts 27 = .ok (.iload_n 3, 1) := by decide +kernel
theorem dX9_breaksProducts_28 : decode cX9_breaksProducts 28 = .ok (.invokevirtual 326, 3) := by decide +kernel
theorem dX9_breaksProducts_31 : decode cX9_breaksProducts 31 = .ok (.invokevirtual 314, 3) := by decide +kernel
theorem dX9_breaksProducts_34 : decode cX9_breaksProducts 34 = .ok (.aload_n 0, 1) := by decide +kernel
theorem dX9_breaksProducts_35 : decode cX9_breaksProducts 35 = .ok (.iload_n 1, 1) := by decide +kernel
theorem dX9_breaksProducts_36 : decode cX9_breaksProducts 36 = .ok (.aload_n 0, 1) := by decide +kernel
theorem dX9_breaksProducts_37 : decode cX9_breaksProducts 37 = .ok (.iload_n 1, 1) := by decide +kernel
theorem dX9_breaksProducts_38 : decode cX9_breaksProducts 38 = .ok (.iload_n 2, 1) := by decide +kernel
theorem dX9_breaksProducts_39 : decode cX9_breaksProducts 39 = .ok (.invokevirtual 314, 3) := by decide +kernel
theorem dX9_breaksProducts_42 : decode cX9_breaksProducts 42 = .ok (.aload_n 0, 1) := by decide +kernel
theorem dX9_breaksProducts_43 : decode cX9_breaksProducts 43 = .ok (.iload_n 1, 1) := by decide +kernel
theorem dX9_breaksProducts_44 : decode cX9_breaksProducts 44 = .ok (.iload_n 3, 1) := by decide +kernel
theorem dX9_breaksProducts_45 : decode cX9_breaksProducts 45 = .ok (.invokevirtual 314, 3) := by decide +kernel
theorem dX9_breaksProducts_48 : decode cX9_breaksProducts 48 = .ok (.invokevirtual 329, 3) := by decide +kernel
theorem dX9_breaksProducts_51 : decode cX9_breaksProducts 51 = .ok (.if_icmp .eq 5, 3) := by decide +kernel
theorem dX9_breaksProducts_54 : decode cX9_breaksProducts 54 = .ok (.iconst 1, 1) := by decide +kernel
theorem dX9_breaksProducts_55 : decode cX9_breaksProducts 55 = .ok (.ireturn, 1) := by decide +kernel
theorem dX9_breaksProducts_56 : decode cX9_breaksProducts 56 = .ok (.iinc 3 1, 3) := by decide +kernel
theorem dX9_breaksProducts_59 : decode cX9_breaksProducts 59 = .ok (.goto (-46), 3) := by decide +kernel
theorem dX9_breaksProducts_62 : decode cX9_breaksProducts 62 = .ok (.iinc 2 1, 3) := by decide +kernel
theorem dX9_breaksProducts_65 : decode cX9_breaksProducts 65 = .ok (.goto (-63), 3) := by decide +kernel
theorem dX9_breaksProducts_68 : decode cX9_breaksProducts 68 = .ok (.iconst 0, 1) := by decide +kernel
theorem dX9_breaksProducts_69 : decode cX9_breaksProducts 69 = .ok (.ireturn, 1) := by decide +kernel
theorem dX9_breaksMaps_0 : decode cX9_breaksMaps 0 = .ok (.iconst 0, 1) := by decide +kernel
theorem dX9_breaksMaps_1 : decode cX9_breaksMaps 1 = .ok (.istore_n 2, 1) := by decide +kernel
theorem dX9_breaksMaps_2 : decode cX9_breaksMaps 2 = .ok (.iload_n 2, 1) := by decide +kernel
theorem dX9_breaksMaps_3 : decode cX9_breaksMaps 3 = .ok (.aload_n 0, 1) := by decide +kernel
theorem dX9_breaksMaps_4 : decode cX9_breaksMaps 4 = .ok (.iload_n 1, 1) := by decide +kernel
theorem dX9_breaksMaps_5 : decode cX9_breaksMaps 5 = .ok (.invokevirtual 332, 3) := by decide +kernel
theorem dX9_breaksMaps_8 : decode cX9_breaksMaps 8 = .ok (.if_icmp .ge 108, 3) := by decide +kernel
theorem dX9_breaksMaps_11 : decode cX9_breaksMaps 11 = .ok (.iconst 0, 1) := by decide +kernel
theorem dX9_breaksMaps_12 : decode cX9_breaksMaps 12 = .ok (.istore_n 3, 1) := by decide +kernel
theorem dX9_breaksMaps_13 : decode cX9_breaksMaps 13 = .ok (.iload_n 3, 1) := by decide +kernel
theorem dX9_breaksMaps_14 : decode cX9_breaksMaps 14 = .ok (.aload_n 0, 1) := by decide +kernel
theorem dX9_breaksMaps_15 : decode cX9_breaksMaps 15 = .ok (.iload_n 1, 1) := by decide +kernel
theorem dX9_breaksMaps_16 : decode cX9_breaksMaps 16 = .ok (.invokevirtual 323, 3) := by decide +kernel
theorem dX9_breaksMaps_19 : decode cX9_breaksMaps 19 = .ok (.if_icmp .ge 91, 3) := by decide +kernel
theorem dX9_breaksMaps_22 : decode cX9_breaksMaps 22 = .ok (.iconst 0, 1) := by decide +kernel
theorem dX9_breaksMaps_23 : decode cX9_breaksMaps 23 = .ok (.istore 4, 2) := by decide +kernel
theorem dX9_breaksMaps_25 : decode cX9_breaksMaps 25 = .ok (.iload 4, 2) := by decide +kernel
theorem dX9_breaksMaps_27 : decode cX9_breaksMaps 27 = .ok (.aload_n 0, 1) := by decide +kernel
theorem dX9_breaksMaps_28 : decode cX9_breaksMaps 28 = .ok (.iload_n 1, 1) := by decide +kernel
theorem dX9_breaksMaps_29 : decode cX9_breaksMaps 29 = .ok (.invokevirtual 323, 3) := by decide +kernel
theorem dX9_breaksMaps_32 : decode cX9_breaksMaps 32 = .ok (.if_icmp .ge 72, 3) := by decide +kernel
theorem dX9_breaksMaps_35 : decode cX9_breaksMaps 35 = .ok (.iload_n 3, 1) := by decide +kernel
theorem dX9_breaksMaps_36 : decode cX9_breaksMaps 36 = .ok (.iload 4, 2) := by decide +kernel
theorem dX9_breaksMaps_38 : decode cX9_breaksMaps 38 = .ok (.if_icmp .eq 21, 3) := by decide +kernel
theorem dX9_breaksMaps_41 : decode cX9_breaksMaps 41 = .ok (.aload_n 0, 1) := by decide +kernel
theorem dX9_breaksMaps_42 : decode cX9_breaksMaps 42 = .ok (.iload_n 1, 1) := by decide +kernel
theorem dX9_breaksMaps_43 : decode cX9_breaksMaps 43 = .ok (.iload_n 2, 1) := by decide +kernel
theorem dX9_breaksMaps_44 : decode cX9_breaksMaps 44 = .ok (.iload_n 3, 1) := by decide +kernel
theorem dX9_breaksMaps_45 : decode cX9_breaksMaps 45 = .ok (.invokevirtual 320, 3) := by decide +kernel
theorem dX9_breaksMaps_48 : decode cX9_breaksMaps 48 = .ok (.aload_n 0, 1) := by decide +kernel
theorem dX9_breaksMaps_49 : decode cX9_breaksMaps 49 = .ok (.iload_n 1, 1) := by decide +kernel
theorem dX9_breaksMaps_50 : decode cX9_breaksMaps 50 = .ok (.iload_n 2, 1) := by decide +kernel
theorem dX9_breaksMaps_51 : decode cX9_breaksMaps 51 = .ok (.iload 4, 2) := by decide +kernel
theorem dX9_breaksMaps_53 : decode cX9_breaksMaps 53 = .ok (.invokevirtual 320, 3) := by decide +kernel
theorem dX9_breaksMaps_56 : decode cX9_breaksMaps 56 = .ok (.if_icmp .eq 40, 3) := by decide +kernel
theorem dX9_breaksMaps_59 : decode cX9_breaksMaps 59 = .ok (.aload_n 0, 1) := by decide +kernel
theorem dX9_breaksMaps_60 : decode cX9_breaksMaps 60 = .ok (.iload_n 1, 1) := by decide +kernel
theorem dX9_breaksMaps_61 : decode cX9_breaksMaps 61 = .ok (.iload_n 2, 1) := by decide +kernel
theorem dX9_breaksMaps_62 : decode cX9_breaksMaps 62 = .ok (.aload_n 0, 1) := by decide +kernel
theorem dX9_breaksMaps_63 : decode cX9_breaksMaps 63 = .ok (.iload_n 1, 1) := by decide +kernel
theorem dX9_breaksMaps_64 : decode cX9_breaksMaps 64 = .ok (.iload_n 3, 1) := by decide +kernel
theorem dX9_breaksMaps_65 : decode cX9_breaksMaps 65 = .ok (.iload 4, 2) := by decide +kernel
theorem dX9_breaksMaps_67 : decode cX9_breaksMaps 67 = .ok (.invokevirtual 326, 3) := by decide +kernel
theorem dX9_breaksMaps_70 : decode cX9_breaksMaps 70 = .ok (.invokevirtual 320, 3) := by decide +kernel
theorem dX9_breaksMaps_73 : decode cX9_breaksMaps 73 = .ok (.aload_n 0, 1) := by decide +kernel
theorem dX9_breaksMaps_74 : decode cX9_breaksMaps 74 = .ok (.iload_n 1, 1) := by decide +kernel
theorem dX9_breaksMaps_75 : decode cX9_breaksMaps 75 = .ok (.aload_n 0, 1) := by decide +kernel
theorem dX9_breaksMaps_76 : decode cX9_breaksMaps 76 = .ok (.iload_n 1, 1) := by decide +kernel
theorem dX9_breaksMaps_77 : decode cX9_breaksMaps 77 = .ok (.iload_n 2, 1) := by decide +kernel
theorem dX9_breaksMaps_78 : decode cX9_breaksMaps 78 = .ok (.iload_n 3, 1) := by decide +kernel
theorem dX9_breaksMaps_79 : decode cX9_breaksMaps 79 = .ok (.invokevirtual 320, 3) := by decide +kernel
theorem dX9_breaksMaps_82 : decode cX9_breaksMaps 82 = .ok (.aload_n 0, 1) := by decide +kernel
theorem dX9_breaksMaps_83 : decode cX9_breaksMaps 83 = .ok (.iload_n 1, 1) := by decide +kernel
theorem dX9_breaksMaps_84 : decode cX9_breaksMaps 84 = .ok (.iload_n 2, 1) := by decide +kernel
theorem dX9_breaksMaps_85 : decode cX9_breaksMaps 85 = .ok (.iload 4, 2) := by decide +kernel
theorem dX9_breaksMaps_87 : decode cX9_breaksMaps 87 = .ok (.invokevirtual 320, 3) := by decide +kernel
theorem dX9_breaksMaps_90 : decode cX9_breaksMaps 90 = .ok (.invokevirtual 326, 3) := by decide +kernel
theorem dX9_breaksMaps_93 : decode cX9_breaksMaps 93 = .ok (.if_icmp .eq 5, 3) := by decide +kernel
theorem dX9_breaksMaps_96 : decode cX9_breaksMaps 96 = .ok (.iconst 1, 1) := by decide +kernel
theorem dX9_breaksMaps_97 : decode cX9_breaksMaps 97 = .ok (.ireturn, 1) := by decide +kernel
theorem dX9_breaksMaps_98 : decode cX9_breaksMaps 98 = .ok (.iinc 4 1, 3) := by decide +kernel
theorem dX9_breaksMaps_101 : decode cX9_breaksMaps 101 = .ok (.goto (-76), 3) := by decide +kernel
theorem dX9_breaksMaps_104 : decode cX9_breaksMaps 104 = .ok (.iinc 3 1, 3) := by decide +kernel
theorem dX9_breaksMaps_107 : decode cX9_breaksMaps 107 = .ok (.goto (-94), 3) := by decide +kernel
theorem dX9_breaksMaps_110 : decode cX9_breaksMaps 110 = .ok (.iinc 2 1, 3) := by decide +kernel
theorem dX9_breaksMaps_113 : decode cX9_breaksMaps 113 = .ok (.goto (-111), 3) := by decide +kernel
theorem dX9_breaksMaps_116 : decode cX9_breaksMaps 116 = .ok (.iconst 0, 1) := by decide +kernel
theorem dX9_breaksMaps_117 : decode cX9_breaksMaps 117 = .ok (.ireturn, 1) := by decide +kernel
theorem dX9_breaksActions_0 : decode cX9_breaksActions 0 = .ok (.iconst 0, 1) := by decide +kernel
theorem dX9_breaksActions_1 : decode cX9_breaksActions 1 = .ok (.istore_n 2, 1) := by decide +kernel
theorem dX9_breaksActions_2 : decode cX9_breaksActions 2 = .ok (.iload_n 2, 1) := by decide +kernel
theorem dX9_breaksActions_3 : decode cX9_breaksActions 3 = .ok (.aload_n 0, 1) := by decide +kernel
theorem dX9_breaksActions_4 : decode cX9_breaksActions 4 = .ok (.iload_n 1, 1) := by decide +kernel
theorem dX9_breaksActions_5 : decode cX9_breaksActions 5 = .ok (.invokevirtual 323, 3) := by decide +kernel
theorem dX9_breaksActions_8 : decode cX9_breaksActions 8 = .ok (.if_icmp .ge 91, 3) := by decide +kernel
theorem dX9_breaksActions_11 : decode cX9_breaksActions 11 = .ok (.aload_n 0, 1) := by decide +kernel
theorem dX9_breaksActions_12 : decode cX9_breaksActions 12 = .ok (.iload_n 1, 1) := by decide +kernel
theorem dX9_breaksActions_13 : decode cX9_breaksActions 13 = .ok (.iconst 0, 1) := by decide +kernel
theorem dX9_breaksActions_14 : decode cX9_breaksActions 14 = .ok (.iload_n 2, 1) := by decide +kernel
theorem dX9_breaksActions_15 : decode cX9_breaksActions 15 = .ok (.invokevirtual 320, 3) := by decide +kernel
theorem dX9_breaksActions_18 : decode cX9_breaksActions 18 = .ok (.iload_n 2, 1) := by decide +kernel
theorem dX9_breaksActions_19 : decode cX9_breaksActions 19 = .ok (.if_icmp .eq 5, 3) := by decide +kernel
theorem dX9_breaksActions_22 : decode cX9_breaksActions 22 = .ok (.iconst 1, 1) := by decide +kernel
theorem dX9_breaksActions_23 : decode cX9_breaksActions 23 = .ok (.ireturn, 1) := by decide +kernel
theorem dX9_breaksActions_24 : decode cX9_breaksActions 24 = .ok (.iconst 0, 1) := by decide +kernel
theorem dX9_breaksActions_25 : decode cX9_breaksActions 25 = .ok (.istore_n 3, 1) := by decide +kernel
theorem dX9_breaksActions_26 : decode cX9_breaksActions 26 = .ok (.iload_n 3, 1) := by decide +kernel
theorem dX9_breaksActions_27 : decode cX9_breaksActions 27 = .ok (.aload_n 0, 1) := by decide +kernel
theorem dX9_breaksActions_28 : decode cX9_breaksActions 28 = .ok (.iload_n 1, 1) := by decide +kernel
theorem dX9_breaksActions_29 : decode cX9_breaksActions 29 = .ok (.invokevirtual 332, 3) := by decide +kernel
theorem dX9_breaksActions_32 : decode cX9_breaksActions 32 = .ok (.if_icmp .ge 61, 3) := by decide +kernel
theorem dX9_breaksActions_35 : decode cX9_breaksActions 35 = .ok (.iconst 0, 1) := by decide +kernel
theorem dX9_breaksActions_36 : decode cX9_breaksActions 36 = .ok (.istore 4, 2) := by decide +kernel
theorem dX9_breaksActions_38 : decode cX9_breaksActions 38 = .ok (.iload 4, 2) := by decide +kernel
theorem dX9_breaksActions_40 : decode cX9_breaksActions 40 = .ok (.aload_n 0, 1) := by decide +kernel
theorem dX9_breaksActions_41 : decode cX9_breaksActions 41 = .ok (.iload_n 1, 1) := by decide +kernel
theorem dX9_breaksActions_42 : decode cX9_breaksActions 42 = .ok (.invokevirtual 332, 3) := by decide +kernel
theorem dX9_breaksActions_45 : decode cX9_breaksActions 45 = .ok (.if_icmp .ge 42, 3) := by decide +kernel
theorem dX9_breaksActions_48 : decode cX9_breaksActions 48 = .ok (.aload_n 0, 1) := by decide +kernel
theorem dX9_breaksActions_49 : decode cX9_breaksActions 49 = .ok (.iload_n 1, 1) := by decide +kernel
theorem dX9_breaksActions_50 : decode cX9_breaksActions 50 = .ok (.aload_n 0, 1) := by decide +kernel
theorem dX9_breaksActions_51 : decode cX9_breaksActions 51 = .ok (.iload_n 1, 1) := by decide +kernel
theorem dX9_breaksActions_52 : decode cX9_breaksActions 52 = .ok (.iload_n 3, 1) := by decide +kernel
theorem dX9_breaksActions_53 : decode cX9_breaksActions 53 = .ok (.iload 4, 2) := by decide +kernel
theorem dX9_breaksActions_55 : decode cX9_breaksActions 55 = .ok (.invokevirtual 329, 3) := by decide +kernel
theorem dX9_breaksActions_58 : decode cX9_breaksActions 58 = .ok (.iload_n 2, 1) := by decide +kernel
theorem dX9_breaksActions_59 : decode cX9_breaksActions 59 = .ok (.invokevirtual 320, 3) := by decide +kernel
theorem dX9_breaksActions_62 : decode cX9_breaksActions 62 = .ok (.aload_n 0, 1) := by decide +kernel
theorem dX9_breaksActions_63 : decode cX9_breaksActions 63 = .ok (.iload_n 1, 1) := by decide +kernel
theorem dX9_breaksActions_64 : decode cX9_breaksActions 64 = .ok (.iload_n 3, 1) := by decide +kernel
theorem dX9_breaksActions_65 : decode cX9_breaksActions 65 = .ok (.aload_n 0, 1) := by decide +kernel
theorem dX9_breaksActions_66 : decode cX9_breaksActions 66 = .ok (.iload_n 1, 1) := by decide +kernel
theorem dX9_breaksActions_67 : decode cX9_breaksActions 67 = .ok (.iload 4, 2) := by decide +kernel
theorem dX9_breaksActions_69 : decode cX9_breaksActions 69 = .ok (.iload_n 2, 1) := by decide +kernel
theorem dX9_breaksActions_70 : decode cX9_breaksActions 70 = .ok (.invokevirtual 320, 3) := by decide +kernel
theorem dX9_breaksActions_73 : decode cX9_breaksActions 73 = .ok (.invokevirtual 320, 3) := by decide +kernel
theorem dX9_breaksActions_76 : decode cX9_breaksActions 76 = .ok (.if_icmp .eq 5, 3) := by decide +kernel
theorem dX9_breaksActions_79 : decode cX9_breaksActions 79 = .ok (.iconst 1, 1) := by decide +kernel
theorem dX9_breaksActions_80 : decode cX9_breaksActions 80 = .ok (.ireturn, 1) := by decide +kernel
theorem dX9_breaksActions_81 : decode cX9_breaksActions 81 = .ok (.iinc 4 1, 3) := by decide +kernel
theorem dX9_breaksActions_84 : decode cX9_breaksActions 84 = .ok (.goto (-46), 3) := by decide +kernel
theorem dX9_breaksActions_87 : decode cX9_breaksActions 87 = .ok (.iinc 3 1, 3) := by decide +kernel
theorem dX9_breaksActions_90 : decode cX9_breaksActions 90 = .ok (.goto (-64), 3) := by decide +kernel
theorem dX9_breaksActions_93 : decode cX9_breaksActions 93 = .ok (.iinc 2 1, 3) := by decide +kernel
theorem dX9_breaksActions_96 : decode cX9_breaksActions 96 = .ok (.goto (-94), 3) := by decide +kernel
theorem dX9_breaksActions_99 : decode cX9_breaksActions 99 = .ok (.iconst 0, 1) := by decide +kernel
theorem dX9_breaksActions_100 : decode cX9_breaksActions 100 = .ok (.ireturn, 1) := by decide +kernel
theorem dX9_breaksBoundaries_0 : decode cX9_breaksBoundaries 0 = .ok (.iconst 0, 1) := by decide +kernel
theorem dX9_breaksBoundaries_1 : decode cX9_breaksBoundaries 1 = .ok (.istore_n 2, 1) := by decide +kernel
theorem dX9_breaksBoundaries_2 : decode cX9_breaksBoundaries 2 = .ok (.iload_n 2, 1) := by decide +kernel
theorem dX9_breaksBoundaries_3 : decode cX9_breaksBoundaries 3 = .ok (.aload_n 0, 1) := by decide +kernel
theorem dX9_breaksBoundaries_4 : decode cX9_breaksBoundaries 4 = .ok (.iload_n 1, 1) := by decide +kernel
theorem dX9_breaksBoundaries_5 : decode cX9_breaksBoundaries 5 = .ok (.invokevirtual 332, 3) := by decide +kernel
theorem dX9_breaksBoundaries_8 : decode cX9_breaksBoundaries 8 = .ok (.if_icmp .ge 60, 3) := by decide +kernel
theorem dX9_breaksBoundaries_11 : decode cX9_breaksBoundaries 11 = .ok (.iconst 0, 1) := by decide +kernel
theorem dX9_breaksBoundaries_12 : decode cX9_breaksBoundaries 12 = .ok (.istore_n 3, 1) := by decide +kernel
theorem dX9_breaksBoundaries_13 : decode cX9_breaksBoundaries 13 = .ok (.iload_n 3, 1) := by decide +kernel
theorem dX9_breaksBoundaries_14 : decode cX9_breaksBoundaries 14 = .ok (.aload_n 0, 1) := by decide +kernel
theorem dX9_breaksBoundaries_15 : decode cX9_breaksBoundaries 15 = .ok (.iload_n 1, 1) := by decide +kernel
theorem dX9_breaksBoundaries_16 : decode cX9_breaksBoundaries 16 = .ok (.invokevirtual 323, 3) := by decide +kernel
theorem dX9_breaksBoundaries_19 : decode cX9_breaksBoundaries 19 = .ok (.if_icmp .ge 43, 3) := by decide +kernel
theorem dX9_breaksBoundaries_22 : decode cX9_breaksBoundaries 22 = .ok (.aload_n 0, 1) := by decide +kernel
theorem dX9_breaksBoundaries_23 : decode cX9_breaksBoundaries 23 = .ok (.iload_n 1, 1) := by decide +kernel
theorem dX9_breaksBoundaries_24 : decode cX9_breaksBoundaries 24 = .ok (.aload_n 0, 1) := by decide +kernel
theorem dX9_breaksBoundaries_25 : decode cX9_breaksBoundaries 25 = .ok (.iload_n 1, 1) := by decide +kernel
theorem dX9_breaksBoundaries_26 : decode cX9_breaksBoundaries 26 = .ok (.iload_n 2, 1) := by decide +kernel
theorem dX9_breaksBoundaries_27 : decode cX9_breaksBoundaries 27 = .ok (.iload_n 3, 1) := by decide +kernel
theorem dX9_breaksBoundaries_28 : decode cX9_breaksBoundaries 28 = .ok (.invokevirtual 320, 3) := by decide +kernel
theorem dX9_breaksBoundaries_31 : decode cX9_breaksBoundaries 31 = .ok (.invokevirtual 314, 3) := by decide +kernel
theorem dX9_breaksBoundaries_34 : decode cX9_breaksBoundaries 34 = .ok (.aload_n 0, 1) := by decide +kernel
theorem dX9_breaksBoundaries_35 : decode cX9_breaksBoundaries 35 = .ok (.aload_n 0, 1) := by decide +kernel
theorem dX9_breaksBoundaries_36 : decode cX9_breaksBoundaries 36 = .ok (.getfield 19, 3) := by decide +kernel
theorem dX9_breaksBoundaries_39 : decode cX9_breaksBoundaries 39 = .ok (.iload_n 1, 1) := by decide +kernel
theorem dX9_breaksBoundaries_40 : decode cX9_breaksBoundaries 40 = .ok (.iaload, 1) := by decide +kernel
theorem dX9_breaksBoundaries_41 : decode cX9_breaksBoundaries 41 = .ok (.iload_n 2, 1) := by decide +kernel
theorem dX9_breaksBoundaries_42 : decode cX9_breaksBoundaries 42 = .ok (.aload_n 0, 1) := by decide +kernel
theorem dX9_breaksBoundaries_43 : decode cX9_breaksBoundaries 43 = .ok (.iload_n 1, 1) := by decide +kernel
theorem dX9_breaksBoundaries_44 : decode cX9_breaksBoundaries 44 = .ok (.iload_n 3, 1) := by decide +kernel
theorem dX9_breaksBoundaries_45 : decode cX9_breaksBoundaries 45 = .ok (.invokevirtual 314, 3) := by decide +kernel
theorem dX9_breaksBoundaries_48 : decode cX9_breaksBoundaries 48 = .ok (.invokevirtual 298, 3) := by decide +kernel
theorem dX9_breaksBoundaries_51 : decode cX9_breaksBoundaries 51 = .ok (.if_icmp .eq 5, 3) := by decide +kernel
theorem dX9_breaksBoundaries_54 : decode cX9_breaksBoundaries 54 = .ok (.iconst 1, 1) := by decide +kernel
theorem dX9_breaksBoundaries_55 : decode cX9_breaksBoundaries 55 = .ok (.ireturn, 1) := by decide +kernel
theorem dX9_breaksBoundaries_56 : decode cX9_breaksBoundaries 56 = .ok (.iinc 3 1, 3) := by decide +kernel
theorem dX9_breaksBoundaries_59 : decode cX9_breaksBoundaries 59 = .ok (.goto (-46), 3) := by decide +kernel
theorem dX9_breaksBoundaries_62 : decode cX9_breaksBoundaries 62 = .ok (.iinc 2 1, 3) := by decide +kernel
theorem dX9_breaksBoundaries_65 : decode cX9_breaksBoundaries 65 = .ok (.goto (-63), 3) := by decide +kernel
theorem dX9_breaksBoundaries_68 : decode cX9_breaksBoundaries 68 = .ok (.iconst 0, 1) := by decide +kernel
theorem dX9_breaksBoundaries_69 : decode cX9_breaksBoundaries 69 = .ok (.ireturn, 1) := by decide +kernel
theorem dX9_breaksConjugates_0 : decode cX9_breaksConjugates 0 = .ok (.iconst 0, 1) := by decide +kernel
theorem dX9_breaksConjugates_1 : decode cX9_breaksConjugates 1 = .ok (.istore_n 2, 1) := by decide +kernel
theorem dX9_breaksConjugates_2 : decode cX9_breaksConjugates 2 = .ok (.iload_n 2, 1) := by decide +kernel
theorem dX9_breaksConjugates_3 : decode cX9_breaksConjugates 3 = .ok (.aload_n 0, 1) := by decide +kernel
theorem dX9_breaksConjugates_4 : decode cX9_breaksConjugates 4 = .ok (.iload_n 1, 1) := by decide +kernel
theorem dX9_breaksConjugates_5 : decode cX9_breaksConjugates 5 = .ok (.invokevirtual 323, 3) := by decide +kernel
theorem dX9_breaksConjugates_8 : decode cX9_breaksConjugates 8 = .ok (.if_icmp .ge 55, 3) := by decide +kernel
theorem dX9_breaksConjugates_11 : decode cX9_breaksConjugates 11 = .ok (.iconst 0, 1) := by decide +kernel
theorem dX9_breaksConjugates_12 : decode cX9_breaksConjugates 12 = .ok (.istore_n 3, 1) := by decide +kernel
theorem dX9_breaksConjugates_13 : decode cX9_breaksConjugates 13 = .ok (.iload_n 3, 1) := by decide +kernel
theorem dX9_breaksConjugates_14 : decode cX9_breaksConjugates 14 = .ok (.aload_n 0, 1) := by decide +kernel
theorem dX9_breaksConjugates_15 : decode cX9_breaksConjugates 15 = .ok (.iload_n 1, 1) := by decide +kernel
theorem dX9_breaksConjugates_16 : decode cX9_breaksConjugates 16 = .ok (.invokevirtual 323, 3) := by decide +kernel
theorem dX9_breaksConjugates_19 : decode cX9_breaksConjugates 19 = .ok (.if_icmp .ge 38, 3) := by decide +kernel
theorem dX9_breaksConjugates_22 : decode cX9_breaksConjugates 22 = .ok (.aload_n 0, 1) := by decide +kernel
theorem dX9_breaksConjugates_23 : decode cX9_breaksConjugates 23 = .ok (.iload_n 1, 1) := by decide +kernel
theorem dX9_breaksConjugates_24 : decode cX9_breaksConjugates 24 = .ok (.aload_n 0, 1) := by decide +kernel
theorem dX9_breaksConjugates_25 : decode cX9_breaksConjugates 25 = .ok (.iload_n 1, 1) := by decide +kernel
theorem dX9_breaksConjugates_26 : decode cX9_breaksConjugates 26 = .ok (.iload_n 2, 1) := by decide +kernel
theorem dX9_breaksConjugates_27 : decode cX9_breaksConjugates 27 = .ok (.invokevirtual 314, 3) := by decide +kernel
theorem dX9_breaksConjugates_30 : decode cX9_breaksConjugates 30 = .ok (.iload_n 3, 1) := by decide +kernel
theorem dX9_breaksConjugates_31 : decode cX9_breaksConjugates 31 = .ok (.invokevirtual 320, 3) := by decide +kernel
theorem dX9_breaksConjugates_34 : decode cX9_breaksConjugates 34 = .ok (.aload_n 0, 1) := by decide +kernel
theorem dX9_breaksConjugates_35 : decode cX9_breaksConjugates 35 = .ok (.aload_n 0, 1) := by decide +kernel
theorem dX9_breaksConjugates_36 : decode cX9_breaksConjugates 36 = .ok (.getfield 16, 3) := by decide +kernel
theorem dX9_breaksConjugates_39 : decode cX9_breaksConjugates 39 = .ok (.iload_n 1, 1) := by decide +kernel
theorem dX9_breaksConjugates_40 : decode cX9_breaksConjugates 40 = .ok (.iaload, 1) := by decide +kernel
theorem dX9_breaksConjugates_41 : decode cX9_breaksConjugates 41 = .ok (.iload_n 2, 1) := by decide +kernel
theorem dX9_breaksConjugates_42 : decode cX9_breaksConjugates 42 = .ok (.iload_n 3, 1) := by decide +kernel
theorem dX9_breaksConjugates_43 : decode cX9_breaksConjugates 43 = .ok (.invokevirtual 298, 3) := by decide +kernel
theorem dX9_breaksConjugates_46 : decode cX9_breaksConjugates 46 = .ok (.if_icmp .eq 5, 3) := by decide +kernel
theorem dX9_breaksConjugates_49 : decode cX9_breaksConjugates 49 = .ok (.iconst 1, 1) := by decide +kernel
theorem dX9_breaksConjugates_50 : decode cX9_breaksConjugates 50 = .ok (.ireturn, 1) := by decide +kernel
theorem dX9_breaksConjugates_51 : decode cX9_breaksConjugates 51 = .ok (.iinc 3 1, 3) := by decide +kernel
theorem dX9_breaksConjugates_54 : decode cX9_breaksConjugates 54 = .ok (.goto (-41), 3) := by decide +kernel
theorem dX9_breaksConjugates_57 : decode cX9_breaksConjugates 57 = .ok (.iinc 2 1, 3) := by decide +kernel
theorem dX9_breaksConjugates_60 : decode cX9_breaksConjugates 60 = .ok (.goto (-58), 3) := by decide +kernel
theorem dX9_breaksConjugates_63 : decode cX9_breaksConjugates 63 = .ok (.iconst 0, 1) := by decide +kernel
theorem dX9_breaksConjugates_64 : decode cX9_breaksConjugates 64 = .ok (.ireturn, 1) := by decide +kernel
theorem dX9_whyOf_0 : decode cX9_whyOf 0 = .ok (.aload_n 0, 1) := by decide +kernel
theorem dX9_whyOf_1 : decode cX9_whyOf 1 = .ok (.iload_n 1, 1) := by decide +kernel
theorem dX9_whyOf_2 : decode cX9_whyOf 2 = .ok (.invokevirtual 335, 3) := by decide +kernel
theorem dX9_whyOf_5 : decode cX9_whyOf 5 = .ok (.ifCond .eq 7, 3) := by decide +kernel
theorem dX9_whyOf_8 : decode cX9_whyOf 8 = .ok (.iconst 1, 1) := by decide +kernel
theorem dX9_whyOf_9 : decode cX9_whyOf 9 = .ok (.goto 52, 3) := by decide +kernel
theorem dX9_whyOf_12 : decode cX9_whyOf 12 = .ok (.aload_n 0, 1) := by decide +kernel
theorem dX9_whyOf_13 : decode cX9_whyOf 13 = .ok (.iload_n 1, 1) := by decide +kernel
theorem dX9_whyOf_14 : decode cX9_whyOf 14 = .ok (.invokevirtual 338, 3) := by decide +kernel
theorem dX9_whyOf_17 : decode cX9_whyOf 17 = .ok (.ifCond .eq 7, 3) := by decide +kernel
theorem dX9_whyOf_20 : decode cX9_whyOf 20 = .ok (.iconst 2, 1) := by decide +kernel
theorem dX9_whyOf_21 : decode cX9_whyOf 21 = .ok (.goto 40, 3) := by decide +kernel
theorem dX9_whyOf_24 : decode cX9_whyOf 24 = .ok (.aload_n 0, 1) := by decide +kernel
theorem dX9_whyOf_25 : decode cX9_whyOf 25 = .ok (.iload_n 1, 1) := by decide +kernel
theorem dX9_whyOf_26 : decode cX9_whyOf 26 = .ok (.invokevirtual 341, 3) := by decide +kernel
theorem dX9_whyOf_29 : decode cX9_whyOf 29 = .ok (.ifCond .eq 7, 3) := by decide +kernel
theorem dX9_whyOf_32 : decode cX9_whyOf 32 = .ok (.iconst 3, 1) := by decide +kernel
theorem dX9_whyOf_33 : decode cX9_whyOf 33 = .ok (.goto 28, 3) := by decide +kernel
theorem dX9_whyOf_36 : decode cX9_whyOf 36 = .ok (.aload_n 0, 1) := by decide +kernel
theorem dX9_whyOf_37 : decode cX9_whyOf 37 = .ok (.iload_n 1, 1) := by decide +kernel
theorem dX9_whyOf_38 : decode cX9_whyOf 38 = .ok (.invokevirtual 344, 3) := by decide +kernel
theorem dX9_whyOf_41 : decode cX9_whyOf 41 = .ok (.ifCond .eq 7, 3) := by decide +kernel
theorem dX9_whyOf_44 : decode cX9_whyOf 44 = .ok (.iconst 4, 1) := by decide +kernel
theorem dX9_whyOf_45 : decode cX9_whyOf 45 = .ok (.goto 16, 3) := by decide +kernel
theorem dX9_whyOf_48 : decode cX9_whyOf 48 = .ok (.aload_n 0, 1) := by decide +kernel
theorem dX9_whyOf_49 : decode cX9_whyOf 49 = .ok (.iload_n 1, 1) := by decide +kernel
theorem dX9_whyOf_50 : decode cX9_whyOf 50 = .ok (.invokevirtual 347, 3) := by decide +kernel
theorem dX9_whyOf_53 : decode cX9_whyOf 53 = .ok (.ifCond .eq 7, 3) := by decide +kernel
theorem dX9_whyOf_56 : decode cX9_whyOf 56 = .ok (.iconst 5, 1) := by decide +kernel
theorem dX9_whyOf_57 : decode cX9_whyOf 57 = .ok (.goto 4, 3) := by decide +kernel
theorem dX9_whyOf_60 : decode cX9_whyOf 60 = .ok (.iconst 0, 1) := by decide +kernel
theorem dX9_whyOf_61 : decode cX9_whyOf 61 = .ok (.ireturn, 1) := by decide +kernel
theorem dX9_why_0 : decode cX9_why 0 = .ok (.aload_n 0, 1) := by decide +kernel
theorem dX9_why_1 : decode cX9_why 1 = .ok (.iload_n 1, 1) := by decide +kernel
theorem dX9_why_2 : decode cX9_why 2 = .ok (.invokevirtual 308, 3) := by decide +kernel
theorem dX9_why_5 : decode cX9_why 5 = .ok (.ifCond .eq 7, 3) := by decide +kernel
theorem dX9_why_8 : decode cX9_why 8 = .ok (.iconst 0, 1) := by decide +kernel
theorem dX9_why_9 : decode cX9_why 9 = .ok (.goto 8, 3) := by decide +kernel
theorem dX9_why_12 : decode cX9_why 12 = .ok (.aload_n 0, 1) := by decide +kernel
theorem dX9_why_13 : decode cX9_why 13 = .ok (.iload_n 1, 1) := by decide +kernel
theorem dX9_why_14 : decode cX9_why 14 = .ok (.invokevirtual 350, 3) := by decide +kernel
theorem dX9_why_17 : decode cX9_why 17 = .ok (.ireturn, 1) := by decide +kernel
theorem dX9_lawfulNow_0 : decode cX9_lawfulNow 0 = .ok (.iconst 0, 1) := by decide +kernel
theorem dX9_lawfulNow_1 : decode cX9_lawfulNow 1 = .ok (.istore_n 1, 1) := by decide +kernel
theorem dX9_lawfulNow_2 : decode cX9_lawfulNow 2 = .ok (.iconst 0, 1) := by decide +kernel
theorem dX9_lawfulNow_3 : decode cX9_lawfulNow 3 = .ok (.istore_n 2, 1) := by decide +kernel
theorem dX9_lawfulNow_4 : decode cX9_lawfulNow 4 = .ok (.iload_n 2, 1) := by decide +kernel
theorem dX9_lawfulNow_5 : decode cX9_lawfulNow 5 = .ok (.aload_n 0, 1) := by decide +kernel
theorem dX9_lawfulNow_6 : decode cX9_lawfulNow 6 = .ok (.getfield 259, 3) := by decide +kernel
theorem dX9_lawfulNow_9 : decode cX9_lawfulNow 9 = .ok (.if_icmp .ge 27, 3) := by decide +kernel
theorem dX9_lawfulNow_12 : decode cX9_lawfulNow 12 = .ok (.iload_n 1, 1) := by decide +kernel
theorem dX9_lawfulNow_13 : decode cX9_lawfulNow 13 = .ok (.aload_n 0, 1) := by decide +kernel
theorem dX9_lawfulNow_14 : decode cX9_lawfulNow 14 = .ok (.iload_n 2, 1) := by decide +kernel
theorem dX9_lawfulNow_15 : decode cX9_lawfulNow 15 = .ok (.invokevirtual 350, 3) := by decide +kernel
theorem dX9_lawfulNow_18 : decode cX9_lawfulNow 18 = .ok (.ifCond .ne 9, 3) := by decide +kernel
theorem dX9_lawfulNow_21 : decode cX9_lawfulNow 21 = .ok (.iconst 1, 1) := by decide +kernel
theorem dX9_lawfulNow_22 : decode cX9_lawfulNow 22 = .ok (.iload_n 2, 1) := by decide +kernel
theorem dX9_lawfulNow_23 : decode cX9_lawfulNow 23 = .ok (.ishl, 1) := by decide +kernel
theorem dX9_lawfulNow_24 : decode cX9_lawfulNow 24 = .ok (.goto 4, 3) := by decide +kernel
theorem dX9_lawfulNow_27 : decode cX9_lawfulNow 27 = .ok (.iconst 0, 1) := by decide +kernel
theorem dX9_lawfulNow_28 : decode cX9_lawfulNow 28 = .ok (.ior, 1) := by decide +kernel
theorem dX9_lawfulNow_29 : decode cX9_lawfulNow 29 = .ok (.istore_n 1, 1) := by decide +kernel
theorem dX9_lawfulNow_30 : decode cX9_lawfulNow 30 = .ok (.iinc 2 1, 3) := by decide +kernel
theorem dX9_lawfulNow_33 : decode cX9_lawfulNow 33 = .ok (.goto (-29), 3) := by decide +kernel
theorem dX9_lawfulNow_36 : decode cX9_lawfulNow 36 = .ok (.iload_n 1, 1) := by decide +kernel
theorem dX9_lawfulNow_37 : decode cX9_lawfulNow 37 = .ok (.ireturn, 1) := by decide +kernel
theorem dX9_lawful_0 : decode cX9_lawful 0 = .ok (.aload_n 0, 1) := by decide +kernel
theorem dX9_lawful_1 : decode cX9_lawful 1 = .ok (.invokevirtual 272, 3) := by decide +kernel
theorem dX9_lawful_4 : decode cX9_lawful 4 = .ok (.ifCond .eq 7, 3) := by decide +kernel
theorem dX9_lawful_7 : decode cX9_lawful 7 = .ok (.iconst 0, 1) := by decide +kernel
theorem dX9_lawful_8 : decode cX9_lawful 8 = .ok (.goto 7, 3) := by decide +kernel
theorem dX9_lawful_11 : decode cX9_lawful 11 = .ok (.aload_n 0, 1) := by decide +kernel
theorem dX9_lawful_12 : decode cX9_lawful 12 = .ok (.invokevirtual 353, 3) := by decide +kernel
theorem dX9_lawful_15 : decode cX9_lawful 15 = .ok (.ireturn, 1) := by decide +kernel
theorem dX9_kernelOf_0 : decode cX9_kernelOf 0 = .ok (.iconst 0, 1) := by decide +kernel
theorem dX9_kernelOf_1 : decode cX9_kernelOf 1 = .ok (.istore_n 2, 1) := by decide +kernel
theorem dX9_kernelOf_2 : decode cX9_kernelOf 2 = .ok (.iconst 0, 1) := by decide +kernel
theorem dX9_kernelOf_3 : decode cX9_kernelOf 3 = .ok (.istore_n 3, 1) := by decide +kernel
theorem dX9_kernelOf_4 : decode cX9_kernelOf 4 = .ok (.iload_n 3, 1) := by decide +kernel
theorem dX9_kernelOf_5 : decode cX9_kernelOf 5 = .ok (.aload_n 0, 1) := by decide +kernel
theorem dX9_kernelOf_6 : decode cX9_kernelOf 6 = .ok (.iload_n 1, 1) := by decide +kernel
theorem dX9_kernelOf_7 : decode cX9_kernelOf 7 = .ok (.invokevirtual 323, 3) := by decide +kernel
theorem dX9_kernelOf_10 : decode cX9_kernelOf 10 = .ok (.if_icmp .ge 28, 3) := by decide +kernel
theorem dX9_kernelOf_13 : decode cX9_kernelOf 13 = .ok (.iload_n 2, 1) := by decide +kernel
theorem dX9_kernelOf_14 : decode cX9_kernelOf 14 = .ok (.aload_n 0, 1) := by decide +kernel
theorem dX9_kernelOf_15 : decode cX9_kernelOf 15 = .ok (.iload_n 1, 1) := by decide +kernel
theorem dX9_kernelOf_16 : decode cX9_kernelOf 16 = .ok (.iload_n 3, 1) := by decide +kernel
theorem dX9_kernelOf_17 : decode cX9_kernelOf 17 = .ok (.invokevirtual 314, 3) := by decide +kernel
theorem dX9_kernelOf_20 : decode cX9_kernelOf 20 = .ok (.ifCond .ne 9, 3) := by decide +kernel
theorem dX9_kernelOf_23 : decode cX9_kernelOf 23 = .ok (.iconst 1, 1) := by decide +kernel
theorem dX9_kernelOf_24 : decode cX9_kernelOf 24 = .ok (.iload_n 3, 1) := by decide +kernel
theorem dX9_kernelOf_25 : decode cX9_kernelOf 25 = .ok (.ishl, 1) := by decide +kernel
theorem dX9_kernelOf_26 : decode cX9_kernelOf 26 = .ok (.goto 4, 3) := by decide +kernel
theorem dX9_kernelOf_29 : decode cX9_kernelOf 29 = .ok (.iconst 0, 1) := by decide +kernel
theorem dX9_kernelOf_30 : decode cX9_kernelOf 30 = .ok (.ior, 1) := by decide +kernel
theorem dX9_kernelOf_31 : decode cX9_kernelOf 31 = .ok (.istore_n 2, 1) := by decide +kernel
theorem dX9_kernelOf_32 : decode cX9_kernelOf 32 = .ok (.iinc 3 1, 3) := by decide +kernel
theorem dX9_kernelOf_35 : decode cX9_kernelOf 35 = .ok (.goto (-31), 3) := by decide +kernel
theorem dX9_kernelOf_38 : decode cX9_kernelOf 38 = .ok (.iload_n 2, 1) := by decide +kernel
theorem dX9_kernelOf_39 : decode cX9_kernelOf 39 = .ok (.ireturn, 1) := by decide +kernel
theorem dX9_imageOf_0 : decode cX9_imageOf 0 = .ok (.iconst 0, 1) := by decide +kernel
theorem dX9_imageOf_1 : decode cX9_imageOf 1 = .ok (.istore_n 2, 1) := by decide +kernel
theorem dX9_imageOf_2 : decode cX9_imageOf 2 = .ok (.iconst 0, 1) := by decide +kernel
theorem dX9_imageOf_3 : decode cX9_imageOf 3 = .ok (.istore_n 3, 1) := by decide +kernel
theorem dX9_imageOf_4 : decode cX9_imageOf 4 = .ok (.iload_n 3, 1) := by decide +kernel
theorem dX9_imageOf_5 : decode cX9_imageOf 5 = .ok (.aload_n 0, 1) := by decide +kernel
theorem dX9_imageOf_6 : decode cX9_imageOf 6 = .ok (.iload_n 1, 1) := by decide +kernel
theorem dX9_imageOf_7 : decode cX9_imageOf 7 = .ok (.invokevirtual 323, 3) := by decide +kernel
theorem dX9_imageOf_10 : decode cX9_imageOf 10 = .ok (.if_icmp .ge 20, 3) := by decide +kernel
theorem dX9_imageOf_13 : decode cX9_imageOf 13 = .ok (.iload_n 2, 1) := by decide +kernel
theorem dX9_imageOf_14 : decode cX9_imageOf 14 = .ok (.iconst 1, 1) := by decide +kernel
theorem dX9_imageOf_15 : decode cX9_imageOf 15 = .ok (.aload_n 0, 1) := by decide +kernel
theorem dX9_imageOf_16 : decode cX9_imageOf 16 = .ok (.iload_n 1, 1) := by decide +kernel
theorem dX9_imageOf_17 : decode cX9_imageOf 17 = .ok (.iload_n 3, 1) := by decide +kernel
theorem dX9_imageOf_18 : decode cX9_imageOf 18 = .ok (.invokevirtual 314, 3) := by decide +kernel
theorem dX9_imageOf_21 : decode cX9_imageOf 21 = .ok (.ishl, 1) := by decide +kernel
theorem dX9_imageOf_22 : decode cX9_imageOf 22 = .ok (.ior, 1) := by decide +kernel
theorem dX9_imageOf_23 : decode cX9_imageOf 23 = .ok (.istore_n 2, 1) := by decide +kernel
theorem dX9_imageOf_24 : decode cX9_imageOf 24 = .ok (.iinc 3 1, 3) := by decide +kernel
theorem dX9_imageOf_27 : decode cX9_imageOf 27 = .ok (.goto (-23), 3) := by decide +kernel
theorem dX9_imageOf_30 : decode cX9_imageOf 30 = .ok (.iload_n 2, 1) := by decide +kernel
theorem dX9_imageOf_31 : decode cX9_imageOf 31 = .ok (.ireturn, 1) := by decide +kernel
theorem dX9_kernel_0 : decode cX9_kernel 0 = .ok (.aload_n 0, 1) := by decide +kernel
theorem dX9_kernel_1 : decode cX9_kernel 1 = .ok (.iload_n 1, 1) := by decide +kernel
theorem dX9_kernel_2 : decode cX9_kernel 2 = .ok (.invokevirtual 308, 3) := by decide +kernel
theorem dX9_kernel_5 : decode cX9_kernel 5 = .ok (.ifCond .eq 7, 3) := by decide +kernel
theorem dX9_kernel_8 : decode cX9_kernel 8 = .ok (.iconst 0, 1) := by decide +kernel
theorem dX9_kernel_9 : decode cX9_kernel 9 = .ok (.goto 8, 3) := by decide +kernel
theorem dX9_kernel_12 : decode cX9_kernel 12 = .ok (.aload_n 0, 1) := by decide +kernel
theorem dX9_kernel_13 : decode cX9_kernel 13 = .ok (.iload_n 1, 1) := by decide +kernel
theorem dX9_kernel_14 : decode cX9_kernel 14 = .ok (.invokevirtual 356, 3) := by decide +kernel
theorem dX9_kernel_17 : decode cX9_kernel 17 = .ok (.ireturn, 1) := by decide +kernel
theorem dX9_image_0 : decode cX9_image 0 = .ok (.aload_n 0, 1) := by decide +kernel
theorem dX9_image_1 : decode cX9_image 1 = .ok (.iload_n 1, 1) := by decide +kernel
theorem dX9_image_2 : decode cX9_image 2 = .ok (.invokevirtual 308, 3) := by decide +kernel
theorem dX9_image_5 : decode cX9_image 5 = .ok (.ifCond .eq 7, 3) := by decide +kernel
theorem dX9_image_8 : decode cX9_image 8 = .ok (.iconst 0, 1) := by decide +kernel
theorem dX9_image_9 : decode cX9_image 9 = .ok (.goto 8, 3) := by decide +kernel
theorem dX9_image_12 : decode cX9_image 12 = .ok (.aload_n 0, 1) := by decide +kernel
theorem dX9_image_13 : decode cX9_image 13 = .ok (.iload_n 1, 1) := by decide +kernel
theorem dX9_image_14 : decode cX9_image 14 = .ok (.invokevirtual 359, 3) := by decide +kernel
theorem dX9_image_17 : decode cX9_image 17 = .ok (.ireturn, 1) := by decide +kernel
theorem dX9_isCentral_0 : decode cX9_isCentral 0 = .ok (.aload_n 0, 1) := by decide +kernel
theorem dX9_isCentral_1 : decode cX9_isCentral 1 = .ok (.iload_n 1, 1) := by decide +kernel
theorem dX9_isCentral_2 : decode cX9_isCentral 2 = .ok (.invokevirtual 308, 3) := by decide +kernel
theorem dX9_isCentral_5 : decode cX9_isCentral 5 = .ok (.ifCond .ne 28, 3) := by decide +kernel
theorem dX9_isCentral_8 : decode cX9_isCentral 8 = .ok (.aload_n 0, 1) := by decide +kernel
theorem dX9_isCentral_9 : decode cX9_isCentral 9 = .ok (.iload_n 1, 1) := by decide +kernel
theorem dX9_isCentral_10 : decode cX9_isCentral 10 = .ok (.invokevirtual 356, 3) := by decide +kernel
theorem dX9_isCentral_13 : decode cX9_isCentral 13 = .ok (.aload_n 0, 1) := by decide +kernel
theorem dX9_isCentral_14 : decode cX9_isCentral 14 = .ok (.aload_n 0, 1) := by decide +kernel
theorem dX9_isCentral_15 : decode cX9_isCentral 15 = .ok (.getfield 16, 3) := by decide +kernel
theorem dX9_isCentral_18 : decode cX9_isCentral 18 = .ok (.iload_n 1, 1) := by decide +kernel
theorem dX9_isCentral_19 : decode cX9_isCentral 19 = .ok (.iaload, 1) := by decide +kernel
theorem dX9_isCentral_20 : decode cX9_isCentral 20 = .ok (.invokevirtual 295, 3) := by decide +kernel
theorem dX9_isCentral_23 : decode cX9_isCentral 23 = .ok (.iconst (-1), 1) := by decide +kernel
theorem dX9_isCentral_24 : decode cX9_isCentral 24 = .ok (.ixor, 1) := by decide +kernel
theorem dX9_isCentral_25 : decode cX9_isCentral 25 = .ok (.iand, 1) := by decide +kernel
theorem dX9_isCentral_26 : decode cX9_isCentral 26 = .ok (.ifCond .ne 7, 3) := by decide +kernel
theorem dX9_isCentral_29 : decode cX9_isCentral 29 = .ok (.iconst 1, 1) := by decide +kernel
theorem dX9_isCentral_30 : decode cX9_isCentral 30 = .ok (.goto 4, 3) := by decide +kernel
theorem dX9_isCentral_33 : decode cX9_isCentral 33 = .ok (.iconst 0, 1) := by decide +kernel
theorem dX9_isCentral_34 : decode cX9_isCentral 34 = .ok (.ireturn, 1) := by decide +kernel
theorem dX9_fixed_0 : decode cX9_fixed 0 = .ok (.aload_n 0, 1) := by decide +kernel
theorem dX9_fixed_1 : decode cX9_fixed 1 = .ok (.iload_n 1, 1) := by decide +kernel
theorem dX9_fixed_2 : decode cX9_fixed 2 = .ok (.iload_n 2, 1) := by decide +kernel
theorem dX9_fixed_3 : decode cX9_fixed 3 = .ok (.invokevirtual 311, 3) := by decide +kernel
theorem dX9_fixed_6 : decode cX9_fixed 6 = .ok (.ifCond .eq 5, 3) := by decide +kernel
theorem dX9_fixed_9 : decode cX9_fixed 9 = .ok (.iconst 0, 1) := by decide +kernel
theorem dX9_fixed_10 : decode cX9_fixed 10 = .ok (.ireturn, 1) := by decide +kernel
theorem dX9_fixed_11 : decode cX9_fixed 11 = .ok (.iconst 0, 1) := by decide +kernel
theorem dX9_fixed_12 : decode cX9_fixed 12 = .ok (.istore_n 3, 1) := by decide +kernel
theorem dX9_fixed_13 : decode cX9_fixed 13 = .ok (.iconst 0, 1) := by decide +kernel
theorem dX9_fixed_14 : decode cX9_fixed 14 = .ok (.istore 4, 2) := by decide +kernel
theorem dX9_fixed_16 : decode cX9_fixed 16 = .ok (.iload 4, 2) := by decide +kernel
theorem dX9_fixed_18 : decode cX9_fixed 18 = .ok (.aload_n 0, 1) := by decide +kernel
theorem dX9_fixed_19 : decode cX9_fixed 19 = .ok (.iload_n 1, 1) := by decide +kernel
theorem dX9_fixed_20 : decode cX9_fixed 20 = .ok (.invokevirtual 332, 3) := by decide +kernel
theorem dX9_fixed_23 : decode cX9_fixed 23 = .ok (.if_icmp .ge 32, 3) := by decide +kernel
theorem dX9_fixed_26 : decode cX9_fixed 26 = .ok (.iload_n 3, 1) := by decide +kernel
theorem dX9_fixed_27 : decode cX9_fixed 27 = .ok (.aload_n 0, 1) := by decide +kernel
theorem dX9_fixed_28 : decode cX9_fixed 28 = .ok (.iload_n 1, 1) := by decide +kernel
theorem dX9_fixed_29 : decode cX9_fixed 29 = .ok (.iload 4, 2) := by decide +kernel
theorem dX9_fixed_31 : decode cX9_fixed 31 = .ok (.iload_n 2, 1) := by decide +kernel
theorem dX9_fixed_32 : decode cX9_fixed 32 = .ok (.invokevirtual 320, 3) := by decide +kernel
theorem dX9_fixed_35 : decode cX9_fixed 35 = .ok (.iload_n 2, 1) := by decide +kernel
theorem dX9_fixed_36 : decode cX9_fixed 36 = .ok (.if_icmp .ne 10, 3) := by decide +kernel
theorem dX9_fixed_39 : decode cX9_fixed 39 = .ok (.iconst 1, 1) := by decide +kernel
theorem dX9_fixed_40 : decode cX9_fixed 40 = .ok (.iload 4, 2) := by decide +kernel
theorem dX9_fixed_42 : decode cX9_fixed 42 = .ok (.ishl, 1) := by decide +kernel
theorem dX9_fixed_43 : decode cX9_fixed 43 = .ok (.goto 4, 3) := by decide +kernel
theorem dX9_fixed_46 : decode cX9_fixed 46 = .ok (.iconst 0, 1) := by decide +kernel
theorem dX9_fixed_47 : decode cX9_fixed 47 = .ok (.ior, 1) := by decide +kernel
theorem dX9_fixed_48 : decode cX9_fixed 48 = .ok (.istore_n 3, 1) := by decide +kernel
theorem dX9_fixed_49 : decode cX9_fixed 49 = .ok (.iinc 4 1, 3) := by decide +kernel
theorem dX9_fixed_52 : decode cX9_fixed 52 = .ok (.goto (-36), 3) := by decide +kernel
theorem dX9_fixed_55 : decode cX9_fixed 55 = .ok (.iload_n 3, 1) := by decide +kernel
theorem dX9_fixed_56 : decode cX9_fixed 56 = .ok (.ireturn, 1) := by decide +kernel
theorem dX9_orbit_0 : decode cX9_orbit 0 = .ok (.aload_n 0, 1) := by decide +kernel
theorem dX9_orbit_1 : decode cX9_orbit 1 = .ok (.iload_n 1, 1) := by decide +kernel
theorem dX9_orbit_2 : decode cX9_orbit 2 = .ok (.iload_n 2, 1) := by decide +kernel
theorem dX9_orbit_3 : decode cX9_orbit 3 = .ok (.invokevirtual 311, 3) := by decide +kernel
theorem dX9_orbit_6 : decode cX9_orbit 6 = .ok (.ifCond .eq 5, 3) := by decide +kernel
theorem dX9_orbit_9 : decode cX9_orbit 9 = .ok (.iconst 0, 1) := by decide +kernel
theorem dX9_orbit_10 : decode cX9_orbit 10 = .ok (.ireturn, 1) := by decide +kernel
theorem dX9_orbit_11 : decode cX9_orbit 11 = .ok (.iconst 0, 1) := by decide +kernel
theorem dX9_orbit_12 : decode cX9_orbit 12 = .ok (.istore_n 3, 1) := by decide +kernel
theorem dX9_orbit_13 : decode cX9_orbit 13 = .ok (.iconst 0, 1) := by decide +kernel
theorem dX9_orbit_14 : decode cX9_orbit 14 = .ok (.istore 4, 2) := by decide +kernel
theorem dX9_orbit_16 : decode cX9_orbit 16 = .ok (.iload 4, 2) := by decide +kernel
theorem dX9_orbit_18 : decode cX9_orbit 18 = .ok (.aload_n 0, 1) := by decide +kernel
theorem dX9_orbit_19 : decode cX9_orbit 19 = .ok (.iload_n 1, 1) := by decide +kernel
theorem dX9_orbit_20 : decode cX9_orbit 20 = .ok (.invokevirtual 332, 3) := by decide +kernel
theorem dX9_orbit_23 : decode cX9_orbit 23 = .ok (.if_icmp .ge 22, 3) := by decide +kernel
theorem dX9_orbit_26 : decode cX9_orbit 26 = .ok (.iload_n 3, 1) := by decide +kernel
theorem dX9_orbit_27 : decode cX9_orbit 27 = .ok (.iconst 1, 1) := by decide +kernel
theorem dX9_orbit_28 : decode cX9_orbit 28 = .ok (.aload_n 0, 1) := by decide +kernel
theorem dX9_orbit_29 : decode cX9_orbit 29 = .ok (.iload_n 1, 1) := by decide +kernel
theorem dX9_orbit_30 : decode cX9_orbit 30 = .ok (.iload 4, 2) := by decide +kernel
theorem dX9_orbit_32 : decode cX9_orbit 32 = .ok (.iload_n 2, 1) := by decide +kernel
theorem dX9_orbit_33 : decode cX9_orbit 33 = .ok (.invokevirtual 320, 3) := by decide +kernel
theorem dX9_orbit_36 : decode cX9_orbit 36 = .ok (.ishl, 1) := by decide +kernel
theorem dX9_orbit_37 : decode cX9_orbit 37 = .ok (.ior, 1) := by decide +kernel
theorem dX9_orbit_38 : decode cX9_orbit 38 = .ok (.istore_n 3, 1) := by decide +kernel
theorem dX9_orbit_39 : decode cX9_orbit 39 = .ok (.iinc 4 1, 3) := by decide +kernel
theorem dX9_orbit_42 : decode cX9_orbit 42 = .ok (.goto (-26), 3) := by decide +kernel
theorem dX9_orbit_45 : decode cX9_orbit 45 = .ok (.iload_n 3, 1) := by decide +kernel
theorem dX9_orbit_46 : decode cX9_orbit 46 = .ok (.ireturn, 1) := by decide +kernel
theorem dX9_laysClasses_0 : decode cX9_laysClasses 0 = .ok (.iconst 0, 1) := by decide +kernel
theorem dX9_laysClasses_1 : decode cX9_laysClasses 1 = .ok (.istore_n 2, 1) := by decide +kernel
theorem dX9_laysClasses_2 : decode cX9_laysClasses 2 = .ok (.aload_n 0, 1) := by decide +kernel
theorem dX9_laysClasses_3 : decode cX9_laysClasses 3 = .ok (.iload_n 1, 1) := by decide +kernel
theorem dX9_laysClasses_4 : decode cX9_laysClasses 4 = .ok (.invokevirtual 359, 3) := by decide +kernel
theorem dX9_laysClasses_7 : decode cX9_laysClasses 7 = .ok (.istore_n 3, 1) := by decide +kernel
theorem dX9_laysClasses_8 : decode cX9_laysClasses 8 = .ok (.iconst 0, 1) := by decide +kernel
theorem dX9_laysClasses_9 : decode cX9_laysClasses 9 = .ok (.istore 4, 2) := by decide +kernel
theorem dX9_laysClasses_11 : decode cX9_laysClasses 11 = .ok (.iconst 0, 1) := by decide +kernel
theorem dX9_laysClasses_12 : decode cX9_laysClasses 12 = .ok (.istore 5, 2) := by decide +kernel
theorem dX9_laysClasses_14 : decode cX9_laysClasses 14 = .ok (.iload 5, 2) := by decide +kernel
theorem dX9_laysClasses_16 : decode cX9_laysClasses 16 = .ok (.aload_n 0, 1) := by decide +kernel
theorem dX9_laysClasses_17 : decode cX9_laysClasses 17 = .ok (.iload_n 1, 1) := by decide +kernel
theorem dX9_laysClasses_18 : decode cX9_laysClasses 18 = .ok (.invokevirtual 332, 3) := by decide +kernel
theorem dX9_laysClasses_21 : decode cX9_laysClasses 21 = .ok (.if_icmp .ge 92, 3) := by decide +kernel
theorem dX9_laysClasses_24 : decode cX9_laysClasses 24 = .ok (.iload 4, 2) := by decide +kernel
theorem dX9_laysClasses_26 : decode cX9_laysClasses 26 = .ok (.iload 5, 2) := by decide +kernel
theorem dX9_laysClasses_28 : decode cX9_laysClasses 28 = .ok (.invokestatic 221, 3) := by decide +kernel
theorem dX9_laysClasses_31 : decode cX9_laysClasses 31 = .ok (.ifCond .eq 6, 3) := by decide +kernel
theorem dX9_laysClasses_34 : decode cX9_laysClasses 34 = .ok (.goto 73, 3) := by decide +kernel
theorem dX9_laysClasses_37 : decode cX9_laysClasses 37 = .ok (.aload_n 0, 1) := by decide +kernel
theorem dX9_laysClasses_38 : decode cX9_laysClasses 38 = .ok (.getfield 75, 3) := by decide +kernel
theorem dX9_laysClasses_41 : decode cX9_laysClasses 41 = .ok (.iload_n 2, 1) := by decide +kernel
theorem dX9_laysClasses_42 : decode cX9_laysClasses 42 = .ok (.iload 5, 2) := by decide +kernel
theorem dX9_laysClasses_44 : decode cX9_laysClasses 44 = .ok (.iastore, 1) := by decide +kernel
theorem dX9_laysClasses_45 : decode cX9_laysClasses 45 = .ok (.iconst 0, 1) := by decide +kernel
theorem dX9_laysClasses_46 : decode cX9_laysClasses 46 = .ok (.istore 6, 2) := by decide +kernel
theorem dX9_laysClasses_48 : decode cX9_laysClasses 48 = .ok (.iload 6, 2) := by decide +kernel
theorem dX9_laysClasses_50 : decode cX9_laysClasses 50 = .ok (.aload_n 0, 1) := by decide +kernel
theorem dX9_laysClasses_51 : decode cX9_laysClasses 51 = .ok (.iload_n 1, 1) := by decide +kernel
theorem dX9_laysClasses_52 : decode cX9_laysClasses 52 = .ok (.invokevirtual 332, 3) := by decide +kernel
theorem dX9_laysClasses_55 : decode cX9_laysClasses 55 = .ok (.if_icmp .ge 49, 3) := by decide +kernel
theorem dX9_laysClasses_58 : decode cX9_laysClasses 58 = .ok (.iload_n 3, 1) := by decide +kernel
theorem dX9_laysClasses_59 : decode cX9_laysClasses 59 = .ok (.iload 6, 2) := by decide +kernel
theorem dX9_laysClasses_61 : decode cX9_laysClasses 61 = .ok (.invokestatic 221, 3) := by decide +kernel
theorem dX9_laysClasses_64 : decode cX9_laysClasses 64 = .ok (.ifCond .eq 34, 3) := by decide +kernel
theorem dX9_laysClasses_67 : decode cX9_laysClasses 67 = .ok (.aload_n 0, 1) := by decide +kernel
theorem dX9_laysClasses_68 : decode cX9_laysClasses 68 = .ok (.getfield 78, 3) := by decide +kernel
theorem dX9_laysClasses_71 : decode cX9_laysClasses 71 = .ok (.aload_n 0, 1) := by decide +kernel
theorem dX9_laysClasses_72 : decode cX9_laysClasses 72 = .ok (.iload_n 1, 1) := by decide +kernel
theorem dX9_laysClasses_73 : decode cX9_laysClasses 73 = .ok (.iload 5, 2) := by decide +kernel
theorem dX9_laysClasses_75 : decode cX9_laysClasses 75 = .ok (.iload 6, 2) := by decide +kernel
theorem dX9_laysClasses_77 : decode cX9_laysClasses 77 = .ok (.invokevirtual 329, 3) := by decide +kernel
theorem dX9_laysClasses_80 : decode cX9_laysClasses 80 = .ok (.iload_n 2, 1) := by decide +kernel
theorem dX9_laysClasses_81 : decode cX9_laysClasses 81 = .ok (.iastore, 1) := by decide +kernel
theorem dX9_laysClasses_82 : decode cX9_laysClasses 82 = .ok (.iload 4, 2) := by decide +kernel
theorem dX9_laysClasses_84 : decode cX9_laysClasses 84 = .ok (.iconst 1, 1) := by decide +kernel
theorem dX9_laysClasses_85 : decode cX9_laysClasses 85 = .ok (.aload_n 0, 1) := by decide +kernel
theorem dX9_laysClasses_86 : decode cX9_laysClasses 86 = .ok (.iload_n 1, 1) := by decide +kernel
theorem dX9_laysClasses_87 : decode cX9_laysClasses 87 = .ok (.iload 5, 2) := by decide +kernel
theorem dX9_laysClasses_89 : decode cX9_laysClasses 89 = .ok (.iload 6, 2) := by decide +kernel
theorem dX9_laysClasses_91 : decode cX9_laysClasses 91 = .ok (.invokevirtual 329, 3) := by decide +kernel
theorem dX9_laysClasses_94 : decode cX9_laysClasses 94 = .ok (.ishl, 1) := by decide +kernel
theorem dX9_laysClasses_95 : decode cX9_laysClasses 95 = .ok (.ior, 1) := by decide +kernel
theorem dX9_laysClasses_96 : decode cX9_laysClasses 96 = .ok (.istore 4, 2) := by decide +kernel
theorem dX9_laysClasses_98 : decode cX9_laysClasses 98 = .ok (.iinc 6 1, 3) := by decide +kernel
theorem dX9_laysClasses_101 : decode cX9_laysClasses 101 = .ok (.goto (-53), 3) := by decide +kernel
theorem dX9_laysClasses_104 : decode cX9_laysClasses 104 = .ok (.iinc 2 1, 3) := by decide +kernel
theorem dX9_laysClasses_107 : decode cX9_laysClasses 107 = .ok (.iinc 5 1, 3) := by decide +kernel
theorem dX9_laysClasses_110 : decode cX9_laysClasses 110 = .ok (.goto (-96), 3) := by decide +kernel
theorem dX9_laysClasses_113 : decode cX9_laysClasses 113 = .ok (.iload_n 2, 1) := by decide +kernel
theorem dX9_laysClasses_114 : decode cX9_laysClasses 114 = .ok (.ireturn, 1) := by decide +kernel
theorem dX9_notLawful_0 : decode cX9_notLawful 0 = .ok (.aload_n 0, 1) := by decide +kernel
theorem dX9_notLawful_1 : decode cX9_notLawful 1 = .ok (.iload_n 1, 1) := by decide +kernel
theorem dX9_notLawful_2 : decode cX9_notLawful 2 = .ok (.invokevirtual 308, 3) := by decide +kernel
theorem dX9_notLawful_5 : decode cX9_notLawful 5 = .ok (.ifCond .ne 24, 3) := by decide +kernel
theorem dX9_notLawful_8 : decode cX9_notLawful 8 = .ok (.aload_n 0, 1) := by decide +kernel
theorem dX9_notLawful_9 : decode cX9_notLawful 9 = .ok (.aload_n 0, 1) := by decide +kernel
theorem dX9_notLawful_10 : decode cX9_notLawful 10 = .ok (.iload_n 1, 1) := by decide +kernel
theorem dX9_notLawful_11 : decode cX9_notLawful 11 = .ok (.invokevirtual 350, 3) := by decide +kernel
theorem dX9_notLawful_14 : decode cX9_notLawful 14 = .ok (.ifCond .eq 7, 3) := by decide +kernel
theorem dX9_notLawful_17 : decode cX9_notLawful 17 = .ok (.iconst 1, 1) := by decide +kernel
theorem dX9_notLawful_18 : decode cX9_notLawful 18 = .ok (.goto 4, 3) := by decide +kernel
theorem dX9_notLawful_21 : decode cX9_notLawful 21 = .ok (.iconst 0, 1) := by decide +kernel
theorem dX9_notLawful_22 : decode cX9_notLawful 22 = .ok (.iconst 3, 1) := by decide +kernel
theorem dX9_notLawful_23 : decode cX9_notLawful 23 = .ok (.invokevirtual 94, 3) := by decide +kernel
theorem dX9_notLawful_26 : decode cX9_notLawful 26 = .ok (.ifCond .eq 7, 3) := by decide +kernel
theorem dX9_notLawful_29 : decode cX9_notLawful 29 = .ok (.iconst 1, 1) := by decide +kernel
theorem dX9_notLawful_30 : decode cX9_notLawful 30 = .ok (.goto 4, 3) := by decide +kernel
theorem dX9_notLawful_33 : decode cX9_notLawful 33 = .ok (.iconst 0, 1) := by decide +kernel
theorem dX9_notLawful_34 : decode cX9_notLawful 34 = .ok (.ireturn, 1) := by decide +kernel
theorem dX9_classes_0 : decode cX9_classes 0 = .ok (.aload_n 0, 1) := by decide +kernel
theorem dX9_classes_1 : decode cX9_classes 1 = .ok (.iload_n 1, 1) := by decide +kernel
theorem dX9_classes_2 : decode cX9_classes 2 = .ok (.invokevirtual 362, 3) := by decide +kernel
theorem dX9_classes_5 : decode cX9_classes 5 = .ok (.ifCond .eq 7, 3) := by decide +kernel
theorem dX9_classes_8 : decode cX9_classes 8 = .ok (.iconst 0, 1) := by decide +kernel
theorem dX9_classes_9 : decode cX9_classes 9 = .ok (.goto 8, 3) := by decide +kernel
theorem dX9_classes_12 : decode cX9_classes 12 = .ok (.aload_n 0, 1) := by decide +kernel
theorem dX9_classes_13 : decode cX9_classes 13 = .ok (.iload_n 1, 1) := by decide +kernel
theorem dX9_classes_14 : decode cX9_classes 14 = .ok (.invokevirtual 365, 3) := by decide +kernel
theorem dX9_classes_17 : decode cX9_classes 17 = .ok (.ireturn, 1) := by decide +kernel
theorem dX9_classOf_0 : decode cX9_classOf 0 = .ok (.aload_n 0, 1) := by decide +kernel
theorem dX9_classOf_1 : decode cX9_classOf 1 = .ok (.iload_n 1, 1) := by decide +kernel
theorem dX9_classOf_2 : decode cX9_classOf 2 = .ok (.iload_n 2, 1) := by decide +kernel
theorem dX9_classOf_3 : decode cX9_classOf 3 = .ok (.invokevirtual 317, 3) := by decide +kernel
theorem dX9_classOf_6 : decode cX9_classOf 6 = .ok (.ifCond .ne 24, 3) := by decide +kernel
theorem dX9_classOf_9 : decode cX9_classOf 9 = .ok (.aload_n 0, 1) := by decide +kernel
theorem dX9_classOf_10 : decode cX9_classOf 10 = .ok (.aload_n 0, 1) := by decide +kernel
theorem dX9_classOf_11 : decode cX9_classOf 11 = .ok (.iload_n 1, 1) := by decide +kernel
theorem dX9_classOf_12 : decode cX9_classOf 12 = .ok (.invokevirtual 350, 3) := by decide +kernel
theorem dX9_classOf_15 : decode cX9_classOf 15 = .ok (.ifCond .eq 7, 3) := by decide +kernel
theorem dX9_classOf_18 : decode cX9_classOf 18 = .ok (.iconst 1, 1) := by decide +kernel
theorem dX9_classOf_19 : decode cX9_classOf 19 = .ok (.goto 4, 3) := by decide +kernel
theorem dX9_classOf_22 : decode cX9_classOf 22 = .ok (.iconst 0, 1) := by decide +kernel
theorem dX9_classOf_23 : decode cX9_classOf 23 = .ok (.iconst 3, 1) := by decide +kernel
theorem dX9_classOf_24 : decode cX9_classOf 24 = .ok (.invokevirtual 94, 3) := by decide +kernel
theorem dX9_classOf_27 : decode cX9_classOf 27 = .ok (.ifCond .eq 5, 3) := by decide +kernel
theorem dX9_classOf_30 : decode cX9_classOf 30 = .ok (.iconst 0, 1) := by decide +kernel
theorem dX9_classOf_31 : decode cX9_classOf 31 = .ok (.ireturn, 1) := by decide +kernel
theorem dX9_classOf_32 : decode cX9_classOf 32 = .ok (.aload_n 0, 1) := by decide +kernel
theorem dX9_classOf_33 : decode cX9_classOf 33 = .ok (.iload_n 1, 1) := by decide +kernel
theorem dX9_classOf_34 : decode cX9_classOf 34 = .ok (.invokevirtual 365, 3) := by decide +kernel
theorem dX9_classOf_37 : decode cX9_classOf 37 = .ok (.istore_n 3, 1) := by decide +kernel
theorem dX9_classOf_38 : decode cX9_classOf 38 = .ok (.aload_n 0, 1) := by decide +kernel
theorem dX9_classOf_39 : decode cX9_classOf 39 = .ok (.getfield 78, 3) := by decide +kernel
theorem dX9_classOf_42 : decode cX9_classOf 42 = .ok (.iload_n 2, 1) := by decide +kernel
theorem dX9_classOf_43 : decode cX9_classOf 43 = .ok (.iaload, 1) := by decide +kernel
theorem dX9_classOf_44 : decode cX9_classOf 44 = .ok (.ireturn, 1) := by decide +kernel
theorem dX9_classProduct_0 : decode cX9_classProduct 0 = .ok (.aload_n 0, 1) := by decide +kernel
theorem dX9_classProduct_1 : decode cX9_classProduct 1 = .ok (.getfield 78, 3) := by decide +kernel
theorem dX9_classProduct_4 : decode cX9_classProduct 4 = .ok (.aload_n 0, 1) := by decide +kernel
theorem dX9_classProduct_5 : decode cX9_classProduct 5 = .ok (.iload_n 1, 1) := by decide +kernel
theorem dX9_classProduct_6 : decode cX9_classProduct 6 = .ok (.aload_n 0, 1) := by decide +kernel
theorem dX9_classProduct_7 : decode cX9_classProduct 7 = .ok (.getfield 75, 3) := by decide +kernel
theorem dX9_classProduct_10 : decode cX9_classProduct 10 = .ok (.iload_n 2, 1) := by decide +kernel
theorem dX9_classProduct_11 : decode cX9_classProduct 11 = .ok (.iaload, 1) := by decide +kernel
theorem dX9_classProduct_12 : decode cX9_classProduct 12 = .ok (.aload_n 0, 1) := by decide +kernel
theorem dX9_classProduct_13 : decode cX9_classProduct 13 = .ok (.getfield 75, 3) := by decide +kernel
theorem dX9_classProduct_16 : decode cX9_classProduct 16 = .ok (.iload_n 3, 1) := by decide +kernel
theorem dX9_classProduct_17 : decode cX9_classProduct 17 = .ok (.iaload, 1) := by decide +kernel
theorem dX9_classProduct_18 : decode cX9_classProduct 18 = .ok (.invokevirtual 329, 3) := by decide +kernel
theorem dX9_classProduct_21 : decode cX9_classProduct 21 = .ok (.iaload, 1) := by decide +kernel
theorem dX9_classProduct_22 : decode cX9_classProduct 22 = .ok (.ireturn, 1) := by decide +kernel
theorem dX9_classTimes_0 : decode cX9_classTimes 0 = .ok (.aload_n 0, 1) := by decide +kernel
theorem dX9_classTimes_1 : decode cX9_classTimes 1 = .ok (.iload_n 1, 1) := by decide +kernel
theorem dX9_classTimes_2 : decode cX9_classTimes 2 = .ok (.invokevirtual 362, 3) := by decide +kernel
theorem dX9_classTimes_5 : decode cX9_classTimes 5 = .ok (.ifCond .eq 5, 3) := by decide +kernel
theorem dX9_classTimes_8 : decode cX9_classTimes 8 = .ok (.iconst 0, 1) := by decide +kernel
theorem dX9_classTimes_9 : decode cX9_classTimes 9 = .ok (.ireturn, 1) := by decide +kernel
theorem dX9_classTimes_10 : decode cX9_classTimes 10 = .ok (.aload_n 0, 1) := by decide +kernel
theorem dX9_classTimes_11 : decode cX9_classTimes 11 = .ok (.iload_n 1, 1) := by decide +kernel
theorem dX9_classTimes_12 : decode cX9_classTimes 12 = .ok (.invokevirtual 365, 3) := by decide +kernel
theorem dX9_classTimes_15 : decode cX9_classTimes 15 = .ok (.istore 4, 2) := by decide +kernel
theorem dX9_classTimes_17 : decode cX9_classTimes 17 = .ok (.aload_n 0, 1) := by decide +kernel
theorem dX9_classTimes_18 : decode cX9_classTimes 18 = .ok (.iload_n 2, 1) := by decide +kernel
theorem dX9_classTimes_19 : decode cX9_classTimes 19 = .ok (.iconst 0, 1) := by decide +kernel
theorem dX9_classTimes_20 : decode cX9_classTimes 20 = .ok (.iload 4, 2) := by decide +kernel
theorem dX9_classTimes_22 : decode cX9_classTimes 22 = .ok (.iconst 1, 1) := by decide +kernel
theorem dX9_classTimes_23 : decode cX9_classTimes 23 = .ok (.isub, 1) := by decide +kernel
theorem dX9_classTimes_24 : decode cX9_classTimes 24 = .ok (.invokestatic 152, 3) := by decide +kernel
theorem dX9_classTimes_27 : decode cX9_classTimes 27 = .ok (.ifCond .eq 15, 3) := by decide +kernel
theorem dX9_classTimes_30 : decode cX9_classTimes 30 = .ok (.iload_n 3, 1) := by decide +kernel
theorem dX9_classTimes_31 : decode cX9_classTimes 31 = .ok (.iconst 0, 1) := by decide +kernel
theorem dX9_classTimes_32 : decode cX9_classTimes 32 = .ok (.iload 4, 2) := by decide +kernel
theorem dX9_classTimes_34 : decode cX9_classTimes 34 = .ok (.iconst 1, 1) := by decide +kernel
theorem dX9_classTimes_35 : decode cX9_classTimes 35 = .ok (.isub, 1) := by decide +kernel
theorem dX9_classTimes_36 : decode cX9_classTimes 36 = .ok (.invokestatic 152, 3) := by decide +kernel
theorem dX9_classTimes_39 : decode cX9_classTimes 39 = .ok (.ifCond .ne 7, 3) := by decide +kernel
theorem dX9_classTimes_42 : decode cX9_classTimes 42 = .ok (.iconst 1, 1) := by decide +kernel
theorem dX9_classTimes_43 : decode cX9_classTimes 43 = .ok (.goto 4, 3) := by decide +kernel
theorem dX9_classTimes_46 : decode cX9_classTimes 46 = .ok (.iconst 0, 1) := by decide +kernel
theorem dX9_classTimes_47 : decode cX9_classTimes 47 = .ok (.iconst 3, 1) := by decide +kernel
theorem dX9_classTimes_48 : decode cX9_classTimes 48 = .ok (.invokevirtual 94, 3) := by decide +kernel
theorem dX9_classTimes_51 : decode cX9_classTimes 51 = .ok (.ifCond .eq 7, 3) := by decide +kernel
theorem dX9_classTimes_54 : decode cX9_classTimes 54 = .ok (.iconst 0, 1) := by decide +kernel
theorem dX9_classTimes_55 : decode cX9_classTimes 55 = .ok (.goto 10, 3) := by decide +kernel
theorem dX9_classTimes_58 : decode cX9_classTimes 58 = .ok (.aload_n 0, 1) := by decide +kernel
theorem dX9_classTimes_59 : decode cX9_classTimes 59 = .ok (.iload_n 1, 1) := by decide +kernel
theorem dX9_classTimes_60 : decode cX9_classTimes 60 = .ok (.iload_n 2, 1) := by decide +kernel
theorem dX9_classTimes_61 : decode cX9_classTimes 61 = .ok (.iload_n 3, 1) := by decide +kernel
theorem dX9_classTimes_62 : decode cX9_classTimes 62 = .ok (.invokevirtual 368, 3) := by decide +kernel
theorem dX9_classTimes_65 : decode cX9_classTimes 65 = .ok (.ireturn, 1) := by decide +kernel
theorem dX9_classAct_0 : decode cX9_classAct 0 = .ok (.aload_n 0, 1) := by decide +kernel
theorem dX9_classAct_1 : decode cX9_classAct 1 = .ok (.iload_n 1, 1) := by decide +kernel
theorem dX9_classAct_2 : decode cX9_classAct 2 = .ok (.invokevirtual 362, 3) := by decide +kernel
theorem dX9_classAct_5 : decode cX9_classAct 5 = .ok (.ifCond .eq 5, 3) := by decide +kernel
theorem dX9_classAct_8 : decode cX9_classAct 8 = .ok (.iconst 0, 1) := by decide +kernel
theorem dX9_classAct_9 : decode cX9_classAct 9 = .ok (.ireturn, 1) := by decide +kernel
theorem dX9_classAct_10 : decode cX9_classAct 10 = .ok (.aload_n 0, 1) := by decide +kernel
theorem dX9_classAct_11 : decode cX9_classAct 11 = .ok (.iload_n 1, 1) := by decide +kernel
theorem dX9_classAct_12 : decode cX9_classAct 12 = .ok (.invokevirtual 365, 3) := by decide +kernel
theorem dX9_classAct_15 : decode cX9_classAct 15 = .ok (.istore 4, 2) := by decide +kernel
theorem dX9_classAct_17 : decode cX9_classAct 17 = .ok (.aload_n 0, 1) := by decide +kernel
theorem dX9_classAct_18 : decode cX9_classAct 18 = .ok (.iload_n 2, 1) := by decide +kernel
theorem dX9_classAct_19 : decode cX9_classAct 19 = .ok (.iconst 0, 1) := by decide +kernel
theorem dX9_classAct_20 : decode cX9_classAct 20 = .ok (.iload 4, 2) := by decide +kernel
theorem dX9_classAct_22 : decode cX9_classAct 22 = .ok (.iconst 1, 1) := by decide +kernel
theorem dX9_classAct_23 : decode cX9_classAct 23 = .ok (.isub, 1) := by decide +kernel
theorem dX9_classAct_24 : decode cX9_classAct 24 = .ok (.invokestatic 152, 3) := by decide +kernel
theorem dX9_classAct_27 : decode cX9_classAct 27 = .ok (.ifCond .eq 27, 3) := by decide +kernel
theorem dX9_classAct_30 : decode cX9_classAct 30 = .ok (.iload_n 3, 1) := by decide +kernel
theorem dX9_classAct_31 : decode cX9_classAct 31 = .ok (.iconst 0, 1) := by decide +kernel
theorem dX9_classAct_32 : decode cX9_classAct 32 = .ok (.aload_n 0, 1) := by decide +kernel
theorem dX9_classAct_33 : decode cX9_classAct 33 = .ok (.iload_n 1, 1) := by decide +kernel
theorem dX9_classAct_34 : decode cX9_classAct 34 = .ok (.invokevirtual 323, 3) := by decide +kernel
theorem dX9_classAct_37 : decode cX9_classAct 37 = .ok (.iconst 1, 1) := by decide +kernel
theorem dX9_classAct_38 : decode cX9_classAct 38 = .ok (.isub, 1) := by decide +kernel
theorem dX9_classAct_39 : decode cX9_classAct 39 = .ok (.invokestatic 152, 3) := by decide +kernel
theorem dX9_classAct_42 : decode cX9_classAct 42 = .ok (.ifCond .eq 12, 3) := by decide +kernel
theorem dX9_classAct_45 : decode cX9_classAct 45 = .ok (.aload_n 0, 1) := by decide +kernel
theorem dX9_classAct_46 : decode cX9_classAct 46 = .ok (.iload_n 1, 1) := by decide +kernel
theorem dX9_classAct_47 : decode cX9_classAct 47 = .ok (.iload_n 3, 1) := by decide +kernel
theorem dX9_classAct_48 : decode cX9_classAct 48 = .ok (.invokevirtual 314, 3) := by decide +kernel
theorem dX9_classAct_51 : decode cX9_classAct 51 = .ok (.ifCond .eq 7, 3) := by decide +kernel
theorem dX9_classAct_54 : decode cX9_classAct 54 = .ok (.iconst 1, 1) := by decide +kernel
theorem dX9_classAct_55 : decode cX9_classAct 55 = .ok (.goto 4, 3) := by decide +kernel
theorem dX9_classAct_58 : decode cX9_classAct 58 = .ok (.iconst 0, 1) := by decide +kernel
theorem dX9_classAct_59 : decode cX9_classAct 59 = .ok (.iconst 3, 1) := by decide +kernel
theorem dX9_classAct_60 : decode cX9_classAct 60 = .ok (.invokevirtual 94, 3) := by decide +kernel
theorem dX9_classAct_63 : decode cX9_classAct 63 = .ok (.ifCond .eq 7, 3) := by decide +kernel
theorem dX9_classAct_66 : decode cX9_classAct 66 = .ok (.iconst 0, 1) := by decide +kernel
theorem dX9_classAct_67 : decode cX9_classAct 67 = .ok (.goto 15, 3) := by decide +kernel
theorem dX9_classAct_70 : decode cX9_classAct 70 = .ok (.aload_n 0, 1) := by decide +kernel
theorem dX9_classAct_71 : decode cX9_classAct 71 = .ok (.iload_n 1, 1) := by decide +kernel
theorem dX9_classAct_72 : decode cX9_classAct 72 = .ok (.aload_n 0, 1) := by decide +kernel
theorem dX9_classAct_73 : decode cX9_classAct 73 = .ok (.getfield 75, 3) := by decide +kernel
theorem dX9_classAct_76 : decode cX9_classAct 76 = .ok (.iload_n 2, 1) := by decide +kernel
theorem dX9_classAct_77 : decode cX9_classAct 77 = .ok (.iaload, 1) := by decide +kernel
theorem dX9_classAct_78 : decode cX9_classAct 78 = .ok (.iload_n 3, 1) := by decide +kernel
theorem dX9_classAct_79 : decode cX9_classAct 79 = .ok (.invokevirtual 320, 3) := by decide +kernel
theorem dX9_classAct_82 : decode cX9_classAct 82 = .ok (.ireturn, 1) := by decide +kernel
theorem dX9_profileOf_0 : decode cX9_profileOf 0 = .ok (.iconst 0, 1) := by decide +kernel
theorem dX9_profileOf_1 : decode cX9_profileOf 1 = .ok (.istore 4, 2) := by decide +kernel
theorem dX9_profileOf_3 : decode cX9_profileOf 3 = .ok (.iload_n 2, 1) := by decide +kernel
theorem dX9_profileOf_4 : decode cX9_profileOf 4 = .ok (.ifCond .ne 64, 3) := by decide +kernel
theorem dX9_profileOf_7 : decode cX9_profileOf 7 = .ok (.iconst 0, 1) := by decide +kernel
theorem dX9_profileOf_8 : decode cX9_profileOf 8 = .ok (.istore 5, 2) := by decide +kernel
theorem dX9_profileOf_10 : decode cX9_profileOf 10 = .ok (.iload 5, 2) := by decide +kernel
theorem dX9_profileOf_12 : decode cX9_profileOf 12 = .ok (.aload_n 0, 1) := by decide +kernel
theorem dX9_profileOf_13 : decode cX9_profileOf 13 = .ok (.iload_n 1, 1) := by decide +kernel
theorem dX9_profileOf_14 : decode cX9_profileOf 14 = .ok (.invokevirtual 323, 3) := by decide +kernel
theorem dX9_profileOf_17 : decode cX9_profileOf 17 = .ok (.if_icmp .ge 48, 3) := by decide +kernel
theorem dX9_profileOf_20 : decode cX9_profileOf 20 = .ok (.iload 4, 2) := by decide +kernel
theorem dX9_profileOf_22 : decode cX9_profileOf 22 = .ok (.aload_n 0, 1) := by decide +kernel
theorem dX9_profileOf_23 : decode cX9_profileOf 23 = .ok (.iload_n 1, 1) := by decide +kernel
theorem dX9_profileOf_24 : decode cX9_profileOf 24 = .ok (.iload 5, 2) := by decide +kernel
theorem dX9_profileOf_26 : decode cX9_profileOf 26 = .ok (.invokevirtual 314, 3) := by decide +kernel
theorem dX9_profileOf_29 : decode cX9_profileOf 29 = .ok (.ifCond .ne 23, 3) := by decide +kernel
theorem dX9_profileOf_32 : decode cX9_profileOf 32 = .ok (.aload_n 0, 1) := by decide +kernel
theorem dX9_profileOf_33 : decode cX9_profileOf 33 = .ok (.aload_n 0, 1) := by decide +kernel
theorem dX9_profileOf_34 : decode cX9_profileOf 34 = .ok (.getfield 16, 3) := by decide +kernel
theorem dX9_profileOf_37 : decode cX9_profileOf 37 = .ok (.iload_n 1, 1) := by decide +kernel
theorem dX9_profileOf_38 : decode cX9_profileOf 38 = .ok (.iaload, 1) := by decide +kernel
theorem dX9_profileOf_39 : decode cX9_profileOf 39 = .ok (.iload 5, 2) := by decide +kernel
theorem dX9_profileOf_41 : decode cX9_profileOf 41 = .ok (.invokevirtual 292, 3) := by decide +kernel
theorem dX9_profileOf_44 : decode cX9_profileOf 44 = .ok (.iload_n 3, 1) := by decide +kernel
theorem dX9_profileOf_45 : decode cX9_profileOf 45 = .ok (.if_icmp .ne 7, 3) := by decide +kernel
theorem dX9_profileOf_48 : decode cX9_profileOf 48 = .ok (.iconst 1, 1) := by decide +kernel
theorem dX9_profileOf_49 : decode cX9_profileOf 49 = .ok (.goto 4, 3) := by decide +kernel
theorem dX9_profileOf_52 : decode cX9_profileOf 52 = .ok (.iconst 0, 1) := by decide +kernel
theorem dX9_profileOf_53 : decode cX9_profileOf 53 = .ok (.invokestatic 207, 3) := by decide +kernel
theorem dX9_profileOf_56 : decode cX9_profileOf 56 = .ok (.iadd, 1) := by decide +kernel
theorem dX9_profileOf_57 : decode cX9_profileOf 57 = .ok (.istore 4, 2) := by decide +kernel
theorem dX9_profileOf_59 : decode cX9_profileOf 59 = .ok (.iinc 5 1, 3) := by decide +kernel
theorem dX9_profileOf_62 : decode cX9_profileOf 62 = .ok (.goto (-52), 3) := by decide +kernel
theorem dX9_profileOf_65 : decode cX9_profileOf 65 = .ok (.iload 4, 2) := by decide +kernel
theorem dX9_profileOf_67 : decode cX9_profileOf 67 = .ok (.ireturn, 1) := by decide +kernel
theorem dX9_profileOf_68 : decode cX9_profileOf 68 = .ok (.aload_n 0, 1) := by decide +kernel
theorem dX9_profileOf_69 : decode cX9_profileOf 69 = .ok (.iload_n 1, 1) := by decide +kernel
theorem dX9_profileOf_70 : decode cX9_profileOf 70 = .ok (.invokevirtual 365, 3) := by decide +kernel
theorem dX9_profileOf_73 : decode cX9_profileOf 73 = .ok (.istore 5, 2) := by decide +kernel
theorem dX9_profileOf_75 : decode cX9_profileOf 75 = .ok (.iconst 0, 1) := by decide +kernel
theorem dX9_profileOf_76 : decode cX9_profileOf 76 = .ok (.istore 6, 2) := by decide +kernel
theorem dX9_profileOf_78 : decode cX9_profileOf 78 = .ok (.iload 6, 2) := by decide +kernel
theorem dX9_profileOf_80 : decode cX9_profileOf 80 = .ok (.iload 5, 2) := by decide +kernel
theorem dX9_profileOf_82 : decode cX9_profileOf 82 = .ok (.if_icmp .ge 57, 3) := by decide +kernel
theorem dX9_profileOf_85 : decode cX9_profileOf 85 = .ok (.iconst 1, 1) := by decide +kernel
theorem dX9_profileOf_86 : decode cX9_profileOf 86 = .ok (.istore 7, 2) := by decide +kernel
theorem dX9_profileOf_88 : decode cX9_profileOf 88 = .ok (.iload 6, 2) := by decide +kernel
theorem dX9_profileOf_90 : decode cX9_profileOf 90 = .ok (.istore 8, 2) := by decide +kernel
theorem dX9_profileOf_92 : decode cX9_profileOf 92 = .ok (.iload 8, 2) := by decide +kernel
theorem dX9_profileOf_94 : decode cX9_profileOf 94 = .ok (.ifCond .eq 20, 3) := by decide +kernel
theorem dX9_profileOf_97 : decode cX9_profileOf 97 = .ok (.iinc 7 1, 3) := by decide +kernel
theorem dX9_profileOf_100 : decode cX9_profileOf 100 = .ok (.aload_n 0, 1) := by decide +kernel
theorem dX9_profileOf_101 : decode cX9_profileOf 101 = .ok (.iload_n 1, 1) := by decide +kernel
theorem dX9_profileOf_102 : decode cX9_profileOf 102 = .ok (.iload 8, 2) := by decide +kernel
theorem dX9_profileOf_104 : decode cX9_profileOf 104 = .ok (.iload 6, 2) := by decide +kernel
theorem dX9_profileOf_106 : decode cX9_profileOf 106 = .ok (.invokevirtual 368, 3) := by decide +kernel
theorem dX9_profileOf_109 : decode cX9_profileOf 109 = .ok (.istore 8, 2) := by decide +kernel
theorem dX9_profileOf_111 : decode cX9_profileOf 111 = .ok (.goto (-19), 3) := by decide +kernel
theorem dX9_profileOf_114 : decode cX9_profileOf 114 = .ok (.iload 4, 2) := by decide +kernel
theorem dX9_profileOf_116 : decode cX9_profileOf 116 = .ok (.iload 7, 2) := by decide +kernel
theorem dX9_profileOf_118 : decode cX9_profileOf 118 = .ok (.iload_n 3, 1) := by decide +kernel
theorem dX9_profileOf_119 : decode cX9_profileOf 119 = .ok (.if_icmp .ne 7, 3) := by decide +kernel
theorem dX9_profileOf_122 : decode cX9_profileOf 122 = .ok (.iconst 1, 1) := by decide +kernel
theorem dX9_profileOf_123 : decode cX9_profileOf 123 = .ok (.goto 4, 3) := by decide +kernel
theorem dX9_profileOf_126 : decode cX9_profileOf 126 = .ok (.iconst 0, 1) := by decide +kernel
theorem dX9_profileOf_127 : decode cX9_profileOf 127 = .ok (.invokestatic 207, 3) := by decide +kernel
theorem dX9_profileOf_130 : decode cX9_profileOf 130 = .ok (.iadd, 1) := by decide +kernel
theorem dX9_profileOf_131 : decode cX9_profileOf 131 = .ok (.istore 4, 2) := by decide +kernel
theorem dX9_profileOf_133 : decode cX9_profileOf 133 = .ok (.iinc 6 1, 3) := by decide +kernel
theorem dX9_profileOf_136 : decode cX9_profileOf 136 = .ok (.goto (-58), 3) := by decide +kernel
theorem dX9_profileOf_139 : decode cX9_profileOf 139 = .ok (.iload 4, 2) := by decide +kernel
theorem dX9_profileOf_141 : decode cX9_profileOf 141 = .ok (.ireturn, 1) := by decide +kernel
theorem dX9_profile_0 : decode cX9_profile 0 = .ok (.aload_n 0, 1) := by decide +kernel
theorem dX9_profile_1 : decode cX9_profile 1 = .ok (.iload_n 1, 1) := by decide +kernel
theorem dX9_profile_2 : decode cX9_profile 2 = .ok (.invokevirtual 362, 3) := by decide +kernel
theorem dX9_profile_5 : decode cX9_profile 5 = .ok (.ifCond .ne 26, 3) := by decide +kernel
theorem dX9_profile_8 : decode cX9_profile 8 = .ok (.aload_n 0, 1) := by decide +kernel
theorem dX9_profile_9 : decode cX9_profile 9 = .ok (.iload_n 3, 1) := by decide +kernel
theorem dX9_profile_10 : decode cX9_profile 10 = .ok (.iconst 1, 1) := by decide +kernel
theorem dX9_profile_11 : decode cX9_profile 11 = .ok (.bipush 8, 2) := by decide +kernel
theorem dX9_profile_13 : decode cX9_profile 13 = .ok (.invokestatic 152, 3) := by decide +kernel
theorem dX9_profile_16 : decode cX9_profile 16 = .ok (.ifCond .ne 7, 3) := by decide +kernel
theorem dX9_profile_19 : decode cX9_profile 19 = .ok (.iconst 1, 1) := by decide +kernel
theorem dX9_profile_20 : decode cX9_profile 20 = .ok (.goto 4, 3) := by decide +kernel
theorem dX9_profile_23 : decode cX9_profile 23 = .ok (.iconst 0, 1) := by decide +kernel
theorem dX9_profile_24 : decode cX9_profile 24 = .ok (.iconst 3, 1) := by decide +kernel
theorem dX9_profile_25 : decode cX9_profile 25 = .ok (.invokevirtual 94, 3) := by decide +kernel
theorem dX9_profile_28 : decode cX9_profile 28 = .ok (.ifCond .eq 7, 3) := by decide +kernel
theorem dX9_profile_31 : decode cX9_profile 31 = .ok (.iconst 0, 1) := by decide +kernel
theorem dX9_profile_32 : decode cX9_profile 32 = .ok (.goto 10, 3) := by decide +kernel
theorem dX9_profile_35 : decode cX9_profile 35 = .ok (.aload_n 0, 1) := by decide +kernel
theorem dX9_profile_36 : decode cX9_profile 36 = .ok (.iload_n 1, 1) := by decide +kernel
theorem dX9_profile_37 : decode cX9_profile 37 = .ok (.iload_n 2, 1) := by decide +kernel
theorem dX9_profile_38 : decode cX9_profile 38 = .ok (.iload_n 3, 1) := by decide +kernel
theorem dX9_profile_39 : decode cX9_profile 39 = .ok (.invokevirtual 371, 3) := by decide +kernel
theorem dX9_profile_42 : decode cX9_profile 42 = .ok (.ireturn, 1) := by decide +kernel
theorem dX9_alike_0 : decode cX9_alike 0 = .ok (.iconst 1, 1) := by decide +kernel
theorem dX9_alike_1 : decode cX9_alike 1 = .ok (.istore_n 3, 1) := by decide +kernel
theorem dX9_alike_2 : decode cX9_alike 2 = .ok (.iload_n 3, 1) := by decide +kernel
theorem dX9_alike_3 : decode cX9_alike 3 = .ok (.bipush 8, 2) := by decide +kernel
theorem dX9_alike_5 : decode cX9_alike 5 = .ok (.if_icmp .gt 45, 3) := by decide +kernel
theorem dX9_alike_8 : decode cX9_alike 8 = .ok (.aload_n 0, 1) := by decide +kernel
theorem dX9_alike_9 : decode cX9_alike 9 = .ok (.iload_n 1, 1) := by decide +kernel
theorem dX9_alike_10 : decode cX9_alike 10 = .ok (.iconst 0, 1) := by decide +kernel
theorem dX9_alike_11 : decode cX9_alike 11 = .ok (.iload_n 3, 1) := by decide +kernel
theorem dX9_alike_12 : decode cX9_alike 12 = .ok (.invokevirtual 371, 3) := by decide +kernel
theorem dX9_alike_15 : decode cX9_alike 15 = .ok (.aload_n 0, 1) := by decide +kernel
theorem dX9_alike_16 : decode cX9_alike 16 = .ok (.iload_n 2, 1) := by decide +kernel
theorem dX9_alike_17 : decode cX9_alike 17 = .ok (.iconst 0, 1) := by decide +kernel
theorem dX9_alike_18 : decode cX9_alike 18 = .ok (.iload_n 3, 1) := by decide +kernel
theorem dX9_alike_19 : decode cX9_alike 19 = .ok (.invokevirtual 371, 3) := by decide +kernel
theorem dX9_alike_22 : decode cX9_alike 22 = .ok (.if_icmp .ne 20, 3) := by decide +kernel
theorem dX9_alike_25 : decode cX9_alike 25 = .ok (.aload_n 0, 1) := by decide +kernel
theorem dX9_alike_26 : decode cX9_alike 26 = .ok (.iload_n 1, 1) := by decide +kernel
theorem dX9_alike_27 : decode cX9_alike 27 = .ok (.iconst 1, 1) := by decide +kernel
theorem dX9_alike_28 : decode cX9_alike 28 = .ok (.iload_n 3, 1) := by decide +kernel
theorem dX9_alike_29 : decode cX9_alike 29 = .ok (.invokevirtual 371, 3) := by decide +kernel
theorem dX9_alike_32 : decode cX9_alike 32 = .ok (.aload_n 0, 1) := by decide +kernel
theorem dX9_alike_33 : decode cX9_alike 33 = .ok (.iload_n 2, 1) := by decide +kernel
theorem dX9_alike_34 : decode cX9_alike 34 = .ok (.iconst 1, 1) := by decide +kernel
theorem dX9_alike_35 : decode cX9_alike 35 = .ok (.iload_n 3, 1) := by decide +kernel
theorem dX9_alike_36 : decode cX9_alike 36 = .ok (.invokevirtual 371, 3) := by decide +kernel
theorem dX9_alike_39 : decode cX9_alike 39 = .ok (.if_icmp .eq 5, 3) := by decide +kernel
theorem dX9_alike_42 : decode cX9_alike 42 = .ok (.iconst 0, 1) := by decide +kernel
theorem dX9_alike_43 : decode cX9_alike 43 = .ok (.ireturn, 1) := by decide +kernel
theorem dX9_alike_44 : decode cX9_alike 44 = .ok (.iinc 3 1, 3) := by decide +kernel
theorem dX9_alike_47 : decode cX9_alike 47 = .ok (.goto (-45), 3) := by decide +kernel
theorem dX9_alike_50 : decode cX9_alike 50 = .ok (.iconst 1, 1) := by decide +kernel
theorem dX9_alike_51 : decode cX9_alike 51 = .ok (.ireturn, 1) := by decide +kernel
theorem dX9_areAlike_0 : decode cX9_areAlike 0 = .ok (.aload_n 0, 1) := by decide +kernel
theorem dX9_areAlike_1 : decode cX9_areAlike 1 = .ok (.iload_n 1, 1) := by decide +kernel
theorem dX9_areAlike_2 : decode cX9_areAlike 2 = .ok (.invokevirtual 308, 3) := by decide +kernel
theorem dX9_areAlike_5 : decode cX9_areAlike 5 = .ok (.ifCond .ne 40, 3) := by decide +kernel
theorem dX9_areAlike_8 : decode cX9_areAlike 8 = .ok (.aload_n 0, 1) := by decide +kernel
theorem dX9_areAlike_9 : decode cX9_areAlike 9 = .ok (.iload_n 2, 1) := by decide +kernel
theorem dX9_areAlike_10 : decode cX9_areAlike 10 = .ok (.invokevirtual 308, 3) := by decide +kernel
theorem dX9_areAlike_13 : decode cX9_areAlike 13 = .ok (.ifCond .ne 32, 3) := by decide +kernel
theorem dX9_areAlike_16 : decode cX9_areAlike 16 = .ok (.aload_n 0, 1) := by decide +kernel
theorem dX9_areAlike_17 : decode cX9_areAlike 17 = .ok (.aload_n 0, 1) := by decide +kernel
theorem dX9_areAlike_18 : decode cX9_areAlike 18 = .ok (.iload_n 1, 1) := by decide +kernel
theorem dX9_areAlike_19 : decode cX9_areAlike 19 = .ok (.invokevirtual 350, 3) := by decide +kernel
theorem dX9_areAlike_22 : decode cX9_areAlike 22 = .ok (.ifCond .ne 11, 3) := by decide +kernel
theorem dX9_areAlike_25 : decode cX9_areAlike 25 = .ok (.aload_n 0, 1) := by decide +kernel
theorem dX9_areAlike_26 : decode cX9_areAlike 26 = .ok (.iload_n 2, 1) := by decide +kernel
theorem dX9_areAlike_27 : decode cX9_areAlike 27 = .ok (.invokevirtual 350, 3) := by decide +kernel
theorem dX9_areAlike_30 : decode cX9_areAlike 30 = .ok (.ifCond .eq 7, 3) := by decide +kernel
theorem dX9_areAlike_33 : decode cX9_areAlike 33 = .ok (.iconst 1, 1) := by decide +kernel
theorem dX9_areAlike_34 : decode cX9_areAlike 34 = .ok (.goto 4, 3) := by decide +kernel
theorem dX9_areAlike_37 : decode cX9_areAlike 37 = .ok (.iconst 0, 1) := by decide +kernel
theorem dX9_areAlike_38 : decode cX9_areAlike 38 = .ok (.iconst 3, 1) := by decide +kernel
theorem dX9_areAlike_39 : decode cX9_areAlike 39 = .ok (.invokevirtual 94, 3) := by decide +kernel
theorem dX9_areAlike_42 : decode cX9_areAlike 42 = .ok (.ifCond .eq 5, 3) := by decide +kernel
theorem dX9_areAlike_45 : decode cX9_areAlike 45 = .ok (.iconst 0, 1) := by decide +kernel
theorem dX9_areAlike_46 : decode cX9_areAlike 46 = .ok (.ireturn, 1) := by decide +kernel
theorem dX9_areAlike_47 : decode cX9_areAlike 47 = .ok (.aload_n 0, 1) := by decide +kernel
theorem dX9_areAlike_48 : decode cX9_areAlike 48 = .ok (.iload_n 1, 1) := by decide +kernel
theorem dX9_areAlike_49 : decode cX9_areAlike 49 = .ok (.iload_n 2, 1) := by decide +kernel
theorem dX9_areAlike_50 : decode cX9_areAlike 50 = .ok (.invokevirtual 375, 3) := by decide +kernel
theorem dX9_areAlike_53 : decode cX9_areAlike 53 = .ok (.ireturn, 1) := by decide +kernel
theorem dX9_firstLike_0 : decode cX9_firstLike 0 = .ok (.iconst 0, 1) := by decide +kernel
theorem dX9_firstLike_1 : decode cX9_firstLike 1 = .ok (.istore_n 2, 1) := by decide +kernel
theorem dX9_firstLike_2 : decode cX9_firstLike 2 = .ok (.aload_n 0, 1) := by decide +kernel
theorem dX9_firstLike_3 : decode cX9_firstLike 3 = .ok (.iload_n 2, 1) := by decide +kernel
theorem dX9_firstLike_4 : decode cX9_firstLike 4 = .ok (.invokevirtual 350, 3) := by decide +kernel
theorem dX9_firstLike_7 : decode cX9_firstLike 7 = .ok (.ifCond .ne 12, 3) := by decide +kernel
theorem dX9_firstLike_10 : decode cX9_firstLike 10 = .ok (.aload_n 0, 1) := by decide +kernel
theorem dX9_firstLike_11 : decode cX9_firstLike 11 = .ok (.iload_n 2, 1) := by decide +kernel
theorem dX9_firstLike_12 : decode cX9_firstLike 12 = .ok (.iload_n 1, 1) := by decide +kernel
theorem dX9_firstLike_13 : decode cX9_firstLike 13 = .ok (.invokevirtual 375, 3) := by decide +kernel
theorem dX9_firstLike_16 : decode cX9_firstLike 16 = .ok (.ifCond .ne 9, 3) := by decide +kernel
theorem dX9_firstLike_19 : decode cX9_firstLike 19 = .ok (.iinc 2 1, 3) := by decide +kernel
theorem dX9_firstLike_22 : decode cX9_firstLike 22 = .ok (.goto (-20), 3) := by decide +kernel
theorem dX9_firstLike_25 : decode cX9_firstLike 25 = .ok (.iload_n 2, 1) := by decide +kernel
theorem dX9_firstLike_26 : decode cX9_firstLike 26 = .ok (.ireturn, 1) := by decide +kernel
theorem dX9_kinds_0 : decode cX9_kinds 0 = .ok (.aload_n 0, 1) := by decide +kernel
theorem dX9_kinds_1 : decode cX9_kinds 1 = .ok (.invokevirtual 272, 3) := by decide +kernel
theorem dX9_kinds_4 : decode cX9_kinds 4 = .ok (.ifCond .eq 5, 3) := by decide +kernel
theorem dX9_kinds_7 : decode cX9_kinds 7 = .ok (.iconst 0, 1) := by decide +kernel
theorem dX9_kinds_8 : decode cX9_kinds 8 = .ok (.ireturn, 1) := by decide +kernel
theorem dX9_kinds_9 : decode cX9_kinds 9 = .ok (.iconst 0, 1) := by decide +kernel
theorem dX9_kinds_10 : decode cX9_kinds 10 = .ok (.istore_n 1, 1) := by decide +kernel
theorem dX9_kinds_11 : decode cX9_kinds 11 = .ok (.iconst 0, 1) := by decide +kernel
theorem dX9_kinds_12 : decode cX9_kinds 12 = .ok (.istore_n 2, 1) := by decide +kernel
theorem dX9_kinds_13 : decode cX9_kinds 13 = .ok (.iload_n 2, 1) := by decide +kernel
theorem dX9_kinds_14 : decode cX9_kinds 14 = .ok (.aload_n 0, 1) := by decide +kernel
theorem dX9_kinds_15 : decode cX9_kinds 15 = .ok (.getfield 259, 3) := by decide +kernel
theorem dX9_kinds_18 : decode cX9_kinds 18 = .ok (.if_icmp .ge 37, 3) := by decide +kernel
theorem dX9_kinds_21 : decode cX9_kinds 21 = .ok (.iload_n 1, 1) := by decide +kernel
theorem dX9_kinds_22 : decode cX9_kinds 22 = .ok (.aload_n 0, 1) := by decide +kernel
theorem dX9_kinds_23 : decode cX9_kinds 23 = .ok (.iload_n 2, 1) := by decide +kernel
theorem dX9_kinds_24 : decode cX9_kinds 24 = .ok (.invokevirtual 350, 3) := by decide +kernel
theorem dX9_kinds_27 : decode cX9_kinds 27 = .ok (.ifCond .ne 16, 3) := by decide +kernel
theorem dX9_kinds_30 : decode cX9_kinds 30 = .ok (.aload_n 0, 1) := by decide +kernel
theorem dX9_kinds_31 : decode cX9_kinds 31 = .ok (.iload_n 2, 1) := by decide +kernel
theorem dX9_kinds_32 : decode cX9_kinds 32 = .ok (.invokevirtual 378, 3) := by decide +kernel
theorem dX9_kinds_35 : decode cX9_kinds 35 = .ok (.iload_n 2, 1) := by decide +kernel
theorem dX9_kinds_36 : decode cX9_kinds 36 = .ok (.if_icmp .ne 7, 3) := by decide +kernel
theorem dX9_kinds_39 : decode cX9_kinds 39 = .ok (.iconst 1, 1) := by decide +kernel
theorem dX9_kinds_40 : decode cX9_kinds 40 = .ok (.goto 4, 3) := by decide +kernel
theorem dX9_kinds_43 : decode cX9_kinds 43 = .ok (.iconst 0, 1) := by decide +kernel
theorem dX9_kinds_44 : decode cX9_kinds 44 = .ok (.invokestatic 207, 3) := by decide +kernel
theorem dX9_kinds_47 : decode cX9_kinds 47 = .ok (.iadd, 1) := by decide +kernel
theorem dX9_kinds_48 : decode cX9_kinds 48 = .ok (.istore_n 1, 1) := by decide +kernel
theorem dX9_kinds_49 : decode cX9_kinds 49 = .ok (.iinc 2 1, 3) := by decide +kernel
theorem dX9_kinds_52 : decode cX9_kinds 52 = .ok (.goto (-39), 3) := by decide +kernel
theorem dX9_kinds_55 : decode cX9_kinds 55 = .ok (.iload_n 1, 1) := by decide +kernel
theorem dX9_kinds_56 : decode cX9_kinds 56 = .ok (.ireturn, 1) := by decide +kernel
theorem dX9_firstAlike_0 : decode cX9_firstAlike 0 = .ok (.aload_n 0, 1) := by decide +kernel
theorem dX9_firstAlike_1 : decode cX9_firstAlike 1 = .ok (.iload_n 1, 1) := by decide +kernel
theorem dX9_firstAlike_2 : decode cX9_firstAlike 2 = .ok (.invokevirtual 362, 3) := by decide +kernel
theorem dX9_firstAlike_5 : decode cX9_firstAlike 5 = .ok (.ifCond .eq 7, 3) := by decide +kernel
theorem dX9_firstAlike_8 : decode cX9_firstAlike 8 = .ok (.iconst 0, 1) := by decide +kernel
theorem dX9_firstAlike_9 : decode cX9_firstAlike 9 = .ok (.goto 8, 3) := by decide +kernel
theorem dX9_firstAlike_12 : decode cX9_firstAlike 12 = .ok (.aload_n 0, 1) := by decide +kernel
theorem dX9_firstAlike_13 : decode cX9_firstAlike 13 = .ok (.iload_n 1, 1) := by decide +kernel
theorem dX9_firstAlike_14 : decode cX9_firstAlike 14 = .ok (.invokevirtual 378, 3) := by decide +kernel
theorem dX9_firstAlike_17 : decode cX9_firstAlike 17 = .ok (.ireturn, 1) := by decide +kernel
theorem dX9_noLarge_0 : decode cX9_noLarge 0 = .ok (.aload_n 0, 1) := by decide +kernel
theorem dX9_noLarge_1 : decode cX9_noLarge 1 = .ok (.iload_n 1, 1) := by decide +kernel
theorem dX9_noLarge_2 : decode cX9_noLarge 2 = .ok (.invokevirtual 362, 3) := by decide +kernel
theorem dX9_noLarge_5 : decode cX9_noLarge 5 = .ok (.ifCond .ne 37, 3) := by decide +kernel
theorem dX9_noLarge_8 : decode cX9_noLarge 8 = .ok (.aload_n 0, 1) := by decide +kernel
theorem dX9_noLarge_9 : decode cX9_noLarge 9 = .ok (.iload_n 2, 1) := by decide +kernel
theorem dX9_noLarge_10 : decode cX9_noLarge 10 = .ok (.iconst 0, 1) := by decide +kernel
theorem dX9_noLarge_11 : decode cX9_noLarge 11 = .ok (.aload_n 0, 1) := by decide +kernel
theorem dX9_noLarge_12 : decode cX9_noLarge 12 = .ok (.iload_n 1, 1) := by decide +kernel
theorem dX9_noLarge_13 : decode cX9_noLarge 13 = .ok (.invokevirtual 323, 3) := by decide +kernel
theorem dX9_noLarge_16 : decode cX9_noLarge 16 = .ok (.aload_n 0, 1) := by decide +kernel
theorem dX9_noLarge_17 : decode cX9_noLarge 17 = .ok (.iload_n 1, 1) := by decide +kernel
theorem dX9_noLarge_18 : decode cX9_noLarge 18 = .ok (.invokevirtual 332, 3) := by decide +kernel
theorem dX9_noLarge_21 : decode cX9_noLarge 21 = .ok (.imul, 1) := by decide +kernel
theorem dX9_noLarge_22 : decode cX9_noLarge 22 = .ok (.iconst 1, 1) := by decide +kernel
theorem dX9_noLarge_23 : decode cX9_noLarge 23 = .ok (.isub, 1) := by decide +kernel
theorem dX9_noLarge_24 : decode cX9_noLarge 24 = .ok (.invokestatic 152, 3) := by decide +kernel
theorem dX9_noLarge_27 : decode cX9_noLarge 27 = .ok (.ifCond .ne 7, 3) := by decide +kernel
theorem dX9_noLarge_30 : decode cX9_noLarge 30 = .ok (.iconst 1, 1) := by decide +kernel
theorem dX9_noLarge_31 : decode cX9_noLarge 31 = .ok (.goto 4, 3) := by decide +kernel
theorem dX9_noLarge_34 : decode cX9_noLarge 34 = .ok (.iconst 0, 1) := by decide +kernel
theorem dX9_noLarge_35 : decode cX9_noLarge 35 = .ok (.iconst 3, 1) := by decide +kernel
theorem dX9_noLarge_36 : decode cX9_noLarge 36 = .ok (.invokevirtual 94, 3) := by decide +kernel
theorem dX9_noLarge_39 : decode cX9_noLarge 39 = .ok (.ifCond .eq 7, 3) := by decide +kernel
theorem dX9_noLarge_42 : decode cX9_noLarge 42 = .ok (.iconst 1, 1) := by decide +kernel
theorem dX9_noLarge_43 : decode cX9_noLarge 43 = .ok (.goto 4, 3) := by decide +kernel
theorem dX9_noLarge_46 : decode cX9_noLarge 46 = .ok (.iconst 0, 1) := by decide +kernel
theorem dX9_noLarge_47 : decode cX9_noLarge 47 = .ok (.ireturn, 1) := by decide +kernel
theorem dX9_large_0 : decode cX9_large 0 = .ok (.aload_n 0, 1) := by decide +kernel
theorem dX9_large_1 : decode cX9_large 1 = .ok (.iload_n 1, 1) := by decide +kernel
theorem dX9_large_2 : decode cX9_large 2 = .ok (.invokevirtual 332, 3) := by decide +kernel
theorem dX9_large_5 : decode cX9_large 5 = .ok (.istore 4, 2) := by decide +kernel
theorem dX9_large_7 : decode cX9_large 7 = .ok (.aload_n 0, 1) := by decide +kernel
theorem dX9_large_8 : decode cX9_large 8 = .ok (.iload_n 1, 1) := by decide +kernel
theorem dX9_large_9 : decode cX9_large 9 = .ok (.iload_n 2, 1) := by decide +kernel
theorem dX9_large_10 : decode cX9_large 10 = .ok (.iload 4, 2) := by decide +kernel
theorem dX9_large_12 : decode cX9_large 12 = .ok (.idiv, 1) := by decide +kernel
theorem dX9_large_13 : decode cX9_large 13 = .ok (.aload_n 0, 1) := by decide +kernel
theorem dX9_large_14 : decode cX9_large 14 = .ok (.iload_n 1, 1) := by decide +kernel
theorem dX9_large_15 : decode cX9_large 15 = .ok (.iload_n 2, 1) := by decide +kernel
theorem dX9_large_16 : decode cX9_large 16 = .ok (.iload 4, 2) := by decide +kernel
theorem dX9_large_18 : decode cX9_large 18 = .ok (.irem, 1) := by decide +kernel
theorem dX9_large_19 : decode cX9_large 19 = .ok (.iload_n 3, 1) := by decide +kernel
theorem dX9_large_20 : decode cX9_large 20 = .ok (.iload 4, 2) := by decide +kernel
theorem dX9_large_22 : decode cX9_large 22 = .ok (.idiv, 1) := by decide +kernel
theorem dX9_large_23 : decode cX9_large 23 = .ok (.invokevirtual 320, 3) := by decide +kernel
theorem dX9_large_26 : decode cX9_large 26 = .ok (.invokevirtual 326, 3) := by decide +kernel
theorem dX9_large_29 : decode cX9_large 29 = .ok (.iload 4, 2) := by decide +kernel
theorem dX9_large_31 : decode cX9_large 31 = .ok (.imul, 1) := by decide +kernel
theorem dX9_large_32 : decode cX9_large 32 = .ok (.aload_n 0, 1) := by decide +kernel
theorem dX9_large_33 : decode cX9_large 33 = .ok (.iload_n 1, 1) := by decide +kernel
theorem dX9_large_34 : decode cX9_large 34 = .ok (.iload_n 2, 1) := by decide +kernel
theorem dX9_large_35 : decode cX9_large 35 = .ok (.iload 4, 2) := by decide +kernel
theorem dX9_large_37 : decode cX9_large 37 = .ok (.irem, 1) := by decide +kernel
theorem dX9_large_38 : decode cX9_large 38 = .ok (.iload_n 3, 1) := by decide +kernel
theorem dX9_large_39 : decode cX9_large 39 = .ok (.iload 4, 2) := by decide +kernel
theorem dX9_large_41 : decode cX9_large 41 = .ok (.irem, 1) := by decide +kernel
theorem dX9_large_42 : decode cX9_large 42 = .ok (.invokevirtual 329, 3) := by decide +kernel
theorem dX9_large_45 : decode cX9_large 45 = .ok (.iadd, 1) := by decide +kernel
theorem dX9_large_46 : decode cX9_large 46 = .ok (.ireturn, 1) := by decide +kernel
theorem dX9_largeTimes_0 : decode cX9_largeTimes 0 = .ok (.aload_n 0, 1) := by decide +kernel
theorem dX9_largeTimes_1 : decode cX9_largeTimes 1 = .ok (.iload_n 1, 1) := by decide +kernel
theorem dX9_largeTimes_2 : decode cX9_largeTimes 2 = .ok (.iload_n 2, 1) := by decide +kernel
theorem dX9_largeTimes_3 : decode cX9_largeTimes 3 = .ok (.invokevirtual 381, 3) := by decide +kernel
theorem dX9_largeTimes_6 : decode cX9_largeTimes 6 = .ok (.ifCond .ne 12, 3) := by decide +kernel
theorem dX9_largeTimes_9 : decode cX9_largeTimes 9 = .ok (.aload_n 0, 1) := by decide +kernel
theorem dX9_largeTimes_10 : decode cX9_largeTimes 10 = .ok (.iload_n 1, 1) := by decide +kernel
theorem dX9_largeTimes_11 : decode cX9_largeTimes 11 = .ok (.iload_n 3, 1) := by decide +kernel
theorem dX9_largeTimes_12 : decode cX9_largeTimes 12 = .ok (.invokevirtual 381, 3) := by decide +kernel
theorem dX9_largeTimes_15 : decode cX9_largeTimes 15 = .ok (.ifCond .eq 7, 3) := by decide +kernel
theorem dX9_largeTimes_18 : decode cX9_largeTimes 18 = .ok (.iconst 0, 1) := by decide +kernel
theorem dX9_largeTimes_19 : decode cX9_largeTimes 19 = .ok (.goto 10, 3) := by decide +kernel
theorem dX9_largeTimes_22 : decode cX9_largeTimes 22 = .ok (.aload_n 0, 1) := by decide +kernel
theorem dX9_largeTimes_23 : decode cX9_largeTimes 23 = .ok (.iload_n 1, 1) := by decide +kernel
theorem dX9_largeTimes_24 : decode cX9_largeTimes 24 = .ok (.iload_n 2, 1) := by decide +kernel
theorem dX9_largeTimes_25 : decode cX9_largeTimes 25 = .ok (.iload_n 3, 1) := by decide +kernel
theorem dX9_largeTimes_26 : decode cX9_largeTimes 26 = .ok (.invokevirtual 384, 3) := by decide +kernel
theorem dX9_largeTimes_29 : decode cX9_largeTimes 29 = .ok (.ireturn, 1) := by decide +kernel
theorem dX9_targetOf_0 : decode cX9_targetOf 0 = .ok (.aload_n 0, 1) := by decide +kernel
theorem dX9_targetOf_1 : decode cX9_targetOf 1 = .ok (.iload_n 1, 1) := by decide +kernel
theorem dX9_targetOf_2 : decode cX9_targetOf 2 = .ok (.aload_n 0, 1) := by decide +kernel
theorem dX9_targetOf_3 : decode cX9_targetOf 3 = .ok (.iload_n 1, 1) := by decide +kernel
theorem dX9_targetOf_4 : decode cX9_targetOf 4 = .ok (.iload_n 2, 1) := by decide +kernel
theorem dX9_targetOf_5 : decode cX9_targetOf 5 = .ok (.aload_n 0, 1) := by decide +kernel
theorem dX9_targetOf_6 : decode cX9_targetOf 6 = .ok (.iload_n 1, 1) := by decide +kernel
theorem dX9_targetOf_7 : decode cX9_targetOf 7 = .ok (.invokevirtual 332, 3) := by decide +kernel
theorem dX9_targetOf_10 : decode cX9_targetOf 10 = .ok (.idiv, 1) := by decide +kernel
theorem dX9_targetOf_11 : decode cX9_targetOf 11 = .ok (.invokevirtual 314, 3) := by decide +kernel
theorem dX9_targetOf_14 : decode cX9_targetOf 14 = .ok (.iload_n 2, 1) := by decide +kernel
theorem dX9_targetOf_15 : decode cX9_targetOf 15 = .ok (.aload_n 0, 1) := by decide +kernel
theorem dX9_targetOf_16 : decode cX9_targetOf 16 = .ok (.iload_n 1, 1) := by decide +kernel
theorem dX9_targetOf_17 : decode cX9_targetOf 17 = .ok (.invokevirtual 332, 3) := by decide +kernel
theorem dX9_targetOf_20 : decode cX9_targetOf 20 = .ok (.irem, 1) := by decide +kernel
theorem dX9_targetOf_21 : decode cX9_targetOf 21 = .ok (.invokevirtual 329, 3) := by decide +kernel
theorem dX9_targetOf_24 : decode cX9_targetOf 24 = .ok (.ireturn, 1) := by decide +kernel
theorem dX9_target_0 : decode cX9_target 0 = .ok (.aload_n 0, 1) := by decide +kernel
theorem dX9_target_1 : decode cX9_target 1 = .ok (.iload_n 1, 1) := by decide +kernel
theorem dX9_target_2 : decode cX9_target 2 = .ok (.iload_n 2, 1) := by decide +kernel
theorem dX9_target_3 : decode cX9_target 3 = .ok (.invokevirtual 381, 3) := by decide +kernel
theorem dX9_target_6 : decode cX9_target 6 = .ok (.ifCond .eq 7, 3) := by decide +kernel
theorem dX9_target_9 : decode cX9_target 9 = .ok (.iconst 0, 1) := by decide +kernel
theorem dX9_target_10 : decode cX9_target 10 = .ok (.goto 9, 3) := by decide +kernel
theorem dX9_target_13 : decode cX9_target 13 = .ok (.aload_n 0, 1) := by decide +kernel
theorem dX9_target_14 : decode cX9_target 14 = .ok (.iload_n 1, 1) := by decide +kernel
theorem dX9_target_15 : decode cX9_target 15 = .ok (.iload_n 2, 1) := by decide +kernel
theorem dX9_target_16 : decode cX9_target 16 = .ok (.invokevirtual 387, 3) := by decide +kernel
theorem dX9_target_19 : decode cX9_target 19 = .ok (.ireturn, 1) := by decide +kernel
theorem dX9_largeOrder_0 : decode cX9_largeOrder 0 = .ok (.aload_n 0, 1) := by decide +kernel
theorem dX9_largeOrder_1 : decode cX9_largeOrder 1 = .ok (.iload_n 1, 1) := by decide +kernel
theorem dX9_largeOrder_2 : decode cX9_largeOrder 2 = .ok (.iload_n 2, 1) := by decide +kernel
theorem dX9_largeOrder_3 : decode cX9_largeOrder 3 = .ok (.invokevirtual 381, 3) := by decide +kernel
theorem dX9_largeOrder_6 : decode cX9_largeOrder 6 = .ok (.ifCond .eq 5, 3) := by decide +kernel
theorem dX9_largeOrder_9 : decode cX9_largeOrder 9 = .ok (.iconst 0, 1) := by decide +kernel
theorem dX9_largeOrder_10 : decode cX9_largeOrder 10 = .ok (.ireturn, 1) := by decide +kernel
theorem dX9_largeOrder_11 : decode cX9_largeOrder 11 = .ok (.iconst 1, 1) := by decide +kernel
theorem dX9_largeOrder_12 : decode cX9_largeOrder 12 = .ok (.istore_n 3, 1) := by decide +kernel
theorem dX9_largeOrder_13 : decode cX9_largeOrder 13 = .ok (.iload_n 2, 1) := by decide +kernel
theorem dX9_largeOrder_14 : decode cX9_largeOrder 14 = .ok (.istore 4, 2) := by decide +kernel
theorem dX9_largeOrder_16 : decode cX9_largeOrder 16 = .ok (.iload 4, 2) := by decide +kernel
theorem dX9_largeOrder_18 : decode cX9_largeOrder 18 = .ok (.ifCond .eq 19, 3) := by decide +kernel
theorem dX9_largeOrder_21 : decode cX9_largeOrder 21 = .ok (.iinc 3 1, 3) := by decide +kernel
theorem dX9_largeOrder_24 : decode cX9_largeOrder 24 = .ok (.aload_n 0, 1) := by decide +kernel
theorem dX9_largeOrder_25 : decode cX9_largeOrder 25 = .ok (.iload_n 1, 1) := by decide +kernel
theorem dX9_largeOrder_26 : decode cX9_largeOrder 26 = .ok (.iload 4, 2) := by decide +kernel
theorem dX9_largeOrder_28 : decode cX9_largeOrder 28 = .ok (.iload_n 2, 1) := by decide +kernel
theorem dX9_largeOrder_29 : decode cX9_largeOrder 29 = .ok (.invokevirtual 384, 3) := by decide +kernel
theorem dX9_largeOrder_32 : decode cX9_largeOrder 32 = .ok (.istore 4, 2) := by decide +kernel
theorem dX9_largeOrder_34 : decode cX9_largeOrder 34 = .ok (.goto (-18), 3) := by decide +kernel
theorem dX9_largeOrder_37 : decode cX9_largeOrder 37 = .ok (.iload_n 3, 1) := by decide +kernel
theorem dX9_largeOrder_38 : decode cX9_largeOrder 38 = .ok (.ireturn, 1) := by decide +kernel
theorem dX9_between_0 : decode cX9_between 0 = .ok (.aload_n 0, 1) := by decide +kernel
theorem dX9_between_1 : decode cX9_between 1 = .ok (.iload_n 1, 1) := by decide +kernel
theorem dX9_between_2 : decode cX9_between 2 = .ok (.iload_n 2, 1) := by decide +kernel
theorem dX9_between_3 : decode cX9_between 3 = .ok (.invokevirtual 317, 3) := by decide +kernel
theorem dX9_between_6 : decode cX9_between 6 = .ok (.ifCond .ne 33, 3) := by decide +kernel
theorem dX9_between_9 : decode cX9_between 9 = .ok (.aload_n 0, 1) := by decide +kernel
theorem dX9_between_10 : decode cX9_between 10 = .ok (.iload_n 1, 1) := by decide +kernel
theorem dX9_between_11 : decode cX9_between 11 = .ok (.iload_n 3, 1) := by decide +kernel
theorem dX9_between_12 : decode cX9_between 12 = .ok (.invokevirtual 317, 3) := by decide +kernel
theorem dX9_between_15 : decode cX9_between 15 = .ok (.ifCond .ne 24, 3) := by decide +kernel
theorem dX9_between_18 : decode cX9_between 18 = .ok (.aload_n 0, 1) := by decide +kernel
theorem dX9_between_19 : decode cX9_between 19 = .ok (.aload_n 0, 1) := by decide +kernel
theorem dX9_between_20 : decode cX9_between 20 = .ok (.iload_n 1, 1) := by decide +kernel
theorem dX9_between_21 : decode cX9_between 21 = .ok (.invokevirtual 350, 3) := by decide +kernel
theorem dX9_between_24 : decode cX9_between 24 = .ok (.ifCond .eq 7, 3) := by decide +kernel
theorem dX9_between_27 : decode cX9_between 27 = .ok (.iconst 1, 1) := by decide +kernel
theorem dX9_between_28 : decode cX9_between 28 = .ok (.goto 4, 3) := by decide +kernel
theorem dX9_between_31 : decode cX9_between 31 = .ok (.iconst 0, 1) := by decide +kernel
theorem dX9_between_32 : decode cX9_between 32 = .ok (.iconst 3, 1) := by decide +kernel
theorem dX9_between_33 : decode cX9_between 33 = .ok (.invokevirtual 94, 3) := by decide +kernel
theorem dX9_between_36 : decode cX9_between 36 = .ok (.ifCond .eq 5, 3) := by decide +kernel
theorem dX9_between_39 : decode cX9_between 39 = .ok (.iconst 0, 1) := by decide +kernel
theorem dX9_between_40 : decode cX9_between 40 = .ok (.ireturn, 1) := by decide +kernel
theorem dX9_between_41 : decode cX9_between 41 = .ok (.iconst 0, 1) := by decide +kernel
theorem dX9_between_42 : decode cX9_between 42 = .ok (.istore 4, 2) := by decide +kernel
theorem dX9_between_44 : decode cX9_between 44 = .ok (.iconst 0, 1) := by decide +kernel
theorem dX9_between_45 : decode cX9_between 45 = .ok (.istore 5, 2) := by decide +kernel
theorem dX9_between_47 : decode cX9_between 47 = .ok (.iload 5, 2) := by decide +kernel
theorem dX9_between_49 : decode cX9_between 49 = .ok (.aload_n 0, 1) := by decide +kernel
theorem dX9_between_50 : decode cX9_between 50 = .ok (.iload_n 1, 1) := by decide +kernel
theorem dX9_between_51 : decode cX9_between 51 = .ok (.invokevirtual 323, 3) := by decide +kernel
theorem dX9_between_54 : decode cX9_between 54 = .ok (.if_icmp .ge 41, 3) := by decide +kernel
theorem dX9_between_57 : decode cX9_between 57 = .ok (.iload 4, 2) := by decide +kernel
theorem dX9_between_59 : decode cX9_between 59 = .ok (.aload_n 0, 1) := by decide +kernel
theorem dX9_between_60 : decode cX9_between 60 = .ok (.iload_n 1, 1) := by decide +kernel
theorem dX9_between_61 : decode cX9_between 61 = .ok (.iload 5, 2) := by decide +kernel
theorem dX9_between_63 : decode cX9_between 63 = .ok (.aload_n 0, 1) := by decide +kernel
theorem dX9_between_64 : decode cX9_between 64 = .ok (.iload_n 1, 1) := by decide +kernel
theorem dX9_between_65 : decode cX9_between 65 = .ok (.invokevirtual 332, 3) := by decide +kernel
theorem dX9_between_68 : decode cX9_between 68 = .ok (.imul, 1) := by decide +kernel
theorem dX9_between_69 : decode cX9_between 69 = .ok (.iload_n 2, 1) := by decide +kernel
theorem dX9_between_70 : decode cX9_between 70 = .ok (.iadd, 1) := by decide +kernel
theorem dX9_between_71 : decode cX9_between 71 = .ok (.invokevirtual 387, 3) := by decide +kernel
theorem dX9_between_74 : decode cX9_between 74 = .ok (.iload_n 3, 1) := by decide +kernel
theorem dX9_between_75 : decode cX9_between 75 = .ok (.if_icmp .ne 7, 3) := by decide +kernel
theorem dX9_between_78 : decode cX9_between 78 = .ok (.iconst 1, 1) := by decide +kernel
theorem dX9_between_79 : decode cX9_between 79 = .ok (.goto 4, 3) := by decide +kernel
theorem dX9_between_82 : decode cX9_between 82 = .ok (.iconst 0, 1) := by decide +kernel
theorem dX9_between_83 : decode cX9_between 83 = .ok (.invokestatic 207, 3) := by decide +kernel
theorem dX9_between_86 : decode cX9_between 86 = .ok (.iadd, 1) := by decide +kernel
theorem dX9_between_87 : decode cX9_between 87 = .ok (.istore 4, 2) := by decide +kernel
theorem dX9_between_89 : decode cX9_between 89 = .ok (.iinc 5 1, 3) := by decide +kernel
theorem dX9_between_92 : decode cX9_between 92 = .ok (.goto (-45), 3) := by decide +kernel
theorem dX9_between_95 : decode cX9_between 95 = .ok (.iload 4, 2) := by decide +kernel
theorem dX9_between_97 : decode cX9_between 97 = .ok (.ireturn, 1) := by decide +kernel
theorem dX9_noArrow_0 : decode cX9_noArrow 0 = .ok (.aload_n 0, 1) := by decide +kernel
theorem dX9_noArrow_1 : decode cX9_noArrow 1 = .ok (.invokevirtual 272, 3) := by decide +kernel
theorem dX9_noArrow_4 : decode cX9_noArrow 4 = .ok (.ifCond .ne 30, 3) := by decide +kernel
theorem dX9_noArrow_7 : decode cX9_noArrow 7 = .ok (.aload_n 0, 1) := by decide +kernel
theorem dX9_noArrow_8 : decode cX9_noArrow 8 = .ok (.iload_n 1, 1) := by decide +kernel
theorem dX9_noArrow_9 : decode cX9_noArrow 9 = .ok (.iconst 0, 1) := by decide +kernel
theorem dX9_noArrow_10 : decode cX9_noArrow 10 = .ok (.aload_n 0, 1) := by decide +kernel
theorem dX9_noArrow_11 : decode cX9_noArrow 11 = .ok (.getfield 262, 3) := by decide +kernel
theorem dX9_noArrow_14 : decode cX9_noArrow 14 = .ok (.iconst 1, 1) := by decide +kernel
theorem dX9_noArrow_15 : decode cX9_noArrow 15 = .ok (.isub, 1) := by decide +kernel
theorem dX9_noArrow_16 : decode cX9_noArrow 16 = .ok (.invokestatic 152, 3) := by decide +kernel
theorem dX9_noArrow_19 : decode cX9_noArrow 19 = .ok (.ifCond .ne 7, 3) := by decide +kernel
theorem dX9_noArrow_22 : decode cX9_noArrow 22 = .ok (.iconst 1, 1) := by decide +kernel
theorem dX9_noArrow_23 : decode cX9_noArrow 23 = .ok (.goto 4, 3) := by decide +kernel
theorem dX9_noArrow_26 : decode cX9_noArrow 26 = .ok (.iconst 0, 1) := by decide +kernel
theorem dX9_noArrow_27 : decode cX9_noArrow 27 = .ok (.iconst 2, 1) := by decide +kernel
theorem dX9_noArrow_28 : decode cX9_noArrow 28 = .ok (.invokevirtual 94, 3) := by decide +kernel
theorem dX9_noArrow_31 : decode cX9_noArrow 31 = .ok (.ifCond .eq 7, 3) := by decide +kernel
theorem dX9_noArrow_34 : decode cX9_noArrow 34 = .ok (.iconst 1, 1) := by decide +kernel
theorem dX9_noArrow_35 : decode cX9_noArrow 35 = .ok (.goto 4, 3) := by decide +kernel
theorem dX9_noArrow_38 : decode cX9_noArrow 38 = .ok (.iconst 0, 1) := by decide +kernel
theorem dX9_noArrow_39 : decode cX9_noArrow 39 = .ok (.ireturn, 1) := by decide +kernel
theorem dX9_topOf_0 : decode cX9_topOf 0 = .ok (.aload_n 0, 1) := by decide +kernel
theorem dX9_topOf_1 : decode cX9_topOf 1 = .ok (.getfield 31, 3) := by decide +kernel
theorem dX9_topOf_4 : decode cX9_topOf 4 = .ok (.sipush 432, 3) := by decide +kernel
theorem dX9_topOf_7 : decode cX9_topOf 7 = .ok (.bipush 8, 2) := by decide +kernel
theorem dX9_topOf_9 : decode cX9_topOf 9 = .ok (.iload_n 1, 1) := by decide +kernel
theorem dX9_topOf_10 : decode cX9_topOf 10 = .ok (.imul, 1) := by decide +kernel
theorem dX9_topOf_11 : decode cX9_topOf 11 = .ok (.iadd, 1) := by decide +kernel
theorem dX9_topOf_12 : decode cX9_topOf 12 = .ok (.iload_n 2, 1) := by decide +kernel
theorem dX9_topOf_13 : decode cX9_topOf 13 = .ok (.iadd, 1) := by decide +kernel
theorem dX9_topOf_14 : decode cX9_topOf 14 = .ok (.iaload, 1) := by decide +kernel
theorem dX9_topOf_15 : decode cX9_topOf 15 = .ok (.ireturn, 1) := by decide +kernel
theorem dX9_bottomOf_0 : decode cX9_bottomOf 0 = .ok (.aload_n 0, 1) := by decide +kernel
theorem dX9_bottomOf_1 : decode cX9_bottomOf 1 = .ok (.getfield 31, 3) := by decide +kernel
theorem dX9_bottomOf_4 : decode cX9_bottomOf 4 = .ok (.sipush 496, 3) := by decide +kernel
theorem dX9_bottomOf_7 : decode cX9_bottomOf 7 = .ok (.bipush 8, 2) := by decide +kernel
theorem dX9_bottomOf_9 : decode cX9_bottomOf 9 = .ok (.iload_n 1, 1) := by decide +kernel
theorem dX9_bottomOf_10 : decode cX9_bottomOf 10 = .ok (.imul, 1) := by decide +kernel
theorem dX9_bottomOf_11 : decode cX9_bottomOf 11 = .ok (.iadd, 1) := by decide +kernel
theorem dX9_bottomOf_12 : decode cX9_bottomOf 12 = .ok (.iload_n 2, 1) := by decide +kernel
theorem dX9_bottomOf_13 : decode cX9_bottomOf 13 = .ok (.iadd, 1) := by decide +kernel
theorem dX9_bottomOf_14 : decode cX9_bottomOf 14 = .ok (.iaload, 1) := by decide +kernel
theorem dX9_bottomOf_15 : decode cX9_bottomOf 15 = .ok (.ireturn, 1) := by decide +kernel
theorem dX9_end_0 : decode cX9_end 0 = .ok (.aload_n 0, 1) := by decide +kernel
theorem dX9_end_1 : decode cX9_end 1 = .ok (.iload_n 1, 1) := by decide +kernel
theorem dX9_end_2 : decode cX9_end 2 = .ok (.invokevirtual 390, 3) := by decide +kernel
theorem dX9_end_5 : decode cX9_end 5 = .ok (.ifCond .eq 7, 3) := by decide +kernel
theorem dX9_end_8 : decode cX9_end 8 = .ok (.iconst 0, 1) := by decide +kernel
theorem dX9_end_9 : decode cX9_end 9 = .ok (.goto 22, 3) := by decide +kernel
theorem dX9_end_12 : decode cX9_end 12 = .ok (.iload_n 2, 1) := by decide +kernel
theorem dX9_end_13 : decode cX9_end 13 = .ok (.ifCond .eq 12, 3) := by decide +kernel
theorem dX9_end_16 : decode cX9_end 16 = .ok (.aload_n 0, 1) := by decide +kernel
theorem dX9_end_17 : decode cX9_end 17 = .ok (.getfield 25, 3) := by decide +kernel
theorem dX9_end_20 : decode cX9_end 20 = .ok (.iload_n 1, 1) := by decide +kernel
theorem dX9_end_21 : decode cX9_end 21 = .ok (.iaload, 1) := by decide +kernel
theorem dX9_end_22 : decode cX9_end 22 = .ok (.goto 9, 3) := by decide +kernel
theorem dX9_end_25 : decode cX9_end 25 = .ok (.aload_n 0, 1) := by decide +kernel
theorem dX9_end_26 : decode cX9_end 26 = .ok (.getfield 22, 3) := by decide +kernel
theorem dX9_end_29 : decode cX9_end 29 = .ok (.iload_n 1, 1) := by decide +kernel
theorem dX9_end_30 : decode cX9_end 30 = .ok (.iaload, 1) := by decide +kernel
theorem dX9_end_31 : decode cX9_end 31 = .ok (.ireturn, 1) := by decide +kernel
theorem dX9_noTop_0 : decode cX9_noTop 0 = .ok (.aload_n 0, 1) := by decide +kernel
theorem dX9_noTop_1 : decode cX9_noTop 1 = .ok (.iload_n 1, 1) := by decide +kernel
theorem dX9_noTop_2 : decode cX9_noTop 2 = .ok (.invokevirtual 390, 3) := by decide +kernel
theorem dX9_noTop_5 : decode cX9_noTop 5 = .ok (.ifCond .ne 36, 3) := by decide +kernel
theorem dX9_noTop_8 : decode cX9_noTop 8 = .ok (.aload_n 0, 1) := by decide +kernel
theorem dX9_noTop_9 : decode cX9_noTop 9 = .ok (.iload_n 2, 1) := by decide +kernel
theorem dX9_noTop_10 : decode cX9_noTop 10 = .ok (.iconst 0, 1) := by decide +kernel
theorem dX9_noTop_11 : decode cX9_noTop 11 = .ok (.aload_n 0, 1) := by decide +kernel
theorem dX9_noTop_12 : decode cX9_noTop 12 = .ok (.aload_n 0, 1) := by decide +kernel
theorem dX9_noTop_13 : decode cX9_noTop 13 = .ok (.getfield 22, 3) := by decide +kernel
theorem dX9_noTop_16 : decode cX9_noTop 16 = .ok (.iload_n 1, 1) := by decide +kernel
theorem dX9_noTop_17 : decode cX9_noTop 17 = .ok (.iaload, 1) := by decide +kernel
theorem dX9_noTop_18 : decode cX9_noTop 18 = .ok (.invokevirtual 323, 3) := by decide +kernel
theorem dX9_noTop_21 : decode cX9_noTop 21 = .ok (.iconst 1, 1) := by decide +kernel
theorem dX9_noTop_22 : decode cX9_noTop 22 = .ok (.isub, 1) := by decide +kernel
theorem dX9_noTop_23 : decode cX9_noTop 23 = .ok (.invokestatic 152, 3) := by decide +kernel
theorem dX9_noTop_26 : decode cX9_noTop 26 = .ok (.ifCond .ne 7, 3) := by decide +kernel
theorem dX9_noTop_29 : decode cX9_noTop 29 = .ok (.iconst 1, 1) := by decide +kernel
theorem dX9_noTop_30 : decode cX9_noTop 30 = .ok (.goto 4, 3) := by decide +kernel
theorem dX9_noTop_33 : decode cX9_noTop 33 = .ok (.iconst 0, 1) := by decide +kernel
theorem dX9_noTop_34 : decode cX9_noTop 34 = .ok (.iconst 2, 1) := by decide +kernel
theorem dX9_noTop_35 : decode cX9_noTop 35 = .ok (.invokevirtual 94, 3) := by decide +kernel
theorem dX9_noTop_38 : decode cX9_noTop 38 = .ok (.ifCond .eq 7, 3) := by decide +kernel
theorem dX9_noTop_41 : decode cX9_noTop 41 = .ok (.iconst 1, 1) := by decide +kernel
theorem dX9_noTop_42 : decode cX9_noTop 42 = .ok (.goto 4, 3) := by decide +kernel
theorem dX9_noTop_45 : decode cX9_noTop 45 = .ok (.iconst 0, 1) := by decide +kernel
theorem dX9_noTop_46 : decode cX9_noTop 46 = .ok (.ireturn, 1) := by decide +kernel
theorem dX9_noBottom_0 : decode cX9_noBottom 0 = .ok (.aload_n 0, 1) := by decide +kernel
theorem dX9_noBottom_1 : decode cX9_noBottom 1 = .ok (.iload_n 1, 1) := by decide +kernel
theorem dX9_noBottom_2 : decode cX9_noBottom 2 = .ok (.invokevirtual 390, 3) := by decide +kernel
theorem dX9_noBottom_5 : decode cX9_noBottom 5 = .ok (.ifCond .ne 36, 3) := by decide +kernel
theorem dX9_noBottom_8 : decode cX9_noBottom 8 = .ok (.aload_n 0, 1) := by decide +kernel
theorem dX9_noBottom_9 : decode cX9_noBottom 9 = .ok (.iload_n 2, 1) := by decide +kernel
theorem dX9_noBottom_10 : decode cX9_noBottom 10 = .ok (.iconst 0, 1) := by decide +kernel
theorem dX9_noBottom_11 : decode cX9_noBottom 11 = .ok (.aload_n 0, 1) := by decide +kernel
theorem dX9_noBottom_12 : decode cX9_noBottom 12 = .ok (.aload_n 0, 1) := by decide +kernel
theorem dX9_noBottom_13 : decode cX9_noBottom 13 = .ok (.getfield 22, 3) := by decide +kernel
theorem dX9_noBottom_16 : decode cX9_noBottom 16 = .ok (.iload_n 1, 1) := by decide +kernel
theorem dX9_noBottom_17 : decode cX9_noBottom 17 = .ok (.iaload, 1) := by decide +kernel
theorem dX9_noBottom_18 : decode cX9_noBottom 18 = .ok (.invokevirtual 332, 3) := by decide +kernel
theorem dX9_noBottom_21 : decode cX9_noBottom 21 = .ok (.iconst 1, 1) := by decide +kernel
theorem dX9_noBottom_22 : decode cX9_noBottom 22 = .ok (.isub, 1) := by decide +kernel
theorem dX9_noBottom_23 : decode cX9_noBottom 23 = .ok (.invokestatic 152, 3) := by decide +kernel
theorem dX9_noBottom_26 : decode cX9_noBottom 26 = .ok (.ifCond .ne 7, 3) := by decide +kernel
theorem dX9_noBottom_29 : decode cX9_noBottom 29 = .ok (.iconst 1, 1) := by decide +kernel
theorem dX9_noBottom_30 : decode cX9_noBottom 30 = .ok (.goto 4, 3) := by decide +kernel
theorem dX9_noBottom_33 : decode cX9_noBottom 33 = .ok (.iconst 0, 1) := by decide +kernel
theorem dX9_noBottom_34 : decode cX9_noBottom 34 = .ok (.iconst 2, 1) := by decide +kernel
theorem dX9_noBottom_35 : decode cX9_noBottom 35 = .ok (.invokevirtual 94, 3) := by decide +kernel
theorem dX9_noBottom_38 : decode cX9_noBottom 38 = .ok (.ifCond .eq 7, 3) := by decide +kernel
theorem dX9_noBottom_41 : decode cX9_noBottom 41 = .ok (.iconst 1, 1) := by decide +kernel
theorem dX9_noBottom_42 : decode cX9_noBottom 42 = .ok (.goto 4, 3) := by decide +kernel
theorem dX9_noBottom_45 : decode cX9_noBottom 45 = .ok (.iconst 0, 1) := by decide +kernel
theorem dX9_noBottom_46 : decode cX9_noBottom 46 = .ok (.ireturn, 1) := by decide +kernel
theorem dX9_top_0 : decode cX9_top 0 = .ok (.aload_n 0, 1) := by decide +kernel
theorem dX9_top_1 : decode cX9_top 1 = .ok (.iload_n 1, 1) := by decide +kernel
theorem dX9_top_2 : decode cX9_top 2 = .ok (.iload_n 2, 1) := by decide +kernel
theorem dX9_top_3 : decode cX9_top 3 = .ok (.invokevirtual 393, 3) := by decide +kernel
theorem dX9_top_6 : decode cX9_top 6 = .ok (.ifCond .eq 7, 3) := by decide +kernel
theorem dX9_top_9 : decode cX9_top 9 = .ok (.iconst 0, 1) := by decide +kernel
theorem dX9_top_10 : decode cX9_top 10 = .ok (.goto 9, 3) := by decide +kernel
theorem dX9_top_13 : decode cX9_top 13 = .ok (.aload_n 0, 1) := by decide +kernel
theorem dX9_top_14 : decode cX9_top 14 = .ok (.iload_n 1, 1) := by decide +kernel
theorem dX9_top_15 : decode cX9_top 15 = .ok (.iload_n 2, 1) := by decide +kernel
theorem dX9_top_16 : decode cX9_top 16 = .ok (.invokevirtual 396, 3) := by decide +kernel
theorem dX9_top_19 : decode cX9_top 19 = .ok (.ireturn, 1) := by decide +kernel
theorem dX9_bottom_0 : decode cX9_bottom 0 = .ok (.aload_n 0, 1) := by decide +kernel
theorem dX9_bottom_1 : decode cX9_bottom 1 = .ok (.iload_n 1, 1) := by decide +kernel
theorem dX9_bottom_2 : decode cX9_bottom 2 = .ok (.iload_n 2, 1) := by decide +kernel
theorem dX9_bottom_3 : decode cX9_bottom 3 = .ok (.invokevirtual 399, 3) := by decide +kernel
theorem dX9_bottom_6 : decode cX9_bottom 6 = .ok (.ifCond .eq 7, 3) := by decide +kernel
theorem dX9_bottom_9 : decode cX9_bottom 9 = .ok (.iconst 0, 1) := by decide +kernel
theorem dX9_bottom_10 : decode cX9_bottom 10 = .ok (.goto 9, 3) := by decide +kernel
theorem dX9_bottom_13 : decode cX9_bottom 13 = .ok (.aload_n 0, 1) := by decide +kernel
theorem dX9_bottom_14 : decode cX9_bottom 14 = .ok (.iload_n 1, 1) := by decide +kernel
theorem dX9_bottom_15 : decode cX9_bottom 15 = .ok (.iload_n 2, 1) := by decide +kernel
theorem dX9_bottom_16 : decode cX9_bottom 16 = .ok (.invokevirtual 402, 3) := by decide +kernel
theorem dX9_bottom_19 : decode cX9_bottom 19 = .ok (.ireturn, 1) := by decide +kernel
theorem dX9_breaksTops_0 : decode cX9_breaksTops 0 = .ok (.aload_n 0, 1) := by decide +kernel
theorem dX9_breaksTops_1 : decode cX9_breaksTops 1 = .ok (.getfield 22, 3) := by decide +kernel
theorem dX9_breaksTops_4 : decode cX9_breaksTops 4 = .ok (.iload_n 1, 1) := by decide +kernel
theorem dX9_breaksTops_5 : decode cX9_breaksTops 5 = .ok (.iaload, 1) := by decide +kernel
theorem dX9_breaksTops_6 : decode cX9_breaksTops 6 = .ok (.istore_n 2, 1) := by decide +kernel
theorem dX9_breaksTops_7 : decode cX9_breaksTops 7 = .ok (.aload_n 0, 1) := by decide +kernel
theorem dX9_breaksTops_8 : decode cX9_breaksTops 8 = .ok (.getfield 25, 3) := by decide +kernel
theorem dX9_breaksTops_11 : decode cX9_breaksTops 11 = .ok (.iload_n 1, 1) := by decide +kernel
theorem dX9_breaksTops_12 : decode cX9_breaksTops 12 = .ok (.iaload, 1) := by decide +kernel
theorem dX9_breaksTops_13 : decode cX9_breaksTops 13 = .ok (.istore_n 3, 1) := by decide +kernel
theorem dX9_breaksTops_14 : decode cX9_breaksTops 14 = .ok (.iconst 0, 1) := by decide +kernel
theorem dX9_breaksTops_15 : decode cX9_breaksTops 15 = .ok (.istore 4, 2) := by decide +kernel
theorem dX9_breaksTops_17 : decode cX9_breaksTops 17 = .ok (.iload 4, 2) := by decide +kernel
theorem dX9_breaksTops_19 : decode cX9_breaksTops 19 = .ok (.aload_n 0, 1) := by decide +kernel
theorem dX9_breaksTops_20 : decode cX9_breaksTops 20 = .ok (.iload_n 2, 1) := by decide +kernel
theorem dX9_breaksTops_21 : decode cX9_breaksTops 21 = .ok (.invokevirtual 323, 3) := by decide +kernel
theorem dX9_breaksTops_24 : decode cX9_breaksTops 24 = .ok (.if_icmp .ge 66, 3) := by decide +kernel
theorem dX9_breaksTops_27 : decode cX9_breaksTops 27 = .ok (.iconst 0, 1) := by decide +kernel
theorem dX9_breaksTops_28 : decode cX9_breaksTops 28 = .ok (.istore 5, 2) := by decide +kernel
theorem dX9_breaksTops_30 : decode cX9_breaksTops 30 = .ok (.iload 5, 2) := by decide +kernel
theorem dX9_breaksTops_32 : decode cX9_breaksTops 32 = .ok (.aload_n 0, 1) := by decide +kernel
theorem dX9_breaksTops_33 : decode cX9_breaksTops 33 = .ok (.iload_n 2, 1) := by decide +kernel
theorem dX9_breaksTops_34 : decode cX9_breaksTops 34 = .ok (.invokevirtual 323, 3) := by decide +kernel
theorem dX9_breaksTops_37 : decode cX9_breaksTops 37 = .ok (.if_icmp .ge 47, 3) := by decide +kernel
theorem dX9_breaksTops_40 : decode cX9_breaksTops 40 = .ok (.aload_n 0, 1) := by decide +kernel
theorem dX9_breaksTops_41 : decode cX9_breaksTops 41 = .ok (.iload_n 1, 1) := by decide +kernel
theorem dX9_breaksTops_42 : decode cX9_breaksTops 42 = .ok (.aload_n 0, 1) := by decide +kernel
theorem dX9_breaksTops_43 : decode cX9_breaksTops 43 = .ok (.iload_n 2, 1) := by decide +kernel
theorem dX9_breaksTops_44 : decode cX9_breaksTops 44 = .ok (.iload 4, 2) := by decide +kernel
theorem dX9_breaksTops_46 : decode cX9_breaksTops 46 = .ok (.iload 5, 2) := by decide +kernel
theorem dX9_breaksTops_48 : decode cX9_breaksTops 48 = .ok (.invokevirtual 326, 3) := by decide +kernel
theorem dX9_breaksTops_51 : decode cX9_breaksTops 51 = .ok (.invokevirtual 396, 3) := by decide +kernel
theorem dX9_breaksTops_54 : decode cX9_breaksTops 54 = .ok (.aload_n 0, 1) := by decide +kernel
theorem dX9_breaksTops_55 : decode cX9_breaksTops 55 = .ok (.iload_n 3, 1) := by decide +kernel
theorem dX9_breaksTops_56 : decode cX9_breaksTops 56 = .ok (.aload_n 0, 1) := by decide +kernel
theorem dX9_breaksTops_57 : decode cX9_breaksTops 57 = .ok (.iload_n 1, 1) := by decide +kernel
theorem dX9_breaksTops_58 : decode cX9_breaksTops 58 = .ok (.iload 4, 2) := by decide +kernel
theorem dX9_breaksTops_60 : decode cX9_breaksTops 60 = .ok (.invokevirtual 396, 3) := by decide +kernel
theorem dX9_breaksTops_63 : decode cX9_breaksTops 63 = .ok (.aload_n 0, 1) := by decide +kernel
theorem dX9_breaksTops_64 : decode cX9_breaksTops 64 = .ok (.iload_n 1, 1) := by decide +kernel
theorem dX9_breaksTops_65 : decode cX9_breaksTops 65 = .ok (.iload 5, 2) := by decide +kernel
theorem dX9_breaksTops_67 : decode cX9_breaksTops 67 = .ok (.invokevirtual 396, 3) := by decide +kernel
theorem dX9_breaksTops_70 : decode cX9_breaksTops 70 = .ok (.invokevirtual 326, 3) := by decide +kernel
theorem dX9_breaksTops_73 : decode cX9_breaksTops 73 = .ok (.if_icmp .eq 5, 3) := by decide +kernel
theorem dX9_breaksTops_76 : decode cX9_breaksTops 76 = .ok (.iconst 1, 1) := by decide +kernel
theorem dX9_breaksTops_77 : decode cX9_breaksTops 77 = .ok (.ireturn, 1) := by decide +kernel
theorem dX9_breaksTops_78 : decode cX9_breaksTops 78 = .ok (.iinc 5 1, 3) := by decide +kernel
theorem dX9_breaksTops_81 : decode cX9_breaksTops 81 = .ok (.goto (-51), 3) := by decide +kernel
theorem dX9_breaksTops_84 : decode cX9_breaksTops 84 = .ok (.iinc 4 1, 3) := by decide +kernel
theorem dX9_breaksTops_87 : decode cX9_breaksTops 87 = .ok (.goto (-70), 3) := by decide +kernel
theorem dX9_breaksTops_90 : decode cX9_breaksTops 90 = .ok (.iconst 0, 1) := by decide +kernel
theorem dX9_breaksTops_91 : decode cX9_breaksTops 91 = .ok (.ireturn, 1) := by decide +kernel
theorem dX9_breaksBottoms_0 : decode cX9_breaksBottoms 0 = .ok (.aload_n 0, 1) := by decide +kernel
theorem dX9_breaksBottoms_1 : decode cX9_breaksBottoms 1 = .ok (.getfield 22, 3) := by decide +kernel
theorem dX9_breaksBottoms_4 : decode cX9_breaksBottoms 4 = .ok (.iload_n 1, 1) := by decide +kernel
theorem dX9_breaksBottoms_5 : decode cX9_breaksBottoms 5 = .ok (.iaload, 1) := by decide +kernel
theorem dX9_breaksBottoms_6 : decode cX9_breaksBottoms 6 = .ok (.istore_n 2, 1) := by decide +kernel
theorem dX9_breaksBottoms_7 : decode cX9_breaksBottoms 7 = .ok (.aload_n 0, 1) := by decide +kernel
theorem dX9_breaksBottoms_8 : decode cX9_breaksBottoms 8 = .ok (.getfield 25, 3) := by decide +kernel
theorem dX9_breaksBottoms_11 : decode cX9_breaksBottoms 11 = .ok (.iload_n 1, 1) := by decide +kernel
theorem dX9_breaksBottoms_12 : decode cX9_breaksBottoms 12 = .ok (.iaload, 1) := by decide +kernel
theorem dX9_breaksBottoms_13 : decode cX9_breaksBottoms 13 = .ok (.istore_n 3, 1) := by decide +kernel
theorem dX9_breaksBottoms_14 : decode cX9_breaksBottoms 14 = .ok (.iconst 0, 1) := by decide +kernel
theorem dX9_breaksBottoms_15 : decode cX9_breaksBottoms 15 = .ok (.istore 4, 2) := by decide +kernel
theorem dX9_breaksBottoms_17 : decode cX9_breaksBottoms 17 = .ok (.iload 4, 2) := by decide +kernel
theorem dX9_breaksBottoms_19 : decode cX9_breaksBottoms 19 = .ok (.aload_n 0, 1) := by decide +kernel
theorem dX9_breaksBottoms_20 : decode cX9_breaksBottoms 20 = .ok (.iload_n 2, 1) := by decide +kernel
theorem dX9_breaksBottoms_21 : decode cX9_breaksBottoms 21 = .ok (.invokevirtual 332, 3) := by decide +kernel
theorem dX9_breaksBottoms_24 : decode cX9_breaksBottoms 24 = .ok (.if_icmp .ge 66, 3) := by decide +kernel
theorem dX9_breaksBottoms_27 : decode cX9_breaksBottoms 27 = .ok (.iconst 0, 1) := by decide +kernel
theorem dX9_breaksBottoms_28 : decode cX9_breaksBottoms 28 = .ok (.istore 5, 2) := by decide +kernel
theorem dX9_breaksBottoms_30 : decode cX9_breaksBottoms 30 = .ok (.iload 5, 2) := by decide +kernel
theorem dX9_breaksBottoms_32 : decode cX9_breaksBottoms 32 = .ok (.aload_n 0, 1) := by decide +kernel
theorem dX9_breaksBottoms_33 : decode cX9_breaksBottoms 33 = .ok (.iload_n 2, 1) := by decide +kernel
theorem dX9_breaksBottoms_34 : decode cX9_breaksBottoms 34 = .ok (.invokevirtual 332, 3) := by decide +kernel
theorem dX9_breaksBottoms_37 : decode cX9_breaksBottoms 37 = .ok (.if_icmp .ge 47, 3) := by decide +kernel
theorem dX9_breaksBottoms_40 : decode cX9_breaksBottoms 40 = .ok (.aload_n 0, 1) := by decide +kernel
theorem dX9_breaksBottoms_41 : decode cX9_breaksBottoms 41 = .ok (.iload_n 1, 1) := by decide +kernel
theorem dX9_breaksBottoms_42 : decode cX9_breaksBottoms 42 = .ok (.aload_n 0, 1) := by decide +kernel
theorem dX9_breaksBottoms_43 : decode cX9_breaksBottoms 43 = .ok (.iload_n 2, 1) := by decide +kernel
theorem dX9_breaksBottoms_44 : decode cX9_breaksBottoms 44 = .ok (.iload 4, 2) := by decide +kernel
theorem dX9_breaksBottoms_46 : decode cX9_breaksBottoms 46 = .ok (.iload 5, 2) := by decide +kernel
theorem dX9_breaksBottoms_48 : decode cX9_breaksBottoms 48 = .ok (.invokevirtual 329, 3) := by decide +kernel
theorem dX9_breaksBottoms_51 : decode cX9_breaksBottoms 51 = .ok (.invokevirtual 402, 3) := by decide +kernel
theorem dX9_breaksBottoms_54 : decode cX9_breaksBottoms 54 = .ok (.aload_n 0, 1) := by decide +kernel
theorem dX9_breaksBottoms_55 : decode cX9_breaksBottoms 55 = .ok (.iload_n 3, 1) := by decide +kernel
theorem dX9_breaksBottoms_56 : decode cX9_breaksBottoms 56 = .ok (.aload_n 0, 1) := by decide +kernel
theorem dX9_breaksBottoms_57 : decode cX9_breaksBottoms 57 = .ok (.iload_n 1, 1) := by decide +kernel
theorem dX9_breaksBottoms_58 : decode cX9_breaksBottoms 58 = .ok (.iload 4, 2) := by decide +kernel
theorem dX9_breaksBottoms_60 : decode cX9_breaksBottoms 60 = .ok (.invokevirtual 402, 3) := by decide +kernel
theorem dX9_breaksBottoms_63 : decode cX9_breaksBottoms 63 = .ok (.aload_n 0, 1) := by decide +kernel
theorem dX9_breaksBottoms_64 : decode cX9_breaksBottoms 64 = .ok (.iload_n 1, 1) := by decide +kernel
theorem dX9_breaksBottoms_65 : decode cX9_breaksBottoms 65 = .ok (.iload 5, 2) := by decide +kernel
theorem dX9_breaksBottoms_67 : decode cX9_breaksBottoms 67 = .ok (.invokevirtual 402, 3) := by decide +kernel
theorem dX9_breaksBottoms_70 : decode cX9_breaksBottoms 70 = .ok (.invokevirtual 329, 3) := by decide +kernel
theorem dX9_breaksBottoms_73 : decode cX9_breaksBottoms 73 = .ok (.if_icmp .eq 5, 3) := by decide +kernel
theorem dX9_breaksBottoms_76 : decode cX9_breaksBottoms 76 = .ok (.iconst 1, 1) := by decide +kernel
theorem dX9_breaksBottoms_77 : decode cX9_breaksBottoms 77 = .ok (.ireturn, 1) := by decide +kernel
theorem dX9_breaksBottoms_78 : decode cX9_breaksBottoms 78 = .ok (.iinc 5 1, 3) := by decide +kernel
theorem dX9_breaksBottoms_81 : decode cX9_breaksBottoms 81 = .ok (.goto (-51), 3) := by decide +kernel
theorem dX9_breaksBottoms_84 : decode cX9_breaksBottoms 84 = .ok (.iinc 4 1, 3) := by decide +kernel
theorem dX9_breaksBottoms_87 : decode cX9_breaksBottoms 87 = .ok (.goto (-70), 3) := by decide +kernel
theorem dX9_breaksBottoms_90 : decode cX9_breaksBottoms 90 = .ok (.iconst 0, 1) := by decide +kernel
theorem dX9_breaksBottoms_91 : decode cX9_breaksBottoms 91 = .ok (.ireturn, 1) := by decide +kernel
theorem dX9_breaksSquare_0 : decode cX9_breaksSquare 0 = .ok (.iconst 0, 1) := by decide +kernel
theorem dX9_breaksSquare_1 : decode cX9_breaksSquare 1 = .ok (.istore_n 2, 1) := by decide +kernel
theorem dX9_breaksSquare_2 : decode cX9_breaksSquare 2 = .ok (.iload_n 2, 1) := by decide +kernel
theorem dX9_breaksSquare_3 : decode cX9_breaksSquare 3 = .ok (.aload_n 0, 1) := by decide +kernel
theorem dX9_breaksSquare_4 : decode cX9_breaksSquare 4 = .ok (.aload_n 0, 1) := by decide +kernel
theorem dX9_breaksSquare_5 : decode cX9_breaksSquare 5 = .ok (.getfield 22, 3) := by decide +kernel
theorem dX9_breaksSquare_8 : decode cX9_breaksSquare 8 = .ok (.iload_n 1, 1) := by decide +kernel
theorem dX9_breaksSquare_9 : decode cX9_breaksSquare 9 = .ok (.iaload, 1) := by decide +kernel
theorem dX9_breaksSquare_10 : decode cX9_breaksSquare 10 = .ok (.invokevirtual 323, 3) := by decide +kernel
theorem dX9_breaksSquare_13 : decode cX9_breaksSquare 13 = .ok (.if_icmp .ge 46, 3) := by decide +kernel
theorem dX9_breaksSquare_16 : decode cX9_breaksSquare 16 = .ok (.aload_n 0, 1) := by decide +kernel
theorem dX9_breaksSquare_17 : decode cX9_breaksSquare 17 = .ok (.aload_n 0, 1) := by decide +kernel
theorem dX9_breaksSquare_18 : decode cX9_breaksSquare 18 = .ok (.getfield 25, 3) := by decide +kernel
theorem dX9_breaksSquare_21 : decode cX9_breaksSquare 21 = .ok (.iload_n 1, 1) := by decide +kernel
theorem dX9_breaksSquare_22 : decode cX9_breaksSquare 22 = .ok (.iaload, 1) := by decide +kernel
theorem dX9_breaksSquare_23 : decode cX9_breaksSquare 23 = .ok (.aload_n 0, 1) := by decide +kernel
theorem dX9_breaksSquare_24 : decode cX9_breaksSquare 24 = .ok (.iload_n 1, 1) := by decide +kernel
theorem dX9_breaksSquare_25 : decode cX9_breaksSquare 25 = .ok (.iload_n 2, 1) := by decide +kernel
theorem dX9_breaksSquare_26 : decode cX9_breaksSquare 26 = .ok (.invokevirtual 396, 3) := by decide +kernel
theorem dX9_breaksSquare_29 : decode cX9_breaksSquare 29 = .ok (.invokevirtual 314, 3) := by decide +kernel
theorem dX9_breaksSquare_32 : decode cX9_breaksSquare 32 = .ok (.aload_n 0, 1) := by decide +kernel
theorem dX9_breaksSquare_33 : decode cX9_breaksSquare 33 = .ok (.iload_n 1, 1) := by decide +kernel
theorem dX9_breaksSquare_34 : decode cX9_breaksSquare 34 = .ok (.aload_n 0, 1) := by decide +kernel
theorem dX9_breaksSquare_35 : decode cX9_breaksSquare 35 = .ok (.aload_n 0, 1) := by decide +kernel
theorem dX9_breaksSquare_36 : decode cX9_breaksSquare 36 = .ok (.getfield 22, 3) := by decide +kernel
theorem dX9_breaksSquare_39 : decode cX9_breaksSquare 39 = .ok (.iload_n 1, 1) := by decide +kernel
theorem dX9_breaksSquare_40 : decode cX9_breaksSquare 40 = .ok (.iaload, 1) := by decide +kernel
theorem dX9_breaksSquare_41 : decode cX9_breaksSquare 41 = .ok (.iload_n 2, 1) := by decide +kernel
theorem dX9_breaksSquare_42 : decode cX9_breaksSquare 42 = .ok (.invokevirtual 314, 3) := by decide +kernel
theorem dX9_breaksSquare_45 : decode cX9_breaksSquare 45 = .ok (.invokevirtual 402, 3) := by decide +kernel
theorem dX9_breaksSquare_48 : decode cX9_breaksSquare 48 = .ok (.if_icmp .eq 5, 3) := by decide +kernel
theorem dX9_breaksSquare_51 : decode cX9_breaksSquare 51 = .ok (.iconst 1, 1) := by decide +kernel
theorem dX9_breaksSquare_52 : decode cX9_breaksSquare 52 = .ok (.ireturn, 1) := by decide +kernel
theorem dX9_breaksSquare_53 : decode cX9_breaksSquare 53 = .ok (.iinc 2 1, 3) := by decide +kernel
theorem dX9_breaksSquare_56 : decode cX9_breaksSquare 56 = .ok (.goto (-54), 3) := by decide +kernel
theorem dX9_breaksSquare_59 : decode cX9_breaksSquare 59 = .ok (.iconst 0, 1) := by decide +kernel
theorem dX9_breaksSquare_60 : decode cX9_breaksSquare 60 = .ok (.ireturn, 1) := by decide +kernel
theorem dX9_breaksOn_0 : decode cX9_breaksOn 0 = .ok (.iconst 0, 1) := by decide +kernel
theorem dX9_breaksOn_1 : decode cX9_breaksOn 1 = .ok (.istore_n 2, 1) := by decide +kernel
theorem dX9_breaksOn_2 : decode cX9_breaksOn 2 = .ok (.iload_n 2, 1) := by decide +kernel
theorem dX9_breaksOn_3 : decode cX9_breaksOn 3 = .ok (.aload_n 0, 1) := by decide +kernel
theorem dX9_breaksOn_4 : decode cX9_breaksOn 4 = .ok (.aload_n 0, 1) := by decide +kernel
theorem dX9_breaksOn_5 : decode cX9_breaksOn 5 = .ok (.getfield 22, 3) := by decide +kernel
theorem dX9_breaksOn_8 : decode cX9_breaksOn 8 = .ok (.iload_n 1, 1) := by decide +kernel
theorem dX9_breaksOn_9 : decode cX9_breaksOn 9 = .ok (.iaload, 1) := by decide +kernel
theorem dX9_breaksOn_10 : decode cX9_breaksOn 10 = .ok (.invokevirtual 332, 3) := by decide +kernel
theorem dX9_breaksOn_13 : decode cX9_breaksOn 13 = .ok (.if_icmp .ge 75, 3) := by decide +kernel
theorem dX9_breaksOn_16 : decode cX9_breaksOn 16 = .ok (.iconst 0, 1) := by decide +kernel
theorem dX9_breaksOn_17 : decode cX9_breaksOn 17 = .ok (.istore_n 3, 1) := by decide +kernel
theorem dX9_breaksOn_18 : decode cX9_breaksOn 18 = .ok (.iload_n 3, 1) := by decide +kernel
theorem dX9_breaksOn_19 : decode cX9_breaksOn 19 = .ok (.aload_n 0, 1) := by decide +kernel
theorem dX9_breaksOn_20 : decode cX9_breaksOn 20 = .ok (.aload_n 0, 1) := by decide +kernel
theorem dX9_breaksOn_21 : decode cX9_breaksOn 21 = .ok (.getfield 22, 3) := by decide +kernel
theorem dX9_breaksOn_24 : decode cX9_breaksOn 24 = .ok (.iload_n 1, 1) := by decide +kernel
theorem dX9_breaksOn_25 : decode cX9_breaksOn 25 = .ok (.iaload, 1) := by decide +kernel
theorem dX9_breaksOn_26 : decode cX9_breaksOn 26 = .ok (.invokevirtual 323, 3) := by decide +kernel
theorem dX9_breaksOn_29 : decode cX9_breaksOn 29 = .ok (.if_icmp .ge 53, 3) := by decide +kernel
theorem dX9_breaksOn_32 : decode cX9_breaksOn 32 = .ok (.aload_n 0, 1) := by decide +kernel
theorem dX9_breaksOn_33 : decode cX9_breaksOn 33 = .ok (.iload_n 1, 1) := by decide +kernel
theorem dX9_breaksOn_34 : decode cX9_breaksOn 34 = .ok (.aload_n 0, 1) := by decide +kernel
theorem dX9_breaksOn_35 : decode cX9_breaksOn 35 = .ok (.aload_n 0, 1) := by decide +kernel
theorem dX9_breaksOn_36 : decode cX9_breaksOn 36 = .ok (.getfield 22, 3) := by decide +kernel
theorem dX9_breaksOn_39 : decode cX9_breaksOn 39 = .ok (.iload_n 1, 1) := by decide +kernel
theorem dX9_breaksOn_40 : decode cX9_breaksOn 40 = .ok (.iaload, 1) := by decide +kernel
theorem dX9_breaksOn_41 : decode cX9_breaksOn 41 = .ok (.iload_n 2, 1) := by decide +kernel
theorem dX9_breaksOn_42 : decode cX9_breaksOn 42 = .ok (.iload_n 3, 1) := by decide +kernel
theorem dX9_breaksOn_43 : decode cX9_breaksOn 43 = .ok (.invokevirtual 320, 3) := by decide +kernel
theorem dX9_breaksOn_46 : decode cX9_breaksOn 46 = .ok (.invokevirtual 396, 3) := by decide +kernel
theorem dX9_breaksOn_49 : decode cX9_breaksOn 49 = .ok (.aload_n 0, 1) := by decide +kernel
theorem dX9_breaksOn_50 : decode cX9_breaksOn 50 = .ok (.aload_n 0, 1) := by decide +kernel
theorem dX9_breaksOn_51 : decode cX9_breaksOn 51 = .ok (.getfield 25, 3) := by decide +kernel
theorem dX9_breaksOn_54 : decode cX9_breaksOn 54 = .ok (.iload_n 1, 1) := by decide +kernel
theorem dX9_breaksOn_55 : decode cX9_breaksOn 55 = .ok (.iaload, 1) := by decide +kernel
theorem dX9_breaksOn_56 : decode cX9_breaksOn 56 = .ok (.aload_n 0, 1) := by decide +kernel
theorem dX9_breaksOn_57 : decode cX9_breaksOn 57 = .ok (.iload_n 1, 1) := by decide +kernel
theorem dX9_breaksOn_58 : decode cX9_breaksOn 58 = .ok (.iload_n 2, 1) := by decide +kernel
theorem dX9_breaksOn_59 : decode cX9_breaksOn 59 = .ok (.invokevirtual 402, 3) := by decide +kernel
theorem dX9_breaksOn_62 : decode cX9_breaksOn 62 = .ok (.aload_n 0, 1) := by decide +kernel
theorem dX9_breaksOn_63 : decode cX9_breaksOn 63 = .ok (.iload_n 1, 1) := by decide +kernel
theorem dX9_breaksOn_64 : decode cX9_breaksOn 64 = .ok (.iload_n 3, 1) := by decide +kernel
theorem dX9_breaksOn_65 : decode cX9_breaksOn 65 = .ok (.invokevirtual 396, 3) := by decide +kernel
theorem dX9_breaksOn_68 : decode cX9_breaksOn 68 = .ok (.invokevirtual 320, 3) := by decide +kernel
theorem dX9_breaksOn_71 : decode cX9_breaksOn 71 = .ok (.if_icmp .eq 5, 3) := by decide +kernel
theorem dX9_breaksOn_74 : decode cX9_breaksOn 74 = .ok (.iconst 1, 1) := by decide +kernel
theorem dX9_breaksOn_75 : decode cX9_breaksOn 75 = .ok (.ireturn, 1) := by decide +kernel
theorem dX9_breaksOn_76 : decode cX9_breaksOn 76 = .ok (.iinc 3 1, 3) := by decide +kernel
theorem dX9_breaksOn_79 : decode cX9_breaksOn 79 = .ok (.goto (-61), 3) := by decide +kernel
theorem dX9_breaksOn_82 : decode cX9_breaksOn 82 = .ok (.iinc 2 1, 3) := by decide +kernel
theorem dX9_breaksOn_85 : decode cX9_breaksOn 85 = .ok (.goto (-83), 3) := by decide +kernel
theorem dX9_breaksOn_88 : decode cX9_breaksOn 88 = .ok (.iconst 0, 1) := by decide +kernel
theorem dX9_breaksOn_89 : decode cX9_breaksOn 89 = .ok (.ireturn, 1) := by decide +kernel
theorem dX9_whyArrow_0 : decode cX9_whyArrow 0 = .ok (.aload_n 0, 1) := by decide +kernel
theorem dX9_whyArrow_1 : decode cX9_whyArrow 1 = .ok (.aload_n 0, 1) := by decide +kernel
theorem dX9_whyArrow_2 : decode cX9_whyArrow 2 = .ok (.getfield 22, 3) := by decide +kernel
theorem dX9_whyArrow_5 : decode cX9_whyArrow 5 = .ok (.iload_n 1, 1) := by decide +kernel
theorem dX9_whyArrow_6 : decode cX9_whyArrow 6 = .ok (.iaload, 1) := by decide +kernel
theorem dX9_whyArrow_7 : decode cX9_whyArrow 7 = .ok (.invokevirtual 350, 3) := by decide +kernel
theorem dX9_whyArrow_10 : decode cX9_whyArrow 10 = .ok (.ifCond .ne 16, 3) := by decide +kernel
theorem dX9_whyArrow_13 : decode cX9_whyArrow 13 = .ok (.aload_n 0, 1) := by decide +kernel
theorem dX9_whyArrow_14 : decode cX9_whyArrow 14 = .ok (.aload_n 0, 1) := by decide +kernel
theorem dX9_whyArrow_15 : decode cX9_whyArrow 15 = .ok (.getfield 25, 3) := by decide +kernel
theorem dX9_whyArrow_18 : decode cX9_whyArrow 18 = .ok (.iload_n 1, 1) := by decide +kernel
theorem dX9_whyArrow_19 : decode cX9_whyArrow 19 = .ok (.iaload, 1) := by decide +kernel
theorem dX9_whyArrow_20 : decode cX9_whyArrow 20 = .ok (.invokevirtual 350, 3) := by decide +kernel
theorem dX9_whyArrow_23 : decode cX9_whyArrow 23 = .ok (.ifCond .eq 5, 3) := by decide +kernel
theorem dX9_whyArrow_26 : decode cX9_whyArrow 26 = .ok (.iconst 1, 1) := by decide +kernel
theorem dX9_whyArrow_27 : decode cX9_whyArrow 27 = .ok (.ireturn, 1) := by decide +kernel
theorem dX9_whyArrow_28 : decode cX9_whyArrow 28 = .ok (.aload_n 0, 1) := by decide +kernel
theorem dX9_whyArrow_29 : decode cX9_whyArrow 29 = .ok (.iload_n 1, 1) := by decide +kernel
theorem dX9_whyArrow_30 : decode cX9_whyArrow 30 = .ok (.invokevirtual 405, 3) := by decide +kernel
theorem dX9_whyArrow_33 : decode cX9_whyArrow 33 = .ok (.ifCond .eq 7, 3) := by decide +kernel
theorem dX9_whyArrow_36 : decode cX9_whyArrow 36 = .ok (.iconst 2, 1) := by decide +kernel
theorem dX9_whyArrow_37 : decode cX9_whyArrow 37 = .ok (.goto 40, 3) := by decide +kernel
theorem dX9_whyArrow_40 : decode cX9_whyArrow 40 = .ok (.aload_n 0, 1) := by decide +kernel
theorem dX9_whyArrow_41 : decode cX9_whyArrow 41 = .ok (.iload_n 1, 1) := by decide +kernel
theorem dX9_whyArrow_42 : decode cX9_whyArrow 42 = .ok (.invokevirtual 408, 3) := by decide +kernel
theorem dX9_whyArrow_45 : decode cX9_whyArrow 45 = .ok (.ifCond .eq 7, 3) := by decide +kernel
theorem dX9_whyArrow_48 : decode cX9_whyArrow 48 = .ok (.iconst 3, 1) := by decide +kernel
theorem dX9_whyArrow_49 : decode cX9_whyArrow 49 = .ok (.goto 28, 3) := by decide +kernel
theorem dX9_whyArrow_52 : decode cX9_whyArrow 52 = .ok (.aload_n 0, 1) := by decide +kernel
theorem dX9_whyArrow_53 : decode cX9_whyArrow 53 = .ok (.iload_n 1, 1) := by decide +kernel
theorem dX9_whyArrow_54 : decode cX9_whyArrow 54 = .ok (.invokevirtual 411, 3) := by decide +kernel
theorem dX9_whyArrow_57 : decode cX9_whyArrow 57 = .ok (.ifCond .eq 7, 3) := by decide +kernel
theorem dX9_whyArrow_60 : decode cX9_whyArrow 60 = .ok (.iconst 4, 1) := by decide +kernel
theorem dX9_whyArrow_61 : decode cX9_whyArrow 61 = .ok (.goto 16, 3) := by decide +kernel
theorem dX9_whyArrow_64 : decode cX9_whyArrow 64 = .ok (.aload_n 0, 1) := by decide +kernel
theorem dX9_whyArrow_65 : decode cX9_whyArrow 65 = .ok (.iload_n 1, 1) := by decide +kernel
theorem dX9_whyArrow_66 : decode cX9_whyArrow 66 = .ok (.invokevirtual 414, 3) := by decide +kernel
theorem dX9_whyArrow_69 : decode cX9_whyArrow 69 = .ok (.ifCond .eq 7, 3) := by decide +kernel
theorem dX9_whyArrow_72 : decode cX9_whyArrow 72 = .ok (.iconst 5, 1) := by decide +kernel
theorem dX9_whyArrow_73 : decode cX9_whyArrow 73 = .ok (.goto 4, 3) := by decide +kernel
theorem dX9_whyArrow_76 : decode cX9_whyArrow 76 = .ok (.iconst 0, 1) := by decide +kernel
theorem dX9_whyArrow_77 : decode cX9_whyArrow 77 = .ok (.ireturn, 1) := by decide +kernel
theorem dX9_arrowWhy_0 : decode cX9_arrowWhy 0 = .ok (.aload_n 0, 1) := by decide +kernel
theorem dX9_arrowWhy_1 : decode cX9_arrowWhy 1 = .ok (.iload_n 1, 1) := by decide +kernel
theorem dX9_arrowWhy_2 : decode cX9_arrowWhy 2 = .ok (.invokevirtual 390, 3) := by decide +kernel
theorem dX9_arrowWhy_5 : decode cX9_arrowWhy 5 = .ok (.ifCond .eq 7, 3) := by decide +kernel
theorem dX9_arrowWhy_8 : decode cX9_arrowWhy 8 = .ok (.iconst 0, 1) := by decide +kernel
theorem dX9_arrowWhy_9 : decode cX9_arrowWhy 9 = .ok (.goto 8, 3) := by decide +kernel
theorem dX9_arrowWhy_12 : decode cX9_arrowWhy 12 = .ok (.aload_n 0, 1) := by decide +kernel
theorem dX9_arrowWhy_13 : decode cX9_arrowWhy 13 = .ok (.iload_n 1, 1) := by decide +kernel
theorem dX9_arrowWhy_14 : decode cX9_arrowWhy 14 = .ok (.invokevirtual 417, 3) := by decide +kernel
theorem dX9_arrowWhy_17 : decode cX9_arrowWhy 17 = .ok (.ireturn, 1) := by decide +kernel
theorem dX9_isEqual_0 : decode cX9_isEqual 0 = .ok (.aload_n 0, 1) := by decide +kernel
theorem dX9_isEqual_1 : decode cX9_isEqual 1 = .ok (.iload_n 1, 1) := by decide +kernel
theorem dX9_isEqual_2 : decode cX9_isEqual 2 = .ok (.invokevirtual 417, 3) := by decide +kernel
theorem dX9_isEqual_5 : decode cX9_isEqual 5 = .ok (.ifCond .eq 5, 3) := by decide +kernel
theorem dX9_isEqual_8 : decode cX9_isEqual 8 = .ok (.iconst 0, 1) := by decide +kernel
theorem dX9_isEqual_9 : decode cX9_isEqual 9 = .ok (.ireturn, 1) := by decide +kernel
theorem dX9_isEqual_10 : decode cX9_isEqual 10 = .ok (.aload_n 0, 1) := by decide +kernel
theorem dX9_isEqual_11 : decode cX9_isEqual 11 = .ok (.getfield 22, 3) := by decide +kernel
theorem dX9_isEqual_14 : decode cX9_isEqual 14 = .ok (.iload_n 1, 1) := by decide +kernel
theorem dX9_isEqual_15 : decode cX9_isEqual 15 = .ok (.iaload, 1) := by decide +kernel
theorem dX9_isEqual_16 : decode cX9_isEqual 16 = .ok (.istore_n 2, 1) := by decide +kernel
theorem dX9_isEqual_17 : decode cX9_isEqual 17 = .ok (.aload_n 0, 1) := by decide +kernel
theorem dX9_isEqual_18 : decode cX9_isEqual 18 = .ok (.getfield 25, 3) := by decide +kernel
theorem dX9_isEqual_21 : decode cX9_isEqual 21 = .ok (.iload_n 1, 1) := by decide +kernel
theorem dX9_isEqual_22 : decode cX9_isEqual 22 = .ok (.iaload, 1) := by decide +kernel
theorem dX9_isEqual_23 : decode cX9_isEqual 23 = .ok (.istore_n 3, 1) := by decide +kernel
theorem dX9_isEqual_24 : decode cX9_isEqual 24 = .ok (.aload_n 0, 1) := by decide +kernel
theorem dX9_isEqual_25 : decode cX9_isEqual 25 = .ok (.iload_n 2, 1) := by decide +kernel
theorem dX9_isEqual_26 : decode cX9_isEqual 26 = .ok (.invokevirtual 356, 3) := by decide +kernel
theorem dX9_isEqual_29 : decode cX9_isEqual 29 = .ok (.istore 4, 2) := by decide +kernel
theorem dX9_isEqual_31 : decode cX9_isEqual 31 = .ok (.iconst 0, 1) := by decide +kernel
theorem dX9_isEqual_32 : decode cX9_isEqual 32 = .ok (.istore 5, 2) := by decide +kernel
theorem dX9_isEqual_34 : decode cX9_isEqual 34 = .ok (.iconst 0, 1) := by decide +kernel
theorem dX9_isEqual_35 : decode cX9_isEqual 35 = .ok (.istore 6, 2) := by decide +kernel
theorem dX9_isEqual_37 : decode cX9_isEqual 37 = .ok (.iload 6, 2) := by decide +kernel
theorem dX9_isEqual_39 : decode cX9_isEqual 39 = .ok (.aload_n 0, 1) := by decide +kernel
theorem dX9_isEqual_40 : decode cX9_isEqual 40 = .ok (.iload_n 2, 1) := by decide +kernel
theorem dX9_isEqual_41 : decode cX9_isEqual 41 = .ok (.invokevirtual 323, 3) := by decide +kernel
theorem dX9_isEqual_44 : decode cX9_isEqual 44 = .ok (.if_icmp .ge 37, 3) := by decide +kernel
theorem dX9_isEqual_47 : decode cX9_isEqual 47 = .ok (.iload 5, 2) := by decide +kernel
theorem dX9_isEqual_49 : decode cX9_isEqual 49 = .ok (.iload 4, 2) := by decide +kernel
theorem dX9_isEqual_51 : decode cX9_isEqual 51 = .ok (.iload 6, 2) := by decide +kernel
theorem dX9_isEqual_53 : decode cX9_isEqual 53 = .ok (.invokestatic 221, 3) := by decide +kernel
theorem dX9_isEqual_56 : decode cX9_isEqual 56 = .ok (.ifCond .eq 15, 3) := by decide +kernel
theorem dX9_isEqual_59 : decode cX9_isEqual 59 = .ok (.iconst 1, 1) := by decide +kernel
theorem dX9_isEqual_60 : decode cX9_isEqual 60 = .ok (.aload_n 0, 1) := by decide +kernel
theorem dX9_isEqual_61 : decode cX9_isEqual 61 = .ok (.iload_n 1, 1) := by decide +kernel
theorem dX9_isEqual_62 : decode cX9_isEqual 62 = .ok (.iload 6, 2) := by decide +kernel
theorem dX9_isEqual_64 : decode cX9_isEqual 64 = .ok (.invokevirtual 396, 3) := by decide +kernel
theorem dX9_isEqual_67 : decode cX9_isEqual 67 = .ok (.ishl, 1) := by decide +kernel
theorem dX9_isEqual_68 : decode cX9_isEqual 68 = .ok (.goto 4, 3) := by decide +kernel
theorem dX9_isEqual_71 : decode cX9_isEqual 71 = .ok (.iconst 0, 1) := by decide +kernel
theorem dX9_isEqual_72 : decode cX9_isEqual 72 = .ok (.ior, 1) := by decide +kernel
theorem dX9_isEqual_73 : decode cX9_isEqual 73 = .ok (.istore 5, 2) := by decide +kernel
theorem dX9_isEqual_75 : decode cX9_isEqual 75 = .ok (.iinc 6 1, 3) := by decide +kernel
theorem dX9_isEqual_78 : decode cX9_isEqual 78 = .ok (.goto (-41), 3) := by decide +kernel
theorem dX9_isEqual_81 : decode cX9_isEqual 81 = .ok (.iload 5, 2) := by decide +kernel
theorem dX9_isEqual_83 : decode cX9_isEqual 83 = .ok (.invokestatic 420, 3) := by decide +kernel
theorem dX9_isEqual_86 : decode cX9_isEqual 86 = .ok (.iload 4, 2) := by decide +kernel
theorem dX9_isEqual_88 : decode cX9_isEqual 88 = .ok (.invokestatic 420, 3) := by decide +kernel
theorem dX9_isEqual_91 : decode cX9_isEqual 91 = .ok (.if_icmp .ne 19, 3) := by decide +kernel
theorem dX9_isEqual_94 : decode cX9_isEqual 94 = .ok (.iload 4, 2) := by decide +kernel
theorem dX9_isEqual_96 : decode cX9_isEqual 96 = .ok (.invokestatic 420, 3) := by decide +kernel
theorem dX9_isEqual_99 : decode cX9_isEqual 99 = .ok (.aload_n 0, 1) := by decide +kernel
theorem dX9_isEqual_100 : decode cX9_isEqual 100 = .ok (.iload_n 3, 1) := by decide +kernel
theorem dX9_isEqual_101 : decode cX9_isEqual 101 = .ok (.invokevirtual 356, 3) := by decide +kernel
theorem dX9_isEqual_104 : decode cX9_isEqual 104 = .ok (.invokestatic 420, 3) := by decide +kernel
theorem dX9_isEqual_107 : decode cX9_isEqual 107 = .ok (.if_icmp .eq 5, 3) := by decide +kernel
theorem dX9_isEqual_110 : decode cX9_isEqual 110 = .ok (.iconst 0, 1) := by decide +kernel
theorem dX9_isEqual_111 : decode cX9_isEqual 111 = .ok (.ireturn, 1) := by decide +kernel
theorem dX9_isEqual_112 : decode cX9_isEqual 112 = .ok (.aload_n 0, 1) := by decide +kernel
theorem dX9_isEqual_113 : decode cX9_isEqual 113 = .ok (.iload_n 2, 1) := by decide +kernel
theorem dX9_isEqual_114 : decode cX9_isEqual 114 = .ok (.invokevirtual 365, 3) := by decide +kernel
theorem dX9_isEqual_117 : decode cX9_isEqual 117 = .ok (.istore 6, 2) := by decide +kernel
theorem dX9_isEqual_119 : decode cX9_isEqual 119 = .ok (.iconst 0, 1) := by decide +kernel
theorem dX9_isEqual_120 : decode cX9_isEqual 120 = .ok (.istore 7, 2) := by decide +kernel
theorem dX9_isEqual_122 : decode cX9_isEqual 122 = .ok (.iload 7, 2) := by decide +kernel
theorem dX9_isEqual_124 : decode cX9_isEqual 124 = .ok (.aload_n 0, 1) := by decide +kernel
theorem dX9_isEqual_125 : decode cX9_isEqual 125 = .ok (.iload_n 2, 1) := by decide +kernel
theorem dX9_isEqual_126 : decode cX9_isEqual 126 = .ok (.invokevirtual 332, 3) := by decide +kernel
theorem dX9_isEqual_129 : decode cX9_isEqual 129 = .ok (.if_icmp .ge 23, 3) := by decide +kernel
theorem dX9_isEqual_132 : decode cX9_isEqual 132 = .ok (.aload_n 0, 1) := by decide +kernel
theorem dX9_isEqual_133 : decode cX9_isEqual 133 = .ok (.getfield 81, 3) := by decide +kernel
theorem dX9_isEqual_136 : decode cX9_isEqual 136 = .ok (.iload 7, 2) := by decide +kernel
theorem dX9_isEqual_138 : decode cX9_isEqual 138 = .ok (.aload_n 0, 1) := by decide +kernel
theorem dX9_isEqual_139 : decode cX9_isEqual 139 = .ok (.getfield 78, 3) := by decide +kernel
theorem dX9_isEqual_142 : decode cX9_isEqual 142 = .ok (.iload 7, 2) := by decide +kernel
theorem dX9_isEqual_144 : decode cX9_isEqual 144 = .ok (.iaload, 1) := by decide +kernel
theorem dX9_isEqual_145 : decode cX9_isEqual 145 = .ok (.iastore, 1) := by decide +kernel
theorem dX9_isEqual_146 : decode cX9_isEqual 146 = .ok (.iinc 7 1, 3) := by decide +kernel
theorem dX9_isEqual_149 : decode cX9_isEqual 149 = .ok (.goto (-27), 3) := by decide +kernel
theorem dX9_isEqual_152 : decode cX9_isEqual 152 = .ok (.aload_n 0, 1) := by decide +kernel
theorem dX9_isEqual_153 : decode cX9_isEqual 153 = .ok (.iload_n 3, 1) := by decide +kernel
theorem dX9_isEqual_154 : decode cX9_isEqual 154 = .ok (.invokevirtual 365, 3) := by decide +kernel
theorem dX9_isEqual_157 : decode cX9_isEqual 157 = .ok (.iload 6, 2) := by decide +kernel
theorem dX9_isEqual_159 : decode cX9_isEqual 159 = .ok (.if_icmp .eq 5, 3) := by decide +kernel
theorem dX9_isEqual_162 : decode cX9_isEqual 162 = .ok (.iconst 0, 1) := by decide +kernel
theorem dX9_isEqual_163 : decode cX9_isEqual 163 = .ok (.ireturn, 1) := by decide +kernel
theorem dX9_isEqual_164 : decode cX9_isEqual 164 = .ok (.iconst 0, 1) := by decide +kernel
theorem dX9_isEqual_165 : decode cX9_isEqual 165 = .ok (.istore 7, 2) := by decide +kernel
theorem dX9_isEqual_167 : decode cX9_isEqual 167 = .ok (.iload 7, 2) := by decide +kernel
theorem dX9_isEqual_169 : decode cX9_isEqual 169 = .ok (.aload_n 0, 1) := by decide +kernel
theorem dX9_isEqual_170 : decode cX9_isEqual 170 = .ok (.iload_n 2, 1) := by decide +kernel
theorem dX9_isEqual_171 : decode cX9_isEqual 171 = .ok (.invokevirtual 332, 3) := by decide +kernel
theorem dX9_isEqual_174 : decode cX9_isEqual 174 = .ok (.if_icmp .ge 71, 3) := by decide +kernel
theorem dX9_isEqual_177 : decode cX9_isEqual 177 = .ok (.iconst 0, 1) := by decide +kernel
theorem dX9_isEqual_178 : decode cX9_isEqual 178 = .ok (.istore 8, 2) := by decide +kernel
theorem dX9_isEqual_180 : decode cX9_isEqual 180 = .ok (.iload 8, 2) := by decide +kernel
theorem dX9_isEqual_182 : decode cX9_isEqual 182 = .ok (.iload 7, 2) := by decide +kernel
theorem dX9_isEqual_184 : decode cX9_isEqual 184 = .ok (.if_icmp .ge 55, 3) := by decide +kernel
theorem dX9_isEqual_187 : decode cX9_isEqual 187 = .ok (.aload_n 0, 1) := by decide +kernel
theorem dX9_isEqual_188 : decode cX9_isEqual 188 = .ok (.getfield 81, 3) := by decide +kernel
theorem dX9_isEqual_191 : decode cX9_isEqual 191 = .ok (.iload 7, 2) := by decide +kernel
theorem dX9_isEqual_193 : decode cX9_isEqual 193 = .ok (.iaload, 1) := by decide +kernel
theorem dX9_isEqual_194 : decode cX9_isEqual 194 = .ok (.aload_n 0, 1) := by decide +kernel
theorem dX9_isEqual_195 : decode cX9_isEqual 195 = .ok (.getfield 81, 3) := by decide +kernel
theorem dX9_isEqual_198 : decode cX9_isEqual 198 = .ok (.iload 8, 2) := by decide +kernel
theorem dX9_isEqual_200 : decode cX9_isEqual 200 = .ok (.iaload, 1) := by decide +kernel
theorem dX9_isEqual_201 : decode cX9_isEqual 201 = .ok (.if_icmp .eq 32, 3) := by decide +kernel
theorem dX9_isEqual_204 : decode cX9_isEqual 204 = .ok (.aload_n 0, 1) := by decide +kernel
theorem dX9_isEqual_205 : decode cX9_isEqual 205 = .ok (.getfield 78, 3) := by decide +kernel
theorem dX9_isEqual_208 : decode cX9_isEqual 208 = .ok (.aload_n 0, 1) := by decide +kernel
theorem dX9_isEqual_209 : decode cX9_isEqual 209 = .ok (.iload_n 1, 1) := by decide +kernel
theorem dX9_isEqual_210 : decode cX9_isEqual 210 = .ok (.iload 7, 2) := by decide +kernel
theorem dX9_isEqual_212 : decode cX9_isEqual 212 = .ok (.invokevirtual 402, 3) := by decide +kernel
theorem dX9_isEqual_215 : decode cX9_isEqual 215 = .ok (.iaload, 1) := by decide +kernel
theorem dX9_isEqual_216 : decode cX9_isEqual 216 = .ok (.aload_n 0, 1) := by decide +kernel
theorem dX9_isEqual_217 : decode cX9_isEqual 217 = .ok (.getfield 78, 3) := by decide +kernel
theorem dX9_isEqual_220 : decode cX9_isEqual 220 = .ok (.aload_n 0, 1) := by decide +kernel
theorem dX9_isEqual_221 : decode cX9_isEqual 221 = .ok (.iload_n 1, 1) := by decide +kernel
theorem dX9_isEqual_222 : decode cX9_isEqual 222 = .ok (.iload 8, 2) := by decide +kernel
theorem dX9_isEqual_224 : decode cX9_isEqual 224 = .ok (.invokevirtual 402, 3) := by decide +kernel
theorem dX9_isEqual_227 : decode cX9_isEqual 227 = .ok (.iaload, 1) := by decide +kernel
theorem dX9_isEqual_228 : decode cX9_isEqual 228 = .ok (.if_icmp .ne 5, 3) := by decide +kernel
theorem dX9_isEqual_231 : decode cX9_isEqual 231 = .ok (.iconst 0, 1) := by decide +kernel
theorem dX9_isEqual_232 : decode cX9_isEqual 232 = .ok (.ireturn, 1) := by decide +kernel
theorem dX9_isEqual_233 : decode cX9_isEqual 233 = .ok (.iinc 8 1, 3) := by decide +kernel
theorem dX9_isEqual_236 : decode cX9_isEqual 236 = .ok (.goto (-56), 3) := by decide +kernel
theorem dX9_isEqual_239 : decode cX9_isEqual 239 = .ok (.iinc 7 1, 3) := by decide +kernel
theorem dX9_isEqual_242 : decode cX9_isEqual 242 = .ok (.goto (-75), 3) := by decide +kernel
theorem dX9_isEqual_245 : decode cX9_isEqual 245 = .ok (.iconst 1, 1) := by decide +kernel
theorem dX9_isEqual_246 : decode cX9_isEqual 246 = .ok (.ireturn, 1) := by decide +kernel
theorem dX9_isEquivalence_0 : decode cX9_isEquivalence 0 = .ok (.aload_n 0, 1) := by decide +kernel
theorem dX9_isEquivalence_1 : decode cX9_isEquivalence 1 = .ok (.iload_n 1, 1) := by decide +kernel
theorem dX9_isEquivalence_2 : decode cX9_isEquivalence 2 = .ok (.invokevirtual 390, 3) := by decide +kernel
theorem dX9_isEquivalence_5 : decode cX9_isEquivalence 5 = .ok (.ifCond .ne 15, 3) := by decide +kernel
theorem dX9_isEquivalence_8 : decode cX9_isEquivalence 8 = .ok (.aload_n 0, 1) := by decide +kernel
theorem dX9_isEquivalence_9 : decode cX9_isEquivalence 9 = .ok (.iload_n 1, 1) := by decide +kernel
theorem dX9_isEquivalence_10 : decode cX9_isEquivalence 10 = .ok (.invokevirtual 423, 3) := by decide +kernel
theorem dX9_isEquivalence_13 : decode cX9_isEquivalence 13 = .ok (.ifCond .eq 7, 3) := by decide +kernel
theorem dX9_isEquivalence_16 : decode cX9_isEquivalence 16 = .ok (.iconst 1, 1) := by decide +kernel
theorem dX9_isEquivalence_17 : decode cX9_isEquivalence 17 = .ok (.goto 4, 3) := by decide +kernel
theorem dX9_isEquivalence_20 : decode cX9_isEquivalence 20 = .ok (.iconst 0, 1) := by decide +kernel
theorem dX9_isEquivalence_21 : decode cX9_isEquivalence 21 = .ok (.ireturn, 1) := by decide +kernel
theorem dX9_allEqual_0 : decode cX9_allEqual 0 = .ok (.iconst 0, 1) := by decide +kernel
theorem dX9_allEqual_1 : decode cX9_allEqual 1 = .ok (.istore_n 1, 1) := by decide +kernel
theorem dX9_allEqual_2 : decode cX9_allEqual 2 = .ok (.iconst 0, 1) := by decide +kernel
theorem dX9_allEqual_3 : decode cX9_allEqual 3 = .ok (.istore_n 2, 1) := by decide +kernel
theorem dX9_allEqual_4 : decode cX9_allEqual 4 = .ok (.iload_n 2, 1) := by decide +kernel
theorem dX9_allEqual_5 : decode cX9_allEqual 5 = .ok (.aload_n 0, 1) := by decide +kernel
theorem dX9_allEqual_6 : decode cX9_allEqual 6 = .ok (.getfield 262, 3) := by decide +kernel
theorem dX9_allEqual_9 : decode cX9_allEqual 9 = .ok (.if_icmp .ge 27, 3) := by decide +kernel
theorem dX9_allEqual_12 : decode cX9_allEqual 12 = .ok (.iload_n 1, 1) := by decide +kernel
theorem dX9_allEqual_13 : decode cX9_allEqual 13 = .ok (.aload_n 0, 1) := by decide +kernel
theorem dX9_allEqual_14 : decode cX9_allEqual 14 = .ok (.iload_n 2, 1) := by decide +kernel
theorem dX9_allEqual_15 : decode cX9_allEqual 15 = .ok (.invokevirtual 423, 3) := by decide +kernel
theorem dX9_allEqual_18 : decode cX9_allEqual 18 = .ok (.ifCond .eq 9, 3) := by decide +kernel
theorem dX9_allEqual_21 : decode cX9_allEqual 21 = .ok (.iconst 1, 1) := by decide +kernel
theorem dX9_allEqual_22 : decode cX9_allEqual 22 = .ok (.iload_n 2, 1) := by decide +kernel
theorem dX9_allEqual_23 : decode cX9_allEqual 23 = .ok (.ishl, 1) := by decide +kernel
theorem dX9_allEqual_24 : decode cX9_allEqual 24 = .ok (.goto 4, 3) := by decide +kernel
theorem dX9_allEqual_27 : decode cX9_allEqual 27 = .ok (.iconst 0, 1) := by decide +kernel
theorem dX9_allEqual_28 : decode cX9_allEqual 28 = .ok (.ior, 1) := by decide +kernel
theorem dX9_allEqual_29 : decode cX9_allEqual 29 = .ok (.istore_n 1, 1) := by decide +kernel
theorem dX9_allEqual_30 : decode cX9_allEqual 30 = .ok (.iinc 2 1, 3) := by decide +kernel
theorem dX9_allEqual_33 : decode cX9_allEqual 33 = .ok (.goto (-29), 3) := by decide +kernel
theorem dX9_allEqual_36 : decode cX9_allEqual 36 = .ok (.iload_n 1, 1) := by decide +kernel
theorem dX9_allEqual_37 : decode cX9_allEqual 37 = .ok (.ireturn, 1) := by decide +kernel
theorem dX9_equivalences_0 : decode cX9_equivalences 0 = .ok (.aload_n 0, 1) := by decide +kernel
theorem dX9_equivalences_1 : decode cX9_equivalences 1 = .ok (.invokevirtual 272, 3) := by decide +kernel
theorem dX9_equivalences_4 : decode cX9_equivalences 4 = .ok (.ifCond .eq 7, 3) := by decide +kernel
theorem dX9_equivalences_7 : decode cX9_equivalences 7 = .ok (.iconst 0, 1) := by decide +kernel
theorem dX9_equivalences_8 : decode cX9_equivalences 8 = .ok (.goto 7, 3) := by decide +kernel
theorem dX9_equivalences_11 : decode cX9_equivalences 11 = .ok (.aload_n 0, 1) := by decide +kernel
theorem dX9_equivalences_12 : decode cX9_equivalences 12 = .ok (.invokevirtual 426, 3) := by decide +kernel
theorem dX9_equivalences_15 : decode cX9_equivalences 15 = .ok (.ireturn, 1) := by decide +kernel
theorem dX9_onward_0 : decode cX9_onward 0 = .ok (.iload_n 1, 1) := by decide +kernel
theorem dX9_onward_1 : decode cX9_onward 1 = .ok (.istore_n 3, 1) := by decide +kernel
theorem dX9_onward_2 : decode cX9_onward 2 = .ok (.iconst 0, 1) := by decide +kernel
theorem dX9_onward_3 : decode cX9_onward 3 = .ok (.istore 4, 2) := by decide +kernel
theorem dX9_onward_5 : decode cX9_onward 5 = .ok (.iload 4, 2) := by decide +kernel
theorem dX9_onward_7 : decode cX9_onward 7 = .ok (.aload_n 0, 1) := by decide +kernel
theorem dX9_onward_8 : decode cX9_onward 8 = .ok (.getfield 262, 3) := by decide +kernel
theorem dX9_onward_11 : decode cX9_onward 11 = .ok (.if_icmp .ge 68, 3) := by decide +kernel
theorem dX9_onward_14 : decode cX9_onward 14 = .ok (.iload_n 2, 1) := by decide +kernel
theorem dX9_onward_15 : decode cX9_onward 15 = .ok (.iload 4, 2) := by decide +kernel
theorem dX9_onward_17 : decode cX9_onward 17 = .ok (.invokestatic 221, 3) := by decide +kernel
theorem dX9_onward_20 : decode cX9_onward 20 = .ok (.ifCond .eq 53, 3) := by decide +kernel
theorem dX9_onward_23 : decode cX9_onward 23 = .ok (.iload_n 1, 1) := by decide +kernel
theorem dX9_onward_24 : decode cX9_onward 24 = .ok (.aload_n 0, 1) := by decide +kernel
theorem dX9_onward_25 : decode cX9_onward 25 = .ok (.getfield 22, 3) := by decide +kernel
theorem dX9_onward_28 : decode cX9_onward 28 = .ok (.iload 4, 2) := by decide +kernel
theorem dX9_onward_30 : decode cX9_onward 30 = .ok (.iaload, 1) := by decide +kernel
theorem dX9_onward_31 : decode cX9_onward 31 = .ok (.invokestatic 221, 3) := by decide +kernel
theorem dX9_onward_34 : decode cX9_onward 34 = .ok (.ifCond .ne 17, 3) := by decide +kernel
theorem dX9_onward_37 : decode cX9_onward 37 = .ok (.iload_n 1, 1) := by decide +kernel
theorem dX9_onward_38 : decode cX9_onward 38 = .ok (.aload_n 0, 1) := by decide +kernel
theorem dX9_onward_39 : decode cX9_onward 39 = .ok (.getfield 25, 3) := by decide +kernel
theorem dX9_onward_42 : decode cX9_onward 42 = .ok (.iload 4, 2) := by decide +kernel
theorem dX9_onward_44 : decode cX9_onward 44 = .ok (.iaload, 1) := by decide +kernel
theorem dX9_onward_45 : decode cX9_onward 45 = .ok (.invokestatic 221, 3) := by decide +kernel
theorem dX9_onward_48 : decode cX9_onward 48 = .ok (.ifCond .eq 25, 3) := by decide +kernel
theorem dX9_onward_51 : decode cX9_onward 51 = .ok (.iload_n 3, 1) := by decide +kernel
theorem dX9_onward_52 : decode cX9_onward 52 = .ok (.iconst 1, 1) := by decide +kernel
theorem dX9_onward_53 : decode cX9_onward 53 = .ok (.aload_n 0, 1) := by decide +kernel
theorem dX9_onward_54 : decode cX9_onward 54 = .ok (.getfield 22, 3) := by decide +kernel
theorem dX9_onward_57 : decode cX9_onward 57 = .ok (.iload 4, 2) := by decide +kernel
theorem dX9_onward_59 : decode cX9_onward 59 = .ok (.iaload, 1) := by decide +kernel
theorem dX9_onward_60 : decode cX9_onward 60 = .ok (.ishl, 1) := by decide +kernel
theorem dX9_onward_61 : decode cX9_onward 61 = .ok (.iconst 1, 1) := by decide +kernel
theorem dX9_onward_62 : decode cX9_onward 62 = .ok (.aload_n 0, 1) := by decide +kernel
theorem dX9_onward_63 : decode cX9_onward 63 = .ok (.getfield 25, 3) := by decide +kernel
theorem dX9_onward_66 : decode cX9_onward 66 = .ok (.iload 4, 2) := by decide +kernel
theorem dX9_onward_68 : decode cX9_onward 68 = .ok (.iaload, 1) := by decide +kernel
theorem dX9_onward_69 : decode cX9_onward 69 = .ok (.ishl, 1) := by decide +kernel
theorem dX9_onward_70 : decode cX9_onward 70 = .ok (.ior, 1) := by decide +kernel
theorem dX9_onward_71 : decode cX9_onward 71 = .ok (.ior, 1) := by decide +kernel
theorem dX9_onward_72 : decode cX9_onward 72 = .ok (.istore_n 3, 1) := by decide +kernel
theorem dX9_onward_73 : decode cX9_onward 73 = .ok (.iinc 4 1, 3) := by decide +kernel
theorem dX9_onward_76 : decode cX9_onward 76 = .ok (.goto (-71), 3) := by decide +kernel
theorem dX9_onward_79 : decode cX9_onward 79 = .ok (.iload_n 3, 1) := by decide +kernel
theorem dX9_onward_80 : decode cX9_onward 80 = .ok (.ireturn, 1) := by decide +kernel
theorem dX9_ladder_0 : decode cX9_ladder 0 = .ok (.aload_n 0, 1) := by decide +kernel
theorem dX9_ladder_1 : decode cX9_ladder 1 = .ok (.iload_n 1, 1) := by decide +kernel
theorem dX9_ladder_2 : decode cX9_ladder 2 = .ok (.invokevirtual 308, 3) := by decide +kernel
theorem dX9_ladder_5 : decode cX9_ladder 5 = .ok (.ifCond .ne 11, 3) := by decide +kernel
theorem dX9_ladder_8 : decode cX9_ladder 8 = .ok (.aload_n 0, 1) := by decide +kernel
theorem dX9_ladder_9 : decode cX9_ladder 9 = .ok (.iload_n 2, 1) := by decide +kernel
theorem dX9_ladder_10 : decode cX9_ladder 10 = .ok (.invokevirtual 308, 3) := by decide +kernel
theorem dX9_ladder_13 : decode cX9_ladder 13 = .ok (.ifCond .eq 5, 3) := by decide +kernel
theorem dX9_ladder_16 : decode cX9_ladder 16 = .ok (.iconst 0, 1) := by decide +kernel
theorem dX9_ladder_17 : decode cX9_ladder 17 = .ok (.ireturn, 1) := by decide +kernel
theorem dX9_ladder_18 : decode cX9_ladder 18 = .ok (.aload_n 0, 1) := by decide +kernel
theorem dX9_ladder_19 : decode cX9_ladder 19 = .ok (.invokevirtual 426, 3) := by decide +kernel
theorem dX9_ladder_22 : decode cX9_ladder 22 = .ok (.istore_n 3, 1) := by decide +kernel
theorem dX9_ladder_23 : decode cX9_ladder 23 = .ok (.iconst 1, 1) := by decide +kernel
theorem dX9_ladder_24 : decode cX9_ladder 24 = .ok (.iload_n 1, 1) := by decide +kernel
theorem dX9_ladder_25 : decode cX9_ladder 25 = .ok (.ishl, 1) := by decide +kernel
theorem dX9_ladder_26 : decode cX9_ladder 26 = .ok (.istore 4, 2) := by decide +kernel
theorem dX9_ladder_28 : decode cX9_ladder 28 = .ok (.iconst 0, 1) := by decide +kernel
theorem dX9_ladder_29 : decode cX9_ladder 29 = .ok (.istore 5, 2) := by decide +kernel
theorem dX9_ladder_31 : decode cX9_ladder 31 = .ok (.iload 5, 2) := by decide +kernel
theorem dX9_ladder_33 : decode cX9_ladder 33 = .ok (.bipush 6, 2) := by decide +kernel
theorem dX9_ladder_35 : decode cX9_ladder 35 = .ok (.if_icmp .gt 30, 3) := by decide +kernel
theorem dX9_ladder_38 : decode cX9_ladder 38 = .ok (.iload 4, 2) := by decide +kernel
theorem dX9_ladder_40 : decode cX9_ladder 40 = .ok (.iload_n 2, 1) := by decide +kernel
theorem dX9_ladder_41 : decode cX9_ladder 41 = .ok (.invokestatic 221, 3) := by decide +kernel
theorem dX9_ladder_44 : decode cX9_ladder 44 = .ok (.ifCond .eq 6, 3) := by decide +kernel
theorem dX9_ladder_47 : decode cX9_ladder 47 = .ok (.iload 5, 2) := by decide +kernel
theorem dX9_ladder_49 : decode cX9_ladder 49 = .ok (.ireturn, 1) := by decide +kernel
theorem dX9_ladder_50 : decode cX9_ladder 50 = .ok (.aload_n 0, 1) := by decide +kernel
theorem dX9_ladder_51 : decode cX9_ladder 51 = .ok (.iload 4, 2) := by decide +kernel
theorem dX9_ladder_53 : decode cX9_ladder 53 = .ok (.iload_n 3, 1) := by decide +kernel
theorem dX9_ladder_54 : decode cX9_ladder 54 = .ok (.invokevirtual 429, 3) := by decide +kernel
theorem dX9_ladder_57 : decode cX9_ladder 57 = .ok (.istore 4, 2) := by decide +kernel
theorem dX9_ladder_59 : decode cX9_ladder 59 = .ok (.iinc 5 1, 3) := by decide +kernel
theorem dX9_ladder_62 : decode cX9_ladder 62 = .ok (.goto (-31), 3) := by decide +kernel
theorem dX9_ladder_65 : decode cX9_ladder 65 = .ok (.iconst (-1), 1) := by decide +kernel
theorem dX9_ladder_66 : decode cX9_ladder 66 = .ok (.ireturn, 1) := by decide +kernel
theorem dX9_joined_0 : decode cX9_joined 0 = .ok (.aload_n 0, 1) := by decide +kernel
theorem dX9_joined_1 : decode cX9_joined 1 = .ok (.iload_n 1, 1) := by decide +kernel
theorem dX9_joined_2 : decode cX9_joined 2 = .ok (.invokevirtual 308, 3) := by decide +kernel
theorem dX9_joined_5 : decode cX9_joined 5 = .ok (.ifCond .eq 5, 3) := by decide +kernel
theorem dX9_joined_8 : decode cX9_joined 8 = .ok (.iconst 0, 1) := by decide +kernel
theorem dX9_joined_9 : decode cX9_joined 9 = .ok (.ireturn, 1) := by decide +kernel
theorem dX9_joined_10 : decode cX9_joined 10 = .ok (.aload_n 0, 1) := by decide +kernel
theorem dX9_joined_11 : decode cX9_joined 11 = .ok (.invokevirtual 426, 3) := by decide +kernel
theorem dX9_joined_14 : decode cX9_joined 14 = .ok (.istore_n 2, 1) := by decide +kernel
theorem dX9_joined_15 : decode cX9_joined 15 = .ok (.iconst 1, 1) := by decide +kernel
theorem dX9_joined_16 : decode cX9_joined 16 = .ok (.iload_n 1, 1) := by decide +kernel
theorem dX9_joined_17 : decode cX9_joined 17 = .ok (.ishl, 1) := by decide +kernel
theorem dX9_joined_18 : decode cX9_joined 18 = .ok (.istore_n 3, 1) := by decide +kernel
theorem dX9_joined_19 : decode cX9_joined 19 = .ok (.iconst 0, 1) := by decide +kernel
theorem dX9_joined_20 : decode cX9_joined 20 = .ok (.istore 4, 2) := by decide +kernel
theorem dX9_joined_22 : decode cX9_joined 22 = .ok (.iload 4, 2) := by decide +kernel
theorem dX9_joined_24 : decode cX9_joined 24 = .ok (.bipush 6, 2) := by decide +kernel
theorem dX9_joined_26 : decode cX9_joined 26 = .ok (.if_icmp .ge 16, 3) := by decide +kernel
theorem dX9_joined_29 : decode cX9_joined 29 = .ok (.aload_n 0, 1) := by decide +kernel
theorem dX9_joined_30 : decode cX9_joined 30 = .ok (.iload_n 3, 1) := by decide +kernel
theorem dX9_joined_31 : decode cX9_joined 31 = .ok (.iload_n 2, 1) := by decide +kernel
theorem dX9_joined_32 : decode cX9_joined 32 = .ok (.invokevirtual 429, 3) := by decide +kernel
theorem dX9_joined_35 : decode cX9_joined 35 = .ok (.istore_n 3, 1) := by decide +kernel
theorem dX9_joined_36 : decode cX9_joined 36 = .ok (.iinc 4 1, 3) := by decide +kernel
theorem dX9_joined_39 : decode cX9_joined 39 = .ok (.goto (-17), 3) := by decide +kernel
theorem dX9_joined_42 : decode cX9_joined 42 = .ok (.iload_n 3, 1) := by decide +kernel
theorem dX9_joined_43 : decode cX9_joined 43 = .ok (.ireturn, 1) := by decide +kernel
theorem dX9_through_0 : decode cX9_through 0 = .ok (.aload_n 0, 1) := by decide +kernel
theorem dX9_through_1 : decode cX9_through 1 = .ok (.iload_n 1, 1) := by decide +kernel
theorem dX9_through_2 : decode cX9_through 2 = .ok (.iload_n 3, 1) := by decide +kernel
theorem dX9_through_3 : decode cX9_through 3 = .ok (.invokevirtual 393, 3) := by decide +kernel
theorem dX9_through_6 : decode cX9_through 6 = .ok (.ifCond .ne 39, 3) := by decide +kernel
theorem dX9_through_9 : decode cX9_through 9 = .ok (.aload_n 0, 1) := by decide +kernel
theorem dX9_through_10 : decode cX9_through 10 = .ok (.iload_n 2, 1) := by decide +kernel
theorem dX9_through_11 : decode cX9_through 11 = .ok (.invokevirtual 390, 3) := by decide +kernel
theorem dX9_through_14 : decode cX9_through 14 = .ok (.ifCond .ne 31, 3) := by decide +kernel
theorem dX9_through_17 : decode cX9_through 17 = .ok (.aload_n 0, 1) := by decide +kernel
theorem dX9_through_18 : decode cX9_through 18 = .ok (.aload_n 0, 1) := by decide +kernel
theorem dX9_through_19 : decode cX9_through 19 = .ok (.getfield 22, 3) := by decide +kernel
theorem dX9_through_22 : decode cX9_through 22 = .ok (.iload_n 2, 1) := by decide +kernel
theorem dX9_through_23 : decode cX9_through 23 = .ok (.iaload, 1) := by decide +kernel
theorem dX9_through_24 : decode cX9_through 24 = .ok (.aload_n 0, 1) := by decide +kernel
theorem dX9_through_25 : decode cX9_through 25 = .ok (.getfield 25, 3) := by decide +kernel
theorem dX9_through_28 : decode cX9_through 28 = .ok (.iload_n 1, 1) := by decide +kernel
theorem dX9_through_29 : decode cX9_through 29 = .ok (.iaload, 1) := by decide +kernel
theorem dX9_through_30 : decode cX9_through 30 = .ok (.if_icmp .eq 7, 3) := by decide +kernel
theorem dX9_through_33 : decode cX9_through 33 = .ok (.iconst 1, 1) := by decide +kernel
theorem dX9_through_34 : decode cX9_through 34 = .ok (.goto 4, 3) := by decide +kernel
theorem dX9_through_37 : decode cX9_through 37 = .ok (.iconst 0, 1) := by decide +kernel
theorem dX9_through_38 : decode cX9_through 38 = .ok (.iconst 3, 1) := by decide +kernel
theorem dX9_through_39 : decode cX9_through 39 = .ok (.invokevirtual 94, 3) := by decide +kernel
theorem dX9_through_42 : decode cX9_through 42 = .ok (.ifCond .eq 5, 3) := by decide +kernel
theorem dX9_through_45 : decode cX9_through 45 = .ok (.iconst 0, 1) := by decide +kernel
theorem dX9_through_46 : decode cX9_through 46 = .ok (.ireturn, 1) := by decide +kernel
theorem dX9_through_47 : decode cX9_through 47 = .ok (.aload_n 0, 1) := by decide +kernel
theorem dX9_through_48 : decode cX9_through 48 = .ok (.iload_n 2, 1) := by decide +kernel
theorem dX9_through_49 : decode cX9_through 49 = .ok (.aload_n 0, 1) := by decide +kernel
theorem dX9_through_50 : decode cX9_through 50 = .ok (.iload_n 1, 1) := by decide +kernel
theorem dX9_through_51 : decode cX9_through 51 = .ok (.iload_n 3, 1) := by decide +kernel
theorem dX9_through_52 : decode cX9_through 52 = .ok (.invokevirtual 396, 3) := by decide +kernel
theorem dX9_through_55 : decode cX9_through 55 = .ok (.invokevirtual 396, 3) := by decide +kernel
theorem dX9_through_58 : decode cX9_through 58 = .ok (.ireturn, 1) := by decide +kernel
theorem dX9_account_0 : decode cX9_account 0 = .ok (.aload_n 0, 1) := by decide +kernel
theorem dX9_account_1 : decode cX9_account 1 = .ok (.invokevirtual 272, 3) := by decide +kernel
theorem dX9_account_4 : decode cX9_account 4 = .ok (.ifCond .ne 25, 3) := by decide +kernel
theorem dX9_account_7 : decode cX9_account 7 = .ok (.aload_n 0, 1) := by decide +kernel
theorem dX9_account_8 : decode cX9_account 8 = .ok (.iload_n 1, 1) := by decide +kernel
theorem dX9_account_9 : decode cX9_account 9 = .ok (.iconst 0, 1) := by decide +kernel
theorem dX9_account_10 : decode cX9_account 10 = .ok (.iconst 2, 1) := by decide +kernel
theorem dX9_account_11 : decode cX9_account 11 = .ok (.invokestatic 152, 3) := by decide +kernel
theorem dX9_account_14 : decode cX9_account 14 = .ok (.ifCond .ne 7, 3) := by decide +kernel
theorem dX9_account_17 : decode cX9_account 17 = .ok (.iconst 1, 1) := by decide +kernel
theorem dX9_account_18 : decode cX9_account 18 = .ok (.goto 4, 3) := by decide +kernel
theorem dX9_account_21 : decode cX9_account 21 = .ok (.iconst 0, 1) := by decide +kernel
theorem dX9_account_22 : decode cX9_account 22 = .ok (.iconst 2, 1) := by decide +kernel
theorem dX9_account_23 : decode cX9_account 23 = .ok (.invokevirtual 94, 3) := by decide +kernel
theorem dX9_account_26 : decode cX9_account 26 = .ok (.ifCond .eq 7, 3) := by decide +kernel
theorem dX9_account_29 : decode cX9_account 29 = .ok (.iconst 0, 1) := by decide +kernel
theorem dX9_account_30 : decode cX9_account 30 = .ok (.goto 13, 3) := by decide +kernel
theorem dX9_account_33 : decode cX9_account 33 = .ok (.aload_n 0, 1) := by decide +kernel
theorem dX9_account_34 : decode cX9_account 34 = .ok (.getfield 31, 3) := by decide +kernel
theorem dX9_account_37 : decode cX9_account 37 = .ok (.sipush 560, 3) := by decide +kernel
theorem dX9_account_40 : decode cX9_account 40 = .ok (.iload_n 1, 1) := by decide +kernel
theorem dX9_account_41 : decode cX9_account 41 = .ok (.iadd, 1) := by decide +kernel
theorem dX9_account_42 : decode cX9_account 42 = .ok (.iaload, 1) := by decide +kernel
theorem dX9_account_43 : decode cX9_account 43 = .ok (.ireturn, 1) := by decide +kernel
theorem dX9_says_0 : decode cX9_says 0 = .ok (.aload_n 0, 1) := by decide +kernel
theorem dX9_says_1 : decode cX9_says 1 = .ok (.getfield 84, 3) := by decide +kernel
theorem dX9_says_4 : decode cX9_says 4 = .ok (.aload_n 0, 1) := by decide +kernel
theorem dX9_says_5 : decode cX9_says 5 = .ok (.getfield 432, 3) := by decide +kernel
theorem dX9_says_8 : decode cX9_says 8 = .ok (.iload_n 1, 1) := by decide +kernel
theorem dX9_says_9 : decode cX9_says 9 = .ok (.iastore, 1) := by decide +kernel
theorem dX9_says_10 : decode cX9_says 10 = .ok (.aload_n 0, 1) := by decide +kernel
theorem dX9_says_11 : decode cX9_says 11 = .ok (.dup, 1) := by decide +kernel
theorem dX9_says_12 : decode cX9_says 12 = .ok (.getfield 432, 3) := by decide +kernel
theorem dX9_says_15 : decode cX9_says 15 = .ok (.iconst 1, 1) := by decide +kernel
theorem dX9_says_16 : decode cX9_says 16 = .ok (.iadd, 1) := by decide +kernel
theorem dX9_says_17 : decode cX9_says 17 = .ok (.putfield 432, 3) := by decide +kernel
theorem dX9_says_20 : decode cX9_says 20 = .ok (.return_, 1) := by decide +kernel
theorem dX9_writeModule_0 : decode cX9_writeModule 0 = .ok (.aload_n 0, 1) := by decide +kernel
theorem dX9_writeModule_1 : decode cX9_writeModule 1 = .ok (.iload_n 1, 1) := by decide +kernel
theorem dX9_writeModule_2 : decode cX9_writeModule 2 = .ok (.invokevirtual 308, 3) := by decide +kernel
theorem dX9_writeModule_5 : decode cX9_writeModule 5 = .ok (.ifCond .eq 5, 3) := by decide +kernel
theorem dX9_writeModule_8 : decode cX9_writeModule 8 = .ok (.iconst 0, 1) := by decide +kernel
theorem dX9_writeModule_9 : decode cX9_writeModule 9 = .ok (.ireturn, 1) := by decide +kernel
theorem dX9_writeModule_10 : decode cX9_writeModule 10 = .ok (.aload_n 0, 1) := by decide +kernel
theorem dX9_writeModule_11 : decode cX9_writeModule 11 = .ok (.iconst 0, 1) := by decide +kernel
theorem dX9_writeModule_12 : decode cX9_writeModule 12 = .ok (.putfield 432, 3) := by decide +kernel
theorem dX9_writeModule_15 : decode cX9_writeModule 15 = .ok (.iconst 0, 1) := by decide +kernel
theorem dX9_writeModule_16 : decode cX9_writeModule 16 = .ok (.istore_n 2, 1) := by decide +kernel
theorem dX9_writeModule_17 : decode cX9_writeModule 17 = .ok (.iload_n 2, 1) := by decide +kernel
theorem dX9_writeModule_18 : decode cX9_writeModule 18 = .ok (.aload_n 0, 1) := by decide +kernel
theorem dX9_writeModule_19 : decode cX9_writeModule 19 = .ok (.bipush 6, 2) := by decide +kernel
theorem dX9_writeModule_21 : decode cX9_writeModule 21 = .ok (.iload_n 1, 1) := by decide +kernel
theorem dX9_writeModule_22 : decode cX9_writeModule 22 = .ok (.iadd, 1) := by decide +kernel
theorem dX9_writeModule_23 : decode cX9_writeModule 23 = .ok (.invokevirtual 276, 3) := by decide +kernel
theorem dX9_writeModule_26 : decode cX9_writeModule 26 = .ok (.if_icmp .ge 27, 3) := by decide +kernel
theorem dX9_writeModule_29 : decode cX9_writeModule 29 = .ok (.aload_n 0, 1) := by decide +kernel
theorem dX9_writeModule_30 : decode cX9_writeModule 30 = .ok (.aload_n 0, 1) := by decide +kernel
theorem dX9_writeModule_31 : decode cX9_writeModule 31 = .ok (.getfield 28, 3) := by decide +kernel
theorem dX9_writeModule_34 : decode cX9_writeModule 34 = .ok (.bipush 10, 2) := by decide +kernel
theorem dX9_writeModule_36 : decode cX9_writeModule 36 = .ok (.bipush 6, 2) := by decide +kernel
theorem dX9_writeModule_38 : decode cX9_writeModule 38 = .ok (.iload_n 1, 1) := by decide +kernel
theorem dX9_writeModule_39 : decode cX9_writeModule 39 = .ok (.iadd, 1) := by decide +kernel
theorem dX9_writeModule_40 : decode cX9_writeModule 40 = .ok (.imul, 1) := by decide +kernel
theorem dX9_writeModule_41 : decode cX9_writeModule 41 = .ok (.iload_n 2, 1) := by decide +kernel
theorem dX9_writeModule_42 : decode cX9_writeModule 42 = .ok (.iadd, 1) := by decide +kernel
theorem dX9_writeModule_43 : decode cX9_writeModule 43 = .ok (.iaload, 1) := by decide +kernel
theorem dX9_writeModule_44 : decode cX9_writeModule 44 = .ok (.invokevirtual 435, 3) := by decide +kernel
theorem dX9_writeModule_47 : decode cX9_writeModule 47 = .ok (.iinc 2 1, 3) := by decide +kernel
theorem dX9_writeModule_50 : decode cX9_writeModule 50 = .ok (.goto (-33), 3) := by decide +kernel
theorem dX9_writeModule_53 : decode cX9_writeModule 53 = .ok (.iconst 0, 1) := by decide +kernel
theorem dX9_writeModule_54 : decode cX9_writeModule 54 = .ok (.istore_n 2, 1) := by decide +kernel
theorem dX9_writeModule_55 : decode cX9_writeModule 55 = .ok (.iload_n 2, 1) := by decide +kernel
theorem dX9_writeModule_56 : decode cX9_writeModule 56 = .ok (.aload_n 0, 1) := by decide +kernel
theorem dX9_writeModule_57 : decode cX9_writeModule 57 = .ok (.iload_n 1, 1) := by decide +kernel
theorem dX9_writeModule_58 : decode cX9_writeModule 58 = .ok (.invokevirtual 323, 3) := by decide +kernel
theorem dX9_writeModule_61 : decode cX9_writeModule 61 = .ok (.if_icmp .ge 37, 3) := by decide +kernel
theorem dX9_writeModule_64 : decode cX9_writeModule 64 = .ok (.aload_n 0, 1) := by decide +kernel
theorem dX9_writeModule_65 : decode cX9_writeModule 65 = .ok (.iload_n 2, 1) := by decide +kernel
theorem dX9_writeModule_66 : decode cX9_writeModule 66 = .ok (.ifCond .ne 8, 3) := by decide +kernel
theorem dX9_writeModule_69 : decode cX9_writeModule 69 = .ok (.bipush 58, 2) := by decide +kernel
theorem dX9_writeModule_71 : decode cX9_writeModule 71 = .ok (.goto 5, 3) := by decide +kernel
theorem dX9_writeModule_74 : decode cX9_writeModule 74 = .ok (.bipush 44, 2) := by decide +kernel
theorem dX9_writeModule_76 : decode cX9_writeModule 76 = .ok (.invokevirtual 435, 3) := by decide +kernel
theorem dX9_writeModule_79 : decode cX9_writeModule 79 = .ok (.aload_n 0, 1) := by decide +kernel
theorem dX9_writeModule_80 : decode cX9_writeModule 80 = .ok (.bipush 48, 2) := by decide +kernel
theorem dX9_writeModule_82 : decode cX9_writeModule 82 = .ok (.aload_n 0, 1) := by decide +kernel
theorem dX9_writeModule_83 : decode cX9_writeModule 83 = .ok (.iload_n 1, 1) := by decide +kernel
theorem dX9_writeModule_84 : decode cX9_writeModule 84 = .ok (.iload_n 2, 1) := by decide +kernel
theorem dX9_writeModule_85 : decode cX9_writeModule 85 = .ok (.invokevirtual 314, 3) := by decide +kernel
theorem dX9_writeModule_88 : decode cX9_writeModule 88 = .ok (.iadd, 1) := by decide +kernel
theorem dX9_writeModule_89 : decode cX9_writeModule 89 = .ok (.invokevirtual 435, 3) := by decide +kernel
theorem dX9_writeModule_92 : decode cX9_writeModule 92 = .ok (.iinc 2 1, 3) := by decide +kernel
theorem dX9_writeModule_95 : decode cX9_writeModule 95 = .ok (.goto (-40), 3) := by decide +kernel
theorem dX9_writeModule_98 : decode cX9_writeModule 98 = .ok (.aload_n 0, 1) := by decide +kernel
theorem dX9_writeModule_99 : decode cX9_writeModule 99 = .ok (.iload_n 1, 1) := by decide +kernel
theorem dX9_writeModule_100 : decode cX9_writeModule 100 = .ok (.invokevirtual 350, 3) := by decide +kernel
theorem dX9_writeModule_103 : decode cX9_writeModule 103 = .ok (.istore_n 2, 1) := by decide +kernel
theorem dX9_writeModule_104 : decode cX9_writeModule 104 = .ok (.iload_n 2, 1) := by decide +kernel
theorem dX9_writeModule_105 : decode cX9_writeModule 105 = .ok (.ifCond .eq 17, 3) := by decide +kernel
theorem dX9_writeModule_108 : decode cX9_writeModule 108 = .ok (.aload_n 0, 1) := by decide +kernel
theorem dX9_writeModule_109 : decode cX9_writeModule 109 = .ok (.bipush 59, 2) := by decide +kernel
theorem dX9_writeModule_111 : decode cX9_writeModule 111 = .ok (.invokevirtual 435, 3) := by decide +kernel
theorem dX9_writeModule_114 : decode cX9_writeModule 114 = .ok (.aload_n 0, 1) := by decide +kernel
theorem dX9_writeModule_115 : decode cX9_writeModule 115 = .ok (.bipush 48, 2) := by decide +kernel
theorem dX9_writeModule_117 : decode cX9_writeModule 117 = .ok (.iload_n 2, 1) := by decide +kernel
theorem dX9_writeModule_118 : decode cX9_writeModule 118 = .ok (.iadd, 1) := by decide +kernel
theorem dX9_writeModule_119 : decode cX9_writeModule 119 = .ok (.invokevirtual 435, 3) := by decide +kernel
theorem dX9_writeModule_122 : decode cX9_writeModule 122 = .ok (.aload_n 0, 1) := by decide +kernel
theorem dX9_writeModule_123 : decode cX9_writeModule 123 = .ok (.getfield 432, 3) := by decide +kernel
theorem dX9_writeModule_126 : decode cX9_writeModule 126 = .ok (.ireturn, 1) := by decide +kernel
theorem dX9_writeTable_0 : decode cX9_writeTable 0 = .ok (.aload_n 0, 1) := by decide +kernel
theorem dX9_writeTable_1 : decode cX9_writeTable 1 = .ok (.iload_n 1, 1) := by decide +kernel
theorem dX9_writeTable_2 : decode cX9_writeTable 2 = .ok (.invokevirtual 279, 3) := by decide +kernel
theorem dX9_writeTable_5 : decode cX9_writeTable 5 = .ok (.ifCond .eq 5, 3) := by decide +kernel
theorem dX9_writeTable_8 : decode cX9_writeTable 8 = .ok (.iconst 0, 1) := by decide +kernel
theorem dX9_writeTable_9 : decode cX9_writeTable 9 = .ok (.ireturn, 1) := by decide +kernel
theorem dX9_writeTable_10 : decode cX9_writeTable 10 = .ok (.aload_n 0, 1) := by decide +kernel
theorem dX9_writeTable_11 : decode cX9_writeTable 11 = .ok (.iconst 0, 1) := by decide +kernel
theorem dX9_writeTable_12 : decode cX9_writeTable 12 = .ok (.putfield 432, 3) := by decide +kernel
theorem dX9_writeTable_15 : decode cX9_writeTable 15 = .ok (.iconst 0, 1) := by decide +kernel
theorem dX9_writeTable_16 : decode cX9_writeTable 16 = .ok (.istore_n 2, 1) := by decide +kernel
theorem dX9_writeTable_17 : decode cX9_writeTable 17 = .ok (.iload_n 2, 1) := by decide +kernel
theorem dX9_writeTable_18 : decode cX9_writeTable 18 = .ok (.aload_n 0, 1) := by decide +kernel
theorem dX9_writeTable_19 : decode cX9_writeTable 19 = .ok (.getfield 7, 3) := by decide +kernel
theorem dX9_writeTable_22 : decode cX9_writeTable 22 = .ok (.iload_n 1, 1) := by decide +kernel
theorem dX9_writeTable_23 : decode cX9_writeTable 23 = .ok (.iaload, 1) := by decide +kernel
theorem dX9_writeTable_24 : decode cX9_writeTable 24 = .ok (.if_icmp .ge 51, 3) := by decide +kernel
theorem dX9_writeTable_27 : decode cX9_writeTable 27 = .ok (.iload_n 2, 1) := by decide +kernel
theorem dX9_writeTable_28 : decode cX9_writeTable 28 = .ok (.ifCond .le 9, 3) := by decide +kernel
theorem dX9_writeTable_31 : decode cX9_writeTable 31 = .ok (.aload_n 0, 1) := by decide +kernel
theorem dX9_writeTable_32 : decode cX9_writeTable 32 = .ok (.bipush 47, 2) := by decide +kernel
theorem dX9_writeTable_34 : decode cX9_writeTable 34 = .ok (.invokevirtual 435, 3) := by decide +kernel
theorem dX9_writeTable_37 : decode cX9_writeTable 37 = .ok (.iconst 0, 1) := by decide +kernel
theorem dX9_writeTable_38 : decode cX9_writeTable 38 = .ok (.istore_n 3, 1) := by decide +kernel
theorem dX9_writeTable_39 : decode cX9_writeTable 39 = .ok (.iload_n 3, 1) := by decide +kernel
theorem dX9_writeTable_40 : decode cX9_writeTable 40 = .ok (.aload_n 0, 1) := by decide +kernel
theorem dX9_writeTable_41 : decode cX9_writeTable 41 = .ok (.getfield 7, 3) := by decide +kernel
theorem dX9_writeTable_44 : decode cX9_writeTable 44 = .ok (.iload_n 1, 1) := by decide +kernel
theorem dX9_writeTable_45 : decode cX9_writeTable 45 = .ok (.iaload, 1) := by decide +kernel
theorem dX9_writeTable_46 : decode cX9_writeTable 46 = .ok (.if_icmp .ge 23, 3) := by decide +kernel
theorem dX9_writeTable_49 : decode cX9_writeTable 49 = .ok (.aload_n 0, 1) := by decide +kernel
theorem dX9_writeTable_50 : decode cX9_writeTable 50 = .ok (.bipush 48, 2) := by decide +kernel
theorem dX9_writeTable_52 : decode cX9_writeTable 52 = .ok (.aload_n 0, 1) := by decide +kernel
theorem dX9_writeTable_53 : decode cX9_writeTable 53 = .ok (.iload_n 1, 1) := by decide +kernel
theorem dX9_writeTable_54 : decode cX9_writeTable 54 = .ok (.iload_n 2, 1) := by decide +kernel
theorem dX9_writeTable_55 : decode cX9_writeTable 55 = .ok (.iload_n 3, 1) := by decide +kernel
theorem dX9_writeTable_56 : decode cX9_writeTable 56 = .ok (.invokevirtual 285, 3) := by decide +kernel
theorem dX9_writeTable_59 : decode cX9_writeTable 59 = .ok (.iadd, 1) := by decide +kernel
theorem dX9_writeTable_60 : decode cX9_writeTable 60 = .ok (.invokevirtual 435, 3) := by decide +kernel
theorem dX9_writeTable_63 : decode cX9_writeTable 63 = .ok (.iinc 3 1, 3) := by decide +kernel
theorem dX9_writeTable_66 : decode cX9_writeTable 66 = .ok (.goto (-27), 3) := by decide +kernel
theorem dX9_writeTable_69 : decode cX9_writeTable 69 = .ok (.iinc 2 1, 3) := by decide +kernel
theorem dX9_writeTable_72 : decode cX9_writeTable 72 = .ok (.goto (-55), 3) := by decide +kernel
theorem dX9_writeTable_75 : decode cX9_writeTable 75 = .ok (.aload_n 0, 1) := by decide +kernel
theorem dX9_writeTable_76 : decode cX9_writeTable 76 = .ok (.getfield 432, 3) := by decide +kernel
theorem dX9_writeTable_79 : decode cX9_writeTable 79 = .ok (.ireturn, 1) := by decide +kernel
theorem dX9_textByte_0 : decode cX9_textByte 0 = .ok (.aload_n 0, 1) := by decide +kernel
theorem dX9_textByte_1 : decode cX9_textByte 1 = .ok (.iconst 0, 1) := by decide +kernel
theorem dX9_textByte_2 : decode cX9_textByte 2 = .ok (.putfield 87, 3) := by decide +kernel
theorem dX9_textByte_5 : decode cX9_textByte 5 = .ok (.aload_n 0, 1) := by decide +kernel
theorem dX9_textByte_6 : decode cX9_textByte 6 = .ok (.iload_n 1, 1) := by decide +kernel
theorem dX9_textByte_7 : decode cX9_textByte 7 = .ok (.iconst 0, 1) := by decide +kernel
theorem dX9_textByte_8 : decode cX9_textByte 8 = .ok (.aload_n 0, 1) := by decide +kernel
theorem dX9_textByte_9 : decode cX9_textByte 9 = .ok (.getfield 432, 3) := by decide +kernel
theorem dX9_textByte_12 : decode cX9_textByte 12 = .ok (.iconst 1, 1) := by decide +kernel
theorem dX9_textByte_13 : decode cX9_textByte 13 = .ok (.isub, 1) := by decide +kernel
theorem dX9_textByte_14 : decode cX9_textByte 14 = .ok (.invokestatic 152, 3) := by decide +kernel
theorem dX9_textByte_17 : decode cX9_textByte 17 = .ok (.ifCond .ne 7, 3) := by decide +kernel
theorem dX9_textByte_20 : decode cX9_textByte 20 = .ok (.iconst 1, 1) := by decide +kernel
theorem dX9_textByte_21 : decode cX9_textByte 21 = .ok (.goto 4, 3) := by decide +kernel
theorem dX9_textByte_24 : decode cX9_textByte 24 = .ok (.iconst 0, 1) := by decide +kernel
theorem dX9_textByte_25 : decode cX9_textByte 25 = .ok (.iconst 1, 1) := by decide +kernel
theorem dX9_textByte_26 : decode cX9_textByte 26 = .ok (.invokevirtual 94, 3) := by decide +kernel
theorem dX9_textByte_29 : decode cX9_textByte 29 = .ok (.ifCond .eq 7, 3) := by decide +kernel
theorem dX9_textByte_32 : decode cX9_textByte 32 = .ok (.iconst 0, 1) := by decide +kernel
theorem dX9_textByte_33 : decode cX9_textByte 33 = .ok (.goto 9, 3) := by decide +kernel
theorem dX9_textByte_36 : decode cX9_textByte 36 = .ok (.aload_n 0, 1) := by decide +kernel
theorem dX9_textByte_37 : decode cX9_textByte 37 = .ok (.getfield 84, 3) := by decide +kernel
theorem dX9_textByte_40 : decode cX9_textByte 40 = .ok (.iload_n 1, 1) := by decide +kernel
theorem dX9_textByte_41 : decode cX9_textByte 41 = .ok (.iaload, 1) := by decide +kernel
theorem dX9_textByte_42 : decode cX9_textByte 42 = .ok (.ireturn, 1) := by decide +kernel
theorem dX9_keeps_0 : decode cX9_keeps 0 = .ok (.iconst 0, 1) := by decide +kernel
theorem dX9_keeps_1 : decode cX9_keeps 1 = .ok (.istore_n 2, 1) := by decide +kernel
theorem dX9_keeps_2 : decode cX9_keeps 2 = .ok (.iload_n 2, 1) := by decide +kernel
theorem dX9_keeps_3 : decode cX9_keeps 3 = .ok (.sipush 563, 3) := by decide +kernel
theorem dX9_keeps_6 : decode cX9_keeps 6 = .ok (.if_icmp .ge 27, 3) := by decide +kernel
theorem dX9_keeps_9 : decode cX9_keeps 9 = .ok (.aload_n 0, 1) := by decide +kernel
theorem dX9_keeps_10 : decode cX9_keeps 10 = .ok (.getfield 34, 3) := by decide +kernel
theorem dX9_keeps_13 : decode cX9_keeps 13 = .ok (.sipush 563, 3) := by decide +kernel
theorem dX9_keeps_16 : decode cX9_keeps 16 = .ok (.iload_n 1, 1) := by decide +kernel
theorem dX9_keeps_17 : decode cX9_keeps 17 = .ok (.imul, 1) := by decide +kernel
theorem dX9_keeps_18 : decode cX9_keeps 18 = .ok (.iload_n 2, 1) := by decide +kernel
theorem dX9_keeps_19 : decode cX9_keeps 19 = .ok (.iadd, 1) := by decide +kernel
theorem dX9_keeps_20 : decode cX9_keeps 20 = .ok (.aload_n 0, 1) := by decide +kernel
theorem dX9_keeps_21 : decode cX9_keeps 21 = .ok (.getfield 31, 3) := by decide +kernel
theorem dX9_keeps_24 : decode cX9_keeps 24 = .ok (.iload_n 2, 1) := by decide +kernel
theorem dX9_keeps_25 : decode cX9_keeps 25 = .ok (.iaload, 1) := by decide +kernel
theorem dX9_keeps_26 : decode cX9_keeps 26 = .ok (.iastore, 1) := by decide +kernel
theorem dX9_keeps_27 : decode cX9_keeps 27 = .ok (.iinc 2 1, 3) := by decide +kernel
theorem dX9_keeps_30 : decode cX9_keeps 30 = .ok (.goto (-28), 3) := by decide +kernel
theorem dX9_keeps_33 : decode cX9_keeps 33 = .ok (.return_, 1) := by decide +kernel
theorem dX9_fetches_0 : decode cX9_fetches 0 = .ok (.iconst 0, 1) := by decide +kernel
theorem dX9_fetches_1 : decode cX9_fetches 1 = .ok (.istore_n 2, 1) := by decide +kernel
theorem dX9_fetches_2 : decode cX9_fetches 2 = .ok (.iload_n 2, 1) := by decide +kernel
theorem dX9_fetches_3 : decode cX9_fetches 3 = .ok (.sipush 563, 3) := by decide +kernel
theorem dX9_fetches_6 : decode cX9_fetches 6 = .ok (.if_icmp .ge 27, 3) := by decide +kernel
theorem dX9_fetches_9 : decode cX9_fetches 9 = .ok (.aload_n 0, 1) := by decide +kernel
theorem dX9_fetches_10 : decode cX9_fetches 10 = .ok (.getfield 31, 3) := by decide +kernel
theorem dX9_fetches_13 : decode cX9_fetches 13 = .ok (.iload_n 2, 1) := by decide +kernel
theorem dX9_fetches_14 : decode cX9_fetches 14 = .ok (.aload_n 0, 1) := by decide +kernel
theorem dX9_fetches_15 : decode cX9_fetches 15 = .ok (.getfield 34, 3) := by decide +kernel
theorem dX9_fetches_18 : decode cX9_fetches 18 = .ok (.sipush 563, 3) := by decide +kernel
theorem dX9_fetches_21 : decode cX9_fetches 21 = .ok (.iload_n 1, 1) := by decide +kernel
theorem dX9_fetches_22 : decode cX9_fetches 22 = .ok (.imul, 1) := by decide +kernel
theorem dX9_fetches_23 : decode cX9_fetches 23 = .ok (.iload_n 2, 1) := by decide +kernel
theorem dX9_fetches_24 : decode cX9_fetches 24 = .ok (.iadd, 1) := by decide +kernel
theorem dX9_fetches_25 : decode cX9_fetches 25 = .ok (.iaload, 1) := by decide +kernel
theorem dX9_fetches_26 : decode cX9_fetches 26 = .ok (.iastore, 1) := by decide +kernel
theorem dX9_fetches_27 : decode cX9_fetches 27 = .ok (.iinc 2 1, 3) := by decide +kernel
theorem dX9_fetches_30 : decode cX9_fetches 30 = .ok (.goto (-28), 3) := by decide +kernel
theorem dX9_fetches_33 : decode cX9_fetches 33 = .ok (.return_, 1) := by decide +kernel
theorem dX9_begins_0 : decode cX9_begins 0 = .ok (.aload_n 0, 1) := by decide +kernel
theorem dX9_begins_1 : decode cX9_begins 1 = .ok (.getfield 269, 3) := by decide +kernel
theorem dX9_begins_4 : decode cX9_begins 4 = .ok (.bipush 8, 2) := by decide +kernel
theorem dX9_begins_6 : decode cX9_begins 6 = .ok (.if_icmp .ne 44, 3) := by decide +kernel
theorem dX9_begins_9 : decode cX9_begins 9 = .ok (.iconst 0, 1) := by decide +kernel
theorem dX9_begins_10 : decode cX9_begins 10 = .ok (.istore_n 1, 1) := by decide +kernel
theorem dX9_begins_11 : decode cX9_begins 11 = .ok (.iload_n 1, 1) := by decide +kernel
theorem dX9_begins_12 : decode cX9_begins 12 = .ok (.sipush 3941, 3) := by decide +kernel
theorem dX9_begins_15 : decode cX9_begins 15 = .ok (.if_icmp .ge 25, 3) := by decide +kernel
theorem dX9_begins_18 : decode cX9_begins 18 = .ok (.aload_n 0, 1) := by decide +kernel
theorem dX9_begins_19 : decode cX9_begins 19 = .ok (.getfield 34, 3) := by decide +kernel
theorem dX9_begins_22 : decode cX9_begins 22 = .ok (.iload_n 1, 1) := by decide +kernel
theorem dX9_begins_23 : decode cX9_begins 23 = .ok (.aload_n 0, 1) := by decide +kernel
theorem dX9_begins_24 : decode cX9_begins 24 = .ok (.getfield 34, 3) := by decide +kernel
theorem dX9_begins_27 : decode cX9_begins 27 = .ok (.iload_n 1, 1) := by decide +kernel
theorem dX9_begins_28 : decode cX9_begins 28 = .ok (.sipush 563, 3) := by decide +kernel
theorem dX9_begins_31 : decode cX9_begins 31 = .ok (.iadd, 1) := by decide +kernel
theorem dX9_begins_32 : decode cX9_begins 32 = .ok (.iaload, 1) := by decide +kernel
theorem dX9_begins_33 : decode cX9_begins 33 = .ok (.iastore, 1) := by decide +kernel
theorem dX9_begins_34 : decode cX9_begins 34 = .ok (.iinc 1 1, 3) := by decide +kernel
theorem dX9_begins_37 : decode cX9_begins 37 = .ok (.goto (-26), 3) := by decide +kernel
theorem dX9_begins_40 : decode cX9_begins 40 = .ok (.aload_n 0, 1) := by decide +kernel
theorem dX9_begins_41 : decode cX9_begins 41 = .ok (.dup, 1) := by decide +kernel
theorem dX9_begins_42 : decode cX9_begins 42 = .ok (.getfield 269, 3) := by decide +kernel
theorem dX9_begins_45 : decode cX9_begins 45 = .ok (.iconst 1, 1) := by decide +kernel
theorem dX9_begins_46 : decode cX9_begins 46 = .ok (.isub, 1) := by decide +kernel
theorem dX9_begins_47 : decode cX9_begins 47 = .ok (.putfield 269, 3) := by decide +kernel
theorem dX9_begins_50 : decode cX9_begins 50 = .ok (.aload_n 0, 1) := by decide +kernel
theorem dX9_begins_51 : decode cX9_begins 51 = .ok (.aload_n 0, 1) := by decide +kernel
theorem dX9_begins_52 : decode cX9_begins 52 = .ok (.getfield 269, 3) := by decide +kernel
theorem dX9_begins_55 : decode cX9_begins 55 = .ok (.invokevirtual 438, 3) := by decide +kernel
theorem dX9_begins_58 : decode cX9_begins 58 = .ok (.aload_n 0, 1) := by decide +kernel
theorem dX9_begins_59 : decode cX9_begins 59 = .ok (.dup, 1) := by decide +kernel
theorem dX9_begins_60 : decode cX9_begins 60 = .ok (.getfield 269, 3) := by decide +kernel
theorem dX9_begins_63 : decode cX9_begins 63 = .ok (.iconst 1, 1) := by decide +kernel
theorem dX9_begins_64 : decode cX9_begins 64 = .ok (.iadd, 1) := by decide +kernel
theorem dX9_begins_65 : decode cX9_begins 65 = .ok (.putfield 269, 3) := by decide +kernel
theorem dX9_begins_68 : decode cX9_begins 68 = .ok (.aload_n 0, 1) := by decide +kernel
theorem dX9_begins_69 : decode cX9_begins 69 = .ok (.getfield 31, 3) := by decide +kernel
theorem dX9_begins_72 : decode cX9_begins 72 = .ok (.sipush 560, 3) := by decide +kernel
theorem dX9_begins_75 : decode cX9_begins 75 = .ok (.dup2, 1) := by decide +kernel
theorem dX9_begins_76 : decode cX9_begins 76 = .ok (.iaload, 1) := by decide +kernel
theorem dX9_begins_77 : decode cX9_begins 77 = .ok (.iconst 1, 1) := by decide +kernel
theorem dX9_begins_78 : decode cX9_begins 78 = .ok (.iadd, 1) := by decide +kernel
theorem dX9_begins_79 : decode cX9_begins 79 = .ok (.iastore, 1) := by decide +kernel
theorem dX9_begins_80 : decode cX9_begins 80 = .ok (.return_, 1) := by decide +kernel
theorem dX9_touches_0 : decode cX9_touches 0 = .ok (.aload_n 0, 1) := by decide +kernel
theorem dX9_touches_1 : decode cX9_touches 1 = .ok (.invokevirtual 441, 3) := by decide +kernel
theorem dX9_touches_4 : decode cX9_touches 4 = .ok (.aload_n 0, 1) := by decide +kernel
theorem dX9_touches_5 : decode cX9_touches 5 = .ok (.aload_n 0, 1) := by decide +kernel
theorem dX9_touches_6 : decode cX9_touches 6 = .ok (.iload_n 1, 1) := by decide +kernel
theorem dX9_touches_7 : decode cX9_touches 7 = .ok (.invokevirtual 350, 3) := by decide +kernel
theorem dX9_touches_10 : decode cX9_touches 10 = .ok (.ifCond .ne 7, 3) := by decide +kernel
theorem dX9_touches_13 : decode cX9_touches 13 = .ok (.iconst 1, 1) := by decide +kernel
theorem dX9_touches_14 : decode cX9_touches 14 = .ok (.goto 4, 3) := by decide +kernel
theorem dX9_touches_17 : decode cX9_touches 17 = .ok (.iconst 0, 1) := by decide +kernel
theorem dX9_touches_18 : decode cX9_touches 18 = .ok (.putfield 444, 3) := by decide +kernel
theorem dX9_touches_21 : decode cX9_touches 21 = .ok (.return_, 1) := by decide +kernel
theorem dX9_ends_0 : decode cX9_ends 0 = .ok (.aload_n 0, 1) := by decide +kernel
theorem dX9_ends_1 : decode cX9_ends 1 = .ok (.iload_n 1, 1) := by decide +kernel
theorem dX9_ends_2 : decode cX9_ends 2 = .ok (.invokevirtual 350, 3) := by decide +kernel
theorem dX9_ends_5 : decode cX9_ends 5 = .ok (.ifCond .ne 7, 3) := by decide +kernel
theorem dX9_ends_8 : decode cX9_ends 8 = .ok (.iconst 1, 1) := by decide +kernel
theorem dX9_ends_9 : decode cX9_ends 9 = .ok (.goto 4, 3) := by decide +kernel
theorem dX9_ends_12 : decode cX9_ends 12 = .ok (.iconst 0, 1) := by decide +kernel
theorem dX9_ends_13 : decode cX9_ends 13 = .ok (.istore_n 2, 1) := by decide +kernel
theorem dX9_ends_14 : decode cX9_ends 14 = .ok (.aload_n 0, 1) := by decide +kernel
theorem dX9_ends_15 : decode cX9_ends 15 = .ok (.getfield 31, 3) := by decide +kernel
theorem dX9_ends_18 : decode cX9_ends 18 = .ok (.sipush 561, 3) := by decide +kernel
theorem dX9_ends_21 : decode cX9_ends 21 = .ok (.dup2, 1) := by decide +kernel
theorem dX9_ends_22 : decode cX9_ends 22 = .ok (.iaload, 1) := by decide +kernel
theorem dX9_ends_23 : decode cX9_ends 23 = .ok (.aload_n 0, 1) := by decide +kernel
theorem dX9_ends_24 : decode cX9_ends 24 = .ok (.getfield 444, 3) := by decide +kernel
theorem dX9_ends_27 : decode cX9_ends 27 = .ok (.ifCond .eq 11, 3) := by decide +kernel
theorem dX9_ends_30 : decode cX9_ends 30 = .ok (.iload_n 2, 1) := by decide +kernel
theorem dX9_ends_31 : decode cX9_ends 31 = .ok (.ifCond .ne 7, 3) := by decide +kernel
theorem dX9_ends_34 : decode cX9_ends 34 = .ok (.iconst 1, 1) := by decide +kernel
theorem dX9_ends_35 : decode cX9_ends 35 = .ok (.goto 4, 3) := by decide +kernel
theorem dX9_ends_38 : decode cX9_ends 38 = .ok (.iconst 0, 1) := by decide +kernel
theorem dX9_ends_39 : decode cX9_ends 39 = .ok (.invokestatic 207, 3) := by decide +kernel
theorem dX9_ends_42 : decode cX9_ends 42 = .ok (.iadd, 1) := by decide +kernel
theorem dX9_ends_43 : decode cX9_ends 43 = .ok (.iastore, 1) := by decide +kernel
theorem dX9_ends_44 : decode cX9_ends 44 = .ok (.aload_n 0, 1) := by decide +kernel
theorem dX9_ends_45 : decode cX9_ends 45 = .ok (.getfield 31, 3) := by decide +kernel
theorem dX9_ends_48 : decode cX9_ends 48 = .ok (.sipush 562, 3) := by decide +kernel
theorem dX9_ends_51 : decode cX9_ends 51 = .ok (.dup2, 1) := by decide +kernel
theorem dX9_ends_52 : decode cX9_ends 52 = .ok (.iaload, 1) := by decide +kernel
theorem dX9_ends_53 : decode cX9_ends 53 = .ok (.aload_n 0, 1) := by decide +kernel
theorem dX9_ends_54 : decode cX9_ends 54 = .ok (.getfield 444, 3) := by decide +kernel
theorem dX9_ends_57 : decode cX9_ends 57 = .ok (.ifCond .ne 11, 3) := by decide +kernel
theorem dX9_ends_60 : decode cX9_ends 60 = .ok (.iload_n 2, 1) := by decide +kernel
theorem dX9_ends_61 : decode cX9_ends 61 = .ok (.ifCond .eq 7, 3) := by decide +kernel
theorem dX9_ends_64 : decode cX9_ends 64 = .ok (.iconst 1, 1) := by decide +kernel
theorem dX9_ends_65 : decode cX9_ends 65 = .ok (.goto 4, 3) := by decide +kernel
theorem dX9_ends_68 : decode cX9_ends 68 = .ok (.iconst 0, 1) := by decide +kernel
theorem dX9_ends_69 : decode cX9_ends 69 = .ok (.invokestatic 207, 3) := by decide +kernel
theorem dX9_ends_72 : decode cX9_ends 72 = .ok (.iadd, 1) := by decide +kernel
theorem dX9_ends_73 : decode cX9_ends 73 = .ok (.iastore, 1) := by decide +kernel
theorem dX9_ends_74 : decode cX9_ends 74 = .ok (.return_, 1) := by decide +kernel
theorem dX9_setBoundary_0 : decode cX9_setBoundary 0 = .ok (.aload_n 0, 1) := by decide +kernel
theorem dX9_setBoundary_1 : decode cX9_setBoundary 1 = .ok (.iload_n 1, 1) := by decide +kernel
theorem dX9_setBoundary_2 : decode cX9_setBoundary 2 = .ok (.iload_n 2, 1) := by decide +kernel
theorem dX9_setBoundary_3 : decode cX9_setBoundary 3 = .ok (.invokevirtual 311, 3) := by decide +kernel
theorem dX9_setBoundary_6 : decode cX9_setBoundary 6 = .ok (.ifCond .ne 12, 3) := by decide +kernel
theorem dX9_setBoundary_9 : decode cX9_setBoundary 9 = .ok (.aload_n 0, 1) := by decide +kernel
theorem dX9_setBoundary_10 : decode cX9_setBoundary 10 = .ok (.iload_n 1, 1) := by decide +kernel
theorem dX9_setBoundary_11 : decode cX9_setBoundary 11 = .ok (.iload_n 3, 1) := by decide +kernel
theorem dX9_setBoundary_12 : decode cX9_setBoundary 12 = .ok (.invokevirtual 317, 3) := by decide +kernel
theorem dX9_setBoundary_15 : decode cX9_setBoundary 15 = .ok (.ifCond .eq 5, 3) := by decide +kernel
theorem dX9_setBoundary_18 : decode cX9_setBoundary 18 = .ok (.iconst 0, 1) := by decide +kernel
theorem dX9_setBoundary_19 : decode cX9_setBoundary 19 = .ok (.ireturn, 1) := by decide +kernel
theorem dX9_setBoundary_20 : decode cX9_setBoundary 20 = .ok (.aload_n 0, 1) := by decide +kernel
theorem dX9_setBoundary_21 : decode cX9_setBoundary 21 = .ok (.iload_n 1, 1) := by decide +kernel
theorem dX9_setBoundary_22 : decode cX9_setBoundary 22 = .ok (.invokevirtual 447, 3) := by decide +kernel
theorem dX9_setBoundary_25 : decode cX9_setBoundary 25 = .ok (.aload_n 0, 1) := by decide +kernel
theorem dX9_setBoundary_26 : decode cX9_setBoundary 26 = .ok (.iload_n 1, 1) := by decide +kernel
theorem dX9_setBoundary_27 : decode cX9_setBoundary 27 = .ok (.iload_n 2, 1) := by decide +kernel
theorem dX9_setBoundary_28 : decode cX9_setBoundary 28 = .ok (.invokevirtual 314, 3) := by decide +kernel
theorem dX9_setBoundary_31 : decode cX9_setBoundary 31 = .ok (.istore 4, 2) := by decide +kernel
theorem dX9_setBoundary_33 : decode cX9_setBoundary 33 = .ok (.aload_n 0, 1) := by decide +kernel
theorem dX9_setBoundary_34 : decode cX9_setBoundary 34 = .ok (.getfield 31, 3) := by decide +kernel
theorem dX9_setBoundary_37 : decode cX9_setBoundary 37 = .ok (.iconst 0, 1) := by decide +kernel
theorem dX9_setBoundary_38 : decode cX9_setBoundary 38 = .ok (.bipush 8, 2) := by decide +kernel
theorem dX9_setBoundary_40 : decode cX9_setBoundary 40 = .ok (.iload_n 1, 1) := by decide +kernel
theorem dX9_setBoundary_41 : decode cX9_setBoundary 41 = .ok (.imul, 1) := by decide +kernel
theorem dX9_setBoundary_42 : decode cX9_setBoundary 42 = .ok (.iadd, 1) := by decide +kernel
theorem dX9_setBoundary_43 : decode cX9_setBoundary 43 = .ok (.iload_n 2, 1) := by decide +kernel
theorem dX9_setBoundary_44 : decode cX9_setBoundary 44 = .ok (.iadd, 1) := by decide +kernel
theorem dX9_setBoundary_45 : decode cX9_setBoundary 45 = .ok (.iload_n 3, 1) := by decide +kernel
theorem dX9_setBoundary_46 : decode cX9_setBoundary 46 = .ok (.iastore, 1) := by decide +kernel
theorem dX9_setBoundary_47 : decode cX9_setBoundary 47 = .ok (.aload_n 0, 1) := by decide +kernel
theorem dX9_setBoundary_48 : decode cX9_setBoundary 48 = .ok (.iload_n 1, 1) := by decide +kernel
theorem dX9_setBoundary_49 : decode cX9_setBoundary 49 = .ok (.invokevirtual 450, 3) := by decide +kernel
theorem dX9_setBoundary_52 : decode cX9_setBoundary 52 = .ok (.iload 4, 2) := by decide +kernel
theorem dX9_setBoundary_54 : decode cX9_setBoundary 54 = .ok (.ireturn, 1) := by decide +kernel
theorem dX9_setAct_0 : decode cX9_setAct 0 = .ok (.aload_n 0, 1) := by decide +kernel
theorem dX9_setAct_1 : decode cX9_setAct 1 = .ok (.iload_n 1, 1) := by decide +kernel
theorem dX9_setAct_2 : decode cX9_setAct 2 = .ok (.iload_n 2, 1) := by decide +kernel
theorem dX9_setAct_3 : decode cX9_setAct 3 = .ok (.invokevirtual 317, 3) := by decide +kernel
theorem dX9_setAct_6 : decode cX9_setAct 6 = .ok (.ifCond .ne 22, 3) := by decide +kernel
theorem dX9_setAct_9 : decode cX9_setAct 9 = .ok (.aload_n 0, 1) := by decide +kernel
theorem dX9_setAct_10 : decode cX9_setAct 10 = .ok (.iload_n 1, 1) := by decide +kernel
theorem dX9_setAct_11 : decode cX9_setAct 11 = .ok (.iload_n 3, 1) := by decide +kernel
theorem dX9_setAct_12 : decode cX9_setAct 12 = .ok (.invokevirtual 311, 3) := by decide +kernel
theorem dX9_setAct_15 : decode cX9_setAct 15 = .ok (.ifCond .ne 13, 3) := by decide +kernel
theorem dX9_setAct_18 : decode cX9_setAct 18 = .ok (.aload_n 0, 1) := by decide +kernel
theorem dX9_setAct_19 : decode cX9_setAct 19 = .ok (.iload_n 1, 1) := by decide +kernel
theorem dX9_setAct_20 : decode cX9_setAct 20 = .ok (.iload 4, 2) := by decide +kernel
theorem dX9_setAct_22 : decode cX9_setAct 22 = .ok (.invokevirtual 311, 3) := by decide +kernel
theorem dX9_setAct_25 : decode cX9_setAct 25 = .ok (.ifCond .eq 5, 3) := by decide +kernel
theorem dX9_setAct_28 : decode cX9_setAct 28 = .ok (.iconst 0, 1) := by decide +kernel
theorem dX9_setAct_29 : decode cX9_setAct 29 = .ok (.ireturn, 1) := by decide +kernel
theorem dX9_setAct_30 : decode cX9_setAct 30 = .ok (.aload_n 0, 1) := by decide +kernel
theorem dX9_setAct_31 : decode cX9_setAct 31 = .ok (.iload_n 1, 1) := by decide +kernel
theorem dX9_setAct_32 : decode cX9_setAct 32 = .ok (.invokevirtual 447, 3) := by decide +kernel
theorem dX9_setAct_35 : decode cX9_setAct 35 = .ok (.aload_n 0, 1) := by decide +kernel
theorem dX9_setAct_36 : decode cX9_setAct 36 = .ok (.iload_n 1, 1) := by decide +kernel
theorem dX9_setAct_37 : decode cX9_setAct 37 = .ok (.iload_n 2, 1) := by decide +kernel
theorem dX9_setAct_38 : decode cX9_setAct 38 = .ok (.iload_n 3, 1) := by decide +kernel
theorem dX9_setAct_39 : decode cX9_setAct 39 = .ok (.invokevirtual 320, 3) := by decide +kernel
theorem dX9_setAct_42 : decode cX9_setAct 42 = .ok (.istore 5, 2) := by decide +kernel
theorem dX9_setAct_44 : decode cX9_setAct 44 = .ok (.aload_n 0, 1) := by decide +kernel
theorem dX9_setAct_45 : decode cX9_setAct 45 = .ok (.getfield 31, 3) := by decide +kernel
theorem dX9_setAct_48 : decode cX9_setAct 48 = .ok (.bipush 48, 2) := by decide +kernel
theorem dX9_setAct_50 : decode cX9_setAct 50 = .ok (.bipush 64, 2) := by decide +kernel
theorem dX9_setAct_52 : decode cX9_setAct 52 = .ok (.iload_n 1, 1) := by decide +kernel
theorem dX9_setAct_53 : decode cX9_setAct 53 = .ok (.imul, 1) := by decide +kernel
theorem dX9_setAct_54 : decode cX9_setAct 54 = .ok (.iadd, 1) := by decide +kernel
theorem dX9_setAct_55 : decode cX9_setAct 55 = .ok (.bipush 8, 2) := by decide +kernel
theorem dX9_setAct_57 : decode cX9_setAct 57 = .ok (.iload_n 2, 1) := by decide +kernel
theorem dX9_setAct_58 : decode cX9_setAct 58 = .ok (.imul, 1) := by decide +kernel
theorem dX9_setAct_59 : decode cX9_setAct 59 = .ok (.iadd, 1) := by decide +kernel
theorem dX9_setAct_60 : decode cX9_setAct 60 = .ok (.iload_n 3, 1) := by decide +kernel
theorem dX9_setAct_61 : decode cX9_setAct 61 = .ok (.iadd, 1) := by decide +kernel
theorem dX9_setAct_62 : decode cX9_setAct 62 = .ok (.iload 4, 2) := by decide +kernel
theorem dX9_setAct_64 : decode cX9_setAct 64 = .ok (.iastore, 1) := by decide +kernel
theorem dX9_setAct_65 : decode cX9_setAct 65 = .ok (.aload_n 0, 1) := by decide +kernel
theorem dX9_setAct_66 : decode cX9_setAct 66 = .ok (.iload_n 1, 1) := by decide +kernel
theorem dX9_setAct_67 : decode cX9_setAct 67 = .ok (.invokevirtual 450, 3) := by decide +kernel
theorem dX9_setAct_70 : decode cX9_setAct 70 = .ok (.iload 5, 2) := by decide +kernel
theorem dX9_setAct_72 : decode cX9_setAct 72 = .ok (.ireturn, 1) := by decide +kernel
theorem dX9_acts_0 : decode cX9_acts 0 = .ok (.aload_n 0, 1) := by decide +kernel
theorem dX9_acts_1 : decode cX9_acts 1 = .ok (.iload_n 1, 1) := by decide +kernel
theorem dX9_acts_2 : decode cX9_acts 2 = .ok (.invokevirtual 447, 3) := by decide +kernel
theorem dX9_acts_5 : decode cX9_acts 5 = .ok (.iconst 0, 1) := by decide +kernel
theorem dX9_acts_6 : decode cX9_acts 6 = .ok (.istore_n 3, 1) := by decide +kernel
theorem dX9_acts_7 : decode cX9_acts 7 = .ok (.iconst 0, 1) := by decide +kernel
theorem dX9_acts_8 : decode cX9_acts 8 = .ok (.istore 4, 2) := by decide +kernel
theorem dX9_acts_10 : decode cX9_acts 10 = .ok (.iload 4, 2) := by decide +kernel
theorem dX9_acts_12 : decode cX9_acts 12 = .ok (.aload_n 0, 1) := by decide +kernel
theorem dX9_acts_13 : decode cX9_acts 13 = .ok (.iload_n 1, 1) := by decide +kernel
theorem dX9_acts_14 : decode cX9_acts 14 = .ok (.invokevirtual 332, 3) := by decide +kernel
theorem dX9_acts_17 : decode cX9_acts 17 = .ok (.if_icmp .ge 101, 3) := by decide +kernel
theorem dX9_acts_20 : decode cX9_acts 20 = .ok (.iconst 0, 1) := by decide +kernel
theorem dX9_acts_21 : decode cX9_acts 21 = .ok (.istore 5, 2) := by decide +kernel
theorem dX9_acts_23 : decode cX9_acts 23 = .ok (.iload 5, 2) := by decide +kernel
theorem dX9_acts_25 : decode cX9_acts 25 = .ok (.aload_n 0, 1) := by decide +kernel
theorem dX9_acts_26 : decode cX9_acts 26 = .ok (.iload_n 1, 1) := by decide +kernel
theorem dX9_acts_27 : decode cX9_acts 27 = .ok (.invokevirtual 323, 3) := by decide +kernel
theorem dX9_acts_30 : decode cX9_acts 30 = .ok (.if_icmp .ge 82, 3) := by decide +kernel
theorem dX9_acts_33 : decode cX9_acts 33 = .ok (.iload_n 2, 1) := by decide +kernel
theorem dX9_acts_34 : decode cX9_acts 34 = .ok (.ifCond .eq 20, 3) := by decide +kernel
theorem dX9_acts_37 : decode cX9_acts 37 = .ok (.aload_n 0, 1) := by decide +kernel
theorem dX9_acts_38 : decode cX9_acts 38 = .ok (.aload_n 0, 1) := by decide +kernel
theorem dX9_acts_39 : decode cX9_acts 39 = .ok (.getfield 16, 3) := by decide +kernel
theorem dX9_acts_42 : decode cX9_acts 42 = .ok (.iload_n 1, 1) := by decide +kernel
theorem dX9_acts_43 : decode cX9_acts 43 = .ok (.iaload, 1) := by decide +kernel
theorem dX9_acts_44 : decode cX9_acts 44 = .ok (.iload 4, 2) := by decide +kernel
theorem dX9_acts_46 : decode cX9_acts 46 = .ok (.iload 5, 2) := by decide +kernel
theorem dX9_acts_48 : decode cX9_acts 48 = .ok (.invokevirtual 298, 3) := by decide +kernel
theorem dX9_acts_51 : decode cX9_acts 51 = .ok (.goto 5, 3) := by decide +kernel
theorem dX9_acts_54 : decode cX9_acts 54 = .ok (.iload 5, 2) := by decide +kernel
theorem dX9_acts_56 : decode cX9_acts 56 = .ok (.istore 6, 2) := by decide +kernel
theorem dX9_acts_58 : decode cX9_acts 58 = .ok (.iload_n 3, 1) := by decide +kernel
theorem dX9_acts_59 : decode cX9_acts 59 = .ok (.aload_n 0, 1) := by decide +kernel
theorem dX9_acts_60 : decode cX9_acts 60 = .ok (.iload_n 1, 1) := by decide +kernel
theorem dX9_acts_61 : decode cX9_acts 61 = .ok (.iload 4, 2) := by decide +kernel
theorem dX9_acts_63 : decode cX9_acts 63 = .ok (.iload 5, 2) := by decide +kernel
theorem dX9_acts_65 : decode cX9_acts 65 = .ok (.invokevirtual 320, 3) := by decide +kernel
theorem dX9_acts_68 : decode cX9_acts 68 = .ok (.iload 6, 2) := by decide +kernel
theorem dX9_acts_70 : decode cX9_acts 70 = .ok (.if_icmp .eq 7, 3) := by decide +kernel
theorem dX9_acts_73 : decode cX9_acts 73 = .ok (.iconst 1, 1) := by decide +kernel
theorem dX9_acts_74 : decode cX9_acts 74 = .ok (.goto 4, 3) := by decide +kernel
theorem dX9_acts_77 : decode cX9_acts 77 = .ok (.iconst 0, 1) := by decide +kernel
theorem dX9_acts_78 : decode cX9_acts 78 = .ok (.invokestatic 207, 3) := by decide +kernel
theorem dX9_acts_81 : decode cX9_acts 81 = .ok (.iadd, 1) := by decide +kernel
theorem dX9_acts_82 : decode cX9_acts 82 = .ok (.istore_n 3, 1) := by decide +kernel
theorem dX9_acts_83 : decode cX9_acts 83 = .ok (.aload_n 0, 1) := by decide +kernel
theorem dX9_acts_84 : decode cX9_acts 84 = .ok (.getfield 31, 3) := by decide +kernel
theorem dX9_acts_87 : decode cX9_acts 87 = .ok (.bipush 48, 2) := by decide +kernel
theorem dX9_acts_89 : decode cX9_acts 89 = .ok (.bipush 64, 2) := by decide +kernel
theorem dX9_acts_91 : decode cX9_acts 91 = .ok (.iload_n 1, 1) := by decide +kernel
theorem dX9_acts_92 : decode cX9_acts 92 = .ok (.imul, 1) := by decide +kernel
theorem dX9_acts_93 : decode cX9_acts 93 = .ok (.iadd, 1) := by decide +kernel
theorem dX9_acts_94 : decode cX9_acts 94 = .ok (.bipush 8, 2) := by decide +kernel
theorem dX9_acts_96 : decode cX9_acts 96 = .ok (.iload 4, 2) := by decide +kernel
theorem dX9_acts_98 : decode cX9_acts 98 = .ok (.imul, 1) := by decide +kernel
theorem dX9_acts_99 : decode cX9_acts 99 = .ok (.iadd, 1) := by decide +kernel
theorem dX9_acts_100 : decode cX9_acts 100 = .ok (.iload 5, 2) := by decide +kernel
theorem dX9_acts_102 : decode cX9_acts 102 = .ok (.iadd, 1) := by decide +kernel
theorem dX9_acts_103 : decode cX9_acts 103 = .ok (.iload 6, 2) := by decide +kernel
theorem dX9_acts_105 : decode cX9_acts 105 = .ok (.iastore, 1) := by decide +kernel
theorem dX9_acts_106 : decode cX9_acts 106 = .ok (.iinc 5 1, 3) := by decide +kernel
theorem dX9_acts_109 : decode cX9_acts 109 = .ok (.goto (-86), 3) := by decide +kernel
theorem dX9_acts_112 : decode cX9_acts 112 = .ok (.iinc 4 1, 3) := by decide +kernel
theorem dX9_acts_115 : decode cX9_acts 115 = .ok (.goto (-105), 3) := by decide +kernel
theorem dX9_acts_118 : decode cX9_acts 118 = .ok (.aload_n 0, 1) := by decide +kernel
theorem dX9_acts_119 : decode cX9_acts 119 = .ok (.iload_n 1, 1) := by decide +kernel
theorem dX9_acts_120 : decode cX9_acts 120 = .ok (.invokevirtual 450, 3) := by decide +kernel
theorem dX9_acts_123 : decode cX9_acts 123 = .ok (.iload_n 3, 1) := by decide +kernel
theorem dX9_acts_124 : decode cX9_acts 124 = .ok (.ireturn, 1) := by decide +kernel
theorem dX9_rest_0 : decode cX9_rest 0 = .ok (.aload_n 0, 1) := by decide +kernel
theorem dX9_rest_1 : decode cX9_rest 1 = .ok (.iload_n 1, 1) := by decide +kernel
theorem dX9_rest_2 : decode cX9_rest 2 = .ok (.invokevirtual 308, 3) := by decide +kernel
theorem dX9_rest_5 : decode cX9_rest 5 = .ok (.ifCond .eq 7, 3) := by decide +kernel
theorem dX9_rest_8 : decode cX9_rest 8 = .ok (.iconst 0, 1) := by decide +kernel
theorem dX9_rest_9 : decode cX9_rest 9 = .ok (.goto 9, 3) := by decide +kernel
theorem dX9_rest_12 : decode cX9_rest 12 = .ok (.aload_n 0, 1) := by decide +kernel
theorem dX9_rest_13 : decode cX9_rest 13 = .ok (.iload_n 1, 1) := by decide +kernel
theorem dX9_rest_14 : decode cX9_rest 14 = .ok (.iconst 0, 1) := by decide +kernel
theorem dX9_rest_15 : decode cX9_rest 15 = .ok (.invokevirtual 453, 3) := by decide +kernel
theorem dX9_rest_18 : decode cX9_rest 18 = .ok (.ireturn, 1) := by decide +kernel
theorem dX9_conjugate_0 : decode cX9_conjugate 0 = .ok (.aload_n 0, 1) := by decide +kernel
theorem dX9_conjugate_1 : decode cX9_conjugate 1 = .ok (.iload_n 1, 1) := by decide +kernel
theorem dX9_conjugate_2 : decode cX9_conjugate 2 = .ok (.invokevirtual 308, 3) := by decide +kernel
theorem dX9_conjugate_5 : decode cX9_conjugate 5 = .ok (.ifCond .ne 31, 3) := by decide +kernel
theorem dX9_conjugate_8 : decode cX9_conjugate 8 = .ok (.aload_n 0, 1) := by decide +kernel
theorem dX9_conjugate_9 : decode cX9_conjugate 9 = .ok (.aload_n 0, 1) := by decide +kernel
theorem dX9_conjugate_10 : decode cX9_conjugate 10 = .ok (.getfield 16, 3) := by decide +kernel
theorem dX9_conjugate_13 : decode cX9_conjugate 13 = .ok (.iload_n 1, 1) := by decide +kernel
theorem dX9_conjugate_14 : decode cX9_conjugate 14 = .ok (.iaload, 1) := by decide +kernel
theorem dX9_conjugate_15 : decode cX9_conjugate 15 = .ok (.aload_n 0, 1) := by decide +kernel
theorem dX9_conjugate_16 : decode cX9_conjugate 16 = .ok (.getfield 19, 3) := by decide +kernel
theorem dX9_conjugate_19 : decode cX9_conjugate 19 = .ok (.iload_n 1, 1) := by decide +kernel
theorem dX9_conjugate_20 : decode cX9_conjugate 20 = .ok (.iaload, 1) := by decide +kernel
theorem dX9_conjugate_21 : decode cX9_conjugate 21 = .ok (.if_icmp .eq 7, 3) := by decide +kernel
theorem dX9_conjugate_24 : decode cX9_conjugate 24 = .ok (.iconst 1, 1) := by decide +kernel
theorem dX9_conjugate_25 : decode cX9_conjugate 25 = .ok (.goto 4, 3) := by decide +kernel
theorem dX9_conjugate_28 : decode cX9_conjugate 28 = .ok (.iconst 0, 1) := by decide +kernel
theorem dX9_conjugate_29 : decode cX9_conjugate 29 = .ok (.iconst 3, 1) := by decide +kernel
theorem dX9_conjugate_30 : decode cX9_conjugate 30 = .ok (.invokevirtual 94, 3) := by decide +kernel
theorem dX9_conjugate_33 : decode cX9_conjugate 33 = .ok (.ifCond .eq 7, 3) := by decide +kernel
theorem dX9_conjugate_36 : decode cX9_conjugate 36 = .ok (.iconst 0, 1) := by decide +kernel
theorem dX9_conjugate_37 : decode cX9_conjugate 37 = .ok (.goto 9, 3) := by decide +kernel
theorem dX9_conjugate_40 : decode cX9_conjugate 40 = .ok (.aload_n 0, 1) := by decide +kernel
theorem dX9_conjugate_41 : decode cX9_conjugate 41 = .ok (.iload_n 1, 1) := by decide +kernel
theorem dX9_conjugate_42 : decode cX9_conjugate 42 = .ok (.iconst 1, 1) := by decide +kernel
theorem dX9_conjugate_43 : decode cX9_conjugate 43 = .ok (.invokevirtual 453, 3) := by decide +kernel
theorem dX9_conjugate_46 : decode cX9_conjugate 46 = .ok (.ireturn, 1) := by decide +kernel
theorem dX9_setTop_0 : decode cX9_setTop 0 = .ok (.aload_n 0, 1) := by decide +kernel
theorem dX9_setTop_1 : decode cX9_setTop 1 = .ok (.iload_n 1, 1) := by decide +kernel
theorem dX9_setTop_2 : decode cX9_setTop 2 = .ok (.iload_n 2, 1) := by decide +kernel
theorem dX9_setTop_3 : decode cX9_setTop 3 = .ok (.invokevirtual 393, 3) := by decide +kernel
theorem dX9_setTop_6 : decode cX9_setTop 6 = .ok (.ifCond .ne 36, 3) := by decide +kernel
theorem dX9_setTop_9 : decode cX9_setTop 9 = .ok (.aload_n 0, 1) := by decide +kernel
theorem dX9_setTop_10 : decode cX9_setTop 10 = .ok (.iload_n 3, 1) := by decide +kernel
theorem dX9_setTop_11 : decode cX9_setTop 11 = .ok (.iconst 0, 1) := by decide +kernel
theorem dX9_setTop_12 : decode cX9_setTop 12 = .ok (.aload_n 0, 1) := by decide +kernel
theorem dX9_setTop_13 : decode cX9_setTop 13 = .ok (.aload_n 0, 1) := by decide +kernel
theorem dX9_setTop_14 : decode cX9_setTop 14 = .ok (.getfield 25, 3) := by decide +kernel
theorem dX9_setTop_17 : decode cX9_setTop 17 = .ok (.iload_n 1, 1) := by decide +kernel
theorem dX9_setTop_18 : decode cX9_setTop 18 = .ok (.iaload, 1) := by decide +kernel
theorem dX9_setTop_19 : decode cX9_setTop 19 = .ok (.invokevirtual 323, 3) := by decide +kernel
theorem dX9_setTop_22 : decode cX9_setTop 22 = .ok (.iconst 1, 1) := by decide +kernel
theorem dX9_setTop_23 : decode cX9_setTop 23 = .ok (.isub, 1) := by decide +kernel
theorem dX9_setTop_24 : decode cX9_setTop 24 = .ok (.invokestatic 152, 3) := by decide +kernel
theorem dX9_setTop_27 : decode cX9_setTop 27 = .ok (.ifCond .ne 7, 3) := by decide +kernel
theorem dX9_setTop_30 : decode cX9_setTop 30 = .ok (.iconst 1, 1) := by decide +kernel
theorem dX9_setTop_31 : decode cX9_setTop 31 = .ok (.goto 4, 3) := by decide +kernel
theorem dX9_setTop_34 : decode cX9_setTop 34 = .ok (.iconst 0, 1) := by decide +kernel
theorem dX9_setTop_35 : decode cX9_setTop 35 = .ok (.iconst 2, 1) := by decide +kernel
theorem dX9_setTop_36 : decode cX9_setTop 36 = .ok (.invokevirtual 94, 3) := by decide +kernel
theorem dX9_setTop_39 : decode cX9_setTop 39 = .ok (.ifCond .eq 5, 3) := by decide +kernel
theorem dX9_setTop_42 : decode cX9_setTop 42 = .ok (.iconst 0, 1) := by decide +kernel
theorem dX9_setTop_43 : decode cX9_setTop 43 = .ok (.ireturn, 1) := by decide +kernel
theorem dX9_setTop_44 : decode cX9_setTop 44 = .ok (.aload_n 0, 1) := by decide +kernel
theorem dX9_setTop_45 : decode cX9_setTop 45 = .ok (.invokevirtual 441, 3) := by decide +kernel
theorem dX9_setTop_48 : decode cX9_setTop 48 = .ok (.aload_n 0, 1) := by decide +kernel
theorem dX9_setTop_49 : decode cX9_setTop 49 = .ok (.iload_n 1, 1) := by decide +kernel
theorem dX9_setTop_50 : decode cX9_setTop 50 = .ok (.iload_n 2, 1) := by decide +kernel
theorem dX9_setTop_51 : decode cX9_setTop 51 = .ok (.invokevirtual 396, 3) := by decide +kernel
theorem dX9_setTop_54 : decode cX9_setTop 54 = .ok (.istore 4, 2) := by decide +kernel
theorem dX9_setTop_56 : decode cX9_setTop 56 = .ok (.aload_n 0, 1) := by decide +kernel
theorem dX9_setTop_57 : decode cX9_setTop 57 = .ok (.getfield 31, 3) := by decide +kernel
theorem dX9_setTop_60 : decode cX9_setTop 60 = .ok (.sipush 432, 3) := by decide +kernel
theorem dX9_setTop_63 : decode cX9_setTop 63 = .ok (.bipush 8, 2) := by decide +kernel
theorem dX9_setTop_65 : decode cX9_setTop 65 = .ok (.iload_n 1, 1) := by decide +kernel
theorem dX9_setTop_66 : decode cX9_setTop 66 = .ok (.imul, 1) := by decide +kernel
theorem dX9_setTop_67 : decode cX9_setTop 67 = .ok (.iadd, 1) := by decide +kernel
theorem dX9_setTop_68 : decode cX9_setTop 68 = .ok (.iload_n 2, 1) := by decide +kernel
theorem dX9_setTop_69 : decode cX9_setTop 69 = .ok (.iadd, 1) := by decide +kernel
theorem dX9_setTop_70 : decode cX9_setTop 70 = .ok (.iload_n 3, 1) := by decide +kernel
theorem dX9_setTop_71 : decode cX9_setTop 71 = .ok (.iastore, 1) := by decide +kernel
theorem dX9_setTop_72 : decode cX9_setTop 72 = .ok (.iload 4, 2) := by decide +kernel
theorem dX9_setTop_74 : decode cX9_setTop 74 = .ok (.ireturn, 1) := by decide +kernel
theorem dX9_setBottom_0 : decode cX9_setBottom 0 = .ok (.aload_n 0, 1) := by decide +kernel
theorem dX9_setBottom_1 : decode cX9_setBottom 1 = .ok (.iload_n 1, 1) := by decide +kernel
theorem dX9_setBottom_2 : decode cX9_setBottom 2 = .ok (.iload_n 2, 1) := by decide +kernel
theorem dX9_setBottom_3 : decode cX9_setBottom 3 = .ok (.invokevirtual 399, 3) := by decide +kernel
theorem dX9_setBottom_6 : decode cX9_setBottom 6 = .ok (.ifCond .ne 36, 3) := by decide +kernel
theorem dX9_setBottom_9 : decode cX9_setBottom 9 = .ok (.aload_n 0, 1) := by decide +kernel
theorem dX9_setBottom_10 : decode cX9_setBottom 10 = .ok (.iload_n 3, 1) := by decide +kernel
theorem dX9_setBottom_11 : decode cX9_setBottom 11 = .ok (.iconst 0, 1) := by decide +kernel
theorem dX9_setBottom_12 : decode cX9_setBottom 12 = .ok (.aload_n 0, 1) := by decide +kernel
theorem dX9_setBottom_13 : decode cX9_setBottom 13 = .ok (.aload_n 0, 1) := by decide +kernel
theorem dX9_setBottom_14 : decode cX9_setBottom 14 = .ok (.getfield 25, 3) := by decide +kernel
theorem dX9_setBottom_17 : decode cX9_setBottom 17 = .ok (.iload_n 1, 1) := by decide +kernel
theorem dX9_setBottom_18 : decode cX9_setBottom 18 = .ok (.iaload, 1) := by decide +kernel
theorem dX9_setBottom_19 : decode cX9_setBottom 19 = .ok (.invokevirtual 332, 3) := by decide +kernel
theorem dX9_setBottom_22 : decode cX9_setBottom 22 = .ok (.iconst 1, 1) := by decide +kernel
theorem dX9_setBottom_23 : decode cX9_setBottom 23 = .ok (.isub, 1) := by decide +kernel
theorem dX9_setBottom_24 : decode cX9_setBottom 24 = .ok (.invokestatic 152, 3) := by decide +kernel
theorem dX9_setBottom_27 : decode cX9_setBottom 27 = .ok (.ifCond .ne 7, 3) := by decide +kernel
theorem dX9_setBottom_30 : decode cX9_setBottom 30 = .ok (.iconst 1, 1) := by decide +kernel
theorem dX9_setBottom_31 : decode cX9_setBottom 31 = .ok (.goto 4, 3) := by decide +kernel
theorem dX9_setBottom_34 : decode cX9_setBottom 34 = .ok (.iconst 0, 1) := by decide +kernel
theorem dX9_setBottom_35 : decode cX9_setBottom 35 = .ok (.iconst 2, 1) := by decide +kernel
theorem dX9_setBottom_36 : decode cX9_setBottom 36 = .ok (.invokevirtual 94, 3) := by decide +kernel
theorem dX9_setBottom_39 : decode cX9_setBottom 39 = .ok (.ifCond .eq 5, 3) := by decide +kernel
theorem dX9_setBottom_42 : decode cX9_setBottom 42 = .ok (.iconst 0, 1) := by decide +kernel
theorem dX9_setBottom_43 : decode cX9_setBottom 43 = .ok (.ireturn, 1) := by decide +kernel
theorem dX9_setBottom_44 : decode cX9_setBottom 44 = .ok (.aload_n 0, 1) := by decide +kernel
theorem dX9_setBottom_45 : decode cX9_setBottom 45 = .ok (.invokevirtual 441, 3) := by decide +kernel
theorem dX9_setBottom_48 : decode cX9_setBottom 48 = .ok (.aload_n 0, 1) := by decide +kernel
theorem dX9_setBottom_49 : decode cX9_setBottom 49 = .ok (.iload_n 1, 1) := by decide +kernel
theorem dX9_setBottom_50 : decode cX9_setBottom 50 = .ok (.iload_n 2, 1) := by decide +kernel
theorem dX9_setBottom_51 : decode cX9_setBottom 51 = .ok (.invokevirtual 402, 3) := by decide +kernel
theorem dX9_setBottom_54 : decode cX9_setBottom 54 = .ok (.istore 4, 2) := by decide +kernel
theorem dX9_setBottom_56 : decode cX9_setBottom 56 = .ok (.aload_n 0, 1) := by decide +kernel
theorem dX9_setBottom_57 : decode cX9_setBottom 57 = .ok (.getfield 31, 3) := by decide +kernel
theorem dX9_setBottom_60 : decode cX9_setBottom 60 = .ok (.sipush 496, 3) := by decide +kernel
theorem dX9_setBottom_63 : decode cX9_setBottom 63 = .ok (.bipush 8, 2) := by decide +kernel
theorem dX9_setBottom_65 : decode cX9_setBottom 65 = .ok (.iload_n 1, 1) := by decide +kernel
theorem dX9_setBottom_66 : decode cX9_setBottom 66 = .ok (.imul, 1) := by decide +kernel
theorem dX9_setBottom_67 : decode cX9_setBottom 67 = .ok (.iadd, 1) := by decide +kernel
theorem dX9_setBottom_68 : decode cX9_setBottom 68 = .ok (.iload_n 2, 1) := by decide +kernel
theorem dX9_setBottom_69 : decode cX9_setBottom 69 = .ok (.iadd, 1) := by decide +kernel
theorem dX9_setBottom_70 : decode cX9_setBottom 70 = .ok (.iload_n 3, 1) := by decide +kernel
theorem dX9_setBottom_71 : decode cX9_setBottom 71 = .ok (.iastore, 1) := by decide +kernel
theorem dX9_setBottom_72 : decode cX9_setBottom 72 = .ok (.iload 4, 2) := by decide +kernel
theorem dX9_setBottom_74 : decode cX9_setBottom 74 = .ok (.ireturn, 1) := by decide +kernel
theorem dX9_undo_0 : decode cX9_undo 0 = .ok (.aload_n 0, 1) := by decide +kernel
theorem dX9_undo_1 : decode cX9_undo 1 = .ok (.iconst 0, 1) := by decide +kernel
theorem dX9_undo_2 : decode cX9_undo 2 = .ok (.putfield 87, 3) := by decide +kernel
theorem dX9_undo_5 : decode cX9_undo 5 = .ok (.aload_n 0, 1) := by decide +kernel
theorem dX9_undo_6 : decode cX9_undo 6 = .ok (.aload_n 0, 1) := by decide +kernel
theorem dX9_undo_7 : decode cX9_undo 7 = .ok (.getfield 269, 3) := by decide +kernel
theorem dX9_undo_10 : decode cX9_undo 10 = .ok (.ifCond .ne 7, 3) := by decide +kernel
theorem dX9_undo_13 : decode cX9_undo 13 = .ok (.iconst 1, 1) := by decide +kernel
theorem dX9_undo_14 : decode cX9_undo 14 = .ok (.goto 4, 3) := by decide +kernel
theorem dX9_undo_17 : decode cX9_undo 17 = .ok (.iconst 0, 1) := by decide +kernel
theorem dX9_undo_18 : decode cX9_undo 18 = .ok (.iconst 1, 1) := by decide +kernel
theorem dX9_undo_19 : decode cX9_undo 19 = .ok (.invokevirtual 94, 3) := by decide +kernel
theorem dX9_undo_22 : decode cX9_undo 22 = .ok (.ifCond .eq 5, 3) := by decide +kernel
theorem dX9_undo_25 : decode cX9_undo 25 = .ok (.iconst 0, 1) := by decide +kernel
theorem dX9_undo_26 : decode cX9_undo 26 = .ok (.ireturn, 1) := by decide +kernel
theorem dX9_undo_27 : decode cX9_undo 27 = .ok (.aload_n 0, 1) := by decide +kernel
theorem dX9_undo_28 : decode cX9_undo 28 = .ok (.dup, 1) := by decide +kernel
theorem dX9_undo_29 : decode cX9_undo 29 = .ok (.getfield 269, 3) := by decide +kernel
theorem dX9_undo_32 : decode cX9_undo 32 = .ok (.iconst 1, 1) := by decide +kernel
theorem dX9_undo_33 : decode cX9_undo 33 = .ok (.isub, 1) := by decide +kernel
theorem dX9_undo_34 : decode cX9_undo 34 = .ok (.putfield 269, 3) := by decide +kernel
theorem dX9_undo_37 : decode cX9_undo 37 = .ok (.aload_n 0, 1) := by decide +kernel
theorem dX9_undo_38 : decode cX9_undo 38 = .ok (.aload_n 0, 1) := by decide +kernel
theorem dX9_undo_39 : decode cX9_undo 39 = .ok (.getfield 269, 3) := by decide +kernel
theorem dX9_undo_42 : decode cX9_undo 42 = .ok (.invokevirtual 457, 3) := by decide +kernel
theorem dX9_undo_45 : decode cX9_undo 45 = .ok (.aload_n 0, 1) := by decide +kernel
theorem dX9_undo_46 : decode cX9_undo 46 = .ok (.getfield 269, 3) := by decide +kernel
theorem dX9_undo_49 : decode cX9_undo 49 = .ok (.ireturn, 1) := by decide +kernel
theorem dX9_undoable_0 : decode cX9_undoable 0 = .ok (.aload_n 0, 1) := by decide +kernel
theorem dX9_undoable_1 : decode cX9_undoable 1 = .ok (.iconst 0, 1) := by decide +kernel
theorem dX9_undoable_2 : decode cX9_undoable 2 = .ok (.putfield 87, 3) := by decide +kernel
theorem dX9_undoable_5 : decode cX9_undoable 5 = .ok (.aload_n 0, 1) := by decide +kernel
theorem dX9_undoable_6 : decode cX9_undoable 6 = .ok (.getfield 90, 3) := by decide +kernel
theorem dX9_undoable_9 : decode cX9_undoable 9 = .ok (.ifCond .eq 10, 3) := by decide +kernel
theorem dX9_undoable_12 : decode cX9_undoable 12 = .ok (.aload_n 0, 1) := by decide +kernel
theorem dX9_undoable_13 : decode cX9_undoable 13 = .ok (.getfield 269, 3) := by decide +kernel
theorem dX9_undoable_16 : decode cX9_undoable 16 = .ok (.goto 4, 3) := by decide +kernel
theorem dX9_undoable_19 : decode cX9_undoable 19 = .ok (.iconst 0, 1) := by decide +kernel
theorem dX9_undoable_20 : decode cX9_undoable 20 = .ok (.ireturn, 1) := by decide +kernel
theorem dX9_save_0 : decode cX9_save 0 = .ok (.aload_n 0, 1) := by decide +kernel
theorem dX9_save_1 : decode cX9_save 1 = .ok (.invokevirtual 272, 3) := by decide +kernel
theorem dX9_save_4 : decode cX9_save 4 = .ok (.ifCond .ne 25, 3) := by decide +kernel
theorem dX9_save_7 : decode cX9_save 7 = .ok (.aload_n 0, 1) := by decide +kernel
theorem dX9_save_8 : decode cX9_save 8 = .ok (.iload_n 1, 1) := by decide +kernel
theorem dX9_save_9 : decode cX9_save 9 = .ok (.iconst 0, 1) := by decide +kernel
theorem dX9_save_10 : decode cX9_save 10 = .ok (.iconst 1, 1) := by decide +kernel
theorem dX9_save_11 : decode cX9_save 11 = .ok (.invokestatic 152, 3) := by decide +kernel
theorem dX9_save_14 : decode cX9_save 14 = .ok (.ifCond .ne 7, 3) := by decide +kernel
theorem dX9_save_17 : decode cX9_save 17 = .ok (.iconst 1, 1) := by decide +kernel
theorem dX9_save_18 : decode cX9_save 18 = .ok (.goto 4, 3) := by decide +kernel
theorem dX9_save_21 : decode cX9_save 21 = .ok (.iconst 0, 1) := by decide +kernel
theorem dX9_save_22 : decode cX9_save 22 = .ok (.iconst 2, 1) := by decide +kernel
theorem dX9_save_23 : decode cX9_save 23 = .ok (.invokevirtual 94, 3) := by decide +kernel
theorem dX9_save_26 : decode cX9_save 26 = .ok (.ifCond .eq 5, 3) := by decide +kernel
theorem dX9_save_29 : decode cX9_save 29 = .ok (.iconst 0, 1) := by decide +kernel
theorem dX9_save_30 : decode cX9_save 30 = .ok (.ireturn, 1) := by decide +kernel
theorem dX9_save_31 : decode cX9_save 31 = .ok (.aload_n 0, 1) := by decide +kernel
theorem dX9_save_32 : decode cX9_save 32 = .ok (.bipush 8, 2) := by decide +kernel
theorem dX9_save_34 : decode cX9_save 34 = .ok (.iload_n 1, 1) := by decide +kernel
theorem dX9_save_35 : decode cX9_save 35 = .ok (.iadd, 1) := by decide +kernel
theorem dX9_save_36 : decode cX9_save 36 = .ok (.invokevirtual 438, 3) := by decide +kernel
theorem dX9_save_39 : decode cX9_save 39 = .ok (.aload_n 0, 1) := by decide +kernel
theorem dX9_save_40 : decode cX9_save 40 = .ok (.getfield 37, 3) := by decide +kernel
theorem dX9_save_43 : decode cX9_save 43 = .ok (.iload_n 1, 1) := by decide +kernel
theorem dX9_save_44 : decode cX9_save 44 = .ok (.iconst 1, 1) := by decide +kernel
theorem dX9_save_45 : decode cX9_save 45 = .ok (.bastore, 1) := by decide +kernel
theorem dX9_save_46 : decode cX9_save 46 = .ok (.aload_n 0, 1) := by decide +kernel
theorem dX9_save_47 : decode cX9_save 47 = .ok (.invokevirtual 353, 3) := by decide +kernel
theorem dX9_save_50 : decode cX9_save 50 = .ok (.invokestatic 420, 3) := by decide +kernel
theorem dX9_save_53 : decode cX9_save 53 = .ok (.ireturn, 1) := by decide +kernel
theorem dX9_restore_0 : decode cX9_restore 0 = .ok (.aload_n 0, 1) := by decide +kernel
theorem dX9_restore_1 : decode cX9_restore 1 = .ok (.iconst 0, 1) := by decide +kernel
theorem dX9_restore_2 : decode cX9_restore 2 = .ok (.putfield 87, 3) := by decide +kernel
theorem dX9_restore_5 : decode cX9_restore 5 = .ok (.aload_n 0, 1) := by decide +kernel
theorem dX9_restore_6 : decode cX9_restore 6 = .ok (.iload_n 1, 1) := by decide +kernel
theorem dX9_restore_7 : decode cX9_restore 7 = .ok (.iconst 0, 1) := by decide +kernel
theorem dX9_restore_8 : decode cX9_restore 8 = .ok (.iconst 1, 1) := by decide +kernel
theorem dX9_restore_9 : decode cX9_restore 9 = .ok (.invokestatic 152, 3) := by decide +kernel
theorem dX9_restore_12 : decode cX9_restore 12 = .ok (.ifCond .ne 7, 3) := by decide +kernel
theorem dX9_restore_15 : decode cX9_restore 15 = .ok (.iconst 1, 1) := by decide +kernel
theorem dX9_restore_16 : decode cX9_restore 16 = .ok (.goto 4, 3) := by decide +kernel
theorem dX9_restore_19 : decode cX9_restore 19 = .ok (.iconst 0, 1) := by decide +kernel
theorem dX9_restore_20 : decode cX9_restore 20 = .ok (.iconst 1, 1) := by decide +kernel
theorem dX9_restore_21 : decode cX9_restore 21 = .ok (.invokevirtual 94, 3) := by decide +kernel
theorem dX9_restore_24 : decode cX9_restore 24 = .ok (.ifCond .ne 25, 3) := by decide +kernel
theorem dX9_restore_27 : decode cX9_restore 27 = .ok (.aload_n 0, 1) := by decide +kernel
theorem dX9_restore_28 : decode cX9_restore 28 = .ok (.aload_n 0, 1) := by decide +kernel
theorem dX9_restore_29 : decode cX9_restore 29 = .ok (.getfield 37, 3) := by decide +kernel
theorem dX9_restore_32 : decode cX9_restore 32 = .ok (.iload_n 1, 1) := by decide +kernel
theorem dX9_restore_33 : decode cX9_restore 33 = .ok (.baload, 1) := by decide +kernel
theorem dX9_restore_34 : decode cX9_restore 34 = .ok (.ifCond .ne 7, 3) := by decide +kernel
theorem dX9_restore_37 : decode cX9_restore 37 = .ok (.iconst 1, 1) := by decide +kernel
theorem dX9_restore_38 : decode cX9_restore 38 = .ok (.goto 4, 3) := by decide +kernel
theorem dX9_restore_41 : decode cX9_restore 41 = .ok (.iconst 0, 1) := by decide +kernel
theorem dX9_restore_42 : decode cX9_restore 42 = .ok (.iconst 2, 1) := by decide +kernel
theorem dX9_restore_43 : decode cX9_restore 43 = .ok (.invokevirtual 94, 3) := by decide +kernel
theorem dX9_restore_46 : decode cX9_restore 46 = .ok (.ifCond .eq 5, 3) := by decide +kernel
theorem dX9_restore_49 : decode cX9_restore 49 = .ok (.iconst 0, 1) := by decide +kernel
theorem dX9_restore_50 : decode cX9_restore 50 = .ok (.ireturn, 1) := by decide +kernel
theorem dX9_restore_51 : decode cX9_restore 51 = .ok (.aload_n 0, 1) := by decide +kernel
theorem dX9_restore_52 : decode cX9_restore 52 = .ok (.bipush 8, 2) := by decide +kernel
theorem dX9_restore_54 : decode cX9_restore 54 = .ok (.iload_n 1, 1) := by decide +kernel
theorem dX9_restore_55 : decode cX9_restore 55 = .ok (.iadd, 1) := by decide +kernel
theorem dX9_restore_56 : decode cX9_restore 56 = .ok (.invokevirtual 457, 3) := by decide +kernel
theorem dX9_restore_59 : decode cX9_restore 59 = .ok (.aload_n 0, 1) := by decide +kernel
theorem dX9_restore_60 : decode cX9_restore 60 = .ok (.iconst 0, 1) := by decide +kernel
theorem dX9_restore_61 : decode cX9_restore 61 = .ok (.putfield 269, 3) := by decide +kernel
theorem dX9_restore_64 : decode cX9_restore 64 = .ok (.aload_n 0, 1) := by decide +kernel
theorem dX9_restore_65 : decode cX9_restore 65 = .ok (.invokevirtual 353, 3) := by decide +kernel
theorem dX9_restore_68 : decode cX9_restore 68 = .ok (.invokestatic 420, 3) := by decide +kernel
theorem dX9_restore_71 : decode cX9_restore 71 = .ok (.ireturn, 1) := by decide +kernel
