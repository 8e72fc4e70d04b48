theorem dX9_init_0 : decode cX9_init 0 = .ok (.aload_n 0, 1) := by decide +kernel
theorem dX9_init_1 : decode cX9_init 1 = .ok (.invokespecial 1, 3) := by decide +kernel
theorem dX9_init_4 : decode cX9_init 4 = .ok (.aload_n 0, 1) := by decide +kernel
theorem dX9_init_5 : decode cX9_init 5 = .ok (.iload_n 1, 1) := by decide +kernel
theorem dX9_init_6 : decode cX9_init 6 = .ok (.putfield 7, 3) := by decide +kernel
theorem dX9_init_9 : decode cX9_init 9 = .ok (.aload_n 0, 1) := by decide +kernel
theorem dX9_init_10 : decode cX9_init 10 = .ok (.iload_n 2, 1) := by decide +kernel
theorem dX9_init_11 : decode cX9_init 11 = .ok (.putfield 13, 3) := by decide +kernel
theorem dX9_init_14 : decode cX9_init 14 = .ok (.aload_n 0, 1) := by decide +kernel
theorem dX9_init_15 : decode cX9_init 15 = .ok (.iload_n 3, 1) := by decide +kernel
theorem dX9_init_16 : decode cX9_init 16 = .ok (.newarray .int, 2) := by decide +kernel
theorem dX9_init_18 : decode cX9_init 18 = .ok (.putfield 16, 3) := by decide +kernel
theorem dX9_init_21 : decode cX9_init 21 = .ok (.aload_n 0, 1) := by decide +kernel
theorem dX9_init_22 : decode cX9_init 22 = .ok (.iload 4, 2) := by decide +kernel
theorem dX9_init_24 : decode cX9_init 24 = .ok (.newarray .int, 2) := by decide +kernel
theorem dX9_init_26 : decode cX9_init 26 = .ok (.putfield 20, 3) := by decide +kernel
theorem dX9_init_29 : decode cX9_init 29 = .ok (.return_, 1) := by decide +kernel
theorem dX10_init_0 : decode cX10_init 0 = .ok (.aload_n 0, 1) := by decide +kernel
theorem dX10_init_1 : decode cX10_init 1 = .ok (.invokespecial 1, 3) := by decide +kernel
theorem dX10_init_4 : decode cX10_init 4 = .ok (.aload_n 0, 1) := by decide +kernel
theorem dX10_init_5 : decode cX10_init 5 = .ok (.aload_n 1, 1) := by decide +kernel
theorem dX10_init_6 : decode cX10_init 6 = .ok (.putfield 7, 3) := by decide +kernel
theorem dX10_init_9 : decode cX10_init 9 = .ok (.return_, 1) := by decide +kernel
theorem dX10_next_0 : decode cX10_next 0 = .ok (.aload_n 0, 1) := by decide +kernel
theorem dX10_next_1 : decode cX10_next 1 = .ok (.getfield 13, 3) := by decide +kernel
theorem dX10_next_4 : decode cX10_next 4 = .ok (.aload_n 0, 1) := by decide +kernel
theorem dX10_next_5 : decode cX10_next 5 = .ok (.getfield 7, 3) := by decide +kernel
theorem dX10_next_8 : decode cX10_next 8 = .ok (.arraylength, 1) := by decide +kernel
theorem dX10_next_9 : decode cX10_next 9 = .ok (.if_icmp .ge 18, 3) := by decide +kernel
theorem dX10_next_12 : decode cX10_next 12 = .ok (.aload_n 0, 1) := by decide +kernel
theorem dX10_next_13 : decode cX10_next 13 = .ok (.getfield 7, 3) := by decide +kernel
theorem dX10_next_16 : decode cX10_next 16 = .ok (.aload_n 0, 1) := by decide +kernel
theorem dX10_next_17 : decode cX10_next 17 = .ok (.getfield 13, 3) := by decide +kernel
theorem dX10_next_20 : decode cX10_next 20 = .ok (.iaload, 1) := by decide +kernel
theorem dX10_next_21 : decode cX10_next 21 = .ok (.ldc 17, 2) := by decide +kernel
theorem dX10_next_23 : decode cX10_next 23 = .ok (.iand, 1) := by decide +kernel
theorem dX10_next_24 : decode cX10_next 24 = .ok (.goto 4, 3) := by decide +kernel
theorem dX10_next_27 : decode cX10_next 27 = .ok (.iconst 0, 1) := by decide +kernel
theorem dX10_next_28 : decode cX10_next 28 = .ok (.istore_n 3, 1) := by decide +kernel
theorem dX10_next_29 : decode cX10_next 29 = .ok (.aload_n 0, 1) := by decide +kernel
theorem dX10_next_30 : decode cX10_next 30 = .ok (.dup, 1) := by decide +kernel
theorem dX10_next_31 : decode cX10_next 31 = .ok (.getfield 13, 3) := by decide +kernel
theorem dX10_next_34 : decode cX10_next 34 = .ok (.iconst 1, 1) := by decide +kernel
theorem dX10_next_35 : decode cX10_next 35 = .ok (.iadd, 1) := by decide +kernel
theorem dX10_next_36 : decode cX10_next 36 = .ok (.putfield 13, 3) := by decide +kernel
theorem dX10_next_39 : decode cX10_next 39 = .ok (.iload_n 1, 1) := by decide +kernel
theorem dX10_next_40 : decode cX10_next 40 = .ok (.iload_n 3, 1) := by decide +kernel
theorem dX10_next_41 : decode cX10_next 41 = .ok (.iload_n 2, 1) := by decide +kernel
theorem dX10_next_42 : decode cX10_next 42 = .ok (.iload_n 1, 1) := by decide +kernel
theorem dX10_next_43 : decode cX10_next 43 = .ok (.isub, 1) := by decide +kernel
theorem dX10_next_44 : decode cX10_next 44 = .ok (.iconst 1, 1) := by decide +kernel
theorem dX10_next_45 : decode cX10_next 45 = .ok (.iadd, 1) := by decide +kernel
theorem dX10_next_46 : decode cX10_next 46 = .ok (.irem, 1) := by decide +kernel
theorem dX10_next_47 : decode cX10_next 47 = .ok (.iadd, 1) := by decide +kernel
theorem dX10_next_48 : decode cX10_next 48 = .ok (.ireturn, 1) := by decide +kernel
theorem dX11_init_0 : decode cX11_init 0 = .ok (.aload_n 0, 1) := by decide +kernel
theorem dX11_init_1 : decode cX11_init 1 = .ok (.invokespecial 1, 3) := by decide +kernel
theorem dX11_init_4 : decode cX11_init 4 = .ok (.aload_n 0, 1) := by decide +kernel
theorem dX11_init_5 : decode cX11_init 5 = .ok (.iload_n 1, 1) := by decide +kernel
theorem dX11_init_6 : decode cX11_init 6 = .ok (.putfield 7, 3) := by decide +kernel
theorem dX11_init_9 : decode cX11_init 9 = .ok (.aload_n 0, 1) := by decide +kernel
theorem dX11_init_10 : decode cX11_init 10 = .ok (.iload_n 2, 1) := by decide +kernel
theorem dX11_init_11 : decode cX11_init 11 = .ok (.putfield 13, 3) := by decide +kernel
theorem dX11_init_14 : decode cX11_init 14 = .ok (.aload_n 0, 1) := by decide +kernel
theorem dX11_init_15 : decode cX11_init 15 = .ok (.aload_n 3, 1) := by decide +kernel
theorem dX11_init_16 : decode cX11_init 16 = .ok (.putfield 16, 3) := by decide +kernel
theorem dX11_init_19 : decode cX11_init 19 = .ok (.aload_n 0, 1) := by decide +kernel
theorem dX11_init_20 : decode cX11_init 20 = .ok (.aload 4, 2) := by decide +kernel
theorem dX11_init_22 : decode cX11_init 22 = .ok (.putfield 20, 3) := by decide +kernel
theorem dX11_init_25 : decode cX11_init 25 = .ok (.aload_n 0, 1) := by decide +kernel
theorem dX11_init_26 : decode cX11_init 26 = .ok (.aload_n 3, 1) := by decide +kernel
theorem dX11_init_27 : decode cX11_init 27 = .ok (.arraylength, 1) := by decide +kernel
theorem dX11_init_28 : decode cX11_init 28 = .ok (.newarray .int, 2) := by decide +kernel
theorem dX11_init_30 : decode cX11_init 30 = .ok (.putfield 23, 3) := by decide +kernel
theorem dX11_init_33 : decode cX11_init 33 = .ok (.aload_n 0, 1) := by decide +kernel
theorem dX11_init_34 : decode cX11_init 34 = .ok (.aload 4, 2) := by decide +kernel
theorem dX11_init_36 : decode cX11_init 36 = .ok (.arraylength, 1) := by decide +kernel
theorem dX11_init_37 : decode cX11_init 37 = .ok (.aload_n 3, 1) := by decide +kernel
theorem dX11_init_38 : decode cX11_init 38 = .ok (.arraylength, 1) := by decide +kernel
theorem dX11_init_39 : decode cX11_init 39 = .ok (.multianewarray 27 2, 4) := by decide +kernel
theorem dX11_init_43 : decode cX11_init 43 = .ok (.putfield 28, 3) := by decide +kernel
theorem dX11_init_46 : decode cX11_init 46 = .ok (.iconst 0, 1) := by decide +kernel
theorem dX11_init_47 : decode cX11_init 47 = .ok (.istore 5, 2) := by decide +kernel
theorem dX11_init_49 : decode cX11_init 49 = .ok (.iload 5, 2) := by decide +kernel
theorem dX11_init_51 : decode cX11_init 51 = .ok (.aload 4, 2) := by decide +kernel
theorem dX11_init_53 : decode cX11_init 53 = .ok (.arraylength, 1) := by decide +kernel
theorem dX11_init_54 : decode cX11_init 54 = .ok (.if_icmp .ge 37, 3) := by decide +kernel
theorem dX11_init_57 : decode cX11_init 57 = .ok (.iconst 0, 1) := by decide +kernel
theorem dX11_init_58 : decode cX11_init 58 = .ok (.istore 6, 2) := by decide +kernel
theorem dX11_init_60 : decode cX11_init 60 = .ok (.iload 6, 2) := by decide +kernel
theorem dX11_init_62 : decode cX11_init 62 = .ok (.aload_n 3, 1) := by decide +kernel
theorem dX11_init_63 : decode cX11_init 63 = .ok (.arraylength, 1) := by decide +kernel
theorem dX11_init_64 : decode cX11_init 64 = .ok (.if_icmp .ge 21, 3) := by decide +kernel
theorem dX11_init_67 : decode cX11_init 67 = .ok (.aload_n 0, 1) := by decide +kernel
theorem dX11_init_68 : decode cX11_init 68 = .ok (.getfield 28, 3) := by decide +kernel
theorem dX11_init_71 : decode cX11_init 71 = .ok (.iload 5, 2) := by decide +kernel
theorem dX11_init_73 : decode cX11_init 73 = .ok (.aaload, 1) := by decide +kernel
theorem dX11_init_74 : decode cX11_init 74 = .ok (.iload 6, 2) := by decide +kernel
theorem dX11_init_76 : decode cX11_init 76 = .ok (.iload 6, 2) := by decide +kernel
theorem dX11_init_78 : decode cX11_init 78 = .ok (.iastore, 1) := by decide +kernel
theorem dX11_init_79 : decode cX11_init 79 = .ok (.iinc 6 1, 3) := by decide +kernel
theorem dX11_init_82 : decode cX11_init 82 = .ok (.goto (-22), 3) := by decide +kernel
theorem dX11_init_85 : decode cX11_init 85 = .ok (.iinc 5 1, 3) := by decide +kernel
theorem dX11_init_88 : decode cX11_init 88 = .ok (.goto (-39), 3) := by decide +kernel
theorem dX11_init_91 : decode cX11_init 91 = .ok (.return_, 1) := by decide +kernel
theorem dX11_conjugate_0 : decode cX11_conjugate 0 = .ok (.aload_n 0, 1) := by decide +kernel
theorem dX11_conjugate_1 : decode cX11_conjugate 1 = .ok (.getfield 16, 3) := by decide +kernel
theorem dX11_conjugate_4 : decode cX11_conjugate 4 = .ok (.aload_n 0, 1) := by decide +kernel
theorem dX11_conjugate_5 : decode cX11_conjugate 5 = .ok (.getfield 16, 3) := by decide +kernel
theorem dX11_conjugate_8 : decode cX11_conjugate 8 = .ok (.iload_n 1, 1) := by decide +kernel
theorem dX11_conjugate_9 : decode cX11_conjugate 9 = .ok (.aaload, 1) := by decide +kernel
theorem dX11_conjugate_10 : decode cX11_conjugate 10 = .ok (.iload_n 2, 1) := by decide +kernel
theorem dX11_conjugate_11 : decode cX11_conjugate 11 = .ok (.iaload, 1) := by decide +kernel
theorem dX11_conjugate_12 : decode cX11_conjugate 12 = .ok (.aaload, 1) := by decide +kernel
theorem dX11_conjugate_13 : decode cX11_conjugate 13 = .ok (.aload_n 0, 1) := by decide +kernel
theorem dX11_conjugate_14 : decode cX11_conjugate 14 = .ok (.getfield 16, 3) := by decide +kernel
theorem dX11_conjugate_17 : decode cX11_conjugate 17 = .ok (.iload_n 1, 1) := by decide +kernel
theorem dX11_conjugate_18 : decode cX11_conjugate 18 = .ok (.invokestatic 31, 3) := by decide +kernel
theorem dX11_conjugate_21 : decode cX11_conjugate 21 = .ok (.iaload, 1) := by decide +kernel
theorem dX11_conjugate_22 : decode cX11_conjugate 22 = .ok (.ireturn, 1) := by decide +kernel
theorem dX11_why_0 : decode cX11_why 0 = .ok (.bipush 9, 2) := by decide +kernel
theorem dX11_why_2 : decode cX11_why 2 = .ok (.istore_n 1, 1) := by decide +kernel
theorem dX11_why_3 : decode cX11_why 3 = .ok (.aload_n 0, 1) := by decide +kernel
theorem dX11_why_4 : decode cX11_why 4 = .ok (.getfield 20, 3) := by decide +kernel
theorem dX11_why_7 : decode cX11_why 7 = .ok (.arraylength, 1) := by decide +kernel
theorem dX11_why_8 : decode cX11_why 8 = .ok (.istore_n 2, 1) := by decide +kernel
theorem dX11_why_9 : decode cX11_why 9 = .ok (.aload_n 0, 1) := by decide +kernel
theorem dX11_why_10 : decode cX11_why 10 = .ok (.getfield 16, 3) := by decide +kernel
theorem dX11_why_13 : decode cX11_why 13 = .ok (.arraylength, 1) := by decide +kernel
theorem dX11_why_14 : decode cX11_why 14 = .ok (.istore_n 3, 1) := by decide +kernel
theorem dX11_why_15 : decode cX11_why 15 = .ok (.iconst 0, 1) := by decide +kernel
theorem dX11_why_16 : decode cX11_why 16 = .ok (.istore 4, 2) := by decide +kernel
theorem dX11_why_18 : decode cX11_why 18 = .ok (.iload 4, 2) := by decide +kernel
theorem dX11_why_20 : decode cX11_why 20 = .ok (.iload_n 3, 1) := by decide +kernel
theorem dX11_why_21 : decode cX11_why 21 = .ok (.if_icmp .ge 64, 3) := by decide +kernel
theorem dX11_why_24 : decode cX11_why 24 = .ok (.iconst 0, 1) := by decide +kernel
theorem dX11_why_25 : decode cX11_why 25 = .ok (.istore 5, 2) := by decide +kernel
theorem dX11_why_27 : decode cX11_why 27 = .ok (.iload 5, 2) := by decide +kernel
theorem dX11_why_29 : decode cX11_why 29 = .ok (.iload_n 3, 1) := by decide +kernel
theorem dX11_why_30 : decode cX11_why 30 = .ok (.if_icmp .ge 49, 3) := by decide +kernel
theorem dX11_why_33 : decode cX11_why 33 = .ok (.aload_n 0, 1) := by decide +kernel
theorem dX11_why_34 : decode cX11_why 34 = .ok (.getfield 23, 3) := by decide +kernel
theorem dX11_why_37 : decode cX11_why 37 = .ok (.aload_n 0, 1) := by decide +kernel
theorem dX11_why_38 : decode cX11_why 38 = .ok (.getfield 16, 3) := by decide +kernel
theorem dX11_why_41 : decode cX11_why 41 = .ok (.iload 4, 2) := by decide +kernel
theorem dX11_why_43 : decode cX11_why 43 = .ok (.aaload, 1) := by decide +kernel
theorem dX11_why_44 : decode cX11_why 44 = .ok (.iload 5, 2) := by decide +kernel
theorem dX11_why_46 : decode cX11_why 46 = .ok (.iaload, 1) := by decide +kernel
theorem dX11_why_47 : decode cX11_why 47 = .ok (.iaload, 1) := by decide +kernel
theorem dX11_why_48 : decode cX11_why 48 = .ok (.aload_n 0, 1) := by decide +kernel
theorem dX11_why_49 : decode cX11_why 49 = .ok (.getfield 20, 3) := by decide +kernel
theorem dX11_why_52 : decode cX11_why 52 = .ok (.aload_n 0, 1) := by decide +kernel
theorem dX11_why_53 : decode cX11_why 53 = .ok (.getfield 23, 3) := by decide +kernel
theorem dX11_why_56 : decode cX11_why 56 = .ok (.iload 4, 2) := by decide +kernel
theorem dX11_why_58 : decode cX11_why 58 = .ok (.iaload, 1) := by decide +kernel
theorem dX11_why_59 : decode cX11_why 59 = .ok (.aaload, 1) := by decide +kernel
theorem dX11_why_60 : decode cX11_why 60 = .ok (.aload_n 0, 1) := by decide +kernel
theorem dX11_why_61 : decode cX11_why 61 = .ok (.getfield 23, 3) := by decide +kernel
theorem dX11_why_64 : decode cX11_why 64 = .ok (.iload 5, 2) := by decide +kernel
theorem dX11_why_66 : decode cX11_why 66 = .ok (.iaload, 1) := by decide +kernel
theorem dX11_why_67 : decode cX11_why 67 = .ok (.iaload, 1) := by decide +kernel
theorem dX11_why_68 : decode cX11_why 68 = .ok (.if_icmp .eq 5, 3) := by decide +kernel
theorem dX11_why_71 : decode cX11_why 71 = .ok (.iconst 1, 1) := by decide +kernel
theorem dX11_why_72 : decode cX11_why 72 = .ok (.istore_n 1, 1) := by decide +kernel
theorem dX11_why_73 : decode cX11_why 73 = .ok (.iinc 5 1, 3) := by decide +kernel
theorem dX11_why_76 : decode cX11_why 76 = .ok (.goto (-49), 3) := by decide +kernel
theorem dX11_why_79 : decode cX11_why 79 = .ok (.iinc 4 1, 3) := by decide +kernel
theorem dX11_why_82 : decode cX11_why 82 = .ok (.goto (-64), 3) := by decide +kernel
theorem dX11_why_85 : decode cX11_why 85 = .ok (.iconst 0, 1) := by decide +kernel
theorem dX11_why_86 : decode cX11_why 86 = .ok (.istore 4, 2) := by decide +kernel
theorem dX11_why_88 : decode cX11_why 88 = .ok (.iload 4, 2) := by decide +kernel
theorem dX11_why_90 : decode cX11_why 90 = .ok (.iload_n 2, 1) := by decide +kernel
theorem dX11_why_91 : decode cX11_why 91 = .ok (.if_icmp .ge 123, 3) := by decide +kernel
theorem dX11_why_94 : decode cX11_why 94 = .ok (.iload_n 1, 1) := by decide +kernel
theorem dX11_why_95 : decode cX11_why 95 = .ok (.iconst 2, 1) := by decide +kernel
theorem dX11_why_96 : decode cX11_why 96 = .ok (.if_icmp .le 118, 3) := by decide +kernel
theorem dX11_why_99 : decode cX11_why 99 = .ok (.iconst 0, 1) := by decide +kernel
theorem dX11_why_100 : decode cX11_why 100 = .ok (.istore 5, 2) := by decide +kernel
theorem dX11_why_102 : decode cX11_why 102 = .ok (.iload 5, 2) := by decide +kernel
theorem dX11_why_104 : decode cX11_why 104 = .ok (.iload_n 3, 1) := by decide +kernel
theorem dX11_why_105 : decode cX11_why 105 = .ok (.if_icmp .ge 103, 3) := by decide +kernel
theorem dX11_why_108 : decode cX11_why 108 = .ok (.iconst 0, 1) := by decide +kernel
theorem dX11_why_109 : decode cX11_why 109 = .ok (.istore 6, 2) := by decide +kernel
theorem dX11_why_111 : decode cX11_why 111 = .ok (.iload 6, 2) := by decide +kernel
theorem dX11_why_113 : decode cX11_why 113 = .ok (.iload_n 3, 1) := by decide +kernel
theorem dX11_why_114 : decode cX11_why 114 = .ok (.if_icmp .ge 88, 3) := by decide +kernel
theorem dX11_why_117 : decode cX11_why 117 = .ok (.iload 5, 2) := by decide +kernel
theorem dX11_why_119 : decode cX11_why 119 = .ok (.iload 6, 2) := by decide +kernel
theorem dX11_why_121 : decode cX11_why 121 = .ok (.if_icmp .eq 26, 3) := by decide +kernel
theorem dX11_why_124 : decode cX11_why 124 = .ok (.aload_n 0, 1) := by decide +kernel
theorem dX11_why_125 : decode cX11_why 125 = .ok (.getfield 28, 3) := by decide +kernel
theorem dX11_why_128 : decode cX11_why 128 = .ok (.iload 4, 2) := by decide +kernel
theorem dX11_why_130 : decode cX11_why 130 = .ok (.aaload, 1) := by decide +kernel
theorem dX11_why_131 : decode cX11_why 131 = .ok (.iload 5, 2) := by decide +kernel
theorem dX11_why_133 : decode cX11_why 133 = .ok (.iaload, 1) := by decide +kernel
theorem dX11_why_134 : decode cX11_why 134 = .ok (.aload_n 0, 1) := by decide +kernel
theorem dX11_why_135 : decode cX11_why 135 = .ok (.getfield 28, 3) := by decide +kernel
theorem dX11_why_138 : decode cX11_why 138 = .ok (.iload 4, 2) := by decide +kernel
theorem dX11_why_140 : decode cX11_why 140 = .ok (.aaload, 1) := by decide +kernel
theorem dX11_why_141 : decode cX11_why 141 = .ok (.iload 6, 2) := by decide +kernel
theorem dX11_why_143 : decode cX11_why 143 = .ok (.iaload, 1) := by decide +kernel
theorem dX11_why_144 : decode cX11_why 144 = .ok (.if_icmp .eq 50, 3) := by decide +kernel
theorem dX11_why_147 : decode cX11_why 147 = .ok (.aload_n 0, 1) := by decide +kernel
theorem dX11_why_148 : decode cX11_why 148 = .ok (.getfield 28, 3) := by decide +kernel
theorem dX11_why_151 : decode cX11_why 151 = .ok (.iload 4, 2) := by decide +kernel
theorem dX11_why_153 : decode cX11_why 153 = .ok (.aaload, 1) := by decide +kernel
theorem dX11_why_154 : decode cX11_why 154 = .ok (.aload_n 0, 1) := by decide +kernel
theorem dX11_why_155 : decode cX11_why 155 = .ok (.getfield 16, 3) := by decide +kernel
theorem dX11_why_158 : decode cX11_why 158 = .ok (.iload 5, 2) := by decide +kernel
theorem dX11_why_160 : decode cX11_why 160 = .ok (.aaload, 1) := by decide +kernel
theorem dX11_why_161 : decode cX11_why 161 = .ok (.iload 6, 2) := by decide +kernel
theorem dX11_why_163 : decode cX11_why 163 = .ok (.iaload, 1) := by decide +kernel
theorem dX11_why_164 : decode cX11_why 164 = .ok (.iaload, 1) := by decide +kernel
theorem dX11_why_165 : decode cX11_why 165 = .ok (.aload_n 0, 1) := by decide +kernel
theorem dX11_why_166 : decode cX11_why 166 = .ok (.getfield 16, 3) := by decide +kernel
theorem dX11_why_169 : decode cX11_why 169 = .ok (.aload_n 0, 1) := by decide +kernel
theorem dX11_why_170 : decode cX11_why 170 = .ok (.getfield 28, 3) := by decide +kernel
theorem dX11_why_173 : decode cX11_why 173 = .ok (.iload 4, 2) := by decide +kernel
theorem dX11_why_175 : decode cX11_why 175 = .ok (.aaload, 1) := by decide +kernel
theorem dX11_why_176 : decode cX11_why 176 = .ok (.iload 5, 2) := by decide +kernel
theorem dX11_why_178 : decode cX11_why 178 = .ok (.iaload, 1) := by decide +kernel
theorem dX11_why_179 : decode cX11_why 179 = .ok (.aaload, 1) := by decide +kernel
theorem dX11_why_180 : decode cX11_why 180 = .ok (.aload_n 0, 1) := by decide +kernel
theorem dX11_why_181 : decode cX11_why 181 = .ok (.getfield 28, 3) := by decide +kernel
theorem dX11_why_184 : decode cX11_why 184 = .ok (.iload 4, 2) := by decide +kernel
theorem dX11_why_186 : decode cX11_why 186 = .ok (.aaload, 1) := by decide +kernel
theorem dX11_why_187 : decode cX11_why 187 = .ok (.iload 6, 2) := by decide +kernel
theorem dX11_why_189 : decode cX11_why 189 = .ok (.iaload, 1) := by decide +kernel
theorem dX11_why_190 : decode cX11_why 190 = .ok (.iaload, 1) := by decide +kernel
theorem dX11_why_191 : decode cX11_why 191 = .ok (.if_icmp .eq 5, 3) := by decide +kernel
theorem dX11_why_194 : decode cX11_why 194 = .ok (.iconst 2, 1) := by decide +kernel
theorem dX11_why_195 : decode cX11_why 195 = .ok (.istore_n 1, 1) := by decide +kernel
theorem dX11_why_196 : decode cX11_why 196 = .ok (.iinc 6 1, 3) := by decide +kernel
theorem dX11_why_199 : decode cX11_why 199 = .ok (.goto (-88), 3) := by decide +kernel
theorem dX11_why_202 : decode cX11_why 202 = .ok (.iinc 5 1, 3) := by decide +kernel
theorem dX11_why_205 : decode cX11_why 205 = .ok (.goto (-103), 3) := by decide +kernel
theorem dX11_why_208 : decode cX11_why 208 = .ok (.iinc 4 1, 3) := by decide +kernel
theorem dX11_why_211 : decode cX11_why 211 = .ok (.goto (-123), 3) := by decide +kernel
theorem dX11_why_214 : decode cX11_why 214 = .ok (.iconst 0, 1) := by decide +kernel
theorem dX11_why_215 : decode cX11_why 215 = .ok (.istore 4, 2) := by decide +kernel
theorem dX11_why_217 : decode cX11_why 217 = .ok (.iload 4, 2) := by decide +kernel
theorem dX11_why_219 : decode cX11_why 219 = .ok (.iload_n 2, 1) := by decide +kernel
theorem dX11_why_220 : decode cX11_why 220 = .ok (.if_icmp .ge 99, 3) := by decide +kernel
theorem dX11_why_223 : decode cX11_why 223 = .ok (.iload_n 1, 1) := by decide +kernel
theorem dX11_why_224 : decode cX11_why 224 = .ok (.iconst 3, 1) := by decide +kernel
theorem dX11_why_225 : decode cX11_why 225 = .ok (.if_icmp .le 94, 3) := by decide +kernel
theorem dX11_why_228 : decode cX11_why 228 = .ok (.iconst 0, 1) := by decide +kernel
theorem dX11_why_229 : decode cX11_why 229 = .ok (.istore 5, 2) := by decide +kernel
theorem dX11_why_231 : decode cX11_why 231 = .ok (.iload 5, 2) := by decide +kernel
theorem dX11_why_233 : decode cX11_why 233 = .ok (.iload_n 2, 1) := by decide +kernel
theorem dX11_why_234 : decode cX11_why 234 = .ok (.if_icmp .ge 79, 3) := by decide +kernel
theorem dX11_why_237 : decode cX11_why 237 = .ok (.iconst 0, 1) := by decide +kernel
theorem dX11_why_238 : decode cX11_why 238 = .ok (.istore 6, 2) := by decide +kernel
theorem dX11_why_240 : decode cX11_why 240 = .ok (.iload 6, 2) := by decide +kernel
theorem dX11_why_242 : decode cX11_why 242 = .ok (.iload_n 3, 1) := by decide +kernel
theorem dX11_why_243 : decode cX11_why 243 = .ok (.if_icmp .ge 64, 3) := by decide +kernel
theorem dX11_why_246 : decode cX11_why 246 = .ok (.aload_n 0, 1) := by decide +kernel
theorem dX11_why_247 : decode cX11_why 247 = .ok (.getfield 28, 3) := by decide +kernel
theorem dX11_why_250 : decode cX11_why 250 = .ok (.iconst 0, 1) := by decide +kernel
theorem dX11_why_251 : decode cX11_why 251 = .ok (.aaload, 1) := by decide +kernel
theorem dX11_why_252 : decode cX11_why 252 = .ok (.iload 6, 2) := by decide +kernel
theorem dX11_why_254 : decode cX11_why 254 = .ok (.iaload, 1) := by decide +kernel
theorem dX11_why_255 : decode cX11_why 255 = .ok (.iload 6, 2) := by decide +kernel
theorem dX11_why_257 : decode cX11_why 257 = .ok (.if_icmp .ne 42, 3) := by decide +kernel
theorem dX11_why_260 : decode cX11_why 260 = .ok (.aload_n 0, 1) := by decide +kernel
theorem dX11_why_261 : decode cX11_why 261 = .ok (.getfield 28, 3) := by decide +kernel
theorem dX11_why_264 : decode cX11_why 264 = .ok (.aload_n 0, 1) := by decide +kernel
theorem dX11_why_265 : decode cX11_why 265 = .ok (.getfield 20, 3) := by decide +kernel
theorem dX11_why_268 : decode cX11_why 268 = .ok (.iload 4, 2) := by decide +kernel
theorem dX11_why_270 : decode cX11_why 270 = .ok (.aaload, 1) := by decide +kernel
theorem dX11_why_271 : decode cX11_why 271 = .ok (.iload 5, 2) := by decide +kernel
theorem dX11_why_273 : decode cX11_why 273 = .ok (.iaload, 1) := by decide +kernel
theorem dX11_why_274 : decode cX11_why 274 = .ok (.aaload, 1) := by decide +kernel
theorem dX11_why_275 : decode cX11_why 275 = .ok (.iload 6, 2) := by decide +kernel
theorem dX11_why_277 : decode cX11_why 277 = .ok (.iaload, 1) := by decide +kernel
theorem dX11_why_278 : decode cX11_why 278 = .ok (.aload_n 0, 1) := by decide +kernel
theorem dX11_why_279 : decode cX11_why 279 = .ok (.getfield 28, 3) := by decide +kernel
theorem dX11_why_282 : decode cX11_why 282 = .ok (.iload 4, 2) := by decide +kernel
theorem dX11_why_284 : decode cX11_why 284 = .ok (.aaload, 1) := by decide +kernel
theorem dX11_why_285 : decode cX11_why 285 = .ok (.aload_n 0, 1) := by decide +kernel
theorem dX11_why_286 : decode cX11_why 286 = .ok (.getfield 28, 3) := by decide +kernel
theorem dX11_why_289 : decode cX11_why 289 = .ok (.iload 5, 2) := by decide +kernel
theorem dX11_why_291 : decode cX11_why 291 = .ok (.aaload, 1) := by decide +kernel
theorem dX11_why_292 : decode cX11_why 292 = .ok (.iload 6, 2) := by decide +kernel
theorem dX11_why_294 : decode cX11_why 294 = .ok (.iaload, 1) := by decide +kernel
theorem dX11_why_295 : decode cX11_why 295 = .ok (.iaload, 1) := by decide +kernel
theorem dX11_why_296 : decode cX11_why 296 = .ok (.if_icmp .eq 5, 3) := by decide +kernel
theorem dX11_why_299 : decode cX11_why 299 = .ok (.iconst 3, 1) := by decide +kernel
theorem dX11_why_300 : decode cX11_why 300 = .ok (.istore_n 1, 1) := by decide +kernel
theorem dX11_why_301 : decode cX11_why 301 = .ok (.iinc 6 1, 3) := by decide +kernel
theorem dX11_why_304 : decode cX11_why 304 = .ok (.goto (-64), 3) := by decide +kernel
theorem dX11_why_307 : decode cX11_why 307 = .ok (.iinc 5 1, 3) := by decide +kernel
theorem dX11_why_310 : decode cX11_why 310 = .ok (.goto (-79), 3) := by decide +kernel
theorem dX11_why_313 : decode cX11_why 313 = .ok (.iinc 4 1, 3) := by decide +kernel
theorem dX11_why_316 : decode cX11_why 316 = .ok (.goto (-99), 3) := by decide +kernel
theorem dX11_why_319 : decode cX11_why 319 = .ok (.iconst 0, 1) := by decide +kernel
theorem dX11_why_320 : decode cX11_why 320 = .ok (.istore 4, 2) := by decide +kernel
theorem dX11_why_322 : decode cX11_why 322 = .ok (.iload 4, 2) := by decide +kernel
theorem dX11_why_324 : decode cX11_why 324 = .ok (.iload_n 2, 1) := by decide +kernel
theorem dX11_why_325 : decode cX11_why 325 = .ok (.if_icmp .ge 79, 3) := by decide +kernel
theorem dX11_why_328 : decode cX11_why 328 = .ok (.iload_n 1, 1) := by decide +kernel
theorem dX11_why_329 : decode cX11_why 329 = .ok (.iconst 4, 1) := by decide +kernel
theorem dX11_why_330 : decode cX11_why 330 = .ok (.if_icmp .le 74, 3) := by decide +kernel
theorem dX11_why_333 : decode cX11_why 333 = .ok (.iconst 0, 1) := by decide +kernel
theorem dX11_why_334 : decode cX11_why 334 = .ok (.istore 5, 2) := by decide +kernel
theorem dX11_why_336 : decode cX11_why 336 = .ok (.iload 5, 2) := by decide +kernel
theorem dX11_why_338 : decode cX11_why 338 = .ok (.iload_n 3, 1) := by decide +kernel
theorem dX11_why_339 : decode cX11_why 339 = .ok (.if_icmp .ge 59, 3) := by decide +kernel
theorem dX11_why_342 : decode cX11_why 342 = .ok (.aload_n 0, 1) := by decide +kernel
theorem dX11_why_343 : decode cX11_why 343 = .ok (.getfield 23, 3) := by decide +kernel
theorem dX11_why_346 : decode cX11_why 346 = .ok (.aload_n 0, 1) := by decide +kernel
theorem dX11_why_347 : decode cX11_why 347 = .ok (.getfield 28, 3) := by decide +kernel
theorem dX11_why_350 : decode cX11_why 350 = .ok (.iload 4, 2) := by decide +kernel
theorem dX11_why_352 : decode cX11_why 352 = .ok (.aaload, 1) := by decide +kernel
theorem dX11_why_353 : decode cX11_why 353 = .ok (.iload 5, 2) := by decide +kernel
theorem dX11_why_355 : decode cX11_why 355 = .ok (.iaload, 1) := by decide +kernel
theorem dX11_why_356 : decode cX11_why 356 = .ok (.iaload, 1) := by decide +kernel
theorem dX11_why_357 : decode cX11_why 357 = .ok (.aload_n 0, 1) := by decide +kernel
theorem dX11_why_358 : decode cX11_why 358 = .ok (.getfield 20, 3) := by decide +kernel
theorem dX11_why_361 : decode cX11_why 361 = .ok (.aload_n 0, 1) := by decide +kernel
theorem dX11_why_362 : decode cX11_why 362 = .ok (.getfield 20, 3) := by decide +kernel
theorem dX11_why_365 : decode cX11_why 365 = .ok (.iload 4, 2) := by decide +kernel
theorem dX11_why_367 : decode cX11_why 367 = .ok (.aaload, 1) := by decide +kernel
theorem dX11_why_368 : decode cX11_why 368 = .ok (.aload_n 0, 1) := by decide +kernel
theorem dX11_why_369 : decode cX11_why 369 = .ok (.getfield 23, 3) := by decide +kernel
theorem dX11_why_372 : decode cX11_why 372 = .ok (.iload 5, 2) := by decide +kernel
theorem dX11_why_374 : decode cX11_why 374 = .ok (.iaload, 1) := by decide +kernel
theorem dX11_why_375 : decode cX11_why 375 = .ok (.iaload, 1) := by decide +kernel
theorem dX11_why_376 : decode cX11_why 376 = .ok (.aaload, 1) := by decide +kernel
theorem dX11_why_377 : decode cX11_why 377 = .ok (.aload_n 0, 1) := by decide +kernel
theorem dX11_why_378 : decode cX11_why 378 = .ok (.getfield 20, 3) := by decide +kernel
theorem dX11_why_381 : decode cX11_why 381 = .ok (.iload 4, 2) := by decide +kernel
theorem dX11_why_383 : decode cX11_why 383 = .ok (.invokestatic 31, 3) := by decide +kernel
theorem dX11_why_386 : decode cX11_why 386 = .ok (.iaload, 1) := by decide +kernel
theorem dX11_why_387 : decode cX11_why 387 = .ok (.if_icmp .eq 5, 3) := by decide +kernel
theorem dX11_why_390 : decode cX11_why 390 = .ok (.iconst 4, 1) := by decide +kernel
theorem dX11_why_391 : decode cX11_why 391 = .ok (.istore_n 1, 1) := by decide +kernel
theorem dX11_why_392 : decode cX11_why 392 = .ok (.iinc 5 1, 3) := by decide +kernel
theorem dX11_why_395 : decode cX11_why 395 = .ok (.goto (-59), 3) := by decide +kernel
theorem dX11_why_398 : decode cX11_why 398 = .ok (.iinc 4 1, 3) := by decide +kernel
theorem dX11_why_401 : decode cX11_why 401 = .ok (.goto (-79), 3) := by decide +kernel
theorem dX11_why_404 : decode cX11_why 404 = .ok (.iconst 0, 1) := by decide +kernel
theorem dX11_why_405 : decode cX11_why 405 = .ok (.istore 4, 2) := by decide +kernel
theorem dX11_why_407 : decode cX11_why 407 = .ok (.iload 4, 2) := by decide +kernel
theorem dX11_why_409 : decode cX11_why 409 = .ok (.iload_n 3, 1) := by decide +kernel
theorem dX11_why_410 : decode cX11_why 410 = .ok (.if_icmp .ge 57, 3) := by decide +kernel
theorem dX11_why_413 : decode cX11_why 413 = .ok (.iload_n 1, 1) := by decide +kernel
theorem dX11_why_414 : decode cX11_why 414 = .ok (.iconst 5, 1) := by decide +kernel
theorem dX11_why_415 : decode cX11_why 415 = .ok (.if_icmp .le 52, 3) := by decide +kernel
theorem dX11_why_418 : decode cX11_why 418 = .ok (.iconst 0, 1) := by decide +kernel
theorem dX11_why_419 : decode cX11_why 419 = .ok (.istore 5, 2) := by decide +kernel
theorem dX11_why_421 : decode cX11_why 421 = .ok (.iload 5, 2) := by decide +kernel
theorem dX11_why_423 : decode cX11_why 423 = .ok (.iload_n 3, 1) := by decide +kernel
theorem dX11_why_424 : decode cX11_why 424 = .ok (.if_icmp .ge 37, 3) := by decide +kernel
theorem dX11_why_427 : decode cX11_why 427 = .ok (.aload_n 0, 1) := by decide +kernel
theorem dX11_why_428 : decode cX11_why 428 = .ok (.getfield 28, 3) := by decide +kernel
theorem dX11_why_431 : decode cX11_why 431 = .ok (.aload_n 0, 1) := by decide +kernel
theorem dX11_why_432 : decode cX11_why 432 = .ok (.getfield 23, 3) := by decide +kernel
theorem dX11_why_435 : decode cX11_why 435 = .ok (.iload 4, 2) := by decide +kernel
theorem dX11_why_437 : decode cX11_why 437 = .ok (.iaload, 1) := by decide +kernel
theorem dX11_why_438 : decode cX11_why 438 = .ok (.aaload, 1) := by decide +kernel
theorem dX11_why_439 : decode cX11_why 439 = .ok (.iload 5, 2) := by decide +kernel
theorem dX11_why_441 : decode cX11_why 441 = .ok (.iaload, 1) := by decide +kernel
theorem dX11_why_442 : decode cX11_why 442 = .ok (.aload_n 0, 1) := by decide +kernel
theorem dX11_why_443 : decode cX11_why 443 = .ok (.iload 4, 2) := by decide +kernel
theorem dX11_why_445 : decode cX11_why 445 = .ok (.iload 5, 2) := by decide +kernel
theorem dX11_why_447 : decode cX11_why 447 = .ok (.invokevirtual 37, 3) := by decide +kernel
theorem dX11_why_450 : decode cX11_why 450 = .ok (.if_icmp .eq 5, 3) := by decide +kernel
theorem dX11_why_453 : decode cX11_why 453 = .ok (.iconst 5, 1) := by decide +kernel
theorem dX11_why_454 : decode cX11_why 454 = .ok (.istore_n 1, 1) := by decide +kernel
theorem dX11_why_455 : decode cX11_why 455 = .ok (.iinc 5 1, 3) := by decide +kernel
theorem dX11_why_458 : decode cX11_why 458 = .ok (.goto (-37), 3) := by decide +kernel
theorem dX11_why_461 : decode cX11_why 461 = .ok (.iinc 4 1, 3) := by decide +kernel
theorem dX11_why_464 : decode cX11_why 464 = .ok (.goto (-57), 3) := by decide +kernel
theorem dX11_why_467 : decode cX11_why 467 = .ok (.iload_n 1, 1) := by decide +kernel
theorem dX11_why_468 : decode cX11_why 468 = .ok (.bipush 9, 2) := by decide +kernel
theorem dX11_why_470 : decode cX11_why 470 = .ok (.if_icmp .ne 7, 3) := by decide +kernel
theorem dX11_why_473 : decode cX11_why 473 = .ok (.iconst 0, 1) := by decide +kernel
theorem dX11_why_474 : decode cX11_why 474 = .ok (.goto 4, 3) := by decide +kernel
theorem dX11_why_477 : decode cX11_why 477 = .ok (.iload_n 1, 1) := by decide +kernel
theorem dX11_why_478 : decode cX11_why 478 = .ok (.ireturn, 1) := by decide +kernel
theorem dX11_kernel_0 : decode cX11_kernel 0 = .ok (.iconst 0, 1) := by decide +kernel
theorem dX11_kernel_1 : decode cX11_kernel 1 = .ok (.istore_n 1, 1) := by decide +kernel
theorem dX11_kernel_2 : decode cX11_kernel 2 = .ok (.iconst 0, 1) := by decide +kernel
theorem dX11_kernel_3 : decode cX11_kernel 3 = .ok (.istore_n 2, 1) := by decide +kernel
theorem dX11_kernel_4 : decode cX11_kernel 4 = .ok (.iload_n 2, 1) := by decide +kernel
theorem dX11_kernel_5 : decode cX11_kernel 5 = .ok (.aload_n 0, 1) := by decide +kernel
theorem dX11_kernel_6 : decode cX11_kernel 6 = .ok (.getfield 16, 3) := by decide +kernel
theorem dX11_kernel_9 : decode cX11_kernel 9 = .ok (.arraylength, 1) := by decide +kernel
theorem dX11_kernel_10 : decode cX11_kernel 10 = .ok (.if_icmp .ge 28, 3) := by decide +kernel
theorem dX11_kernel_13 : decode cX11_kernel 13 = .ok (.iload_n 1, 1) := by decide +kernel
theorem dX11_kernel_14 : decode cX11_kernel 14 = .ok (.aload_n 0, 1) := by decide +kernel
theorem dX11_kernel_15 : decode cX11_kernel 15 = .ok (.getfield 23, 3) := by decide +kernel
theorem dX11_kernel_18 : decode cX11_kernel 18 = .ok (.iload_n 2, 1) := by decide +kernel
theorem dX11_kernel_19 : decode cX11_kernel 19 = .ok (.iaload, 1) := by decide +kernel
theorem dX11_kernel_20 : decode cX11_kernel 20 = .ok (.ifCond .ne 9, 3) := by decide +kernel
theorem dX11_kernel_23 : decode cX11_kernel 23 = .ok (.iconst 1, 1) := by decide +kernel
theorem dX11_kernel_24 : decode cX11_kernel 24 = .ok (.iload_n 2, 1) := by decide +kernel
theorem dX11_kernel_25 : decode cX11_kernel 25 = .ok (.ishl, 1) := by decide +kernel
theorem dX11_kernel_26 : decode cX11_kernel 26 = .ok (.goto 4, 3) := by decide +kernel
theorem dX11_kernel_29 : decode cX11_kernel 29 = .ok (.iconst 0, 1) := by decide +kernel
theorem dX11_kernel_30 : decode cX11_kernel 30 = .ok (.ior, 1) := by decide +kernel
theorem dX11_kernel_31 : decode cX11_kernel 31 = .ok (.istore_n 1, 1) := by decide +kernel
theorem dX11_kernel_32 : decode cX11_kernel 32 = .ok (.iinc 2 1, 3) := by decide +kernel
theorem dX11_kernel_35 : decode cX11_kernel 35 = .ok (.goto (-31), 3) := by decide +kernel
theorem dX11_kernel_38 : decode cX11_kernel 38 = .ok (.iload_n 1, 1) := by decide +kernel
theorem dX11_kernel_39 : decode cX11_kernel 39 = .ok (.ireturn, 1) := by decide +kernel
theorem dX11_image_0 : decode cX11_image 0 = .ok (.iconst 0, 1) := by decide +kernel
theorem dX11_image_1 : decode cX11_image 1 = .ok (.istore_n 1, 1) := by decide +kernel
theorem dX11_image_2 : decode cX11_image 2 = .ok (.aload_n 0, 1) := by decide +kernel
theorem dX11_image_3 : decode cX11_image 3 = .ok (.getfield 23, 3) := by decide +kernel
theorem dX11_image_6 : decode cX11_image 6 = .ok (.astore_n 2, 1) := by decide +kernel
theorem dX11_image_7 : decode cX11_image 7 = .ok (.aload_n 2, 1) := by decide +kernel
theorem dX11_image_8 : decode cX11_image 8 = .ok (.arraylength, 1) := by decide +kernel
theorem dX11_image_9 : decode cX11_image 9 = .ok (.istore_n 3, 1) := by decide +kernel
theorem dX11_image_10 : decode cX11_image 10 = .ok (.iconst 0, 1) := by decide +kernel
theorem dX11_image_11 : decode cX11_image 11 = .ok (.istore 4, 2) := by decide +kernel
theorem dX11_image_13 : decode cX11_image 13 = .ok (.iload 4, 2) := by decide +kernel
theorem dX11_image_15 : decode cX11_image 15 = .ok (.iload_n 3, 1) := by decide +kernel
theorem dX11_image_16 : decode cX11_image 16 = .ok (.if_icmp .ge 22, 3) := by decide +kernel
theorem dX11_image_19 : decode cX11_image 19 = .ok (.aload_n 2, 1) := by decide +kernel
theorem dX11_image_20 : decode cX11_image 20 = .ok (.iload 4, 2) := by decide +kernel
theorem dX11_image_22 : decode cX11_image 22 = .ok (.iaload, 1) := by decide +kernel
theorem dX11_image_23 : decode cX11_image 23 = .ok (.istore 5, 2) := by decide +kernel
theorem dX11_image_25 : decode cX11_image 25 = .ok (.iload_n 1, 1) := by decide +kernel
theorem dX11_image_26 : decode cX11_image 26 = .ok (.iconst 1, 1) := by decide +kernel
theorem dX11_image_27 : decode cX11_image 27 = .ok (.iload 5, 2) := by decide +kernel
theorem dX11_image_29 : decode cX11_image 29 = .ok (.ishl, 1) := by decide +kernel
theorem dX11_image_30 : decode cX11_image 30 = .ok (.ior, 1) := by decide +kernel
theorem dX11_image_31 : decode cX11_image 31 = .ok (.istore_n 1, 1) := by decide +kernel
theorem dX11_image_32 : decode cX11_image 32 = .ok (.iinc 4 1, 3) := by decide +kernel
theorem dX11_image_35 : decode cX11_image 35 = .ok (.goto (-22), 3) := by decide +kernel
theorem dX11_image_38 : decode cX11_image 38 = .ok (.iload_n 1, 1) := by decide +kernel
theorem dX11_image_39 : decode cX11_image 39 = .ok (.ireturn, 1) := by decide +kernel
theorem dX11_classes_0 : decode cX11_classes 0 = .ok (.aload_n 0, 1) := by decide +kernel
theorem dX11_classes_1 : decode cX11_classes 1 = .ok (.getfield 20, 3) := by decide +kernel
theorem dX11_classes_4 : decode cX11_classes 4 = .ok (.arraylength, 1) := by decide +kernel
theorem dX11_classes_5 : decode cX11_classes 5 = .ok (.newarray .int, 2) := by decide +kernel
theorem dX11_classes_7 : decode cX11_classes 7 = .ok (.astore_n 1, 1) := by decide +kernel
theorem dX11_classes_8 : decode cX11_classes 8 = .ok (.iconst 0, 1) := by decide +kernel
theorem dX11_classes_9 : decode cX11_classes 9 = .ok (.istore_n 2, 1) := by decide +kernel
theorem dX11_classes_10 : decode cX11_classes 10 = .ok (.iconst 0, 1) := by decide +kernel
theorem dX11_classes_11 : decode cX11_classes 11 = .ok (.istore_n 3, 1) := by decide +kernel
theorem dX11_classes_12 : decode cX11_classes 12 = .ok (.iload_n 3, 1) := by decide +kernel
theorem dX11_classes_13 : decode cX11_classes 13 = .ok (.aload_n 1, 1) := by decide +kernel
theorem dX11_classes_14 : decode cX11_classes 14 = .ok (.arraylength, 1) := by decide +kernel
theorem dX11_classes_15 : decode cX11_classes 15 = .ok (.if_icmp .ge 84, 3) := by decide +kernel
theorem dX11_classes_18 : decode cX11_classes 18 = .ok (.aload_n 1, 1) := by decide +kernel
theorem dX11_classes_19 : decode cX11_classes 19 = .ok (.iload_n 3, 1) := by decide +kernel
theorem dX11_classes_20 : decode cX11_classes 20 = .ok (.iconst (-1), 1) := by decide +kernel
theorem dX11_classes_21 : decode cX11_classes 21 = .ok (.iastore, 1) := by decide +kernel
theorem dX11_classes_22 : decode cX11_classes 22 = .ok (.iconst 0, 1) := by decide +kernel
theorem dX11_classes_23 : decode cX11_classes 23 = .ok (.istore 4, 2) := by decide +kernel
theorem dX11_classes_25 : decode cX11_classes 25 = .ok (.iload 4, 2) := by decide +kernel
theorem dX11_classes_27 : decode cX11_classes 27 = .ok (.iload_n 3, 1) := by decide +kernel
theorem dX11_classes_28 : decode cX11_classes 28 = .ok (.if_icmp .ge 49, 3) := by decide +kernel
theorem dX11_classes_31 : decode cX11_classes 31 = .ok (.aload_n 1, 1) := by decide +kernel
theorem dX11_classes_32 : decode cX11_classes 32 = .ok (.iload_n 3, 1) := by decide +kernel
theorem dX11_classes_33 : decode cX11_classes 33 = .ok (.iaload, 1) := by decide +kernel
theorem dX11_classes_34 : decode cX11_classes 34 = .ok (.ifCond .ge 43, 3) := by decide +kernel
theorem dX11_classes_37 : decode cX11_classes 37 = .ok (.aload_n 0, 1) := by decide +kernel
theorem dX11_classes_38 : decode cX11_classes 38 = .ok (.invokevirtual 41, 3) := by decide +kernel
theorem dX11_classes_41 : decode cX11_classes 41 = .ok (.aload_n 0, 1) := by decide +kernel
theorem dX11_classes_42 : decode cX11_classes 42 = .ok (.getfield 20, 3) := by decide +kernel
theorem dX11_classes_45 : decode cX11_classes 45 = .ok (.aload_n 0, 1) := by decide +kernel
theorem dX11_classes_46 : decode cX11_classes 46 = .ok (.getfield 20, 3) := by decide +kernel
theorem dX11_classes_49 : decode cX11_classes 49 = .ok (.iload 4, 2) := by decide +kernel
theorem dX11_classes_51 : decode cX11_classes 51 = .ok (.invokestatic 31, 3) := by decide +kernel
theorem dX11_classes_54 : decode cX11_classes 54 = .ok (.aaload, 1) := by decide +kernel
theorem dX11_classes_55 : decode cX11_classes 55 = .ok (.iload_n 3, 1) := by decide +kernel
theorem dX11_classes_56 : decode cX11_classes 56 = .ok (.iaload, 1) := by decide +kernel
theorem dX11_classes_57 : decode cX11_classes 57 = .ok (.ishr, 1) := by decide +kernel
theorem dX11_classes_58 : decode cX11_classes 58 = .ok (.iconst 1, 1) := by decide +kernel
theorem dX11_classes_59 : decode cX11_classes 59 = .ok (.iand, 1) := by decide +kernel
theorem dX11_classes_60 : decode cX11_classes 60 = .ok (.iconst 1, 1) := by decide +kernel
theorem dX11_classes_61 : decode cX11_classes 61 = .ok (.if_icmp .ne 10, 3) := by decide +kernel
theorem dX11_classes_64 : decode cX11_classes 64 = .ok (.aload_n 1, 1) := by decide +kernel
theorem dX11_classes_65 : decode cX11_classes 65 = .ok (.iload_n 3, 1) := by decide +kernel
theorem dX11_classes_66 : decode cX11_classes 66 = .ok (.aload_n 1, 1) := by decide +kernel
theorem dX11_classes_67 : decode cX11_classes 67 = .ok (.iload 4, 2) := by decide +kernel
theorem dX11_classes_69 : decode cX11_classes 69 = .ok (.iaload, 1) := by decide +kernel
theorem dX11_classes_70 : decode cX11_classes 70 = .ok (.iastore, 1) := by decide +kernel
theorem dX11_classes_71 : decode cX11_classes 71 = .ok (.iinc 4 1, 3) := by decide +kernel
theorem dX11_classes_74 : decode cX11_classes 74 = .ok (.goto (-49), 3) := by decide +kernel
theorem dX11_classes_77 : decode cX11_classes 77 = .ok (.aload_n 1, 1) := by decide +kernel
theorem dX11_classes_78 : decode cX11_classes 78 = .ok (.iload_n 3, 1) := by decide +kernel
theorem dX11_classes_79 : decode cX11_classes 79 = .ok (.iaload, 1) := by decide +kernel
theorem dX11_classes_80 : decode cX11_classes 80 = .ok (.ifCond .lt 6, 3) := by decide +kernel
theorem dX11_classes_83 : decode cX11_classes 83 = .ok (.goto 10, 3) := by decide +kernel
theorem dX11_classes_86 : decode cX11_classes 86 = .ok (.aload_n 1, 1) := by decide +kernel
theorem dX11_classes_87 : decode cX11_classes 87 = .ok (.iload_n 3, 1) := by decide +kernel
theorem dX11_classes_88 : decode cX11_classes 88 = .ok (.iload_n 2, 1) := by decide +kernel
theorem dX11_classes_89 : decode cX11_classes 89 = .ok (.iastore, 1) := by decide +kernel
theorem dX11_classes_90 : decode cX11_classes 90 = .ok (.iinc 2 1, 3) := by decide +kernel
theorem dX11_classes_93 : decode cX11_classes 93 = .ok (.iinc 3 1, 3) := by decide +kernel
theorem dX11_classes_96 : decode cX11_classes 96 = .ok (.goto (-84), 3) := by decide +kernel
theorem dX11_classes_99 : decode cX11_classes 99 = .ok (.aload_n 1, 1) := by decide +kernel
theorem dX11_classes_100 : decode cX11_classes 100 = .ok (.areturn, 1) := by decide +kernel
theorem dX11_leastOf_0 : decode cX11_leastOf 0 = .ok (.aload_n 0, 1) := by decide +kernel
theorem dX11_leastOf_1 : decode cX11_leastOf 1 = .ok (.invokevirtual 45, 3) := by decide +kernel
theorem dX11_leastOf_4 : decode cX11_leastOf 4 = .ok (.astore_n 2, 1) := by decide +kernel
theorem dX11_leastOf_5 : decode cX11_leastOf 5 = .ok (.iconst 0, 1) := by decide +kernel
theorem dX11_leastOf_6 : decode cX11_leastOf 6 = .ok (.istore_n 3, 1) := by decide +kernel
theorem dX11_leastOf_7 : decode cX11_leastOf 7 = .ok (.iload_n 3, 1) := by decide +kernel
theorem dX11_leastOf_8 : decode cX11_leastOf 8 = .ok (.aload_n 2, 1) := by decide +kernel
theorem dX11_leastOf_9 : decode cX11_leastOf 9 = .ok (.arraylength, 1) := by decide +kernel
theorem dX11_leastOf_10 : decode cX11_leastOf 10 = .ok (.if_icmp .ge 16, 3) := by decide +kernel
theorem dX11_leastOf_13 : decode cX11_leastOf 13 = .ok (.aload_n 2, 1) := by decide +kernel
theorem dX11_leastOf_14 : decode cX11_leastOf 14 = .ok (.iload_n 3, 1) := by decide +kernel
theorem dX11_leastOf_15 : decode cX11_leastOf 15 = .ok (.iaload, 1) := by decide +kernel
theorem dX11_leastOf_16 : decode cX11_leastOf 16 = .ok (.iload_n 1, 1) := by decide +kernel
theorem dX11_leastOf_17 : decode cX11_leastOf 17 = .ok (.if_icmp .eq 9, 3) := by decide +kernel
theorem dX11_leastOf_20 : decode cX11_leastOf 20 = .ok (.iinc 3 1, 3) := by decide +kernel
theorem dX11_leastOf_23 : decode cX11_leastOf 23 = .ok (.goto (-16), 3) := by decide +kernel
theorem dX11_leastOf_26 : decode cX11_leastOf 26 = .ok (.iload_n 3, 1) := by decide +kernel
theorem dX11_leastOf_27 : decode cX11_leastOf 27 = .ok (.ireturn, 1) := by decide +kernel
theorem dX11_many_0 : decode cX11_many 0 = .ok (.iconst 0, 1) := by decide +kernel
theorem dX11_many_1 : decode cX11_many 1 = .ok (.istore_n 1, 1) := by decide +kernel
theorem dX11_many_2 : decode cX11_many 2 = .ok (.aload_n 0, 1) := by decide +kernel
theorem dX11_many_3 : decode cX11_many 3 = .ok (.invokevirtual 45, 3) := by decide +kernel
theorem dX11_many_6 : decode cX11_many 6 = .ok (.astore_n 2, 1) := by decide +kernel
theorem dX11_many_7 : decode cX11_many 7 = .ok (.aload_n 2, 1) := by decide +kernel
theorem dX11_many_8 : decode cX11_many 8 = .ok (.arraylength, 1) := by decide +kernel
theorem dX11_many_9 : decode cX11_many 9 = .ok (.istore_n 3, 1) := by decide +kernel
theorem dX11_many_10 : decode cX11_many 10 = .ok (.iconst 0, 1) := by decide +kernel
theorem dX11_many_11 : decode cX11_many 11 = .ok (.istore 4, 2) := by decide +kernel
theorem dX11_many_13 : decode cX11_many 13 = .ok (.iload 4, 2) := by decide +kernel
theorem dX11_many_15 : decode cX11_many 15 = .ok (.iload_n 3, 1) := by decide +kernel
theorem dX11_many_16 : decode cX11_many 16 = .ok (.if_icmp .ge 24, 3) := by decide +kernel
theorem dX11_many_19 : decode cX11_many 19 = .ok (.aload_n 2, 1) := by decide +kernel
theorem dX11_many_20 : decode cX11_many 20 = .ok (.iload 4, 2) := by decide +kernel
theorem dX11_many_22 : decode cX11_many 22 = .ok (.iaload, 1) := by decide +kernel
theorem dX11_many_23 : decode cX11_many 23 = .ok (.istore 5, 2) := by decide +kernel
theorem dX11_many_25 : decode cX11_many 25 = .ok (.iload_n 1, 1) := by decide +kernel
theorem dX11_many_26 : decode cX11_many 26 = .ok (.iload 5, 2) := by decide +kernel
theorem dX11_many_28 : decode cX11_many 28 = .ok (.iconst 1, 1) := by decide +kernel
theorem dX11_many_29 : decode cX11_many 29 = .ok (.iadd, 1) := by decide +kernel
theorem dX11_many_30 : decode cX11_many 30 = .ok (.invokestatic 49, 3) := by decide +kernel
theorem dX11_many_33 : decode cX11_many 33 = .ok (.istore_n 1, 1) := by decide +kernel
theorem dX11_many_34 : decode cX11_many 34 = .ok (.iinc 4 1, 3) := by decide +kernel
theorem dX11_many_37 : decode cX11_many 37 = .ok (.goto (-24), 3) := by decide +kernel
theorem dX11_many_40 : decode cX11_many 40 = .ok (.iload_n 1, 1) := by decide +kernel
theorem dX11_many_41 : decode cX11_many 41 = .ok (.ireturn, 1) := by decide +kernel
theorem dX11_pair_0 : decode cX11_pair 0 = .ok (.bipush 18, 2) := by decide +kernel
theorem dX11_pair_2 : decode cX11_pair 2 = .ok (.newarray .int, 2) := by decide +kernel
theorem dX11_pair_4 : decode cX11_pair 4 = .ok (.astore_n 1, 1) := by decide +kernel
theorem dX11_pair_5 : decode cX11_pair 5 = .ok (.aload_n 0, 1) := by decide +kernel
theorem dX11_pair_6 : decode cX11_pair 6 = .ok (.invokevirtual 45, 3) := by decide +kernel
theorem dX11_pair_9 : decode cX11_pair 9 = .ok (.astore_n 2, 1) := by decide +kernel
theorem dX11_pair_10 : decode cX11_pair 10 = .ok (.iconst 0, 1) := by decide +kernel
theorem dX11_pair_11 : decode cX11_pair 11 = .ok (.istore_n 3, 1) := by decide +kernel
theorem dX11_pair_12 : decode cX11_pair 12 = .ok (.iload_n 3, 1) := by decide +kernel
theorem dX11_pair_13 : decode cX11_pair 13 = .ok (.aload_n 0, 1) := by decide +kernel
theorem dX11_pair_14 : decode cX11_pair 14 = .ok (.getfield 16, 3) := by decide +kernel
theorem dX11_pair_17 : decode cX11_pair 17 = .ok (.arraylength, 1) := by decide +kernel
theorem dX11_pair_18 : decode cX11_pair 18 = .ok (.if_icmp .ge 32, 3) := by decide +kernel
theorem dX11_pair_21 : decode cX11_pair 21 = .ok (.aload_n 0, 1) := by decide +kernel
theorem dX11_pair_22 : decode cX11_pair 22 = .ok (.getfield 23, 3) := by decide +kernel
theorem dX11_pair_25 : decode cX11_pair 25 = .ok (.iload_n 3, 1) := by decide +kernel
theorem dX11_pair_26 : decode cX11_pair 26 = .ok (.iaload, 1) := by decide +kernel
theorem dX11_pair_27 : decode cX11_pair 27 = .ok (.ifCond .ne 17, 3) := by decide +kernel
theorem dX11_pair_30 : decode cX11_pair 30 = .ok (.aload_n 1, 1) := by decide +kernel
theorem dX11_pair_31 : decode cX11_pair 31 = .ok (.aload_n 0, 1) := by decide +kernel
theorem dX11_pair_32 : decode cX11_pair 32 = .ok (.getfield 16, 3) := by decide +kernel
theorem dX11_pair_35 : decode cX11_pair 35 = .ok (.iload_n 3, 1) := by decide +kernel
theorem dX11_pair_36 : decode cX11_pair 36 = .ok (.invokestatic 54, 3) := by decide +kernel
theorem dX11_pair_39 : decode cX11_pair 39 = .ok (.dup2, 1) := by decide +kernel
theorem dX11_pair_40 : decode cX11_pair 40 = .ok (.iaload, 1) := by decide +kernel
theorem dX11_pair_41 : decode cX11_pair 41 = .ok (.iconst 1, 1) := by decide +kernel
theorem dX11_pair_42 : decode cX11_pair 42 = .ok (.iadd, 1) := by decide +kernel
theorem dX11_pair_43 : decode cX11_pair 43 = .ok (.iastore, 1) := by decide +kernel
theorem dX11_pair_44 : decode cX11_pair 44 = .ok (.iinc 3 1, 3) := by decide +kernel
theorem dX11_pair_47 : decode cX11_pair 47 = .ok (.goto (-35), 3) := by decide +kernel
theorem dX11_pair_50 : decode cX11_pair 50 = .ok (.iconst 0, 1) := by decide +kernel
theorem dX11_pair_51 : decode cX11_pair 51 = .ok (.istore_n 3, 1) := by decide +kernel
theorem dX11_pair_52 : decode cX11_pair 52 = .ok (.iload_n 3, 1) := by decide +kernel
theorem dX11_pair_53 : decode cX11_pair 53 = .ok (.aload_n 0, 1) := by decide +kernel
theorem dX11_pair_54 : decode cX11_pair 54 = .ok (.invokevirtual 57, 3) := by decide +kernel
theorem dX11_pair_57 : decode cX11_pair 57 = .ok (.if_icmp .ge 58, 3) := by decide +kernel
theorem dX11_pair_60 : decode cX11_pair 60 = .ok (.iconst 1, 1) := by decide +kernel
theorem dX11_pair_61 : decode cX11_pair 61 = .ok (.istore 4, 2) := by decide +kernel
theorem dX11_pair_63 : decode cX11_pair 63 = .ok (.aload_n 0, 1) := by decide +kernel
theorem dX11_pair_64 : decode cX11_pair 64 = .ok (.iload_n 3, 1) := by decide +kernel
theorem dX11_pair_65 : decode cX11_pair 65 = .ok (.invokevirtual 60, 3) := by decide +kernel
theorem dX11_pair_68 : decode cX11_pair 68 = .ok (.istore 5, 2) := by decide +kernel
theorem dX11_pair_70 : decode cX11_pair 70 = .ok (.aload_n 2, 1) := by decide +kernel
theorem dX11_pair_71 : decode cX11_pair 71 = .ok (.iload 5, 2) := by decide +kernel
theorem dX11_pair_73 : decode cX11_pair 73 = .ok (.iaload, 1) := by decide +kernel
theorem dX11_pair_74 : decode cX11_pair 74 = .ok (.ifCond .eq 24, 3) := by decide +kernel
theorem dX11_pair_77 : decode cX11_pair 77 = .ok (.iinc 4 1, 3) := by decide +kernel
theorem dX11_pair_80 : decode cX11_pair 80 = .ok (.aload_n 0, 1) := by decide +kernel
theorem dX11_pair_81 : decode cX11_pair 81 = .ok (.getfield 20, 3) := by decide +kernel
theorem dX11_pair_84 : decode cX11_pair 84 = .ok (.iload 5, 2) := by decide +kernel
theorem dX11_pair_86 : decode cX11_pair 86 = .ok (.aaload, 1) := by decide +kernel
theorem dX11_pair_87 : decode cX11_pair 87 = .ok (.aload_n 0, 1) := by decide +kernel
theorem dX11_pair_88 : decode cX11_pair 88 = .ok (.iload_n 3, 1) := by decide +kernel
theorem dX11_pair_89 : decode cX11_pair 89 = .ok (.invokevirtual 60, 3) := by decide +kernel
theorem dX11_pair_92 : decode cX11_pair 92 = .ok (.iaload, 1) := by decide +kernel
theorem dX11_pair_93 : decode cX11_pair 93 = .ok (.istore 5, 2) := by decide +kernel
theorem dX11_pair_95 : decode cX11_pair 95 = .ok (.goto (-25), 3) := by decide +kernel
theorem dX11_pair_98 : decode cX11_pair 98 = .ok (.aload_n 1, 1) := by decide +kernel
theorem dX11_pair_99 : decode cX11_pair 99 = .ok (.bipush 9, 2) := by decide +kernel
theorem dX11_pair_101 : decode cX11_pair 101 = .ok (.iload 4, 2) := by decide +kernel
theorem dX11_pair_103 : decode cX11_pair 103 = .ok (.iadd, 1) := by decide +kernel
theorem dX11_pair_104 : decode cX11_pair 104 = .ok (.dup2, 1) := by decide +kernel
theorem dX11_pair_105 : decode cX11_pair 105 = .ok (.iaload, 1) := by decide +kernel
theorem dX11_pair_106 : decode cX11_pair 106 = .ok (.iconst 1, 1) := by decide +kernel
theorem dX11_pair_107 : decode cX11_pair 107 = .ok (.iadd, 1) := by decide +kernel
theorem dX11_pair_108 : decode cX11_pair 108 = .ok (.iastore, 1) := by decide +kernel
theorem dX11_pair_109 : decode cX11_pair 109 = .ok (.iinc 3 1, 3) := by decide +kernel
theorem dX11_pair_112 : decode cX11_pair 112 = .ok (.goto (-60), 3) := by decide +kernel
theorem dX11_pair_115 : decode cX11_pair 115 = .ok (.aload_n 1, 1) := by decide +kernel
theorem dX11_pair_116 : decode cX11_pair 116 = .ok (.areturn, 1) := by decide +kernel
theorem dX12_init_0 : decode cX12_init 0 = .ok (.aload_n 0, 1) := by decide +kernel
theorem dX12_init_1 : decode cX12_init 1 = .ok (.invokespecial 1, 3) := by decide +kernel
theorem dX12_init_4 : decode cX12_init 4 = .ok (.aload_n 0, 1) := by decide +kernel
theorem dX12_init_5 : decode cX12_init 5 = .ok (.new 7, 3) := by decide +kernel
theorem dX12_init_8 : decode cX12_init 8 = .ok (.dup, 1) := by decide +kernel
theorem dX12_init_9 : decode cX12_init 9 = .ok (.ldc 9, 2) := by decide +kernel
theorem dX12_init_11 : decode cX12_init 11 = .ok (.invokespecial 11, 3) := by decide +kernel
theorem dX12_init_14 : decode cX12_init 14 = .ok (.putfield 14, 3) := by decide +kernel
theorem dX12_init_17 : decode cX12_init 17 = .ok (.aload_n 0, 1) := by decide +kernel
theorem dX12_init_18 : decode cX12_init 18 = .ok (.bipush 6, 2) := by decide +kernel
theorem dX12_init_20 : decode cX12_init 20 = .ok (.anewarray 20, 3) := by decide +kernel
theorem dX12_init_23 : decode cX12_init 23 = .ok (.putfield 22, 3) := by decide +kernel
theorem dX12_init_26 : decode cX12_init 26 = .ok (.aload_n 0, 1) := by decide +kernel
theorem dX12_init_27 : decode cX12_init 27 = .ok (.bipush 6, 2) := by decide +kernel
theorem dX12_init_29 : decode cX12_init 29 = .ok (.anewarray 26, 3) := by decide +kernel
theorem dX12_init_32 : decode cX12_init 32 = .ok (.putfield 28, 3) := by decide +kernel
theorem dX12_init_35 : decode cX12_init 35 = .ok (.aload_n 0, 1) := by decide +kernel
theorem dX12_init_36 : decode cX12_init 36 = .ok (.bipush 8, 2) := by decide +kernel
theorem dX12_init_38 : decode cX12_init 38 = .ok (.anewarray 32, 3) := by decide +kernel
theorem dX12_init_41 : decode cX12_init 41 = .ok (.putfield 34, 3) := by decide +kernel
theorem dX12_init_44 : decode cX12_init 44 = .ok (.aload_n 0, 1) := by decide +kernel
theorem dX12_init_45 : decode cX12_init 45 = .ok (.iconst 3, 1) := by decide +kernel
theorem dX12_init_46 : decode cX12_init 46 = .ok (.newarray .int, 2) := by decide +kernel
theorem dX12_init_48 : decode cX12_init 48 = .ok (.putfield 38, 3) := by decide +kernel
theorem dX12_init_51 : decode cX12_init 51 = .ok (.aload_n 1, 1) := by decide +kernel
theorem dX12_init_52 : decode cX12_init 52 = .ok (.iconst 1, 1) := by decide +kernel
theorem dX12_init_53 : decode cX12_init 53 = .ok (.iconst 3, 1) := by decide +kernel
theorem dX12_init_54 : decode cX12_init 54 = .ok (.invokevirtual 42, 3) := by decide +kernel
theorem dX12_init_57 : decode cX12_init 57 = .ok (.istore_n 2, 1) := by decide +kernel
theorem dX12_init_58 : decode cX12_init 58 = .ok (.iload_n 2, 1) := by decide +kernel
theorem dX12_init_59 : decode cX12_init 59 = .ok (.ifCond .le 14, 3) := by decide +kernel
theorem dX12_init_62 : decode cX12_init 62 = .ok (.aload_n 0, 1) := by decide +kernel
theorem dX12_init_63 : decode cX12_init 63 = .ok (.aload_n 1, 1) := by decide +kernel
theorem dX12_init_64 : decode cX12_init 64 = .ok (.invokevirtual 48, 3) := by decide +kernel
theorem dX12_init_67 : decode cX12_init 67 = .ok (.iinc 2 (-1), 3) := by decide +kernel
theorem dX12_init_70 : decode cX12_init 70 = .ok (.goto (-12), 3) := by decide +kernel
theorem dX12_init_73 : decode cX12_init 73 = .ok (.aload_n 1, 1) := by decide +kernel
theorem dX12_init_74 : decode cX12_init 74 = .ok (.iconst 1, 1) := by decide +kernel
theorem dX12_init_75 : decode cX12_init 75 = .ok (.iconst 4, 1) := by decide +kernel
theorem dX12_init_76 : decode cX12_init 76 = .ok (.invokevirtual 42, 3) := by decide +kernel
theorem dX12_init_79 : decode cX12_init 79 = .ok (.istore_n 2, 1) := by decide +kernel
theorem dX12_init_80 : decode cX12_init 80 = .ok (.iload_n 2, 1) := by decide +kernel
theorem dX12_init_81 : decode cX12_init 81 = .ok (.ifCond .le 14, 3) := by decide +kernel
theorem dX12_init_84 : decode cX12_init 84 = .ok (.aload_n 0, 1) := by decide +kernel
theorem dX12_init_85 : decode cX12_init 85 = .ok (.aload_n 1, 1) := by decide +kernel
theorem dX12_init_86 : decode cX12_init 86 = .ok (.invokevirtual 52, 3) := by decide +kernel
theorem dX12_init_89 : decode cX12_init 89 = .ok (.iinc 2 (-1), 3) := by decide +kernel
theorem dX12_init_92 : decode cX12_init 92 = .ok (.goto (-12), 3) := by decide +kernel
theorem dX12_init_95 : decode cX12_init 95 = .ok (.aload_n 1, 1) := by decide +kernel
theorem dX12_init_96 : decode cX12_init 96 = .ok (.iconst 0, 1) := by decide +kernel
theorem dX12_init_97 : decode cX12_init 97 = .ok (.iconst 3, 1) := by decide +kernel
theorem dX12_init_98 : decode cX12_init 98 = .ok (.invokevirtual 42, 3) := by decide +kernel
theorem dX12_init_101 : decode cX12_init 101 = .ok (.istore_n 2, 1) := by decide +kernel
theorem dX12_init_102 : decode cX12_init 102 = .ok (.iload_n 2, 1) := by decide +kernel
theorem dX12_init_103 : decode cX12_init 103 = .ok (.ifCond .le 14, 3) := by decide +kernel
theorem dX12_init_106 : decode cX12_init 106 = .ok (.aload_n 0, 1) := by decide +kernel
theorem dX12_init_107 : decode cX12_init 107 = .ok (.aload_n 1, 1) := by decide +kernel
theorem dX12_init_108 : decode cX12_init 108 = .ok (.invokevirtual 55, 3) := by decide +kernel
theorem dX12_init_111 : decode cX12_init 111 = .ok (.iinc 2 (-1), 3) := by decide +kernel
theorem dX12_init_114 : decode cX12_init 114 = .ok (.goto (-12), 3) := by decide +kernel
theorem dX12_init_117 : decode cX12_init 117 = .ok (.return_, 1) := by decide +kernel
theorem dX12_group_0 : decode cX12_group 0 = .ok (.aload_n 1, 1) := by decide +kernel
theorem dX12_group_1 : decode cX12_group 1 = .ok (.iconst 0, 1) := by decide +kernel
theorem dX12_group_2 : decode cX12_group 2 = .ok (.iconst 4, 1) := by decide +kernel
theorem dX12_group_3 : decode cX12_group 3 = .ok (.invokevirtual 42, 3) := by decide +kernel
theorem dX12_group_6 : decode cX12_group 6 = .ok (.istore_n 2, 1) := by decide +kernel
theorem dX12_group_7 : decode cX12_group 7 = .ok (.aload_n 1, 1) := by decide +kernel
theorem dX12_group_8 : decode cX12_group 8 = .ok (.iconst 1, 1) := by decide +kernel
theorem dX12_group_9 : decode cX12_group 9 = .ok (.bipush 6, 2) := by decide +kernel
theorem dX12_group_11 : decode cX12_group 11 = .ok (.invokevirtual 42, 3) := by decide +kernel
theorem dX12_group_14 : decode cX12_group 14 = .ok (.istore_n 3, 1) := by decide +kernel
theorem dX12_group_15 : decode cX12_group 15 = .ok (.aload_n 0, 1) := by decide +kernel
theorem dX12_group_16 : decode cX12_group 16 = .ok (.getfield 14, 3) := by decide +kernel
theorem dX12_group_19 : decode cX12_group 19 = .ok (.ldc 58, 2) := by decide +kernel
theorem dX12_group_21 : decode cX12_group 21 = .ok (.invokevirtual 60, 3) := by decide +kernel
theorem dX12_group_24 : decode cX12_group 24 = .ok (.bipush 97, 2) := by decide +kernel
theorem dX12_group_26 : decode cX12_group 26 = .ok (.aload_n 0, 1) := by decide +kernel
theorem dX12_group_27 : decode cX12_group 27 = .ok (.getfield 64, 3) := by decide +kernel
theorem dX12_group_30 : decode cX12_group 30 = .ok (.iadd, 1) := by decide +kernel
theorem dX12_group_31 : decode cX12_group 31 = .ok (.i2c, 1) := by decide +kernel
theorem dX12_group_32 : decode cX12_group 32 = .ok (.invokevirtual 68, 3) := by decide +kernel
theorem dX12_group_35 : decode cX12_group 35 = .ok (.pop, 1) := by decide +kernel
theorem dX12_group_36 : decode cX12_group 36 = .ok (.iload_n 2, 1) := by decide +kernel
theorem dX12_group_37 : decode cX12_group 37 = .ok (.iconst 3, 1) := by decide +kernel
theorem dX12_group_38 : decode cX12_group 38 = .ok (.if_icmp .ne 29, 3) := by decide +kernel
theorem dX12_group_41 : decode cX12_group 41 = .ok (.aload_n 0, 1) := by decide +kernel
theorem dX12_group_42 : decode cX12_group 42 = .ok (.getfield 14, 3) := by decide +kernel
theorem dX12_group_45 : decode cX12_group 45 = .ok (.ldc 71, 2) := by decide +kernel
theorem dX12_group_47 : decode cX12_group 47 = .ok (.invokevirtual 60, 3) := by decide +kernel
theorem dX12_group_50 : decode cX12_group 50 = .ok (.pop, 1) := by decide +kernel
theorem dX12_group_51 : decode cX12_group 51 = .ok (.aload_n 0, 1) := by decide +kernel
theorem dX12_group_52 : decode cX12_group 52 = .ok (.getfield 22, 3) := by decide +kernel
theorem dX12_group_55 : decode cX12_group 55 = .ok (.aload_n 0, 1) := by decide +kernel
theorem dX12_group_56 : decode cX12_group 56 = .ok (.getfield 64, 3) := by decide +kernel
theorem dX12_group_59 : decode cX12_group 59 = .ok (.iconst 3, 1) := by decide +kernel
theorem dX12_group_60 : decode cX12_group 60 = .ok (.invokestatic 73, 3) := by decide +kernel
theorem dX12_group_63 : decode cX12_group 63 = .ok (.aastore, 1) := by decide +kernel
theorem dX12_group_64 : decode cX12_group 64 = .ok (.goto 125, 3) := by decide +kernel
theorem dX12_group_67 : decode cX12_group 67 = .ok (.iload_n 2, 1) := by decide +kernel
theorem dX12_group_68 : decode cX12_group 68 = .ok (.iconst 4, 1) := by decide +kernel
theorem dX12_group_69 : decode cX12_group 69 = .ok (.if_icmp .ne 58, 3) := by decide +kernel
theorem dX12_group_72 : decode cX12_group 72 = .ok (.aload_n 0, 1) := by decide +kernel
theorem dX12_group_73 : decode cX12_group 73 = .ok (.getfield 64, 3) := by decide +kernel
theorem dX12_group_76 : decode cX12_group 76 = .ok (.ifCond .le 51, 3) := by decide +kernel
theorem dX12_group_79 : decode cX12_group 79 = .ok (.aload_n 0, 1) := by decide +kernel
theorem dX12_group_80 : decode cX12_group 80 = .ok (.getfield 22, 3) := by decide +kernel
theorem dX12_group_83 : decode cX12_group 83 = .ok (.iconst 0, 1) := by decide +kernel
theorem dX12_group_84 : decode cX12_group 84 = .ok (.aaload, 1) := by decide +kernel
theorem dX12_group_85 : decode cX12_group 85 = .ok (.arraylength, 1) := by decide +kernel
theorem dX12_group_86 : decode cX12_group 86 = .ok (.iconst 3, 1) := by decide +kernel
theorem dX12_group_87 : decode cX12_group 87 = .ok (.if_icmp .ge 40, 3) := by decide +kernel
theorem dX12_group_90 : decode cX12_group 90 = .ok (.aload_n 0, 1) := by decide +kernel
theorem dX12_group_91 : decode cX12_group 91 = .ok (.getfield 14, 3) := by decide +kernel
theorem dX12_group_94 : decode cX12_group 94 = .ok (.ldc 79, 2) := by decide +kernel
theorem dX12_group_96 : decode cX12_group 96 = .ok (.invokevirtual 60, 3) := by decide +kernel
theorem dX12_group_99 : decode cX12_group 99 = .ok (.pop, 1) := by decide +kernel
theorem dX12_group_100 : decode cX12_group 100 = .ok (.aload_n 0, 1) := by decide +kernel
theorem dX12_group_101 : decode cX12_group 101 = .ok (.getfield 22, 3) := by decide +kernel
theorem dX12_group_104 : decode cX12_group 104 = .ok (.aload_n 0, 1) := by decide +kernel
theorem dX12_group_105 : decode cX12_group 105 = .ok (.getfield 64, 3) := by decide +kernel
theorem dX12_group_108 : decode cX12_group 108 = .ok (.aload_n 0, 1) := by decide +kernel
theorem dX12_group_109 : decode cX12_group 109 = .ok (.getfield 22, 3) := by decide +kernel
theorem dX12_group_112 : decode cX12_group 112 = .ok (.iconst 0, 1) := by decide +kernel
theorem dX12_group_113 : decode cX12_group 113 = .ok (.aaload, 1) := by decide +kernel
theorem dX12_group_114 : decode cX12_group 114 = .ok (.aload_n 0, 1) := by decide +kernel
theorem dX12_group_115 : decode cX12_group 115 = .ok (.getfield 22, 3) := by decide +kernel
theorem dX12_group_118 : decode cX12_group 118 = .ok (.iconst 0, 1) := by decide +kernel
theorem dX12_group_119 : decode cX12_group 119 = .ok (.aaload, 1) := by decide +kernel
theorem dX12_group_120 : decode cX12_group 120 = .ok (.invokestatic 81, 3) := by decide +kernel
theorem dX12_group_123 : decode cX12_group 123 = .ok (.aastore, 1) := by decide +kernel
theorem dX12_group_124 : decode cX12_group 124 = .ok (.goto 65, 3) := by decide +kernel
theorem dX12_group_127 : decode cX12_group 127 = .ok (.iload_n 2, 1) := by decide +kernel
theorem dX12_group_128 : decode cX12_group 128 = .ok (.iconst 2, 1) := by decide +kernel
theorem dX12_group_129 : decode cX12_group 129 = .ok (.if_icmp .ne 33, 3) := by decide +kernel
theorem dX12_group_132 : decode cX12_group 132 = .ok (.iload_n 3, 1) := by decide +kernel
theorem dX12_group_133 : decode cX12_group 133 = .ok (.iconst 1, 1) := by decide +kernel
theorem dX12_group_134 : decode cX12_group 134 = .ok (.if_icmp .ne 28, 3) := by decide +kernel
theorem dX12_group_137 : decode cX12_group 137 = .ok (.aload_n 0, 1) := by decide +kernel
theorem dX12_group_138 : decode cX12_group 138 = .ok (.getfield 14, 3) := by decide +kernel
theorem dX12_group_141 : decode cX12_group 141 = .ok (.ldc 85, 2) := by decide +kernel
theorem dX12_group_143 : decode cX12_group 143 = .ok (.invokevirtual 60, 3) := by decide +kernel
theorem dX12_group_146 : decode cX12_group 146 = .ok (.pop, 1) := by decide +kernel
theorem dX12_group_147 : decode cX12_group 147 = .ok (.aload_n 0, 1) := by decide +kernel
theorem dX12_group_148 : decode cX12_group 148 = .ok (.getfield 22, 3) := by decide +kernel
theorem dX12_group_151 : decode cX12_group 151 = .ok (.aload_n 0, 1) := by decide +kernel
theorem dX12_group_152 : decode cX12_group 152 = .ok (.getfield 64, 3) := by decide +kernel
theorem dX12_group_155 : decode cX12_group 155 = .ok (.invokestatic 87, 3) := by decide +kernel
theorem dX12_group_158 : decode cX12_group 158 = .ok (.aastore, 1) := by decide +kernel
theorem dX12_group_159 : decode cX12_group 159 = .ok (.goto 30, 3) := by decide +kernel
theorem dX12_group_162 : decode cX12_group 162 = .ok (.aload_n 0, 1) := by decide +kernel
theorem dX12_group_163 : decode cX12_group 163 = .ok (.getfield 14, 3) := by decide +kernel
theorem dX12_group_166 : decode cX12_group 166 = .ok (.ldc 91, 2) := by decide +kernel
theorem dX12_group_168 : decode cX12_group 168 = .ok (.invokevirtual 60, 3) := by decide +kernel
theorem dX12_group_171 : decode cX12_group 171 = .ok (.iload_n 3, 1) := by decide +kernel
theorem dX12_group_172 : decode cX12_group 172 = .ok (.invokevirtual 93, 3) := by decide +kernel
theorem dX12_group_175 : decode cX12_group 175 = .ok (.pop, 1) := by decide +kernel
theorem dX12_group_176 : decode cX12_group 176 = .ok (.aload_n 0, 1) := by decide +kernel
theorem dX12_group_177 : decode cX12_group 177 = .ok (.getfield 22, 3) := by decide +kernel
theorem dX12_group_180 : decode cX12_group 180 = .ok (.aload_n 0, 1) := by decide +kernel
theorem dX12_group_181 : decode cX12_group 181 = .ok (.getfield 64, 3) := by decide +kernel
theorem dX12_group_184 : decode cX12_group 184 = .ok (.iload_n 3, 1) := by decide +kernel
theorem dX12_group_185 : decode cX12_group 185 = .ok (.invokestatic 96, 3) := by decide +kernel
theorem dX12_group_188 : decode cX12_group 188 = .ok (.aastore, 1) := by decide +kernel
theorem dX12_group_189 : decode cX12_group 189 = .ok (.aload_n 0, 1) := by decide +kernel
theorem dX12_group_190 : decode cX12_group 190 = .ok (.dup, 1) := by decide +kernel
theorem dX12_group_191 : decode cX12_group 191 = .ok (.getfield 64, 3) := by decide +kernel
theorem dX12_group_194 : decode cX12_group 194 = .ok (.iconst 1, 1) := by decide +kernel
theorem dX12_group_195 : decode cX12_group 195 = .ok (.iadd, 1) := by decide +kernel
theorem dX12_group_196 : decode cX12_group 196 = .ok (.putfield 64, 3) := by decide +kernel
theorem dX12_group_199 : decode cX12_group 199 = .ok (.return_, 1) := by decide +kernel
theorem dX12_module_0 : decode cX12_module 0 = .ok (.aload_n 1, 1) := by decide +kernel
theorem dX12_module_1 : decode cX12_module 1 = .ok (.iconst 0, 1) := by decide +kernel
theorem dX12_module_2 : decode cX12_module 2 = .ok (.aload_n 0, 1) := by decide +kernel
theorem dX12_module_3 : decode cX12_module 3 = .ok (.getfield 64, 3) := by decide +kernel
theorem dX12_module_6 : decode cX12_module 6 = .ok (.iconst 1, 1) := by decide +kernel
theorem dX12_module_7 : decode cX12_module 7 = .ok (.isub, 1) := by decide +kernel
theorem dX12_module_8 : decode cX12_module 8 = .ok (.invokevirtual 42, 3) := by decide +kernel
theorem dX12_module_11 : decode cX12_module 11 = .ok (.istore_n 2, 1) := by decide +kernel
theorem dX12_module_12 : decode cX12_module 12 = .ok (.aload_n 1, 1) := by decide +kernel
theorem dX12_module_13 : decode cX12_module 13 = .ok (.iconst 0, 1) := by decide +kernel
theorem dX12_module_14 : decode cX12_module 14 = .ok (.iconst 2, 1) := by decide +kernel
theorem dX12_module_15 : decode cX12_module 15 = .ok (.invokevirtual 42, 3) := by decide +kernel
theorem dX12_module_18 : decode cX12_module 18 = .ok (.ifCond .le 7, 3) := by decide +kernel
theorem dX12_module_21 : decode cX12_module 21 = .ok (.iload_n 2, 1) := by decide +kernel
theorem dX12_module_22 : decode cX12_module 22 = .ok (.goto 14, 3) := by decide +kernel
theorem dX12_module_25 : decode cX12_module 25 = .ok (.aload_n 1, 1) := by decide +kernel
theorem dX12_module_26 : decode cX12_module 26 = .ok (.iconst 0, 1) := by decide +kernel
theorem dX12_module_27 : decode cX12_module 27 = .ok (.aload_n 0, 1) := by decide +kernel
theorem dX12_module_28 : decode cX12_module 28 = .ok (.getfield 64, 3) := by decide +kernel
theorem dX12_module_31 : decode cX12_module 31 = .ok (.iconst 1, 1) := by decide +kernel
theorem dX12_module_32 : decode cX12_module 32 = .ok (.isub, 1) := by decide +kernel
theorem dX12_module_33 : decode cX12_module 33 = .ok (.invokevirtual 42, 3) := by decide +kernel
theorem dX12_module_36 : decode cX12_module 36 = .ok (.istore_n 3, 1) := by decide +kernel
theorem dX12_module_37 : decode cX12_module 37 = .ok (.new 26, 3) := by decide +kernel
theorem dX12_module_40 : decode cX12_module 40 = .ok (.dup, 1) := by decide +kernel
theorem dX12_module_41 : decode cX12_module 41 = .ok (.iload_n 2, 1) := by decide +kernel
theorem dX12_module_42 : decode cX12_module 42 = .ok (.iload_n 3, 1) := by decide +kernel
theorem dX12_module_43 : decode cX12_module 43 = .ok (.aload_n 0, 1) := by decide +kernel
theorem dX12_module_44 : decode cX12_module 44 = .ok (.getfield 22, 3) := by decide +kernel
theorem dX12_module_47 : decode cX12_module 47 = .ok (.iload_n 2, 1) := by decide +kernel
theorem dX12_module_48 : decode cX12_module 48 = .ok (.aaload, 1) := by decide +kernel
theorem dX12_module_49 : decode cX12_module 49 = .ok (.aload_n 0, 1) := by decide +kernel
theorem dX12_module_50 : decode cX12_module 50 = .ok (.getfield 22, 3) := by decide +kernel
theorem dX12_module_53 : decode cX12_module 53 = .ok (.iload_n 3, 1) := by decide +kernel
theorem dX12_module_54 : decode cX12_module 54 = .ok (.aaload, 1) := by decide +kernel
theorem dX12_module_55 : decode cX12_module 55 = .ok (.invokespecial 99, 3) := by decide +kernel
theorem dX12_module_58 : decode cX12_module 58 = .ok (.astore 4, 2) := by decide +kernel
theorem dX12_module_60 : decode cX12_module 60 = .ok (.iload_n 2, 1) := by decide +kernel
theorem dX12_module_61 : decode cX12_module 61 = .ok (.iload_n 3, 1) := by decide +kernel
theorem dX12_module_62 : decode cX12_module 62 = .ok (.if_icmp .ne 16, 3) := by decide +kernel
theorem dX12_module_65 : decode cX12_module 65 = .ok (.aload_n 1, 1) := by decide +kernel
theorem dX12_module_66 : decode cX12_module 66 = .ok (.iconst 0, 1) := by decide +kernel
theorem dX12_module_67 : decode cX12_module 67 = .ok (.iconst 1, 1) := by decide +kernel
theorem dX12_module_68 : decode cX12_module 68 = .ok (.invokevirtual 42, 3) := by decide +kernel
theorem dX12_module_71 : decode cX12_module 71 = .ok (.ifCond .ne 7, 3) := by decide +kernel
theorem dX12_module_74 : decode cX12_module 74 = .ok (.iconst 1, 1) := by decide +kernel
theorem dX12_module_75 : decode cX12_module 75 = .ok (.goto 4, 3) := by decide +kernel
theorem dX12_module_78 : decode cX12_module 78 = .ok (.iconst 0, 1) := by decide +kernel
theorem dX12_module_79 : decode cX12_module 79 = .ok (.istore 5, 2) := by decide +kernel
theorem dX12_module_81 : decode cX12_module 81 = .ok (.aload_n 0, 1) := by decide +kernel
theorem dX12_module_82 : decode cX12_module 82 = .ok (.getfield 14, 3) := by decide +kernel
theorem dX12_module_85 : decode cX12_module 85 = .ok (.ldc 102, 2) := by decide +kernel
theorem dX12_module_87 : decode cX12_module 87 = .ok (.invokevirtual 60, 3) := by decide +kernel
theorem dX12_module_90 : decode cX12_module 90 = .ok (.bipush 97, 2) := by decide +kernel
theorem dX12_module_92 : decode cX12_module 92 = .ok (.aload_n 0, 1) := by decide +kernel
theorem dX12_module_93 : decode cX12_module 93 = .ok (.getfield 104, 3) := by decide +kernel
theorem dX12_module_96 : decode cX12_module 96 = .ok (.iadd, 1) := by decide +kernel
theorem dX12_module_97 : decode cX12_module 97 = .ok (.i2c, 1) := by decide +kernel
theorem dX12_module_98 : decode cX12_module 98 = .ok (.invokevirtual 68, 3) := by decide +kernel
theorem dX12_module_101 : decode cX12_module 101 = .ok (.ldc 107, 2) := by decide +kernel
theorem dX12_module_103 : decode cX12_module 103 = .ok (.invokevirtual 60, 3) := by decide +kernel
theorem dX12_module_106 : decode cX12_module 106 = .ok (.bipush 97, 2) := by decide +kernel
theorem dX12_module_108 : decode cX12_module 108 = .ok (.iload_n 2, 1) := by decide +kernel
theorem dX12_module_109 : decode cX12_module 109 = .ok (.iadd, 1) := by decide +kernel
theorem dX12_module_110 : decode cX12_module 110 = .ok (.i2c, 1) := by decide +kernel
theorem dX12_module_111 : decode cX12_module 111 = .ok (.invokevirtual 68, 3) := by decide +kernel
theorem dX12_module_114 : decode cX12_module 114 = .ok (.ldc 107, 2) := by decide +kernel
theorem dX12_module_116 : decode cX12_module 116 = .ok (.invokevirtual 60, 3) := by decide +kernel
theorem dX12_module_119 : decode cX12_module 119 = .ok (.bipush 97, 2) := by decide +kernel
theorem dX12_module_121 : decode cX12_module 121 = .ok (.iload_n 3, 1) := by decide +kernel
theorem dX12_module_122 : decode cX12_module 122 = .ok (.iadd, 1) := by decide +kernel
theorem dX12_module_123 : decode cX12_module 123 = .ok (.i2c, 1) := by decide +kernel
theorem dX12_module_124 : decode cX12_module 124 = .ok (.invokevirtual 68, 3) := by decide +kernel
theorem dX12_module_127 : decode cX12_module 127 = .ok (.pop, 1) := by decide +kernel
theorem dX12_module_128 : decode cX12_module 128 = .ok (.iconst 0, 1) := by decide +kernel
theorem dX12_module_129 : decode cX12_module 129 = .ok (.istore 6, 2) := by decide +kernel
theorem dX12_module_131 : decode cX12_module 131 = .ok (.iload 6, 2) := by decide +kernel
theorem dX12_module_133 : decode cX12_module 133 = .ok (.aload 4, 2) := by decide +kernel
theorem dX12_module_135 : decode cX12_module 135 = .ok (.getfield 109, 3) := by decide +kernel
theorem dX12_module_138 : decode cX12_module 138 = .ok (.arraylength, 1) := by decide +kernel
theorem dX12_module_139 : decode cX12_module 139 = .ok (.if_icmp .ge 76, 3) := by decide +kernel
theorem dX12_module_142 : decode cX12_module 142 = .ok (.aload 4, 2) := by decide +kernel
theorem dX12_module_144 : decode cX12_module 144 = .ok (.getfield 109, 3) := by decide +kernel
theorem dX12_module_147 : decode cX12_module 147 = .ok (.iload 6, 2) := by decide +kernel
theorem dX12_module_149 : decode cX12_module 149 = .ok (.iload 5, 2) := by decide +kernel
theorem dX12_module_151 : decode cX12_module 151 = .ok (.ifCond .eq 8, 3) := by decide +kernel
theorem dX12_module_154 : decode cX12_module 154 = .ok (.iload 6, 2) := by decide +kernel
theorem dX12_module_156 : decode cX12_module 156 = .ok (.goto 31, 3) := by decide +kernel
theorem dX12_module_159 : decode cX12_module 159 = .ok (.aload_n 1, 1) := by decide +kernel
theorem dX12_module_160 : decode cX12_module 160 = .ok (.iconst 0, 1) := by decide +kernel
theorem dX12_module_161 : decode cX12_module 161 = .ok (.bipush 19, 2) := by decide +kernel
theorem dX12_module_163 : decode cX12_module 163 = .ok (.invokevirtual 42, 3) := by decide +kernel
theorem dX12_module_166 : decode cX12_module 166 = .ok (.ifCond .ne 20, 3) := by decide +kernel
theorem dX12_module_169 : decode cX12_module 169 = .ok (.aload_n 1, 1) := by decide +kernel
theorem dX12_module_170 : decode cX12_module 170 = .ok (.iconst 0, 1) := by decide +kernel
theorem dX12_module_171 : decode cX12_module 171 = .ok (.aload_n 0, 1) := by decide +kernel
theorem dX12_module_172 : decode cX12_module 172 = .ok (.getfield 22, 3) := by decide +kernel
theorem dX12_module_175 : decode cX12_module 175 = .ok (.iload_n 3, 1) := by decide +kernel
theorem dX12_module_176 : decode cX12_module 176 = .ok (.aaload, 1) := by decide +kernel
theorem dX12_module_177 : decode cX12_module 177 = .ok (.arraylength, 1) := by decide +kernel
theorem dX12_module_178 : decode cX12_module 178 = .ok (.iconst 1, 1) := by decide +kernel
theorem dX12_module_179 : decode cX12_module 179 = .ok (.isub, 1) := by decide +kernel
theorem dX12_module_180 : decode cX12_module 180 = .ok (.invokevirtual 42, 3) := by decide +kernel
theorem dX12_module_183 : decode cX12_module 183 = .ok (.goto 4, 3) := by decide +kernel
theorem dX12_module_186 : decode cX12_module 186 = .ok (.iconst 0, 1) := by decide +kernel
theorem dX12_module_187 : decode cX12_module 187 = .ok (.iastore, 1) := by decide +kernel
theorem dX12_module_188 : decode cX12_module 188 = .ok (.aload_n 0, 1) := by decide +kernel
theorem dX12_module_189 : decode cX12_module 189 = .ok (.getfield 14, 3) := by decide +kernel
theorem dX12_module_192 : decode cX12_module 192 = .ok (.bipush 32, 2) := by decide +kernel
theorem dX12_module_194 : decode cX12_module 194 = .ok (.invokevirtual 68, 3) := by decide +kernel
theorem dX12_module_197 : decode cX12_module 197 = .ok (.aload 4, 2) := by decide +kernel
theorem dX12_module_199 : decode cX12_module 199 = .ok (.getfield 109, 3) := by decide +kernel
theorem dX12_module_202 : decode cX12_module 202 = .ok (.iload 6, 2) := by decide +kernel
theorem dX12_module_204 : decode cX12_module 204 = .ok (.iaload, 1) := by decide +kernel
theorem dX12_module_205 : decode cX12_module 205 = .ok (.invokevirtual 93, 3) := by decide +kernel
theorem dX12_module_208 : decode cX12_module 208 = .ok (.pop, 1) := by decide +kernel
theorem dX12_module_209 : decode cX12_module 209 = .ok (.iinc 6 1, 3) := by decide +kernel
theorem dX12_module_212 : decode cX12_module 212 = .ok (.goto (-81), 3) := by decide +kernel
theorem dX12_module_215 : decode cX12_module 215 = .ok (.aload_n 0, 1) := by decide +kernel
theorem dX12_module_216 : decode cX12_module 216 = .ok (.getfield 14, 3) := by decide +kernel
theorem dX12_module_219 : decode cX12_module 219 = .ok (.invokevirtual 112, 3) := by decide +kernel
theorem dX12_module_222 : decode cX12_module 222 = .ok (.bipush 26, 2) := by decide +kernel
theorem dX12_module_224 : decode cX12_module 224 = .ok (.aload 4, 2) := by decide +kernel
theorem dX12_module_226 : decode cX12_module 226 = .ok (.getfield 116, 3) := by decide +kernel
theorem dX12_module_229 : decode cX12_module 229 = .ok (.arraylength, 1) := by decide +kernel
theorem dX12_module_230 : decode cX12_module 230 = .ok (.imul, 1) := by decide +kernel
theorem dX12_module_231 : decode cX12_module 231 = .ok (.iadd, 1) := by decide +kernel
theorem dX12_module_232 : decode cX12_module 232 = .ok (.sipush 600, 3) := by decide +kernel
theorem dX12_module_235 : decode cX12_module 235 = .ok (.if_icmp .ge 7, 3) := by decide +kernel
theorem dX12_module_238 : decode cX12_module 238 = .ok (.iconst 1, 1) := by decide +kernel
theorem dX12_module_239 : decode cX12_module 239 = .ok (.goto 4, 3) := by decide +kernel
theorem dX12_module_242 : decode cX12_module 242 = .ok (.iconst 0, 1) := by decide +kernel
theorem dX12_module_243 : decode cX12_module 243 = .ok (.istore 6, 2) := by decide +kernel
theorem dX12_module_245 : decode cX12_module 245 = .ok (.iconst 0, 1) := by decide +kernel
theorem dX12_module_246 : decode cX12_module 246 = .ok (.istore 7, 2) := by decide +kernel
theorem dX12_module_248 : decode cX12_module 248 = .ok (.iload 7, 2) := by decide +kernel
theorem dX12_module_250 : decode cX12_module 250 = .ok (.aload 4, 2) := by decide +kernel
theorem dX12_module_252 : decode cX12_module 252 = .ok (.getfield 116, 3) := by decide +kernel
theorem dX12_module_255 : decode cX12_module 255 = .ok (.arraylength, 1) := by decide +kernel
theorem dX12_module_256 : decode cX12_module 256 = .ok (.if_icmp .ge 126, 3) := by decide +kernel
theorem dX12_module_259 : decode cX12_module 259 = .ok (.iload 5, 2) := by decide +kernel
theorem dX12_module_261 : decode cX12_module 261 = .ok (.ifCond .eq 121, 3) := by decide +kernel
theorem dX12_module_264 : decode cX12_module 264 = .ok (.iload 6, 2) := by decide +kernel
theorem dX12_module_266 : decode cX12_module 266 = .ok (.ifCond .eq 116, 3) := by decide +kernel
theorem dX12_module_269 : decode cX12_module 269 = .ok (.aload_n 0, 1) := by decide +kernel
theorem dX12_module_270 : decode cX12_module 270 = .ok (.getfield 22, 3) := by decide +kernel
theorem dX12_module_273 : decode cX12_module 273 = .ok (.iload_n 2, 1) := by decide +kernel
theorem dX12_module_274 : decode cX12_module 274 = .ok (.aaload, 1) := by decide +kernel
theorem dX12_module_275 : decode cX12_module 275 = .ok (.invokestatic 119, 3) := by decide +kernel
theorem dX12_module_278 : decode cX12_module 278 = .ok (.ifCond .ne 104, 3) := by decide +kernel
theorem dX12_module_281 : decode cX12_module 281 = .ok (.aload_n 0, 1) := by decide +kernel
theorem dX12_module_282 : decode cX12_module 282 = .ok (.getfield 14, 3) := by decide +kernel
theorem dX12_module_285 : decode cX12_module 285 = .ok (.ldc 123, 2) := by decide +kernel
theorem dX12_module_287 : decode cX12_module 287 = .ok (.invokevirtual 60, 3) := by decide +kernel
theorem dX12_module_290 : decode cX12_module 290 = .ok (.bipush 97, 2) := by decide +kernel
theorem dX12_module_292 : decode cX12_module 292 = .ok (.aload_n 0, 1) := by decide +kernel
theorem dX12_module_293 : decode cX12_module 293 = .ok (.getfield 104, 3) := by decide +kernel
theorem dX12_module_296 : decode cX12_module 296 = .ok (.iadd, 1) := by decide +kernel
theorem dX12_module_297 : decode cX12_module 297 = .ok (.i2c, 1) := by decide +kernel
theorem dX12_module_298 : decode cX12_module 298 = .ok (.invokevirtual 68, 3) := by decide +kernel
theorem dX12_module_301 : decode cX12_module 301 = .ok (.bipush 32, 2) := by decide +kernel
theorem dX12_module_303 : decode cX12_module 303 = .ok (.invokevirtual 68, 3) := by decide +kernel
theorem dX12_module_306 : decode cX12_module 306 = .ok (.iload 7, 2) := by decide +kernel
theorem dX12_module_308 : decode cX12_module 308 = .ok (.invokevirtual 93, 3) := by decide +kernel
theorem dX12_module_311 : decode cX12_module 311 = .ok (.pop, 1) := by decide +kernel
theorem dX12_module_312 : decode cX12_module 312 = .ok (.iconst 0, 1) := by decide +kernel
theorem dX12_module_313 : decode cX12_module 313 = .ok (.istore 8, 2) := by decide +kernel
theorem dX12_module_315 : decode cX12_module 315 = .ok (.iload 8, 2) := by decide +kernel
theorem dX12_module_317 : decode cX12_module 317 = .ok (.aload 4, 2) := by decide +kernel
theorem dX12_module_319 : decode cX12_module 319 = .ok (.getfield 109, 3) := by decide +kernel
theorem dX12_module_322 : decode cX12_module 322 = .ok (.arraylength, 1) := by decide +kernel
theorem dX12_module_323 : decode cX12_module 323 = .ok (.if_icmp .ge 53, 3) := by decide +kernel
theorem dX12_module_326 : decode cX12_module 326 = .ok (.aload 4, 2) := by decide +kernel
theorem dX12_module_328 : decode cX12_module 328 = .ok (.getfield 116, 3) := by decide +kernel
theorem dX12_module_331 : decode cX12_module 331 = .ok (.iload 7, 2) := by decide +kernel
theorem dX12_module_333 : decode cX12_module 333 = .ok (.aaload, 1) := by decide +kernel
theorem dX12_module_334 : decode cX12_module 334 = .ok (.iload 8, 2) := by decide +kernel
theorem dX12_module_336 : decode cX12_module 336 = .ok (.aload 4, 2) := by decide +kernel
theorem dX12_module_338 : decode cX12_module 338 = .ok (.iload 7, 2) := by decide +kernel
theorem dX12_module_340 : decode cX12_module 340 = .ok (.iload 8, 2) := by decide +kernel
theorem dX12_module_342 : decode cX12_module 342 = .ok (.invokevirtual 125, 3) := by decide +kernel
theorem dX12_module_345 : decode cX12_module 345 = .ok (.iastore, 1) := by decide +kernel
theorem dX12_module_346 : decode cX12_module 346 = .ok (.aload_n 0, 1) := by decide +kernel
theorem dX12_module_347 : decode cX12_module 347 = .ok (.getfield 14, 3) := by decide +kernel
theorem dX12_module_350 : decode cX12_module 350 = .ok (.bipush 32, 2) := by decide +kernel
theorem dX12_module_352 : decode cX12_module 352 = .ok (.invokevirtual 68, 3) := by decide +kernel
theorem dX12_module_355 : decode cX12_module 355 = .ok (.aload 4, 2) := by decide +kernel
theorem dX12_module_357 : decode cX12_module 357 = .ok (.getfield 116, 3) := by decide +kernel
theorem dX12_module_360 : decode cX12_module 360 = .ok (.iload 7, 2) := by decide +kernel
theorem dX12_module_362 : decode cX12_module 362 = .ok (.aaload, 1) := by decide +kernel
theorem dX12_module_363 : decode cX12_module 363 = .ok (.iload 8, 2) := by decide +kernel
theorem dX12_module_365 : decode cX12_module 365 = .ok (.iaload, 1) := by decide +kernel
theorem dX12_module_366 : decode cX12_module 366 = .ok (.invokevirtual 93, 3) := by decide +kernel
theorem dX12_module_369 : decode cX12_module 369 = .ok (.pop, 1) := by decide +kernel
theorem dX12_module_370 : decode cX12_module 370 = .ok (.iinc 8 1, 3) := by decide +kernel
theorem dX12_module_373 : decode cX12_module 373 = .ok (.goto (-58), 3) := by decide +kernel
theorem dX12_module_376 : decode cX12_module 376 = .ok (.iinc 7 1, 3) := by decide +kernel
theorem dX12_module_379 : decode cX12_module 379 = .ok (.goto (-131), 3) := by decide +kernel
theorem dX12_module_382 : decode cX12_module 382 = .ok (.aload_n 0, 1) := by decide +kernel
theorem dX12_module_383 : decode cX12_module 383 = .ok (.getfield 28, 3) := by decide +kernel
theorem dX12_module_386 : decode cX12_module 386 = .ok (.aload_n 0, 1) := by decide +kernel
theorem dX12_module_387 : decode cX12_module 387 = .ok (.getfield 104, 3) := by decide +kernel
theorem dX12_module_390 : decode cX12_module 390 = .ok (.aload 4, 2) := by decide +kernel
theorem dX12_module_392 : decode cX12_module 392 = .ok (.aastore, 1) := by decide +kernel
theorem dX12_module_393 : decode cX12_module 393 = .ok (.aload_n 0, 1) := by decide +kernel
theorem dX12_module_394 : decode cX12_module 394 = .ok (.dup, 1) := by decide +kernel
theorem dX12_module_395 : decode cX12_module 395 = .ok (.getfield 104, 3) := by decide +kernel
theorem dX12_module_398 : decode cX12_module 398 = .ok (.iconst 1, 1) := by decide +kernel
theorem dX12_module_399 : decode cX12_module 399 = .ok (.iadd, 1) := by decide +kernel
theorem dX12_module_400 : decode cX12_module 400 = .ok (.putfield 104, 3) := by decide +kernel
theorem dX12_module_403 : decode cX12_module 403 = .ok (.return_, 1) := by decide +kernel
theorem dX12_arrow_0 : decode cX12_arrow 0 = .ok (.aload_n 1, 1) := by decide +kernel
theorem dX12_arrow_1 : decode cX12_arrow 1 = .ok (.iconst 0, 1) := by decide +kernel
theorem dX12_arrow_2 : decode cX12_arrow 2 = .ok (.aload_n 0, 1) := by decide +kernel
theorem dX12_arrow_3 : decode cX12_arrow 3 = .ok (.getfield 104, 3) := by decide +kernel
theorem dX12_arrow_6 : decode cX12_arrow 6 = .ok (.iconst 1, 1) := by decide +kernel
theorem dX12_arrow_7 : decode cX12_arrow 7 = .ok (.isub, 1) := by decide +kernel
theorem dX12_arrow_8 : decode cX12_arrow 8 = .ok (.invokevirtual 42, 3) := by decide +kernel
theorem dX12_arrow_11 : decode cX12_arrow 11 = .ok (.istore_n 2, 1) := by decide +kernel
theorem dX12_arrow_12 : decode cX12_arrow 12 = .ok (.aload_n 1, 1) := by decide +kernel
theorem dX12_arrow_13 : decode cX12_arrow 13 = .ok (.iconst 0, 1) := by decide +kernel
theorem dX12_arrow_14 : decode cX12_arrow 14 = .ok (.iconst 1, 1) := by decide +kernel
theorem dX12_arrow_15 : decode cX12_arrow 15 = .ok (.invokevirtual 42, 3) := by decide +kernel
theorem dX12_arrow_18 : decode cX12_arrow 18 = .ok (.ifCond .ne 7, 3) := by decide +kernel
theorem dX12_arrow_21 : decode cX12_arrow 21 = .ok (.iload_n 2, 1) := by decide +kernel
theorem dX12_arrow_22 : decode cX12_arrow 22 = .ok (.goto 14, 3) := by decide +kernel
theorem dX12_arrow_25 : decode cX12_arrow 25 = .ok (.aload_n 1, 1) := by decide +kernel
theorem dX12_arrow_26 : decode cX12_arrow 26 = .ok (.iconst 0, 1) := by decide +kernel
theorem dX12_arrow_27 : decode cX12_arrow 27 = .ok (.aload_n 0, 1) := by decide +kernel
theorem dX12_arrow_28 : decode cX12_arrow 28 = .ok (.getfield 104, 3) := by decide +kernel
theorem dX12_arrow_31 : decode cX12_arrow 31 = .ok (.iconst 1, 1) := by decide +kernel
theorem dX12_arrow_32 : decode cX12_arrow 32 = .ok (.isub, 1) := by decide +kernel
theorem dX12_arrow_33 : decode cX12_arrow 33 = .ok (.invokevirtual 42, 3) := by decide +kernel
theorem dX12_arrow_36 : decode cX12_arrow 36 = .ok (.istore_n 3, 1) := by decide +kernel
theorem dX12_arrow_37 : decode cX12_arrow 37 = .ok (.aload_n 0, 1) := by decide +kernel
theorem dX12_arrow_38 : decode cX12_arrow 38 = .ok (.getfield 28, 3) := by decide +kernel
theorem dX12_arrow_41 : decode cX12_arrow 41 = .ok (.iload_n 2, 1) := by decide +kernel
theorem dX12_arrow_42 : decode cX12_arrow 42 = .ok (.aaload, 1) := by decide +kernel
theorem dX12_arrow_43 : decode cX12_arrow 43 = .ok (.astore 4, 2) := by decide +kernel
theorem dX12_arrow_45 : decode cX12_arrow 45 = .ok (.aload_n 0, 1) := by decide +kernel
theorem dX12_arrow_46 : decode cX12_arrow 46 = .ok (.getfield 28, 3) := by decide +kernel
theorem dX12_arrow_49 : decode cX12_arrow 49 = .ok (.iload_n 3, 1) := by decide +kernel
theorem dX12_arrow_50 : decode cX12_arrow 50 = .ok (.aaload, 1) := by decide +kernel
theorem dX12_arrow_51 : decode cX12_arrow 51 = .ok (.astore 5, 2) := by decide +kernel
theorem dX12_arrow_53 : decode cX12_arrow 53 = .ok (.new 32, 3) := by decide +kernel
theorem dX12_arrow_56 : decode cX12_arrow 56 = .ok (.dup, 1) := by decide +kernel
theorem dX12_arrow_57 : decode cX12_arrow 57 = .ok (.iload_n 2, 1) := by decide +kernel
theorem dX12_arrow_58 : decode cX12_arrow 58 = .ok (.iload_n 3, 1) := by decide +kernel
theorem dX12_arrow_59 : decode cX12_arrow 59 = .ok (.aload 4, 2) := by decide +kernel
theorem dX12_arrow_61 : decode cX12_arrow 61 = .ok (.getfield 109, 3) := by decide +kernel
theorem dX12_arrow_64 : decode cX12_arrow 64 = .ok (.arraylength, 1) := by decide +kernel
theorem dX12_arrow_65 : decode cX12_arrow 65 = .ok (.aload 4, 2) := by decide +kernel
theorem dX12_arrow_67 : decode cX12_arrow 67 = .ok (.getfield 116, 3) := by decide +kernel
theorem dX12_arrow_70 : decode cX12_arrow 70 = .ok (.arraylength, 1) := by decide +kernel
theorem dX12_arrow_71 : decode cX12_arrow 71 = .ok (.invokespecial 128, 3) := by decide +kernel
theorem dX12_arrow_74 : decode cX12_arrow 74 = .ok (.astore 6, 2) := by decide +kernel
theorem dX12_arrow_76 : decode cX12_arrow 76 = .ok (.aload_n 1, 1) := by decide +kernel
theorem dX12_arrow_77 : decode cX12_arrow 77 = .ok (.iconst 0, 1) := by decide +kernel
theorem dX12_arrow_78 : decode cX12_arrow 78 = .ok (.iconst 3, 1) := by decide +kernel
theorem dX12_arrow_79 : decode cX12_arrow 79 = .ok (.invokevirtual 42, 3) := by decide +kernel
theorem dX12_arrow_82 : decode cX12_arrow 82 = .ok (.ifCond .le 7, 3) := by decide +kernel
theorem dX12_arrow_85 : decode cX12_arrow 85 = .ok (.iconst 1, 1) := by decide +kernel
theorem dX12_arrow_86 : decode cX12_arrow 86 = .ok (.goto 4, 3) := by decide +kernel
theorem dX12_arrow_89 : decode cX12_arrow 89 = .ok (.iconst 0, 1) := by decide +kernel
theorem dX12_arrow_90 : decode cX12_arrow 90 = .ok (.istore 7, 2) := by decide +kernel
theorem dX12_arrow_92 : decode cX12_arrow 92 = .ok (.aload_n 0, 1) := by decide +kernel
theorem dX12_arrow_93 : decode cX12_arrow 93 = .ok (.getfield 14, 3) := by decide +kernel
theorem dX12_arrow_96 : decode cX12_arrow 96 = .ok (.ldc 131, 2) := by decide +kernel
theorem dX12_arrow_98 : decode cX12_arrow 98 = .ok (.invokevirtual 60, 3) := by decide +kernel
theorem dX12_arrow_101 : decode cX12_arrow 101 = .ok (.bipush 97, 2) := by decide +kernel
theorem dX12_arrow_103 : decode cX12_arrow 103 = .ok (.aload_n 0, 1) := by decide +kernel
theorem dX12_arrow_104 : decode cX12_arrow 104 = .ok (.getfield 133, 3) := by decide +kernel
theorem dX12_arrow_107 : decode cX12_arrow 107 = .ok (.iadd, 1) := by decide +kernel
theorem dX12_arrow_108 : decode cX12_arrow 108 = .ok (.i2c, 1) := by decide +kernel
theorem dX12_arrow_109 : decode cX12_arrow 109 = .ok (.invokevirtual 68, 3) := by decide +kernel
theorem dX12_arrow_112 : decode cX12_arrow 112 = .ok (.ldc 136, 2) := by decide +kernel
theorem dX12_arrow_114 : decode cX12_arrow 114 = .ok (.invokevirtual 60, 3) := by decide +kernel
theorem dX12_arrow_117 : decode cX12_arrow 117 = .ok (.bipush 97, 2) := by decide +kernel
theorem dX12_arrow_119 : decode cX12_arrow 119 = .ok (.iload_n 2, 1) := by decide +kernel
theorem dX12_arrow_120 : decode cX12_arrow 120 = .ok (.iadd, 1) := by decide +kernel
theorem dX12_arrow_121 : decode cX12_arrow 121 = .ok (.i2c, 1) := by decide +kernel
theorem dX12_arrow_122 : decode cX12_arrow 122 = .ok (.invokevirtual 68, 3) := by decide +kernel
theorem dX12_arrow_125 : decode cX12_arrow 125 = .ok (.ldc 136, 2) := by decide +kernel
theorem dX12_arrow_127 : decode cX12_arrow 127 = .ok (.invokevirtual 60, 3) := by decide +kernel
theorem dX12_arrow_130 : decode cX12_arrow 130 = .ok (.bipush 97, 2) := by decide +kernel
theorem dX12_arrow_132 : decode cX12_arrow 132 = .ok (.iload_n 3, 1) := by decide +kernel
theorem dX12_arrow_133 : decode cX12_arrow 133 = .ok (.iadd, 1) := by decide +kernel
theorem dX12_arrow_134 : decode cX12_arrow 134 = .ok (.i2c, 1) := by decide +kernel
theorem dX12_arrow_135 : decode cX12_arrow 135 = .ok (.invokevirtual 68, 3) := by decide +kernel
theorem dX12_arrow_138 : decode cX12_arrow 138 = .ok (.pop, 1) := by decide +kernel
theorem dX12_arrow_139 : decode cX12_arrow 139 = .ok (.iconst 0, 1) := by decide +kernel
theorem dX12_arrow_140 : decode cX12_arrow 140 = .ok (.istore 8, 2) := by decide +kernel
theorem dX12_arrow_142 : decode cX12_arrow 142 = .ok (.iload 8, 2) := by decide +kernel
theorem dX12_arrow_144 : decode cX12_arrow 144 = .ok (.aload 6, 2) := by decide +kernel
theorem dX12_arrow_146 : decode cX12_arrow 146 = .ok (.getfield 138, 3) := by decide +kernel
theorem dX12_arrow_149 : decode cX12_arrow 149 = .ok (.arraylength, 1) := by decide +kernel
theorem dX12_arrow_150 : decode cX12_arrow 150 = .ok (.if_icmp .ge 60, 3) := by decide +kernel
theorem dX12_arrow_153 : decode cX12_arrow 153 = .ok (.aload 6, 2) := by decide +kernel
theorem dX12_arrow_155 : decode cX12_arrow 155 = .ok (.getfield 138, 3) := by decide +kernel
theorem dX12_arrow_158 : decode cX12_arrow 158 = .ok (.iload 8, 2) := by decide +kernel
theorem dX12_arrow_160 : decode cX12_arrow 160 = .ok (.iload 7, 2) := by decide +kernel
theorem dX12_arrow_162 : decode cX12_arrow 162 = .ok (.ifCond .eq 19, 3) := by decide +kernel
theorem dX12_arrow_165 : decode cX12_arrow 165 = .ok (.iload 8, 2) := by decide +kernel
theorem dX12_arrow_167 : decode cX12_arrow 167 = .ok (.aload 5, 2) := by decide +kernel
theorem dX12_arrow_169 : decode cX12_arrow 169 = .ok (.getfield 109, 3) := by decide +kernel
theorem dX12_arrow_172 : decode cX12_arrow 172 = .ok (.arraylength, 1) := by decide +kernel
theorem dX12_arrow_173 : decode cX12_arrow 173 = .ok (.if_icmp .ge 8, 3) := by decide +kernel
theorem dX12_arrow_176 : decode cX12_arrow 176 = .ok (.iload 8, 2) := by decide +kernel
theorem dX12_arrow_178 : decode cX12_arrow 178 = .ok (.goto 4, 3) := by decide +kernel
theorem dX12_arrow_181 : decode cX12_arrow 181 = .ok (.iconst 0, 1) := by decide +kernel
theorem dX12_arrow_182 : decode cX12_arrow 182 = .ok (.iastore, 1) := by decide +kernel
theorem dX12_arrow_183 : decode cX12_arrow 183 = .ok (.aload_n 0, 1) := by decide +kernel
theorem dX12_arrow_184 : decode cX12_arrow 184 = .ok (.getfield 14, 3) := by decide +kernel
theorem dX12_arrow_187 : decode cX12_arrow 187 = .ok (.bipush 32, 2) := by decide +kernel
theorem dX12_arrow_189 : decode cX12_arrow 189 = .ok (.invokevirtual 68, 3) := by decide +kernel
theorem dX12_arrow_192 : decode cX12_arrow 192 = .ok (.aload 6, 2) := by decide +kernel
theorem dX12_arrow_194 : decode cX12_arrow 194 = .ok (.getfield 138, 3) := by decide +kernel
theorem dX12_arrow_197 : decode cX12_arrow 197 = .ok (.iload 8, 2) := by decide +kernel
theorem dX12_arrow_199 : decode cX12_arrow 199 = .ok (.iaload, 1) := by decide +kernel
theorem dX12_arrow_200 : decode cX12_arrow 200 = .ok (.invokevirtual 93, 3) := by decide +kernel
theorem dX12_arrow_203 : decode cX12_arrow 203 = .ok (.pop, 1) := by decide +kernel
theorem dX12_arrow_204 : decode cX12_arrow 204 = .ok (.iinc 8 1, 3) := by decide +kernel
theorem dX12_arrow_207 : decode cX12_arrow 207 = .ok (.goto (-65), 3) := by decide +kernel
theorem dX12_arrow_210 : decode cX12_arrow 210 = .ok (.iconst 0, 1) := by decide +kernel
theorem dX12_arrow_211 : decode cX12_arrow 211 = .ok (.istore 8, 2) := by decide +kernel
theorem dX12_arrow_213 : decode cX12_arrow 213 = .ok (.iload 8, 2) := by decide +kernel
theorem dX12_arrow_215 : decode cX12_arrow 215 = .ok (.aload 6, 2) := by decide +kernel
theorem dX12_arrow_217 : decode cX12_arrow 217 = .ok (.getfield 141, 3) := by decide +kernel
theorem dX12_arrow_220 : decode cX12_arrow 220 = .ok (.arraylength, 1) := by decide +kernel
theorem dX12_arrow_221 : decode cX12_arrow 221 = .ok (.if_icmp .ge 60, 3) := by decide +kernel
theorem dX12_arrow_224 : decode cX12_arrow 224 = .ok (.aload 6, 2) := by decide +kernel
theorem dX12_arrow_226 : decode cX12_arrow 226 = .ok (.getfield 141, 3) := by decide +kernel
theorem dX12_arrow_229 : decode cX12_arrow 229 = .ok (.iload 8, 2) := by decide +kernel
theorem dX12_arrow_231 : decode cX12_arrow 231 = .ok (.iload 7, 2) := by decide +kernel
theorem dX12_arrow_233 : decode cX12_arrow 233 = .ok (.ifCond .eq 19, 3) := by decide +kernel
theorem dX12_arrow_236 : decode cX12_arrow 236 = .ok (.iload 8, 2) := by decide +kernel
theorem dX12_arrow_238 : decode cX12_arrow 238 = .ok (.aload 5, 2) := by decide +kernel
theorem dX12_arrow_240 : decode cX12_arrow 240 = .ok (.getfield 116, 3) := by decide +kernel
theorem dX12_arrow_243 : decode cX12_arrow 243 = .ok (.arraylength, 1) := by decide +kernel
theorem dX12_arrow_244 : decode cX12_arrow 244 = .ok (.if_icmp .ge 8, 3) := by decide +kernel
theorem dX12_arrow_247 : decode cX12_arrow 247 = .ok (.iload 8, 2) := by decide +kernel
theorem dX12_arrow_249 : decode cX12_arrow 249 = .ok (.goto 4, 3) := by decide +kernel
theorem dX12_arrow_252 : decode cX12_arrow 252 = .ok (.iconst 0, 1) := by decide +kernel
theorem dX12_arrow_253 : decode cX12_arrow 253 = .ok (.iastore, 1) := by decide +kernel
theorem dX12_arrow_254 : decode cX12_arrow 254 = .ok (.aload_n 0, 1) := by decide +kernel
theorem dX12_arrow_255 : decode cX12_arrow 255 = .ok (.getfield 14, 3) := by decide +kernel
theorem dX12_arrow_258 : decode cX12_arrow 258 = .ok (.bipush 32, 2) := by decide +kernel
theorem dX12_arrow_260 : decode cX12_arrow 260 = .ok (.invokevirtual 68, 3) := by decide +kernel
theorem dX12_arrow_263 : decode cX12_arrow 263 = .ok (.aload 6, 2) := by decide +kernel
theorem dX12_arrow_265 : decode cX12_arrow 265 = .ok (.getfield 141, 3) := by decide +kernel
theorem dX12_arrow_268 : decode cX12_arrow 268 = .ok (.iload 8, 2) := by decide +kernel
theorem dX12_arrow_270 : decode cX12_arrow 270 = .ok (.iaload, 1) := by decide +kernel
theorem dX12_arrow_271 : decode cX12_arrow 271 = .ok (.invokevirtual 93, 3) := by decide +kernel
theorem dX12_arrow_274 : decode cX12_arrow 274 = .ok (.pop, 1) := by decide +kernel
theorem dX12_arrow_275 : decode cX12_arrow 275 = .ok (.iinc 8 1, 3) := by decide +kernel
theorem dX12_arrow_278 : decode cX12_arrow 278 = .ok (.goto (-65), 3) := by decide +kernel
theorem dX12_arrow_281 : decode cX12_arrow 281 = .ok (.aload_n 0, 1) := by decide +kernel
theorem dX12_arrow_282 : decode cX12_arrow 282 = .ok (.getfield 34, 3) := by decide +kernel
theorem dX12_arrow_285 : decode cX12_arrow 285 = .ok (.aload_n 0, 1) := by decide +kernel
theorem dX12_arrow_286 : decode cX12_arrow 286 = .ok (.getfield 133, 3) := by decide +kernel
theorem dX12_arrow_289 : decode cX12_arrow 289 = .ok (.aload 6, 2) := by decide +kernel
theorem dX12_arrow_291 : decode cX12_arrow 291 = .ok (.aastore, 1) := by decide +kernel
theorem dX12_arrow_292 : decode cX12_arrow 292 = .ok (.aload_n 0, 1) := by decide +kernel
theorem dX12_arrow_293 : decode cX12_arrow 293 = .ok (.dup, 1) := by decide +kernel
theorem dX12_arrow_294 : decode cX12_arrow 294 = .ok (.getfield 133, 3) := by decide +kernel
theorem dX12_arrow_297 : decode cX12_arrow 297 = .ok (.iconst 1, 1) := by decide +kernel
theorem dX12_arrow_298 : decode cX12_arrow 298 = .ok (.iadd, 1) := by decide +kernel
theorem dX12_arrow_299 : decode cX12_arrow 299 = .ok (.putfield 133, 3) := by decide +kernel
theorem dX12_arrow_302 : decode cX12_arrow 302 = .ok (.return_, 1) := by decide +kernel
theorem dX12_lawful_0 : decode cX12_lawful 0 = .ok (.iconst 0, 1) := by decide +kernel
theorem dX12_lawful_1 : decode cX12_lawful 1 = .ok (.istore_n 1, 1) := by decide +kernel
theorem dX12_lawful_2 : decode cX12_lawful 2 = .ok (.iconst 0, 1) := by decide +kernel
theorem dX12_lawful_3 : decode cX12_lawful 3 = .ok (.istore_n 2, 1) := by decide +kernel
theorem dX12_lawful_4 : decode cX12_lawful 4 = .ok (.iload_n 2, 1) := by decide +kernel
theorem dX12_lawful_5 : decode cX12_lawful 5 = .ok (.aload_n 0, 1) := by decide +kernel
theorem dX12_lawful_6 : decode cX12_lawful 6 = .ok (.getfield 104, 3) := by decide +kernel
theorem dX12_lawful_9 : decode cX12_lawful 9 = .ok (.if_icmp .ge 31, 3) := by decide +kernel
theorem dX12_lawful_12 : decode cX12_lawful 12 = .ok (.iload_n 1, 1) := by decide +kernel
theorem dX12_lawful_13 : decode cX12_lawful 13 = .ok (.aload_n 0, 1) := by decide +kernel
theorem dX12_lawful_14 : decode cX12_lawful 14 = .ok (.getfield 28, 3) := by decide +kernel
theorem dX12_lawful_17 : decode cX12_lawful 17 = .ok (.iload_n 2, 1) := by decide +kernel
theorem dX12_lawful_18 : decode cX12_lawful 18 = .ok (.aaload, 1) := by decide +kernel
theorem dX12_lawful_19 : decode cX12_lawful 19 = .ok (.invokevirtual 144, 3) := by decide +kernel
theorem dX12_lawful_22 : decode cX12_lawful 22 = .ok (.ifCond .ne 9, 3) := by decide +kernel
theorem dX12_lawful_25 : decode cX12_lawful 25 = .ok (.iconst 1, 1) := by decide +kernel
theorem dX12_lawful_26 : decode cX12_lawful 26 = .ok (.iload_n 2, 1) := by decide +kernel
theorem dX12_lawful_27 : decode cX12_lawful 27 = .ok (.ishl, 1) := by decide +kernel
theorem dX12_lawful_28 : decode cX12_lawful 28 = .ok (.goto 4, 3) := by decide +kernel
theorem dX12_lawful_31 : decode cX12_lawful 31 = .ok (.iconst 0, 1) := by decide +kernel
theorem dX12_lawful_32 : decode cX12_lawful 32 = .ok (.ior, 1) := by decide +kernel
theorem dX12_lawful_33 : decode cX12_lawful 33 = .ok (.istore_n 1, 1) := by decide +kernel
theorem dX12_lawful_34 : decode cX12_lawful 34 = .ok (.iinc 2 1, 3) := by decide +kernel
theorem dX12_lawful_37 : decode cX12_lawful 37 = .ok (.goto (-33), 3) := by decide +kernel
theorem dX12_lawful_40 : decode cX12_lawful 40 = .ok (.iload_n 1, 1) := by decide +kernel
theorem dX12_lawful_41 : decode cX12_lawful 41 = .ok (.ireturn, 1) := by decide +kernel
