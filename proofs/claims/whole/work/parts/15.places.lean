/-! Each instruction by its place. Written by program. -/
theorem t_0_0 : tb_in 0 0 = some (.aload_n 0, 0, 0, 0, []) := by decide +kernel
theorem t_0_1 : tb_in 0 1 = some (.invokespecial 1, 1000, 0, 0, []) := by decide +kernel
theorem t_0_4 : tb_in 0 4 = some (.aload_n 0, 0, 0, 0, []) := by decide +kernel
theorem t_0_5 : tb_in 0 5 = some (.new 7, 4, 0, 0, []) := by decide +kernel
theorem t_0_8 : tb_in 0 8 = some (.dup, 0, 0, 0, []) := by decide +kernel
theorem t_0_9 : tb_in 0 9 = some (.invokespecial 9, 87, 1, 0, []) := by decide +kernel
theorem t_0_12 : tb_in 0 12 = some (.putfield 10, 6, 0, 0, []) := by decide +kernel
theorem t_0_15 : tb_in 0 15 = some (.aload_n 0, 0, 0, 0, []) := by decide +kernel
theorem t_0_16 : tb_in 0 16 = some (.bipush 6, 0, 0, 6, []) := by decide +kernel
theorem t_0_18 : tb_in 0 18 = some (.anewarray 7, 4, 0, 0, []) := by decide +kernel
theorem t_0_21 : tb_in 0 21 = some (.putfield 16, 6, 1, 0, []) := by decide +kernel
theorem t_0_24 : tb_in 0 24 = some (.aload_n 0, 0, 0, 0, []) := by decide +kernel
theorem t_0_25 : tb_in 0 25 = some (.bipush 6, 0, 0, 6, []) := by decide +kernel
theorem t_0_27 : tb_in 0 27 = some (.newarray .int, 0, 0, 0, []) := by decide +kernel
theorem t_0_29 : tb_in 0 29 = some (.putfield 20, 6, 2, 0, []) := by decide +kernel
theorem t_0_32 : tb_in 0 32 = some (.aload_n 0, 0, 0, 0, []) := by decide +kernel
theorem t_0_33 : tb_in 0 33 = some (.new 24, 2, 0, 0, []) := by decide +kernel
theorem t_0_36 : tb_in 0 36 = some (.dup, 0, 0, 0, []) := by decide +kernel
theorem t_0_37 : tb_in 0 37 = some (.invokespecial 26, 79, 1, 0, []) := by decide +kernel
theorem t_0_40 : tb_in 0 40 = some (.putfield 27, 6, 3, 0, []) := by decide +kernel
theorem t_0_43 : tb_in 0 43 = some (.aload_n 0, 0, 0, 0, []) := by decide +kernel
theorem t_0_44 : tb_in 0 44 = some (.new 31, 1, 0, 0, []) := by decide +kernel
theorem t_0_47 : tb_in 0 47 = some (.dup, 0, 0, 0, []) := by decide +kernel
theorem t_0_48 : tb_in 0 48 = some (.invokespecial 33, 76, 1, 0, []) := by decide +kernel
theorem t_0_51 : tb_in 0 51 = some (.putfield 34, 6, 4, 0, []) := by decide +kernel
theorem t_0_54 : tb_in 0 54 = some (.aload_n 0, 0, 0, 0, []) := by decide +kernel
theorem t_0_55 : tb_in 0 55 = some (.bipush 96, 0, 0, 96, []) := by decide +kernel
theorem t_0_57 : tb_in 0 57 = some (.anewarray 38, 0, 0, 0, []) := by decide +kernel
theorem t_0_60 : tb_in 0 60 = some (.putfield 40, 6, 5, 0, []) := by decide +kernel
theorem t_0_63 : tb_in 0 63 = some (.aload_n 0, 0, 0, 0, []) := by decide +kernel
theorem t_0_64 : tb_in 0 64 = some (.new 44, 3, 0, 0, []) := by decide +kernel
theorem t_0_67 : tb_in 0 67 = some (.dup, 0, 0, 0, []) := by decide +kernel
theorem t_0_68 : tb_in 0 68 = some (.invokespecial 46, 80, 1, 0, []) := by decide +kernel
theorem t_0_71 : tb_in 0 71 = some (.putfield 47, 6, 6, 0, []) := by decide +kernel
theorem t_0_74 : tb_in 0 74 = some (.aload_n 0, 0, 0, 0, []) := by decide +kernel
theorem t_0_75 : tb_in 0 75 = some (.bipush 96, 0, 0, 96, []) := by decide +kernel
theorem t_0_77 : tb_in 0 77 = some (.putfield 51, 6, 7, 0, []) := by decide +kernel
theorem t_0_80 : tb_in 0 80 = some (.aload_n 0, 0, 0, 0, []) := by decide +kernel
theorem t_0_81 : tb_in 0 81 = some (.bipush 20, 0, 0, 20, []) := by decide +kernel
theorem t_0_83 : tb_in 0 83 = some (.newarray .int, 0, 0, 0, []) := by decide +kernel
theorem t_0_85 : tb_in 0 85 = some (.putfield 55, 6, 8, 0, []) := by decide +kernel
theorem t_0_88 : tb_in 0 88 = some (.aload_n 0, 0, 0, 0, []) := by decide +kernel
theorem t_0_89 : tb_in 0 89 = some (.bipush 20, 0, 0, 20, []) := by decide +kernel
theorem t_0_91 : tb_in 0 91 = some (.anewarray 58, 5, 0, 0, []) := by decide +kernel
theorem t_0_94 : tb_in 0 94 = some (.putfield 60, 6, 9, 0, []) := by decide +kernel
theorem t_0_97 : tb_in 0 97 = some (.aload_n 0, 0, 0, 0, []) := by decide +kernel
theorem t_0_98 : tb_in 0 98 = some (.iconst 0, 0, 0, 0, []) := by decide +kernel
theorem t_0_99 : tb_in 0 99 = some (.putfield 64, 6, 10, 0, []) := by decide +kernel
theorem t_0_102 : tb_in 0 102 = some (.aload_n 0, 0, 0, 0, []) := by decide +kernel
theorem t_0_103 : tb_in 0 103 = some (.iconst 0, 0, 0, 0, []) := by decide +kernel
theorem t_0_104 : tb_in 0 104 = some (.putfield 67, 6, 11, 0, []) := by decide +kernel
theorem t_0_107 : tb_in 0 107 = some (.aload_n 0, 0, 0, 0, []) := by decide +kernel
theorem t_0_108 : tb_in 0 108 = some (.iconst 0, 0, 0, 0, []) := by decide +kernel
theorem t_0_109 : tb_in 0 109 = some (.putfield 70, 6, 12, 0, []) := by decide +kernel
theorem t_0_112 : tb_in 0 112 = some (.aload_n 0, 0, 0, 0, []) := by decide +kernel
theorem t_0_113 : tb_in 0 113 = some (.iconst 0, 0, 0, 0, []) := by decide +kernel
theorem t_0_114 : tb_in 0 114 = some (.putfield 73, 6, 13, 0, []) := by decide +kernel
theorem t_0_117 : tb_in 0 117 = some (.aload_n 0, 0, 0, 0, []) := by decide +kernel
theorem t_0_118 : tb_in 0 118 = some (.iconst 0, 0, 0, 0, []) := by decide +kernel
theorem t_0_119 : tb_in 0 119 = some (.putfield 76, 6, 14, 0, []) := by decide +kernel
theorem t_0_122 : tb_in 0 122 = some (.iconst 0, 0, 0, 0, []) := by decide +kernel
theorem t_0_123 : tb_in 0 123 = some (.istore_n 1, 0, 0, 0, []) := by decide +kernel
theorem t_0_124 : tb_in 0 124 = some (.iload_n 1, 0, 0, 0, []) := by decide +kernel
theorem t_0_125 : tb_in 0 125 = some (.bipush 6, 0, 0, 6, []) := by decide +kernel
theorem t_0_127 : tb_in 0 127 = some (.if_icmp .ge 33, 160, 0, 0, []) := by decide +kernel
theorem t_0_130 : tb_in 0 130 = some (.aload_n 0, 0, 0, 0, []) := by decide +kernel
theorem t_0_131 : tb_in 0 131 = some (.getfield 16, 6, 1, 0, []) := by decide +kernel
theorem t_0_134 : tb_in 0 134 = some (.iload_n 1, 0, 0, 0, []) := by decide +kernel
theorem t_0_135 : tb_in 0 135 = some (.new 7, 4, 0, 0, []) := by decide +kernel
theorem t_0_138 : tb_in 0 138 = some (.dup, 0, 0, 0, []) := by decide +kernel
theorem t_0_139 : tb_in 0 139 = some (.invokespecial 9, 87, 1, 0, []) := by decide +kernel
theorem t_0_142 : tb_in 0 142 = some (.aastore, 0, 0, 0, []) := by decide +kernel
theorem t_0_143 : tb_in 0 143 = some (.aload_n 0, 0, 0, 0, []) := by decide +kernel
theorem t_0_144 : tb_in 0 144 = some (.getfield 16, 6, 1, 0, []) := by decide +kernel
theorem t_0_147 : tb_in 0 147 = some (.iload_n 1, 0, 0, 0, []) := by decide +kernel
theorem t_0_148 : tb_in 0 148 = some (.aaload, 0, 0, 0, []) := by decide +kernel
theorem t_0_149 : tb_in 0 149 = some (.bipush 48, 0, 0, 48, []) := by decide +kernel
theorem t_0_151 : tb_in 0 151 = some (.invokevirtual 79, 89, 2, 0, []) := by decide +kernel
theorem t_0_154 : tb_in 0 154 = some (.iinc 1 1, 0, 0, 1, []) := by decide +kernel
theorem t_0_157 : tb_in 0 157 = some (.goto (-33), 124, 0, 0, []) := by decide +kernel
theorem t_0_160 : tb_in 0 160 = some (.iconst 0, 0, 0, 0, []) := by decide +kernel
theorem t_0_161 : tb_in 0 161 = some (.istore_n 1, 0, 0, 0, []) := by decide +kernel
theorem t_0_162 : tb_in 0 162 = some (.iload_n 1, 0, 0, 0, []) := by decide +kernel
theorem t_0_163 : tb_in 0 163 = some (.bipush 96, 0, 0, 96, []) := by decide +kernel
theorem t_0_165 : tb_in 0 165 = some (.if_icmp .ge 22, 187, 0, 0, []) := by decide +kernel
theorem t_0_168 : tb_in 0 168 = some (.aload_n 0, 0, 0, 0, []) := by decide +kernel
theorem t_0_169 : tb_in 0 169 = some (.getfield 40, 6, 5, 0, []) := by decide +kernel
theorem t_0_172 : tb_in 0 172 = some (.iload_n 1, 0, 0, 0, []) := by decide +kernel
theorem t_0_173 : tb_in 0 173 = some (.new 38, 0, 0, 0, []) := by decide +kernel
theorem t_0_176 : tb_in 0 176 = some (.dup, 0, 0, 0, []) := by decide +kernel
theorem t_0_177 : tb_in 0 177 = some (.invokespecial 83, 75, 1, 0, []) := by decide +kernel
theorem t_0_180 : tb_in 0 180 = some (.aastore, 0, 0, 0, []) := by decide +kernel
theorem t_0_181 : tb_in 0 181 = some (.iinc 1 1, 0, 0, 1, []) := by decide +kernel
theorem t_0_184 : tb_in 0 184 = some (.goto (-22), 162, 0, 0, []) := by decide +kernel
theorem t_0_187 : tb_in 0 187 = some (.iconst 0, 0, 0, 0, []) := by decide +kernel
theorem t_0_188 : tb_in 0 188 = some (.istore_n 1, 0, 0, 0, []) := by decide +kernel
theorem t_0_189 : tb_in 0 189 = some (.iload_n 1, 0, 0, 0, []) := by decide +kernel
theorem t_0_190 : tb_in 0 190 = some (.bipush 20, 0, 0, 20, []) := by decide +kernel
theorem t_0_192 : tb_in 0 192 = some (.if_icmp .ge 22, 214, 0, 0, []) := by decide +kernel
theorem t_0_195 : tb_in 0 195 = some (.aload_n 0, 0, 0, 0, []) := by decide +kernel
theorem t_0_196 : tb_in 0 196 = some (.getfield 60, 6, 9, 0, []) := by decide +kernel
theorem t_0_199 : tb_in 0 199 = some (.iload_n 1, 0, 0, 0, []) := by decide +kernel
theorem t_0_200 : tb_in 0 200 = some (.new 58, 5, 0, 0, []) := by decide +kernel
theorem t_0_203 : tb_in 0 203 = some (.dup, 0, 0, 0, []) := by decide +kernel
theorem t_0_204 : tb_in 0 204 = some (.invokespecial 84, 93, 1, 0, []) := by decide +kernel
theorem t_0_207 : tb_in 0 207 = some (.aastore, 0, 0, 0, []) := by decide +kernel
theorem t_0_208 : tb_in 0 208 = some (.iinc 1 1, 0, 0, 1, []) := by decide +kernel
theorem t_0_211 : tb_in 0 211 = some (.goto (-22), 189, 0, 0, []) := by decide +kernel
theorem t_0_214 : tb_in 0 214 = some (.return_, 0, 0, 0, []) := by decide +kernel
theorem t_1_0 : tb_in 1 0 = some (.aload_n 0, 0, 0, 0, []) := by decide +kernel
theorem t_1_1 : tb_in 1 1 = some (.getfield 10, 6, 0, 0, []) := by decide +kernel
theorem t_1_4 : tb_in 1 4 = some (.getfield 85, 4, 1, 0, []) := by decide +kernel
theorem t_1_7 : tb_in 1 7 = some (.lload_n 1, 0, 0, 0, []) := by decide +kernel
theorem t_1_8 : tb_in 1 8 = some (.invokestatic 88, 22, 1, 0, []) := by decide +kernel
theorem t_1_11 : tb_in 1 11 = some (.iadd, 0, 0, 0, []) := by decide +kernel
theorem t_1_12 : tb_in 1 12 = some (.bipush 24, 0, 0, 24, []) := by decide +kernel
theorem t_1_14 : tb_in 1 14 = some (.if_icmp .le 5, 19, 0, 0, []) := by decide +kernel
theorem t_1_17 : tb_in 1 17 = some (.iconst (-1), 0, 0, (-1), []) := by decide +kernel
theorem t_1_18 : tb_in 1 18 = some (.ireturn, 0, 0, 0, []) := by decide +kernel
theorem t_1_19 : tb_in 1 19 = some (.iconst 0, 0, 0, 0, []) := by decide +kernel
theorem t_1_20 : tb_in 1 20 = some (.istore_n 3, 0, 0, 0, []) := by decide +kernel
theorem t_1_21 : tb_in 1 21 = some (.iload_n 3, 0, 0, 0, []) := by decide +kernel
theorem t_1_22 : tb_in 1 22 = some (.bipush 8, 0, 0, 8, []) := by decide +kernel
theorem t_1_24 : tb_in 1 24 = some (.if_icmp .ge 30, 54, 0, 0, []) := by decide +kernel
theorem t_1_27 : tb_in 1 27 = some (.lload_n 1, 0, 0, 0, []) := by decide +kernel
theorem t_1_28 : tb_in 1 28 = some (.iload_n 3, 0, 0, 0, []) := by decide +kernel
theorem t_1_29 : tb_in 1 29 = some (.invokestatic 92, 21, 2, 0, []) := by decide +kernel
theorem t_1_32 : tb_in 1 32 = some (.istore 4, 0, 0, 0, []) := by decide +kernel
theorem t_1_34 : tb_in 1 34 = some (.iload 4, 0, 0, 0, []) := by decide +kernel
theorem t_1_36 : tb_in 1 36 = some (.ifCond .eq 12, 48, 0, 0, []) := by decide +kernel
theorem t_1_39 : tb_in 1 39 = some (.aload_n 0, 0, 0, 0, []) := by decide +kernel
theorem t_1_40 : tb_in 1 40 = some (.getfield 10, 6, 0, 0, []) := by decide +kernel
theorem t_1_43 : tb_in 1 43 = some (.iload 4, 0, 0, 0, []) := by decide +kernel
theorem t_1_45 : tb_in 1 45 = some (.invokevirtual 79, 89, 2, 0, []) := by decide +kernel
theorem t_1_48 : tb_in 1 48 = some (.iinc 3 1, 0, 0, 1, []) := by decide +kernel
theorem t_1_51 : tb_in 1 51 = some (.goto (-30), 21, 0, 0, []) := by decide +kernel
theorem t_1_54 : tb_in 1 54 = some (.aload_n 0, 0, 0, 0, []) := by decide +kernel
theorem t_1_55 : tb_in 1 55 = some (.getfield 10, 6, 0, 0, []) := by decide +kernel
theorem t_1_58 : tb_in 1 58 = some (.getfield 85, 4, 1, 0, []) := by decide +kernel
theorem t_1_61 : tb_in 1 61 = some (.ireturn, 0, 0, 0, []) := by decide +kernel
theorem t_2_0 : tb_in 2 0 = some (.aload_n 0, 0, 0, 0, []) := by decide +kernel
theorem t_2_1 : tb_in 2 1 = some (.getfield 10, 6, 0, 0, []) := by decide +kernel
theorem t_2_4 : tb_in 2 4 = some (.getfield 85, 4, 1, 0, []) := by decide +kernel
theorem t_2_7 : tb_in 2 7 = some (.istore_n 1, 0, 0, 0, []) := by decide +kernel
theorem t_2_8 : tb_in 2 8 = some (.aload_n 0, 0, 0, 0, []) := by decide +kernel
theorem t_2_9 : tb_in 2 9 = some (.getfield 10, 6, 0, 0, []) := by decide +kernel
theorem t_2_12 : tb_in 2 12 = some (.iconst 0, 0, 0, 0, []) := by decide +kernel
theorem t_2_13 : tb_in 2 13 = some (.putfield 85, 4, 1, 0, []) := by decide +kernel
theorem t_2_16 : tb_in 2 16 = some (.iload_n 1, 0, 0, 0, []) := by decide +kernel
theorem t_2_17 : tb_in 2 17 = some (.ireturn, 0, 0, 0, []) := by decide +kernel
theorem t_3_0 : tb_in 3 0 = some (.iload_n 1, 0, 0, 0, []) := by decide +kernel
theorem t_3_1 : tb_in 3 1 = some (.invokestatic 96, 17, 1, 0, []) := by decide +kernel
theorem t_3_4 : tb_in 3 4 = some (.aload_n 0, 0, 0, 0, []) := by decide +kernel
theorem t_3_5 : tb_in 3 5 = some (.getfield 10, 6, 0, 0, []) := by decide +kernel
theorem t_3_8 : tb_in 3 8 = some (.invokevirtual 100, 91, 1, 0, []) := by decide +kernel
theorem t_3_11 : tb_in 3 11 = some (.istore_n 2, 0, 0, 0, []) := by decide +kernel
theorem t_3_12 : tb_in 3 12 = some (.iload_n 2, 0, 0, 0, []) := by decide +kernel
theorem t_3_13 : tb_in 3 13 = some (.iconst (-1), 0, 0, (-1), []) := by decide +kernel
theorem t_3_14 : tb_in 3 14 = some (.if_icmp .ne 31, 45, 0, 0, []) := by decide +kernel
theorem t_3_17 : tb_in 3 17 = some (.aload_n 0, 0, 0, 0, []) := by decide +kernel
theorem t_3_18 : tb_in 3 18 = some (.getfield 16, 6, 1, 0, []) := by decide +kernel
theorem t_3_21 : tb_in 3 21 = some (.iload_n 1, 0, 0, 0, []) := by decide +kernel
theorem t_3_22 : tb_in 3 22 = some (.aaload, 0, 0, 0, []) := by decide +kernel
theorem t_3_23 : tb_in 3 23 = some (.aload_n 0, 0, 0, 0, []) := by decide +kernel
theorem t_3_24 : tb_in 3 24 = some (.getfield 10, 6, 0, 0, []) := by decide +kernel
theorem t_3_27 : tb_in 3 27 = some (.invokevirtual 104, 90, 2, 0, []) := by decide +kernel
theorem t_3_30 : tb_in 3 30 = some (.aload_n 0, 0, 0, 0, []) := by decide +kernel
theorem t_3_31 : tb_in 3 31 = some (.getfield 10, 6, 0, 0, []) := by decide +kernel
theorem t_3_34 : tb_in 3 34 = some (.iconst 0, 0, 0, 0, []) := by decide +kernel
theorem t_3_35 : tb_in 3 35 = some (.putfield 85, 4, 1, 0, []) := by decide +kernel
theorem t_3_38 : tb_in 3 38 = some (.aload_n 0, 0, 0, 0, []) := by decide +kernel
theorem t_3_39 : tb_in 3 39 = some (.getfield 47, 6, 6, 0, []) := by decide +kernel
theorem t_3_42 : tb_in 3 42 = some (.invokevirtual 108, 84, 1, 0, []) := by decide +kernel
theorem t_3_45 : tb_in 3 45 = some (.iload_n 2, 0, 0, 0, []) := by decide +kernel
theorem t_3_46 : tb_in 3 46 = some (.ireturn, 0, 0, 0, []) := by decide +kernel
theorem t_4_0 : tb_in 4 0 = some (.iload_n 1, 0, 0, 0, []) := by decide +kernel
theorem t_4_1 : tb_in 4 1 = some (.invokestatic 111, 16, 1, 0, []) := by decide +kernel
theorem t_4_4 : tb_in 4 4 = some (.iload_n 2, 0, 0, 0, []) := by decide +kernel
theorem t_4_5 : tb_in 4 5 = some (.invokestatic 114, 18, 1, 0, []) := by decide +kernel
theorem t_4_8 : tb_in 4 8 = some (.iload_n 1, 0, 0, 0, []) := by decide +kernel
theorem t_4_9 : tb_in 4 9 = some (.bipush 16, 0, 0, 16, []) := by decide +kernel
theorem t_4_11 : tb_in 4 11 = some (.imul, 0, 0, 0, []) := by decide +kernel
theorem t_4_12 : tb_in 4 12 = some (.iload_n 2, 0, 0, 0, []) := by decide +kernel
theorem t_4_13 : tb_in 4 13 = some (.iadd, 0, 0, 0, []) := by decide +kernel
theorem t_4_14 : tb_in 4 14 = some (.istore 4, 0, 0, 0, []) := by decide +kernel
theorem t_4_16 : tb_in 4 16 = some (.aload_n 0, 0, 0, 0, []) := by decide +kernel
theorem t_4_17 : tb_in 4 17 = some (.getfield 27, 6, 3, 0, []) := by decide +kernel
theorem t_4_20 : tb_in 4 20 = some (.getfield 117, 2, 0, 0, []) := by decide +kernel
theorem t_4_23 : tb_in 4 23 = some (.iload 4, 0, 0, 0, []) := by decide +kernel
theorem t_4_25 : tb_in 4 25 = some (.iaload, 0, 0, 0, []) := by decide +kernel
theorem t_4_26 : tb_in 4 26 = some (.iload_n 3, 0, 0, 0, []) := by decide +kernel
theorem t_4_27 : tb_in 4 27 = some (.if_icmp .ne 5, 32, 0, 0, []) := by decide +kernel
theorem t_4_30 : tb_in 4 30 = some (.iconst 0, 0, 0, 0, []) := by decide +kernel
theorem t_4_31 : tb_in 4 31 = some (.ireturn, 0, 0, 0, []) := by decide +kernel
theorem t_4_32 : tb_in 4 32 = some (.aload_n 0, 0, 0, 0, []) := by decide +kernel
theorem t_4_33 : tb_in 4 33 = some (.aload_n 0, 0, 0, 0, []) := by decide +kernel
theorem t_4_34 : tb_in 4 34 = some (.getfield 27, 6, 3, 0, []) := by decide +kernel
theorem t_4_37 : tb_in 4 37 = some (.getfield 120, 2, 2, 0, []) := by decide +kernel
theorem t_4_40 : tb_in 4 40 = some (.iload_n 1, 0, 0, 0, []) := by decide +kernel
theorem t_4_41 : tb_in 4 41 = some (.iaload, 0, 0, 0, []) := by decide +kernel
theorem t_4_42 : tb_in 4 42 = some (.invokevirtual 123, 23, 2, 0, []) := by decide +kernel
theorem t_4_45 : tb_in 4 45 = some (.aload_n 0, 0, 0, 0, []) := by decide +kernel
theorem t_4_46 : tb_in 4 46 = some (.getfield 27, 6, 3, 0, []) := by decide +kernel
theorem t_4_49 : tb_in 4 49 = some (.getfield 117, 2, 0, 0, []) := by decide +kernel
theorem t_4_52 : tb_in 4 52 = some (.iload 4, 0, 0, 0, []) := by decide +kernel
theorem t_4_54 : tb_in 4 54 = some (.iload_n 3, 0, 0, 0, []) := by decide +kernel
theorem t_4_55 : tb_in 4 55 = some (.iastore, 0, 0, 0, []) := by decide +kernel
theorem t_4_56 : tb_in 4 56 = some (.aload_n 0, 0, 0, 0, []) := by decide +kernel
theorem t_4_57 : tb_in 4 57 = some (.getfield 27, 6, 3, 0, []) := by decide +kernel
theorem t_4_60 : tb_in 4 60 = some (.getfield 126, 2, 1, 0, []) := by decide +kernel
theorem t_4_63 : tb_in 4 63 = some (.iload 4, 0, 0, 0, []) := by decide +kernel
theorem t_4_65 : tb_in 4 65 = some (.aload_n 0, 0, 0, 0, []) := by decide +kernel
theorem t_4_66 : tb_in 4 66 = some (.getfield 34, 6, 4, 0, []) := by decide +kernel
theorem t_4_69 : tb_in 4 69 = some (.getfield 129, 1, 0, 0, []) := by decide +kernel
theorem t_4_72 : tb_in 4 72 = some (.iastore, 0, 0, 0, []) := by decide +kernel
theorem t_4_73 : tb_in 4 73 = some (.iconst 1, 0, 0, 1, []) := by decide +kernel
theorem t_4_74 : tb_in 4 74 = some (.ireturn, 0, 0, 0, []) := by decide +kernel
theorem t_5_0 : tb_in 5 0 = some (.iload_n 1, 0, 0, 0, []) := by decide +kernel
theorem t_5_1 : tb_in 5 1 = some (.invokestatic 96, 17, 1, 0, []) := by decide +kernel
theorem t_5_4 : tb_in 5 4 = some (.aload_n 0, 0, 0, 0, []) := by decide +kernel
theorem t_5_5 : tb_in 5 5 = some (.getfield 20, 6, 2, 0, []) := by decide +kernel
theorem t_5_8 : tb_in 5 8 = some (.iload_n 1, 0, 0, 0, []) := by decide +kernel
theorem t_5_9 : tb_in 5 9 = some (.iaload, 0, 0, 0, []) := by decide +kernel
theorem t_5_10 : tb_in 5 10 = some (.iload_n 2, 0, 0, 0, []) := by decide +kernel
theorem t_5_11 : tb_in 5 11 = some (.if_icmp .ne 5, 16, 0, 0, []) := by decide +kernel
theorem t_5_14 : tb_in 5 14 = some (.iconst 0, 0, 0, 0, []) := by decide +kernel
theorem t_5_15 : tb_in 5 15 = some (.ireturn, 0, 0, 0, []) := by decide +kernel
theorem t_5_16 : tb_in 5 16 = some (.aload_n 0, 0, 0, 0, []) := by decide +kernel
theorem t_5_17 : tb_in 5 17 = some (.iconst 0, 0, 0, 0, []) := by decide +kernel
theorem t_5_18 : tb_in 5 18 = some (.invokevirtual 123, 23, 2, 0, []) := by decide +kernel
theorem t_5_21 : tb_in 5 21 = some (.aload_n 0, 0, 0, 0, []) := by decide +kernel
theorem t_5_22 : tb_in 5 22 = some (.getfield 20, 6, 2, 0, []) := by decide +kernel
theorem t_5_25 : tb_in 5 25 = some (.iload_n 1, 0, 0, 0, []) := by decide +kernel
theorem t_5_26 : tb_in 5 26 = some (.iload_n 2, 0, 0, 0, []) := by decide +kernel
theorem t_5_27 : tb_in 5 27 = some (.iastore, 0, 0, 0, []) := by decide +kernel
theorem t_5_28 : tb_in 5 28 = some (.iconst 1, 0, 0, 1, []) := by decide +kernel
theorem t_5_29 : tb_in 5 29 = some (.ireturn, 0, 0, 0, []) := by decide +kernel
theorem t_6_0 : tb_in 6 0 = some (.iload_n 1, 0, 0, 0, []) := by decide +kernel
theorem t_6_1 : tb_in 6 1 = some (.invokestatic 111, 16, 1, 0, []) := by decide +kernel
theorem t_6_4 : tb_in 6 4 = some (.iload_n 2, 0, 0, 0, []) := by decide +kernel
theorem t_6_5 : tb_in 6 5 = some (.iconst 3, 0, 0, 3, []) := by decide +kernel
theorem t_6_6 : tb_in 6 6 = some (.invokestatic 132, 15, 2, 0, []) := by decide +kernel
theorem t_6_9 : tb_in 6 9 = some (.aload_n 0, 0, 0, 0, []) := by decide +kernel
theorem t_6_10 : tb_in 6 10 = some (.getfield 27, 6, 3, 0, []) := by decide +kernel
theorem t_6_13 : tb_in 6 13 = some (.getfield 120, 2, 2, 0, []) := by decide +kernel
theorem t_6_16 : tb_in 6 16 = some (.iload_n 1, 0, 0, 0, []) := by decide +kernel
theorem t_6_17 : tb_in 6 17 = some (.iload_n 2, 0, 0, 0, []) := by decide +kernel
theorem t_6_18 : tb_in 6 18 = some (.iastore, 0, 0, 0, []) := by decide +kernel
theorem t_6_19 : tb_in 6 19 = some (.aload_n 0, 0, 0, 0, []) := by decide +kernel
theorem t_6_20 : tb_in 6 20 = some (.getfield 47, 6, 6, 0, []) := by decide +kernel
theorem t_6_23 : tb_in 6 23 = some (.invokevirtual 108, 84, 1, 0, []) := by decide +kernel
theorem t_6_26 : tb_in 6 26 = some (.return_, 0, 0, 0, []) := by decide +kernel
theorem t_7_0 : tb_in 7 0 = some (.iload_n 1, 0, 0, 0, []) := by decide +kernel
theorem t_7_1 : tb_in 7 1 = some (.iload_n 2, 0, 0, 0, []) := by decide +kernel
theorem t_7_2 : tb_in 7 2 = some (.invokestatic 136, 19, 2, 0, []) := by decide +kernel
theorem t_7_5 : tb_in 7 5 = some (.iload_n 1, 0, 0, 0, []) := by decide +kernel
theorem t_7_6 : tb_in 7 6 = some (.bipush 16, 0, 0, 16, []) := by decide +kernel
theorem t_7_8 : tb_in 7 8 = some (.imul, 0, 0, 0, []) := by decide +kernel
theorem t_7_9 : tb_in 7 9 = some (.iload_n 2, 0, 0, 0, []) := by decide +kernel
theorem t_7_10 : tb_in 7 10 = some (.iadd, 0, 0, 0, []) := by decide +kernel
theorem t_7_11 : tb_in 7 11 = some (.istore_n 3, 0, 0, 0, []) := by decide +kernel
theorem t_7_12 : tb_in 7 12 = some (.getstatic 139, 3, 0, 0, []) := by decide +kernel
theorem t_7_15 : tb_in 7 15 = some (.astore 4, 0, 0, 0, []) := by decide +kernel
theorem t_7_17 : tb_in 7 17 = some (.iconst 0, 0, 0, 0, []) := by decide +kernel
theorem t_7_18 : tb_in 7 18 = some (.istore 5, 0, 0, 0, []) := by decide +kernel
theorem t_7_20 : tb_in 7 20 = some (.iload 5, 0, 0, 0, []) := by decide +kernel
theorem t_7_22 : tb_in 7 22 = some (.bipush 96, 0, 0, 96, []) := by decide +kernel
theorem t_7_24 : tb_in 7 24 = some (.if_icmp .gt 29, 53, 0, 0, []) := by decide +kernel
theorem t_7_27 : tb_in 7 27 = some (.aload 4, 0, 0, 0, []) := by decide +kernel
theorem t_7_29 : tb_in 7 29 = some (.getstatic 139, 3, 0, 0, []) := by decide +kernel
theorem t_7_32 : tb_in 7 32 = some (.if_acmp .ne 21, 53, 0, 0, []) := by decide +kernel
theorem t_7_35 : tb_in 7 35 = some (.aload_n 0, 0, 0, 0, []) := by decide +kernel
theorem t_7_36 : tb_in 7 36 = some (.iconst 0, 0, 0, 0, []) := by decide +kernel
theorem t_7_37 : tb_in 7 37 = some (.putfield 64, 6, 10, 0, []) := by decide +kernel
theorem t_7_40 : tb_in 7 40 = some (.aload_n 0, 0, 0, 0, []) := by decide +kernel
theorem t_7_41 : tb_in 7 41 = some (.iload_n 3, 0, 0, 0, []) := by decide +kernel
theorem t_7_42 : tb_in 7 42 = some (.invokevirtual 145, 25, 2, 0, []) := by decide +kernel
theorem t_7_45 : tb_in 7 45 = some (.astore 4, 0, 0, 0, []) := by decide +kernel
theorem t_7_47 : tb_in 7 47 = some (.iinc 5 1, 0, 0, 1, []) := by decide +kernel
theorem t_7_50 : tb_in 7 50 = some (.goto (-30), 20, 0, 0, []) := by decide +kernel
theorem t_7_53 : tb_in 7 53 = some (.aload 4, 0, 0, 0, []) := by decide +kernel
theorem t_7_55 : tb_in 7 55 = some (.getstatic 149, 1, 0, 0, []) := by decide +kernel
theorem t_7_58 : tb_in 7 58 = some (.if_acmp .eq 13, 71, 0, 0, []) := by decide +kernel
theorem t_7_61 : tb_in 7 61 = some (.new 152, 1001, 0, 0, []) := by decide +kernel
theorem t_7_64 : tb_in 7 64 = some (.dup, 0, 0, 0, []) := by decide +kernel
theorem t_7_70 : tb_in 7 70 = some (.athrow, 0, 0, 0, []) := by decide +kernel
theorem t_7_71 : tb_in 7 71 = some (.aload_n 0, 0, 0, 0, []) := by decide +kernel
theorem t_7_72 : tb_in 7 72 = some (.getfield 47, 6, 6, 0, []) := by decide +kernel
theorem t_7_75 : tb_in 7 75 = some (.iload_n 3, 0, 0, 0, []) := by decide +kernel
theorem t_7_76 : tb_in 7 76 = some (.invokevirtual 159, 82, 2, 0, []) := by decide +kernel
theorem t_7_79 : tb_in 7 79 = some (.aload_n 0, 0, 0, 0, []) := by decide +kernel
theorem t_7_80 : tb_in 7 80 = some (.invokevirtual 162, 24, 1, 0, []) := by decide +kernel
theorem t_7_83 : tb_in 7 83 = some (.pop, 0, 0, 0, []) := by decide +kernel
theorem t_7_84 : tb_in 7 84 = some (.aload_n 0, 0, 0, 0, []) := by decide +kernel
theorem t_7_85 : tb_in 7 85 = some (.getfield 40, 6, 5, 0, []) := by decide +kernel
theorem t_7_88 : tb_in 7 88 = some (.iload_n 3, 0, 0, 0, []) := by decide +kernel
theorem t_7_89 : tb_in 7 89 = some (.aaload, 0, 0, 0, []) := by decide +kernel
theorem t_7_90 : tb_in 7 90 = some (.getfield 165, 0, 0, 0, []) := by decide +kernel
theorem t_7_93 : tb_in 7 93 = some (.ireturn, 0, 0, 0, []) := by decide +kernel
theorem t_8_0 : tb_in 8 0 = some (.iload_n 1, 0, 0, 0, []) := by decide +kernel
theorem t_8_1 : tb_in 8 1 = some (.tableswitch 75 0 5 #[39, 47, 52, 57, 62, 67], 76, 39, 0, [40, 48, 53, 58, 63, 68]) := by decide +kernel
theorem t_8_40 : tb_in 8 40 = some (.aload_n 0, 0, 0, 0, []) := by decide +kernel
theorem t_8_41 : tb_in 8 41 = some (.getfield 34, 6, 4, 0, []) := by decide +kernel
theorem t_8_44 : tb_in 8 44 = some (.getfield 129, 1, 0, 0, []) := by decide +kernel
theorem t_8_47 : tb_in 8 47 = some (.ireturn, 0, 0, 0, []) := by decide +kernel
theorem t_8_48 : tb_in 8 48 = some (.aload_n 0, 0, 0, 0, []) := by decide +kernel
theorem t_8_49 : tb_in 8 49 = some (.getfield 67, 6, 11, 0, []) := by decide +kernel
theorem t_8_52 : tb_in 8 52 = some (.ireturn, 0, 0, 0, []) := by decide +kernel
theorem t_8_53 : tb_in 8 53 = some (.aload_n 0, 0, 0, 0, []) := by decide +kernel
theorem t_8_54 : tb_in 8 54 = some (.getfield 70, 6, 12, 0, []) := by decide +kernel
theorem t_8_57 : tb_in 8 57 = some (.ireturn, 0, 0, 0, []) := by decide +kernel
theorem t_8_58 : tb_in 8 58 = some (.aload_n 0, 0, 0, 0, []) := by decide +kernel
theorem t_8_59 : tb_in 8 59 = some (.getfield 73, 6, 13, 0, []) := by decide +kernel
theorem t_8_62 : tb_in 8 62 = some (.ireturn, 0, 0, 0, []) := by decide +kernel
theorem t_8_63 : tb_in 8 63 = some (.aload_n 0, 0, 0, 0, []) := by decide +kernel
theorem t_8_64 : tb_in 8 64 = some (.getfield 76, 6, 14, 0, []) := by decide +kernel
theorem t_8_67 : tb_in 8 67 = some (.ireturn, 0, 0, 0, []) := by decide +kernel
theorem t_8_68 : tb_in 8 68 = some (.aload_n 0, 0, 0, 0, []) := by decide +kernel
theorem t_8_69 : tb_in 8 69 = some (.getfield 47, 6, 6, 0, []) := by decide +kernel
theorem t_8_72 : tb_in 8 72 = some (.getfield 168, 3, 0, 0, []) := by decide +kernel
theorem t_8_75 : tb_in 8 75 = some (.ireturn, 0, 0, 0, []) := by decide +kernel
theorem t_8_76 : tb_in 8 76 = some (.iconst (-1), 0, 0, (-1), []) := by decide +kernel
theorem t_8_77 : tb_in 8 77 = some (.ireturn, 0, 0, 0, []) := by decide +kernel
theorem t_9_0 : tb_in 9 0 = some (.iload_n 1, 0, 0, 0, []) := by decide +kernel
theorem t_9_1 : tb_in 9 1 = some (.iload_n 2, 0, 0, 0, []) := by decide +kernel
theorem t_9_2 : tb_in 9 2 = some (.invokestatic 136, 19, 2, 0, []) := by decide +kernel
theorem t_9_5 : tb_in 9 5 = some (.aload_n 0, 0, 0, 0, []) := by decide +kernel
theorem t_9_6 : tb_in 9 6 = some (.getfield 47, 6, 6, 0, []) := by decide +kernel
theorem t_9_9 : tb_in 9 9 = some (.iload_n 1, 0, 0, 0, []) := by decide +kernel
theorem t_9_10 : tb_in 9 10 = some (.bipush 16, 0, 0, 16, []) := by decide +kernel
theorem t_9_12 : tb_in 9 12 = some (.imul, 0, 0, 0, []) := by decide +kernel
theorem t_9_13 : tb_in 9 13 = some (.iload_n 2, 0, 0, 0, []) := by decide +kernel
theorem t_9_14 : tb_in 9 14 = some (.iadd, 0, 0, 0, []) := by decide +kernel
theorem t_9_15 : tb_in 9 15 = some (.invokevirtual 171, 81, 2, 0, []) := by decide +kernel
theorem t_9_18 : tb_in 9 18 = some (.ireturn, 0, 0, 0, []) := by decide +kernel
theorem t_10_0 : tb_in 10 0 = some (.iload_n 1, 0, 0, 0, []) := by decide +kernel
theorem t_10_1 : tb_in 10 1 = some (.iload_n 2, 0, 0, 0, []) := by decide +kernel
theorem t_10_2 : tb_in 10 2 = some (.invokestatic 136, 19, 2, 0, []) := by decide +kernel
theorem t_10_5 : tb_in 10 5 = some (.iload_n 3, 0, 0, 0, []) := by decide +kernel
theorem t_10_6 : tb_in 10 6 = some (.bipush 6, 0, 0, 6, []) := by decide +kernel
theorem t_10_8 : tb_in 10 8 = some (.invokestatic 132, 15, 2, 0, []) := by decide +kernel
theorem t_10_11 : tb_in 10 11 = some (.aload_n 0, 0, 0, 0, []) := by decide +kernel
theorem t_10_12 : tb_in 10 12 = some (.iload_n 1, 0, 0, 0, []) := by decide +kernel
theorem t_10_13 : tb_in 10 13 = some (.bipush 16, 0, 0, 16, []) := by decide +kernel
theorem t_10_15 : tb_in 10 15 = some (.imul, 0, 0, 0, []) := by decide +kernel
theorem t_10_16 : tb_in 10 16 = some (.iload_n 2, 0, 0, 0, []) := by decide +kernel
theorem t_10_17 : tb_in 10 17 = some (.iadd, 0, 0, 0, []) := by decide +kernel
theorem t_10_18 : tb_in 10 18 = some (.invokevirtual 175, 20, 2, 0, []) := by decide +kernel
theorem t_10_21 : tb_in 10 21 = some (.astore 4, 0, 0, 0, []) := by decide +kernel
theorem t_10_23 : tb_in 10 23 = some (.iload_n 3, 0, 0, 0, []) := by decide +kernel
theorem t_10_24 : tb_in 10 24 = some (.tableswitch 74 0 4 #[36, 42, 48, 54, 60], 98, 36, 0, [60, 66, 72, 78, 84]) := by decide +kernel
theorem t_10_60 : tb_in 10 60 = some (.aload 4, 0, 0, 0, []) := by decide +kernel
theorem t_10_62 : tb_in 10 62 = some (.getfield 165, 0, 0, 0, []) := by decide +kernel
theorem t_10_65 : tb_in 10 65 = some (.ireturn, 0, 0, 0, []) := by decide +kernel
theorem t_10_66 : tb_in 10 66 = some (.aload 4, 0, 0, 0, []) := by decide +kernel
theorem t_10_68 : tb_in 10 68 = some (.getfield 179, 0, 3, 0, []) := by decide +kernel
theorem t_10_71 : tb_in 10 71 = some (.ireturn, 0, 0, 0, []) := by decide +kernel
theorem t_10_72 : tb_in 10 72 = some (.aload 4, 0, 0, 0, []) := by decide +kernel
theorem t_10_74 : tb_in 10 74 = some (.getfield 182, 0, 4, 0, []) := by decide +kernel
theorem t_10_77 : tb_in 10 77 = some (.ireturn, 0, 0, 0, []) := by decide +kernel
theorem t_10_78 : tb_in 10 78 = some (.aload 4, 0, 0, 0, []) := by decide +kernel
theorem t_10_80 : tb_in 10 80 = some (.getfield 184, 0, 5, 0, []) := by decide +kernel
theorem t_10_83 : tb_in 10 83 = some (.ireturn, 0, 0, 0, []) := by decide +kernel
theorem t_10_84 : tb_in 10 84 = some (.aload 4, 0, 0, 0, []) := by decide +kernel
theorem t_10_86 : tb_in 10 86 = some (.getfield 187, 0, 6, 0, []) := by decide +kernel
theorem t_10_89 : tb_in 10 89 = some (.ifCond .eq 7, 96, 0, 0, []) := by decide +kernel
theorem t_10_92 : tb_in 10 92 = some (.iconst 1, 0, 0, 1, []) := by decide +kernel
theorem t_10_93 : tb_in 10 93 = some (.goto 4, 97, 0, 0, []) := by decide +kernel
theorem t_10_96 : tb_in 10 96 = some (.iconst 0, 0, 0, 0, []) := by decide +kernel
theorem t_10_97 : tb_in 10 97 = some (.ireturn, 0, 0, 0, []) := by decide +kernel
theorem t_10_98 : tb_in 10 98 = some (.aload 4, 0, 0, 0, []) := by decide +kernel
theorem t_10_100 : tb_in 10 100 = some (.getfield 191, 0, 2, 0, []) := by decide +kernel
theorem t_10_103 : tb_in 10 103 = some (.ireturn, 0, 0, 0, []) := by decide +kernel
theorem t_11_0 : tb_in 11 0 = some (.iload_n 1, 0, 0, 0, []) := by decide +kernel
theorem t_11_1 : tb_in 11 1 = some (.iload_n 2, 0, 0, 0, []) := by decide +kernel
theorem t_11_2 : tb_in 11 2 = some (.invokestatic 136, 19, 2, 0, []) := by decide +kernel
theorem t_11_5 : tb_in 11 5 = some (.aload_n 0, 0, 0, 0, []) := by decide +kernel
theorem t_11_6 : tb_in 11 6 = some (.iload_n 1, 0, 0, 0, []) := by decide +kernel
theorem t_11_7 : tb_in 11 7 = some (.bipush 16, 0, 0, 16, []) := by decide +kernel
theorem t_11_9 : tb_in 11 9 = some (.imul, 0, 0, 0, []) := by decide +kernel
theorem t_11_10 : tb_in 11 10 = some (.iload_n 2, 0, 0, 0, []) := by decide +kernel
theorem t_11_11 : tb_in 11 11 = some (.iadd, 0, 0, 0, []) := by decide +kernel
theorem t_11_12 : tb_in 11 12 = some (.invokevirtual 175, 20, 2, 0, []) := by decide +kernel
theorem t_11_15 : tb_in 11 15 = some (.astore 4, 0, 0, 0, []) := by decide +kernel
theorem t_11_17 : tb_in 11 17 = some (.iload_n 3, 0, 0, 0, []) := by decide +kernel
theorem t_11_18 : tb_in 11 18 = some (.ifCond .lt 22, 40, 0, 0, []) := by decide +kernel
theorem t_11_21 : tb_in 11 21 = some (.iload_n 3, 0, 0, 0, []) := by decide +kernel
theorem t_11_22 : tb_in 11 22 = some (.aload 4, 0, 0, 0, []) := by decide +kernel
theorem t_11_24 : tb_in 11 24 = some (.getfield 191, 0, 2, 0, []) := by decide +kernel
theorem t_11_27 : tb_in 11 27 = some (.if_icmp .ge 13, 40, 0, 0, []) := by decide +kernel
theorem t_11_30 : tb_in 11 30 = some (.aload 4, 0, 0, 0, []) := by decide +kernel
theorem t_11_32 : tb_in 11 32 = some (.getfield 194, 0, 1, 0, []) := by decide +kernel
theorem t_11_35 : tb_in 11 35 = some (.iload_n 3, 0, 0, 0, []) := by decide +kernel
theorem t_11_36 : tb_in 11 36 = some (.iaload, 0, 0, 0, []) := by decide +kernel
theorem t_11_37 : tb_in 11 37 = some (.goto 4, 41, 0, 0, []) := by decide +kernel
theorem t_11_40 : tb_in 11 40 = some (.iconst (-1), 0, 0, (-1), []) := by decide +kernel
theorem t_11_41 : tb_in 11 41 = some (.ireturn, 0, 0, 0, []) := by decide +kernel
theorem t_12_0 : tb_in 12 0 = some (.iload_n 1, 0, 0, 0, []) := by decide +kernel
theorem t_12_1 : tb_in 12 1 = some (.ifCond .lt 25, 26, 0, 0, []) := by decide +kernel
theorem t_12_4 : tb_in 12 4 = some (.iload_n 1, 0, 0, 0, []) := by decide +kernel
theorem t_12_5 : tb_in 12 5 = some (.aload_n 0, 0, 0, 0, []) := by decide +kernel
theorem t_12_6 : tb_in 12 6 = some (.getfield 47, 6, 6, 0, []) := by decide +kernel
theorem t_12_9 : tb_in 12 9 = some (.getfield 168, 3, 0, 0, []) := by decide +kernel
theorem t_12_12 : tb_in 12 12 = some (.if_icmp .ge 14, 26, 0, 0, []) := by decide +kernel
theorem t_12_15 : tb_in 12 15 = some (.aload_n 0, 0, 0, 0, []) := by decide +kernel
theorem t_12_16 : tb_in 12 16 = some (.getfield 47, 6, 6, 0, []) := by decide +kernel
theorem t_12_19 : tb_in 12 19 = some (.iload_n 1, 0, 0, 0, []) := by decide +kernel
theorem t_12_20 : tb_in 12 20 = some (.invokevirtual 197, 85, 2, 0, []) := by decide +kernel
theorem t_12_23 : tb_in 12 23 = some (.goto 4, 27, 0, 0, []) := by decide +kernel
theorem t_12_26 : tb_in 12 26 = some (.iconst (-1), 0, 0, (-1), []) := by decide +kernel
theorem t_12_27 : tb_in 12 27 = some (.ireturn, 0, 0, 0, []) := by decide +kernel
theorem t_13_0 : tb_in 13 0 = some (.iload_n 1, 0, 0, 0, []) := by decide +kernel
theorem t_13_1 : tb_in 13 1 = some (.iconst 1, 0, 0, 1, []) := by decide +kernel
theorem t_13_2 : tb_in 13 2 = some (.if_icmp .lt 9, 11, 0, 0, []) := by decide +kernel
theorem t_13_5 : tb_in 13 5 = some (.iload_n 1, 0, 0, 0, []) := by decide +kernel
theorem t_13_6 : tb_in 13 6 = some (.bipush 96, 0, 0, 96, []) := by decide +kernel
theorem t_13_8 : tb_in 13 8 = some (.if_icmp .le 13, 21, 0, 0, []) := by decide +kernel
theorem t_13_11 : tb_in 13 11 = some (.new 201, 1000, 0, 0, []) := by decide +kernel
theorem t_13_14 : tb_in 13 14 = some (.dup, 0, 0, 0, []) := by decide +kernel
theorem t_13_20 : tb_in 13 20 = some (.athrow, 0, 0, 0, []) := by decide +kernel
theorem t_13_21 : tb_in 13 21 = some (.aload_n 0, 0, 0, 0, []) := by decide +kernel
theorem t_13_22 : tb_in 13 22 = some (.iload_n 1, 0, 0, 0, []) := by decide +kernel
theorem t_13_23 : tb_in 13 23 = some (.putfield 51, 6, 7, 0, []) := by decide +kernel
theorem t_13_26 : tb_in 13 26 = some (.aload_n 0, 0, 0, 0, []) := by decide +kernel
theorem t_13_27 : tb_in 13 27 = some (.invokevirtual 162, 24, 1, 0, []) := by decide +kernel
theorem t_13_30 : tb_in 13 30 = some (.ireturn, 0, 0, 0, []) := by decide +kernel
theorem t_14_0 : tb_in 14 0 = some (.iload_n 1, 0, 0, 0, []) := by decide +kernel
theorem t_14_1 : tb_in 14 1 = some (.iload_n 2, 0, 0, 0, []) := by decide +kernel
theorem t_14_2 : tb_in 14 2 = some (.invokestatic 136, 19, 2, 0, []) := by decide +kernel
theorem t_14_5 : tb_in 14 5 = some (.iload_n 1, 0, 0, 0, []) := by decide +kernel
theorem t_14_6 : tb_in 14 6 = some (.bipush 16, 0, 0, 16, []) := by decide +kernel
theorem t_14_8 : tb_in 14 8 = some (.imul, 0, 0, 0, []) := by decide +kernel
theorem t_14_9 : tb_in 14 9 = some (.iload_n 2, 0, 0, 0, []) := by decide +kernel
theorem t_14_10 : tb_in 14 10 = some (.iadd, 0, 0, 0, []) := by decide +kernel
theorem t_14_11 : tb_in 14 11 = some (.istore_n 3, 0, 0, 0, []) := by decide +kernel
theorem t_14_12 : tb_in 14 12 = some (.aload_n 0, 0, 0, 0, []) := by decide +kernel
theorem t_14_13 : tb_in 14 13 = some (.getfield 47, 6, 6, 0, []) := by decide +kernel
theorem t_14_16 : tb_in 14 16 = some (.iload_n 3, 0, 0, 0, []) := by decide +kernel
theorem t_14_17 : tb_in 14 17 = some (.invokevirtual 171, 81, 2, 0, []) := by decide +kernel
theorem t_14_20 : tb_in 14 20 = some (.istore 4, 0, 0, 0, []) := by decide +kernel
theorem t_14_22 : tb_in 14 22 = some (.aload_n 0, 0, 0, 0, []) := by decide +kernel
theorem t_14_23 : tb_in 14 23 = some (.getfield 47, 6, 6, 0, []) := by decide +kernel
theorem t_14_26 : tb_in 14 26 = some (.iload_n 3, 0, 0, 0, []) := by decide +kernel
theorem t_14_27 : tb_in 14 27 = some (.invokevirtual 206, 83, 2, 0, []) := by decide +kernel
theorem t_14_30 : tb_in 14 30 = some (.iload 4, 0, 0, 0, []) := by decide +kernel
theorem t_14_32 : tb_in 14 32 = some (.ireturn, 0, 0, 0, []) := by decide +kernel
theorem t_15_0 : tb_in 15 0 = some (.iload_n 0, 0, 0, 0, []) := by decide +kernel
theorem t_15_1 : tb_in 15 1 = some (.ifCond .lt 8, 9, 0, 0, []) := by decide +kernel
theorem t_15_4 : tb_in 15 4 = some (.iload_n 0, 0, 0, 0, []) := by decide +kernel
theorem t_15_5 : tb_in 15 5 = some (.iload_n 1, 0, 0, 0, []) := by decide +kernel
theorem t_15_6 : tb_in 15 6 = some (.if_icmp .lt 13, 19, 0, 0, []) := by decide +kernel
theorem t_15_9 : tb_in 15 9 = some (.new 201, 1000, 0, 0, []) := by decide +kernel
theorem t_15_12 : tb_in 15 12 = some (.dup, 0, 0, 0, []) := by decide +kernel
theorem t_15_18 : tb_in 15 18 = some (.athrow, 0, 0, 0, []) := by decide +kernel
theorem t_15_19 : tb_in 15 19 = some (.return_, 0, 0, 0, []) := by decide +kernel
theorem t_16_0 : tb_in 16 0 = some (.iload_n 0, 0, 0, 0, []) := by decide +kernel
theorem t_16_1 : tb_in 16 1 = some (.iconst 3, 0, 0, 3, []) := by decide +kernel
theorem t_16_2 : tb_in 16 2 = some (.invokestatic 132, 15, 2, 0, []) := by decide +kernel
theorem t_16_5 : tb_in 16 5 = some (.return_, 0, 0, 0, []) := by decide +kernel
theorem t_17_0 : tb_in 17 0 = some (.iload_n 0, 0, 0, 0, []) := by decide +kernel
theorem t_17_1 : tb_in 17 1 = some (.bipush 6, 0, 0, 6, []) := by decide +kernel
theorem t_17_3 : tb_in 17 3 = some (.invokestatic 132, 15, 2, 0, []) := by decide +kernel
theorem t_17_6 : tb_in 17 6 = some (.return_, 0, 0, 0, []) := by decide +kernel
theorem t_18_0 : tb_in 18 0 = some (.iload_n 0, 0, 0, 0, []) := by decide +kernel
theorem t_18_1 : tb_in 18 1 = some (.bipush 16, 0, 0, 16, []) := by decide +kernel
theorem t_18_3 : tb_in 18 3 = some (.invokestatic 132, 15, 2, 0, []) := by decide +kernel
theorem t_18_6 : tb_in 18 6 = some (.return_, 0, 0, 0, []) := by decide +kernel
theorem t_19_0 : tb_in 19 0 = some (.iload_n 0, 0, 0, 0, []) := by decide +kernel
theorem t_19_1 : tb_in 19 1 = some (.invokestatic 96, 17, 1, 0, []) := by decide +kernel
theorem t_19_4 : tb_in 19 4 = some (.iload_n 1, 0, 0, 0, []) := by decide +kernel
theorem t_19_5 : tb_in 19 5 = some (.invokestatic 114, 18, 1, 0, []) := by decide +kernel
theorem t_19_8 : tb_in 19 8 = some (.return_, 0, 0, 0, []) := by decide +kernel
theorem t_20_0 : tb_in 20 0 = some (.aload_n 0, 0, 0, 0, []) := by decide +kernel
theorem t_20_1 : tb_in 20 1 = some (.getfield 47, 6, 6, 0, []) := by decide +kernel
theorem t_20_4 : tb_in 20 4 = some (.iload_n 1, 0, 0, 0, []) := by decide +kernel
theorem t_20_5 : tb_in 20 5 = some (.invokevirtual 171, 81, 2, 0, []) := by decide +kernel
theorem t_20_8 : tb_in 20 8 = some (.ifCond .ne 13, 21, 0, 0, []) := by decide +kernel
theorem t_20_11 : tb_in 20 11 = some (.new 211, 1002, 0, 0, []) := by decide +kernel
theorem t_20_14 : tb_in 20 14 = some (.dup, 0, 0, 0, []) := by decide +kernel
theorem t_20_20 : tb_in 20 20 = some (.athrow, 0, 0, 0, []) := by decide +kernel
theorem t_20_21 : tb_in 20 21 = some (.aload_n 0, 0, 0, 0, []) := by decide +kernel
theorem t_20_22 : tb_in 20 22 = some (.getfield 40, 6, 5, 0, []) := by decide +kernel
theorem t_20_25 : tb_in 20 25 = some (.iload_n 1, 0, 0, 0, []) := by decide +kernel
theorem t_20_26 : tb_in 20 26 = some (.aaload, 0, 0, 0, []) := by decide +kernel
theorem t_20_27 : tb_in 20 27 = some (.areturn, 0, 0, 0, []) := by decide +kernel
theorem t_21_0 : tb_in 21 0 = some (.lload_n 0, 0, 0, 0, []) := by decide +kernel
theorem t_21_1 : tb_in 21 1 = some (.bipush 8, 0, 0, 8, []) := by decide +kernel
theorem t_21_3 : tb_in 21 3 = some (.iload_n 2, 0, 0, 0, []) := by decide +kernel
theorem t_21_4 : tb_in 21 4 = some (.imul, 0, 0, 0, []) := by decide +kernel
theorem t_21_5 : tb_in 21 5 = some (.lushr, 0, 0, 0, []) := by decide +kernel
theorem t_21_6 : tb_in 21 6 = some (.ldc2_w 216, 255, 0, 0, []) := by decide +kernel
theorem t_21_9 : tb_in 21 9 = some (.land, 0, 0, 0, []) := by decide +kernel
theorem t_21_10 : tb_in 21 10 = some (.l2i, 0, 0, 0, []) := by decide +kernel
theorem t_21_11 : tb_in 21 11 = some (.i2c, 0, 0, 0, []) := by decide +kernel
theorem t_21_12 : tb_in 21 12 = some (.ireturn, 0, 0, 0, []) := by decide +kernel
theorem t_22_0 : tb_in 22 0 = some (.iconst 0, 0, 0, 0, []) := by decide +kernel
theorem t_22_1 : tb_in 22 1 = some (.istore_n 2, 0, 0, 0, []) := by decide +kernel
theorem t_22_2 : tb_in 22 2 = some (.iconst 0, 0, 0, 0, []) := by decide +kernel
theorem t_22_3 : tb_in 22 3 = some (.istore_n 3, 0, 0, 0, []) := by decide +kernel
theorem t_22_4 : tb_in 22 4 = some (.iload_n 3, 0, 0, 0, []) := by decide +kernel
theorem t_22_5 : tb_in 22 5 = some (.bipush 8, 0, 0, 8, []) := by decide +kernel
theorem t_22_7 : tb_in 22 7 = some (.if_icmp .ge 20, 27, 0, 0, []) := by decide +kernel
theorem t_22_10 : tb_in 22 10 = some (.lload_n 0, 0, 0, 0, []) := by decide +kernel
theorem t_22_11 : tb_in 22 11 = some (.iload_n 3, 0, 0, 0, []) := by decide +kernel
theorem t_22_12 : tb_in 22 12 = some (.invokestatic 92, 21, 2, 0, []) := by decide +kernel
theorem t_22_15 : tb_in 22 15 = some (.ifCond .eq 6, 21, 0, 0, []) := by decide +kernel
theorem t_22_18 : tb_in 22 18 = some (.iinc 2 1, 0, 0, 1, []) := by decide +kernel
theorem t_22_21 : tb_in 22 21 = some (.iinc 3 1, 0, 0, 1, []) := by decide +kernel
theorem t_22_24 : tb_in 22 24 = some (.goto (-20), 4, 0, 0, []) := by decide +kernel
theorem t_22_27 : tb_in 22 27 = some (.iload_n 2, 0, 0, 0, []) := by decide +kernel
theorem t_22_28 : tb_in 22 28 = some (.ireturn, 0, 0, 0, []) := by decide +kernel
theorem t_23_0 : tb_in 23 0 = some (.aload_n 0, 0, 0, 0, []) := by decide +kernel
theorem t_23_1 : tb_in 23 1 = some (.getfield 34, 6, 4, 0, []) := by decide +kernel
theorem t_23_4 : tb_in 23 4 = some (.iload_n 1, 0, 0, 0, []) := by decide +kernel
theorem t_23_5 : tb_in 23 5 = some (.invokevirtual 218, 77, 2, 0, []) := by decide +kernel
theorem t_23_8 : tb_in 23 8 = some (.iconst 0, 0, 0, 0, []) := by decide +kernel
theorem t_23_9 : tb_in 23 9 = some (.istore_n 2, 0, 0, 0, []) := by decide +kernel
theorem t_23_10 : tb_in 23 10 = some (.iload_n 2, 0, 0, 0, []) := by decide +kernel
theorem t_23_11 : tb_in 23 11 = some (.bipush 96, 0, 0, 96, []) := by decide +kernel
theorem t_23_13 : tb_in 23 13 = some (.if_icmp .ge 29, 42, 0, 0, []) := by decide +kernel
theorem t_23_16 : tb_in 23 16 = some (.aload_n 0, 0, 0, 0, []) := by decide +kernel
theorem t_23_17 : tb_in 23 17 = some (.getfield 40, 6, 5, 0, []) := by decide +kernel
theorem t_23_20 : tb_in 23 20 = some (.iload_n 2, 0, 0, 0, []) := by decide +kernel
theorem t_23_21 : tb_in 23 21 = some (.aaload, 0, 0, 0, []) := by decide +kernel
theorem t_23_22 : tb_in 23 22 = some (.getfield 187, 0, 6, 0, []) := by decide +kernel
theorem t_23_25 : tb_in 23 25 = some (.ifCond .eq 11, 36, 0, 0, []) := by decide +kernel
theorem t_23_28 : tb_in 23 28 = some (.aload_n 0, 0, 0, 0, []) := by decide +kernel
theorem t_23_29 : tb_in 23 29 = some (.getfield 47, 6, 6, 0, []) := by decide +kernel
theorem t_23_32 : tb_in 23 32 = some (.iload_n 2, 0, 0, 0, []) := by decide +kernel
theorem t_23_33 : tb_in 23 33 = some (.invokevirtual 206, 83, 2, 0, []) := by decide +kernel
theorem t_23_36 : tb_in 23 36 = some (.iinc 2 1, 0, 0, 1, []) := by decide +kernel
theorem t_23_39 : tb_in 23 39 = some (.goto (-29), 10, 0, 0, []) := by decide +kernel
theorem t_23_42 : tb_in 23 42 = some (.return_, 0, 0, 0, []) := by decide +kernel
theorem t_24_0 : tb_in 24 0 = some (.iconst 0, 0, 0, 0, []) := by decide +kernel
theorem t_24_1 : tb_in 24 1 = some (.aload_n 0, 0, 0, 0, []) := by decide +kernel
theorem t_24_2 : tb_in 24 2 = some (.getfield 47, 6, 6, 0, []) := by decide +kernel
theorem t_24_5 : tb_in 24 5 = some (.getfield 168, 3, 0, 0, []) := by decide +kernel
theorem t_24_8 : tb_in 24 8 = some (.aload_n 0, 0, 0, 0, []) := by decide +kernel
theorem t_24_9 : tb_in 24 9 = some (.getfield 51, 6, 7, 0, []) := by decide +kernel
theorem t_24_12 : tb_in 24 12 = some (.isub, 0, 0, 0, []) := by decide +kernel
theorem t_24_13 : tb_in 24 13 = some (.invokestatic 221, 1001, 0, 0, []) := by decide +kernel
theorem t_24_16 : tb_in 24 16 = some (.istore_n 1, 0, 0, 0, []) := by decide +kernel
theorem t_24_17 : tb_in 24 17 = some (.iconst 0, 0, 0, 0, []) := by decide +kernel
theorem t_24_18 : tb_in 24 18 = some (.istore_n 2, 0, 0, 0, []) := by decide +kernel
theorem t_24_19 : tb_in 24 19 = some (.iload_n 2, 0, 0, 0, []) := by decide +kernel
theorem t_24_20 : tb_in 24 20 = some (.iload_n 1, 0, 0, 0, []) := by decide +kernel
theorem t_24_21 : tb_in 24 21 = some (.if_icmp .ge 24, 45, 0, 0, []) := by decide +kernel
theorem t_24_24 : tb_in 24 24 = some (.aload_n 0, 0, 0, 0, []) := by decide +kernel
theorem t_24_25 : tb_in 24 25 = some (.getfield 47, 6, 6, 0, []) := by decide +kernel
theorem t_24_28 : tb_in 24 28 = some (.aload_n 0, 0, 0, 0, []) := by decide +kernel
theorem t_24_29 : tb_in 24 29 = some (.getfield 47, 6, 6, 0, []) := by decide +kernel
theorem t_24_32 : tb_in 24 32 = some (.iconst 0, 0, 0, 0, []) := by decide +kernel
theorem t_24_33 : tb_in 24 33 = some (.invokevirtual 197, 85, 2, 0, []) := by decide +kernel
theorem t_24_36 : tb_in 24 36 = some (.invokevirtual 206, 83, 2, 0, []) := by decide +kernel
theorem t_24_39 : tb_in 24 39 = some (.iinc 2 1, 0, 0, 1, []) := by decide +kernel
theorem t_24_42 : tb_in 24 42 = some (.goto (-23), 19, 0, 0, []) := by decide +kernel
theorem t_24_45 : tb_in 24 45 = some (.iload_n 1, 0, 0, 0, []) := by decide +kernel
theorem t_24_46 : tb_in 24 46 = some (.ireturn, 0, 0, 0, []) := by decide +kernel
theorem t_25_0 : tb_in 25 0 = some (.aload_n 0, 0, 0, 0, []) := by decide +kernel
theorem t_25_1 : tb_in 25 1 = some (.iload_n 1, 0, 0, 0, []) := by decide +kernel
theorem t_25_2 : tb_in 25 2 = some (.invokevirtual 227, 26, 2, 0, []) := by decide +kernel
theorem t_25_5 : tb_in 25 5 = some (.istore_n 2, 0, 0, 0, []) := by decide +kernel
theorem t_25_6 : tb_in 25 6 = some (.iload_n 2, 0, 0, 0, []) := by decide +kernel
theorem t_25_7 : tb_in 25 7 = some (.iconst (-1), 0, 0, (-1), []) := by decide +kernel
theorem t_25_8 : tb_in 25 8 = some (.if_icmp .eq 12, 20, 0, 0, []) := by decide +kernel
theorem t_25_11 : tb_in 25 11 = some (.aload_n 0, 0, 0, 0, []) := by decide +kernel
theorem t_25_12 : tb_in 25 12 = some (.iload_n 2, 0, 0, 0, []) := by decide +kernel
theorem t_25_13 : tb_in 25 13 = some (.invokevirtual 230, 27, 2, 0, []) := by decide +kernel
theorem t_25_16 : tb_in 25 16 = some (.getstatic 139, 3, 0, 0, []) := by decide +kernel
theorem t_25_19 : tb_in 25 19 = some (.areturn, 0, 0, 0, []) := by decide +kernel
theorem t_25_20 : tb_in 25 20 = some (.aload_n 0, 0, 0, 0, []) := by decide +kernel
theorem t_25_21 : tb_in 25 21 = some (.iload_n 1, 0, 0, 0, []) := by decide +kernel
theorem t_25_22 : tb_in 25 22 = some (.invokevirtual 233, 28, 2, 0, []) := by decide +kernel
theorem t_25_25 : tb_in 25 25 = some (.ifCond .ne 11, 36, 0, 0, []) := by decide +kernel
theorem t_25_28 : tb_in 25 28 = some (.aload_n 0, 0, 0, 0, []) := by decide +kernel
theorem t_25_29 : tb_in 25 29 = some (.iload_n 1, 0, 0, 0, []) := by decide +kernel
theorem t_25_30 : tb_in 25 30 = some (.invokevirtual 236, 29, 2, 0, []) := by decide +kernel
theorem t_25_33 : tb_in 25 33 = some (.ifCond .eq 7, 40, 0, 0, []) := by decide +kernel
theorem t_25_36 : tb_in 25 36 = some (.getstatic 149, 1, 0, 0, []) := by decide +kernel
theorem t_25_39 : tb_in 25 39 = some (.areturn, 0, 0, 0, []) := by decide +kernel
theorem t_25_40 : tb_in 25 40 = some (.aload_n 0, 0, 0, 0, []) := by decide +kernel
theorem t_25_41 : tb_in 25 41 = some (.getfield 64, 6, 10, 0, []) := by decide +kernel
theorem t_25_44 : tb_in 25 44 = some (.bipush 20, 0, 0, 20, []) := by decide +kernel
theorem t_25_46 : tb_in 25 46 = some (.if_icmp .lt 7, 53, 0, 0, []) := by decide +kernel
theorem t_25_49 : tb_in 25 49 = some (.getstatic 239, 4, 0, 0, []) := by decide +kernel
theorem t_25_52 : tb_in 25 52 = some (.areturn, 0, 0, 0, []) := by decide +kernel
theorem t_25_53 : tb_in 25 53 = some (.aload_n 0, 0, 0, 0, []) := by decide +kernel
theorem t_25_54 : tb_in 25 54 = some (.getfield 55, 6, 8, 0, []) := by decide +kernel
theorem t_25_57 : tb_in 25 57 = some (.aload_n 0, 0, 0, 0, []) := by decide +kernel
theorem t_25_58 : tb_in 25 58 = some (.getfield 64, 6, 10, 0, []) := by decide +kernel
theorem t_25_61 : tb_in 25 61 = some (.iload_n 1, 0, 0, 0, []) := by decide +kernel
theorem t_25_62 : tb_in 25 62 = some (.iastore, 0, 0, 0, []) := by decide +kernel
theorem t_25_63 : tb_in 25 63 = some (.aload_n 0, 0, 0, 0, []) := by decide +kernel
theorem t_25_64 : tb_in 25 64 = some (.dup, 0, 0, 0, []) := by decide +kernel
theorem t_25_65 : tb_in 25 65 = some (.getfield 64, 6, 10, 0, []) := by decide +kernel
theorem t_25_68 : tb_in 25 68 = some (.iconst 1, 0, 0, 1, []) := by decide +kernel
theorem t_25_69 : tb_in 25 69 = some (.iadd, 0, 0, 0, []) := by decide +kernel
theorem t_25_70 : tb_in 25 70 = some (.putfield 64, 6, 10, 0, []) := by decide +kernel
theorem t_25_73 : tb_in 25 73 = some (.aload_n 0, 0, 0, 0, []) := by decide +kernel
theorem t_25_74 : tb_in 25 74 = some (.iload_n 1, 0, 0, 0, []) := by decide +kernel
theorem t_25_75 : tb_in 25 75 = some (.invokevirtual 242, 30, 2, 0, []) := by decide +kernel
theorem t_25_78 : tb_in 25 78 = some (.astore_n 3, 0, 0, 0, []) := by decide +kernel
theorem t_25_79 : tb_in 25 79 = some (.aload_n 3, 0, 0, 0, []) := by decide +kernel
theorem t_25_80 : tb_in 25 80 = some (.getstatic 245, 2, 0, 0, []) := by decide +kernel
theorem t_25_83 : tb_in 25 83 = some (.if_acmp .ne 20, 103, 0, 0, []) := by decide +kernel
theorem t_25_86 : tb_in 25 86 = some (.aload_n 0, 0, 0, 0, []) := by decide +kernel
theorem t_25_87 : tb_in 25 87 = some (.iload_n 1, 0, 0, 0, []) := by decide +kernel
theorem t_25_88 : tb_in 25 88 = some (.aload_n 0, 0, 0, 0, []) := by decide +kernel
theorem t_25_89 : tb_in 25 89 = some (.getfield 60, 6, 9, 0, []) := by decide +kernel
theorem t_25_92 : tb_in 25 92 = some (.aload_n 0, 0, 0, 0, []) := by decide +kernel
theorem t_25_93 : tb_in 25 93 = some (.getfield 64, 6, 10, 0, []) := by decide +kernel
theorem t_25_96 : tb_in 25 96 = some (.iconst 1, 0, 0, 1, []) := by decide +kernel
theorem t_25_97 : tb_in 25 97 = some (.isub, 0, 0, 0, []) := by decide +kernel
theorem t_25_98 : tb_in 25 98 = some (.aaload, 0, 0, 0, []) := by decide +kernel
theorem t_25_99 : tb_in 25 99 = some (.invokevirtual 248, 31, 3, 0, []) := by decide +kernel
theorem t_25_102 : tb_in 25 102 = some (.astore_n 3, 0, 0, 0, []) := by decide +kernel
theorem t_25_103 : tb_in 25 103 = some (.aload_n 3, 0, 0, 0, []) := by decide +kernel
theorem t_25_104 : tb_in 25 104 = some (.getstatic 149, 1, 0, 0, []) := by decide +kernel
theorem t_25_107 : tb_in 25 107 = some (.if_acmp .ne 21, 128, 0, 0, []) := by decide +kernel
theorem t_25_110 : tb_in 25 110 = some (.aload_n 0, 0, 0, 0, []) := by decide +kernel
theorem t_25_111 : tb_in 25 111 = some (.dup, 0, 0, 0, []) := by decide +kernel
theorem t_25_112 : tb_in 25 112 = some (.getfield 64, 6, 10, 0, []) := by decide +kernel
theorem t_25_115 : tb_in 25 115 = some (.iconst 1, 0, 0, 1, []) := by decide +kernel
theorem t_25_116 : tb_in 25 116 = some (.isub, 0, 0, 0, []) := by decide +kernel
theorem t_25_117 : tb_in 25 117 = some (.putfield 64, 6, 10, 0, []) := by decide +kernel
theorem t_25_120 : tb_in 25 120 = some (.aload_n 0, 0, 0, 0, []) := by decide +kernel
theorem t_25_121 : tb_in 25 121 = some (.getfield 47, 6, 6, 0, []) := by decide +kernel
theorem t_25_124 : tb_in 25 124 = some (.iload_n 1, 0, 0, 0, []) := by decide +kernel
theorem t_25_125 : tb_in 25 125 = some (.invokevirtual 159, 82, 2, 0, []) := by decide +kernel
theorem t_25_128 : tb_in 25 128 = some (.aload_n 3, 0, 0, 0, []) := by decide +kernel
theorem t_25_129 : tb_in 25 129 = some (.areturn, 0, 0, 0, []) := by decide +kernel
theorem t_26_0 : tb_in 26 0 = some (.iconst 0, 0, 0, 0, []) := by decide +kernel
theorem t_26_1 : tb_in 26 1 = some (.istore_n 2, 0, 0, 0, []) := by decide +kernel
theorem t_26_2 : tb_in 26 2 = some (.iload_n 2, 0, 0, 0, []) := by decide +kernel
theorem t_26_3 : tb_in 26 3 = some (.aload_n 0, 0, 0, 0, []) := by decide +kernel
theorem t_26_4 : tb_in 26 4 = some (.getfield 64, 6, 10, 0, []) := by decide +kernel
theorem t_26_7 : tb_in 26 7 = some (.if_icmp .ge 21, 28, 0, 0, []) := by decide +kernel
theorem t_26_10 : tb_in 26 10 = some (.aload_n 0, 0, 0, 0, []) := by decide +kernel
theorem t_26_11 : tb_in 26 11 = some (.getfield 55, 6, 8, 0, []) := by decide +kernel
theorem t_26_14 : tb_in 26 14 = some (.iload_n 2, 0, 0, 0, []) := by decide +kernel
theorem t_26_15 : tb_in 26 15 = some (.iaload, 0, 0, 0, []) := by decide +kernel
theorem t_26_16 : tb_in 26 16 = some (.iload_n 1, 0, 0, 0, []) := by decide +kernel
theorem t_26_17 : tb_in 26 17 = some (.if_icmp .ne 5, 22, 0, 0, []) := by decide +kernel
theorem t_26_20 : tb_in 26 20 = some (.iload_n 2, 0, 0, 0, []) := by decide +kernel
theorem t_26_21 : tb_in 26 21 = some (.ireturn, 0, 0, 0, []) := by decide +kernel
theorem t_26_22 : tb_in 26 22 = some (.iinc 2 1, 0, 0, 1, []) := by decide +kernel
theorem t_26_25 : tb_in 26 25 = some (.goto (-23), 2, 0, 0, []) := by decide +kernel
theorem t_26_28 : tb_in 26 28 = some (.iconst (-1), 0, 0, (-1), []) := by decide +kernel
theorem t_26_29 : tb_in 26 29 = some (.ireturn, 0, 0, 0, []) := by decide +kernel
theorem t_27_0 : tb_in 27 0 = some (.iload_n 1, 0, 0, 0, []) := by decide +kernel
theorem t_27_1 : tb_in 27 1 = some (.istore_n 2, 0, 0, 0, []) := by decide +kernel
theorem t_27_2 : tb_in 27 2 = some (.iload_n 2, 0, 0, 0, []) := by decide +kernel
theorem t_27_3 : tb_in 27 3 = some (.aload_n 0, 0, 0, 0, []) := by decide +kernel
theorem t_27_4 : tb_in 27 4 = some (.getfield 64, 6, 10, 0, []) := by decide +kernel
theorem t_27_7 : tb_in 27 7 = some (.if_icmp .ge 98, 105, 0, 0, []) := by decide +kernel
theorem t_27_10 : tb_in 27 10 = some (.aload_n 0, 0, 0, 0, []) := by decide +kernel
theorem t_27_11 : tb_in 27 11 = some (.getfield 55, 6, 8, 0, []) := by decide +kernel
theorem t_27_14 : tb_in 27 14 = some (.iload_n 2, 0, 0, 0, []) := by decide +kernel
theorem t_27_15 : tb_in 27 15 = some (.iaload, 0, 0, 0, []) := by decide +kernel
theorem t_27_16 : tb_in 27 16 = some (.istore_n 3, 0, 0, 0, []) := by decide +kernel
theorem t_27_17 : tb_in 27 17 = some (.aload_n 0, 0, 0, 0, []) := by decide +kernel
theorem t_27_18 : tb_in 27 18 = some (.getfield 40, 6, 5, 0, []) := by decide +kernel
theorem t_27_21 : tb_in 27 21 = some (.iload_n 3, 0, 0, 0, []) := by decide +kernel
theorem t_27_22 : tb_in 27 22 = some (.aaload, 0, 0, 0, []) := by decide +kernel
theorem t_27_23 : tb_in 27 23 = some (.astore 4, 0, 0, 0, []) := by decide +kernel
theorem t_27_25 : tb_in 27 25 = some (.aload 4, 0, 0, 0, []) := by decide +kernel
theorem t_27_27 : tb_in 27 27 = some (.aload_n 0, 0, 0, 0, []) := by decide +kernel
theorem t_27_28 : tb_in 27 28 = some (.getfield 20, 6, 2, 0, []) := by decide +kernel
theorem t_27_31 : tb_in 27 31 = some (.iload_n 3, 0, 0, 0, []) := by decide +kernel
theorem t_27_32 : tb_in 27 32 = some (.bipush 16, 0, 0, 16, []) := by decide +kernel
theorem t_27_34 : tb_in 27 34 = some (.idiv, 0, 0, 0, []) := by decide +kernel
theorem t_27_35 : tb_in 27 35 = some (.iaload, 0, 0, 0, []) := by decide +kernel
theorem t_27_36 : tb_in 27 36 = some (.putfield 165, 0, 0, 0, []) := by decide +kernel
theorem t_27_39 : tb_in 27 39 = some (.aload 4, 0, 0, 0, []) := by decide +kernel
theorem t_27_41 : tb_in 27 41 = some (.iconst 0, 0, 0, 0, []) := by decide +kernel
theorem t_27_42 : tb_in 27 42 = some (.putfield 191, 0, 2, 0, []) := by decide +kernel
theorem t_27_45 : tb_in 27 45 = some (.aload 4, 0, 0, 0, []) := by decide +kernel
theorem t_27_47 : tb_in 27 47 = some (.aload_n 0, 0, 0, 0, []) := by decide +kernel
theorem t_27_48 : tb_in 27 48 = some (.getfield 34, 6, 4, 0, []) := by decide +kernel
theorem t_27_51 : tb_in 27 51 = some (.getfield 129, 1, 0, 0, []) := by decide +kernel
theorem t_27_54 : tb_in 27 54 = some (.putfield 179, 0, 3, 0, []) := by decide +kernel
theorem t_27_57 : tb_in 27 57 = some (.aload 4, 0, 0, 0, []) := by decide +kernel
theorem t_27_59 : tb_in 27 59 = some (.aload_n 0, 0, 0, 0, []) := by decide +kernel
theorem t_27_60 : tb_in 27 60 = some (.getfield 34, 6, 4, 0, []) := by decide +kernel
theorem t_27_63 : tb_in 27 63 = some (.getfield 129, 1, 0, 0, []) := by decide +kernel
theorem t_27_66 : tb_in 27 66 = some (.putfield 182, 0, 4, 0, []) := by decide +kernel
theorem t_27_69 : tb_in 27 69 = some (.aload 4, 0, 0, 0, []) := by decide +kernel
theorem t_27_71 : tb_in 27 71 = some (.iconst 0, 0, 0, 0, []) := by decide +kernel
theorem t_27_72 : tb_in 27 72 = some (.putfield 184, 0, 5, 0, []) := by decide +kernel
theorem t_27_75 : tb_in 27 75 = some (.aload 4, 0, 0, 0, []) := by decide +kernel
theorem t_27_77 : tb_in 27 77 = some (.iconst 1, 0, 0, 1, []) := by decide +kernel
theorem t_27_78 : tb_in 27 78 = some (.putfield 187, 0, 6, 0, []) := by decide +kernel
theorem t_27_81 : tb_in 27 81 = some (.aload_n 0, 0, 0, 0, []) := by decide +kernel
theorem t_27_82 : tb_in 27 82 = some (.getfield 47, 6, 6, 0, []) := by decide +kernel
theorem t_27_85 : tb_in 27 85 = some (.iload_n 3, 0, 0, 0, []) := by decide +kernel
theorem t_27_86 : tb_in 27 86 = some (.invokevirtual 159, 82, 2, 0, []) := by decide +kernel
theorem t_27_89 : tb_in 27 89 = some (.aload_n 0, 0, 0, 0, []) := by decide +kernel
theorem t_27_90 : tb_in 27 90 = some (.dup, 0, 0, 0, []) := by decide +kernel
theorem t_27_91 : tb_in 27 91 = some (.getfield 76, 6, 14, 0, []) := by decide +kernel
theorem t_27_94 : tb_in 27 94 = some (.iconst 1, 0, 0, 1, []) := by decide +kernel
theorem t_27_95 : tb_in 27 95 = some (.iadd, 0, 0, 0, []) := by decide +kernel
theorem t_27_96 : tb_in 27 96 = some (.putfield 76, 6, 14, 0, []) := by decide +kernel
theorem t_27_99 : tb_in 27 99 = some (.iinc 2 1, 0, 0, 1, []) := by decide +kernel
theorem t_27_102 : tb_in 27 102 = some (.goto (-100), 2, 0, 0, []) := by decide +kernel
theorem t_27_105 : tb_in 27 105 = some (.return_, 0, 0, 0, []) := by decide +kernel
theorem t_28_0 : tb_in 28 0 = some (.aload_n 0, 0, 0, 0, []) := by decide +kernel
theorem t_28_1 : tb_in 28 1 = some (.getfield 47, 6, 6, 0, []) := by decide +kernel
theorem t_28_4 : tb_in 28 4 = some (.iload_n 1, 0, 0, 0, []) := by decide +kernel
theorem t_28_5 : tb_in 28 5 = some (.invokevirtual 171, 81, 2, 0, []) := by decide +kernel
theorem t_28_8 : tb_in 28 8 = some (.ifCond .eq 26, 34, 0, 0, []) := by decide +kernel
theorem t_28_11 : tb_in 28 11 = some (.aload_n 0, 0, 0, 0, []) := by decide +kernel
theorem t_28_12 : tb_in 28 12 = some (.getfield 40, 6, 5, 0, []) := by decide +kernel
theorem t_28_15 : tb_in 28 15 = some (.iload_n 1, 0, 0, 0, []) := by decide +kernel
theorem t_28_16 : tb_in 28 16 = some (.aaload, 0, 0, 0, []) := by decide +kernel
theorem t_28_17 : tb_in 28 17 = some (.getfield 179, 0, 3, 0, []) := by decide +kernel
theorem t_28_20 : tb_in 28 20 = some (.aload_n 0, 0, 0, 0, []) := by decide +kernel
theorem t_28_21 : tb_in 28 21 = some (.getfield 34, 6, 4, 0, []) := by decide +kernel
theorem t_28_24 : tb_in 28 24 = some (.getfield 129, 1, 0, 0, []) := by decide +kernel
theorem t_28_27 : tb_in 28 27 = some (.if_icmp .ne 7, 34, 0, 0, []) := by decide +kernel
theorem t_28_30 : tb_in 28 30 = some (.iconst 1, 0, 0, 1, []) := by decide +kernel
theorem t_28_31 : tb_in 28 31 = some (.goto 4, 35, 0, 0, []) := by decide +kernel
theorem t_28_34 : tb_in 28 34 = some (.iconst 0, 0, 0, 0, []) := by decide +kernel
theorem t_28_35 : tb_in 28 35 = some (.ireturn, 0, 0, 0, []) := by decide +kernel
theorem t_29_0 : tb_in 29 0 = some (.aload_n 0, 0, 0, 0, []) := by decide +kernel
theorem t_29_1 : tb_in 29 1 = some (.getfield 40, 6, 5, 0, []) := by decide +kernel
theorem t_29_4 : tb_in 29 4 = some (.iload_n 1, 0, 0, 0, []) := by decide +kernel
theorem t_29_5 : tb_in 29 5 = some (.aaload, 0, 0, 0, []) := by decide +kernel
theorem t_29_6 : tb_in 29 6 = some (.astore_n 2, 0, 0, 0, []) := by decide +kernel
theorem t_29_7 : tb_in 29 7 = some (.aload_n 0, 0, 0, 0, []) := by decide +kernel
theorem t_29_8 : tb_in 29 8 = some (.getfield 47, 6, 6, 0, []) := by decide +kernel
theorem t_29_11 : tb_in 29 11 = some (.iload_n 1, 0, 0, 0, []) := by decide +kernel
theorem t_29_12 : tb_in 29 12 = some (.invokevirtual 171, 81, 2, 0, []) := by decide +kernel
theorem t_29_15 : tb_in 29 15 = some (.ifCond .eq 21, 36, 0, 0, []) := by decide +kernel
theorem t_29_18 : tb_in 29 18 = some (.aload_n 0, 0, 0, 0, []) := by decide +kernel
theorem t_29_19 : tb_in 29 19 = some (.getfield 34, 6, 4, 0, []) := by decide +kernel
theorem t_29_22 : tb_in 29 22 = some (.aload_n 2, 0, 0, 0, []) := by decide +kernel
theorem t_29_23 : tb_in 29 23 = some (.getfield 184, 0, 5, 0, []) := by decide +kernel
theorem t_29_26 : tb_in 29 26 = some (.aload_n 2, 0, 0, 0, []) := by decide +kernel
theorem t_29_27 : tb_in 29 27 = some (.getfield 179, 0, 3, 0, []) := by decide +kernel
theorem t_29_30 : tb_in 29 30 = some (.invokevirtual 252, 78, 3, 0, []) := by decide +kernel
theorem t_29_33 : tb_in 29 33 = some (.ifCond .eq 5, 38, 0, 0, []) := by decide +kernel
theorem t_29_36 : tb_in 29 36 = some (.iconst 0, 0, 0, 0, []) := by decide +kernel
theorem t_29_37 : tb_in 29 37 = some (.ireturn, 0, 0, 0, []) := by decide +kernel
theorem t_29_38 : tb_in 29 38 = some (.aload_n 2, 0, 0, 0, []) := by decide +kernel
theorem t_29_39 : tb_in 29 39 = some (.aload_n 0, 0, 0, 0, []) := by decide +kernel
theorem t_29_40 : tb_in 29 40 = some (.getfield 34, 6, 4, 0, []) := by decide +kernel
theorem t_29_43 : tb_in 29 43 = some (.getfield 129, 1, 0, 0, []) := by decide +kernel
theorem t_29_46 : tb_in 29 46 = some (.putfield 179, 0, 3, 0, []) := by decide +kernel
theorem t_29_49 : tb_in 29 49 = some (.aload_n 0, 0, 0, 0, []) := by decide +kernel
theorem t_29_50 : tb_in 29 50 = some (.dup, 0, 0, 0, []) := by decide +kernel
theorem t_29_51 : tb_in 29 51 = some (.getfield 73, 6, 13, 0, []) := by decide +kernel
theorem t_29_54 : tb_in 29 54 = some (.iconst 1, 0, 0, 1, []) := by decide +kernel
theorem t_29_55 : tb_in 29 55 = some (.iadd, 0, 0, 0, []) := by decide +kernel
theorem t_29_56 : tb_in 29 56 = some (.putfield 73, 6, 13, 0, []) := by decide +kernel
theorem t_29_59 : tb_in 29 59 = some (.aload_n 0, 0, 0, 0, []) := by decide +kernel
theorem t_29_60 : tb_in 29 60 = some (.getfield 47, 6, 6, 0, []) := by decide +kernel
theorem t_29_63 : tb_in 29 63 = some (.iload_n 1, 0, 0, 0, []) := by decide +kernel
theorem t_29_64 : tb_in 29 64 = some (.invokevirtual 159, 82, 2, 0, []) := by decide +kernel
theorem t_29_67 : tb_in 29 67 = some (.iconst 1, 0, 0, 1, []) := by decide +kernel
theorem t_29_68 : tb_in 29 68 = some (.ireturn, 0, 0, 0, []) := by decide +kernel
theorem t_30_0 : tb_in 30 0 = some (.aload_n 0, 0, 0, 0, []) := by decide +kernel
theorem t_30_1 : tb_in 30 1 = some (.getfield 47, 6, 6, 0, []) := by decide +kernel
theorem t_30_4 : tb_in 30 4 = some (.iload_n 1, 0, 0, 0, []) := by decide +kernel
theorem t_30_5 : tb_in 30 5 = some (.invokevirtual 171, 81, 2, 0, []) := by decide +kernel
theorem t_30_8 : tb_in 30 8 = some (.ifCond .ne 7, 15, 0, 0, []) := by decide +kernel
theorem t_30_11 : tb_in 30 11 = some (.getstatic 245, 2, 0, 0, []) := by decide +kernel
theorem t_30_14 : tb_in 30 14 = some (.areturn, 0, 0, 0, []) := by decide +kernel
theorem t_30_15 : tb_in 30 15 = some (.aload_n 0, 0, 0, 0, []) := by decide +kernel
theorem t_30_16 : tb_in 30 16 = some (.getfield 40, 6, 5, 0, []) := by decide +kernel
theorem t_30_19 : tb_in 30 19 = some (.iload_n 1, 0, 0, 0, []) := by decide +kernel
theorem t_30_20 : tb_in 30 20 = some (.aaload, 0, 0, 0, []) := by decide +kernel
theorem t_30_21 : tb_in 30 21 = some (.astore_n 2, 0, 0, 0, []) := by decide +kernel
theorem t_30_22 : tb_in 30 22 = some (.iconst 0, 0, 0, 0, []) := by decide +kernel
theorem t_30_23 : tb_in 30 23 = some (.istore_n 3, 0, 0, 0, []) := by decide +kernel
theorem t_30_24 : tb_in 30 24 = some (.iload_n 3, 0, 0, 0, []) := by decide +kernel
theorem t_30_25 : tb_in 30 25 = some (.aload_n 2, 0, 0, 0, []) := by decide +kernel
theorem t_30_26 : tb_in 30 26 = some (.getfield 191, 0, 2, 0, []) := by decide +kernel
theorem t_30_29 : tb_in 30 29 = some (.if_icmp .ge 53, 82, 0, 0, []) := by decide +kernel
theorem t_30_32 : tb_in 30 32 = some (.aload_n 2, 0, 0, 0, []) := by decide +kernel
theorem t_30_33 : tb_in 30 33 = some (.getfield 194, 0, 1, 0, []) := by decide +kernel
theorem t_30_36 : tb_in 30 36 = some (.iload_n 3, 0, 0, 0, []) := by decide +kernel
theorem t_30_37 : tb_in 30 37 = some (.iaload, 0, 0, 0, []) := by decide +kernel
theorem t_30_38 : tb_in 30 38 = some (.istore 4, 0, 0, 0, []) := by decide +kernel
theorem t_30_40 : tb_in 30 40 = some (.aload_n 0, 0, 0, 0, []) := by decide +kernel
theorem t_30_41 : tb_in 30 41 = some (.iload 4, 0, 0, 0, []) := by decide +kernel
theorem t_30_43 : tb_in 30 43 = some (.invokevirtual 256, 33, 2, 0, []) := by decide +kernel
theorem t_30_46 : tb_in 30 46 = some (.astore 5, 0, 0, 0, []) := by decide +kernel
theorem t_30_48 : tb_in 30 48 = some (.aload 5, 0, 0, 0, []) := by decide +kernel
theorem t_30_50 : tb_in 30 50 = some (.getstatic 149, 1, 0, 0, []) := by decide +kernel
theorem t_30_53 : tb_in 30 53 = some (.if_acmp .eq 6, 59, 0, 0, []) := by decide +kernel
theorem t_30_56 : tb_in 30 56 = some (.aload 5, 0, 0, 0, []) := by decide +kernel
theorem t_30_58 : tb_in 30 58 = some (.areturn, 0, 0, 0, []) := by decide +kernel
theorem t_30_59 : tb_in 30 59 = some (.aload_n 0, 0, 0, 0, []) := by decide +kernel
theorem t_30_60 : tb_in 30 60 = some (.iload 4, 0, 0, 0, []) := by decide +kernel
theorem t_30_62 : tb_in 30 62 = some (.invokevirtual 259, 36, 2, 0, []) := by decide +kernel
theorem t_30_65 : tb_in 30 65 = some (.aload_n 2, 0, 0, 0, []) := by decide +kernel
theorem t_30_66 : tb_in 30 66 = some (.getfield 179, 0, 3, 0, []) := by decide +kernel
theorem t_30_69 : tb_in 30 69 = some (.if_icmp .le 7, 76, 0, 0, []) := by decide +kernel
theorem t_30_72 : tb_in 30 72 = some (.getstatic 245, 2, 0, 0, []) := by decide +kernel
theorem t_30_75 : tb_in 30 75 = some (.areturn, 0, 0, 0, []) := by decide +kernel
theorem t_30_76 : tb_in 30 76 = some (.iinc 3 1, 0, 0, 1, []) := by decide +kernel
theorem t_30_79 : tb_in 30 79 = some (.goto (-55), 24, 0, 0, []) := by decide +kernel
theorem t_30_82 : tb_in 30 82 = some (.aload_n 2, 0, 0, 0, []) := by decide +kernel
theorem t_30_83 : tb_in 30 83 = some (.aload_n 0, 0, 0, 0, []) := by decide +kernel
theorem t_30_84 : tb_in 30 84 = some (.getfield 34, 6, 4, 0, []) := by decide +kernel
theorem t_30_87 : tb_in 30 87 = some (.getfield 129, 1, 0, 0, []) := by decide +kernel
theorem t_30_90 : tb_in 30 90 = some (.putfield 179, 0, 3, 0, []) := by decide +kernel
theorem t_30_93 : tb_in 30 93 = some (.aload_n 2, 0, 0, 0, []) := by decide +kernel
theorem t_30_94 : tb_in 30 94 = some (.aload_n 0, 0, 0, 0, []) := by decide +kernel
theorem t_30_95 : tb_in 30 95 = some (.aload_n 2, 0, 0, 0, []) := by decide +kernel
theorem t_30_96 : tb_in 30 96 = some (.invokevirtual 262, 38, 2, 0, []) := by decide +kernel
theorem t_30_99 : tb_in 30 99 = some (.putfield 184, 0, 5, 0, []) := by decide +kernel
theorem t_30_102 : tb_in 30 102 = some (.aload_n 0, 0, 0, 0, []) := by decide +kernel
theorem t_30_103 : tb_in 30 103 = some (.dup, 0, 0, 0, []) := by decide +kernel
theorem t_30_104 : tb_in 30 104 = some (.getfield 70, 6, 12, 0, []) := by decide +kernel
theorem t_30_107 : tb_in 30 107 = some (.iconst 1, 0, 0, 1, []) := by decide +kernel
theorem t_30_108 : tb_in 30 108 = some (.iadd, 0, 0, 0, []) := by decide +kernel
theorem t_30_109 : tb_in 30 109 = some (.putfield 70, 6, 12, 0, []) := by decide +kernel
theorem t_30_112 : tb_in 30 112 = some (.getstatic 149, 1, 0, 0, []) := by decide +kernel
theorem t_30_115 : tb_in 30 115 = some (.areturn, 0, 0, 0, []) := by decide +kernel
theorem t_31_0 : tb_in 31 0 = some (.aload_n 2, 0, 0, 0, []) := by decide +kernel
theorem t_31_1 : tb_in 31 1 = some (.aload_n 0, 0, 0, 0, []) := by decide +kernel
theorem t_31_2 : tb_in 31 2 = some (.getfield 16, 6, 1, 0, []) := by decide +kernel
theorem t_31_5 : tb_in 31 5 = some (.iload_n 1, 0, 0, 0, []) := by decide +kernel
theorem t_31_6 : tb_in 31 6 = some (.bipush 16, 0, 0, 16, []) := by decide +kernel
theorem t_31_8 : tb_in 31 8 = some (.idiv, 0, 0, 0, []) := by decide +kernel
theorem t_31_9 : tb_in 31 9 = some (.aaload, 0, 0, 0, []) := by decide +kernel
theorem t_31_10 : tb_in 31 10 = some (.iload_n 1, 0, 0, 0, []) := by decide +kernel
theorem t_31_11 : tb_in 31 11 = some (.bipush 16, 0, 0, 16, []) := by decide +kernel
theorem t_31_13 : tb_in 31 13 = some (.irem, 0, 0, 0, []) := by decide +kernel
theorem t_31_14 : tb_in 31 14 = some (.invokevirtual 266, 94, 3, 0, []) := by decide +kernel
theorem t_31_17 : tb_in 31 17 = some (.aload_n 2, 0, 0, 0, []) := by decide +kernel
theorem t_31_18 : tb_in 31 18 = some (.invokevirtual 270, 95, 1, 0, []) := by decide +kernel
theorem t_31_21 : tb_in 31 21 = some (.iconst 0, 0, 0, 0, []) := by decide +kernel
theorem t_31_22 : tb_in 31 22 = some (.istore_n 3, 0, 0, 0, []) := by decide +kernel
theorem t_31_23 : tb_in 31 23 = some (.iload_n 3, 0, 0, 0, []) := by decide +kernel
theorem t_31_24 : tb_in 31 24 = some (.bipush 24, 0, 0, 24, []) := by decide +kernel
theorem t_31_26 : tb_in 31 26 = some (.if_icmp .ge 54, 80, 0, 0, []) := by decide +kernel
theorem t_31_29 : tb_in 31 29 = some (.aload_n 2, 0, 0, 0, []) := by decide +kernel
theorem t_31_30 : tb_in 31 30 = some (.getfield 273, 5, 0, 0, []) := by decide +kernel
theorem t_31_33 : tb_in 31 33 = some (.iconst (-1), 0, 0, (-1), []) := by decide +kernel
theorem t_31_34 : tb_in 31 34 = some (.if_icmp .eq 46, 80, 0, 0, []) := by decide +kernel
theorem t_31_37 : tb_in 31 37 = some (.aload_n 0, 0, 0, 0, []) := by decide +kernel
theorem t_31_38 : tb_in 31 38 = some (.aload_n 2, 0, 0, 0, []) := by decide +kernel
theorem t_31_39 : tb_in 31 39 = some (.getfield 273, 5, 0, 0, []) := by decide +kernel
theorem t_31_42 : tb_in 31 42 = some (.invokevirtual 256, 33, 2, 0, []) := by decide +kernel
theorem t_31_45 : tb_in 31 45 = some (.astore 4, 0, 0, 0, []) := by decide +kernel
theorem t_31_47 : tb_in 31 47 = some (.aload 4, 0, 0, 0, []) := by decide +kernel
theorem t_31_49 : tb_in 31 49 = some (.getstatic 149, 1, 0, 0, []) := by decide +kernel
theorem t_31_52 : tb_in 31 52 = some (.if_acmp .eq 6, 58, 0, 0, []) := by decide +kernel
theorem t_31_55 : tb_in 31 55 = some (.aload 4, 0, 0, 0, []) := by decide +kernel
theorem t_31_57 : tb_in 31 57 = some (.areturn, 0, 0, 0, []) := by decide +kernel
theorem t_31_58 : tb_in 31 58 = some (.aload_n 2, 0, 0, 0, []) := by decide +kernel
theorem t_31_59 : tb_in 31 59 = some (.aload_n 0, 0, 0, 0, []) := by decide +kernel
theorem t_31_60 : tb_in 31 60 = some (.aload_n 2, 0, 0, 0, []) := by decide +kernel
theorem t_31_61 : tb_in 31 61 = some (.getfield 273, 5, 0, 0, []) := by decide +kernel
theorem t_31_64 : tb_in 31 64 = some (.invokevirtual 276, 35, 2, 0, []) := by decide +kernel
theorem t_31_67 : tb_in 31 67 = some (.invokevirtual 279, 96, 2, 0, []) := by decide +kernel
theorem t_31_70 : tb_in 31 70 = some (.aload_n 2, 0, 0, 0, []) := by decide +kernel
theorem t_31_71 : tb_in 31 71 = some (.invokevirtual 270, 95, 1, 0, []) := by decide +kernel
theorem t_31_74 : tb_in 31 74 = some (.iinc 3 1, 0, 0, 1, []) := by decide +kernel
theorem t_31_77 : tb_in 31 77 = some (.goto (-54), 23, 0, 0, []) := by decide +kernel
theorem t_31_80 : tb_in 31 80 = some (.aload_n 0, 0, 0, 0, []) := by decide +kernel
theorem t_31_81 : tb_in 31 81 = some (.iload_n 1, 0, 0, 0, []) := by decide +kernel
theorem t_31_82 : tb_in 31 82 = some (.aload_n 2, 0, 0, 0, []) := by decide +kernel
theorem t_31_83 : tb_in 31 83 = some (.invokevirtual 282, 32, 3, 0, []) := by decide +kernel
theorem t_31_86 : tb_in 31 86 = some (.aload_n 0, 0, 0, 0, []) := by decide +kernel
theorem t_31_87 : tb_in 31 87 = some (.dup, 0, 0, 0, []) := by decide +kernel
theorem t_31_88 : tb_in 31 88 = some (.getfield 67, 6, 11, 0, []) := by decide +kernel
theorem t_31_91 : tb_in 31 91 = some (.iconst 1, 0, 0, 1, []) := by decide +kernel
theorem t_31_92 : tb_in 31 92 = some (.iadd, 0, 0, 0, []) := by decide +kernel
theorem t_31_93 : tb_in 31 93 = some (.putfield 67, 6, 11, 0, []) := by decide +kernel
theorem t_31_96 : tb_in 31 96 = some (.getstatic 149, 1, 0, 0, []) := by decide +kernel
theorem t_31_99 : tb_in 31 99 = some (.areturn, 0, 0, 0, []) := by decide +kernel
theorem t_32_0 : tb_in 32 0 = some (.aload_n 0, 0, 0, 0, []) := by decide +kernel
theorem t_32_1 : tb_in 32 1 = some (.getfield 40, 6, 5, 0, []) := by decide +kernel
theorem t_32_4 : tb_in 32 4 = some (.iload_n 1, 0, 0, 0, []) := by decide +kernel
theorem t_32_5 : tb_in 32 5 = some (.aaload, 0, 0, 0, []) := by decide +kernel
theorem t_32_6 : tb_in 32 6 = some (.astore_n 3, 0, 0, 0, []) := by decide +kernel
theorem t_32_7 : tb_in 32 7 = some (.aload_n 0, 0, 0, 0, []) := by decide +kernel
theorem t_32_8 : tb_in 32 8 = some (.getfield 47, 6, 6, 0, []) := by decide +kernel
theorem t_32_11 : tb_in 32 11 = some (.iload_n 1, 0, 0, 0, []) := by decide +kernel
theorem t_32_12 : tb_in 32 12 = some (.invokevirtual 171, 81, 2, 0, []) := by decide +kernel
theorem t_32_15 : tb_in 32 15 = some (.ifCond .eq 14, 29, 0, 0, []) := by decide +kernel
theorem t_32_18 : tb_in 32 18 = some (.aload_n 3, 0, 0, 0, []) := by decide +kernel
theorem t_32_19 : tb_in 32 19 = some (.getfield 165, 0, 0, 0, []) := by decide +kernel
theorem t_32_22 : tb_in 32 22 = some (.aload_n 2, 0, 0, 0, []) := by decide +kernel
theorem t_32_23 : tb_in 32 23 = some (.getfield 286, 5, 1, 0, []) := by decide +kernel
theorem t_32_26 : tb_in 32 26 = some (.if_icmp .eq 14, 40, 0, 0, []) := by decide +kernel
theorem t_32_29 : tb_in 32 29 = some (.aload_n 3, 0, 0, 0, []) := by decide +kernel
theorem t_32_30 : tb_in 32 30 = some (.aload_n 0, 0, 0, 0, []) := by decide +kernel
theorem t_32_31 : tb_in 32 31 = some (.getfield 34, 6, 4, 0, []) := by decide +kernel
theorem t_32_34 : tb_in 32 34 = some (.getfield 129, 1, 0, 0, []) := by decide +kernel
theorem t_32_37 : tb_in 32 37 = some (.putfield 182, 0, 4, 0, []) := by decide +kernel
theorem t_32_40 : tb_in 32 40 = some (.aload_n 3, 0, 0, 0, []) := by decide +kernel
theorem t_32_41 : tb_in 32 41 = some (.aload_n 2, 0, 0, 0, []) := by decide +kernel
theorem t_32_42 : tb_in 32 42 = some (.getfield 286, 5, 1, 0, []) := by decide +kernel
theorem t_32_45 : tb_in 32 45 = some (.putfield 165, 0, 0, 0, []) := by decide +kernel
theorem t_32_48 : tb_in 32 48 = some (.aload_n 3, 0, 0, 0, []) := by decide +kernel
theorem t_32_49 : tb_in 32 49 = some (.aload_n 2, 0, 0, 0, []) := by decide +kernel
theorem t_32_50 : tb_in 32 50 = some (.getfield 287, 5, 3, 0, []) := by decide +kernel
theorem t_32_53 : tb_in 32 53 = some (.putfield 191, 0, 2, 0, []) := by decide +kernel
theorem t_32_56 : tb_in 32 56 = some (.aload_n 2, 0, 0, 0, []) := by decide +kernel
theorem t_32_57 : tb_in 32 57 = some (.getfield 288, 5, 2, 0, []) := by decide +kernel
theorem t_32_60 : tb_in 32 60 = some (.iconst 0, 0, 0, 0, []) := by decide +kernel
theorem t_32_61 : tb_in 32 61 = some (.aload_n 3, 0, 0, 0, []) := by decide +kernel
theorem t_32_62 : tb_in 32 62 = some (.getfield 194, 0, 1, 0, []) := by decide +kernel
theorem t_32_65 : tb_in 32 65 = some (.iconst 0, 0, 0, 0, []) := by decide +kernel
theorem t_32_66 : tb_in 32 66 = some (.aload_n 2, 0, 0, 0, []) := by decide +kernel
theorem t_32_67 : tb_in 32 67 = some (.getfield 287, 5, 3, 0, []) := by decide +kernel
theorem t_32_70 : tb_in 32 70 = some (.invokestatic 289, 1003, 0, 0, []) := by decide +kernel
theorem t_32_73 : tb_in 32 73 = some (.aload_n 3, 0, 0, 0, []) := by decide +kernel
theorem t_32_74 : tb_in 32 74 = some (.aload_n 0, 0, 0, 0, []) := by decide +kernel
theorem t_32_75 : tb_in 32 75 = some (.getfield 34, 6, 4, 0, []) := by decide +kernel
theorem t_32_78 : tb_in 32 78 = some (.getfield 129, 1, 0, 0, []) := by decide +kernel
theorem t_32_81 : tb_in 32 81 = some (.putfield 179, 0, 3, 0, []) := by decide +kernel
theorem t_32_84 : tb_in 32 84 = some (.aload_n 3, 0, 0, 0, []) := by decide +kernel
theorem t_32_85 : tb_in 32 85 = some (.aload_n 0, 0, 0, 0, []) := by decide +kernel
theorem t_32_86 : tb_in 32 86 = some (.aload_n 3, 0, 0, 0, []) := by decide +kernel
theorem t_32_87 : tb_in 32 87 = some (.invokevirtual 262, 38, 2, 0, []) := by decide +kernel
theorem t_32_90 : tb_in 32 90 = some (.putfield 184, 0, 5, 0, []) := by decide +kernel
theorem t_32_93 : tb_in 32 93 = some (.aload_n 3, 0, 0, 0, []) := by decide +kernel
theorem t_32_94 : tb_in 32 94 = some (.iconst 0, 0, 0, 0, []) := by decide +kernel
theorem t_32_95 : tb_in 32 95 = some (.putfield 187, 0, 6, 0, []) := by decide +kernel
theorem t_32_98 : tb_in 32 98 = some (.return_, 0, 0, 0, []) := by decide +kernel
theorem t_33_0 : tb_in 33 0 = some (.iload_n 1, 0, 0, 0, []) := by decide +kernel
theorem t_33_1 : tb_in 33 1 = some (.invokestatic 295, 34, 1, 0, []) := by decide +kernel
theorem t_33_4 : tb_in 33 4 = some (.ifCond .eq 14, 18, 0, 0, []) := by decide +kernel
theorem t_33_7 : tb_in 33 7 = some (.aload_n 0, 0, 0, 0, []) := by decide +kernel
theorem t_33_8 : tb_in 33 8 = some (.iload_n 1, 0, 0, 0, []) := by decide +kernel
theorem t_33_9 : tb_in 33 9 = some (.bipush 100, 0, 0, 100, []) := by decide +kernel
theorem t_33_11 : tb_in 33 11 = some (.isub, 0, 0, 0, []) := by decide +kernel
theorem t_33_12 : tb_in 33 12 = some (.invokevirtual 145, 25, 2, 0, []) := by decide +kernel
theorem t_33_15 : tb_in 33 15 = some (.goto 6, 21, 0, 0, []) := by decide +kernel
theorem t_33_18 : tb_in 33 18 = some (.getstatic 149, 1, 0, 0, []) := by decide +kernel
theorem t_33_21 : tb_in 33 21 = some (.areturn, 0, 0, 0, []) := by decide +kernel
theorem t_34_0 : tb_in 34 0 = some (.iload_n 0, 0, 0, 0, []) := by decide +kernel
theorem t_34_1 : tb_in 34 1 = some (.bipush 100, 0, 0, 100, []) := by decide +kernel
theorem t_34_3 : tb_in 34 3 = some (.if_icmp .lt 7, 10, 0, 0, []) := by decide +kernel
theorem t_34_6 : tb_in 34 6 = some (.iconst 1, 0, 0, 1, []) := by decide +kernel
theorem t_34_7 : tb_in 34 7 = some (.goto 4, 11, 0, 0, []) := by decide +kernel
theorem t_34_10 : tb_in 34 10 = some (.iconst 0, 0, 0, 0, []) := by decide +kernel
theorem t_34_11 : tb_in 34 11 = some (.ireturn, 0, 0, 0, []) := by decide +kernel
theorem t_35_0 : tb_in 35 0 = some (.iload_n 1, 0, 0, 0, []) := by decide +kernel
theorem t_35_1 : tb_in 35 1 = some (.invokestatic 295, 34, 1, 0, []) := by decide +kernel
theorem t_35_4 : tb_in 35 4 = some (.ifCond .eq 18, 22, 0, 0, []) := by decide +kernel
theorem t_35_7 : tb_in 35 7 = some (.aload_n 0, 0, 0, 0, []) := by decide +kernel
theorem t_35_8 : tb_in 35 8 = some (.getfield 40, 6, 5, 0, []) := by decide +kernel
theorem t_35_11 : tb_in 35 11 = some (.iload_n 1, 0, 0, 0, []) := by decide +kernel
theorem t_35_12 : tb_in 35 12 = some (.bipush 100, 0, 0, 100, []) := by decide +kernel
theorem t_35_14 : tb_in 35 14 = some (.isub, 0, 0, 0, []) := by decide +kernel
theorem t_35_15 : tb_in 35 15 = some (.aaload, 0, 0, 0, []) := by decide +kernel
theorem t_35_16 : tb_in 35 16 = some (.getfield 165, 0, 0, 0, []) := by decide +kernel
theorem t_35_19 : tb_in 35 19 = some (.goto 12, 31, 0, 0, []) := by decide +kernel
theorem t_35_22 : tb_in 35 22 = some (.aload_n 0, 0, 0, 0, []) := by decide +kernel
theorem t_35_23 : tb_in 35 23 = some (.getfield 27, 6, 3, 0, []) := by decide +kernel
theorem t_35_26 : tb_in 35 26 = some (.getfield 117, 2, 0, 0, []) := by decide +kernel
theorem t_35_29 : tb_in 35 29 = some (.iload_n 1, 0, 0, 0, []) := by decide +kernel
theorem t_35_30 : tb_in 35 30 = some (.iaload, 0, 0, 0, []) := by decide +kernel
theorem t_35_31 : tb_in 35 31 = some (.ireturn, 0, 0, 0, []) := by decide +kernel
theorem t_36_0 : tb_in 36 0 = some (.iload_n 1, 0, 0, 0, []) := by decide +kernel
theorem t_36_1 : tb_in 36 1 = some (.invokestatic 295, 34, 1, 0, []) := by decide +kernel
theorem t_36_4 : tb_in 36 4 = some (.ifCond .eq 18, 22, 0, 0, []) := by decide +kernel
theorem t_36_7 : tb_in 36 7 = some (.aload_n 0, 0, 0, 0, []) := by decide +kernel
theorem t_36_8 : tb_in 36 8 = some (.getfield 40, 6, 5, 0, []) := by decide +kernel
theorem t_36_11 : tb_in 36 11 = some (.iload_n 1, 0, 0, 0, []) := by decide +kernel
theorem t_36_12 : tb_in 36 12 = some (.bipush 100, 0, 0, 100, []) := by decide +kernel
theorem t_36_14 : tb_in 36 14 = some (.isub, 0, 0, 0, []) := by decide +kernel
theorem t_36_15 : tb_in 36 15 = some (.aaload, 0, 0, 0, []) := by decide +kernel
theorem t_36_16 : tb_in 36 16 = some (.getfield 182, 0, 4, 0, []) := by decide +kernel
theorem t_36_19 : tb_in 36 19 = some (.goto 12, 31, 0, 0, []) := by decide +kernel
theorem t_36_22 : tb_in 36 22 = some (.aload_n 0, 0, 0, 0, []) := by decide +kernel
theorem t_36_23 : tb_in 36 23 = some (.getfield 27, 6, 3, 0, []) := by decide +kernel
theorem t_36_26 : tb_in 36 26 = some (.getfield 126, 2, 1, 0, []) := by decide +kernel
theorem t_36_29 : tb_in 36 29 = some (.iload_n 1, 0, 0, 0, []) := by decide +kernel
theorem t_36_30 : tb_in 36 30 = some (.iaload, 0, 0, 0, []) := by decide +kernel
theorem t_36_31 : tb_in 36 31 = some (.ireturn, 0, 0, 0, []) := by decide +kernel
theorem t_37_0 : tb_in 37 0 = some (.iload_n 1, 0, 0, 0, []) := by decide +kernel
theorem t_37_1 : tb_in 37 1 = some (.invokestatic 295, 34, 1, 0, []) := by decide +kernel
theorem t_37_4 : tb_in 37 4 = some (.ifCond .eq 18, 22, 0, 0, []) := by decide +kernel
theorem t_37_7 : tb_in 37 7 = some (.aload_n 0, 0, 0, 0, []) := by decide +kernel
theorem t_37_8 : tb_in 37 8 = some (.getfield 40, 6, 5, 0, []) := by decide +kernel
theorem t_37_11 : tb_in 37 11 = some (.iload_n 1, 0, 0, 0, []) := by decide +kernel
theorem t_37_12 : tb_in 37 12 = some (.bipush 100, 0, 0, 100, []) := by decide +kernel
theorem t_37_14 : tb_in 37 14 = some (.isub, 0, 0, 0, []) := by decide +kernel
theorem t_37_15 : tb_in 37 15 = some (.aaload, 0, 0, 0, []) := by decide +kernel
theorem t_37_16 : tb_in 37 16 = some (.getfield 184, 0, 5, 0, []) := by decide +kernel
theorem t_37_19 : tb_in 37 19 = some (.goto 15, 34, 0, 0, []) := by decide +kernel
theorem t_37_22 : tb_in 37 22 = some (.aload_n 0, 0, 0, 0, []) := by decide +kernel
theorem t_37_23 : tb_in 37 23 = some (.getfield 27, 6, 3, 0, []) := by decide +kernel
theorem t_37_26 : tb_in 37 26 = some (.getfield 120, 2, 2, 0, []) := by decide +kernel
theorem t_37_29 : tb_in 37 29 = some (.iload_n 1, 0, 0, 0, []) := by decide +kernel
theorem t_37_30 : tb_in 37 30 = some (.bipush 16, 0, 0, 16, []) := by decide +kernel
theorem t_37_32 : tb_in 37 32 = some (.idiv, 0, 0, 0, []) := by decide +kernel
theorem t_37_33 : tb_in 37 33 = some (.iaload, 0, 0, 0, []) := by decide +kernel
theorem t_37_34 : tb_in 37 34 = some (.ireturn, 0, 0, 0, []) := by decide +kernel
theorem t_38_0 : tb_in 38 0 = some (.iconst 2, 0, 0, 2, []) := by decide +kernel
theorem t_38_1 : tb_in 38 1 = some (.istore_n 2, 0, 0, 0, []) := by decide +kernel
theorem t_38_2 : tb_in 38 2 = some (.iconst 0, 0, 0, 0, []) := by decide +kernel
theorem t_38_3 : tb_in 38 3 = some (.istore_n 3, 0, 0, 0, []) := by decide +kernel
theorem t_38_4 : tb_in 38 4 = some (.iload_n 3, 0, 0, 0, []) := by decide +kernel
theorem t_38_5 : tb_in 38 5 = some (.aload_n 1, 0, 0, 0, []) := by decide +kernel
theorem t_38_6 : tb_in 38 6 = some (.getfield 191, 0, 2, 0, []) := by decide +kernel
theorem t_38_9 : tb_in 38 9 = some (.if_icmp .ge 24, 33, 0, 0, []) := by decide +kernel
theorem t_38_12 : tb_in 38 12 = some (.iload_n 2, 0, 0, 0, []) := by decide +kernel
theorem t_38_13 : tb_in 38 13 = some (.aload_n 0, 0, 0, 0, []) := by decide +kernel
theorem t_38_14 : tb_in 38 14 = some (.aload_n 1, 0, 0, 0, []) := by decide +kernel
theorem t_38_15 : tb_in 38 15 = some (.getfield 194, 0, 1, 0, []) := by decide +kernel
theorem t_38_18 : tb_in 38 18 = some (.iload_n 3, 0, 0, 0, []) := by decide +kernel
theorem t_38_19 : tb_in 38 19 = some (.iaload, 0, 0, 0, []) := by decide +kernel
theorem t_38_20 : tb_in 38 20 = some (.invokevirtual 298, 37, 2, 0, []) := by decide +kernel
theorem t_38_23 : tb_in 38 23 = some (.invokestatic 301, 1002, 0, 0, []) := by decide +kernel
theorem t_38_26 : tb_in 38 26 = some (.istore_n 2, 0, 0, 0, []) := by decide +kernel
theorem t_38_27 : tb_in 38 27 = some (.iinc 3 1, 0, 0, 1, []) := by decide +kernel
theorem t_38_30 : tb_in 38 30 = some (.goto (-26), 4, 0, 0, []) := by decide +kernel
theorem t_38_33 : tb_in 38 33 = some (.iload_n 2, 0, 0, 0, []) := by decide +kernel
theorem t_38_34 : tb_in 38 34 = some (.ireturn, 0, 0, 0, []) := by decide +kernel
theorem t_39_0 : tb_in 39 0 = some (.aload_n 0, 0, 0, 0, []) := by decide +kernel
theorem t_39_1 : tb_in 39 1 = some (.invokespecial 1, 1000, 0, 0, []) := by decide +kernel
theorem t_39_4 : tb_in 39 4 = some (.aload_n 0, 0, 0, 0, []) := by decide +kernel
theorem t_39_5 : tb_in 39 5 = some (.bipush 24, 0, 0, 24, []) := by decide +kernel
theorem t_39_7 : tb_in 39 7 = some (.newarray .int, 0, 0, 0, []) := by decide +kernel
theorem t_39_9 : tb_in 39 9 = some (.putfield 7, 7, 1, 0, []) := by decide +kernel
theorem t_39_12 : tb_in 39 12 = some (.aload_n 0, 0, 0, 0, []) := by decide +kernel
theorem t_39_13 : tb_in 39 13 = some (.sipush 144, 0, 0, 144, []) := by decide +kernel
theorem t_39_16 : tb_in 39 16 = some (.newarray .int, 0, 0, 0, []) := by decide +kernel
theorem t_39_18 : tb_in 39 18 = some (.putfield 13, 7, 3, 0, []) := by decide +kernel
theorem t_39_21 : tb_in 39 21 = some (.aload_n 0, 0, 0, 0, []) := by decide +kernel
theorem t_39_22 : tb_in 39 22 = some (.bipush 6, 0, 0, 6, []) := by decide +kernel
theorem t_39_24 : tb_in 39 24 = some (.newarray .int, 0, 0, 0, []) := by decide +kernel
theorem t_39_26 : tb_in 39 26 = some (.dup, 0, 0, 0, []) := by decide +kernel
theorem t_39_27 : tb_in 39 27 = some (.iconst 0, 0, 0, 0, []) := by decide +kernel
theorem t_39_28 : tb_in 39 28 = some (.iconst 1, 0, 0, 1, []) := by decide +kernel
theorem t_39_29 : tb_in 39 29 = some (.iastore, 0, 0, 0, []) := by decide +kernel
theorem t_39_30 : tb_in 39 30 = some (.dup, 0, 0, 0, []) := by decide +kernel
theorem t_39_31 : tb_in 39 31 = some (.iconst 1, 0, 0, 1, []) := by decide +kernel
theorem t_39_32 : tb_in 39 32 = some (.iconst 1, 0, 0, 1, []) := by decide +kernel
theorem t_39_33 : tb_in 39 33 = some (.iastore, 0, 0, 0, []) := by decide +kernel
theorem t_39_34 : tb_in 39 34 = some (.dup, 0, 0, 0, []) := by decide +kernel
theorem t_39_35 : tb_in 39 35 = some (.iconst 2, 0, 0, 2, []) := by decide +kernel
theorem t_39_36 : tb_in 39 36 = some (.iconst 1, 0, 0, 1, []) := by decide +kernel
theorem t_39_37 : tb_in 39 37 = some (.iastore, 0, 0, 0, []) := by decide +kernel
theorem t_39_38 : tb_in 39 38 = some (.dup, 0, 0, 0, []) := by decide +kernel
theorem t_39_39 : tb_in 39 39 = some (.iconst 3, 0, 0, 3, []) := by decide +kernel
theorem t_39_40 : tb_in 39 40 = some (.iconst 1, 0, 0, 1, []) := by decide +kernel
theorem t_39_41 : tb_in 39 41 = some (.iastore, 0, 0, 0, []) := by decide +kernel
theorem t_39_42 : tb_in 39 42 = some (.dup, 0, 0, 0, []) := by decide +kernel
theorem t_39_43 : tb_in 39 43 = some (.iconst 4, 0, 0, 4, []) := by decide +kernel
theorem t_39_44 : tb_in 39 44 = some (.iconst 1, 0, 0, 1, []) := by decide +kernel
theorem t_39_45 : tb_in 39 45 = some (.iastore, 0, 0, 0, []) := by decide +kernel
theorem t_39_46 : tb_in 39 46 = some (.dup, 0, 0, 0, []) := by decide +kernel
theorem t_39_47 : tb_in 39 47 = some (.iconst 5, 0, 0, 5, []) := by decide +kernel
theorem t_39_48 : tb_in 39 48 = some (.iconst 1, 0, 0, 1, []) := by decide +kernel
theorem t_39_49 : tb_in 39 49 = some (.iastore, 0, 0, 0, []) := by decide +kernel
theorem t_39_50 : tb_in 39 50 = some (.putfield 16, 7, 4, 0, []) := by decide +kernel
theorem t_39_53 : tb_in 39 53 = some (.aload_n 0, 0, 0, 0, []) := by decide +kernel
theorem t_39_54 : tb_in 39 54 = some (.bipush 48, 0, 0, 48, []) := by decide +kernel
theorem t_39_56 : tb_in 39 56 = some (.newarray .int, 0, 0, 0, []) := by decide +kernel
theorem t_39_58 : tb_in 39 58 = some (.putfield 19, 7, 6, 0, []) := by decide +kernel
theorem t_39_61 : tb_in 39 61 = some (.aload_n 0, 0, 0, 0, []) := by decide +kernel
theorem t_39_62 : tb_in 39 62 = some (.bipush 48, 0, 0, 48, []) := by decide +kernel
theorem t_39_64 : tb_in 39 64 = some (.newarray .int, 0, 0, 0, []) := by decide +kernel
theorem t_39_66 : tb_in 39 66 = some (.putfield 22, 7, 7, 0, []) := by decide +kernel
theorem t_39_69 : tb_in 39 69 = some (.aload_n 0, 0, 0, 0, []) := by decide +kernel
theorem t_39_70 : tb_in 39 70 = some (.iconst 3, 0, 0, 3, []) := by decide +kernel
theorem t_39_71 : tb_in 39 71 = some (.newarray .int, 0, 0, 0, []) := by decide +kernel
theorem t_39_73 : tb_in 39 73 = some (.putfield 25, 7, 8, 0, []) := by decide +kernel
theorem t_39_76 : tb_in 39 76 = some (.aload_n 0, 0, 0, 0, []) := by decide +kernel
theorem t_39_77 : tb_in 39 77 = some (.bipush 6, 0, 0, 6, []) := by decide +kernel
theorem t_39_79 : tb_in 39 79 = some (.newarray .int, 0, 0, 0, []) := by decide +kernel
theorem t_39_81 : tb_in 39 81 = some (.putfield 28, 7, 9, 0, []) := by decide +kernel
theorem t_39_84 : tb_in 39 84 = some (.aload_n 0, 0, 0, 0, []) := by decide +kernel
theorem t_39_85 : tb_in 39 85 = some (.iconst 3, 0, 0, 3, []) := by decide +kernel
theorem t_39_86 : tb_in 39 86 = some (.newarray .int, 0, 0, 0, []) := by decide +kernel
theorem t_39_88 : tb_in 39 88 = some (.putfield 31, 7, 10, 0, []) := by decide +kernel
theorem t_39_91 : tb_in 39 91 = some (.aload_n 0, 0, 0, 0, []) := by decide +kernel
theorem t_39_92 : tb_in 39 92 = some (.bipush 96, 0, 0, 96, []) := by decide +kernel
theorem t_39_94 : tb_in 39 94 = some (.newarray .boolean, 0, 0, 0, []) := by decide +kernel
theorem t_39_96 : tb_in 39 96 = some (.putfield 34, 7, 11, 0, []) := by decide +kernel
theorem t_39_99 : tb_in 39 99 = some (.aload_n 0, 0, 0, 0, []) := by decide +kernel
theorem t_39_100 : tb_in 39 100 = some (.bipush 96, 0, 0, 96, []) := by decide +kernel
theorem t_39_102 : tb_in 39 102 = some (.newarray .int, 0, 0, 0, []) := by decide +kernel
theorem t_39_104 : tb_in 39 104 = some (.putfield 38, 7, 12, 0, []) := by decide +kernel
theorem t_39_107 : tb_in 39 107 = some (.aload_n 0, 0, 0, 0, []) := by decide +kernel
theorem t_39_108 : tb_in 39 108 = some (.bipush 96, 0, 0, 96, []) := by decide +kernel
theorem t_39_110 : tb_in 39 110 = some (.newarray .int, 0, 0, 0, []) := by decide +kernel
theorem t_39_112 : tb_in 39 112 = some (.putfield 41, 7, 13, 0, []) := by decide +kernel
theorem t_39_115 : tb_in 39 115 = some (.aload_n 0, 0, 0, 0, []) := by decide +kernel
theorem t_39_116 : tb_in 39 116 = some (.bipush 96, 0, 0, 96, []) := by decide +kernel
theorem t_39_118 : tb_in 39 118 = some (.newarray .int, 0, 0, 0, []) := by decide +kernel
theorem t_39_120 : tb_in 39 120 = some (.putfield 44, 7, 14, 0, []) := by decide +kernel
theorem t_39_123 : tb_in 39 123 = some (.aload_n 0, 0, 0, 0, []) := by decide +kernel
theorem t_39_124 : tb_in 39 124 = some (.bipush 96, 0, 0, 96, []) := by decide +kernel
theorem t_39_126 : tb_in 39 126 = some (.newarray .int, 0, 0, 0, []) := by decide +kernel
theorem t_39_128 : tb_in 39 128 = some (.putfield 47, 7, 15, 0, []) := by decide +kernel
theorem t_39_131 : tb_in 39 131 = some (.aload_n 0, 0, 0, 0, []) := by decide +kernel
theorem t_39_132 : tb_in 39 132 = some (.bipush 96, 0, 0, 96, []) := by decide +kernel
theorem t_39_134 : tb_in 39 134 = some (.newarray .boolean, 0, 0, 0, []) := by decide +kernel
theorem t_39_136 : tb_in 39 136 = some (.putfield 50, 7, 16, 0, []) := by decide +kernel
theorem t_39_139 : tb_in 39 139 = some (.aload_n 0, 0, 0, 0, []) := by decide +kernel
theorem t_39_140 : tb_in 39 140 = some (.sipush 2304, 0, 0, 2304, []) := by decide +kernel
theorem t_39_143 : tb_in 39 143 = some (.newarray .int, 0, 0, 0, []) := by decide +kernel
theorem t_39_145 : tb_in 39 145 = some (.putfield 53, 7, 17, 0, []) := by decide +kernel
theorem t_39_148 : tb_in 39 148 = some (.aload_n 0, 0, 0, 0, []) := by decide +kernel
theorem t_39_149 : tb_in 39 149 = some (.bipush 96, 0, 0, 96, []) := by decide +kernel
theorem t_39_151 : tb_in 39 151 = some (.newarray .int, 0, 0, 0, []) := by decide +kernel
theorem t_39_153 : tb_in 39 153 = some (.putfield 56, 7, 18, 0, []) := by decide +kernel
theorem t_39_156 : tb_in 39 156 = some (.aload_n 0, 0, 0, 0, []) := by decide +kernel
theorem t_39_157 : tb_in 39 157 = some (.bipush 96, 0, 0, 96, []) := by decide +kernel
theorem t_39_159 : tb_in 39 159 = some (.newarray .int, 0, 0, 0, []) := by decide +kernel
theorem t_39_161 : tb_in 39 161 = some (.putfield 59, 7, 19, 0, []) := by decide +kernel
theorem t_39_164 : tb_in 39 164 = some (.aload_n 0, 0, 0, 0, []) := by decide +kernel
theorem t_39_165 : tb_in 39 165 = some (.bipush 96, 0, 0, 96, []) := by decide +kernel
theorem t_39_167 : tb_in 39 167 = some (.putfield 62, 7, 21, 0, []) := by decide +kernel
theorem t_39_170 : tb_in 39 170 = some (.aload_n 0, 0, 0, 0, []) := by decide +kernel
theorem t_39_171 : tb_in 39 171 = some (.bipush 20, 0, 0, 20, []) := by decide +kernel
theorem t_39_173 : tb_in 39 173 = some (.newarray .int, 0, 0, 0, []) := by decide +kernel
theorem t_39_175 : tb_in 39 175 = some (.putfield 66, 7, 27, 0, []) := by decide +kernel
theorem t_39_178 : tb_in 39 178 = some (.aload_n 0, 0, 0, 0, []) := by decide +kernel
theorem t_39_179 : tb_in 39 179 = some (.bipush 20, 0, 0, 20, []) := by decide +kernel
theorem t_39_181 : tb_in 39 181 = some (.newarray .boolean, 0, 0, 0, []) := by decide +kernel
theorem t_39_183 : tb_in 39 183 = some (.putfield 69, 7, 28, 0, []) := by decide +kernel
theorem t_39_186 : tb_in 39 186 = some (.aload_n 0, 0, 0, 0, []) := by decide +kernel
theorem t_39_187 : tb_in 39 187 = some (.bipush 24, 0, 0, 24, []) := by decide +kernel
theorem t_39_189 : tb_in 39 189 = some (.newarray .int, 0, 0, 0, []) := by decide +kernel
theorem t_39_191 : tb_in 39 191 = some (.putfield 72, 7, 31, 0, []) := by decide +kernel
theorem t_39_194 : tb_in 39 194 = some (.aload_n 0, 0, 0, 0, []) := by decide +kernel
theorem t_39_195 : tb_in 39 195 = some (.bipush 24, 0, 0, 24, []) := by decide +kernel
theorem t_39_197 : tb_in 39 197 = some (.newarray .int, 0, 0, 0, []) := by decide +kernel
theorem t_39_199 : tb_in 39 199 = some (.putfield 75, 7, 32, 0, []) := by decide +kernel
theorem t_39_202 : tb_in 39 202 = some (.aload_n 0, 0, 0, 0, []) := by decide +kernel
theorem t_39_203 : tb_in 39 203 = some (.bipush 24, 0, 0, 24, []) := by decide +kernel
theorem t_39_205 : tb_in 39 205 = some (.newarray .int, 0, 0, 0, []) := by decide +kernel
theorem t_39_207 : tb_in 39 207 = some (.putfield 78, 7, 33, 0, []) := by decide +kernel
theorem t_39_210 : tb_in 39 210 = some (.aload_n 0, 0, 0, 0, []) := by decide +kernel
theorem t_39_211 : tb_in 39 211 = some (.bipush 24, 0, 0, 24, []) := by decide +kernel
theorem t_39_213 : tb_in 39 213 = some (.newarray .int, 0, 0, 0, []) := by decide +kernel
theorem t_39_215 : tb_in 39 215 = some (.putfield 81, 7, 35, 0, []) := by decide +kernel
theorem t_39_218 : tb_in 39 218 = some (.iconst 0, 0, 0, 0, []) := by decide +kernel
theorem t_39_219 : tb_in 39 219 = some (.istore_n 1, 0, 0, 0, []) := by decide +kernel
theorem t_39_220 : tb_in 39 220 = some (.iload_n 1, 0, 0, 0, []) := by decide +kernel
theorem t_39_221 : tb_in 39 221 = some (.bipush 6, 0, 0, 6, []) := by decide +kernel
theorem t_39_223 : tb_in 39 223 = some (.if_icmp .ge 20, 243, 0, 0, []) := by decide +kernel
theorem t_39_226 : tb_in 39 226 = some (.aload_n 0, 0, 0, 0, []) := by decide +kernel
theorem t_39_227 : tb_in 39 227 = some (.getfield 13, 7, 3, 0, []) := by decide +kernel
theorem t_39_230 : tb_in 39 230 = some (.bipush 24, 0, 0, 24, []) := by decide +kernel
theorem t_39_232 : tb_in 39 232 = some (.iload_n 1, 0, 0, 0, []) := by decide +kernel
theorem t_39_233 : tb_in 39 233 = some (.imul, 0, 0, 0, []) := by decide +kernel
theorem t_39_234 : tb_in 39 234 = some (.bipush 48, 0, 0, 48, []) := by decide +kernel
theorem t_39_236 : tb_in 39 236 = some (.iastore, 0, 0, 0, []) := by decide +kernel
theorem t_39_237 : tb_in 39 237 = some (.iinc 1 1, 0, 0, 1, []) := by decide +kernel
theorem t_39_240 : tb_in 39 240 = some (.goto (-20), 220, 0, 0, []) := by decide +kernel
theorem t_39_243 : tb_in 39 243 = some (.return_, 0, 0, 0, []) := by decide +kernel
theorem t_40_0 : tb_in 40 0 = some (.aload_n 0, 0, 0, 0, []) := by decide +kernel
theorem t_40_1 : tb_in 40 1 = some (.getfield 84, 7, 0, 0, []) := by decide +kernel
theorem t_40_4 : tb_in 40 4 = some (.ireturn, 0, 0, 0, []) := by decide +kernel
theorem t_41_0 : tb_in 41 0 = some (.aload_n 0, 0, 0, 0, []) := by decide +kernel
theorem t_41_1 : tb_in 41 1 = some (.iconst 0, 0, 0, 0, []) := by decide +kernel
theorem t_41_2 : tb_in 41 2 = some (.putfield 84, 7, 0, 0, []) := by decide +kernel
theorem t_41_5 : tb_in 41 5 = some (.iconst 0, 0, 0, 0, []) := by decide +kernel
theorem t_41_6 : tb_in 41 6 = some (.istore_n 3, 0, 0, 0, []) := by decide +kernel
theorem t_41_7 : tb_in 41 7 = some (.iconst 0, 0, 0, 0, []) := by decide +kernel
theorem t_41_8 : tb_in 41 8 = some (.istore 4, 0, 0, 0, []) := by decide +kernel
theorem t_41_10 : tb_in 41 10 = some (.iload 4, 0, 0, 0, []) := by decide +kernel
theorem t_41_12 : tb_in 41 12 = some (.bipush 64, 0, 0, 64, []) := by decide +kernel
theorem t_41_14 : tb_in 41 14 = some (.if_icmp .ge 30, 44, 0, 0, []) := by decide +kernel
theorem t_41_17 : tb_in 41 17 = some (.lload_n 1, 0, 0, 0, []) := by decide +kernel
theorem t_41_18 : tb_in 41 18 = some (.iload 4, 0, 0, 0, []) := by decide +kernel
theorem t_41_20 : tb_in 41 20 = some (.lshr, 0, 0, 0, []) := by decide +kernel
theorem t_41_21 : tb_in 41 21 = some (.ldc2_w 87, 255, 0, 0, []) := by decide +kernel
theorem t_41_24 : tb_in 41 24 = some (.land, 0, 0, 0, []) := by decide +kernel
theorem t_41_25 : tb_in 41 25 = some (.lconst 0, 0, 0, 0, []) := by decide +kernel
theorem t_41_26 : tb_in 41 26 = some (.lcmp, 0, 0, 0, []) := by decide +kernel
theorem t_41_27 : tb_in 41 27 = some (.ifCond .eq 9, 36, 0, 0, []) := by decide +kernel
theorem t_41_30 : tb_in 41 30 = some (.iload_n 3, 0, 0, 0, []) := by decide +kernel
theorem t_41_31 : tb_in 41 31 = some (.iconst 1, 0, 0, 1, []) := by decide +kernel
theorem t_41_32 : tb_in 41 32 = some (.iadd, 0, 0, 0, []) := by decide +kernel
theorem t_41_33 : tb_in 41 33 = some (.goto 4, 37, 0, 0, []) := by decide +kernel
theorem t_41_36 : tb_in 41 36 = some (.iload_n 3, 0, 0, 0, []) := by decide +kernel
theorem t_41_37 : tb_in 41 37 = some (.istore_n 3, 0, 0, 0, []) := by decide +kernel
theorem t_41_38 : tb_in 41 38 = some (.iinc 4 8, 0, 0, 8, []) := by decide +kernel
theorem t_41_41 : tb_in 41 41 = some (.goto (-31), 10, 0, 0, []) := by decide +kernel
theorem t_41_44 : tb_in 41 44 = some (.aload_n 0, 0, 0, 0, []) := by decide +kernel
theorem t_41_45 : tb_in 41 45 = some (.getfield 89, 7, 2, 0, []) := by decide +kernel
theorem t_41_48 : tb_in 41 48 = some (.iload_n 3, 0, 0, 0, []) := by decide +kernel
theorem t_41_49 : tb_in 41 49 = some (.iadd, 0, 0, 0, []) := by decide +kernel
theorem t_41_50 : tb_in 41 50 = some (.bipush 24, 0, 0, 24, []) := by decide +kernel
theorem t_41_52 : tb_in 41 52 = some (.if_icmp .le 5, 57, 0, 0, []) := by decide +kernel
theorem t_41_55 : tb_in 41 55 = some (.iconst (-1), 0, 0, (-1), []) := by decide +kernel
theorem t_41_56 : tb_in 41 56 = some (.ireturn, 0, 0, 0, []) := by decide +kernel
theorem t_41_57 : tb_in 41 57 = some (.iconst 0, 0, 0, 0, []) := by decide +kernel
theorem t_41_58 : tb_in 41 58 = some (.istore 4, 0, 0, 0, []) := by decide +kernel
theorem t_41_60 : tb_in 41 60 = some (.iload 4, 0, 0, 0, []) := by decide +kernel
theorem t_41_62 : tb_in 41 62 = some (.bipush 64, 0, 0, 64, []) := by decide +kernel
theorem t_41_64 : tb_in 41 64 = some (.if_icmp .ge 46, 110, 0, 0, []) := by decide +kernel
theorem t_41_67 : tb_in 41 67 = some (.lload_n 1, 0, 0, 0, []) := by decide +kernel
theorem t_41_68 : tb_in 41 68 = some (.iload 4, 0, 0, 0, []) := by decide +kernel
theorem t_41_70 : tb_in 41 70 = some (.lshr, 0, 0, 0, []) := by decide +kernel
theorem t_41_71 : tb_in 41 71 = some (.ldc2_w 87, 255, 0, 0, []) := by decide +kernel
theorem t_41_74 : tb_in 41 74 = some (.land, 0, 0, 0, []) := by decide +kernel
theorem t_41_75 : tb_in 41 75 = some (.l2i, 0, 0, 0, []) := by decide +kernel
theorem t_41_76 : tb_in 41 76 = some (.istore 5, 0, 0, 0, []) := by decide +kernel
theorem t_41_78 : tb_in 41 78 = some (.iload 5, 0, 0, 0, []) := by decide +kernel
theorem t_41_80 : tb_in 41 80 = some (.ifCond .eq 24, 104, 0, 0, []) := by decide +kernel
theorem t_41_83 : tb_in 41 83 = some (.aload_n 0, 0, 0, 0, []) := by decide +kernel
theorem t_41_84 : tb_in 41 84 = some (.getfield 7, 7, 1, 0, []) := by decide +kernel
theorem t_41_87 : tb_in 41 87 = some (.aload_n 0, 0, 0, 0, []) := by decide +kernel
theorem t_41_88 : tb_in 41 88 = some (.getfield 89, 7, 2, 0, []) := by decide +kernel
theorem t_41_91 : tb_in 41 91 = some (.iload 5, 0, 0, 0, []) := by decide +kernel
theorem t_41_93 : tb_in 41 93 = some (.iastore, 0, 0, 0, []) := by decide +kernel
theorem t_41_94 : tb_in 41 94 = some (.aload_n 0, 0, 0, 0, []) := by decide +kernel
theorem t_41_95 : tb_in 41 95 = some (.dup, 0, 0, 0, []) := by decide +kernel
theorem t_41_96 : tb_in 41 96 = some (.getfield 89, 7, 2, 0, []) := by decide +kernel
theorem t_41_99 : tb_in 41 99 = some (.iconst 1, 0, 0, 1, []) := by decide +kernel
theorem t_41_100 : tb_in 41 100 = some (.iadd, 0, 0, 0, []) := by decide +kernel
theorem t_41_101 : tb_in 41 101 = some (.putfield 89, 7, 2, 0, []) := by decide +kernel
theorem t_41_104 : tb_in 41 104 = some (.iinc 4 8, 0, 0, 8, []) := by decide +kernel
theorem t_41_107 : tb_in 41 107 = some (.goto (-47), 60, 0, 0, []) := by decide +kernel
theorem t_41_110 : tb_in 41 110 = some (.aload_n 0, 0, 0, 0, []) := by decide +kernel
theorem t_41_111 : tb_in 41 111 = some (.getfield 89, 7, 2, 0, []) := by decide +kernel
theorem t_41_114 : tb_in 41 114 = some (.ireturn, 0, 0, 0, []) := by decide +kernel
theorem t_42_0 : tb_in 42 0 = some (.aload_n 0, 0, 0, 0, []) := by decide +kernel
theorem t_42_1 : tb_in 42 1 = some (.iconst 0, 0, 0, 0, []) := by decide +kernel
theorem t_42_2 : tb_in 42 2 = some (.putfield 84, 7, 0, 0, []) := by decide +kernel
theorem t_42_5 : tb_in 42 5 = some (.aload_n 0, 0, 0, 0, []) := by decide +kernel
theorem t_42_6 : tb_in 42 6 = some (.getfield 89, 7, 2, 0, []) := by decide +kernel
theorem t_42_9 : tb_in 42 9 = some (.istore_n 1, 0, 0, 0, []) := by decide +kernel
theorem t_42_10 : tb_in 42 10 = some (.aload_n 0, 0, 0, 0, []) := by decide +kernel
theorem t_42_11 : tb_in 42 11 = some (.iconst 0, 0, 0, 0, []) := by decide +kernel
theorem t_42_12 : tb_in 42 12 = some (.putfield 89, 7, 2, 0, []) := by decide +kernel
theorem t_42_15 : tb_in 42 15 = some (.iload_n 1, 0, 0, 0, []) := by decide +kernel
theorem t_42_16 : tb_in 42 16 = some (.ireturn, 0, 0, 0, []) := by decide +kernel
theorem t_43_0 : tb_in 43 0 = some (.iload_n 0, 0, 0, 0, []) := by decide +kernel
theorem t_43_1 : tb_in 43 1 = some (.bipush 48, 0, 0, 48, []) := by decide +kernel
theorem t_43_3 : tb_in 43 3 = some (.if_icmp .lt 9, 12, 0, 0, []) := by decide +kernel
theorem t_43_6 : tb_in 43 6 = some (.iload_n 0, 0, 0, 0, []) := by decide +kernel
theorem t_43_7 : tb_in 43 7 = some (.bipush 57, 0, 0, 57, []) := by decide +kernel
theorem t_43_9 : tb_in 43 9 = some (.if_icmp .le 9, 18, 0, 0, []) := by decide +kernel
theorem t_43_12 : tb_in 43 12 = some (.iload_n 0, 0, 0, 0, []) := by decide +kernel
theorem t_43_13 : tb_in 43 13 = some (.bipush 107, 0, 0, 107, []) := by decide +kernel
theorem t_43_15 : tb_in 43 15 = some (.if_icmp .ne 5, 20, 0, 0, []) := by decide +kernel
theorem t_43_18 : tb_in 43 18 = some (.iconst 0, 0, 0, 0, []) := by decide +kernel
theorem t_43_19 : tb_in 43 19 = some (.ireturn, 0, 0, 0, []) := by decide +kernel
theorem t_43_20 : tb_in 43 20 = some (.iload_n 0, 0, 0, 0, []) := by decide +kernel
theorem t_43_21 : tb_in 43 21 = some (.bipush 43, 0, 0, 43, []) := by decide +kernel
theorem t_43_23 : tb_in 43 23 = some (.if_icmp .eq 15, 38, 0, 0, []) := by decide +kernel
theorem t_43_26 : tb_in 43 26 = some (.iload_n 0, 0, 0, 0, []) := by decide +kernel
theorem t_43_27 : tb_in 43 27 = some (.bipush 45, 0, 0, 45, []) := by decide +kernel
theorem t_43_29 : tb_in 43 29 = some (.if_icmp .eq 9, 38, 0, 0, []) := by decide +kernel
theorem t_43_32 : tb_in 43 32 = some (.iload_n 0, 0, 0, 0, []) := by decide +kernel
theorem t_43_33 : tb_in 43 33 = some (.bipush 42, 0, 0, 42, []) := by decide +kernel
theorem t_43_35 : tb_in 43 35 = some (.if_icmp .ne 5, 40, 0, 0, []) := by decide +kernel
theorem t_43_38 : tb_in 43 38 = some (.iconst 2, 0, 0, 2, []) := by decide +kernel
theorem t_43_39 : tb_in 43 39 = some (.ireturn, 0, 0, 0, []) := by decide +kernel
theorem t_43_40 : tb_in 43 40 = some (.iload_n 0, 0, 0, 0, []) := by decide +kernel
theorem t_43_41 : tb_in 43 41 = some (.bipush 63, 0, 0, 63, []) := by decide +kernel
theorem t_43_43 : tb_in 43 43 = some (.if_icmp .ne 7, 50, 0, 0, []) := by decide +kernel
theorem t_43_46 : tb_in 43 46 = some (.iconst 3, 0, 0, 3, []) := by decide +kernel
theorem t_43_47 : tb_in 43 47 = some (.goto 32, 79, 0, 0, []) := by decide +kernel
theorem t_43_50 : tb_in 43 50 = some (.iload_n 0, 0, 0, 0, []) := by decide +kernel
theorem t_43_51 : tb_in 43 51 = some (.bipush 103, 0, 0, 103, []) := by decide +kernel
theorem t_43_53 : tb_in 43 53 = some (.if_icmp .lt 9, 62, 0, 0, []) := by decide +kernel
theorem t_43_56 : tb_in 43 56 = some (.iload_n 0, 0, 0, 0, []) := by decide +kernel
theorem t_43_57 : tb_in 43 57 = some (.bipush 105, 0, 0, 105, []) := by decide +kernel
theorem t_43_59 : tb_in 43 59 = some (.if_icmp .le 15, 74, 0, 0, []) := by decide +kernel
theorem t_43_62 : tb_in 43 62 = some (.iload_n 0, 0, 0, 0, []) := by decide +kernel
theorem t_43_63 : tb_in 43 63 = some (.bipush 65, 0, 0, 65, []) := by decide +kernel
theorem t_43_65 : tb_in 43 65 = some (.if_icmp .lt 13, 78, 0, 0, []) := by decide +kernel
theorem t_43_68 : tb_in 43 68 = some (.iload_n 0, 0, 0, 0, []) := by decide +kernel
theorem t_43_69 : tb_in 43 69 = some (.bipush 70, 0, 0, 70, []) := by decide +kernel
theorem t_43_71 : tb_in 43 71 = some (.if_icmp .gt 7, 78, 0, 0, []) := by decide +kernel
theorem t_43_74 : tb_in 43 74 = some (.iconst 1, 0, 0, 1, []) := by decide +kernel
theorem t_43_75 : tb_in 43 75 = some (.goto 4, 79, 0, 0, []) := by decide +kernel
theorem t_43_78 : tb_in 43 78 = some (.iconst (-1), 0, 0, (-1), []) := by decide +kernel
theorem t_43_79 : tb_in 43 79 = some (.ireturn, 0, 0, 0, []) := by decide +kernel
theorem t_44_0 : tb_in 44 0 = some (.iconst 0, 0, 0, 0, []) := by decide +kernel
theorem t_44_1 : tb_in 44 1 = some (.istore_n 1, 0, 0, 0, []) := by decide +kernel
theorem t_44_2 : tb_in 44 2 = some (.iload_n 1, 0, 0, 0, []) := by decide +kernel
theorem t_44_3 : tb_in 44 3 = some (.bipush 96, 0, 0, 96, []) := by decide +kernel
theorem t_44_5 : tb_in 44 5 = some (.if_icmp .ge 16, 21, 0, 0, []) := by decide +kernel
theorem t_44_8 : tb_in 44 8 = some (.aload_n 0, 0, 0, 0, []) := by decide +kernel
theorem t_44_9 : tb_in 44 9 = some (.getfield 34, 7, 11, 0, []) := by decide +kernel
theorem t_44_12 : tb_in 44 12 = some (.iload_n 1, 0, 0, 0, []) := by decide +kernel
theorem t_44_13 : tb_in 44 13 = some (.iconst 0, 0, 0, 0, []) := by decide +kernel
theorem t_44_14 : tb_in 44 14 = some (.bastore, 0, 0, 0, []) := by decide +kernel
theorem t_44_15 : tb_in 44 15 = some (.iinc 1 1, 0, 0, 1, []) := by decide +kernel
theorem t_44_18 : tb_in 44 18 = some (.goto (-16), 2, 0, 0, []) := by decide +kernel
theorem t_44_21 : tb_in 44 21 = some (.return_, 0, 0, 0, []) := by decide +kernel
theorem t_45_0 : tb_in 45 0 = some (.aload_n 0, 0, 0, 0, []) := by decide +kernel
theorem t_45_1 : tb_in 45 1 = some (.iload_n 1, 0, 0, 0, []) := by decide +kernel
theorem t_45_2 : tb_in 45 2 = some (.ifCond .lt 8, 10, 0, 0, []) := by decide +kernel
theorem t_45_5 : tb_in 45 5 = some (.iload_n 1, 0, 0, 0, []) := by decide +kernel
theorem t_45_6 : tb_in 45 6 = some (.iconst 5, 0, 0, 5, []) := by decide +kernel
theorem t_45_7 : tb_in 45 7 = some (.if_icmp .le 7, 14, 0, 0, []) := by decide +kernel
theorem t_45_10 : tb_in 45 10 = some (.iconst 1, 0, 0, 1, []) := by decide +kernel
theorem t_45_11 : tb_in 45 11 = some (.goto 4, 15, 0, 0, []) := by decide +kernel
theorem t_45_14 : tb_in 45 14 = some (.iconst 0, 0, 0, 0, []) := by decide +kernel
theorem t_45_15 : tb_in 45 15 = some (.putfield 84, 7, 0, 0, []) := by decide +kernel
theorem t_45_18 : tb_in 45 18 = some (.aload_n 0, 0, 0, 0, []) := by decide +kernel
theorem t_45_19 : tb_in 45 19 = some (.getfield 84, 7, 0, 0, []) := by decide +kernel
theorem t_45_22 : tb_in 45 22 = some (.ifCond .le 5, 27, 0, 0, []) := by decide +kernel
theorem t_45_25 : tb_in 45 25 = some (.iconst 0, 0, 0, 0, []) := by decide +kernel
theorem t_45_26 : tb_in 45 26 = some (.ireturn, 0, 0, 0, []) := by decide +kernel
theorem t_45_27 : tb_in 45 27 = some (.iconst 1, 0, 0, 1, []) := by decide +kernel
theorem t_45_28 : tb_in 45 28 = some (.istore_n 2, 0, 0, 0, []) := by decide +kernel
theorem t_45_29 : tb_in 45 29 = some (.iconst 0, 0, 0, 0, []) := by decide +kernel
theorem t_45_30 : tb_in 45 30 = some (.istore_n 3, 0, 0, 0, []) := by decide +kernel
theorem t_45_31 : tb_in 45 31 = some (.iload_n 3, 0, 0, 0, []) := by decide +kernel
theorem t_45_32 : tb_in 45 32 = some (.aload_n 0, 0, 0, 0, []) := by decide +kernel
theorem t_45_33 : tb_in 45 33 = some (.getfield 89, 7, 2, 0, []) := by decide +kernel
theorem t_45_36 : tb_in 45 36 = some (.if_icmp .ge 41, 77, 0, 0, []) := by decide +kernel
theorem t_45_39 : tb_in 45 39 = some (.iload_n 2, 0, 0, 0, []) := by decide +kernel
theorem t_45_40 : tb_in 45 40 = some (.ifCond .eq 15, 55, 0, 0, []) := by decide +kernel
theorem t_45_43 : tb_in 45 43 = some (.aload_n 0, 0, 0, 0, []) := by decide +kernel
theorem t_45_44 : tb_in 45 44 = some (.getfield 7, 7, 1, 0, []) := by decide +kernel
theorem t_45_47 : tb_in 45 47 = some (.iload_n 3, 0, 0, 0, []) := by decide +kernel
theorem t_45_48 : tb_in 45 48 = some (.iaload, 0, 0, 0, []) := by decide +kernel
theorem t_45_49 : tb_in 45 49 = some (.invokestatic 92, 43, 1, 0, []) := by decide +kernel
theorem t_45_52 : tb_in 45 52 = some (.ifCond .ge 5, 57, 0, 0, []) := by decide +kernel
theorem t_45_55 : tb_in 45 55 = some (.iload_n 3, 0, 0, 0, []) := by decide +kernel
theorem t_45_56 : tb_in 45 56 = some (.ireturn, 0, 0, 0, []) := by decide +kernel
theorem t_45_57 : tb_in 45 57 = some (.iload_n 2, 0, 0, 0, []) := by decide +kernel
theorem t_45_58 : tb_in 45 58 = some (.aload_n 0, 0, 0, 0, []) := by decide +kernel
theorem t_45_59 : tb_in 45 59 = some (.getfield 7, 7, 1, 0, []) := by decide +kernel
theorem t_45_62 : tb_in 45 62 = some (.iload_n 3, 0, 0, 0, []) := by decide +kernel
theorem t_45_63 : tb_in 45 63 = some (.iaload, 0, 0, 0, []) := by decide +kernel
theorem t_45_64 : tb_in 45 64 = some (.invokestatic 92, 43, 1, 0, []) := by decide +kernel
theorem t_45_67 : tb_in 45 67 = some (.iadd, 0, 0, 0, []) := by decide +kernel
theorem t_45_68 : tb_in 45 68 = some (.iconst 1, 0, 0, 1, []) := by decide +kernel
theorem t_45_69 : tb_in 45 69 = some (.isub, 0, 0, 0, []) := by decide +kernel
theorem t_45_70 : tb_in 45 70 = some (.istore_n 2, 0, 0, 0, []) := by decide +kernel
theorem t_45_71 : tb_in 45 71 = some (.iinc 3 1, 0, 0, 1, []) := by decide +kernel
theorem t_45_74 : tb_in 45 74 = some (.goto (-43), 31, 0, 0, []) := by decide +kernel
theorem t_45_77 : tb_in 45 77 = some (.iload_n 2, 0, 0, 0, []) := by decide +kernel
theorem t_45_78 : tb_in 45 78 = some (.ifCond .le 8, 86, 0, 0, []) := by decide +kernel
theorem t_45_81 : tb_in 45 81 = some (.aload_n 0, 0, 0, 0, []) := by decide +kernel
theorem t_45_82 : tb_in 45 82 = some (.getfield 89, 7, 2, 0, []) := by decide +kernel
theorem t_45_85 : tb_in 45 85 = some (.ireturn, 0, 0, 0, []) := by decide +kernel
theorem t_45_86 : tb_in 45 86 = some (.iconst 0, 0, 0, 0, []) := by decide +kernel
theorem t_45_87 : tb_in 45 87 = some (.istore_n 3, 0, 0, 0, []) := by decide +kernel
theorem t_45_88 : tb_in 45 88 = some (.iload_n 3, 0, 0, 0, []) := by decide +kernel
theorem t_45_89 : tb_in 45 89 = some (.aload_n 0, 0, 0, 0, []) := by decide +kernel
theorem t_45_90 : tb_in 45 90 = some (.getfield 89, 7, 2, 0, []) := by decide +kernel
theorem t_45_93 : tb_in 45 93 = some (.if_icmp .ge 26, 119, 0, 0, []) := by decide +kernel
theorem t_45_96 : tb_in 45 96 = some (.aload_n 0, 0, 0, 0, []) := by decide +kernel
theorem t_45_97 : tb_in 45 97 = some (.getfield 13, 7, 3, 0, []) := by decide +kernel
theorem t_45_100 : tb_in 45 100 = some (.bipush 24, 0, 0, 24, []) := by decide +kernel
theorem t_45_102 : tb_in 45 102 = some (.iload_n 1, 0, 0, 0, []) := by decide +kernel
theorem t_45_103 : tb_in 45 103 = some (.imul, 0, 0, 0, []) := by decide +kernel
theorem t_45_104 : tb_in 45 104 = some (.iload_n 3, 0, 0, 0, []) := by decide +kernel
theorem t_45_105 : tb_in 45 105 = some (.iadd, 0, 0, 0, []) := by decide +kernel
theorem t_45_106 : tb_in 45 106 = some (.aload_n 0, 0, 0, 0, []) := by decide +kernel
theorem t_45_107 : tb_in 45 107 = some (.getfield 7, 7, 1, 0, []) := by decide +kernel
theorem t_45_110 : tb_in 45 110 = some (.iload_n 3, 0, 0, 0, []) := by decide +kernel
theorem t_45_111 : tb_in 45 111 = some (.iaload, 0, 0, 0, []) := by decide +kernel
theorem t_45_112 : tb_in 45 112 = some (.iastore, 0, 0, 0, []) := by decide +kernel
theorem t_45_113 : tb_in 45 113 = some (.iinc 3 1, 0, 0, 1, []) := by decide +kernel
theorem t_45_116 : tb_in 45 116 = some (.goto (-28), 88, 0, 0, []) := by decide +kernel
theorem t_45_119 : tb_in 45 119 = some (.aload_n 0, 0, 0, 0, []) := by decide +kernel
theorem t_45_120 : tb_in 45 120 = some (.getfield 16, 7, 4, 0, []) := by decide +kernel
theorem t_45_123 : tb_in 45 123 = some (.iload_n 1, 0, 0, 0, []) := by decide +kernel
theorem t_45_124 : tb_in 45 124 = some (.aload_n 0, 0, 0, 0, []) := by decide +kernel
theorem t_45_125 : tb_in 45 125 = some (.getfield 89, 7, 2, 0, []) := by decide +kernel
theorem t_45_128 : tb_in 45 128 = some (.iastore, 0, 0, 0, []) := by decide +kernel
theorem t_45_129 : tb_in 45 129 = some (.aload_n 0, 0, 0, 0, []) := by decide +kernel
theorem t_45_130 : tb_in 45 130 = some (.iconst 0, 0, 0, 0, []) := by decide +kernel
theorem t_45_131 : tb_in 45 131 = some (.putfield 89, 7, 2, 0, []) := by decide +kernel
theorem t_45_134 : tb_in 45 134 = some (.aload_n 0, 0, 0, 0, []) := by decide +kernel
theorem t_45_135 : tb_in 45 135 = some (.invokevirtual 96, 44, 1, 0, []) := by decide +kernel
theorem t_45_138 : tb_in 45 138 = some (.iconst (-1), 0, 0, (-1), []) := by decide +kernel
theorem t_45_139 : tb_in 45 139 = some (.ireturn, 0, 0, 0, []) := by decide +kernel
theorem t_46_0 : tb_in 46 0 = some (.aload_n 0, 0, 0, 0, []) := by decide +kernel
theorem t_46_1 : tb_in 46 1 = some (.dup, 0, 0, 0, []) := by decide +kernel
theorem t_46_2 : tb_in 46 2 = some (.getfield 99, 7, 5, 0, []) := by decide +kernel
theorem t_46_5 : tb_in 46 5 = some (.iconst 1, 0, 0, 1, []) := by decide +kernel
theorem t_46_6 : tb_in 46 6 = some (.iadd, 0, 0, 0, []) := by decide +kernel
theorem t_46_7 : tb_in 46 7 = some (.putfield 99, 7, 5, 0, []) := by decide +kernel
theorem t_46_10 : tb_in 46 10 = some (.aload_n 0, 0, 0, 0, []) := by decide +kernel
theorem t_46_11 : tb_in 46 11 = some (.getfield 31, 7, 10, 0, []) := by decide +kernel
theorem t_46_14 : tb_in 46 14 = some (.iload_n 1, 0, 0, 0, []) := by decide +kernel
theorem t_46_15 : tb_in 46 15 = some (.aload_n 0, 0, 0, 0, []) := by decide +kernel
theorem t_46_16 : tb_in 46 16 = some (.getfield 99, 7, 5, 0, []) := by decide +kernel
theorem t_46_19 : tb_in 46 19 = some (.iastore, 0, 0, 0, []) := by decide +kernel
theorem t_46_20 : tb_in 46 20 = some (.iconst 0, 0, 0, 0, []) := by decide +kernel
theorem t_46_21 : tb_in 46 21 = some (.istore_n 2, 0, 0, 0, []) := by decide +kernel
theorem t_46_22 : tb_in 46 22 = some (.iload_n 2, 0, 0, 0, []) := by decide +kernel
theorem t_46_23 : tb_in 46 23 = some (.bipush 96, 0, 0, 96, []) := by decide +kernel
theorem t_46_25 : tb_in 46 25 = some (.if_icmp .ge 38, 63, 0, 0, []) := by decide +kernel
theorem t_46_28 : tb_in 46 28 = some (.aload_n 0, 0, 0, 0, []) := by decide +kernel
theorem t_46_29 : tb_in 46 29 = some (.getfield 34, 7, 11, 0, []) := by decide +kernel
theorem t_46_32 : tb_in 46 32 = some (.iload_n 2, 0, 0, 0, []) := by decide +kernel
theorem t_46_33 : tb_in 46 33 = some (.aload_n 0, 0, 0, 0, []) := by decide +kernel
theorem t_46_34 : tb_in 46 34 = some (.getfield 34, 7, 11, 0, []) := by decide +kernel
theorem t_46_37 : tb_in 46 37 = some (.iload_n 2, 0, 0, 0, []) := by decide +kernel
theorem t_46_38 : tb_in 46 38 = some (.baload, 0, 0, 0, []) := by decide +kernel
theorem t_46_39 : tb_in 46 39 = some (.ifCond .eq 16, 55, 0, 0, []) := by decide +kernel
theorem t_46_42 : tb_in 46 42 = some (.aload_n 0, 0, 0, 0, []) := by decide +kernel
theorem t_46_43 : tb_in 46 43 = some (.getfield 50, 7, 16, 0, []) := by decide +kernel
theorem t_46_46 : tb_in 46 46 = some (.iload_n 2, 0, 0, 0, []) := by decide +kernel
theorem t_46_47 : tb_in 46 47 = some (.baload, 0, 0, 0, []) := by decide +kernel
theorem t_46_48 : tb_in 46 48 = some (.ifCond .ne 7, 55, 0, 0, []) := by decide +kernel
theorem t_46_51 : tb_in 46 51 = some (.iconst 1, 0, 0, 1, []) := by decide +kernel
theorem t_46_52 : tb_in 46 52 = some (.goto 4, 56, 0, 0, []) := by decide +kernel
theorem t_46_55 : tb_in 46 55 = some (.iconst 0, 0, 0, 0, []) := by decide +kernel
theorem t_46_56 : tb_in 46 56 = some (.bastore, 0, 0, 0, []) := by decide +kernel
theorem t_46_57 : tb_in 46 57 = some (.iinc 2 1, 0, 0, 1, []) := by decide +kernel
theorem t_46_60 : tb_in 46 60 = some (.goto (-38), 22, 0, 0, []) := by decide +kernel
theorem t_46_63 : tb_in 46 63 = some (.return_, 0, 0, 0, []) := by decide +kernel
theorem t_47_0 : tb_in 47 0 = some (.iload_n 0, 0, 0, 0, []) := by decide +kernel
theorem t_47_1 : tb_in 47 1 = some (.ifCond .lt 9, 10, 0, 0, []) := by decide +kernel
theorem t_47_4 : tb_in 47 4 = some (.iload_n 0, 0, 0, 0, []) := by decide +kernel
theorem t_47_5 : tb_in 47 5 = some (.bipush 15, 0, 0, 15, []) := by decide +kernel
theorem t_47_7 : tb_in 47 7 = some (.if_icmp .le 7, 14, 0, 0, []) := by decide +kernel
theorem t_47_10 : tb_in 47 10 = some (.iconst 1, 0, 0, 1, []) := by decide +kernel
theorem t_47_11 : tb_in 47 11 = some (.goto 4, 15, 0, 0, []) := by decide +kernel
theorem t_47_14 : tb_in 47 14 = some (.iconst 0, 0, 0, 0, []) := by decide +kernel
theorem t_47_15 : tb_in 47 15 = some (.ireturn, 0, 0, 0, []) := by decide +kernel
theorem t_48_0 : tb_in 48 0 = some (.aload_n 0, 0, 0, 0, []) := by decide +kernel
theorem t_48_1 : tb_in 48 1 = some (.iload_n 1, 0, 0, 0, []) := by decide +kernel
theorem t_48_2 : tb_in 48 2 = some (.ifCond .lt 15, 17, 0, 0, []) := by decide +kernel
theorem t_48_5 : tb_in 48 5 = some (.iload_n 1, 0, 0, 0, []) := by decide +kernel
theorem t_48_6 : tb_in 48 6 = some (.iconst 2, 0, 0, 2, []) := by decide +kernel
theorem t_48_7 : tb_in 48 7 = some (.if_icmp .gt 10, 17, 0, 0, []) := by decide +kernel
theorem t_48_10 : tb_in 48 10 = some (.iload_n 2, 0, 0, 0, []) := by decide +kernel
theorem t_48_11 : tb_in 48 11 = some (.invokestatic 102, 47, 1, 0, []) := by decide +kernel
theorem t_48_14 : tb_in 48 14 = some (.ifCond .eq 7, 21, 0, 0, []) := by decide +kernel
theorem t_48_17 : tb_in 48 17 = some (.iconst 1, 0, 0, 1, []) := by decide +kernel
theorem t_48_18 : tb_in 48 18 = some (.goto 4, 22, 0, 0, []) := by decide +kernel
theorem t_48_21 : tb_in 48 21 = some (.iconst 0, 0, 0, 0, []) := by decide +kernel
theorem t_48_22 : tb_in 48 22 = some (.putfield 84, 7, 0, 0, []) := by decide +kernel
theorem t_48_25 : tb_in 48 25 = some (.aload_n 0, 0, 0, 0, []) := by decide +kernel
theorem t_48_26 : tb_in 48 26 = some (.getfield 84, 7, 0, 0, []) := by decide +kernel
theorem t_48_29 : tb_in 48 29 = some (.ifCond .gt 18, 47, 0, 0, []) := by decide +kernel
theorem t_48_32 : tb_in 48 32 = some (.aload_n 0, 0, 0, 0, []) := by decide +kernel
theorem t_48_33 : tb_in 48 33 = some (.getfield 19, 7, 6, 0, []) := by decide +kernel
theorem t_48_36 : tb_in 48 36 = some (.bipush 16, 0, 0, 16, []) := by decide +kernel
theorem t_48_38 : tb_in 48 38 = some (.iload_n 1, 0, 0, 0, []) := by decide +kernel
theorem t_48_39 : tb_in 48 39 = some (.imul, 0, 0, 0, []) := by decide +kernel
theorem t_48_40 : tb_in 48 40 = some (.iload_n 2, 0, 0, 0, []) := by decide +kernel
theorem t_48_41 : tb_in 48 41 = some (.iadd, 0, 0, 0, []) := by decide +kernel
theorem t_48_42 : tb_in 48 42 = some (.iaload, 0, 0, 0, []) := by decide +kernel
theorem t_48_43 : tb_in 48 43 = some (.iload_n 3, 0, 0, 0, []) := by decide +kernel
theorem t_48_44 : tb_in 48 44 = some (.if_icmp .ne 5, 49, 0, 0, []) := by decide +kernel
theorem t_48_47 : tb_in 48 47 = some (.iconst 0, 0, 0, 0, []) := by decide +kernel
theorem t_48_48 : tb_in 48 48 = some (.ireturn, 0, 0, 0, []) := by decide +kernel
theorem t_48_49 : tb_in 48 49 = some (.aload_n 0, 0, 0, 0, []) := by decide +kernel
theorem t_48_50 : tb_in 48 50 = some (.aload_n 0, 0, 0, 0, []) := by decide +kernel
theorem t_48_51 : tb_in 48 51 = some (.getfield 25, 7, 8, 0, []) := by decide +kernel
theorem t_48_54 : tb_in 48 54 = some (.iload_n 1, 0, 0, 0, []) := by decide +kernel
theorem t_48_55 : tb_in 48 55 = some (.iaload, 0, 0, 0, []) := by decide +kernel
theorem t_48_56 : tb_in 48 56 = some (.invokevirtual 106, 46, 2, 0, []) := by decide +kernel
theorem t_48_59 : tb_in 48 59 = some (.aload_n 0, 0, 0, 0, []) := by decide +kernel
theorem t_48_60 : tb_in 48 60 = some (.getfield 19, 7, 6, 0, []) := by decide +kernel
theorem t_48_63 : tb_in 48 63 = some (.bipush 16, 0, 0, 16, []) := by decide +kernel
theorem t_48_65 : tb_in 48 65 = some (.iload_n 1, 0, 0, 0, []) := by decide +kernel
theorem t_48_66 : tb_in 48 66 = some (.imul, 0, 0, 0, []) := by decide +kernel
theorem t_48_67 : tb_in 48 67 = some (.iload_n 2, 0, 0, 0, []) := by decide +kernel
theorem t_48_68 : tb_in 48 68 = some (.iadd, 0, 0, 0, []) := by decide +kernel
theorem t_48_69 : tb_in 48 69 = some (.iload_n 3, 0, 0, 0, []) := by decide +kernel
theorem t_48_70 : tb_in 48 70 = some (.iastore, 0, 0, 0, []) := by decide +kernel
theorem t_48_71 : tb_in 48 71 = some (.aload_n 0, 0, 0, 0, []) := by decide +kernel
theorem t_48_72 : tb_in 48 72 = some (.getfield 22, 7, 7, 0, []) := by decide +kernel
theorem t_48_75 : tb_in 48 75 = some (.bipush 16, 0, 0, 16, []) := by decide +kernel
theorem t_48_77 : tb_in 48 77 = some (.iload_n 1, 0, 0, 0, []) := by decide +kernel
theorem t_48_78 : tb_in 48 78 = some (.imul, 0, 0, 0, []) := by decide +kernel
theorem t_48_79 : tb_in 48 79 = some (.iload_n 2, 0, 0, 0, []) := by decide +kernel
theorem t_48_80 : tb_in 48 80 = some (.iadd, 0, 0, 0, []) := by decide +kernel
theorem t_48_81 : tb_in 48 81 = some (.aload_n 0, 0, 0, 0, []) := by decide +kernel
theorem t_48_82 : tb_in 48 82 = some (.getfield 99, 7, 5, 0, []) := by decide +kernel
theorem t_48_85 : tb_in 48 85 = some (.iastore, 0, 0, 0, []) := by decide +kernel
theorem t_48_86 : tb_in 48 86 = some (.iconst 1, 0, 0, 1, []) := by decide +kernel
theorem t_48_87 : tb_in 48 87 = some (.ireturn, 0, 0, 0, []) := by decide +kernel
theorem t_49_0 : tb_in 49 0 = some (.aload_n 0, 0, 0, 0, []) := by decide +kernel
theorem t_49_1 : tb_in 49 1 = some (.iload_n 1, 0, 0, 0, []) := by decide +kernel
theorem t_49_2 : tb_in 49 2 = some (.ifCond .lt 8, 10, 0, 0, []) := by decide +kernel
theorem t_49_5 : tb_in 49 5 = some (.iload_n 1, 0, 0, 0, []) := by decide +kernel
theorem t_49_6 : tb_in 49 6 = some (.iconst 5, 0, 0, 5, []) := by decide +kernel
theorem t_49_7 : tb_in 49 7 = some (.if_icmp .le 7, 14, 0, 0, []) := by decide +kernel
theorem t_49_10 : tb_in 49 10 = some (.iconst 1, 0, 0, 1, []) := by decide +kernel
theorem t_49_11 : tb_in 49 11 = some (.goto 4, 15, 0, 0, []) := by decide +kernel
theorem t_49_14 : tb_in 49 14 = some (.iconst 0, 0, 0, 0, []) := by decide +kernel
theorem t_49_15 : tb_in 49 15 = some (.putfield 84, 7, 0, 0, []) := by decide +kernel
theorem t_49_18 : tb_in 49 18 = some (.aload_n 0, 0, 0, 0, []) := by decide +kernel
theorem t_49_19 : tb_in 49 19 = some (.getfield 84, 7, 0, 0, []) := by decide +kernel
theorem t_49_22 : tb_in 49 22 = some (.ifCond .gt 13, 35, 0, 0, []) := by decide +kernel
theorem t_49_25 : tb_in 49 25 = some (.aload_n 0, 0, 0, 0, []) := by decide +kernel
theorem t_49_26 : tb_in 49 26 = some (.getfield 28, 7, 9, 0, []) := by decide +kernel
theorem t_49_29 : tb_in 49 29 = some (.iload_n 1, 0, 0, 0, []) := by decide +kernel
theorem t_49_30 : tb_in 49 30 = some (.iaload, 0, 0, 0, []) := by decide +kernel
theorem t_49_31 : tb_in 49 31 = some (.iload_n 2, 0, 0, 0, []) := by decide +kernel
theorem t_49_32 : tb_in 49 32 = some (.if_icmp .ne 5, 37, 0, 0, []) := by decide +kernel
theorem t_49_35 : tb_in 49 35 = some (.iconst 0, 0, 0, 0, []) := by decide +kernel
theorem t_49_36 : tb_in 49 36 = some (.ireturn, 0, 0, 0, []) := by decide +kernel
theorem t_49_37 : tb_in 49 37 = some (.aload_n 0, 0, 0, 0, []) := by decide +kernel
theorem t_49_38 : tb_in 49 38 = some (.iconst 0, 0, 0, 0, []) := by decide +kernel
theorem t_49_39 : tb_in 49 39 = some (.invokevirtual 106, 46, 2, 0, []) := by decide +kernel
theorem t_49_42 : tb_in 49 42 = some (.aload_n 0, 0, 0, 0, []) := by decide +kernel
theorem t_49_43 : tb_in 49 43 = some (.getfield 28, 7, 9, 0, []) := by decide +kernel
theorem t_49_46 : tb_in 49 46 = some (.iload_n 1, 0, 0, 0, []) := by decide +kernel
theorem t_49_47 : tb_in 49 47 = some (.iload_n 2, 0, 0, 0, []) := by decide +kernel
theorem t_49_48 : tb_in 49 48 = some (.iastore, 0, 0, 0, []) := by decide +kernel
theorem t_49_49 : tb_in 49 49 = some (.iconst 1, 0, 0, 1, []) := by decide +kernel
theorem t_49_50 : tb_in 49 50 = some (.ireturn, 0, 0, 0, []) := by decide +kernel
theorem t_50_0 : tb_in 50 0 = some (.aload_n 0, 0, 0, 0, []) := by decide +kernel
theorem t_50_1 : tb_in 50 1 = some (.iload_n 1, 0, 0, 0, []) := by decide +kernel
theorem t_50_2 : tb_in 50 2 = some (.ifCond .lt 17, 19, 0, 0, []) := by decide +kernel
theorem t_50_5 : tb_in 50 5 = some (.iload_n 1, 0, 0, 0, []) := by decide +kernel
theorem t_50_6 : tb_in 50 6 = some (.iconst 2, 0, 0, 2, []) := by decide +kernel
theorem t_50_7 : tb_in 50 7 = some (.if_icmp .gt 12, 19, 0, 0, []) := by decide +kernel
theorem t_50_10 : tb_in 50 10 = some (.iload_n 2, 0, 0, 0, []) := by decide +kernel
theorem t_50_11 : tb_in 50 11 = some (.ifCond .lt 8, 19, 0, 0, []) := by decide +kernel
theorem t_50_14 : tb_in 50 14 = some (.iload_n 2, 0, 0, 0, []) := by decide +kernel
theorem t_50_15 : tb_in 50 15 = some (.iconst 2, 0, 0, 2, []) := by decide +kernel
theorem t_50_16 : tb_in 50 16 = some (.if_icmp .le 7, 23, 0, 0, []) := by decide +kernel
theorem t_50_19 : tb_in 50 19 = some (.iconst 1, 0, 0, 1, []) := by decide +kernel
theorem t_50_20 : tb_in 50 20 = some (.goto 4, 24, 0, 0, []) := by decide +kernel
theorem t_50_23 : tb_in 50 23 = some (.iconst 0, 0, 0, 0, []) := by decide +kernel
theorem t_50_24 : tb_in 50 24 = some (.putfield 84, 7, 0, 0, []) := by decide +kernel
theorem t_50_27 : tb_in 50 27 = some (.aload_n 0, 0, 0, 0, []) := by decide +kernel
theorem t_50_28 : tb_in 50 28 = some (.getfield 84, 7, 0, 0, []) := by decide +kernel
theorem t_50_31 : tb_in 50 31 = some (.ifCond .ne 14, 45, 0, 0, []) := by decide +kernel
theorem t_50_34 : tb_in 50 34 = some (.aload_n 0, 0, 0, 0, []) := by decide +kernel
theorem t_50_35 : tb_in 50 35 = some (.getfield 25, 7, 8, 0, []) := by decide +kernel
theorem t_50_38 : tb_in 50 38 = some (.iload_n 1, 0, 0, 0, []) := by decide +kernel
theorem t_50_39 : tb_in 50 39 = some (.iload_n 2, 0, 0, 0, []) := by decide +kernel
theorem t_50_40 : tb_in 50 40 = some (.iastore, 0, 0, 0, []) := by decide +kernel
theorem t_50_41 : tb_in 50 41 = some (.aload_n 0, 0, 0, 0, []) := by decide +kernel
theorem t_50_42 : tb_in 50 42 = some (.invokevirtual 96, 44, 1, 0, []) := by decide +kernel
theorem t_50_45 : tb_in 50 45 = some (.return_, 0, 0, 0, []) := by decide +kernel
theorem t_51_0 : tb_in 51 0 = some (.aload_n 0, 0, 0, 0, []) := by decide +kernel
theorem t_51_1 : tb_in 51 1 = some (.dup, 0, 0, 0, []) := by decide +kernel
theorem t_51_2 : tb_in 51 2 = some (.getfield 110, 7, 20, 0, []) := by decide +kernel
theorem t_51_5 : tb_in 51 5 = some (.iconst 1, 0, 0, 1, []) := by decide +kernel
theorem t_51_6 : tb_in 51 6 = some (.iadd, 0, 0, 0, []) := by decide +kernel
theorem t_51_7 : tb_in 51 7 = some (.putfield 110, 7, 20, 0, []) := by decide +kernel
theorem t_51_10 : tb_in 51 10 = some (.aload_n 0, 0, 0, 0, []) := by decide +kernel
theorem t_51_11 : tb_in 51 11 = some (.getfield 59, 7, 19, 0, []) := by decide +kernel
theorem t_51_14 : tb_in 51 14 = some (.iload_n 1, 0, 0, 0, []) := by decide +kernel
theorem t_51_15 : tb_in 51 15 = some (.aload_n 0, 0, 0, 0, []) := by decide +kernel
theorem t_51_16 : tb_in 51 16 = some (.getfield 110, 7, 20, 0, []) := by decide +kernel
theorem t_51_19 : tb_in 51 19 = some (.iastore, 0, 0, 0, []) := by decide +kernel
theorem t_51_20 : tb_in 51 20 = some (.return_, 0, 0, 0, []) := by decide +kernel
theorem t_52_0 : tb_in 52 0 = some (.iconst 0, 0, 0, 0, []) := by decide +kernel
theorem t_52_1 : tb_in 52 1 = some (.istore_n 2, 0, 0, 0, []) := by decide +kernel
theorem t_52_2 : tb_in 52 2 = some (.iconst 0, 0, 0, 0, []) := by decide +kernel
theorem t_52_3 : tb_in 52 3 = some (.istore_n 3, 0, 0, 0, []) := by decide +kernel
theorem t_52_4 : tb_in 52 4 = some (.iload_n 3, 0, 0, 0, []) := by decide +kernel
theorem t_52_5 : tb_in 52 5 = some (.aload_n 0, 0, 0, 0, []) := by decide +kernel
theorem t_52_6 : tb_in 52 6 = some (.getfield 113, 7, 26, 0, []) := by decide +kernel
theorem t_52_9 : tb_in 52 9 = some (.if_icmp .ge 29, 38, 0, 0, []) := by decide +kernel
theorem t_52_12 : tb_in 52 12 = some (.iload_n 2, 0, 0, 0, []) := by decide +kernel
theorem t_52_13 : tb_in 52 13 = some (.ifCond .ne 13, 26, 0, 0, []) := by decide +kernel
theorem t_52_16 : tb_in 52 16 = some (.aload_n 0, 0, 0, 0, []) := by decide +kernel
theorem t_52_17 : tb_in 52 17 = some (.getfield 66, 7, 27, 0, []) := by decide +kernel
theorem t_52_20 : tb_in 52 20 = some (.iload_n 3, 0, 0, 0, []) := by decide +kernel
theorem t_52_21 : tb_in 52 21 = some (.iaload, 0, 0, 0, []) := by decide +kernel
theorem t_52_22 : tb_in 52 22 = some (.iload_n 1, 0, 0, 0, []) := by decide +kernel
theorem t_52_23 : tb_in 52 23 = some (.if_icmp .ne 7, 30, 0, 0, []) := by decide +kernel
theorem t_52_26 : tb_in 52 26 = some (.iconst 1, 0, 0, 1, []) := by decide +kernel
theorem t_52_27 : tb_in 52 27 = some (.goto 4, 31, 0, 0, []) := by decide +kernel
theorem t_52_30 : tb_in 52 30 = some (.iconst 0, 0, 0, 0, []) := by decide +kernel
theorem t_52_31 : tb_in 52 31 = some (.istore_n 2, 0, 0, 0, []) := by decide +kernel
theorem t_52_32 : tb_in 52 32 = some (.iinc 3 1, 0, 0, 1, []) := by decide +kernel
theorem t_52_35 : tb_in 52 35 = some (.goto (-31), 4, 0, 0, []) := by decide +kernel
theorem t_52_38 : tb_in 52 38 = some (.iload_n 2, 0, 0, 0, []) := by decide +kernel
theorem t_52_39 : tb_in 52 39 = some (.ireturn, 0, 0, 0, []) := by decide +kernel
theorem t_53_0 : tb_in 53 0 = some (.iconst 1, 0, 0, 1, []) := by decide +kernel
theorem t_53_1 : tb_in 53 1 = some (.istore_n 2, 0, 0, 0, []) := by decide +kernel
theorem t_53_2 : tb_in 53 2 = some (.aload_n 0, 0, 0, 0, []) := by decide +kernel
theorem t_53_3 : tb_in 53 3 = some (.getfield 47, 7, 15, 0, []) := by decide +kernel
theorem t_53_6 : tb_in 53 6 = some (.iload_n 1, 0, 0, 0, []) := by decide +kernel
theorem t_53_7 : tb_in 53 7 = some (.iaload, 0, 0, 0, []) := by decide +kernel
theorem t_53_8 : tb_in 53 8 = some (.istore_n 3, 0, 0, 0, []) := by decide +kernel
theorem t_53_9 : tb_in 53 9 = some (.iload_n 3, 0, 0, 0, []) := by decide +kernel
theorem t_53_10 : tb_in 53 10 = some (.iconst 3, 0, 0, 3, []) := by decide +kernel
theorem t_53_11 : tb_in 53 11 = some (.if_icmp .ge 34, 45, 0, 0, []) := by decide +kernel
theorem t_53_14 : tb_in 53 14 = some (.iload_n 2, 0, 0, 0, []) := by decide +kernel
theorem t_53_15 : tb_in 53 15 = some (.ifCond .eq 22, 37, 0, 0, []) := by decide +kernel
theorem t_53_18 : tb_in 53 18 = some (.aload_n 0, 0, 0, 0, []) := by decide +kernel
theorem t_53_19 : tb_in 53 19 = some (.getfield 31, 7, 10, 0, []) := by decide +kernel
theorem t_53_22 : tb_in 53 22 = some (.iload_n 3, 0, 0, 0, []) := by decide +kernel
theorem t_53_23 : tb_in 53 23 = some (.iaload, 0, 0, 0, []) := by decide +kernel
theorem t_53_24 : tb_in 53 24 = some (.aload_n 0, 0, 0, 0, []) := by decide +kernel
theorem t_53_25 : tb_in 53 25 = some (.getfield 41, 7, 13, 0, []) := by decide +kernel
theorem t_53_28 : tb_in 53 28 = some (.iload_n 1, 0, 0, 0, []) := by decide +kernel
theorem t_53_29 : tb_in 53 29 = some (.iaload, 0, 0, 0, []) := by decide +kernel
theorem t_53_30 : tb_in 53 30 = some (.if_icmp .gt 7, 37, 0, 0, []) := by decide +kernel
theorem t_53_33 : tb_in 53 33 = some (.iconst 1, 0, 0, 1, []) := by decide +kernel
theorem t_53_34 : tb_in 53 34 = some (.goto 4, 38, 0, 0, []) := by decide +kernel
theorem t_53_37 : tb_in 53 37 = some (.iconst 0, 0, 0, 0, []) := by decide +kernel
theorem t_53_38 : tb_in 53 38 = some (.istore_n 2, 0, 0, 0, []) := by decide +kernel
theorem t_53_39 : tb_in 53 39 = some (.iinc 3 1, 0, 0, 1, []) := by decide +kernel
theorem t_53_42 : tb_in 53 42 = some (.goto (-33), 9, 0, 0, []) := by decide +kernel
theorem t_53_45 : tb_in 53 45 = some (.iload_n 2, 0, 0, 0, []) := by decide +kernel
theorem t_53_46 : tb_in 53 46 = some (.ireturn, 0, 0, 0, []) := by decide +kernel
theorem t_54_0 : tb_in 54 0 = some (.iconst 0, 0, 0, 0, []) := by decide +kernel
theorem t_54_1 : tb_in 54 1 = some (.istore_n 2, 0, 0, 0, []) := by decide +kernel
theorem t_54_2 : tb_in 54 2 = some (.iconst 0, 0, 0, 0, []) := by decide +kernel
theorem t_54_3 : tb_in 54 3 = some (.istore_n 3, 0, 0, 0, []) := by decide +kernel
theorem t_54_4 : tb_in 54 4 = some (.iload_n 3, 0, 0, 0, []) := by decide +kernel
theorem t_54_5 : tb_in 54 5 = some (.aload_n 0, 0, 0, 0, []) := by decide +kernel
theorem t_54_6 : tb_in 54 6 = some (.getfield 113, 7, 26, 0, []) := by decide +kernel
theorem t_54_9 : tb_in 54 9 = some (.if_icmp .ge 124, 133, 0, 0, []) := by decide +kernel
theorem t_54_12 : tb_in 54 12 = some (.aload_n 0, 0, 0, 0, []) := by decide +kernel
theorem t_54_13 : tb_in 54 13 = some (.getfield 66, 7, 27, 0, []) := by decide +kernel
theorem t_54_16 : tb_in 54 16 = some (.iload_n 3, 0, 0, 0, []) := by decide +kernel
theorem t_54_17 : tb_in 54 17 = some (.iaload, 0, 0, 0, []) := by decide +kernel
theorem t_54_18 : tb_in 54 18 = some (.istore 4, 0, 0, 0, []) := by decide +kernel
theorem t_54_20 : tb_in 54 20 = some (.iload_n 2, 0, 0, 0, []) := by decide +kernel
theorem t_54_21 : tb_in 54 21 = some (.ifCond .ne 9, 30, 0, 0, []) := by decide +kernel
theorem t_54_24 : tb_in 54 24 = some (.iload 4, 0, 0, 0, []) := by decide +kernel
theorem t_54_26 : tb_in 54 26 = some (.iload_n 1, 0, 0, 0, []) := by decide +kernel
theorem t_54_27 : tb_in 54 27 = some (.if_icmp .ne 7, 34, 0, 0, []) := by decide +kernel
theorem t_54_30 : tb_in 54 30 = some (.iconst 1, 0, 0, 1, []) := by decide +kernel
theorem t_54_31 : tb_in 54 31 = some (.goto 4, 35, 0, 0, []) := by decide +kernel
theorem t_54_34 : tb_in 54 34 = some (.iconst 0, 0, 0, 0, []) := by decide +kernel
theorem t_54_35 : tb_in 54 35 = some (.istore_n 2, 0, 0, 0, []) := by decide +kernel
theorem t_54_36 : tb_in 54 36 = some (.iload_n 2, 0, 0, 0, []) := by decide +kernel
theorem t_54_37 : tb_in 54 37 = some (.ifCond .eq 90, 127, 0, 0, []) := by decide +kernel
theorem t_54_40 : tb_in 54 40 = some (.aload_n 0, 0, 0, 0, []) := by decide +kernel
theorem t_54_41 : tb_in 54 41 = some (.getfield 34, 7, 11, 0, []) := by decide +kernel
theorem t_54_44 : tb_in 54 44 = some (.iload 4, 0, 0, 0, []) := by decide +kernel
theorem t_54_46 : tb_in 54 46 = some (.iconst 1, 0, 0, 1, []) := by decide +kernel
theorem t_54_47 : tb_in 54 47 = some (.bastore, 0, 0, 0, []) := by decide +kernel
theorem t_54_48 : tb_in 54 48 = some (.aload_n 0, 0, 0, 0, []) := by decide +kernel
theorem t_54_49 : tb_in 54 49 = some (.getfield 38, 7, 12, 0, []) := by decide +kernel
theorem t_54_52 : tb_in 54 52 = some (.iload 4, 0, 0, 0, []) := by decide +kernel
theorem t_54_54 : tb_in 54 54 = some (.aload_n 0, 0, 0, 0, []) := by decide +kernel
theorem t_54_55 : tb_in 54 55 = some (.getfield 28, 7, 9, 0, []) := by decide +kernel
theorem t_54_58 : tb_in 54 58 = some (.iload 4, 0, 0, 0, []) := by decide +kernel
theorem t_54_60 : tb_in 54 60 = some (.bipush 16, 0, 0, 16, []) := by decide +kernel
theorem t_54_62 : tb_in 54 62 = some (.idiv, 0, 0, 0, []) := by decide +kernel
theorem t_54_63 : tb_in 54 63 = some (.iaload, 0, 0, 0, []) := by decide +kernel
theorem t_54_64 : tb_in 54 64 = some (.iastore, 0, 0, 0, []) := by decide +kernel
theorem t_54_65 : tb_in 54 65 = some (.aload_n 0, 0, 0, 0, []) := by decide +kernel
theorem t_54_66 : tb_in 54 66 = some (.getfield 41, 7, 13, 0, []) := by decide +kernel
theorem t_54_69 : tb_in 54 69 = some (.iload 4, 0, 0, 0, []) := by decide +kernel
theorem t_54_71 : tb_in 54 71 = some (.aload_n 0, 0, 0, 0, []) := by decide +kernel
theorem t_54_72 : tb_in 54 72 = some (.getfield 99, 7, 5, 0, []) := by decide +kernel
theorem t_54_75 : tb_in 54 75 = some (.iastore, 0, 0, 0, []) := by decide +kernel
theorem t_54_76 : tb_in 54 76 = some (.aload_n 0, 0, 0, 0, []) := by decide +kernel
theorem t_54_77 : tb_in 54 77 = some (.getfield 44, 7, 14, 0, []) := by decide +kernel
theorem t_54_80 : tb_in 54 80 = some (.iload 4, 0, 0, 0, []) := by decide +kernel
theorem t_54_82 : tb_in 54 82 = some (.aload_n 0, 0, 0, 0, []) := by decide +kernel
theorem t_54_83 : tb_in 54 83 = some (.getfield 99, 7, 5, 0, []) := by decide +kernel
theorem t_54_86 : tb_in 54 86 = some (.iastore, 0, 0, 0, []) := by decide +kernel
theorem t_54_87 : tb_in 54 87 = some (.aload_n 0, 0, 0, 0, []) := by decide +kernel
theorem t_54_88 : tb_in 54 88 = some (.getfield 47, 7, 15, 0, []) := by decide +kernel
theorem t_54_91 : tb_in 54 91 = some (.iload 4, 0, 0, 0, []) := by decide +kernel
theorem t_54_93 : tb_in 54 93 = some (.iconst 0, 0, 0, 0, []) := by decide +kernel
theorem t_54_94 : tb_in 54 94 = some (.iastore, 0, 0, 0, []) := by decide +kernel
theorem t_54_95 : tb_in 54 95 = some (.aload_n 0, 0, 0, 0, []) := by decide +kernel
theorem t_54_96 : tb_in 54 96 = some (.getfield 50, 7, 16, 0, []) := by decide +kernel
theorem t_54_99 : tb_in 54 99 = some (.iload 4, 0, 0, 0, []) := by decide +kernel
theorem t_54_101 : tb_in 54 101 = some (.iconst 1, 0, 0, 1, []) := by decide +kernel
theorem t_54_102 : tb_in 54 102 = some (.bastore, 0, 0, 0, []) := by decide +kernel
theorem t_54_103 : tb_in 54 103 = some (.aload_n 0, 0, 0, 0, []) := by decide +kernel
theorem t_54_104 : tb_in 54 104 = some (.getfield 56, 7, 18, 0, []) := by decide +kernel
theorem t_54_107 : tb_in 54 107 = some (.iload 4, 0, 0, 0, []) := by decide +kernel
theorem t_54_109 : tb_in 54 109 = some (.iconst 0, 0, 0, 0, []) := by decide +kernel
theorem t_54_110 : tb_in 54 110 = some (.iastore, 0, 0, 0, []) := by decide +kernel
theorem t_54_111 : tb_in 54 111 = some (.aload_n 0, 0, 0, 0, []) := by decide +kernel
theorem t_54_112 : tb_in 54 112 = some (.dup, 0, 0, 0, []) := by decide +kernel
theorem t_54_113 : tb_in 54 113 = some (.getfield 116, 7, 25, 0, []) := by decide +kernel
theorem t_54_116 : tb_in 54 116 = some (.iconst 1, 0, 0, 1, []) := by decide +kernel
theorem t_54_117 : tb_in 54 117 = some (.iadd, 0, 0, 0, []) := by decide +kernel
theorem t_54_118 : tb_in 54 118 = some (.putfield 116, 7, 25, 0, []) := by decide +kernel
theorem t_54_121 : tb_in 54 121 = some (.aload_n 0, 0, 0, 0, []) := by decide +kernel
theorem t_54_122 : tb_in 54 122 = some (.iload 4, 0, 0, 0, []) := by decide +kernel
theorem t_54_124 : tb_in 54 124 = some (.invokevirtual 119, 51, 2, 0, []) := by decide +kernel
theorem t_54_127 : tb_in 54 127 = some (.iinc 3 1, 0, 0, 1, []) := by decide +kernel
theorem t_54_130 : tb_in 54 130 = some (.goto (-126), 4, 0, 0, []) := by decide +kernel
theorem t_54_133 : tb_in 54 133 = some (.aload_n 0, 0, 0, 0, []) := by decide +kernel
theorem t_54_134 : tb_in 54 134 = some (.iconst 0, 0, 0, 0, []) := by decide +kernel
theorem t_54_135 : tb_in 54 135 = some (.putfield 113, 7, 26, 0, []) := by decide +kernel
theorem t_54_138 : tb_in 54 138 = some (.return_, 0, 0, 0, []) := by decide +kernel
theorem t_55_0 : tb_in 55 0 = some (.aload_n 0, 0, 0, 0, []) := by decide +kernel
theorem t_55_1 : tb_in 55 1 = some (.iload_n 1, 0, 0, 0, []) := by decide +kernel
theorem t_55_2 : tb_in 55 2 = some (.invokevirtual 122, 52, 2, 0, []) := by decide +kernel
theorem t_55_5 : tb_in 55 5 = some (.ifCond .eq 10, 15, 0, 0, []) := by decide +kernel
theorem t_55_8 : tb_in 55 8 = some (.aload_n 0, 0, 0, 0, []) := by decide +kernel
theorem t_55_9 : tb_in 55 9 = some (.iload_n 1, 0, 0, 0, []) := by decide +kernel
theorem t_55_10 : tb_in 55 10 = some (.invokevirtual 125, 54, 2, 0, []) := by decide +kernel
theorem t_55_13 : tb_in 55 13 = some (.iconst 0, 0, 0, 0, []) := by decide +kernel
theorem t_55_14 : tb_in 55 14 = some (.ireturn, 0, 0, 0, []) := by decide +kernel
theorem t_55_15 : tb_in 55 15 = some (.aload_n 0, 0, 0, 0, []) := by decide +kernel
theorem t_55_16 : tb_in 55 16 = some (.getfield 34, 7, 11, 0, []) := by decide +kernel
theorem t_55_19 : tb_in 55 19 = some (.iload_n 1, 0, 0, 0, []) := by decide +kernel
theorem t_55_20 : tb_in 55 20 = some (.baload, 0, 0, 0, []) := by decide +kernel
theorem t_55_21 : tb_in 55 21 = some (.ifCond .eq 18, 39, 0, 0, []) := by decide +kernel
theorem t_55_24 : tb_in 55 24 = some (.aload_n 0, 0, 0, 0, []) := by decide +kernel
theorem t_55_25 : tb_in 55 25 = some (.getfield 41, 7, 13, 0, []) := by decide +kernel
theorem t_55_28 : tb_in 55 28 = some (.iload_n 1, 0, 0, 0, []) := by decide +kernel
theorem t_55_29 : tb_in 55 29 = some (.iaload, 0, 0, 0, []) := by decide +kernel
theorem t_55_30 : tb_in 55 30 = some (.aload_n 0, 0, 0, 0, []) := by decide +kernel
theorem t_55_31 : tb_in 55 31 = some (.getfield 99, 7, 5, 0, []) := by decide +kernel
theorem t_55_34 : tb_in 55 34 = some (.if_icmp .ne 5, 39, 0, 0, []) := by decide +kernel
theorem t_55_37 : tb_in 55 37 = some (.iconst 1, 0, 0, 1, []) := by decide +kernel
theorem t_55_38 : tb_in 55 38 = some (.ireturn, 0, 0, 0, []) := by decide +kernel
theorem t_55_39 : tb_in 55 39 = some (.aload_n 0, 0, 0, 0, []) := by decide +kernel
theorem t_55_40 : tb_in 55 40 = some (.getfield 34, 7, 11, 0, []) := by decide +kernel
theorem t_55_43 : tb_in 55 43 = some (.iload_n 1, 0, 0, 0, []) := by decide +kernel
theorem t_55_44 : tb_in 55 44 = some (.baload, 0, 0, 0, []) := by decide +kernel
theorem t_55_45 : tb_in 55 45 = some (.ifCond .eq 38, 83, 0, 0, []) := by decide +kernel
theorem t_55_48 : tb_in 55 48 = some (.aload_n 0, 0, 0, 0, []) := by decide +kernel
theorem t_55_49 : tb_in 55 49 = some (.iload_n 1, 0, 0, 0, []) := by decide +kernel
theorem t_55_50 : tb_in 55 50 = some (.invokevirtual 128, 53, 2, 0, []) := by decide +kernel
theorem t_55_53 : tb_in 55 53 = some (.ifCond .eq 30, 83, 0, 0, []) := by decide +kernel
theorem t_55_56 : tb_in 55 56 = some (.aload_n 0, 0, 0, 0, []) := by decide +kernel
theorem t_55_57 : tb_in 55 57 = some (.getfield 41, 7, 13, 0, []) := by decide +kernel
theorem t_55_60 : tb_in 55 60 = some (.iload_n 1, 0, 0, 0, []) := by decide +kernel
theorem t_55_61 : tb_in 55 61 = some (.aload_n 0, 0, 0, 0, []) := by decide +kernel
theorem t_55_62 : tb_in 55 62 = some (.getfield 99, 7, 5, 0, []) := by decide +kernel
theorem t_55_65 : tb_in 55 65 = some (.iastore, 0, 0, 0, []) := by decide +kernel
theorem t_55_66 : tb_in 55 66 = some (.aload_n 0, 0, 0, 0, []) := by decide +kernel
theorem t_55_67 : tb_in 55 67 = some (.dup, 0, 0, 0, []) := by decide +kernel
theorem t_55_68 : tb_in 55 68 = some (.getfield 131, 7, 24, 0, []) := by decide +kernel
theorem t_55_71 : tb_in 55 71 = some (.iconst 1, 0, 0, 1, []) := by decide +kernel
theorem t_55_72 : tb_in 55 72 = some (.iadd, 0, 0, 0, []) := by decide +kernel
theorem t_55_73 : tb_in 55 73 = some (.putfield 131, 7, 24, 0, []) := by decide +kernel
theorem t_55_76 : tb_in 55 76 = some (.aload_n 0, 0, 0, 0, []) := by decide +kernel
theorem t_55_77 : tb_in 55 77 = some (.iload_n 1, 0, 0, 0, []) := by decide +kernel
theorem t_55_78 : tb_in 55 78 = some (.invokevirtual 119, 51, 2, 0, []) := by decide +kernel
theorem t_55_81 : tb_in 55 81 = some (.iconst 1, 0, 0, 1, []) := by decide +kernel
theorem t_55_82 : tb_in 55 82 = some (.ireturn, 0, 0, 0, []) := by decide +kernel
theorem t_55_83 : tb_in 55 83 = some (.aload_n 0, 0, 0, 0, []) := by decide +kernel
theorem t_55_84 : tb_in 55 84 = some (.getfield 113, 7, 26, 0, []) := by decide +kernel
theorem t_55_87 : tb_in 55 87 = some (.bipush 20, 0, 0, 20, []) := by decide +kernel
theorem t_55_89 : tb_in 55 89 = some (.if_icmp .ne 10, 99, 0, 0, []) := by decide +kernel
theorem t_55_92 : tb_in 55 92 = some (.aload_n 0, 0, 0, 0, []) := by decide +kernel
theorem t_55_93 : tb_in 55 93 = some (.iconst 1, 0, 0, 1, []) := by decide +kernel
theorem t_55_94 : tb_in 55 94 = some (.putfield 134, 7, 29, 0, []) := by decide +kernel
theorem t_55_97 : tb_in 55 97 = some (.iconst 0, 0, 0, 0, []) := by decide +kernel
theorem t_55_98 : tb_in 55 98 = some (.ireturn, 0, 0, 0, []) := by decide +kernel
theorem t_55_99 : tb_in 55 99 = some (.aload_n 0, 0, 0, 0, []) := by decide +kernel
theorem t_55_100 : tb_in 55 100 = some (.getfield 66, 7, 27, 0, []) := by decide +kernel
theorem t_55_103 : tb_in 55 103 = some (.aload_n 0, 0, 0, 0, []) := by decide +kernel
theorem t_55_104 : tb_in 55 104 = some (.getfield 113, 7, 26, 0, []) := by decide +kernel
theorem t_55_107 : tb_in 55 107 = some (.iload_n 1, 0, 0, 0, []) := by decide +kernel
theorem t_55_108 : tb_in 55 108 = some (.iastore, 0, 0, 0, []) := by decide +kernel
theorem t_55_109 : tb_in 55 109 = some (.aload_n 0, 0, 0, 0, []) := by decide +kernel
theorem t_55_110 : tb_in 55 110 = some (.getfield 69, 7, 28, 0, []) := by decide +kernel
theorem t_55_113 : tb_in 55 113 = some (.aload_n 0, 0, 0, 0, []) := by decide +kernel
theorem t_55_114 : tb_in 55 114 = some (.getfield 113, 7, 26, 0, []) := by decide +kernel
theorem t_55_117 : tb_in 55 117 = some (.aload_n 0, 0, 0, 0, []) := by decide +kernel
theorem t_55_118 : tb_in 55 118 = some (.getfield 34, 7, 11, 0, []) := by decide +kernel
theorem t_55_121 : tb_in 55 121 = some (.iload_n 1, 0, 0, 0, []) := by decide +kernel
theorem t_55_122 : tb_in 55 122 = some (.baload, 0, 0, 0, []) := by decide +kernel
theorem t_55_123 : tb_in 55 123 = some (.ifCond .ne 7, 130, 0, 0, []) := by decide +kernel
theorem t_55_126 : tb_in 55 126 = some (.iconst 1, 0, 0, 1, []) := by decide +kernel
theorem t_55_127 : tb_in 55 127 = some (.goto 4, 131, 0, 0, []) := by decide +kernel
theorem t_55_130 : tb_in 55 130 = some (.iconst 0, 0, 0, 0, []) := by decide +kernel
theorem t_55_131 : tb_in 55 131 = some (.bastore, 0, 0, 0, []) := by decide +kernel
theorem t_55_132 : tb_in 55 132 = some (.aload_n 0, 0, 0, 0, []) := by decide +kernel
theorem t_55_133 : tb_in 55 133 = some (.dup, 0, 0, 0, []) := by decide +kernel
theorem t_55_134 : tb_in 55 134 = some (.getfield 113, 7, 26, 0, []) := by decide +kernel
theorem t_55_137 : tb_in 55 137 = some (.iconst 1, 0, 0, 1, []) := by decide +kernel
theorem t_55_138 : tb_in 55 138 = some (.iadd, 0, 0, 0, []) := by decide +kernel
theorem t_55_139 : tb_in 55 139 = some (.putfield 113, 7, 26, 0, []) := by decide +kernel
theorem t_55_142 : tb_in 55 142 = some (.iconst 0, 0, 0, 0, []) := by decide +kernel
theorem t_55_143 : tb_in 55 143 = some (.ireturn, 0, 0, 0, []) := by decide +kernel
theorem t_56_0 : tb_in 56 0 = some (.iload_n 1, 0, 0, 0, []) := by decide +kernel
theorem t_56_1 : tb_in 56 1 = some (.bipush 100, 0, 0, 100, []) := by decide +kernel
theorem t_56_3 : tb_in 56 3 = some (.if_icmp .ge 15, 18, 0, 0, []) := by decide +kernel
theorem t_56_6 : tb_in 56 6 = some (.aload_n 0, 0, 0, 0, []) := by decide +kernel
theorem t_56_7 : tb_in 56 7 = some (.getfield 25, 7, 8, 0, []) := by decide +kernel
theorem t_56_10 : tb_in 56 10 = some (.iload_n 1, 0, 0, 0, []) := by decide +kernel
theorem t_56_11 : tb_in 56 11 = some (.bipush 16, 0, 0, 16, []) := by decide +kernel
theorem t_56_13 : tb_in 56 13 = some (.idiv, 0, 0, 0, []) := by decide +kernel
theorem t_56_14 : tb_in 56 14 = some (.iaload, 0, 0, 0, []) := by decide +kernel
theorem t_56_15 : tb_in 56 15 = some (.goto 12, 27, 0, 0, []) := by decide +kernel
theorem t_56_18 : tb_in 56 18 = some (.aload_n 0, 0, 0, 0, []) := by decide +kernel
theorem t_56_19 : tb_in 56 19 = some (.getfield 47, 7, 15, 0, []) := by decide +kernel
theorem t_56_22 : tb_in 56 22 = some (.iload_n 1, 0, 0, 0, []) := by decide +kernel
theorem t_56_23 : tb_in 56 23 = some (.bipush 100, 0, 0, 100, []) := by decide +kernel
theorem t_56_25 : tb_in 56 25 = some (.isub, 0, 0, 0, []) := by decide +kernel
theorem t_56_26 : tb_in 56 26 = some (.iaload, 0, 0, 0, []) := by decide +kernel
theorem t_56_27 : tb_in 56 27 = some (.ireturn, 0, 0, 0, []) := by decide +kernel
theorem t_57_0 : tb_in 57 0 = some (.aload_n 0, 0, 0, 0, []) := by decide +kernel
theorem t_57_1 : tb_in 57 1 = some (.getfield 113, 7, 26, 0, []) := by decide +kernel
theorem t_57_4 : tb_in 57 4 = some (.iconst 1, 0, 0, 1, []) := by decide +kernel
theorem t_57_5 : tb_in 57 5 = some (.isub, 0, 0, 0, []) := by decide +kernel
theorem t_57_6 : tb_in 57 6 = some (.istore_n 1, 0, 0, 0, []) := by decide +kernel
theorem t_57_7 : tb_in 57 7 = some (.aload_n 0, 0, 0, 0, []) := by decide +kernel
theorem t_57_8 : tb_in 57 8 = some (.getfield 66, 7, 27, 0, []) := by decide +kernel
theorem t_57_11 : tb_in 57 11 = some (.iload_n 1, 0, 0, 0, []) := by decide +kernel
theorem t_57_12 : tb_in 57 12 = some (.iaload, 0, 0, 0, []) := by decide +kernel
theorem t_57_13 : tb_in 57 13 = some (.istore_n 2, 0, 0, 0, []) := by decide +kernel
theorem t_57_14 : tb_in 57 14 = some (.iconst 2, 0, 0, 2, []) := by decide +kernel
theorem t_57_15 : tb_in 57 15 = some (.istore_n 3, 0, 0, 0, []) := by decide +kernel
theorem t_57_16 : tb_in 57 16 = some (.iconst 0, 0, 0, 0, []) := by decide +kernel
theorem t_57_17 : tb_in 57 17 = some (.istore 4, 0, 0, 0, []) := by decide +kernel
theorem t_57_19 : tb_in 57 19 = some (.iload 4, 0, 0, 0, []) := by decide +kernel
theorem t_57_21 : tb_in 57 21 = some (.aload_n 0, 0, 0, 0, []) := by decide +kernel
theorem t_57_22 : tb_in 57 22 = some (.getfield 56, 7, 18, 0, []) := by decide +kernel
theorem t_57_25 : tb_in 57 25 = some (.iload_n 2, 0, 0, 0, []) := by decide +kernel
theorem t_57_26 : tb_in 57 26 = some (.iaload, 0, 0, 0, []) := by decide +kernel
theorem t_57_27 : tb_in 57 27 = some (.if_icmp .ge 108, 135, 0, 0, []) := by decide +kernel
theorem t_57_30 : tb_in 57 30 = some (.aload_n 0, 0, 0, 0, []) := by decide +kernel
theorem t_57_31 : tb_in 57 31 = some (.getfield 53, 7, 17, 0, []) := by decide +kernel
theorem t_57_34 : tb_in 57 34 = some (.bipush 24, 0, 0, 24, []) := by decide +kernel
theorem t_57_36 : tb_in 57 36 = some (.iload_n 2, 0, 0, 0, []) := by decide +kernel
theorem t_57_37 : tb_in 57 37 = some (.imul, 0, 0, 0, []) := by decide +kernel
theorem t_57_38 : tb_in 57 38 = some (.iload 4, 0, 0, 0, []) := by decide +kernel
theorem t_57_40 : tb_in 57 40 = some (.iadd, 0, 0, 0, []) := by decide +kernel
theorem t_57_41 : tb_in 57 41 = some (.iaload, 0, 0, 0, []) := by decide +kernel
theorem t_57_42 : tb_in 57 42 = some (.istore 5, 0, 0, 0, []) := by decide +kernel
theorem t_57_44 : tb_in 57 44 = some (.iload 5, 0, 0, 0, []) := by decide +kernel
theorem t_57_46 : tb_in 57 46 = some (.bipush 100, 0, 0, 100, []) := by decide +kernel
theorem t_57_48 : tb_in 57 48 = some (.if_icmp .lt 16, 64, 0, 0, []) := by decide +kernel
theorem t_57_51 : tb_in 57 51 = some (.aload_n 0, 0, 0, 0, []) := by decide +kernel
theorem t_57_52 : tb_in 57 52 = some (.iload 5, 0, 0, 0, []) := by decide +kernel
theorem t_57_54 : tb_in 57 54 = some (.bipush 100, 0, 0, 100, []) := by decide +kernel
theorem t_57_56 : tb_in 57 56 = some (.isub, 0, 0, 0, []) := by decide +kernel
theorem t_57_57 : tb_in 57 57 = some (.invokevirtual 138, 55, 2, 0, []) := by decide +kernel
theorem t_57_60 : tb_in 57 60 = some (.ifCond .ne 4, 64, 0, 0, []) := by decide +kernel
theorem t_57_63 : tb_in 57 63 = some (.return_, 0, 0, 0, []) := by decide +kernel
theorem t_57_64 : tb_in 57 64 = some (.iload 5, 0, 0, 0, []) := by decide +kernel
theorem t_57_66 : tb_in 57 66 = some (.bipush 100, 0, 0, 100, []) := by decide +kernel
theorem t_57_68 : tb_in 57 68 = some (.if_icmp .ge 13, 81, 0, 0, []) := by decide +kernel
theorem t_57_71 : tb_in 57 71 = some (.aload_n 0, 0, 0, 0, []) := by decide +kernel
theorem t_57_72 : tb_in 57 72 = some (.getfield 22, 7, 7, 0, []) := by decide +kernel
theorem t_57_75 : tb_in 57 75 = some (.iload 5, 0, 0, 0, []) := by decide +kernel
theorem t_57_77 : tb_in 57 77 = some (.iaload, 0, 0, 0, []) := by decide +kernel
theorem t_57_78 : tb_in 57 78 = some (.goto 13, 91, 0, 0, []) := by decide +kernel
theorem t_57_81 : tb_in 57 81 = some (.aload_n 0, 0, 0, 0, []) := by decide +kernel
theorem t_57_82 : tb_in 57 82 = some (.getfield 44, 7, 14, 0, []) := by decide +kernel
theorem t_57_85 : tb_in 57 85 = some (.iload 5, 0, 0, 0, []) := by decide +kernel
theorem t_57_87 : tb_in 57 87 = some (.bipush 100, 0, 0, 100, []) := by decide +kernel
theorem t_57_89 : tb_in 57 89 = some (.isub, 0, 0, 0, []) := by decide +kernel
theorem t_57_90 : tb_in 57 90 = some (.iaload, 0, 0, 0, []) := by decide +kernel
theorem t_57_91 : tb_in 57 91 = some (.aload_n 0, 0, 0, 0, []) := by decide +kernel
theorem t_57_92 : tb_in 57 92 = some (.getfield 41, 7, 13, 0, []) := by decide +kernel
theorem t_57_95 : tb_in 57 95 = some (.iload_n 2, 0, 0, 0, []) := by decide +kernel
theorem t_57_96 : tb_in 57 96 = some (.iaload, 0, 0, 0, []) := by decide +kernel
theorem t_57_97 : tb_in 57 97 = some (.if_icmp .le 11, 108, 0, 0, []) := by decide +kernel
theorem t_57_100 : tb_in 57 100 = some (.aload_n 0, 0, 0, 0, []) := by decide +kernel
theorem t_57_101 : tb_in 57 101 = some (.getfield 69, 7, 28, 0, []) := by decide +kernel
theorem t_57_104 : tb_in 57 104 = some (.iload_n 1, 0, 0, 0, []) := by decide +kernel
theorem t_57_105 : tb_in 57 105 = some (.iconst 1, 0, 0, 1, []) := by decide +kernel
theorem t_57_106 : tb_in 57 106 = some (.bastore, 0, 0, 0, []) := by decide +kernel
theorem t_57_107 : tb_in 57 107 = some (.return_, 0, 0, 0, []) := by decide +kernel
theorem t_57_108 : tb_in 57 108 = some (.aload_n 0, 0, 0, 0, []) := by decide +kernel
theorem t_57_109 : tb_in 57 109 = some (.iload 5, 0, 0, 0, []) := by decide +kernel
theorem t_57_111 : tb_in 57 111 = some (.invokevirtual 141, 56, 2, 0, []) := by decide +kernel
theorem t_57_114 : tb_in 57 114 = some (.iload_n 3, 0, 0, 0, []) := by decide +kernel
theorem t_57_115 : tb_in 57 115 = some (.if_icmp .ge 12, 127, 0, 0, []) := by decide +kernel
theorem t_57_118 : tb_in 57 118 = some (.aload_n 0, 0, 0, 0, []) := by decide +kernel
theorem t_57_119 : tb_in 57 119 = some (.iload 5, 0, 0, 0, []) := by decide +kernel
theorem t_57_121 : tb_in 57 121 = some (.invokevirtual 141, 56, 2, 0, []) := by decide +kernel
theorem t_57_124 : tb_in 57 124 = some (.goto 4, 128, 0, 0, []) := by decide +kernel
theorem t_57_127 : tb_in 57 127 = some (.iload_n 3, 0, 0, 0, []) := by decide +kernel
theorem t_57_128 : tb_in 57 128 = some (.istore_n 3, 0, 0, 0, []) := by decide +kernel
theorem t_57_129 : tb_in 57 129 = some (.iinc 4 1, 0, 0, 1, []) := by decide +kernel
theorem t_57_132 : tb_in 57 132 = some (.goto (-113), 19, 0, 0, []) := by decide +kernel
theorem t_57_135 : tb_in 57 135 = some (.aload_n 0, 0, 0, 0, []) := by decide +kernel
theorem t_57_136 : tb_in 57 136 = some (.getfield 41, 7, 13, 0, []) := by decide +kernel
theorem t_57_139 : tb_in 57 139 = some (.iload_n 2, 0, 0, 0, []) := by decide +kernel
theorem t_57_140 : tb_in 57 140 = some (.aload_n 0, 0, 0, 0, []) := by decide +kernel
theorem t_57_141 : tb_in 57 141 = some (.getfield 99, 7, 5, 0, []) := by decide +kernel
theorem t_57_144 : tb_in 57 144 = some (.iastore, 0, 0, 0, []) := by decide +kernel
theorem t_57_145 : tb_in 57 145 = some (.aload_n 0, 0, 0, 0, []) := by decide +kernel
theorem t_57_146 : tb_in 57 146 = some (.getfield 47, 7, 15, 0, []) := by decide +kernel
theorem t_57_149 : tb_in 57 149 = some (.iload_n 2, 0, 0, 0, []) := by decide +kernel
theorem t_57_150 : tb_in 57 150 = some (.iload_n 3, 0, 0, 0, []) := by decide +kernel
theorem t_57_151 : tb_in 57 151 = some (.iastore, 0, 0, 0, []) := by decide +kernel
theorem t_57_152 : tb_in 57 152 = some (.aload_n 0, 0, 0, 0, []) := by decide +kernel
theorem t_57_153 : tb_in 57 153 = some (.dup, 0, 0, 0, []) := by decide +kernel
theorem t_57_154 : tb_in 57 154 = some (.getfield 144, 7, 23, 0, []) := by decide +kernel
theorem t_57_157 : tb_in 57 157 = some (.iconst 1, 0, 0, 1, []) := by decide +kernel
theorem t_57_158 : tb_in 57 158 = some (.iadd, 0, 0, 0, []) := by decide +kernel
theorem t_57_159 : tb_in 57 159 = some (.putfield 144, 7, 23, 0, []) := by decide +kernel
theorem t_57_162 : tb_in 57 162 = some (.aload_n 0, 0, 0, 0, []) := by decide +kernel
theorem t_57_163 : tb_in 57 163 = some (.iload_n 2, 0, 0, 0, []) := by decide +kernel
theorem t_57_164 : tb_in 57 164 = some (.invokevirtual 119, 51, 2, 0, []) := by decide +kernel
theorem t_57_167 : tb_in 57 167 = some (.aload_n 0, 0, 0, 0, []) := by decide +kernel
theorem t_57_168 : tb_in 57 168 = some (.dup, 0, 0, 0, []) := by decide +kernel
theorem t_57_169 : tb_in 57 169 = some (.getfield 113, 7, 26, 0, []) := by decide +kernel
theorem t_57_172 : tb_in 57 172 = some (.iconst 1, 0, 0, 1, []) := by decide +kernel
theorem t_57_173 : tb_in 57 173 = some (.isub, 0, 0, 0, []) := by decide +kernel
theorem t_57_174 : tb_in 57 174 = some (.putfield 113, 7, 26, 0, []) := by decide +kernel
theorem t_57_177 : tb_in 57 177 = some (.return_, 0, 0, 0, []) := by decide +kernel
theorem t_58_0 : tb_in 58 0 = some (.iconst 0, 0, 0, 0, []) := by decide +kernel
theorem t_58_1 : tb_in 58 1 = some (.istore_n 2, 0, 0, 0, []) := by decide +kernel
theorem t_58_2 : tb_in 58 2 = some (.iload_n 2, 0, 0, 0, []) := by decide +kernel
theorem t_58_3 : tb_in 58 3 = some (.aload_n 0, 0, 0, 0, []) := by decide +kernel
theorem t_58_4 : tb_in 58 4 = some (.getfield 147, 7, 34, 0, []) := by decide +kernel
theorem t_58_7 : tb_in 58 7 = some (.if_icmp .ge 20, 27, 0, 0, []) := by decide +kernel
theorem t_58_10 : tb_in 58 10 = some (.aload_n 0, 0, 0, 0, []) := by decide +kernel
theorem t_58_11 : tb_in 58 11 = some (.getfield 81, 7, 35, 0, []) := by decide +kernel
theorem t_58_14 : tb_in 58 14 = some (.iload_n 2, 0, 0, 0, []) := by decide +kernel
theorem t_58_15 : tb_in 58 15 = some (.iaload, 0, 0, 0, []) := by decide +kernel
theorem t_58_16 : tb_in 58 16 = some (.iload_n 1, 0, 0, 0, []) := by decide +kernel
theorem t_58_17 : tb_in 58 17 = some (.if_icmp .ne 4, 21, 0, 0, []) := by decide +kernel
theorem t_58_20 : tb_in 58 20 = some (.return_, 0, 0, 0, []) := by decide +kernel
theorem t_58_21 : tb_in 58 21 = some (.iinc 2 1, 0, 0, 1, []) := by decide +kernel
theorem t_58_24 : tb_in 58 24 = some (.goto (-22), 2, 0, 0, []) := by decide +kernel
theorem t_58_27 : tb_in 58 27 = some (.aload_n 0, 0, 0, 0, []) := by decide +kernel
theorem t_58_28 : tb_in 58 28 = some (.getfield 81, 7, 35, 0, []) := by decide +kernel
theorem t_58_31 : tb_in 58 31 = some (.aload_n 0, 0, 0, 0, []) := by decide +kernel
theorem t_58_32 : tb_in 58 32 = some (.getfield 147, 7, 34, 0, []) := by decide +kernel
theorem t_58_35 : tb_in 58 35 = some (.iload_n 1, 0, 0, 0, []) := by decide +kernel
theorem t_58_36 : tb_in 58 36 = some (.iastore, 0, 0, 0, []) := by decide +kernel
theorem t_58_37 : tb_in 58 37 = some (.aload_n 0, 0, 0, 0, []) := by decide +kernel
theorem t_58_38 : tb_in 58 38 = some (.dup, 0, 0, 0, []) := by decide +kernel
theorem t_58_39 : tb_in 58 39 = some (.getfield 147, 7, 34, 0, []) := by decide +kernel
theorem t_58_42 : tb_in 58 42 = some (.iconst 1, 0, 0, 1, []) := by decide +kernel
theorem t_58_43 : tb_in 58 43 = some (.iadd, 0, 0, 0, []) := by decide +kernel
theorem t_58_44 : tb_in 58 44 = some (.putfield 147, 7, 34, 0, []) := by decide +kernel
theorem t_58_47 : tb_in 58 47 = some (.return_, 0, 0, 0, []) := by decide +kernel
theorem t_59_0 : tb_in 59 0 = some (.iconst 1, 0, 0, 1, []) := by decide +kernel
theorem t_59_1 : tb_in 59 1 = some (.istore_n 3, 0, 0, 0, []) := by decide +kernel
theorem t_59_2 : tb_in 59 2 = some (.iload_n 2, 0, 0, 0, []) := by decide +kernel
theorem t_59_3 : tb_in 59 3 = some (.istore 4, 0, 0, 0, []) := by decide +kernel
theorem t_59_5 : tb_in 59 5 = some (.iload_n 3, 0, 0, 0, []) := by decide +kernel
theorem t_59_6 : tb_in 59 6 = some (.ifCond .le 29, 35, 0, 0, []) := by decide +kernel
theorem t_59_9 : tb_in 59 9 = some (.iload_n 3, 0, 0, 0, []) := by decide +kernel
theorem t_59_10 : tb_in 59 10 = some (.aload_n 0, 0, 0, 0, []) := by decide +kernel
theorem t_59_11 : tb_in 59 11 = some (.getfield 13, 7, 3, 0, []) := by decide +kernel
theorem t_59_14 : tb_in 59 14 = some (.bipush 24, 0, 0, 24, []) := by decide +kernel
theorem t_59_16 : tb_in 59 16 = some (.iload_n 1, 0, 0, 0, []) := by decide +kernel
theorem t_59_17 : tb_in 59 17 = some (.imul, 0, 0, 0, []) := by decide +kernel
theorem t_59_18 : tb_in 59 18 = some (.iload 4, 0, 0, 0, []) := by decide +kernel
theorem t_59_20 : tb_in 59 20 = some (.iadd, 0, 0, 0, []) := by decide +kernel
theorem t_59_21 : tb_in 59 21 = some (.iaload, 0, 0, 0, []) := by decide +kernel
theorem t_59_22 : tb_in 59 22 = some (.invokestatic 92, 43, 1, 0, []) := by decide +kernel
theorem t_59_25 : tb_in 59 25 = some (.iadd, 0, 0, 0, []) := by decide +kernel
theorem t_59_26 : tb_in 59 26 = some (.iconst 1, 0, 0, 1, []) := by decide +kernel
theorem t_59_27 : tb_in 59 27 = some (.isub, 0, 0, 0, []) := by decide +kernel
theorem t_59_28 : tb_in 59 28 = some (.istore_n 3, 0, 0, 0, []) := by decide +kernel
theorem t_59_29 : tb_in 59 29 = some (.iinc 4 1, 0, 0, 1, []) := by decide +kernel
theorem t_59_32 : tb_in 59 32 = some (.goto (-27), 5, 0, 0, []) := by decide +kernel
theorem t_59_35 : tb_in 59 35 = some (.iload 4, 0, 0, 0, []) := by decide +kernel
theorem t_59_37 : tb_in 59 37 = some (.ireturn, 0, 0, 0, []) := by decide +kernel
theorem t_60_0 : tb_in 60 0 = some (.aload_n 0, 0, 0, 0, []) := by decide +kernel
theorem t_60_1 : tb_in 60 1 = some (.getfield 150, 7, 30, 0, []) := by decide +kernel
theorem t_60_4 : tb_in 60 4 = some (.iconst 1, 0, 0, 1, []) := by decide +kernel
theorem t_60_5 : tb_in 60 5 = some (.isub, 0, 0, 0, []) := by decide +kernel
theorem t_60_6 : tb_in 60 6 = some (.istore_n 3, 0, 0, 0, []) := by decide +kernel
theorem t_60_7 : tb_in 60 7 = some (.aload_n 0, 0, 0, 0, []) := by decide +kernel
theorem t_60_8 : tb_in 60 8 = some (.getfield 72, 7, 31, 0, []) := by decide +kernel
theorem t_60_11 : tb_in 60 11 = some (.iload_n 3, 0, 0, 0, []) := by decide +kernel
theorem t_60_12 : tb_in 60 12 = some (.iaload, 0, 0, 0, []) := by decide +kernel
theorem t_60_13 : tb_in 60 13 = some (.istore 4, 0, 0, 0, []) := by decide +kernel
theorem t_60_15 : tb_in 60 15 = some (.iload 4, 0, 0, 0, []) := by decide +kernel
theorem t_60_17 : tb_in 60 17 = some (.bipush 103, 0, 0, 103, []) := by decide +kernel
theorem t_60_19 : tb_in 60 19 = some (.if_icmp .lt 10, 29, 0, 0, []) := by decide +kernel
theorem t_60_22 : tb_in 60 22 = some (.iload 4, 0, 0, 0, []) := by decide +kernel
theorem t_60_24 : tb_in 60 24 = some (.bipush 105, 0, 0, 105, []) := by decide +kernel
theorem t_60_26 : tb_in 60 26 = some (.if_icmp .le 17, 43, 0, 0, []) := by decide +kernel
theorem t_60_29 : tb_in 60 29 = some (.iload 4, 0, 0, 0, []) := by decide +kernel
theorem t_60_31 : tb_in 60 31 = some (.bipush 65, 0, 0, 65, []) := by decide +kernel
theorem t_60_33 : tb_in 60 33 = some (.if_icmp .lt 139, 172, 0, 0, []) := by decide +kernel
theorem t_60_36 : tb_in 60 36 = some (.iload 4, 0, 0, 0, []) := by decide +kernel
theorem t_60_38 : tb_in 60 38 = some (.bipush 70, 0, 0, 70, []) := by decide +kernel
theorem t_60_40 : tb_in 60 40 = some (.if_icmp .gt 132, 172, 0, 0, []) := by decide +kernel
theorem t_60_43 : tb_in 60 43 = some (.iload 4, 0, 0, 0, []) := by decide +kernel
theorem t_60_45 : tb_in 60 45 = some (.bipush 70, 0, 0, 70, []) := by decide +kernel
theorem t_60_47 : tb_in 60 47 = some (.if_icmp .gt 7, 54, 0, 0, []) := by decide +kernel
theorem t_60_50 : tb_in 60 50 = some (.iconst 1, 0, 0, 1, []) := by decide +kernel
theorem t_60_51 : tb_in 60 51 = some (.goto 4, 55, 0, 0, []) := by decide +kernel
theorem t_60_54 : tb_in 60 54 = some (.iconst 0, 0, 0, 0, []) := by decide +kernel
theorem t_60_55 : tb_in 60 55 = some (.istore 5, 0, 0, 0, []) := by decide +kernel
theorem t_60_57 : tb_in 60 57 = some (.iload 5, 0, 0, 0, []) := by decide +kernel
theorem t_60_59 : tb_in 60 59 = some (.ifCond .eq 22, 81, 0, 0, []) := by decide +kernel
theorem t_60_62 : tb_in 60 62 = some (.bipush 16, 0, 0, 16, []) := by decide +kernel
theorem t_60_64 : tb_in 60 64 = some (.iload 4, 0, 0, 0, []) := by decide +kernel
theorem t_60_66 : tb_in 60 66 = some (.bipush 65, 0, 0, 65, []) := by decide +kernel
theorem t_60_68 : tb_in 60 68 = some (.isub, 0, 0, 0, []) := by decide +kernel
theorem t_60_69 : tb_in 60 69 = some (.imul, 0, 0, 0, []) := by decide +kernel
theorem t_60_70 : tb_in 60 70 = some (.aload_n 0, 0, 0, 0, []) := by decide +kernel
theorem t_60_71 : tb_in 60 71 = some (.getfield 153, 7, 36, 0, []) := by decide +kernel
theorem t_60_74 : tb_in 60 74 = some (.bipush 15, 0, 0, 15, []) := by decide +kernel
theorem t_60_76 : tb_in 60 76 = some (.iand, 0, 0, 0, []) := by decide +kernel
theorem t_60_77 : tb_in 60 77 = some (.iadd, 0, 0, 0, []) := by decide +kernel
theorem t_60_78 : tb_in 60 78 = some (.goto 19, 97, 0, 0, []) := by decide +kernel
theorem t_60_81 : tb_in 60 81 = some (.bipush 16, 0, 0, 16, []) := by decide +kernel
theorem t_60_83 : tb_in 60 83 = some (.iload 4, 0, 0, 0, []) := by decide +kernel
theorem t_60_85 : tb_in 60 85 = some (.bipush 103, 0, 0, 103, []) := by decide +kernel
theorem t_60_87 : tb_in 60 87 = some (.isub, 0, 0, 0, []) := by decide +kernel
theorem t_60_88 : tb_in 60 88 = some (.imul, 0, 0, 0, []) := by decide +kernel
theorem t_60_89 : tb_in 60 89 = some (.aload_n 0, 0, 0, 0, []) := by decide +kernel
theorem t_60_90 : tb_in 60 90 = some (.getfield 153, 7, 36, 0, []) := by decide +kernel
theorem t_60_93 : tb_in 60 93 = some (.bipush 15, 0, 0, 15, []) := by decide +kernel
theorem t_60_95 : tb_in 60 95 = some (.iand, 0, 0, 0, []) := by decide +kernel
theorem t_60_96 : tb_in 60 96 = some (.iadd, 0, 0, 0, []) := by decide +kernel
theorem t_60_97 : tb_in 60 97 = some (.istore 6, 0, 0, 0, []) := by decide +kernel
theorem t_60_99 : tb_in 60 99 = some (.iload 5, 0, 0, 0, []) := by decide +kernel
theorem t_60_101 : tb_in 60 101 = some (.ifCond .eq 14, 115, 0, 0, []) := by decide +kernel
theorem t_60_104 : tb_in 60 104 = some (.aload_n 0, 0, 0, 0, []) := by decide +kernel
theorem t_60_105 : tb_in 60 105 = some (.iload 6, 0, 0, 0, []) := by decide +kernel
theorem t_60_107 : tb_in 60 107 = some (.invokevirtual 138, 55, 2, 0, []) := by decide +kernel
theorem t_60_110 : tb_in 60 110 = some (.ifCond .ne 5, 115, 0, 0, []) := by decide +kernel
theorem t_60_113 : tb_in 60 113 = some (.iconst (-1), 0, 0, (-1), []) := by decide +kernel
theorem t_60_114 : tb_in 60 114 = some (.ireturn, 0, 0, 0, []) := by decide +kernel
theorem t_60_115 : tb_in 60 115 = some (.aload_n 0, 0, 0, 0, []) := by decide +kernel
theorem t_60_116 : tb_in 60 116 = some (.iload 5, 0, 0, 0, []) := by decide +kernel
theorem t_60_118 : tb_in 60 118 = some (.ifCond .eq 11, 129, 0, 0, []) := by decide +kernel
theorem t_60_121 : tb_in 60 121 = some (.bipush 100, 0, 0, 100, []) := by decide +kernel
theorem t_60_123 : tb_in 60 123 = some (.iload 6, 0, 0, 0, []) := by decide +kernel
theorem t_60_125 : tb_in 60 125 = some (.iadd, 0, 0, 0, []) := by decide +kernel
theorem t_60_126 : tb_in 60 126 = some (.goto 5, 131, 0, 0, []) := by decide +kernel
theorem t_60_129 : tb_in 60 129 = some (.iload 6, 0, 0, 0, []) := by decide +kernel
theorem t_60_131 : tb_in 60 131 = some (.invokevirtual 156, 58, 2, 0, []) := by decide +kernel
theorem t_60_134 : tb_in 60 134 = some (.aload_n 0, 0, 0, 0, []) := by decide +kernel
theorem t_60_135 : tb_in 60 135 = some (.iload 5, 0, 0, 0, []) := by decide +kernel
theorem t_60_137 : tb_in 60 137 = some (.ifCond .eq 13, 150, 0, 0, []) := by decide +kernel
theorem t_60_140 : tb_in 60 140 = some (.aload_n 0, 0, 0, 0, []) := by decide +kernel
theorem t_60_141 : tb_in 60 141 = some (.getfield 38, 7, 12, 0, []) := by decide +kernel
theorem t_60_144 : tb_in 60 144 = some (.iload 6, 0, 0, 0, []) := by decide +kernel
theorem t_60_146 : tb_in 60 146 = some (.iaload, 0, 0, 0, []) := by decide +kernel
theorem t_60_147 : tb_in 60 147 = some (.goto 10, 157, 0, 0, []) := by decide +kernel
theorem t_60_150 : tb_in 60 150 = some (.aload_n 0, 0, 0, 0, []) := by decide +kernel
theorem t_60_151 : tb_in 60 151 = some (.getfield 19, 7, 6, 0, []) := by decide +kernel
theorem t_60_154 : tb_in 60 154 = some (.iload 6, 0, 0, 0, []) := by decide +kernel
theorem t_60_156 : tb_in 60 156 = some (.iaload, 0, 0, 0, []) := by decide +kernel
theorem t_60_157 : tb_in 60 157 = some (.putfield 153, 7, 36, 0, []) := by decide +kernel
theorem t_60_160 : tb_in 60 160 = some (.aload_n 0, 0, 0, 0, []) := by decide +kernel
theorem t_60_161 : tb_in 60 161 = some (.dup, 0, 0, 0, []) := by decide +kernel
theorem t_60_162 : tb_in 60 162 = some (.getfield 150, 7, 30, 0, []) := by decide +kernel
theorem t_60_165 : tb_in 60 165 = some (.iconst 1, 0, 0, 1, []) := by decide +kernel
theorem t_60_166 : tb_in 60 166 = some (.isub, 0, 0, 0, []) := by decide +kernel
theorem t_60_167 : tb_in 60 167 = some (.putfield 150, 7, 30, 0, []) := by decide +kernel
theorem t_60_170 : tb_in 60 170 = some (.iload_n 2, 0, 0, 0, []) := by decide +kernel
theorem t_60_171 : tb_in 60 171 = some (.ireturn, 0, 0, 0, []) := by decide +kernel
theorem t_60_172 : tb_in 60 172 = some (.iload 4, 0, 0, 0, []) := by decide +kernel
theorem t_60_174 : tb_in 60 174 = some (.bipush 63, 0, 0, 63, []) := by decide +kernel
theorem t_60_176 : tb_in 60 176 = some (.if_icmp .ne 48, 224, 0, 0, []) := by decide +kernel
theorem t_60_179 : tb_in 60 179 = some (.aload_n 0, 0, 0, 0, []) := by decide +kernel
theorem t_60_180 : tb_in 60 180 = some (.getfield 75, 7, 32, 0, []) := by decide +kernel
theorem t_60_183 : tb_in 60 183 = some (.iload_n 3, 0, 0, 0, []) := by decide +kernel
theorem t_60_184 : tb_in 60 184 = some (.iaload, 0, 0, 0, []) := by decide +kernel
theorem t_60_185 : tb_in 60 185 = some (.ifCond .ne 39, 224, 0, 0, []) := by decide +kernel
theorem t_60_188 : tb_in 60 188 = some (.aload_n 0, 0, 0, 0, []) := by decide +kernel
theorem t_60_189 : tb_in 60 189 = some (.getfield 75, 7, 32, 0, []) := by decide +kernel
theorem t_60_192 : tb_in 60 192 = some (.iload_n 3, 0, 0, 0, []) := by decide +kernel
theorem t_60_193 : tb_in 60 193 = some (.aload_n 0, 0, 0, 0, []) := by decide +kernel
theorem t_60_194 : tb_in 60 194 = some (.getfield 153, 7, 36, 0, []) := by decide +kernel
theorem t_60_197 : tb_in 60 197 = some (.ifCond .eq 7, 204, 0, 0, []) := by decide +kernel
theorem t_60_200 : tb_in 60 200 = some (.iconst 1, 0, 0, 1, []) := by decide +kernel
theorem t_60_201 : tb_in 60 201 = some (.goto 4, 205, 0, 0, []) := by decide +kernel
theorem t_60_204 : tb_in 60 204 = some (.iconst 2, 0, 0, 2, []) := by decide +kernel
theorem t_60_205 : tb_in 60 205 = some (.iastore, 0, 0, 0, []) := by decide +kernel
theorem t_60_206 : tb_in 60 206 = some (.aload_n 0, 0, 0, 0, []) := by decide +kernel
theorem t_60_207 : tb_in 60 207 = some (.getfield 153, 7, 36, 0, []) := by decide +kernel
theorem t_60_210 : tb_in 60 210 = some (.ifCond .eq 7, 217, 0, 0, []) := by decide +kernel
theorem t_60_213 : tb_in 60 213 = some (.iload_n 2, 0, 0, 0, []) := by decide +kernel
theorem t_60_214 : tb_in 60 214 = some (.goto 9, 223, 0, 0, []) := by decide +kernel
theorem t_60_217 : tb_in 60 217 = some (.aload_n 0, 0, 0, 0, []) := by decide +kernel
theorem t_60_218 : tb_in 60 218 = some (.iload_n 1, 0, 0, 0, []) := by decide +kernel
theorem t_60_219 : tb_in 60 219 = some (.iload_n 2, 0, 0, 0, []) := by decide +kernel
theorem t_60_220 : tb_in 60 220 = some (.invokevirtual 159, 59, 3, 0, []) := by decide +kernel
theorem t_60_223 : tb_in 60 223 = some (.ireturn, 0, 0, 0, []) := by decide +kernel
theorem t_60_224 : tb_in 60 224 = some (.iload 4, 0, 0, 0, []) := by decide +kernel
theorem t_60_226 : tb_in 60 226 = some (.bipush 63, 0, 0, 63, []) := by decide +kernel
theorem t_60_228 : tb_in 60 228 = some (.if_icmp .ne 34, 262, 0, 0, []) := by decide +kernel
theorem t_60_231 : tb_in 60 231 = some (.aload_n 0, 0, 0, 0, []) := by decide +kernel
theorem t_60_232 : tb_in 60 232 = some (.dup, 0, 0, 0, []) := by decide +kernel
theorem t_60_233 : tb_in 60 233 = some (.getfield 150, 7, 30, 0, []) := by decide +kernel
theorem t_60_236 : tb_in 60 236 = some (.iconst 1, 0, 0, 1, []) := by decide +kernel
theorem t_60_237 : tb_in 60 237 = some (.isub, 0, 0, 0, []) := by decide +kernel
theorem t_60_238 : tb_in 60 238 = some (.putfield 150, 7, 30, 0, []) := by decide +kernel
theorem t_60_241 : tb_in 60 241 = some (.aload_n 0, 0, 0, 0, []) := by decide +kernel
theorem t_60_242 : tb_in 60 242 = some (.getfield 75, 7, 32, 0, []) := by decide +kernel
theorem t_60_245 : tb_in 60 245 = some (.iload_n 3, 0, 0, 0, []) := by decide +kernel
theorem t_60_246 : tb_in 60 246 = some (.iaload, 0, 0, 0, []) := by decide +kernel
theorem t_60_247 : tb_in 60 247 = some (.iconst 1, 0, 0, 1, []) := by decide +kernel
theorem t_60_248 : tb_in 60 248 = some (.if_icmp .ne 12, 260, 0, 0, []) := by decide +kernel
theorem t_60_251 : tb_in 60 251 = some (.aload_n 0, 0, 0, 0, []) := by decide +kernel
theorem t_60_252 : tb_in 60 252 = some (.iload_n 1, 0, 0, 0, []) := by decide +kernel
theorem t_60_253 : tb_in 60 253 = some (.iload_n 2, 0, 0, 0, []) := by decide +kernel
theorem t_60_254 : tb_in 60 254 = some (.invokevirtual 159, 59, 3, 0, []) := by decide +kernel
theorem t_60_257 : tb_in 60 257 = some (.goto 4, 261, 0, 0, []) := by decide +kernel
theorem t_60_260 : tb_in 60 260 = some (.iload_n 2, 0, 0, 0, []) := by decide +kernel
theorem t_60_261 : tb_in 60 261 = some (.ireturn, 0, 0, 0, []) := by decide +kernel
theorem t_60_262 : tb_in 60 262 = some (.aload_n 0, 0, 0, 0, []) := by decide +kernel
theorem t_60_263 : tb_in 60 263 = some (.getfield 75, 7, 32, 0, []) := by decide +kernel
theorem t_60_266 : tb_in 60 266 = some (.iload_n 3, 0, 0, 0, []) := by decide +kernel
theorem t_60_267 : tb_in 60 267 = some (.iaload, 0, 0, 0, []) := by decide +kernel
theorem t_60_268 : tb_in 60 268 = some (.ifCond .ne 22, 290, 0, 0, []) := by decide +kernel
theorem t_60_271 : tb_in 60 271 = some (.aload_n 0, 0, 0, 0, []) := by decide +kernel
theorem t_60_272 : tb_in 60 272 = some (.getfield 75, 7, 32, 0, []) := by decide +kernel
theorem t_60_275 : tb_in 60 275 = some (.iload_n 3, 0, 0, 0, []) := by decide +kernel
theorem t_60_276 : tb_in 60 276 = some (.iconst 1, 0, 0, 1, []) := by decide +kernel
theorem t_60_277 : tb_in 60 277 = some (.iastore, 0, 0, 0, []) := by decide +kernel
theorem t_60_278 : tb_in 60 278 = some (.aload_n 0, 0, 0, 0, []) := by decide +kernel
theorem t_60_279 : tb_in 60 279 = some (.getfield 78, 7, 33, 0, []) := by decide +kernel
theorem t_60_282 : tb_in 60 282 = some (.iload_n 3, 0, 0, 0, []) := by decide +kernel
theorem t_60_283 : tb_in 60 283 = some (.aload_n 0, 0, 0, 0, []) := by decide +kernel
theorem t_60_284 : tb_in 60 284 = some (.getfield 153, 7, 36, 0, []) := by decide +kernel
theorem t_60_287 : tb_in 60 287 = some (.iastore, 0, 0, 0, []) := by decide +kernel
theorem t_60_288 : tb_in 60 288 = some (.iload_n 2, 0, 0, 0, []) := by decide +kernel
theorem t_60_289 : tb_in 60 289 = some (.ireturn, 0, 0, 0, []) := by decide +kernel
theorem t_60_290 : tb_in 60 290 = some (.aload_n 0, 0, 0, 0, []) := by decide +kernel
theorem t_60_291 : tb_in 60 291 = some (.iload 4, 0, 0, 0, []) := by decide +kernel
theorem t_60_293 : tb_in 60 293 = some (.bipush 43, 0, 0, 43, []) := by decide +kernel
theorem t_60_295 : tb_in 60 295 = some (.if_icmp .ne 17, 312, 0, 0, []) := by decide +kernel
theorem t_60_298 : tb_in 60 298 = some (.aload_n 0, 0, 0, 0, []) := by decide +kernel
theorem t_60_299 : tb_in 60 299 = some (.getfield 78, 7, 33, 0, []) := by decide +kernel
theorem t_60_302 : tb_in 60 302 = some (.iload_n 3, 0, 0, 0, []) := by decide +kernel
theorem t_60_303 : tb_in 60 303 = some (.iaload, 0, 0, 0, []) := by decide +kernel
theorem t_60_304 : tb_in 60 304 = some (.aload_n 0, 0, 0, 0, []) := by decide +kernel
theorem t_60_305 : tb_in 60 305 = some (.getfield 153, 7, 36, 0, []) := by decide +kernel
theorem t_60_308 : tb_in 60 308 = some (.iadd, 0, 0, 0, []) := by decide +kernel
theorem t_60_309 : tb_in 60 309 = some (.goto 35, 344, 0, 0, []) := by decide +kernel
theorem t_60_312 : tb_in 60 312 = some (.iload 4, 0, 0, 0, []) := by decide +kernel
theorem t_60_314 : tb_in 60 314 = some (.bipush 45, 0, 0, 45, []) := by decide +kernel
theorem t_60_316 : tb_in 60 316 = some (.if_icmp .ne 17, 333, 0, 0, []) := by decide +kernel
theorem t_60_319 : tb_in 60 319 = some (.aload_n 0, 0, 0, 0, []) := by decide +kernel
theorem t_60_320 : tb_in 60 320 = some (.getfield 78, 7, 33, 0, []) := by decide +kernel
theorem t_60_323 : tb_in 60 323 = some (.iload_n 3, 0, 0, 0, []) := by decide +kernel
theorem t_60_324 : tb_in 60 324 = some (.iaload, 0, 0, 0, []) := by decide +kernel
theorem t_60_325 : tb_in 60 325 = some (.aload_n 0, 0, 0, 0, []) := by decide +kernel
theorem t_60_326 : tb_in 60 326 = some (.getfield 153, 7, 36, 0, []) := by decide +kernel
theorem t_60_329 : tb_in 60 329 = some (.isub, 0, 0, 0, []) := by decide +kernel
theorem t_60_330 : tb_in 60 330 = some (.goto 14, 344, 0, 0, []) := by decide +kernel
theorem t_60_333 : tb_in 60 333 = some (.aload_n 0, 0, 0, 0, []) := by decide +kernel
theorem t_60_334 : tb_in 60 334 = some (.getfield 78, 7, 33, 0, []) := by decide +kernel
theorem t_60_337 : tb_in 60 337 = some (.iload_n 3, 0, 0, 0, []) := by decide +kernel
theorem t_60_338 : tb_in 60 338 = some (.iaload, 0, 0, 0, []) := by decide +kernel
theorem t_60_339 : tb_in 60 339 = some (.aload_n 0, 0, 0, 0, []) := by decide +kernel
theorem t_60_340 : tb_in 60 340 = some (.getfield 153, 7, 36, 0, []) := by decide +kernel
theorem t_60_343 : tb_in 60 343 = some (.imul, 0, 0, 0, []) := by decide +kernel
theorem t_60_344 : tb_in 60 344 = some (.putfield 153, 7, 36, 0, []) := by decide +kernel
theorem t_60_347 : tb_in 60 347 = some (.aload_n 0, 0, 0, 0, []) := by decide +kernel
theorem t_60_348 : tb_in 60 348 = some (.dup, 0, 0, 0, []) := by decide +kernel
theorem t_60_349 : tb_in 60 349 = some (.getfield 150, 7, 30, 0, []) := by decide +kernel
theorem t_60_352 : tb_in 60 352 = some (.iconst 1, 0, 0, 1, []) := by decide +kernel
theorem t_60_353 : tb_in 60 353 = some (.isub, 0, 0, 0, []) := by decide +kernel
theorem t_60_354 : tb_in 60 354 = some (.putfield 150, 7, 30, 0, []) := by decide +kernel
theorem t_60_357 : tb_in 60 357 = some (.iload_n 2, 0, 0, 0, []) := by decide +kernel
theorem t_60_358 : tb_in 60 358 = some (.ireturn, 0, 0, 0, []) := by decide +kernel
theorem t_61_0 : tb_in 61 0 = some (.aload_n 0, 0, 0, 0, []) := by decide +kernel
theorem t_61_1 : tb_in 61 1 = some (.iconst 0, 0, 0, 0, []) := by decide +kernel
theorem t_61_2 : tb_in 61 2 = some (.putfield 150, 7, 30, 0, []) := by decide +kernel
theorem t_61_5 : tb_in 61 5 = some (.aload_n 0, 0, 0, 0, []) := by decide +kernel
theorem t_61_6 : tb_in 61 6 = some (.iconst 0, 0, 0, 0, []) := by decide +kernel
theorem t_61_7 : tb_in 61 7 = some (.putfield 147, 7, 34, 0, []) := by decide +kernel
theorem t_61_10 : tb_in 61 10 = some (.iconst 0, 0, 0, 0, []) := by decide +kernel
theorem t_61_11 : tb_in 61 11 = some (.istore_n 3, 0, 0, 0, []) := by decide +kernel
theorem t_61_12 : tb_in 61 12 = some (.iconst 1, 0, 0, 1, []) := by decide +kernel
theorem t_61_13 : tb_in 61 13 = some (.istore 4, 0, 0, 0, []) := by decide +kernel
theorem t_61_15 : tb_in 61 15 = some (.iload 4, 0, 0, 0, []) := by decide +kernel
theorem t_61_17 : tb_in 61 17 = some (.ifCond .eq 141, 158, 0, 0, []) := by decide +kernel
theorem t_61_20 : tb_in 61 20 = some (.aload_n 0, 0, 0, 0, []) := by decide +kernel
theorem t_61_21 : tb_in 61 21 = some (.getfield 13, 7, 3, 0, []) := by decide +kernel
theorem t_61_24 : tb_in 61 24 = some (.bipush 24, 0, 0, 24, []) := by decide +kernel
theorem t_61_26 : tb_in 61 26 = some (.iload_n 1, 0, 0, 0, []) := by decide +kernel
theorem t_61_27 : tb_in 61 27 = some (.imul, 0, 0, 0, []) := by decide +kernel
theorem t_61_28 : tb_in 61 28 = some (.iload_n 3, 0, 0, 0, []) := by decide +kernel
theorem t_61_29 : tb_in 61 29 = some (.iadd, 0, 0, 0, []) := by decide +kernel
theorem t_61_30 : tb_in 61 30 = some (.iaload, 0, 0, 0, []) := by decide +kernel
theorem t_61_31 : tb_in 61 31 = some (.istore 5, 0, 0, 0, []) := by decide +kernel
theorem t_61_33 : tb_in 61 33 = some (.iinc 3 1, 0, 0, 1, []) := by decide +kernel
theorem t_61_36 : tb_in 61 36 = some (.iload 5, 0, 0, 0, []) := by decide +kernel
theorem t_61_38 : tb_in 61 38 = some (.invokestatic 92, 43, 1, 0, []) := by decide +kernel
theorem t_61_41 : tb_in 61 41 = some (.ifCond .le 37, 78, 0, 0, []) := by decide +kernel
theorem t_61_44 : tb_in 61 44 = some (.aload_n 0, 0, 0, 0, []) := by decide +kernel
theorem t_61_45 : tb_in 61 45 = some (.getfield 72, 7, 31, 0, []) := by decide +kernel
theorem t_61_48 : tb_in 61 48 = some (.aload_n 0, 0, 0, 0, []) := by decide +kernel
theorem t_61_49 : tb_in 61 49 = some (.getfield 150, 7, 30, 0, []) := by decide +kernel
theorem t_61_52 : tb_in 61 52 = some (.iload 5, 0, 0, 0, []) := by decide +kernel
theorem t_61_54 : tb_in 61 54 = some (.iastore, 0, 0, 0, []) := by decide +kernel
theorem t_61_55 : tb_in 61 55 = some (.aload_n 0, 0, 0, 0, []) := by decide +kernel
theorem t_61_56 : tb_in 61 56 = some (.getfield 75, 7, 32, 0, []) := by decide +kernel
theorem t_61_59 : tb_in 61 59 = some (.aload_n 0, 0, 0, 0, []) := by decide +kernel
theorem t_61_60 : tb_in 61 60 = some (.getfield 150, 7, 30, 0, []) := by decide +kernel
theorem t_61_63 : tb_in 61 63 = some (.iconst 0, 0, 0, 0, []) := by decide +kernel
theorem t_61_64 : tb_in 61 64 = some (.iastore, 0, 0, 0, []) := by decide +kernel
theorem t_61_65 : tb_in 61 65 = some (.aload_n 0, 0, 0, 0, []) := by decide +kernel
theorem t_61_66 : tb_in 61 66 = some (.dup, 0, 0, 0, []) := by decide +kernel
theorem t_61_67 : tb_in 61 67 = some (.getfield 150, 7, 30, 0, []) := by decide +kernel
theorem t_61_70 : tb_in 61 70 = some (.iconst 1, 0, 0, 1, []) := by decide +kernel
theorem t_61_71 : tb_in 61 71 = some (.iadd, 0, 0, 0, []) := by decide +kernel
theorem t_61_72 : tb_in 61 72 = some (.putfield 150, 7, 30, 0, []) := by decide +kernel
theorem t_61_75 : tb_in 61 75 = some (.goto 80, 155, 0, 0, []) := by decide +kernel
theorem t_61_78 : tb_in 61 78 = some (.aload_n 0, 0, 0, 0, []) := by decide +kernel
theorem t_61_79 : tb_in 61 79 = some (.iload 5, 0, 0, 0, []) := by decide +kernel
theorem t_61_81 : tb_in 61 81 = some (.bipush 107, 0, 0, 107, []) := by decide +kernel
theorem t_61_83 : tb_in 61 83 = some (.if_icmp .ne 7, 90, 0, 0, []) := by decide +kernel
theorem t_61_86 : tb_in 61 86 = some (.iload_n 2, 0, 0, 0, []) := by decide +kernel
theorem t_61_87 : tb_in 61 87 = some (.goto 8, 95, 0, 0, []) := by decide +kernel
theorem t_61_90 : tb_in 61 90 = some (.iload 5, 0, 0, 0, []) := by decide +kernel
theorem t_61_92 : tb_in 61 92 = some (.bipush 48, 0, 0, 48, []) := by decide +kernel
theorem t_61_94 : tb_in 61 94 = some (.isub, 0, 0, 0, []) := by decide +kernel
theorem t_61_95 : tb_in 61 95 = some (.putfield 153, 7, 36, 0, []) := by decide +kernel
theorem t_61_98 : tb_in 61 98 = some (.aload_n 0, 0, 0, 0, []) := by decide +kernel
theorem t_61_99 : tb_in 61 99 = some (.getfield 150, 7, 30, 0, []) := by decide +kernel
theorem t_61_102 : tb_in 61 102 = some (.iconst 1, 0, 0, 1, []) := by decide +kernel
theorem t_61_103 : tb_in 61 103 = some (.iadd, 0, 0, 0, []) := by decide +kernel
theorem t_61_104 : tb_in 61 104 = some (.istore 6, 0, 0, 0, []) := by decide +kernel
theorem t_61_106 : tb_in 61 106 = some (.aload_n 0, 0, 0, 0, []) := by decide +kernel
theorem t_61_107 : tb_in 61 107 = some (.getfield 150, 7, 30, 0, []) := by decide +kernel
theorem t_61_110 : tb_in 61 110 = some (.ifCond .le 31, 141, 0, 0, []) := by decide +kernel
theorem t_61_113 : tb_in 61 113 = some (.aload_n 0, 0, 0, 0, []) := by decide +kernel
theorem t_61_114 : tb_in 61 114 = some (.getfield 150, 7, 30, 0, []) := by decide +kernel
theorem t_61_117 : tb_in 61 117 = some (.iload 6, 0, 0, 0, []) := by decide +kernel
theorem t_61_119 : tb_in 61 119 = some (.if_icmp .ge 22, 141, 0, 0, []) := by decide +kernel
theorem t_61_122 : tb_in 61 122 = some (.aload_n 0, 0, 0, 0, []) := by decide +kernel
theorem t_61_123 : tb_in 61 123 = some (.getfield 150, 7, 30, 0, []) := by decide +kernel
theorem t_61_126 : tb_in 61 126 = some (.istore 6, 0, 0, 0, []) := by decide +kernel
theorem t_61_128 : tb_in 61 128 = some (.aload_n 0, 0, 0, 0, []) := by decide +kernel
theorem t_61_129 : tb_in 61 129 = some (.iload_n 1, 0, 0, 0, []) := by decide +kernel
theorem t_61_130 : tb_in 61 130 = some (.iload_n 3, 0, 0, 0, []) := by decide +kernel
theorem t_61_131 : tb_in 61 131 = some (.invokevirtual 163, 60, 3, 0, []) := by decide +kernel
theorem t_61_134 : tb_in 61 134 = some (.istore_n 3, 0, 0, 0, []) := by decide +kernel
theorem t_61_135 : tb_in 61 135 = some (.iload_n 3, 0, 0, 0, []) := by decide +kernel
theorem t_61_136 : tb_in 61 136 = some (.ifCond .ge (-30), 106, 0, 0, []) := by decide +kernel
theorem t_61_139 : tb_in 61 139 = some (.iconst 0, 0, 0, 0, []) := by decide +kernel
theorem t_61_140 : tb_in 61 140 = some (.ireturn, 0, 0, 0, []) := by decide +kernel
theorem t_61_141 : tb_in 61 141 = some (.aload_n 0, 0, 0, 0, []) := by decide +kernel
theorem t_61_142 : tb_in 61 142 = some (.getfield 150, 7, 30, 0, []) := by decide +kernel
theorem t_61_145 : tb_in 61 145 = some (.ifCond .le 7, 152, 0, 0, []) := by decide +kernel
theorem t_61_148 : tb_in 61 148 = some (.iconst 1, 0, 0, 1, []) := by decide +kernel
theorem t_61_149 : tb_in 61 149 = some (.goto 4, 153, 0, 0, []) := by decide +kernel
theorem t_61_152 : tb_in 61 152 = some (.iconst 0, 0, 0, 0, []) := by decide +kernel
theorem t_61_153 : tb_in 61 153 = some (.istore 4, 0, 0, 0, []) := by decide +kernel
theorem t_61_155 : tb_in 61 155 = some (.goto (-140), 15, 0, 0, []) := by decide +kernel
theorem t_61_158 : tb_in 61 158 = some (.iconst 1, 0, 0, 1, []) := by decide +kernel
theorem t_61_159 : tb_in 61 159 = some (.ireturn, 0, 0, 0, []) := by decide +kernel
theorem t_62_0 : tb_in 62 0 = some (.aload_n 0, 0, 0, 0, []) := by decide +kernel
theorem t_62_1 : tb_in 62 1 = some (.getfield 66, 7, 27, 0, []) := by decide +kernel
theorem t_62_4 : tb_in 62 4 = some (.aload_n 0, 0, 0, 0, []) := by decide +kernel
theorem t_62_5 : tb_in 62 5 = some (.getfield 113, 7, 26, 0, []) := by decide +kernel
theorem t_62_8 : tb_in 62 8 = some (.iconst 1, 0, 0, 1, []) := by decide +kernel
theorem t_62_9 : tb_in 62 9 = some (.isub, 0, 0, 0, []) := by decide +kernel
theorem t_62_10 : tb_in 62 10 = some (.iaload, 0, 0, 0, []) := by decide +kernel
theorem t_62_11 : tb_in 62 11 = some (.istore_n 1, 0, 0, 0, []) := by decide +kernel
theorem t_62_12 : tb_in 62 12 = some (.aload_n 0, 0, 0, 0, []) := by decide +kernel
theorem t_62_13 : tb_in 62 13 = some (.iload_n 1, 0, 0, 0, []) := by decide +kernel
theorem t_62_14 : tb_in 62 14 = some (.bipush 16, 0, 0, 16, []) := by decide +kernel
theorem t_62_16 : tb_in 62 16 = some (.idiv, 0, 0, 0, []) := by decide +kernel
theorem t_62_17 : tb_in 62 17 = some (.iload_n 1, 0, 0, 0, []) := by decide +kernel
theorem t_62_18 : tb_in 62 18 = some (.bipush 16, 0, 0, 16, []) := by decide +kernel
theorem t_62_20 : tb_in 62 20 = some (.irem, 0, 0, 0, []) := by decide +kernel
theorem t_62_21 : tb_in 62 21 = some (.invokevirtual 166, 61, 3, 0, []) := by decide +kernel
theorem t_62_24 : tb_in 62 24 = some (.ifCond .ne 4, 28, 0, 0, []) := by decide +kernel
theorem t_62_27 : tb_in 62 27 = some (.return_, 0, 0, 0, []) := by decide +kernel
theorem t_62_28 : tb_in 62 28 = some (.iconst 2, 0, 0, 2, []) := by decide +kernel
theorem t_62_29 : tb_in 62 29 = some (.istore_n 2, 0, 0, 0, []) := by decide +kernel
theorem t_62_30 : tb_in 62 30 = some (.iconst 0, 0, 0, 0, []) := by decide +kernel
theorem t_62_31 : tb_in 62 31 = some (.istore_n 3, 0, 0, 0, []) := by decide +kernel
theorem t_62_32 : tb_in 62 32 = some (.iload_n 3, 0, 0, 0, []) := by decide +kernel
theorem t_62_33 : tb_in 62 33 = some (.aload_n 0, 0, 0, 0, []) := by decide +kernel
theorem t_62_34 : tb_in 62 34 = some (.getfield 147, 7, 34, 0, []) := by decide +kernel
theorem t_62_37 : tb_in 62 37 = some (.if_icmp .ge 55, 92, 0, 0, []) := by decide +kernel
theorem t_62_40 : tb_in 62 40 = some (.aload_n 0, 0, 0, 0, []) := by decide +kernel
theorem t_62_41 : tb_in 62 41 = some (.getfield 53, 7, 17, 0, []) := by decide +kernel
theorem t_62_44 : tb_in 62 44 = some (.bipush 24, 0, 0, 24, []) := by decide +kernel
theorem t_62_46 : tb_in 62 46 = some (.iload_n 1, 0, 0, 0, []) := by decide +kernel
theorem t_62_47 : tb_in 62 47 = some (.imul, 0, 0, 0, []) := by decide +kernel
theorem t_62_48 : tb_in 62 48 = some (.iload_n 3, 0, 0, 0, []) := by decide +kernel
theorem t_62_49 : tb_in 62 49 = some (.iadd, 0, 0, 0, []) := by decide +kernel
theorem t_62_50 : tb_in 62 50 = some (.aload_n 0, 0, 0, 0, []) := by decide +kernel
theorem t_62_51 : tb_in 62 51 = some (.getfield 81, 7, 35, 0, []) := by decide +kernel
theorem t_62_54 : tb_in 62 54 = some (.iload_n 3, 0, 0, 0, []) := by decide +kernel
theorem t_62_55 : tb_in 62 55 = some (.iaload, 0, 0, 0, []) := by decide +kernel
theorem t_62_56 : tb_in 62 56 = some (.iastore, 0, 0, 0, []) := by decide +kernel
theorem t_62_57 : tb_in 62 57 = some (.aload_n 0, 0, 0, 0, []) := by decide +kernel
theorem t_62_58 : tb_in 62 58 = some (.aload_n 0, 0, 0, 0, []) := by decide +kernel
theorem t_62_59 : tb_in 62 59 = some (.getfield 81, 7, 35, 0, []) := by decide +kernel
theorem t_62_62 : tb_in 62 62 = some (.iload_n 3, 0, 0, 0, []) := by decide +kernel
theorem t_62_63 : tb_in 62 63 = some (.iaload, 0, 0, 0, []) := by decide +kernel
theorem t_62_64 : tb_in 62 64 = some (.invokevirtual 141, 56, 2, 0, []) := by decide +kernel
theorem t_62_67 : tb_in 62 67 = some (.iload_n 2, 0, 0, 0, []) := by decide +kernel
theorem t_62_68 : tb_in 62 68 = some (.if_icmp .ge 16, 84, 0, 0, []) := by decide +kernel
theorem t_62_71 : tb_in 62 71 = some (.aload_n 0, 0, 0, 0, []) := by decide +kernel
theorem t_62_72 : tb_in 62 72 = some (.aload_n 0, 0, 0, 0, []) := by decide +kernel
theorem t_62_73 : tb_in 62 73 = some (.getfield 81, 7, 35, 0, []) := by decide +kernel
theorem t_62_76 : tb_in 62 76 = some (.iload_n 3, 0, 0, 0, []) := by decide +kernel
theorem t_62_77 : tb_in 62 77 = some (.iaload, 0, 0, 0, []) := by decide +kernel
theorem t_62_78 : tb_in 62 78 = some (.invokevirtual 141, 56, 2, 0, []) := by decide +kernel
theorem t_62_81 : tb_in 62 81 = some (.goto 4, 85, 0, 0, []) := by decide +kernel
theorem t_62_84 : tb_in 62 84 = some (.iload_n 2, 0, 0, 0, []) := by decide +kernel
theorem t_62_85 : tb_in 62 85 = some (.istore_n 2, 0, 0, 0, []) := by decide +kernel
theorem t_62_86 : tb_in 62 86 = some (.iinc 3 1, 0, 0, 1, []) := by decide +kernel
theorem t_62_89 : tb_in 62 89 = some (.goto (-57), 32, 0, 0, []) := by decide +kernel
theorem t_62_92 : tb_in 62 92 = some (.aload_n 0, 0, 0, 0, []) := by decide +kernel
theorem t_62_93 : tb_in 62 93 = some (.getfield 44, 7, 14, 0, []) := by decide +kernel
theorem t_62_96 : tb_in 62 96 = some (.iload_n 1, 0, 0, 0, []) := by decide +kernel
theorem t_62_97 : tb_in 62 97 = some (.aload_n 0, 0, 0, 0, []) := by decide +kernel
theorem t_62_98 : tb_in 62 98 = some (.getfield 34, 7, 11, 0, []) := by decide +kernel
theorem t_62_101 : tb_in 62 101 = some (.iload_n 1, 0, 0, 0, []) := by decide +kernel
theorem t_62_102 : tb_in 62 102 = some (.baload, 0, 0, 0, []) := by decide +kernel
theorem t_62_103 : tb_in 62 103 = some (.ifCond .eq 25, 128, 0, 0, []) := by decide +kernel
theorem t_62_106 : tb_in 62 106 = some (.aload_n 0, 0, 0, 0, []) := by decide +kernel
theorem t_62_107 : tb_in 62 107 = some (.getfield 38, 7, 12, 0, []) := by decide +kernel
theorem t_62_110 : tb_in 62 110 = some (.iload_n 1, 0, 0, 0, []) := by decide +kernel
theorem t_62_111 : tb_in 62 111 = some (.iaload, 0, 0, 0, []) := by decide +kernel
theorem t_62_112 : tb_in 62 112 = some (.aload_n 0, 0, 0, 0, []) := by decide +kernel
theorem t_62_113 : tb_in 62 113 = some (.getfield 153, 7, 36, 0, []) := by decide +kernel
theorem t_62_116 : tb_in 62 116 = some (.if_icmp .ne 12, 128, 0, 0, []) := by decide +kernel
theorem t_62_119 : tb_in 62 119 = some (.aload_n 0, 0, 0, 0, []) := by decide +kernel
theorem t_62_120 : tb_in 62 120 = some (.getfield 44, 7, 14, 0, []) := by decide +kernel
theorem t_62_123 : tb_in 62 123 = some (.iload_n 1, 0, 0, 0, []) := by decide +kernel
theorem t_62_124 : tb_in 62 124 = some (.iaload, 0, 0, 0, []) := by decide +kernel
theorem t_62_125 : tb_in 62 125 = some (.goto 7, 132, 0, 0, []) := by decide +kernel
theorem t_62_128 : tb_in 62 128 = some (.aload_n 0, 0, 0, 0, []) := by decide +kernel
theorem t_62_129 : tb_in 62 129 = some (.getfield 99, 7, 5, 0, []) := by decide +kernel
theorem t_62_132 : tb_in 62 132 = some (.iastore, 0, 0, 0, []) := by decide +kernel
theorem t_62_133 : tb_in 62 133 = some (.aload_n 0, 0, 0, 0, []) := by decide +kernel
theorem t_62_134 : tb_in 62 134 = some (.getfield 34, 7, 11, 0, []) := by decide +kernel
theorem t_62_137 : tb_in 62 137 = some (.iload_n 1, 0, 0, 0, []) := by decide +kernel
theorem t_62_138 : tb_in 62 138 = some (.iconst 1, 0, 0, 1, []) := by decide +kernel
theorem t_62_139 : tb_in 62 139 = some (.bastore, 0, 0, 0, []) := by decide +kernel
theorem t_62_140 : tb_in 62 140 = some (.aload_n 0, 0, 0, 0, []) := by decide +kernel
theorem t_62_141 : tb_in 62 141 = some (.getfield 38, 7, 12, 0, []) := by decide +kernel
theorem t_62_144 : tb_in 62 144 = some (.iload_n 1, 0, 0, 0, []) := by decide +kernel
theorem t_62_145 : tb_in 62 145 = some (.aload_n 0, 0, 0, 0, []) := by decide +kernel
theorem t_62_146 : tb_in 62 146 = some (.getfield 153, 7, 36, 0, []) := by decide +kernel
theorem t_62_149 : tb_in 62 149 = some (.iastore, 0, 0, 0, []) := by decide +kernel
theorem t_62_150 : tb_in 62 150 = some (.aload_n 0, 0, 0, 0, []) := by decide +kernel
theorem t_62_151 : tb_in 62 151 = some (.getfield 56, 7, 18, 0, []) := by decide +kernel
theorem t_62_154 : tb_in 62 154 = some (.iload_n 1, 0, 0, 0, []) := by decide +kernel
theorem t_62_155 : tb_in 62 155 = some (.aload_n 0, 0, 0, 0, []) := by decide +kernel
theorem t_62_156 : tb_in 62 156 = some (.getfield 147, 7, 34, 0, []) := by decide +kernel
theorem t_62_159 : tb_in 62 159 = some (.iastore, 0, 0, 0, []) := by decide +kernel
theorem t_62_160 : tb_in 62 160 = some (.aload_n 0, 0, 0, 0, []) := by decide +kernel
theorem t_62_161 : tb_in 62 161 = some (.getfield 41, 7, 13, 0, []) := by decide +kernel
theorem t_62_164 : tb_in 62 164 = some (.iload_n 1, 0, 0, 0, []) := by decide +kernel
theorem t_62_165 : tb_in 62 165 = some (.aload_n 0, 0, 0, 0, []) := by decide +kernel
theorem t_62_166 : tb_in 62 166 = some (.getfield 99, 7, 5, 0, []) := by decide +kernel
theorem t_62_169 : tb_in 62 169 = some (.iastore, 0, 0, 0, []) := by decide +kernel
theorem t_62_170 : tb_in 62 170 = some (.aload_n 0, 0, 0, 0, []) := by decide +kernel
theorem t_62_171 : tb_in 62 171 = some (.getfield 47, 7, 15, 0, []) := by decide +kernel
theorem t_62_174 : tb_in 62 174 = some (.iload_n 1, 0, 0, 0, []) := by decide +kernel
theorem t_62_175 : tb_in 62 175 = some (.iload_n 2, 0, 0, 0, []) := by decide +kernel
theorem t_62_176 : tb_in 62 176 = some (.iastore, 0, 0, 0, []) := by decide +kernel
theorem t_62_177 : tb_in 62 177 = some (.aload_n 0, 0, 0, 0, []) := by decide +kernel
theorem t_62_178 : tb_in 62 178 = some (.getfield 50, 7, 16, 0, []) := by decide +kernel
theorem t_62_181 : tb_in 62 181 = some (.iload_n 1, 0, 0, 0, []) := by decide +kernel
theorem t_62_182 : tb_in 62 182 = some (.iconst 0, 0, 0, 0, []) := by decide +kernel
theorem t_62_183 : tb_in 62 183 = some (.bastore, 0, 0, 0, []) := by decide +kernel
theorem t_62_184 : tb_in 62 184 = some (.aload_n 0, 0, 0, 0, []) := by decide +kernel
theorem t_62_185 : tb_in 62 185 = some (.dup, 0, 0, 0, []) := by decide +kernel
theorem t_62_186 : tb_in 62 186 = some (.getfield 170, 7, 22, 0, []) := by decide +kernel
theorem t_62_189 : tb_in 62 189 = some (.iconst 1, 0, 0, 1, []) := by decide +kernel
theorem t_62_190 : tb_in 62 190 = some (.iadd, 0, 0, 0, []) := by decide +kernel
theorem t_62_191 : tb_in 62 191 = some (.putfield 170, 7, 22, 0, []) := by decide +kernel
theorem t_62_194 : tb_in 62 194 = some (.aload_n 0, 0, 0, 0, []) := by decide +kernel
theorem t_62_195 : tb_in 62 195 = some (.iload_n 1, 0, 0, 0, []) := by decide +kernel
theorem t_62_196 : tb_in 62 196 = some (.invokevirtual 119, 51, 2, 0, []) := by decide +kernel
theorem t_62_199 : tb_in 62 199 = some (.aload_n 0, 0, 0, 0, []) := by decide +kernel
theorem t_62_200 : tb_in 62 200 = some (.dup, 0, 0, 0, []) := by decide +kernel
theorem t_62_201 : tb_in 62 201 = some (.getfield 113, 7, 26, 0, []) := by decide +kernel
theorem t_62_204 : tb_in 62 204 = some (.iconst 1, 0, 0, 1, []) := by decide +kernel
theorem t_62_205 : tb_in 62 205 = some (.isub, 0, 0, 0, []) := by decide +kernel
theorem t_62_206 : tb_in 62 206 = some (.putfield 113, 7, 26, 0, []) := by decide +kernel
theorem t_62_209 : tb_in 62 209 = some (.return_, 0, 0, 0, []) := by decide +kernel
theorem t_63_0 : tb_in 63 0 = some (.iload_n 0, 0, 0, 0, []) := by decide +kernel
theorem t_63_1 : tb_in 63 1 = some (.ifCond .lt 15, 16, 0, 0, []) := by decide +kernel
theorem t_63_4 : tb_in 63 4 = some (.iload_n 0, 0, 0, 0, []) := by decide +kernel
theorem t_63_5 : tb_in 63 5 = some (.iconst 5, 0, 0, 5, []) := by decide +kernel
theorem t_63_6 : tb_in 63 6 = some (.if_icmp .gt 10, 16, 0, 0, []) := by decide +kernel
theorem t_63_9 : tb_in 63 9 = some (.iload_n 1, 0, 0, 0, []) := by decide +kernel
theorem t_63_10 : tb_in 63 10 = some (.invokestatic 102, 47, 1, 0, []) := by decide +kernel
theorem t_63_13 : tb_in 63 13 = some (.ifCond .eq 7, 20, 0, 0, []) := by decide +kernel
theorem t_63_16 : tb_in 63 16 = some (.iconst 1, 0, 0, 1, []) := by decide +kernel
theorem t_63_17 : tb_in 63 17 = some (.goto 4, 21, 0, 0, []) := by decide +kernel
theorem t_63_20 : tb_in 63 20 = some (.iconst 0, 0, 0, 0, []) := by decide +kernel
theorem t_63_21 : tb_in 63 21 = some (.ireturn, 0, 0, 0, []) := by decide +kernel
theorem t_64_0 : tb_in 64 0 = some (.iconst 0, 0, 0, 0, []) := by decide +kernel
theorem t_64_1 : tb_in 64 1 = some (.istore_n 1, 0, 0, 0, []) := by decide +kernel
theorem t_64_2 : tb_in 64 2 = some (.iconst 0, 0, 0, 0, []) := by decide +kernel
theorem t_64_3 : tb_in 64 3 = some (.istore_n 2, 0, 0, 0, []) := by decide +kernel
theorem t_64_4 : tb_in 64 4 = some (.iload_n 2, 0, 0, 0, []) := by decide +kernel
theorem t_64_5 : tb_in 64 5 = some (.bipush 96, 0, 0, 96, []) := by decide +kernel
theorem t_64_7 : tb_in 64 7 = some (.if_icmp .ge 26, 33, 0, 0, []) := by decide +kernel
theorem t_64_10 : tb_in 64 10 = some (.aload_n 0, 0, 0, 0, []) := by decide +kernel
theorem t_64_11 : tb_in 64 11 = some (.getfield 34, 7, 11, 0, []) := by decide +kernel
theorem t_64_14 : tb_in 64 14 = some (.iload_n 2, 0, 0, 0, []) := by decide +kernel
theorem t_64_15 : tb_in 64 15 = some (.baload, 0, 0, 0, []) := by decide +kernel
theorem t_64_16 : tb_in 64 16 = some (.ifCond .eq 9, 25, 0, 0, []) := by decide +kernel
theorem t_64_19 : tb_in 64 19 = some (.iload_n 1, 0, 0, 0, []) := by decide +kernel
theorem t_64_20 : tb_in 64 20 = some (.iconst 1, 0, 0, 1, []) := by decide +kernel
theorem t_64_21 : tb_in 64 21 = some (.iadd, 0, 0, 0, []) := by decide +kernel
theorem t_64_22 : tb_in 64 22 = some (.goto 4, 26, 0, 0, []) := by decide +kernel
theorem t_64_25 : tb_in 64 25 = some (.iload_n 1, 0, 0, 0, []) := by decide +kernel
theorem t_64_26 : tb_in 64 26 = some (.istore_n 1, 0, 0, 0, []) := by decide +kernel
theorem t_64_27 : tb_in 64 27 = some (.iinc 2 1, 0, 0, 1, []) := by decide +kernel
theorem t_64_30 : tb_in 64 30 = some (.goto (-26), 4, 0, 0, []) := by decide +kernel
theorem t_64_33 : tb_in 64 33 = some (.iload_n 1, 0, 0, 0, []) := by decide +kernel
theorem t_64_34 : tb_in 64 34 = some (.ireturn, 0, 0, 0, []) := by decide +kernel
theorem t_65_0 : tb_in 65 0 = some (.iconst 0, 0, 0, 0, []) := by decide +kernel
theorem t_65_1 : tb_in 65 1 = some (.istore_n 2, 0, 0, 0, []) := by decide +kernel
theorem t_65_2 : tb_in 65 2 = some (.iload_n 2, 0, 0, 0, []) := by decide +kernel
theorem t_65_3 : tb_in 65 3 = some (.bipush 96, 0, 0, 96, []) := by decide +kernel
theorem t_65_5 : tb_in 65 5 = some (.if_icmp .ge 77, 82, 0, 0, []) := by decide +kernel
theorem t_65_8 : tb_in 65 8 = some (.iconst 0, 0, 0, 0, []) := by decide +kernel
theorem t_65_9 : tb_in 65 9 = some (.istore_n 3, 0, 0, 0, []) := by decide +kernel
theorem t_65_10 : tb_in 65 10 = some (.iconst 0, 0, 0, 0, []) := by decide +kernel
theorem t_65_11 : tb_in 65 11 = some (.istore 4, 0, 0, 0, []) := by decide +kernel
theorem t_65_13 : tb_in 65 13 = some (.iload 4, 0, 0, 0, []) := by decide +kernel
theorem t_65_15 : tb_in 65 15 = some (.bipush 96, 0, 0, 96, []) := by decide +kernel
theorem t_65_17 : tb_in 65 17 = some (.if_icmp .ge 43, 60, 0, 0, []) := by decide +kernel
theorem t_65_20 : tb_in 65 20 = some (.aload_n 0, 0, 0, 0, []) := by decide +kernel
theorem t_65_21 : tb_in 65 21 = some (.getfield 34, 7, 11, 0, []) := by decide +kernel
theorem t_65_24 : tb_in 65 24 = some (.iload 4, 0, 0, 0, []) := by decide +kernel
theorem t_65_26 : tb_in 65 26 = some (.baload, 0, 0, 0, []) := by decide +kernel
theorem t_65_27 : tb_in 65 27 = some (.ifCond .eq 25, 52, 0, 0, []) := by decide +kernel
theorem t_65_30 : tb_in 65 30 = some (.aload_n 0, 0, 0, 0, []) := by decide +kernel
theorem t_65_31 : tb_in 65 31 = some (.getfield 59, 7, 19, 0, []) := by decide +kernel
theorem t_65_34 : tb_in 65 34 = some (.iload 4, 0, 0, 0, []) := by decide +kernel
theorem t_65_36 : tb_in 65 36 = some (.iaload, 0, 0, 0, []) := by decide +kernel
theorem t_65_37 : tb_in 65 37 = some (.aload_n 0, 0, 0, 0, []) := by decide +kernel
theorem t_65_38 : tb_in 65 38 = some (.getfield 59, 7, 19, 0, []) := by decide +kernel
theorem t_65_41 : tb_in 65 41 = some (.iload_n 2, 0, 0, 0, []) := by decide +kernel
theorem t_65_42 : tb_in 65 42 = some (.iaload, 0, 0, 0, []) := by decide +kernel
theorem t_65_43 : tb_in 65 43 = some (.if_icmp .ge 9, 52, 0, 0, []) := by decide +kernel
theorem t_65_46 : tb_in 65 46 = some (.iload_n 3, 0, 0, 0, []) := by decide +kernel
theorem t_65_47 : tb_in 65 47 = some (.iconst 1, 0, 0, 1, []) := by decide +kernel
theorem t_65_48 : tb_in 65 48 = some (.iadd, 0, 0, 0, []) := by decide +kernel
theorem t_65_49 : tb_in 65 49 = some (.goto 4, 53, 0, 0, []) := by decide +kernel
theorem t_65_52 : tb_in 65 52 = some (.iload_n 3, 0, 0, 0, []) := by decide +kernel
theorem t_65_53 : tb_in 65 53 = some (.istore_n 3, 0, 0, 0, []) := by decide +kernel
theorem t_65_54 : tb_in 65 54 = some (.iinc 4 1, 0, 0, 1, []) := by decide +kernel
theorem t_65_57 : tb_in 65 57 = some (.goto (-44), 13, 0, 0, []) := by decide +kernel
theorem t_65_60 : tb_in 65 60 = some (.aload_n 0, 0, 0, 0, []) := by decide +kernel
theorem t_65_61 : tb_in 65 61 = some (.getfield 34, 7, 11, 0, []) := by decide +kernel
theorem t_65_64 : tb_in 65 64 = some (.iload_n 2, 0, 0, 0, []) := by decide +kernel
theorem t_65_65 : tb_in 65 65 = some (.baload, 0, 0, 0, []) := by decide +kernel
theorem t_65_66 : tb_in 65 66 = some (.ifCond .eq 10, 76, 0, 0, []) := by decide +kernel
theorem t_65_69 : tb_in 65 69 = some (.iload_n 3, 0, 0, 0, []) := by decide +kernel
theorem t_65_70 : tb_in 65 70 = some (.iload_n 1, 0, 0, 0, []) := by decide +kernel
theorem t_65_71 : tb_in 65 71 = some (.if_icmp .ne 5, 76, 0, 0, []) := by decide +kernel
theorem t_65_74 : tb_in 65 74 = some (.iload_n 2, 0, 0, 0, []) := by decide +kernel
theorem t_65_75 : tb_in 65 75 = some (.ireturn, 0, 0, 0, []) := by decide +kernel
theorem t_65_76 : tb_in 65 76 = some (.iinc 2 1, 0, 0, 1, []) := by decide +kernel
theorem t_65_79 : tb_in 65 79 = some (.goto (-77), 2, 0, 0, []) := by decide +kernel
theorem t_65_82 : tb_in 65 82 = some (.iconst (-1), 0, 0, (-1), []) := by decide +kernel
theorem t_65_83 : tb_in 65 83 = some (.ireturn, 0, 0, 0, []) := by decide +kernel
theorem t_66_0 : tb_in 66 0 = some (.iconst 0, 0, 0, 0, []) := by decide +kernel
theorem t_66_1 : tb_in 66 1 = some (.istore_n 1, 0, 0, 0, []) := by decide +kernel
theorem t_66_2 : tb_in 66 2 = some (.aload_n 0, 0, 0, 0, []) := by decide +kernel
theorem t_66_3 : tb_in 66 3 = some (.invokevirtual 173, 64, 1, 0, []) := by decide +kernel
theorem t_66_6 : tb_in 66 6 = some (.aload_n 0, 0, 0, 0, []) := by decide +kernel
theorem t_66_7 : tb_in 66 7 = some (.getfield 62, 7, 21, 0, []) := by decide +kernel
theorem t_66_10 : tb_in 66 10 = some (.if_icmp .le 20, 30, 0, 0, []) := by decide +kernel
theorem t_66_13 : tb_in 66 13 = some (.aload_n 0, 0, 0, 0, []) := by decide +kernel
theorem t_66_14 : tb_in 66 14 = some (.getfield 34, 7, 11, 0, []) := by decide +kernel
theorem t_66_17 : tb_in 66 17 = some (.aload_n 0, 0, 0, 0, []) := by decide +kernel
theorem t_66_18 : tb_in 66 18 = some (.iconst 0, 0, 0, 0, []) := by decide +kernel
theorem t_66_19 : tb_in 66 19 = some (.invokevirtual 177, 65, 2, 0, []) := by decide +kernel
theorem t_66_22 : tb_in 66 22 = some (.iconst 0, 0, 0, 0, []) := by decide +kernel
theorem t_66_23 : tb_in 66 23 = some (.bastore, 0, 0, 0, []) := by decide +kernel
theorem t_66_24 : tb_in 66 24 = some (.iinc 1 1, 0, 0, 1, []) := by decide +kernel
theorem t_66_27 : tb_in 66 27 = some (.goto (-25), 2, 0, 0, []) := by decide +kernel
theorem t_66_30 : tb_in 66 30 = some (.iload_n 1, 0, 0, 0, []) := by decide +kernel
theorem t_66_31 : tb_in 66 31 = some (.ireturn, 0, 0, 0, []) := by decide +kernel
theorem t_67_0 : tb_in 67 0 = some (.aload_n 0, 0, 0, 0, []) := by decide +kernel
theorem t_67_1 : tb_in 67 1 = some (.iload_n 1, 0, 0, 0, []) := by decide +kernel
theorem t_67_2 : tb_in 67 2 = some (.iload_n 2, 0, 0, 0, []) := by decide +kernel
theorem t_67_3 : tb_in 67 3 = some (.invokestatic 180, 63, 2, 0, []) := by decide +kernel
theorem t_67_6 : tb_in 67 6 = some (.ifCond .eq 7, 13, 0, 0, []) := by decide +kernel
theorem t_67_9 : tb_in 67 9 = some (.iconst 1, 0, 0, 1, []) := by decide +kernel
theorem t_67_10 : tb_in 67 10 = some (.goto 4, 14, 0, 0, []) := by decide +kernel
theorem t_67_13 : tb_in 67 13 = some (.iconst 0, 0, 0, 0, []) := by decide +kernel
theorem t_67_14 : tb_in 67 14 = some (.putfield 84, 7, 0, 0, []) := by decide +kernel
theorem t_67_17 : tb_in 67 17 = some (.aload_n 0, 0, 0, 0, []) := by decide +kernel
theorem t_67_18 : tb_in 67 18 = some (.getfield 84, 7, 0, 0, []) := by decide +kernel
theorem t_67_21 : tb_in 67 21 = some (.ifCond .le 5, 26, 0, 0, []) := by decide +kernel
theorem t_67_24 : tb_in 67 24 = some (.iconst 0, 0, 0, 0, []) := by decide +kernel
theorem t_67_25 : tb_in 67 25 = some (.ireturn, 0, 0, 0, []) := by decide +kernel
theorem t_67_26 : tb_in 67 26 = some (.bipush 16, 0, 0, 16, []) := by decide +kernel
theorem t_67_28 : tb_in 67 28 = some (.iload_n 1, 0, 0, 0, []) := by decide +kernel
theorem t_67_29 : tb_in 67 29 = some (.imul, 0, 0, 0, []) := by decide +kernel
theorem t_67_30 : tb_in 67 30 = some (.iload_n 2, 0, 0, 0, []) := by decide +kernel
theorem t_67_31 : tb_in 67 31 = some (.iadd, 0, 0, 0, []) := by decide +kernel
theorem t_67_32 : tb_in 67 32 = some (.istore_n 3, 0, 0, 0, []) := by decide +kernel
theorem t_67_33 : tb_in 67 33 = some (.aload_n 0, 0, 0, 0, []) := by decide +kernel
theorem t_67_34 : tb_in 67 34 = some (.iconst 0, 0, 0, 0, []) := by decide +kernel
theorem t_67_35 : tb_in 67 35 = some (.putfield 113, 7, 26, 0, []) := by decide +kernel
theorem t_67_38 : tb_in 67 38 = some (.aload_n 0, 0, 0, 0, []) := by decide +kernel
theorem t_67_39 : tb_in 67 39 = some (.iconst 0, 0, 0, 0, []) := by decide +kernel
theorem t_67_40 : tb_in 67 40 = some (.putfield 134, 7, 29, 0, []) := by decide +kernel
theorem t_67_43 : tb_in 67 43 = some (.aload_n 0, 0, 0, 0, []) := by decide +kernel
theorem t_67_44 : tb_in 67 44 = some (.getfield 134, 7, 29, 0, []) := by decide +kernel
theorem t_67_47 : tb_in 67 47 = some (.ifCond .ne 60, 107, 0, 0, []) := by decide +kernel
theorem t_67_50 : tb_in 67 50 = some (.aload_n 0, 0, 0, 0, []) := by decide +kernel
theorem t_67_51 : tb_in 67 51 = some (.getfield 113, 7, 26, 0, []) := by decide +kernel
theorem t_67_54 : tb_in 67 54 = some (.ifCond .gt 11, 65, 0, 0, []) := by decide +kernel
theorem t_67_57 : tb_in 67 57 = some (.aload_n 0, 0, 0, 0, []) := by decide +kernel
theorem t_67_58 : tb_in 67 58 = some (.iload_n 3, 0, 0, 0, []) := by decide +kernel
theorem t_67_59 : tb_in 67 59 = some (.invokevirtual 138, 55, 2, 0, []) := by decide +kernel
theorem t_67_62 : tb_in 67 62 = some (.ifCond .ne 45, 107, 0, 0, []) := by decide +kernel
theorem t_67_65 : tb_in 67 65 = some (.aload_n 0, 0, 0, 0, []) := by decide +kernel
theorem t_67_66 : tb_in 67 66 = some (.getfield 113, 7, 26, 0, []) := by decide +kernel
theorem t_67_69 : tb_in 67 69 = some (.ifCond .le 24, 93, 0, 0, []) := by decide +kernel
theorem t_67_72 : tb_in 67 72 = some (.aload_n 0, 0, 0, 0, []) := by decide +kernel
theorem t_67_73 : tb_in 67 73 = some (.getfield 69, 7, 28, 0, []) := by decide +kernel
theorem t_67_76 : tb_in 67 76 = some (.aload_n 0, 0, 0, 0, []) := by decide +kernel
theorem t_67_77 : tb_in 67 77 = some (.getfield 113, 7, 26, 0, []) := by decide +kernel
theorem t_67_80 : tb_in 67 80 = some (.iconst 1, 0, 0, 1, []) := by decide +kernel
theorem t_67_81 : tb_in 67 81 = some (.isub, 0, 0, 0, []) := by decide +kernel
theorem t_67_82 : tb_in 67 82 = some (.baload, 0, 0, 0, []) := by decide +kernel
theorem t_67_83 : tb_in 67 83 = some (.ifCond .eq 10, 93, 0, 0, []) := by decide +kernel
theorem t_67_86 : tb_in 67 86 = some (.aload_n 0, 0, 0, 0, []) := by decide +kernel
theorem t_67_87 : tb_in 67 87 = some (.invokevirtual 183, 62, 1, 0, []) := by decide +kernel
theorem t_67_90 : tb_in 67 90 = some (.goto (-47), 43, 0, 0, []) := by decide +kernel
theorem t_67_93 : tb_in 67 93 = some (.aload_n 0, 0, 0, 0, []) := by decide +kernel
theorem t_67_94 : tb_in 67 94 = some (.getfield 113, 7, 26, 0, []) := by decide +kernel
theorem t_67_97 : tb_in 67 97 = some (.ifCond .le (-54), 43, 0, 0, []) := by decide +kernel
theorem t_67_100 : tb_in 67 100 = some (.aload_n 0, 0, 0, 0, []) := by decide +kernel
theorem t_67_101 : tb_in 67 101 = some (.invokevirtual 186, 57, 1, 0, []) := by decide +kernel
theorem t_67_104 : tb_in 67 104 = some (.goto (-61), 43, 0, 0, []) := by decide +kernel
theorem t_67_107 : tb_in 67 107 = some (.aload_n 0, 0, 0, 0, []) := by decide +kernel
theorem t_67_108 : tb_in 67 108 = some (.iconst 0, 0, 0, 0, []) := by decide +kernel
theorem t_67_109 : tb_in 67 109 = some (.putfield 113, 7, 26, 0, []) := by decide +kernel
theorem t_67_112 : tb_in 67 112 = some (.aload_n 0, 0, 0, 0, []) := by decide +kernel
theorem t_67_113 : tb_in 67 113 = some (.getfield 134, 7, 29, 0, []) := by decide +kernel
theorem t_67_116 : tb_in 67 116 = some (.ifCond .eq 10, 126, 0, 0, []) := by decide +kernel
theorem t_67_119 : tb_in 67 119 = some (.aload_n 0, 0, 0, 0, []) := by decide +kernel
theorem t_67_120 : tb_in 67 120 = some (.iconst 2, 0, 0, 2, []) := by decide +kernel
theorem t_67_121 : tb_in 67 121 = some (.putfield 84, 7, 0, 0, []) := by decide +kernel
theorem t_67_124 : tb_in 67 124 = some (.iconst 0, 0, 0, 0, []) := by decide +kernel
theorem t_67_125 : tb_in 67 125 = some (.ireturn, 0, 0, 0, []) := by decide +kernel
theorem t_67_126 : tb_in 67 126 = some (.aload_n 0, 0, 0, 0, []) := by decide +kernel
theorem t_67_127 : tb_in 67 127 = some (.iload_n 3, 0, 0, 0, []) := by decide +kernel
theorem t_67_128 : tb_in 67 128 = some (.invokevirtual 119, 51, 2, 0, []) := by decide +kernel
theorem t_67_131 : tb_in 67 131 = some (.aload_n 0, 0, 0, 0, []) := by decide +kernel
theorem t_67_132 : tb_in 67 132 = some (.invokevirtual 189, 66, 1, 0, []) := by decide +kernel
theorem t_67_135 : tb_in 67 135 = some (.istore 4, 0, 0, 0, []) := by decide +kernel
theorem t_67_137 : tb_in 67 137 = some (.aload_n 0, 0, 0, 0, []) := by decide +kernel
theorem t_67_138 : tb_in 67 138 = some (.getfield 38, 7, 12, 0, []) := by decide +kernel
theorem t_67_141 : tb_in 67 141 = some (.iload_n 3, 0, 0, 0, []) := by decide +kernel
theorem t_67_142 : tb_in 67 142 = some (.iaload, 0, 0, 0, []) := by decide +kernel
theorem t_67_143 : tb_in 67 143 = some (.ireturn, 0, 0, 0, []) := by decide +kernel
theorem t_68_0 : tb_in 68 0 = some (.aload_n 0, 0, 0, 0, []) := by decide +kernel
theorem t_68_1 : tb_in 68 1 = some (.iconst 0, 0, 0, 0, []) := by decide +kernel
theorem t_68_2 : tb_in 68 2 = some (.putfield 84, 7, 0, 0, []) := by decide +kernel
theorem t_68_5 : tb_in 68 5 = some (.iload_n 1, 0, 0, 0, []) := by decide +kernel
theorem t_68_6 : tb_in 68 6 = some (.tableswitch 68 0 5 #[38, 43, 48, 53, 58, 63], 74, 38, 0, [44, 49, 54, 59, 64, 69]) := by decide +kernel
theorem t_68_44 : tb_in 68 44 = some (.aload_n 0, 0, 0, 0, []) := by decide +kernel
theorem t_68_45 : tb_in 68 45 = some (.getfield 99, 7, 5, 0, []) := by decide +kernel
theorem t_68_48 : tb_in 68 48 = some (.ireturn, 0, 0, 0, []) := by decide +kernel
theorem t_68_49 : tb_in 68 49 = some (.aload_n 0, 0, 0, 0, []) := by decide +kernel
theorem t_68_50 : tb_in 68 50 = some (.getfield 170, 7, 22, 0, []) := by decide +kernel
theorem t_68_53 : tb_in 68 53 = some (.ireturn, 0, 0, 0, []) := by decide +kernel
theorem t_68_54 : tb_in 68 54 = some (.aload_n 0, 0, 0, 0, []) := by decide +kernel
theorem t_68_55 : tb_in 68 55 = some (.getfield 144, 7, 23, 0, []) := by decide +kernel
theorem t_68_58 : tb_in 68 58 = some (.ireturn, 0, 0, 0, []) := by decide +kernel
theorem t_68_59 : tb_in 68 59 = some (.aload_n 0, 0, 0, 0, []) := by decide +kernel
theorem t_68_60 : tb_in 68 60 = some (.getfield 131, 7, 24, 0, []) := by decide +kernel
theorem t_68_63 : tb_in 68 63 = some (.ireturn, 0, 0, 0, []) := by decide +kernel
theorem t_68_64 : tb_in 68 64 = some (.aload_n 0, 0, 0, 0, []) := by decide +kernel
theorem t_68_65 : tb_in 68 65 = some (.getfield 116, 7, 25, 0, []) := by decide +kernel
theorem t_68_68 : tb_in 68 68 = some (.ireturn, 0, 0, 0, []) := by decide +kernel
theorem t_68_69 : tb_in 68 69 = some (.aload_n 0, 0, 0, 0, []) := by decide +kernel
theorem t_68_70 : tb_in 68 70 = some (.invokevirtual 173, 64, 1, 0, []) := by decide +kernel
theorem t_68_73 : tb_in 68 73 = some (.ireturn, 0, 0, 0, []) := by decide +kernel
theorem t_68_74 : tb_in 68 74 = some (.iconst (-1), 0, 0, (-1), []) := by decide +kernel
theorem t_68_75 : tb_in 68 75 = some (.ireturn, 0, 0, 0, []) := by decide +kernel
theorem t_69_0 : tb_in 69 0 = some (.aload_n 0, 0, 0, 0, []) := by decide +kernel
theorem t_69_1 : tb_in 69 1 = some (.iload_n 1, 0, 0, 0, []) := by decide +kernel
theorem t_69_2 : tb_in 69 2 = some (.iload_n 2, 0, 0, 0, []) := by decide +kernel
theorem t_69_3 : tb_in 69 3 = some (.invokestatic 180, 63, 2, 0, []) := by decide +kernel
theorem t_69_6 : tb_in 69 6 = some (.ifCond .eq 7, 13, 0, 0, []) := by decide +kernel
theorem t_69_9 : tb_in 69 9 = some (.iconst 1, 0, 0, 1, []) := by decide +kernel
theorem t_69_10 : tb_in 69 10 = some (.goto 4, 14, 0, 0, []) := by decide +kernel
theorem t_69_13 : tb_in 69 13 = some (.iconst 0, 0, 0, 0, []) := by decide +kernel
theorem t_69_14 : tb_in 69 14 = some (.putfield 84, 7, 0, 0, []) := by decide +kernel
theorem t_69_17 : tb_in 69 17 = some (.aload_n 0, 0, 0, 0, []) := by decide +kernel
theorem t_69_18 : tb_in 69 18 = some (.getfield 84, 7, 0, 0, []) := by decide +kernel
theorem t_69_21 : tb_in 69 21 = some (.ifCond .ne 21, 42, 0, 0, []) := by decide +kernel
theorem t_69_24 : tb_in 69 24 = some (.aload_n 0, 0, 0, 0, []) := by decide +kernel
theorem t_69_25 : tb_in 69 25 = some (.getfield 34, 7, 11, 0, []) := by decide +kernel
theorem t_69_28 : tb_in 69 28 = some (.bipush 16, 0, 0, 16, []) := by decide +kernel
theorem t_69_30 : tb_in 69 30 = some (.iload_n 1, 0, 0, 0, []) := by decide +kernel
theorem t_69_31 : tb_in 69 31 = some (.imul, 0, 0, 0, []) := by decide +kernel
theorem t_69_32 : tb_in 69 32 = some (.iload_n 2, 0, 0, 0, []) := by decide +kernel
theorem t_69_33 : tb_in 69 33 = some (.iadd, 0, 0, 0, []) := by decide +kernel
theorem t_69_34 : tb_in 69 34 = some (.baload, 0, 0, 0, []) := by decide +kernel
theorem t_69_35 : tb_in 69 35 = some (.ifCond .eq 7, 42, 0, 0, []) := by decide +kernel
theorem t_69_38 : tb_in 69 38 = some (.iconst 1, 0, 0, 1, []) := by decide +kernel
theorem t_69_39 : tb_in 69 39 = some (.goto 4, 43, 0, 0, []) := by decide +kernel
theorem t_69_42 : tb_in 69 42 = some (.iconst 0, 0, 0, 0, []) := by decide +kernel
theorem t_69_43 : tb_in 69 43 = some (.ireturn, 0, 0, 0, []) := by decide +kernel
theorem t_70_0 : tb_in 70 0 = some (.bipush 16, 0, 0, 16, []) := by decide +kernel
theorem t_70_2 : tb_in 70 2 = some (.iload_n 1, 0, 0, 0, []) := by decide +kernel
theorem t_70_3 : tb_in 70 3 = some (.imul, 0, 0, 0, []) := by decide +kernel
theorem t_70_4 : tb_in 70 4 = some (.iload_n 2, 0, 0, 0, []) := by decide +kernel
theorem t_70_5 : tb_in 70 5 = some (.iadd, 0, 0, 0, []) := by decide +kernel
theorem t_70_6 : tb_in 70 6 = some (.istore 4, 0, 0, 0, []) := by decide +kernel
theorem t_70_8 : tb_in 70 8 = some (.aload_n 0, 0, 0, 0, []) := by decide +kernel
theorem t_70_9 : tb_in 70 9 = some (.iload_n 1, 0, 0, 0, []) := by decide +kernel
theorem t_70_10 : tb_in 70 10 = some (.iload_n 2, 0, 0, 0, []) := by decide +kernel
theorem t_70_11 : tb_in 70 11 = some (.invokestatic 180, 63, 2, 0, []) := by decide +kernel
theorem t_70_14 : tb_in 70 14 = some (.ifCond .ne 12, 26, 0, 0, []) := by decide +kernel
theorem t_70_17 : tb_in 70 17 = some (.iload_n 3, 0, 0, 0, []) := by decide +kernel
theorem t_70_18 : tb_in 70 18 = some (.ifCond .lt 8, 26, 0, 0, []) := by decide +kernel
theorem t_70_21 : tb_in 70 21 = some (.iload_n 3, 0, 0, 0, []) := by decide +kernel
theorem t_70_22 : tb_in 70 22 = some (.iconst 5, 0, 0, 5, []) := by decide +kernel
theorem t_70_23 : tb_in 70 23 = some (.if_icmp .le 7, 30, 0, 0, []) := by decide +kernel
theorem t_70_26 : tb_in 70 26 = some (.iconst 1, 0, 0, 1, []) := by decide +kernel
theorem t_70_27 : tb_in 70 27 = some (.goto 18, 45, 0, 0, []) := by decide +kernel
theorem t_70_30 : tb_in 70 30 = some (.aload_n 0, 0, 0, 0, []) := by decide +kernel
theorem t_70_31 : tb_in 70 31 = some (.getfield 34, 7, 11, 0, []) := by decide +kernel
theorem t_70_34 : tb_in 70 34 = some (.iload 4, 0, 0, 0, []) := by decide +kernel
theorem t_70_36 : tb_in 70 36 = some (.baload, 0, 0, 0, []) := by decide +kernel
theorem t_70_37 : tb_in 70 37 = some (.ifCond .ne 7, 44, 0, 0, []) := by decide +kernel
theorem t_70_40 : tb_in 70 40 = some (.iconst 2, 0, 0, 2, []) := by decide +kernel
theorem t_70_41 : tb_in 70 41 = some (.goto 4, 45, 0, 0, []) := by decide +kernel
theorem t_70_44 : tb_in 70 44 = some (.iconst 0, 0, 0, 0, []) := by decide +kernel
theorem t_70_45 : tb_in 70 45 = some (.putfield 84, 7, 0, 0, []) := by decide +kernel
theorem t_70_48 : tb_in 70 48 = some (.aload_n 0, 0, 0, 0, []) := by decide +kernel
theorem t_70_49 : tb_in 70 49 = some (.getfield 84, 7, 0, 0, []) := by decide +kernel
theorem t_70_52 : tb_in 70 52 = some (.ifCond .le 5, 57, 0, 0, []) := by decide +kernel
theorem t_70_55 : tb_in 70 55 = some (.iconst 0, 0, 0, 0, []) := by decide +kernel
theorem t_70_56 : tb_in 70 56 = some (.ireturn, 0, 0, 0, []) := by decide +kernel
theorem t_70_57 : tb_in 70 57 = some (.iload_n 3, 0, 0, 0, []) := by decide +kernel
theorem t_70_58 : tb_in 70 58 = some (.ifCond .ne 13, 71, 0, 0, []) := by decide +kernel
theorem t_70_61 : tb_in 70 61 = some (.aload_n 0, 0, 0, 0, []) := by decide +kernel
theorem t_70_62 : tb_in 70 62 = some (.getfield 38, 7, 12, 0, []) := by decide +kernel
theorem t_70_65 : tb_in 70 65 = some (.iload 4, 0, 0, 0, []) := by decide +kernel
theorem t_70_67 : tb_in 70 67 = some (.iaload, 0, 0, 0, []) := by decide +kernel
theorem t_70_68 : tb_in 70 68 = some (.goto 78, 146, 0, 0, []) := by decide +kernel
theorem t_70_71 : tb_in 70 71 = some (.iload_n 3, 0, 0, 0, []) := by decide +kernel
theorem t_70_72 : tb_in 70 72 = some (.iconst 1, 0, 0, 1, []) := by decide +kernel
theorem t_70_73 : tb_in 70 73 = some (.if_icmp .ne 13, 86, 0, 0, []) := by decide +kernel
theorem t_70_76 : tb_in 70 76 = some (.aload_n 0, 0, 0, 0, []) := by decide +kernel
theorem t_70_77 : tb_in 70 77 = some (.getfield 41, 7, 13, 0, []) := by decide +kernel
theorem t_70_80 : tb_in 70 80 = some (.iload 4, 0, 0, 0, []) := by decide +kernel
theorem t_70_82 : tb_in 70 82 = some (.iaload, 0, 0, 0, []) := by decide +kernel
theorem t_70_83 : tb_in 70 83 = some (.goto 63, 146, 0, 0, []) := by decide +kernel
theorem t_70_86 : tb_in 70 86 = some (.iload_n 3, 0, 0, 0, []) := by decide +kernel
theorem t_70_87 : tb_in 70 87 = some (.iconst 2, 0, 0, 2, []) := by decide +kernel
theorem t_70_88 : tb_in 70 88 = some (.if_icmp .ne 13, 101, 0, 0, []) := by decide +kernel
theorem t_70_91 : tb_in 70 91 = some (.aload_n 0, 0, 0, 0, []) := by decide +kernel
theorem t_70_92 : tb_in 70 92 = some (.getfield 44, 7, 14, 0, []) := by decide +kernel
theorem t_70_95 : tb_in 70 95 = some (.iload 4, 0, 0, 0, []) := by decide +kernel
theorem t_70_97 : tb_in 70 97 = some (.iaload, 0, 0, 0, []) := by decide +kernel
theorem t_70_98 : tb_in 70 98 = some (.goto 48, 146, 0, 0, []) := by decide +kernel
theorem t_70_101 : tb_in 70 101 = some (.iload_n 3, 0, 0, 0, []) := by decide +kernel
theorem t_70_102 : tb_in 70 102 = some (.iconst 3, 0, 0, 3, []) := by decide +kernel
theorem t_70_103 : tb_in 70 103 = some (.if_icmp .ne 13, 116, 0, 0, []) := by decide +kernel
theorem t_70_106 : tb_in 70 106 = some (.aload_n 0, 0, 0, 0, []) := by decide +kernel
theorem t_70_107 : tb_in 70 107 = some (.getfield 47, 7, 15, 0, []) := by decide +kernel
theorem t_70_110 : tb_in 70 110 = some (.iload 4, 0, 0, 0, []) := by decide +kernel
theorem t_70_112 : tb_in 70 112 = some (.iaload, 0, 0, 0, []) := by decide +kernel
theorem t_70_113 : tb_in 70 113 = some (.goto 33, 146, 0, 0, []) := by decide +kernel
theorem t_70_116 : tb_in 70 116 = some (.iload_n 3, 0, 0, 0, []) := by decide +kernel
theorem t_70_117 : tb_in 70 117 = some (.iconst 4, 0, 0, 4, []) := by decide +kernel
theorem t_70_118 : tb_in 70 118 = some (.if_icmp .ne 21, 139, 0, 0, []) := by decide +kernel
theorem t_70_121 : tb_in 70 121 = some (.aload_n 0, 0, 0, 0, []) := by decide +kernel
theorem t_70_122 : tb_in 70 122 = some (.getfield 50, 7, 16, 0, []) := by decide +kernel
theorem t_70_125 : tb_in 70 125 = some (.iload 4, 0, 0, 0, []) := by decide +kernel
theorem t_70_127 : tb_in 70 127 = some (.baload, 0, 0, 0, []) := by decide +kernel
theorem t_70_128 : tb_in 70 128 = some (.ifCond .eq 7, 135, 0, 0, []) := by decide +kernel
theorem t_70_131 : tb_in 70 131 = some (.iconst 1, 0, 0, 1, []) := by decide +kernel
theorem t_70_132 : tb_in 70 132 = some (.goto 14, 146, 0, 0, []) := by decide +kernel
theorem t_70_135 : tb_in 70 135 = some (.iconst 0, 0, 0, 0, []) := by decide +kernel
theorem t_70_136 : tb_in 70 136 = some (.goto 10, 146, 0, 0, []) := by decide +kernel
theorem t_70_139 : tb_in 70 139 = some (.aload_n 0, 0, 0, 0, []) := by decide +kernel
theorem t_70_140 : tb_in 70 140 = some (.getfield 56, 7, 18, 0, []) := by decide +kernel
theorem t_70_143 : tb_in 70 143 = some (.iload 4, 0, 0, 0, []) := by decide +kernel
theorem t_70_145 : tb_in 70 145 = some (.iaload, 0, 0, 0, []) := by decide +kernel
theorem t_70_146 : tb_in 70 146 = some (.ireturn, 0, 0, 0, []) := by decide +kernel
theorem t_71_0 : tb_in 71 0 = some (.bipush 16, 0, 0, 16, []) := by decide +kernel
theorem t_71_2 : tb_in 71 2 = some (.iload_n 1, 0, 0, 0, []) := by decide +kernel
theorem t_71_3 : tb_in 71 3 = some (.imul, 0, 0, 0, []) := by decide +kernel
theorem t_71_4 : tb_in 71 4 = some (.iload_n 2, 0, 0, 0, []) := by decide +kernel
theorem t_71_5 : tb_in 71 5 = some (.iadd, 0, 0, 0, []) := by decide +kernel
theorem t_71_6 : tb_in 71 6 = some (.istore 4, 0, 0, 0, []) := by decide +kernel
theorem t_71_8 : tb_in 71 8 = some (.aload_n 0, 0, 0, 0, []) := by decide +kernel
theorem t_71_9 : tb_in 71 9 = some (.iload_n 1, 0, 0, 0, []) := by decide +kernel
theorem t_71_10 : tb_in 71 10 = some (.iload_n 2, 0, 0, 0, []) := by decide +kernel
theorem t_71_11 : tb_in 71 11 = some (.invokestatic 180, 63, 2, 0, []) := by decide +kernel
theorem t_71_14 : tb_in 71 14 = some (.ifCond .eq 7, 21, 0, 0, []) := by decide +kernel
theorem t_71_17 : tb_in 71 17 = some (.iconst 1, 0, 0, 1, []) := by decide +kernel
theorem t_71_18 : tb_in 71 18 = some (.goto 18, 36, 0, 0, []) := by decide +kernel
theorem t_71_21 : tb_in 71 21 = some (.aload_n 0, 0, 0, 0, []) := by decide +kernel
theorem t_71_22 : tb_in 71 22 = some (.getfield 34, 7, 11, 0, []) := by decide +kernel
theorem t_71_25 : tb_in 71 25 = some (.iload 4, 0, 0, 0, []) := by decide +kernel
theorem t_71_27 : tb_in 71 27 = some (.baload, 0, 0, 0, []) := by decide +kernel
theorem t_71_28 : tb_in 71 28 = some (.ifCond .ne 7, 35, 0, 0, []) := by decide +kernel
theorem t_71_31 : tb_in 71 31 = some (.iconst 2, 0, 0, 2, []) := by decide +kernel
theorem t_71_32 : tb_in 71 32 = some (.goto 4, 36, 0, 0, []) := by decide +kernel
theorem t_71_35 : tb_in 71 35 = some (.iconst 0, 0, 0, 0, []) := by decide +kernel
theorem t_71_36 : tb_in 71 36 = some (.putfield 84, 7, 0, 0, []) := by decide +kernel
theorem t_71_39 : tb_in 71 39 = some (.aload_n 0, 0, 0, 0, []) := by decide +kernel
theorem t_71_40 : tb_in 71 40 = some (.getfield 84, 7, 0, 0, []) := by decide +kernel
theorem t_71_43 : tb_in 71 43 = some (.ifCond .le 7, 50, 0, 0, []) := by decide +kernel
theorem t_71_46 : tb_in 71 46 = some (.iconst 0, 0, 0, 0, []) := by decide +kernel
theorem t_71_47 : tb_in 71 47 = some (.goto 34, 81, 0, 0, []) := by decide +kernel
theorem t_71_50 : tb_in 71 50 = some (.iload_n 3, 0, 0, 0, []) := by decide +kernel
theorem t_71_51 : tb_in 71 51 = some (.ifCond .lt 14, 65, 0, 0, []) := by decide +kernel
theorem t_71_54 : tb_in 71 54 = some (.iload_n 3, 0, 0, 0, []) := by decide +kernel
theorem t_71_55 : tb_in 71 55 = some (.aload_n 0, 0, 0, 0, []) := by decide +kernel
theorem t_71_56 : tb_in 71 56 = some (.getfield 56, 7, 18, 0, []) := by decide +kernel
theorem t_71_59 : tb_in 71 59 = some (.iload 4, 0, 0, 0, []) := by decide +kernel
theorem t_71_61 : tb_in 71 61 = some (.iaload, 0, 0, 0, []) := by decide +kernel
theorem t_71_62 : tb_in 71 62 = some (.if_icmp .lt 7, 69, 0, 0, []) := by decide +kernel
theorem t_71_65 : tb_in 71 65 = some (.iconst (-1), 0, 0, (-1), []) := by decide +kernel
theorem t_71_66 : tb_in 71 66 = some (.goto 15, 81, 0, 0, []) := by decide +kernel
theorem t_71_69 : tb_in 71 69 = some (.aload_n 0, 0, 0, 0, []) := by decide +kernel
theorem t_71_70 : tb_in 71 70 = some (.getfield 53, 7, 17, 0, []) := by decide +kernel
theorem t_71_73 : tb_in 71 73 = some (.bipush 24, 0, 0, 24, []) := by decide +kernel
theorem t_71_75 : tb_in 71 75 = some (.iload 4, 0, 0, 0, []) := by decide +kernel
theorem t_71_77 : tb_in 71 77 = some (.imul, 0, 0, 0, []) := by decide +kernel
theorem t_71_78 : tb_in 71 78 = some (.iload_n 3, 0, 0, 0, []) := by decide +kernel
theorem t_71_79 : tb_in 71 79 = some (.iadd, 0, 0, 0, []) := by decide +kernel
theorem t_71_80 : tb_in 71 80 = some (.iaload, 0, 0, 0, []) := by decide +kernel
theorem t_71_81 : tb_in 71 81 = some (.ireturn, 0, 0, 0, []) := by decide +kernel
theorem t_72_0 : tb_in 72 0 = some (.aload_n 0, 0, 0, 0, []) := by decide +kernel
theorem t_72_1 : tb_in 72 1 = some (.iconst 0, 0, 0, 0, []) := by decide +kernel
theorem t_72_2 : tb_in 72 2 = some (.putfield 84, 7, 0, 0, []) := by decide +kernel
theorem t_72_5 : tb_in 72 5 = some (.iload_n 1, 0, 0, 0, []) := by decide +kernel
theorem t_72_6 : tb_in 72 6 = some (.ifCond .ge 7, 13, 0, 0, []) := by decide +kernel
theorem t_72_9 : tb_in 72 9 = some (.iconst (-1), 0, 0, (-1), []) := by decide +kernel
theorem t_72_10 : tb_in 72 10 = some (.goto 8, 18, 0, 0, []) := by decide +kernel
theorem t_72_13 : tb_in 72 13 = some (.aload_n 0, 0, 0, 0, []) := by decide +kernel
theorem t_72_14 : tb_in 72 14 = some (.iload_n 1, 0, 0, 0, []) := by decide +kernel
theorem t_72_15 : tb_in 72 15 = some (.invokevirtual 177, 65, 2, 0, []) := by decide +kernel
theorem t_72_18 : tb_in 72 18 = some (.ireturn, 0, 0, 0, []) := by decide +kernel
theorem t_73_0 : tb_in 73 0 = some (.aload_n 0, 0, 0, 0, []) := by decide +kernel
theorem t_73_1 : tb_in 73 1 = some (.iload_n 1, 0, 0, 0, []) := by decide +kernel
theorem t_73_2 : tb_in 73 2 = some (.iconst 1, 0, 0, 1, []) := by decide +kernel
theorem t_73_3 : tb_in 73 3 = some (.if_icmp .lt 9, 12, 0, 0, []) := by decide +kernel
theorem t_73_6 : tb_in 73 6 = some (.iload_n 1, 0, 0, 0, []) := by decide +kernel
theorem t_73_7 : tb_in 73 7 = some (.bipush 96, 0, 0, 96, []) := by decide +kernel
theorem t_73_9 : tb_in 73 9 = some (.if_icmp .le 7, 16, 0, 0, []) := by decide +kernel
theorem t_73_12 : tb_in 73 12 = some (.iconst 1, 0, 0, 1, []) := by decide +kernel
theorem t_73_13 : tb_in 73 13 = some (.goto 4, 17, 0, 0, []) := by decide +kernel
theorem t_73_16 : tb_in 73 16 = some (.iconst 0, 0, 0, 0, []) := by decide +kernel
theorem t_73_17 : tb_in 73 17 = some (.putfield 84, 7, 0, 0, []) := by decide +kernel
theorem t_73_20 : tb_in 73 20 = some (.aload_n 0, 0, 0, 0, []) := by decide +kernel
theorem t_73_21 : tb_in 73 21 = some (.getfield 84, 7, 0, 0, []) := by decide +kernel
theorem t_73_24 : tb_in 73 24 = some (.ifCond .le 5, 29, 0, 0, []) := by decide +kernel
theorem t_73_27 : tb_in 73 27 = some (.iconst 0, 0, 0, 0, []) := by decide +kernel
theorem t_73_28 : tb_in 73 28 = some (.ireturn, 0, 0, 0, []) := by decide +kernel
theorem t_73_29 : tb_in 73 29 = some (.aload_n 0, 0, 0, 0, []) := by decide +kernel
theorem t_73_30 : tb_in 73 30 = some (.iload_n 1, 0, 0, 0, []) := by decide +kernel
theorem t_73_31 : tb_in 73 31 = some (.putfield 62, 7, 21, 0, []) := by decide +kernel
theorem t_73_34 : tb_in 73 34 = some (.aload_n 0, 0, 0, 0, []) := by decide +kernel
theorem t_73_35 : tb_in 73 35 = some (.invokevirtual 189, 66, 1, 0, []) := by decide +kernel
theorem t_73_38 : tb_in 73 38 = some (.ireturn, 0, 0, 0, []) := by decide +kernel
theorem t_74_0 : tb_in 74 0 = some (.aload_n 0, 0, 0, 0, []) := by decide +kernel
theorem t_74_1 : tb_in 74 1 = some (.iload_n 1, 0, 0, 0, []) := by decide +kernel
theorem t_74_2 : tb_in 74 2 = some (.iload_n 2, 0, 0, 0, []) := by decide +kernel
theorem t_74_3 : tb_in 74 3 = some (.invokestatic 180, 63, 2, 0, []) := by decide +kernel
theorem t_74_6 : tb_in 74 6 = some (.ifCond .eq 7, 13, 0, 0, []) := by decide +kernel
theorem t_74_9 : tb_in 74 9 = some (.iconst 1, 0, 0, 1, []) := by decide +kernel
theorem t_74_10 : tb_in 74 10 = some (.goto 4, 14, 0, 0, []) := by decide +kernel
theorem t_74_13 : tb_in 74 13 = some (.iconst 0, 0, 0, 0, []) := by decide +kernel
theorem t_74_14 : tb_in 74 14 = some (.putfield 84, 7, 0, 0, []) := by decide +kernel
theorem t_74_17 : tb_in 74 17 = some (.aload_n 0, 0, 0, 0, []) := by decide +kernel
theorem t_74_18 : tb_in 74 18 = some (.getfield 84, 7, 0, 0, []) := by decide +kernel
theorem t_74_21 : tb_in 74 21 = some (.ifCond .le 5, 26, 0, 0, []) := by decide +kernel
theorem t_74_24 : tb_in 74 24 = some (.iconst 0, 0, 0, 0, []) := by decide +kernel
theorem t_74_25 : tb_in 74 25 = some (.ireturn, 0, 0, 0, []) := by decide +kernel
theorem t_74_26 : tb_in 74 26 = some (.aload_n 0, 0, 0, 0, []) := by decide +kernel
theorem t_74_27 : tb_in 74 27 = some (.getfield 34, 7, 11, 0, []) := by decide +kernel
theorem t_74_30 : tb_in 74 30 = some (.bipush 16, 0, 0, 16, []) := by decide +kernel
theorem t_74_32 : tb_in 74 32 = some (.iload_n 1, 0, 0, 0, []) := by decide +kernel
theorem t_74_33 : tb_in 74 33 = some (.imul, 0, 0, 0, []) := by decide +kernel
theorem t_74_34 : tb_in 74 34 = some (.iload_n 2, 0, 0, 0, []) := by decide +kernel
theorem t_74_35 : tb_in 74 35 = some (.iadd, 0, 0, 0, []) := by decide +kernel
theorem t_74_36 : tb_in 74 36 = some (.baload, 0, 0, 0, []) := by decide +kernel
theorem t_74_37 : tb_in 74 37 = some (.istore_n 3, 0, 0, 0, []) := by decide +kernel
theorem t_74_38 : tb_in 74 38 = some (.aload_n 0, 0, 0, 0, []) := by decide +kernel
theorem t_74_39 : tb_in 74 39 = some (.getfield 34, 7, 11, 0, []) := by decide +kernel
theorem t_74_42 : tb_in 74 42 = some (.bipush 16, 0, 0, 16, []) := by decide +kernel
theorem t_74_44 : tb_in 74 44 = some (.iload_n 1, 0, 0, 0, []) := by decide +kernel
theorem t_74_45 : tb_in 74 45 = some (.imul, 0, 0, 0, []) := by decide +kernel
theorem t_74_46 : tb_in 74 46 = some (.iload_n 2, 0, 0, 0, []) := by decide +kernel
theorem t_74_47 : tb_in 74 47 = some (.iadd, 0, 0, 0, []) := by decide +kernel
theorem t_74_48 : tb_in 74 48 = some (.iconst 0, 0, 0, 0, []) := by decide +kernel
theorem t_74_49 : tb_in 74 49 = some (.bastore, 0, 0, 0, []) := by decide +kernel
theorem t_74_50 : tb_in 74 50 = some (.iload_n 3, 0, 0, 0, []) := by decide +kernel
theorem t_74_51 : tb_in 74 51 = some (.ireturn, 0, 0, 0, []) := by decide +kernel
theorem t_75_0 : tb_in 75 0 = some (.aload_n 0, 0, 0, 0, []) := by decide +kernel
theorem t_75_1 : tb_in 75 1 = some (.invokespecial 3, 1000, 0, 0, []) := by decide +kernel
theorem t_75_4 : tb_in 75 4 = some (.aload_n 0, 0, 0, 0, []) := by decide +kernel
theorem t_75_5 : tb_in 75 5 = some (.iconst 0, 0, 0, 0, []) := by decide +kernel
theorem t_75_6 : tb_in 75 6 = some (.putfield 9, 0, 0, 0, []) := by decide +kernel
theorem t_75_9 : tb_in 75 9 = some (.aload_n 0, 0, 0, 0, []) := by decide +kernel
theorem t_75_10 : tb_in 75 10 = some (.bipush 24, 0, 0, 24, []) := by decide +kernel
theorem t_75_12 : tb_in 75 12 = some (.newarray .int, 0, 0, 0, []) := by decide +kernel
theorem t_75_14 : tb_in 75 14 = some (.putfield 15, 0, 1, 0, []) := by decide +kernel
theorem t_75_17 : tb_in 75 17 = some (.aload_n 0, 0, 0, 0, []) := by decide +kernel
theorem t_75_18 : tb_in 75 18 = some (.iconst 0, 0, 0, 0, []) := by decide +kernel
theorem t_75_19 : tb_in 75 19 = some (.putfield 19, 0, 2, 0, []) := by decide +kernel
theorem t_75_22 : tb_in 75 22 = some (.aload_n 0, 0, 0, 0, []) := by decide +kernel
theorem t_75_23 : tb_in 75 23 = some (.iconst 0, 0, 0, 0, []) := by decide +kernel
theorem t_75_24 : tb_in 75 24 = some (.putfield 22, 0, 3, 0, []) := by decide +kernel
theorem t_75_27 : tb_in 75 27 = some (.aload_n 0, 0, 0, 0, []) := by decide +kernel
theorem t_75_28 : tb_in 75 28 = some (.iconst 0, 0, 0, 0, []) := by decide +kernel
theorem t_75_29 : tb_in 75 29 = some (.putfield 25, 0, 4, 0, []) := by decide +kernel
theorem t_75_32 : tb_in 75 32 = some (.aload_n 0, 0, 0, 0, []) := by decide +kernel
theorem t_75_33 : tb_in 75 33 = some (.iconst 2, 0, 0, 2, []) := by decide +kernel
theorem t_75_34 : tb_in 75 34 = some (.putfield 28, 0, 5, 0, []) := by decide +kernel
theorem t_75_37 : tb_in 75 37 = some (.aload_n 0, 0, 0, 0, []) := by decide +kernel
theorem t_75_38 : tb_in 75 38 = some (.iconst 0, 0, 0, 0, []) := by decide +kernel
theorem t_75_39 : tb_in 75 39 = some (.putfield 31, 0, 6, 0, []) := by decide +kernel
theorem t_75_42 : tb_in 75 42 = some (.return_, 0, 0, 0, []) := by decide +kernel
theorem t_76_0 : tb_in 76 0 = some (.aload_n 0, 0, 0, 0, []) := by decide +kernel
theorem t_76_1 : tb_in 76 1 = some (.invokespecial 3, 1000, 0, 0, []) := by decide +kernel
theorem t_76_4 : tb_in 76 4 = some (.aload_n 0, 0, 0, 0, []) := by decide +kernel
theorem t_76_5 : tb_in 76 5 = some (.iconst 0, 0, 0, 0, []) := by decide +kernel
theorem t_76_6 : tb_in 76 6 = some (.putfield 9, 1, 0, 0, []) := by decide +kernel
theorem t_76_9 : tb_in 76 9 = some (.aload_n 0, 0, 0, 0, []) := by decide +kernel
theorem t_76_10 : tb_in 76 10 = some (.iconst 3, 0, 0, 3, []) := by decide +kernel
theorem t_76_11 : tb_in 76 11 = some (.newarray .int, 0, 0, 0, []) := by decide +kernel
theorem t_76_13 : tb_in 76 13 = some (.putfield 15, 1, 1, 0, []) := by decide +kernel
theorem t_76_16 : tb_in 76 16 = some (.return_, 0, 0, 0, []) := by decide +kernel
theorem t_77_0 : tb_in 77 0 = some (.aload_n 0, 0, 0, 0, []) := by decide +kernel
theorem t_77_1 : tb_in 77 1 = some (.dup, 0, 0, 0, []) := by decide +kernel
theorem t_77_2 : tb_in 77 2 = some (.getfield 9, 1, 0, 0, []) := by decide +kernel
theorem t_77_5 : tb_in 77 5 = some (.iconst 1, 0, 0, 1, []) := by decide +kernel
theorem t_77_6 : tb_in 77 6 = some (.iadd, 0, 0, 0, []) := by decide +kernel
theorem t_77_7 : tb_in 77 7 = some (.putfield 9, 1, 0, 0, []) := by decide +kernel
theorem t_77_10 : tb_in 77 10 = some (.aload_n 0, 0, 0, 0, []) := by decide +kernel
theorem t_77_11 : tb_in 77 11 = some (.getfield 15, 1, 1, 0, []) := by decide +kernel
theorem t_77_14 : tb_in 77 14 = some (.iload_n 1, 0, 0, 0, []) := by decide +kernel
theorem t_77_15 : tb_in 77 15 = some (.aload_n 0, 0, 0, 0, []) := by decide +kernel
theorem t_77_16 : tb_in 77 16 = some (.getfield 9, 1, 0, 0, []) := by decide +kernel
theorem t_77_19 : tb_in 77 19 = some (.iastore, 0, 0, 0, []) := by decide +kernel
theorem t_77_20 : tb_in 77 20 = some (.return_, 0, 0, 0, []) := by decide +kernel
theorem t_78_0 : tb_in 78 0 = some (.iload_n 1, 0, 0, 0, []) := by decide +kernel
theorem t_78_1 : tb_in 78 1 = some (.istore_n 3, 0, 0, 0, []) := by decide +kernel
theorem t_78_2 : tb_in 78 2 = some (.iload_n 3, 0, 0, 0, []) := by decide +kernel
theorem t_78_3 : tb_in 78 3 = some (.iconst 2, 0, 0, 2, []) := by decide +kernel
theorem t_78_4 : tb_in 78 4 = some (.if_icmp .gt 21, 25, 0, 0, []) := by decide +kernel
theorem t_78_7 : tb_in 78 7 = some (.aload_n 0, 0, 0, 0, []) := by decide +kernel
theorem t_78_8 : tb_in 78 8 = some (.getfield 15, 1, 1, 0, []) := by decide +kernel
theorem t_78_11 : tb_in 78 11 = some (.iload_n 3, 0, 0, 0, []) := by decide +kernel
theorem t_78_12 : tb_in 78 12 = some (.iaload, 0, 0, 0, []) := by decide +kernel
theorem t_78_13 : tb_in 78 13 = some (.iload_n 2, 0, 0, 0, []) := by decide +kernel
theorem t_78_14 : tb_in 78 14 = some (.if_icmp .le 5, 19, 0, 0, []) := by decide +kernel
theorem t_78_17 : tb_in 78 17 = some (.iconst 1, 0, 0, 1, []) := by decide +kernel
theorem t_78_18 : tb_in 78 18 = some (.ireturn, 0, 0, 0, []) := by decide +kernel
theorem t_78_19 : tb_in 78 19 = some (.iinc 3 1, 0, 0, 1, []) := by decide +kernel
theorem t_78_22 : tb_in 78 22 = some (.goto (-20), 2, 0, 0, []) := by decide +kernel
theorem t_78_25 : tb_in 78 25 = some (.iconst 0, 0, 0, 0, []) := by decide +kernel
theorem t_78_26 : tb_in 78 26 = some (.ireturn, 0, 0, 0, []) := by decide +kernel
theorem t_79_0 : tb_in 79 0 = some (.aload_n 0, 0, 0, 0, []) := by decide +kernel
theorem t_79_1 : tb_in 79 1 = some (.invokespecial 3, 1000, 0, 0, []) := by decide +kernel
theorem t_79_4 : tb_in 79 4 = some (.aload_n 0, 0, 0, 0, []) := by decide +kernel
theorem t_79_5 : tb_in 79 5 = some (.bipush 48, 0, 0, 48, []) := by decide +kernel
theorem t_79_7 : tb_in 79 7 = some (.newarray .int, 0, 0, 0, []) := by decide +kernel
theorem t_79_9 : tb_in 79 9 = some (.putfield 9, 2, 0, 0, []) := by decide +kernel
theorem t_79_12 : tb_in 79 12 = some (.aload_n 0, 0, 0, 0, []) := by decide +kernel
theorem t_79_13 : tb_in 79 13 = some (.bipush 48, 0, 0, 48, []) := by decide +kernel
theorem t_79_15 : tb_in 79 15 = some (.newarray .int, 0, 0, 0, []) := by decide +kernel
theorem t_79_17 : tb_in 79 17 = some (.putfield 15, 2, 1, 0, []) := by decide +kernel
theorem t_79_20 : tb_in 79 20 = some (.aload_n 0, 0, 0, 0, []) := by decide +kernel
theorem t_79_21 : tb_in 79 21 = some (.iconst 3, 0, 0, 3, []) := by decide +kernel
theorem t_79_22 : tb_in 79 22 = some (.newarray .int, 0, 0, 0, []) := by decide +kernel
theorem t_79_24 : tb_in 79 24 = some (.putfield 18, 2, 2, 0, []) := by decide +kernel
theorem t_79_27 : tb_in 79 27 = some (.return_, 0, 0, 0, []) := by decide +kernel
theorem t_80_0 : tb_in 80 0 = some (.aload_n 0, 0, 0, 0, []) := by decide +kernel
theorem t_80_1 : tb_in 80 1 = some (.invokespecial 3, 1000, 0, 0, []) := by decide +kernel
theorem t_80_4 : tb_in 80 4 = some (.aload_n 0, 0, 0, 0, []) := by decide +kernel
theorem t_80_5 : tb_in 80 5 = some (.iconst 0, 0, 0, 0, []) := by decide +kernel
theorem t_80_6 : tb_in 80 6 = some (.putfield 9, 3, 0, 0, []) := by decide +kernel
theorem t_80_9 : tb_in 80 9 = some (.aload_n 0, 0, 0, 0, []) := by decide +kernel
theorem t_80_10 : tb_in 80 10 = some (.bipush 96, 0, 0, 96, []) := by decide +kernel
theorem t_80_12 : tb_in 80 12 = some (.newarray .boolean, 0, 0, 0, []) := by decide +kernel
theorem t_80_14 : tb_in 80 14 = some (.putfield 15, 3, 1, 0, []) := by decide +kernel
theorem t_80_17 : tb_in 80 17 = some (.aload_n 0, 0, 0, 0, []) := by decide +kernel
theorem t_80_18 : tb_in 80 18 = some (.bipush 97, 0, 0, 97, []) := by decide +kernel
theorem t_80_20 : tb_in 80 20 = some (.newarray .int, 0, 0, 0, []) := by decide +kernel
theorem t_80_22 : tb_in 80 22 = some (.putfield 19, 3, 2, 0, []) := by decide +kernel
theorem t_80_25 : tb_in 80 25 = some (.aload_n 0, 0, 0, 0, []) := by decide +kernel
theorem t_80_26 : tb_in 80 26 = some (.bipush 97, 0, 0, 97, []) := by decide +kernel
theorem t_80_28 : tb_in 80 28 = some (.newarray .int, 0, 0, 0, []) := by decide +kernel
theorem t_80_30 : tb_in 80 30 = some (.putfield 23, 3, 3, 0, []) := by decide +kernel
theorem t_80_33 : tb_in 80 33 = some (.aload_n 0, 0, 0, 0, []) := by decide +kernel
theorem t_80_34 : tb_in 80 34 = some (.getfield 19, 3, 2, 0, []) := by decide +kernel
theorem t_80_37 : tb_in 80 37 = some (.bipush 96, 0, 0, 96, []) := by decide +kernel
theorem t_80_39 : tb_in 80 39 = some (.bipush 96, 0, 0, 96, []) := by decide +kernel
theorem t_80_41 : tb_in 80 41 = some (.iastore, 0, 0, 0, []) := by decide +kernel
theorem t_80_42 : tb_in 80 42 = some (.aload_n 0, 0, 0, 0, []) := by decide +kernel
theorem t_80_43 : tb_in 80 43 = some (.getfield 23, 3, 3, 0, []) := by decide +kernel
theorem t_80_46 : tb_in 80 46 = some (.bipush 96, 0, 0, 96, []) := by decide +kernel
theorem t_80_48 : tb_in 80 48 = some (.bipush 96, 0, 0, 96, []) := by decide +kernel
theorem t_80_50 : tb_in 80 50 = some (.iastore, 0, 0, 0, []) := by decide +kernel
theorem t_80_51 : tb_in 80 51 = some (.return_, 0, 0, 0, []) := by decide +kernel
theorem t_81_0 : tb_in 81 0 = some (.aload_n 0, 0, 0, 0, []) := by decide +kernel
theorem t_81_1 : tb_in 81 1 = some (.getfield 15, 3, 1, 0, []) := by decide +kernel
theorem t_81_4 : tb_in 81 4 = some (.iload_n 1, 0, 0, 0, []) := by decide +kernel
theorem t_81_5 : tb_in 81 5 = some (.baload, 0, 0, 0, []) := by decide +kernel
theorem t_81_6 : tb_in 81 6 = some (.ireturn, 0, 0, 0, []) := by decide +kernel
theorem t_82_0 : tb_in 82 0 = some (.aload_n 0, 0, 0, 0, []) := by decide +kernel
theorem t_82_1 : tb_in 82 1 = some (.iload_n 1, 0, 0, 0, []) := by decide +kernel
theorem t_82_2 : tb_in 82 2 = some (.invokevirtual 26, 83, 2, 0, []) := by decide +kernel
theorem t_82_5 : tb_in 82 5 = some (.aload_n 0, 0, 0, 0, []) := by decide +kernel
theorem t_82_6 : tb_in 82 6 = some (.getfield 19, 3, 2, 0, []) := by decide +kernel
theorem t_82_9 : tb_in 82 9 = some (.bipush 96, 0, 0, 96, []) := by decide +kernel
theorem t_82_11 : tb_in 82 11 = some (.iaload, 0, 0, 0, []) := by decide +kernel
theorem t_82_12 : tb_in 82 12 = some (.istore_n 2, 0, 0, 0, []) := by decide +kernel
theorem t_82_13 : tb_in 82 13 = some (.aload_n 0, 0, 0, 0, []) := by decide +kernel
theorem t_82_14 : tb_in 82 14 = some (.iload_n 2, 0, 0, 0, []) := by decide +kernel
theorem t_82_15 : tb_in 82 15 = some (.iload_n 1, 0, 0, 0, []) := by decide +kernel
theorem t_82_16 : tb_in 82 16 = some (.invokevirtual 30, 86, 3, 0, []) := by decide +kernel
theorem t_82_19 : tb_in 82 19 = some (.aload_n 0, 0, 0, 0, []) := by decide +kernel
theorem t_82_20 : tb_in 82 20 = some (.iload_n 1, 0, 0, 0, []) := by decide +kernel
theorem t_82_21 : tb_in 82 21 = some (.bipush 96, 0, 0, 96, []) := by decide +kernel
theorem t_82_23 : tb_in 82 23 = some (.invokevirtual 30, 86, 3, 0, []) := by decide +kernel
theorem t_82_26 : tb_in 82 26 = some (.aload_n 0, 0, 0, 0, []) := by decide +kernel
theorem t_82_27 : tb_in 82 27 = some (.getfield 15, 3, 1, 0, []) := by decide +kernel
theorem t_82_30 : tb_in 82 30 = some (.iload_n 1, 0, 0, 0, []) := by decide +kernel
theorem t_82_31 : tb_in 82 31 = some (.iconst 1, 0, 0, 1, []) := by decide +kernel
theorem t_82_32 : tb_in 82 32 = some (.bastore, 0, 0, 0, []) := by decide +kernel
theorem t_82_33 : tb_in 82 33 = some (.aload_n 0, 0, 0, 0, []) := by decide +kernel
theorem t_82_34 : tb_in 82 34 = some (.dup, 0, 0, 0, []) := by decide +kernel
theorem t_82_35 : tb_in 82 35 = some (.getfield 9, 3, 0, 0, []) := by decide +kernel
theorem t_82_38 : tb_in 82 38 = some (.iconst 1, 0, 0, 1, []) := by decide +kernel
theorem t_82_39 : tb_in 82 39 = some (.iadd, 0, 0, 0, []) := by decide +kernel
theorem t_82_40 : tb_in 82 40 = some (.putfield 9, 3, 0, 0, []) := by decide +kernel
theorem t_82_43 : tb_in 82 43 = some (.return_, 0, 0, 0, []) := by decide +kernel
theorem t_83_0 : tb_in 83 0 = some (.aload_n 0, 0, 0, 0, []) := by decide +kernel
theorem t_83_1 : tb_in 83 1 = some (.getfield 15, 3, 1, 0, []) := by decide +kernel
theorem t_83_4 : tb_in 83 4 = some (.iload_n 1, 0, 0, 0, []) := by decide +kernel
theorem t_83_5 : tb_in 83 5 = some (.baload, 0, 0, 0, []) := by decide +kernel
theorem t_83_6 : tb_in 83 6 = some (.ifCond .eq 36, 42, 0, 0, []) := by decide +kernel
theorem t_83_9 : tb_in 83 9 = some (.aload_n 0, 0, 0, 0, []) := by decide +kernel
theorem t_83_10 : tb_in 83 10 = some (.aload_n 0, 0, 0, 0, []) := by decide +kernel
theorem t_83_11 : tb_in 83 11 = some (.getfield 19, 3, 2, 0, []) := by decide +kernel
theorem t_83_14 : tb_in 83 14 = some (.iload_n 1, 0, 0, 0, []) := by decide +kernel
theorem t_83_15 : tb_in 83 15 = some (.iaload, 0, 0, 0, []) := by decide +kernel
theorem t_83_16 : tb_in 83 16 = some (.aload_n 0, 0, 0, 0, []) := by decide +kernel
theorem t_83_17 : tb_in 83 17 = some (.getfield 23, 3, 3, 0, []) := by decide +kernel
theorem t_83_20 : tb_in 83 20 = some (.iload_n 1, 0, 0, 0, []) := by decide +kernel
theorem t_83_21 : tb_in 83 21 = some (.iaload, 0, 0, 0, []) := by decide +kernel
theorem t_83_22 : tb_in 83 22 = some (.invokevirtual 30, 86, 3, 0, []) := by decide +kernel
theorem t_83_25 : tb_in 83 25 = some (.aload_n 0, 0, 0, 0, []) := by decide +kernel
theorem t_83_26 : tb_in 83 26 = some (.getfield 15, 3, 1, 0, []) := by decide +kernel
theorem t_83_29 : tb_in 83 29 = some (.iload_n 1, 0, 0, 0, []) := by decide +kernel
theorem t_83_30 : tb_in 83 30 = some (.iconst 0, 0, 0, 0, []) := by decide +kernel
theorem t_83_31 : tb_in 83 31 = some (.bastore, 0, 0, 0, []) := by decide +kernel
theorem t_83_32 : tb_in 83 32 = some (.aload_n 0, 0, 0, 0, []) := by decide +kernel
theorem t_83_33 : tb_in 83 33 = some (.dup, 0, 0, 0, []) := by decide +kernel
theorem t_83_34 : tb_in 83 34 = some (.getfield 9, 3, 0, 0, []) := by decide +kernel
theorem t_83_37 : tb_in 83 37 = some (.iconst 1, 0, 0, 1, []) := by decide +kernel
theorem t_83_38 : tb_in 83 38 = some (.isub, 0, 0, 0, []) := by decide +kernel
theorem t_83_39 : tb_in 83 39 = some (.putfield 9, 3, 0, 0, []) := by decide +kernel
theorem t_83_42 : tb_in 83 42 = some (.return_, 0, 0, 0, []) := by decide +kernel
theorem t_84_0 : tb_in 84 0 = some (.iconst 0, 0, 0, 0, []) := by decide +kernel
theorem t_84_1 : tb_in 84 1 = some (.istore_n 1, 0, 0, 0, []) := by decide +kernel
theorem t_84_2 : tb_in 84 2 = some (.iload_n 1, 0, 0, 0, []) := by decide +kernel
theorem t_84_3 : tb_in 84 3 = some (.bipush 96, 0, 0, 96, []) := by decide +kernel
theorem t_84_5 : tb_in 84 5 = some (.if_icmp .ge 14, 19, 0, 0, []) := by decide +kernel
theorem t_84_8 : tb_in 84 8 = some (.aload_n 0, 0, 0, 0, []) := by decide +kernel
theorem t_84_9 : tb_in 84 9 = some (.iload_n 1, 0, 0, 0, []) := by decide +kernel
theorem t_84_10 : tb_in 84 10 = some (.invokevirtual 26, 83, 2, 0, []) := by decide +kernel
theorem t_84_13 : tb_in 84 13 = some (.iinc 1 1, 0, 0, 1, []) := by decide +kernel
theorem t_84_16 : tb_in 84 16 = some (.goto (-14), 2, 0, 0, []) := by decide +kernel
theorem t_84_19 : tb_in 84 19 = some (.return_, 0, 0, 0, []) := by decide +kernel
theorem t_85_0 : tb_in 85 0 = some (.aload_n 0, 0, 0, 0, []) := by decide +kernel
theorem t_85_1 : tb_in 85 1 = some (.getfield 23, 3, 3, 0, []) := by decide +kernel
theorem t_85_4 : tb_in 85 4 = some (.bipush 96, 0, 0, 96, []) := by decide +kernel
theorem t_85_6 : tb_in 85 6 = some (.iaload, 0, 0, 0, []) := by decide +kernel
theorem t_85_7 : tb_in 85 7 = some (.istore_n 2, 0, 0, 0, []) := by decide +kernel
theorem t_85_8 : tb_in 85 8 = some (.iconst 0, 0, 0, 0, []) := by decide +kernel
theorem t_85_9 : tb_in 85 9 = some (.istore_n 3, 0, 0, 0, []) := by decide +kernel
theorem t_85_10 : tb_in 85 10 = some (.iload_n 3, 0, 0, 0, []) := by decide +kernel
theorem t_85_11 : tb_in 85 11 = some (.iload_n 1, 0, 0, 0, []) := by decide +kernel
theorem t_85_12 : tb_in 85 12 = some (.if_icmp .ge 16, 28, 0, 0, []) := by decide +kernel
theorem t_85_15 : tb_in 85 15 = some (.aload_n 0, 0, 0, 0, []) := by decide +kernel
theorem t_85_16 : tb_in 85 16 = some (.getfield 23, 3, 3, 0, []) := by decide +kernel
theorem t_85_19 : tb_in 85 19 = some (.iload_n 2, 0, 0, 0, []) := by decide +kernel
theorem t_85_20 : tb_in 85 20 = some (.iaload, 0, 0, 0, []) := by decide +kernel
theorem t_85_21 : tb_in 85 21 = some (.istore_n 2, 0, 0, 0, []) := by decide +kernel
theorem t_85_22 : tb_in 85 22 = some (.iinc 3 1, 0, 0, 1, []) := by decide +kernel
theorem t_85_25 : tb_in 85 25 = some (.goto (-15), 10, 0, 0, []) := by decide +kernel
theorem t_85_28 : tb_in 85 28 = some (.iload_n 2, 0, 0, 0, []) := by decide +kernel
theorem t_85_29 : tb_in 85 29 = some (.ireturn, 0, 0, 0, []) := by decide +kernel
theorem t_86_0 : tb_in 86 0 = some (.aload_n 0, 0, 0, 0, []) := by decide +kernel
theorem t_86_1 : tb_in 86 1 = some (.getfield 23, 3, 3, 0, []) := by decide +kernel
theorem t_86_4 : tb_in 86 4 = some (.iload_n 1, 0, 0, 0, []) := by decide +kernel
theorem t_86_5 : tb_in 86 5 = some (.iload_n 2, 0, 0, 0, []) := by decide +kernel
theorem t_86_6 : tb_in 86 6 = some (.iastore, 0, 0, 0, []) := by decide +kernel
theorem t_86_7 : tb_in 86 7 = some (.aload_n 0, 0, 0, 0, []) := by decide +kernel
theorem t_86_8 : tb_in 86 8 = some (.getfield 19, 3, 2, 0, []) := by decide +kernel
theorem t_86_11 : tb_in 86 11 = some (.iload_n 2, 0, 0, 0, []) := by decide +kernel
theorem t_86_12 : tb_in 86 12 = some (.iload_n 1, 0, 0, 0, []) := by decide +kernel
theorem t_86_13 : tb_in 86 13 = some (.iastore, 0, 0, 0, []) := by decide +kernel
theorem t_86_14 : tb_in 86 14 = some (.return_, 0, 0, 0, []) := by decide +kernel
theorem t_87_0 : tb_in 87 0 = some (.aload_n 0, 0, 0, 0, []) := by decide +kernel
theorem t_87_1 : tb_in 87 1 = some (.invokespecial 3, 1000, 0, 0, []) := by decide +kernel
theorem t_87_4 : tb_in 87 4 = some (.aload_n 0, 0, 0, 0, []) := by decide +kernel
theorem t_87_5 : tb_in 87 5 = some (.bipush 24, 0, 0, 24, []) := by decide +kernel
theorem t_87_7 : tb_in 87 7 = some (.newarray .char, 0, 0, 0, []) := by decide +kernel
theorem t_87_9 : tb_in 87 9 = some (.putfield 9, 4, 0, 0, []) := by decide +kernel
theorem t_87_12 : tb_in 87 12 = some (.aload_n 0, 0, 0, 0, []) := by decide +kernel
theorem t_87_13 : tb_in 87 13 = some (.iconst 0, 0, 0, 0, []) := by decide +kernel
theorem t_87_14 : tb_in 87 14 = some (.putfield 15, 4, 1, 0, []) := by decide +kernel
theorem t_87_17 : tb_in 87 17 = some (.return_, 0, 0, 0, []) := by decide +kernel
theorem t_88_0 : tb_in 88 0 = some (.iload_n 0, 0, 0, 0, []) := by decide +kernel
theorem t_88_1 : tb_in 88 1 = some (.bipush 48, 0, 0, 48, []) := by decide +kernel
theorem t_88_3 : tb_in 88 3 = some (.if_icmp .lt 9, 12, 0, 0, []) := by decide +kernel
theorem t_88_6 : tb_in 88 6 = some (.iload_n 0, 0, 0, 0, []) := by decide +kernel
theorem t_88_7 : tb_in 88 7 = some (.bipush 57, 0, 0, 57, []) := by decide +kernel
theorem t_88_9 : tb_in 88 9 = some (.if_icmp .le 9, 18, 0, 0, []) := by decide +kernel
theorem t_88_12 : tb_in 88 12 = some (.iload_n 0, 0, 0, 0, []) := by decide +kernel
theorem t_88_13 : tb_in 88 13 = some (.bipush 107, 0, 0, 107, []) := by decide +kernel
theorem t_88_15 : tb_in 88 15 = some (.if_icmp .ne 5, 20, 0, 0, []) := by decide +kernel
theorem t_88_18 : tb_in 88 18 = some (.iconst 0, 0, 0, 0, []) := by decide +kernel
theorem t_88_19 : tb_in 88 19 = some (.ireturn, 0, 0, 0, []) := by decide +kernel
theorem t_88_20 : tb_in 88 20 = some (.iload_n 0, 0, 0, 0, []) := by decide +kernel
theorem t_88_21 : tb_in 88 21 = some (.bipush 103, 0, 0, 103, []) := by decide +kernel
theorem t_88_23 : tb_in 88 23 = some (.if_icmp .lt 9, 32, 0, 0, []) := by decide +kernel
theorem t_88_26 : tb_in 88 26 = some (.iload_n 0, 0, 0, 0, []) := by decide +kernel
theorem t_88_27 : tb_in 88 27 = some (.bipush 105, 0, 0, 105, []) := by decide +kernel
theorem t_88_29 : tb_in 88 29 = some (.if_icmp .le 15, 44, 0, 0, []) := by decide +kernel
theorem t_88_32 : tb_in 88 32 = some (.iload_n 0, 0, 0, 0, []) := by decide +kernel
theorem t_88_33 : tb_in 88 33 = some (.bipush 65, 0, 0, 65, []) := by decide +kernel
theorem t_88_35 : tb_in 88 35 = some (.if_icmp .lt 11, 46, 0, 0, []) := by decide +kernel
theorem t_88_38 : tb_in 88 38 = some (.iload_n 0, 0, 0, 0, []) := by decide +kernel
theorem t_88_39 : tb_in 88 39 = some (.bipush 70, 0, 0, 70, []) := by decide +kernel
theorem t_88_41 : tb_in 88 41 = some (.if_icmp .gt 5, 46, 0, 0, []) := by decide +kernel
theorem t_88_44 : tb_in 88 44 = some (.iconst 1, 0, 0, 1, []) := by decide +kernel
theorem t_88_45 : tb_in 88 45 = some (.ireturn, 0, 0, 0, []) := by decide +kernel
theorem t_88_46 : tb_in 88 46 = some (.iload_n 0, 0, 0, 0, []) := by decide +kernel
theorem t_88_47 : tb_in 88 47 = some (.bipush 43, 0, 0, 43, []) := by decide +kernel
theorem t_88_49 : tb_in 88 49 = some (.if_icmp .eq 15, 64, 0, 0, []) := by decide +kernel
theorem t_88_52 : tb_in 88 52 = some (.iload_n 0, 0, 0, 0, []) := by decide +kernel
theorem t_88_53 : tb_in 88 53 = some (.bipush 45, 0, 0, 45, []) := by decide +kernel
theorem t_88_55 : tb_in 88 55 = some (.if_icmp .eq 9, 64, 0, 0, []) := by decide +kernel
theorem t_88_58 : tb_in 88 58 = some (.iload_n 0, 0, 0, 0, []) := by decide +kernel
theorem t_88_59 : tb_in 88 59 = some (.bipush 42, 0, 0, 42, []) := by decide +kernel
theorem t_88_61 : tb_in 88 61 = some (.if_icmp .ne 5, 66, 0, 0, []) := by decide +kernel
theorem t_88_64 : tb_in 88 64 = some (.iconst 2, 0, 0, 2, []) := by decide +kernel
theorem t_88_65 : tb_in 88 65 = some (.ireturn, 0, 0, 0, []) := by decide +kernel
theorem t_88_66 : tb_in 88 66 = some (.iload_n 0, 0, 0, 0, []) := by decide +kernel
theorem t_88_67 : tb_in 88 67 = some (.bipush 63, 0, 0, 63, []) := by decide +kernel
theorem t_88_69 : tb_in 88 69 = some (.if_icmp .ne 7, 76, 0, 0, []) := by decide +kernel
theorem t_88_72 : tb_in 88 72 = some (.iconst 3, 0, 0, 3, []) := by decide +kernel
theorem t_88_73 : tb_in 88 73 = some (.goto 4, 77, 0, 0, []) := by decide +kernel
theorem t_88_76 : tb_in 88 76 = some (.iconst (-1), 0, 0, (-1), []) := by decide +kernel
theorem t_88_77 : tb_in 88 77 = some (.ireturn, 0, 0, 0, []) := by decide +kernel
theorem t_89_0 : tb_in 89 0 = some (.aload_n 0, 0, 0, 0, []) := by decide +kernel
theorem t_89_1 : tb_in 89 1 = some (.getfield 15, 4, 1, 0, []) := by decide +kernel
theorem t_89_4 : tb_in 89 4 = some (.bipush 24, 0, 0, 24, []) := by decide +kernel
theorem t_89_6 : tb_in 89 6 = some (.if_icmp .ge 23, 29, 0, 0, []) := by decide +kernel
theorem t_89_9 : tb_in 89 9 = some (.aload_n 0, 0, 0, 0, []) := by decide +kernel
theorem t_89_10 : tb_in 89 10 = some (.getfield 9, 4, 0, 0, []) := by decide +kernel
theorem t_89_13 : tb_in 89 13 = some (.aload_n 0, 0, 0, 0, []) := by decide +kernel
theorem t_89_14 : tb_in 89 14 = some (.getfield 15, 4, 1, 0, []) := by decide +kernel
theorem t_89_17 : tb_in 89 17 = some (.iload_n 1, 0, 0, 0, []) := by decide +kernel
theorem t_89_18 : tb_in 89 18 = some (.castore, 0, 0, 0, []) := by decide +kernel
theorem t_89_19 : tb_in 89 19 = some (.aload_n 0, 0, 0, 0, []) := by decide +kernel
theorem t_89_20 : tb_in 89 20 = some (.dup, 0, 0, 0, []) := by decide +kernel
theorem t_89_21 : tb_in 89 21 = some (.getfield 15, 4, 1, 0, []) := by decide +kernel
theorem t_89_24 : tb_in 89 24 = some (.iconst 1, 0, 0, 1, []) := by decide +kernel
theorem t_89_25 : tb_in 89 25 = some (.iadd, 0, 0, 0, []) := by decide +kernel
theorem t_89_26 : tb_in 89 26 = some (.putfield 15, 4, 1, 0, []) := by decide +kernel
theorem t_89_29 : tb_in 89 29 = some (.return_, 0, 0, 0, []) := by decide +kernel
theorem t_90_0 : tb_in 90 0 = some (.aload_n 0, 0, 0, 0, []) := by decide +kernel
theorem t_90_1 : tb_in 90 1 = some (.iconst 0, 0, 0, 0, []) := by decide +kernel
theorem t_90_2 : tb_in 90 2 = some (.putfield 15, 4, 1, 0, []) := by decide +kernel
theorem t_90_5 : tb_in 90 5 = some (.iconst 0, 0, 0, 0, []) := by decide +kernel
theorem t_90_6 : tb_in 90 6 = some (.istore_n 2, 0, 0, 0, []) := by decide +kernel
theorem t_90_7 : tb_in 90 7 = some (.iload_n 2, 0, 0, 0, []) := by decide +kernel
theorem t_90_8 : tb_in 90 8 = some (.aload_n 1, 0, 0, 0, []) := by decide +kernel
theorem t_90_9 : tb_in 90 9 = some (.getfield 15, 4, 1, 0, []) := by decide +kernel
theorem t_90_12 : tb_in 90 12 = some (.if_icmp .ge 19, 31, 0, 0, []) := by decide +kernel
theorem t_90_15 : tb_in 90 15 = some (.aload_n 0, 0, 0, 0, []) := by decide +kernel
theorem t_90_16 : tb_in 90 16 = some (.aload_n 1, 0, 0, 0, []) := by decide +kernel
theorem t_90_17 : tb_in 90 17 = some (.getfield 9, 4, 0, 0, []) := by decide +kernel
theorem t_90_20 : tb_in 90 20 = some (.iload_n 2, 0, 0, 0, []) := by decide +kernel
theorem t_90_21 : tb_in 90 21 = some (.caload, 0, 0, 0, []) := by decide +kernel
theorem t_90_22 : tb_in 90 22 = some (.invokevirtual 19, 89, 2, 0, []) := by decide +kernel
theorem t_90_25 : tb_in 90 25 = some (.iinc 2 1, 0, 0, 1, []) := by decide +kernel
theorem t_90_28 : tb_in 90 28 = some (.goto (-21), 7, 0, 0, []) := by decide +kernel
theorem t_90_31 : tb_in 90 31 = some (.return_, 0, 0, 0, []) := by decide +kernel
theorem t_91_0 : tb_in 91 0 = some (.iconst 1, 0, 0, 1, []) := by decide +kernel
theorem t_91_1 : tb_in 91 1 = some (.istore_n 1, 0, 0, 0, []) := by decide +kernel
theorem t_91_2 : tb_in 91 2 = some (.iconst 0, 0, 0, 0, []) := by decide +kernel
theorem t_91_3 : tb_in 91 3 = some (.istore_n 2, 0, 0, 0, []) := by decide +kernel
theorem t_91_4 : tb_in 91 4 = some (.iload_n 2, 0, 0, 0, []) := by decide +kernel
theorem t_91_5 : tb_in 91 5 = some (.aload_n 0, 0, 0, 0, []) := by decide +kernel
theorem t_91_6 : tb_in 91 6 = some (.getfield 15, 4, 1, 0, []) := by decide +kernel
theorem t_91_9 : tb_in 91 9 = some (.if_icmp .ge 36, 45, 0, 0, []) := by decide +kernel
theorem t_91_12 : tb_in 91 12 = some (.aload_n 0, 0, 0, 0, []) := by decide +kernel
theorem t_91_13 : tb_in 91 13 = some (.getfield 9, 4, 0, 0, []) := by decide +kernel
theorem t_91_16 : tb_in 91 16 = some (.iload_n 2, 0, 0, 0, []) := by decide +kernel
theorem t_91_17 : tb_in 91 17 = some (.caload, 0, 0, 0, []) := by decide +kernel
theorem t_91_18 : tb_in 91 18 = some (.invokestatic 23, 88, 1, 0, []) := by decide +kernel
theorem t_91_21 : tb_in 91 21 = some (.istore_n 3, 0, 0, 0, []) := by decide +kernel
theorem t_91_22 : tb_in 91 22 = some (.iload_n 1, 0, 0, 0, []) := by decide +kernel
theorem t_91_23 : tb_in 91 23 = some (.ifCond .eq 8, 31, 0, 0, []) := by decide +kernel
theorem t_91_26 : tb_in 91 26 = some (.iload_n 3, 0, 0, 0, []) := by decide +kernel
theorem t_91_27 : tb_in 91 27 = some (.iconst (-1), 0, 0, (-1), []) := by decide +kernel
theorem t_91_28 : tb_in 91 28 = some (.if_icmp .ne 5, 33, 0, 0, []) := by decide +kernel
theorem t_91_31 : tb_in 91 31 = some (.iload_n 2, 0, 0, 0, []) := by decide +kernel
theorem t_91_32 : tb_in 91 32 = some (.ireturn, 0, 0, 0, []) := by decide +kernel
theorem t_91_33 : tb_in 91 33 = some (.iload_n 1, 0, 0, 0, []) := by decide +kernel
theorem t_91_34 : tb_in 91 34 = some (.iload_n 3, 0, 0, 0, []) := by decide +kernel
theorem t_91_35 : tb_in 91 35 = some (.iconst 1, 0, 0, 1, []) := by decide +kernel
theorem t_91_36 : tb_in 91 36 = some (.isub, 0, 0, 0, []) := by decide +kernel
theorem t_91_37 : tb_in 91 37 = some (.iadd, 0, 0, 0, []) := by decide +kernel
theorem t_91_38 : tb_in 91 38 = some (.istore_n 1, 0, 0, 0, []) := by decide +kernel
theorem t_91_39 : tb_in 91 39 = some (.iinc 2 1, 0, 0, 1, []) := by decide +kernel
theorem t_91_42 : tb_in 91 42 = some (.goto (-38), 4, 0, 0, []) := by decide +kernel
theorem t_91_45 : tb_in 91 45 = some (.iload_n 1, 0, 0, 0, []) := by decide +kernel
theorem t_91_46 : tb_in 91 46 = some (.ifCond .ne 7, 53, 0, 0, []) := by decide +kernel
theorem t_91_49 : tb_in 91 49 = some (.iconst (-1), 0, 0, (-1), []) := by decide +kernel
theorem t_91_50 : tb_in 91 50 = some (.goto 7, 57, 0, 0, []) := by decide +kernel
theorem t_91_53 : tb_in 91 53 = some (.aload_n 0, 0, 0, 0, []) := by decide +kernel
theorem t_91_54 : tb_in 91 54 = some (.getfield 15, 4, 1, 0, []) := by decide +kernel
theorem t_91_57 : tb_in 91 57 = some (.ireturn, 0, 0, 0, []) := by decide +kernel
theorem t_92_0 : tb_in 92 0 = some (.iconst 1, 0, 0, 1, []) := by decide +kernel
theorem t_92_1 : tb_in 92 1 = some (.istore_n 2, 0, 0, 0, []) := by decide +kernel
theorem t_92_2 : tb_in 92 2 = some (.iload_n 1, 0, 0, 0, []) := by decide +kernel
theorem t_92_3 : tb_in 92 3 = some (.istore_n 3, 0, 0, 0, []) := by decide +kernel
theorem t_92_4 : tb_in 92 4 = some (.iload_n 2, 0, 0, 0, []) := by decide +kernel
theorem t_92_5 : tb_in 92 5 = some (.ifCond .le 31, 36, 0, 0, []) := by decide +kernel
theorem t_92_8 : tb_in 92 8 = some (.iload_n 3, 0, 0, 0, []) := by decide +kernel
theorem t_92_9 : tb_in 92 9 = some (.aload_n 0, 0, 0, 0, []) := by decide +kernel
theorem t_92_10 : tb_in 92 10 = some (.getfield 15, 4, 1, 0, []) := by decide +kernel
theorem t_92_13 : tb_in 92 13 = some (.if_icmp .ge 23, 36, 0, 0, []) := by decide +kernel
theorem t_92_16 : tb_in 92 16 = some (.iload_n 2, 0, 0, 0, []) := by decide +kernel
theorem t_92_17 : tb_in 92 17 = some (.aload_n 0, 0, 0, 0, []) := by decide +kernel
theorem t_92_18 : tb_in 92 18 = some (.getfield 9, 4, 0, 0, []) := by decide +kernel
theorem t_92_21 : tb_in 92 21 = some (.iload_n 3, 0, 0, 0, []) := by decide +kernel
theorem t_92_22 : tb_in 92 22 = some (.caload, 0, 0, 0, []) := by decide +kernel
theorem t_92_23 : tb_in 92 23 = some (.invokestatic 23, 88, 1, 0, []) := by decide +kernel
theorem t_92_26 : tb_in 92 26 = some (.iconst 1, 0, 0, 1, []) := by decide +kernel
theorem t_92_27 : tb_in 92 27 = some (.isub, 0, 0, 0, []) := by decide +kernel
theorem t_92_28 : tb_in 92 28 = some (.iadd, 0, 0, 0, []) := by decide +kernel
theorem t_92_29 : tb_in 92 29 = some (.istore_n 2, 0, 0, 0, []) := by decide +kernel
theorem t_92_30 : tb_in 92 30 = some (.iinc 3 1, 0, 0, 1, []) := by decide +kernel
theorem t_92_33 : tb_in 92 33 = some (.goto (-29), 4, 0, 0, []) := by decide +kernel
theorem t_92_36 : tb_in 92 36 = some (.iload_n 3, 0, 0, 0, []) := by decide +kernel
theorem t_92_37 : tb_in 92 37 = some (.ireturn, 0, 0, 0, []) := by decide +kernel
theorem t_93_0 : tb_in 93 0 = some (.aload_n 0, 0, 0, 0, []) := by decide +kernel
theorem t_93_1 : tb_in 93 1 = some (.invokespecial 3, 1000, 0, 0, []) := by decide +kernel
theorem t_93_4 : tb_in 93 4 = some (.aload_n 0, 0, 0, 0, []) := by decide +kernel
theorem t_93_5 : tb_in 93 5 = some (.iconst (-1), 0, 0, (-1), []) := by decide +kernel
theorem t_93_6 : tb_in 93 6 = some (.putfield 9, 5, 0, 0, []) := by decide +kernel
theorem t_93_9 : tb_in 93 9 = some (.aload_n 0, 0, 0, 0, []) := by decide +kernel
theorem t_93_10 : tb_in 93 10 = some (.iconst 0, 0, 0, 0, []) := by decide +kernel
theorem t_93_11 : tb_in 93 11 = some (.putfield 15, 5, 1, 0, []) := by decide +kernel
theorem t_93_14 : tb_in 93 14 = some (.aload_n 0, 0, 0, 0, []) := by decide +kernel
theorem t_93_15 : tb_in 93 15 = some (.bipush 24, 0, 0, 24, []) := by decide +kernel
theorem t_93_17 : tb_in 93 17 = some (.newarray .int, 0, 0, 0, []) := by decide +kernel
theorem t_93_19 : tb_in 93 19 = some (.putfield 18, 5, 2, 0, []) := by decide +kernel
theorem t_93_22 : tb_in 93 22 = some (.aload_n 0, 0, 0, 0, []) := by decide +kernel
theorem t_93_23 : tb_in 93 23 = some (.iconst 0, 0, 0, 0, []) := by decide +kernel
theorem t_93_24 : tb_in 93 24 = some (.putfield 22, 5, 3, 0, []) := by decide +kernel
theorem t_93_27 : tb_in 93 27 = some (.aload_n 0, 0, 0, 0, []) := by decide +kernel
theorem t_93_28 : tb_in 93 28 = some (.new 25, 4, 0, 0, []) := by decide +kernel
theorem t_93_31 : tb_in 93 31 = some (.dup, 0, 0, 0, []) := by decide +kernel
theorem t_93_32 : tb_in 93 32 = some (.invokespecial 27, 87, 1, 0, []) := by decide +kernel
theorem t_93_35 : tb_in 93 35 = some (.putfield 28, 5, 4, 0, []) := by decide +kernel
theorem t_93_38 : tb_in 93 38 = some (.aload_n 0, 0, 0, 0, []) := by decide +kernel
theorem t_93_39 : tb_in 93 39 = some (.iconst 0, 0, 0, 0, []) := by decide +kernel
theorem t_93_40 : tb_in 93 40 = some (.putfield 32, 5, 5, 0, []) := by decide +kernel
theorem t_93_43 : tb_in 93 43 = some (.aload_n 0, 0, 0, 0, []) := by decide +kernel
theorem t_93_44 : tb_in 93 44 = some (.iconst 0, 0, 0, 0, []) := by decide +kernel
theorem t_93_45 : tb_in 93 45 = some (.putfield 35, 5, 6, 0, []) := by decide +kernel
theorem t_93_48 : tb_in 93 48 = some (.aload_n 0, 0, 0, 0, []) := by decide +kernel
theorem t_93_49 : tb_in 93 49 = some (.bipush 24, 0, 0, 24, []) := by decide +kernel
theorem t_93_51 : tb_in 93 51 = some (.newarray .char, 0, 0, 0, []) := by decide +kernel
theorem t_93_53 : tb_in 93 53 = some (.putfield 38, 5, 7, 0, []) := by decide +kernel
theorem t_93_56 : tb_in 93 56 = some (.aload_n 0, 0, 0, 0, []) := by decide +kernel
theorem t_93_57 : tb_in 93 57 = some (.bipush 24, 0, 0, 24, []) := by decide +kernel
theorem t_93_59 : tb_in 93 59 = some (.newarray .boolean, 0, 0, 0, []) := by decide +kernel
theorem t_93_61 : tb_in 93 61 = some (.putfield 42, 5, 8, 0, []) := by decide +kernel
theorem t_93_64 : tb_in 93 64 = some (.aload_n 0, 0, 0, 0, []) := by decide +kernel
theorem t_93_65 : tb_in 93 65 = some (.bipush 24, 0, 0, 24, []) := by decide +kernel
theorem t_93_67 : tb_in 93 67 = some (.newarray .int, 0, 0, 0, []) := by decide +kernel
theorem t_93_69 : tb_in 93 69 = some (.putfield 46, 5, 9, 0, []) := by decide +kernel
theorem t_93_72 : tb_in 93 72 = some (.aload_n 0, 0, 0, 0, []) := by decide +kernel
theorem t_93_73 : tb_in 93 73 = some (.iconst 0, 0, 0, 0, []) := by decide +kernel
theorem t_93_74 : tb_in 93 74 = some (.putfield 49, 5, 10, 0, []) := by decide +kernel
theorem t_93_77 : tb_in 93 77 = some (.return_, 0, 0, 0, []) := by decide +kernel
theorem t_94_0 : tb_in 94 0 = some (.aload_n 0, 0, 0, 0, []) := by decide +kernel
theorem t_94_1 : tb_in 94 1 = some (.iconst (-1), 0, 0, (-1), []) := by decide +kernel
theorem t_94_2 : tb_in 94 2 = some (.putfield 9, 5, 0, 0, []) := by decide +kernel
theorem t_94_5 : tb_in 94 5 = some (.aload_n 0, 0, 0, 0, []) := by decide +kernel
theorem t_94_6 : tb_in 94 6 = some (.iconst 0, 0, 0, 0, []) := by decide +kernel
theorem t_94_7 : tb_in 94 7 = some (.putfield 22, 5, 3, 0, []) := by decide +kernel
theorem t_94_10 : tb_in 94 10 = some (.aload_n 0, 0, 0, 0, []) := by decide +kernel
theorem t_94_11 : tb_in 94 11 = some (.aload_n 1, 0, 0, 0, []) := by decide +kernel
theorem t_94_12 : tb_in 94 12 = some (.putfield 28, 5, 4, 0, []) := by decide +kernel
theorem t_94_15 : tb_in 94 15 = some (.aload_n 0, 0, 0, 0, []) := by decide +kernel
theorem t_94_16 : tb_in 94 16 = some (.iload_n 2, 0, 0, 0, []) := by decide +kernel
theorem t_94_17 : tb_in 94 17 = some (.putfield 32, 5, 5, 0, []) := by decide +kernel
theorem t_94_20 : tb_in 94 20 = some (.aload_n 0, 0, 0, 0, []) := by decide +kernel
theorem t_94_21 : tb_in 94 21 = some (.iconst 0, 0, 0, 0, []) := by decide +kernel
theorem t_94_22 : tb_in 94 22 = some (.putfield 35, 5, 6, 0, []) := by decide +kernel
theorem t_94_25 : tb_in 94 25 = some (.aload_n 0, 0, 0, 0, []) := by decide +kernel
theorem t_94_26 : tb_in 94 26 = some (.iconst 0, 0, 0, 0, []) := by decide +kernel
theorem t_94_27 : tb_in 94 27 = some (.putfield 49, 5, 10, 0, []) := by decide +kernel
theorem t_94_30 : tb_in 94 30 = some (.return_, 0, 0, 0, []) := by decide +kernel
theorem t_95_0 : tb_in 95 0 = some (.iconst 0, 0, 0, 0, []) := by decide +kernel
theorem t_95_1 : tb_in 95 1 = some (.istore_n 1, 0, 0, 0, []) := by decide +kernel
theorem t_95_2 : tb_in 95 2 = some (.iload_n 1, 0, 0, 0, []) := by decide +kernel
theorem t_95_3 : tb_in 95 3 = some (.bipush 24, 0, 0, 24, []) := by decide +kernel
theorem t_95_5 : tb_in 95 5 = some (.if_icmp .ge 90, 95, 0, 0, []) := by decide +kernel
theorem t_95_8 : tb_in 95 8 = some (.aload_n 0, 0, 0, 0, []) := by decide +kernel
theorem t_95_9 : tb_in 95 9 = some (.getfield 9, 5, 0, 0, []) := by decide +kernel
theorem t_95_12 : tb_in 95 12 = some (.iconst (-1), 0, 0, (-1), []) := by decide +kernel
theorem t_95_13 : tb_in 95 13 = some (.if_icmp .ne 82, 95, 0, 0, []) := by decide +kernel
theorem t_95_16 : tb_in 95 16 = some (.aload_n 0, 0, 0, 0, []) := by decide +kernel
theorem t_95_17 : tb_in 95 17 = some (.getfield 35, 5, 6, 0, []) := by decide +kernel
theorem t_95_20 : tb_in 95 20 = some (.aload_n 0, 0, 0, 0, []) := by decide +kernel
theorem t_95_21 : tb_in 95 21 = some (.getfield 28, 5, 4, 0, []) := by decide +kernel
theorem t_95_24 : tb_in 95 24 = some (.getfield 52, 4, 1, 0, []) := by decide +kernel
theorem t_95_27 : tb_in 95 27 = some (.if_icmp .ge 68, 95, 0, 0, []) := by decide +kernel
theorem t_95_30 : tb_in 95 30 = some (.aload_n 0, 0, 0, 0, []) := by decide +kernel
theorem t_95_31 : tb_in 95 31 = some (.getfield 28, 5, 4, 0, []) := by decide +kernel
theorem t_95_34 : tb_in 95 34 = some (.getfield 55, 4, 0, 0, []) := by decide +kernel
theorem t_95_37 : tb_in 95 37 = some (.aload_n 0, 0, 0, 0, []) := by decide +kernel
theorem t_95_38 : tb_in 95 38 = some (.getfield 35, 5, 6, 0, []) := by decide +kernel
theorem t_95_41 : tb_in 95 41 = some (.caload, 0, 0, 0, []) := by decide +kernel
theorem t_95_42 : tb_in 95 42 = some (.istore_n 2, 0, 0, 0, []) := by decide +kernel
theorem t_95_43 : tb_in 95 43 = some (.aload_n 0, 0, 0, 0, []) := by decide +kernel
theorem t_95_44 : tb_in 95 44 = some (.dup, 0, 0, 0, []) := by decide +kernel
theorem t_95_45 : tb_in 95 45 = some (.getfield 35, 5, 6, 0, []) := by decide +kernel
theorem t_95_48 : tb_in 95 48 = some (.iconst 1, 0, 0, 1, []) := by decide +kernel
theorem t_95_49 : tb_in 95 49 = some (.iadd, 0, 0, 0, []) := by decide +kernel
theorem t_95_50 : tb_in 95 50 = some (.putfield 35, 5, 6, 0, []) := by decide +kernel
theorem t_95_53 : tb_in 95 53 = some (.iload_n 2, 0, 0, 0, []) := by decide +kernel
theorem t_95_54 : tb_in 95 54 = some (.invokestatic 58, 88, 1, 0, []) := by decide +kernel
theorem t_95_57 : tb_in 95 57 = some (.ifCond .le 11, 68, 0, 0, []) := by decide +kernel
theorem t_95_60 : tb_in 95 60 = some (.aload_n 0, 0, 0, 0, []) := by decide +kernel
theorem t_95_61 : tb_in 95 61 = some (.iload_n 2, 0, 0, 0, []) := by decide +kernel
theorem t_95_62 : tb_in 95 62 = some (.invokevirtual 62, 98, 2, 0, []) := by decide +kernel
theorem t_95_65 : tb_in 95 65 = some (.goto 24, 89, 0, 0, []) := by decide +kernel
theorem t_95_68 : tb_in 95 68 = some (.aload_n 0, 0, 0, 0, []) := by decide +kernel
theorem t_95_69 : tb_in 95 69 = some (.iload_n 2, 0, 0, 0, []) := by decide +kernel
theorem t_95_70 : tb_in 95 70 = some (.bipush 107, 0, 0, 107, []) := by decide +kernel
theorem t_95_72 : tb_in 95 72 = some (.if_icmp .ne 10, 82, 0, 0, []) := by decide +kernel
theorem t_95_75 : tb_in 95 75 = some (.aload_n 0, 0, 0, 0, []) := by decide +kernel
theorem t_95_76 : tb_in 95 76 = some (.getfield 32, 5, 5, 0, []) := by decide +kernel
theorem t_95_79 : tb_in 95 79 = some (.goto 7, 86, 0, 0, []) := by decide +kernel
theorem t_95_82 : tb_in 95 82 = some (.iload_n 2, 0, 0, 0, []) := by decide +kernel
theorem t_95_83 : tb_in 95 83 = some (.bipush 48, 0, 0, 48, []) := by decide +kernel
theorem t_95_85 : tb_in 95 85 = some (.isub, 0, 0, 0, []) := by decide +kernel
theorem t_95_86 : tb_in 95 86 = some (.invokevirtual 66, 99, 2, 0, []) := by decide +kernel
theorem t_95_89 : tb_in 95 89 = some (.iinc 1 1, 0, 0, 1, []) := by decide +kernel
theorem t_95_92 : tb_in 95 92 = some (.goto (-90), 2, 0, 0, []) := by decide +kernel
theorem t_95_95 : tb_in 95 95 = some (.return_, 0, 0, 0, []) := by decide +kernel
theorem t_96_0 : tb_in 96 0 = some (.aload_n 0, 0, 0, 0, []) := by decide +kernel
theorem t_96_1 : tb_in 96 1 = some (.aload_n 0, 0, 0, 0, []) := by decide +kernel
theorem t_96_2 : tb_in 96 2 = some (.getfield 9, 5, 0, 0, []) := by decide +kernel
theorem t_96_5 : tb_in 96 5 = some (.invokevirtual 70, 97, 2, 0, []) := by decide +kernel
theorem t_96_8 : tb_in 96 8 = some (.aload_n 0, 0, 0, 0, []) := by decide +kernel
theorem t_96_9 : tb_in 96 9 = some (.iconst (-1), 0, 0, (-1), []) := by decide +kernel
theorem t_96_10 : tb_in 96 10 = some (.putfield 9, 5, 0, 0, []) := by decide +kernel
theorem t_96_13 : tb_in 96 13 = some (.aload_n 0, 0, 0, 0, []) := by decide +kernel
theorem t_96_14 : tb_in 96 14 = some (.iload_n 1, 0, 0, 0, []) := by decide +kernel
theorem t_96_15 : tb_in 96 15 = some (.invokevirtual 66, 99, 2, 0, []) := by decide +kernel
theorem t_96_18 : tb_in 96 18 = some (.return_, 0, 0, 0, []) := by decide +kernel
theorem t_97_0 : tb_in 97 0 = some (.iconst 0, 0, 0, 0, []) := by decide +kernel
theorem t_97_1 : tb_in 97 1 = some (.istore_n 2, 0, 0, 0, []) := by decide +kernel
theorem t_97_2 : tb_in 97 2 = some (.iload_n 2, 0, 0, 0, []) := by decide +kernel
theorem t_97_3 : tb_in 97 3 = some (.aload_n 0, 0, 0, 0, []) := by decide +kernel
theorem t_97_4 : tb_in 97 4 = some (.getfield 22, 5, 3, 0, []) := by decide +kernel
theorem t_97_7 : tb_in 97 7 = some (.if_icmp .ge 20, 27, 0, 0, []) := by decide +kernel
theorem t_97_10 : tb_in 97 10 = some (.aload_n 0, 0, 0, 0, []) := by decide +kernel
theorem t_97_11 : tb_in 97 11 = some (.getfield 18, 5, 2, 0, []) := by decide +kernel
theorem t_97_14 : tb_in 97 14 = some (.iload_n 2, 0, 0, 0, []) := by decide +kernel
theorem t_97_15 : tb_in 97 15 = some (.iaload, 0, 0, 0, []) := by decide +kernel
theorem t_97_16 : tb_in 97 16 = some (.iload_n 1, 0, 0, 0, []) := by decide +kernel
theorem t_97_17 : tb_in 97 17 = some (.if_icmp .ne 4, 21, 0, 0, []) := by decide +kernel
theorem t_97_20 : tb_in 97 20 = some (.return_, 0, 0, 0, []) := by decide +kernel
theorem t_97_21 : tb_in 97 21 = some (.iinc 2 1, 0, 0, 1, []) := by decide +kernel
theorem t_97_24 : tb_in 97 24 = some (.goto (-22), 2, 0, 0, []) := by decide +kernel
theorem t_97_27 : tb_in 97 27 = some (.aload_n 0, 0, 0, 0, []) := by decide +kernel
theorem t_97_28 : tb_in 97 28 = some (.getfield 18, 5, 2, 0, []) := by decide +kernel
theorem t_97_31 : tb_in 97 31 = some (.aload_n 0, 0, 0, 0, []) := by decide +kernel
theorem t_97_32 : tb_in 97 32 = some (.getfield 22, 5, 3, 0, []) := by decide +kernel
theorem t_97_35 : tb_in 97 35 = some (.iload_n 1, 0, 0, 0, []) := by decide +kernel
theorem t_97_36 : tb_in 97 36 = some (.iastore, 0, 0, 0, []) := by decide +kernel
theorem t_97_37 : tb_in 97 37 = some (.aload_n 0, 0, 0, 0, []) := by decide +kernel
theorem t_97_38 : tb_in 97 38 = some (.dup, 0, 0, 0, []) := by decide +kernel
theorem t_97_39 : tb_in 97 39 = some (.getfield 22, 5, 3, 0, []) := by decide +kernel
theorem t_97_42 : tb_in 97 42 = some (.iconst 1, 0, 0, 1, []) := by decide +kernel
theorem t_97_43 : tb_in 97 43 = some (.iadd, 0, 0, 0, []) := by decide +kernel
theorem t_97_44 : tb_in 97 44 = some (.putfield 22, 5, 3, 0, []) := by decide +kernel
theorem t_97_47 : tb_in 97 47 = some (.return_, 0, 0, 0, []) := by decide +kernel
theorem t_98_0 : tb_in 98 0 = some (.aload_n 0, 0, 0, 0, []) := by decide +kernel
theorem t_98_1 : tb_in 98 1 = some (.getfield 38, 5, 7, 0, []) := by decide +kernel
theorem t_98_4 : tb_in 98 4 = some (.aload_n 0, 0, 0, 0, []) := by decide +kernel
theorem t_98_5 : tb_in 98 5 = some (.getfield 49, 5, 10, 0, []) := by decide +kernel
theorem t_98_8 : tb_in 98 8 = some (.iload_n 1, 0, 0, 0, []) := by decide +kernel
theorem t_98_9 : tb_in 98 9 = some (.castore, 0, 0, 0, []) := by decide +kernel
theorem t_98_10 : tb_in 98 10 = some (.aload_n 0, 0, 0, 0, []) := by decide +kernel
theorem t_98_11 : tb_in 98 11 = some (.getfield 42, 5, 8, 0, []) := by decide +kernel
theorem t_98_14 : tb_in 98 14 = some (.aload_n 0, 0, 0, 0, []) := by decide +kernel
theorem t_98_15 : tb_in 98 15 = some (.getfield 49, 5, 10, 0, []) := by decide +kernel
theorem t_98_18 : tb_in 98 18 = some (.iconst 0, 0, 0, 0, []) := by decide +kernel
theorem t_98_19 : tb_in 98 19 = some (.bastore, 0, 0, 0, []) := by decide +kernel
theorem t_98_20 : tb_in 98 20 = some (.aload_n 0, 0, 0, 0, []) := by decide +kernel
theorem t_98_21 : tb_in 98 21 = some (.dup, 0, 0, 0, []) := by decide +kernel
theorem t_98_22 : tb_in 98 22 = some (.getfield 49, 5, 10, 0, []) := by decide +kernel
theorem t_98_25 : tb_in 98 25 = some (.iconst 1, 0, 0, 1, []) := by decide +kernel
theorem t_98_26 : tb_in 98 26 = some (.iadd, 0, 0, 0, []) := by decide +kernel
theorem t_98_27 : tb_in 98 27 = some (.putfield 49, 5, 10, 0, []) := by decide +kernel
theorem t_98_30 : tb_in 98 30 = some (.return_, 0, 0, 0, []) := by decide +kernel
theorem t_99_0 : tb_in 99 0 = some (.aload_n 0, 0, 0, 0, []) := by decide +kernel
theorem t_99_1 : tb_in 99 1 = some (.iload_n 1, 0, 0, 0, []) := by decide +kernel
theorem t_99_2 : tb_in 99 2 = some (.putfield 15, 5, 1, 0, []) := by decide +kernel
theorem t_99_5 : tb_in 99 5 = some (.aload_n 0, 0, 0, 0, []) := by decide +kernel
theorem t_99_6 : tb_in 99 6 = some (.getfield 49, 5, 10, 0, []) := by decide +kernel
theorem t_99_9 : tb_in 99 9 = some (.iconst 1, 0, 0, 1, []) := by decide +kernel
theorem t_99_10 : tb_in 99 10 = some (.isub, 0, 0, 0, []) := by decide +kernel
theorem t_99_11 : tb_in 99 11 = some (.istore_n 2, 0, 0, 0, []) := by decide +kernel
theorem t_99_12 : tb_in 99 12 = some (.iload_n 2, 0, 0, 0, []) := by decide +kernel
theorem t_99_13 : tb_in 99 13 = some (.ifCond .lt 81, 94, 0, 0, []) := by decide +kernel
theorem t_99_16 : tb_in 99 16 = some (.aload_n 0, 0, 0, 0, []) := by decide +kernel
theorem t_99_17 : tb_in 99 17 = some (.getfield 38, 5, 7, 0, []) := by decide +kernel
theorem t_99_20 : tb_in 99 20 = some (.iload_n 2, 0, 0, 0, []) := by decide +kernel
theorem t_99_21 : tb_in 99 21 = some (.caload, 0, 0, 0, []) := by decide +kernel
theorem t_99_22 : tb_in 99 22 = some (.istore_n 3, 0, 0, 0, []) := by decide +kernel
theorem t_99_23 : tb_in 99 23 = some (.aload_n 0, 0, 0, 0, []) := by decide +kernel
theorem t_99_24 : tb_in 99 24 = some (.iload_n 2, 0, 0, 0, []) := by decide +kernel
theorem t_99_25 : tb_in 99 25 = some (.putfield 49, 5, 10, 0, []) := by decide +kernel
theorem t_99_28 : tb_in 99 28 = some (.iload_n 3, 0, 0, 0, []) := by decide +kernel
theorem t_99_29 : tb_in 99 29 = some (.bipush 58, 0, 0, 58, []) := by decide +kernel
theorem t_99_31 : tb_in 99 31 = some (.if_icmp .ne 21, 52, 0, 0, []) := by decide +kernel
theorem t_99_34 : tb_in 99 34 = some (.aload_n 0, 0, 0, 0, []) := by decide +kernel
theorem t_99_35 : tb_in 99 35 = some (.aload_n 0, 0, 0, 0, []) := by decide +kernel
theorem t_99_36 : tb_in 99 36 = some (.getfield 28, 5, 4, 0, []) := by decide +kernel
theorem t_99_39 : tb_in 99 39 = some (.aload_n 0, 0, 0, 0, []) := by decide +kernel
theorem t_99_40 : tb_in 99 40 = some (.getfield 35, 5, 6, 0, []) := by decide +kernel
theorem t_99_43 : tb_in 99 43 = some (.invokevirtual 73, 92, 2, 0, []) := by decide +kernel
theorem t_99_46 : tb_in 99 46 = some (.putfield 35, 5, 6, 0, []) := by decide +kernel
theorem t_99_49 : tb_in 99 49 = some (.goto 39, 88, 0, 0, []) := by decide +kernel
theorem t_99_52 : tb_in 99 52 = some (.aload_n 0, 0, 0, 0, []) := by decide +kernel
theorem t_99_53 : tb_in 99 53 = some (.getfield 42, 5, 8, 0, []) := by decide +kernel
theorem t_99_56 : tb_in 99 56 = some (.iload_n 2, 0, 0, 0, []) := by decide +kernel
theorem t_99_57 : tb_in 99 57 = some (.baload, 0, 0, 0, []) := by decide +kernel
theorem t_99_58 : tb_in 99 58 = some (.ifCond .eq 24, 82, 0, 0, []) := by decide +kernel
theorem t_99_61 : tb_in 99 61 = some (.aload_n 0, 0, 0, 0, []) := by decide +kernel
theorem t_99_62 : tb_in 99 62 = some (.iload_n 3, 0, 0, 0, []) := by decide +kernel
theorem t_99_63 : tb_in 99 63 = some (.aload_n 0, 0, 0, 0, []) := by decide +kernel
theorem t_99_64 : tb_in 99 64 = some (.getfield 46, 5, 9, 0, []) := by decide +kernel
theorem t_99_67 : tb_in 99 67 = some (.iload_n 2, 0, 0, 0, []) := by decide +kernel
theorem t_99_68 : tb_in 99 68 = some (.iaload, 0, 0, 0, []) := by decide +kernel
theorem t_99_69 : tb_in 99 69 = some (.aload_n 0, 0, 0, 0, []) := by decide +kernel
theorem t_99_70 : tb_in 99 70 = some (.getfield 15, 5, 1, 0, []) := by decide +kernel
theorem t_99_73 : tb_in 99 73 = some (.invokestatic 77, 102, 3, 0, []) := by decide +kernel
theorem t_99_76 : tb_in 99 76 = some (.putfield 15, 5, 1, 0, []) := by decide +kernel
theorem t_99_79 : tb_in 99 79 = some (.goto 9, 88, 0, 0, []) := by decide +kernel
theorem t_99_82 : tb_in 99 82 = some (.aload_n 0, 0, 0, 0, []) := by decide +kernel
theorem t_99_83 : tb_in 99 83 = some (.iload_n 3, 0, 0, 0, []) := by decide +kernel
theorem t_99_84 : tb_in 99 84 = some (.invokevirtual 81, 100, 2, 0, []) := by decide +kernel
theorem t_99_87 : tb_in 99 87 = some (.return_, 0, 0, 0, []) := by decide +kernel
theorem t_99_88 : tb_in 99 88 = some (.iinc 2 (-1), 0, 0, (-1), []) := by decide +kernel
theorem t_99_91 : tb_in 99 91 = some (.goto (-79), 12, 0, 0, []) := by decide +kernel
theorem t_99_94 : tb_in 99 94 = some (.return_, 0, 0, 0, []) := by decide +kernel
theorem t_100_0 : tb_in 100 0 = some (.iload_n 1, 0, 0, 0, []) := by decide +kernel
theorem t_100_1 : tb_in 100 1 = some (.invokestatic 58, 88, 1, 0, []) := by decide +kernel
theorem t_100_4 : tb_in 100 4 = some (.iconst 1, 0, 0, 1, []) := by decide +kernel
theorem t_100_5 : tb_in 100 5 = some (.if_icmp .ne 21, 26, 0, 0, []) := by decide +kernel
theorem t_100_8 : tb_in 100 8 = some (.aload_n 0, 0, 0, 0, []) := by decide +kernel
theorem t_100_9 : tb_in 100 9 = some (.iload_n 1, 0, 0, 0, []) := by decide +kernel
theorem t_100_10 : tb_in 100 10 = some (.aload_n 0, 0, 0, 0, []) := by decide +kernel
theorem t_100_11 : tb_in 100 11 = some (.getfield 15, 5, 1, 0, []) := by decide +kernel
theorem t_100_14 : tb_in 100 14 = some (.bipush 15, 0, 0, 15, []) := by decide +kernel
theorem t_100_16 : tb_in 100 16 = some (.iand, 0, 0, 0, []) := by decide +kernel
theorem t_100_17 : tb_in 100 17 = some (.invokestatic 84, 101, 2, 0, []) := by decide +kernel
theorem t_100_20 : tb_in 100 20 = some (.putfield 9, 5, 0, 0, []) := by decide +kernel
theorem t_100_23 : tb_in 100 23 = some (.goto 76, 99, 0, 0, []) := by decide +kernel
theorem t_100_26 : tb_in 100 26 = some (.iload_n 1, 0, 0, 0, []) := by decide +kernel
theorem t_100_27 : tb_in 100 27 = some (.bipush 63, 0, 0, 63, []) := by decide +kernel
theorem t_100_29 : tb_in 100 29 = some (.if_icmp .eq 39, 68, 0, 0, []) := by decide +kernel
theorem t_100_32 : tb_in 100 32 = some (.aload_n 0, 0, 0, 0, []) := by decide +kernel
theorem t_100_33 : tb_in 100 33 = some (.getfield 46, 5, 9, 0, []) := by decide +kernel
theorem t_100_36 : tb_in 100 36 = some (.aload_n 0, 0, 0, 0, []) := by decide +kernel
theorem t_100_37 : tb_in 100 37 = some (.getfield 49, 5, 10, 0, []) := by decide +kernel
theorem t_100_40 : tb_in 100 40 = some (.aload_n 0, 0, 0, 0, []) := by decide +kernel
theorem t_100_41 : tb_in 100 41 = some (.getfield 15, 5, 1, 0, []) := by decide +kernel
theorem t_100_44 : tb_in 100 44 = some (.iastore, 0, 0, 0, []) := by decide +kernel
theorem t_100_45 : tb_in 100 45 = some (.aload_n 0, 0, 0, 0, []) := by decide +kernel
theorem t_100_46 : tb_in 100 46 = some (.getfield 42, 5, 8, 0, []) := by decide +kernel
theorem t_100_49 : tb_in 100 49 = some (.aload_n 0, 0, 0, 0, []) := by decide +kernel
theorem t_100_50 : tb_in 100 50 = some (.getfield 49, 5, 10, 0, []) := by decide +kernel
theorem t_100_53 : tb_in 100 53 = some (.iconst 1, 0, 0, 1, []) := by decide +kernel
theorem t_100_54 : tb_in 100 54 = some (.bastore, 0, 0, 0, []) := by decide +kernel
theorem t_100_55 : tb_in 100 55 = some (.aload_n 0, 0, 0, 0, []) := by decide +kernel
theorem t_100_56 : tb_in 100 56 = some (.dup, 0, 0, 0, []) := by decide +kernel
theorem t_100_57 : tb_in 100 57 = some (.getfield 49, 5, 10, 0, []) := by decide +kernel
theorem t_100_60 : tb_in 100 60 = some (.iconst 1, 0, 0, 1, []) := by decide +kernel
theorem t_100_61 : tb_in 100 61 = some (.iadd, 0, 0, 0, []) := by decide +kernel
theorem t_100_62 : tb_in 100 62 = some (.putfield 49, 5, 10, 0, []) := by decide +kernel
theorem t_100_65 : tb_in 100 65 = some (.goto 34, 99, 0, 0, []) := by decide +kernel
theorem t_100_68 : tb_in 100 68 = some (.aload_n 0, 0, 0, 0, []) := by decide +kernel
theorem t_100_69 : tb_in 100 69 = some (.getfield 15, 5, 1, 0, []) := by decide +kernel
theorem t_100_72 : tb_in 100 72 = some (.ifCond .eq 12, 84, 0, 0, []) := by decide +kernel
theorem t_100_75 : tb_in 100 75 = some (.aload_n 0, 0, 0, 0, []) := by decide +kernel
theorem t_100_76 : tb_in 100 76 = some (.bipush 58, 0, 0, 58, []) := by decide +kernel
theorem t_100_78 : tb_in 100 78 = some (.invokevirtual 62, 98, 2, 0, []) := by decide +kernel
theorem t_100_81 : tb_in 100 81 = some (.goto 18, 99, 0, 0, []) := by decide +kernel
theorem t_100_84 : tb_in 100 84 = some (.aload_n 0, 0, 0, 0, []) := by decide +kernel
theorem t_100_85 : tb_in 100 85 = some (.aload_n 0, 0, 0, 0, []) := by decide +kernel
theorem t_100_86 : tb_in 100 86 = some (.getfield 28, 5, 4, 0, []) := by decide +kernel
theorem t_100_89 : tb_in 100 89 = some (.aload_n 0, 0, 0, 0, []) := by decide +kernel
theorem t_100_90 : tb_in 100 90 = some (.getfield 35, 5, 6, 0, []) := by decide +kernel
theorem t_100_93 : tb_in 100 93 = some (.invokevirtual 73, 92, 2, 0, []) := by decide +kernel
theorem t_100_96 : tb_in 100 96 = some (.putfield 35, 5, 6, 0, []) := by decide +kernel
theorem t_100_99 : tb_in 100 99 = some (.return_, 0, 0, 0, []) := by decide +kernel
theorem t_101_0 : tb_in 101 0 = some (.iload_n 0, 0, 0, 0, []) := by decide +kernel
theorem t_101_1 : tb_in 101 1 = some (.bipush 103, 0, 0, 103, []) := by decide +kernel
theorem t_101_3 : tb_in 101 3 = some (.if_icmp .lt 15, 18, 0, 0, []) := by decide +kernel
theorem t_101_6 : tb_in 101 6 = some (.iload_n 0, 0, 0, 0, []) := by decide +kernel
theorem t_101_7 : tb_in 101 7 = some (.bipush 103, 0, 0, 103, []) := by decide +kernel
theorem t_101_9 : tb_in 101 9 = some (.isub, 0, 0, 0, []) := by decide +kernel
theorem t_101_10 : tb_in 101 10 = some (.bipush 16, 0, 0, 16, []) := by decide +kernel
theorem t_101_12 : tb_in 101 12 = some (.imul, 0, 0, 0, []) := by decide +kernel
theorem t_101_13 : tb_in 101 13 = some (.iload_n 1, 0, 0, 0, []) := by decide +kernel
theorem t_101_14 : tb_in 101 14 = some (.iadd, 0, 0, 0, []) := by decide +kernel
theorem t_101_15 : tb_in 101 15 = some (.goto 15, 30, 0, 0, []) := by decide +kernel
theorem t_101_18 : tb_in 101 18 = some (.bipush 100, 0, 0, 100, []) := by decide +kernel
theorem t_101_20 : tb_in 101 20 = some (.iload_n 0, 0, 0, 0, []) := by decide +kernel
theorem t_101_21 : tb_in 101 21 = some (.bipush 65, 0, 0, 65, []) := by decide +kernel
theorem t_101_23 : tb_in 101 23 = some (.isub, 0, 0, 0, []) := by decide +kernel
theorem t_101_24 : tb_in 101 24 = some (.bipush 16, 0, 0, 16, []) := by decide +kernel
theorem t_101_26 : tb_in 101 26 = some (.imul, 0, 0, 0, []) := by decide +kernel
theorem t_101_27 : tb_in 101 27 = some (.iadd, 0, 0, 0, []) := by decide +kernel
theorem t_101_28 : tb_in 101 28 = some (.iload_n 1, 0, 0, 0, []) := by decide +kernel
theorem t_101_29 : tb_in 101 29 = some (.iadd, 0, 0, 0, []) := by decide +kernel
theorem t_101_30 : tb_in 101 30 = some (.ireturn, 0, 0, 0, []) := by decide +kernel
theorem t_102_0 : tb_in 102 0 = some (.iload_n 0, 0, 0, 0, []) := by decide +kernel
theorem t_102_1 : tb_in 102 1 = some (.bipush 43, 0, 0, 43, []) := by decide +kernel
theorem t_102_3 : tb_in 102 3 = some (.if_icmp .ne 7, 10, 0, 0, []) := by decide +kernel
theorem t_102_6 : tb_in 102 6 = some (.iload_n 1, 0, 0, 0, []) := by decide +kernel
theorem t_102_7 : tb_in 102 7 = some (.iload_n 2, 0, 0, 0, []) := by decide +kernel
theorem t_102_8 : tb_in 102 8 = some (.iadd, 0, 0, 0, []) := by decide +kernel
theorem t_102_9 : tb_in 102 9 = some (.ireturn, 0, 0, 0, []) := by decide +kernel
theorem t_102_10 : tb_in 102 10 = some (.iload_n 0, 0, 0, 0, []) := by decide +kernel
theorem t_102_11 : tb_in 102 11 = some (.bipush 45, 0, 0, 45, []) := by decide +kernel
theorem t_102_13 : tb_in 102 13 = some (.if_icmp .ne 9, 22, 0, 0, []) := by decide +kernel
theorem t_102_16 : tb_in 102 16 = some (.iload_n 1, 0, 0, 0, []) := by decide +kernel
theorem t_102_17 : tb_in 102 17 = some (.iload_n 2, 0, 0, 0, []) := by decide +kernel
theorem t_102_18 : tb_in 102 18 = some (.isub, 0, 0, 0, []) := by decide +kernel
theorem t_102_19 : tb_in 102 19 = some (.goto 6, 25, 0, 0, []) := by decide +kernel
theorem t_102_22 : tb_in 102 22 = some (.iload_n 1, 0, 0, 0, []) := by decide +kernel
theorem t_102_23 : tb_in 102 23 = some (.iload_n 2, 0, 0, 0, []) := by decide +kernel
theorem t_102_24 : tb_in 102 24 = some (.imul, 0, 0, 0, []) := by decide +kernel
theorem t_102_25 : tb_in 102 25 = some (.ireturn, 0, 0, 0, []) := by decide +kernel
theorem t_103_0 : tb_in 103 0 = some (.aload_n 2, 0, 0, 0, []) := by decide +kernel
theorem t_103_1 : tb_in 103 1 = some (.iconst 0, 0, 0, 0, []) := by decide +kernel
theorem t_103_2 : tb_in 103 2 = some (.aload_n 0, 0, 0, 0, []) := by decide +kernel
theorem t_103_3 : tb_in 103 3 = some (.iload_n 1, 0, 0, 0, []) := by decide +kernel
theorem t_103_4 : tb_in 103 4 = some (.invokevirtual 7, 3, 2, 0, []) := by decide +kernel
theorem t_103_7 : tb_in 103 7 = some (.i2l, 0, 0, 0, []) := by decide +kernel
theorem t_103_8 : tb_in 103 8 = some (.lastore, 0, 0, 0, []) := by decide +kernel
theorem t_103_9 : tb_in 103 9 = some (.goto 6, 15, 0, 0, []) := by decide +kernel
theorem t_103_12 : tb_in 103 12 = some (.astore_n 3, 0, 0, 0, []) := by decide +kernel
theorem t_103_13 : tb_in 103 13 = some (.iconst 1, 0, 0, 1, []) := by decide +kernel
theorem t_103_14 : tb_in 103 14 = some (.ireturn, 0, 0, 0, []) := by decide +kernel
theorem t_103_15 : tb_in 103 15 = some (.iconst 0, 0, 0, 0, []) := by decide +kernel
theorem t_103_16 : tb_in 103 16 = some (.ireturn, 0, 0, 0, []) := by decide +kernel
theorem t_104_0 : tb_in 104 0 = some (.aload 4, 0, 0, 0, []) := by decide +kernel
theorem t_104_2 : tb_in 104 2 = some (.iconst 0, 0, 0, 0, []) := by decide +kernel
theorem t_104_3 : tb_in 104 3 = some (.aload_n 0, 0, 0, 0, []) := by decide +kernel
theorem t_104_4 : tb_in 104 4 = some (.iload_n 1, 0, 0, 0, []) := by decide +kernel
theorem t_104_5 : tb_in 104 5 = some (.iload_n 2, 0, 0, 0, []) := by decide +kernel
theorem t_104_6 : tb_in 104 6 = some (.iload_n 3, 0, 0, 0, []) := by decide +kernel
theorem t_104_7 : tb_in 104 7 = some (.invokevirtual 15, 4, 4, 0, []) := by decide +kernel
theorem t_104_10 : tb_in 104 10 = some (.ifCond .eq 7, 17, 0, 0, []) := by decide +kernel
theorem t_104_13 : tb_in 104 13 = some (.lconst 1, 0, 0, 0, []) := by decide +kernel
theorem t_104_14 : tb_in 104 14 = some (.goto 4, 18, 0, 0, []) := by decide +kernel
theorem t_104_17 : tb_in 104 17 = some (.lconst 0, 0, 0, 0, []) := by decide +kernel
theorem t_104_18 : tb_in 104 18 = some (.lastore, 0, 0, 0, []) := by decide +kernel
theorem t_104_19 : tb_in 104 19 = some (.goto 7, 26, 0, 0, []) := by decide +kernel
theorem t_104_22 : tb_in 104 22 = some (.astore 5, 0, 0, 0, []) := by decide +kernel
theorem t_104_24 : tb_in 104 24 = some (.iconst 1, 0, 0, 1, []) := by decide +kernel
theorem t_104_25 : tb_in 104 25 = some (.ireturn, 0, 0, 0, []) := by decide +kernel
theorem t_104_26 : tb_in 104 26 = some (.iconst 0, 0, 0, 0, []) := by decide +kernel
theorem t_104_27 : tb_in 104 27 = some (.ireturn, 0, 0, 0, []) := by decide +kernel
theorem t_105_0 : tb_in 105 0 = some (.aload_n 3, 0, 0, 0, []) := by decide +kernel
theorem t_105_1 : tb_in 105 1 = some (.iconst 0, 0, 0, 0, []) := by decide +kernel
theorem t_105_2 : tb_in 105 2 = some (.aload_n 0, 0, 0, 0, []) := by decide +kernel
theorem t_105_3 : tb_in 105 3 = some (.iload_n 1, 0, 0, 0, []) := by decide +kernel
theorem t_105_4 : tb_in 105 4 = some (.iload_n 2, 0, 0, 0, []) := by decide +kernel
theorem t_105_5 : tb_in 105 5 = some (.invokevirtual 19, 5, 3, 0, []) := by decide +kernel
theorem t_105_8 : tb_in 105 8 = some (.ifCond .eq 7, 15, 0, 0, []) := by decide +kernel
theorem t_105_11 : tb_in 105 11 = some (.lconst 1, 0, 0, 0, []) := by decide +kernel
theorem t_105_12 : tb_in 105 12 = some (.goto 4, 16, 0, 0, []) := by decide +kernel
theorem t_105_15 : tb_in 105 15 = some (.lconst 0, 0, 0, 0, []) := by decide +kernel
theorem t_105_16 : tb_in 105 16 = some (.lastore, 0, 0, 0, []) := by decide +kernel
theorem t_105_17 : tb_in 105 17 = some (.goto 7, 24, 0, 0, []) := by decide +kernel
theorem t_105_20 : tb_in 105 20 = some (.astore 4, 0, 0, 0, []) := by decide +kernel
theorem t_105_22 : tb_in 105 22 = some (.iconst 1, 0, 0, 1, []) := by decide +kernel
theorem t_105_23 : tb_in 105 23 = some (.ireturn, 0, 0, 0, []) := by decide +kernel
theorem t_105_24 : tb_in 105 24 = some (.iconst 0, 0, 0, 0, []) := by decide +kernel
theorem t_105_25 : tb_in 105 25 = some (.ireturn, 0, 0, 0, []) := by decide +kernel
theorem t_106_0 : tb_in 106 0 = some (.aload_n 0, 0, 0, 0, []) := by decide +kernel
theorem t_106_1 : tb_in 106 1 = some (.iload_n 1, 0, 0, 0, []) := by decide +kernel
theorem t_106_2 : tb_in 106 2 = some (.iload_n 2, 0, 0, 0, []) := by decide +kernel
theorem t_106_3 : tb_in 106 3 = some (.invokevirtual 23, 6, 3, 0, []) := by decide +kernel
theorem t_106_6 : tb_in 106 6 = some (.goto 6, 12, 0, 0, []) := by decide +kernel
theorem t_106_9 : tb_in 106 9 = some (.astore_n 3, 0, 0, 0, []) := by decide +kernel
theorem t_106_10 : tb_in 106 10 = some (.iconst 1, 0, 0, 1, []) := by decide +kernel
theorem t_106_11 : tb_in 106 11 = some (.ireturn, 0, 0, 0, []) := by decide +kernel
theorem t_106_12 : tb_in 106 12 = some (.iconst 0, 0, 0, 0, []) := by decide +kernel
theorem t_106_13 : tb_in 106 13 = some (.ireturn, 0, 0, 0, []) := by decide +kernel
theorem t_107_0 : tb_in 107 0 = some (.aload_n 3, 0, 0, 0, []) := by decide +kernel
theorem t_107_1 : tb_in 107 1 = some (.iconst 0, 0, 0, 0, []) := by decide +kernel
theorem t_107_2 : tb_in 107 2 = some (.aload_n 0, 0, 0, 0, []) := by decide +kernel
theorem t_107_3 : tb_in 107 3 = some (.iload_n 1, 0, 0, 0, []) := by decide +kernel
theorem t_107_4 : tb_in 107 4 = some (.iload_n 2, 0, 0, 0, []) := by decide +kernel
theorem t_107_5 : tb_in 107 5 = some (.invokevirtual 27, 7, 3, 0, []) := by decide +kernel
theorem t_107_8 : tb_in 107 8 = some (.i2l, 0, 0, 0, []) := by decide +kernel
theorem t_107_9 : tb_in 107 9 = some (.lastore, 0, 0, 0, []) := by decide +kernel
theorem t_107_10 : tb_in 107 10 = some (.goto 11, 21, 0, 0, []) := by decide +kernel
theorem t_107_13 : tb_in 107 13 = some (.astore 4, 0, 0, 0, []) := by decide +kernel
theorem t_107_15 : tb_in 107 15 = some (.iconst 1, 0, 0, 1, []) := by decide +kernel
theorem t_107_16 : tb_in 107 16 = some (.ireturn, 0, 0, 0, []) := by decide +kernel
theorem t_107_17 : tb_in 107 17 = some (.astore 4, 0, 0, 0, []) := by decide +kernel
theorem t_107_19 : tb_in 107 19 = some (.iconst 2, 0, 0, 2, []) := by decide +kernel
theorem t_107_20 : tb_in 107 20 = some (.ireturn, 0, 0, 0, []) := by decide +kernel
theorem t_107_21 : tb_in 107 21 = some (.iconst 0, 0, 0, 0, []) := by decide +kernel
theorem t_107_22 : tb_in 107 22 = some (.ireturn, 0, 0, 0, []) := by decide +kernel
theorem t_108_0 : tb_in 108 0 = some (.aload_n 3, 0, 0, 0, []) := by decide +kernel
theorem t_108_1 : tb_in 108 1 = some (.iconst 0, 0, 0, 0, []) := by decide +kernel
theorem t_108_2 : tb_in 108 2 = some (.aload_n 0, 0, 0, 0, []) := by decide +kernel
theorem t_108_3 : tb_in 108 3 = some (.iload_n 1, 0, 0, 0, []) := by decide +kernel
theorem t_108_4 : tb_in 108 4 = some (.iload_n 2, 0, 0, 0, []) := by decide +kernel
theorem t_108_5 : tb_in 108 5 = some (.invokevirtual 33, 9, 3, 0, []) := by decide +kernel
theorem t_108_8 : tb_in 108 8 = some (.ifCond .eq 7, 15, 0, 0, []) := by decide +kernel
theorem t_108_11 : tb_in 108 11 = some (.lconst 1, 0, 0, 0, []) := by decide +kernel
theorem t_108_12 : tb_in 108 12 = some (.goto 4, 16, 0, 0, []) := by decide +kernel
theorem t_108_15 : tb_in 108 15 = some (.lconst 0, 0, 0, 0, []) := by decide +kernel
theorem t_108_16 : tb_in 108 16 = some (.lastore, 0, 0, 0, []) := by decide +kernel
theorem t_108_17 : tb_in 108 17 = some (.goto 7, 24, 0, 0, []) := by decide +kernel
theorem t_108_20 : tb_in 108 20 = some (.astore 4, 0, 0, 0, []) := by decide +kernel
theorem t_108_22 : tb_in 108 22 = some (.iconst 1, 0, 0, 1, []) := by decide +kernel
theorem t_108_23 : tb_in 108 23 = some (.ireturn, 0, 0, 0, []) := by decide +kernel
theorem t_108_24 : tb_in 108 24 = some (.iconst 0, 0, 0, 0, []) := by decide +kernel
theorem t_108_25 : tb_in 108 25 = some (.ireturn, 0, 0, 0, []) := by decide +kernel
theorem t_109_0 : tb_in 109 0 = some (.aload 4, 0, 0, 0, []) := by decide +kernel
theorem t_109_2 : tb_in 109 2 = some (.iconst 0, 0, 0, 0, []) := by decide +kernel
theorem t_109_3 : tb_in 109 3 = some (.aload_n 0, 0, 0, 0, []) := by decide +kernel
theorem t_109_4 : tb_in 109 4 = some (.iload_n 1, 0, 0, 0, []) := by decide +kernel
theorem t_109_5 : tb_in 109 5 = some (.iload_n 2, 0, 0, 0, []) := by decide +kernel
theorem t_109_6 : tb_in 109 6 = some (.iload_n 3, 0, 0, 0, []) := by decide +kernel
theorem t_109_7 : tb_in 109 7 = some (.invokevirtual 36, 10, 4, 0, []) := by decide +kernel
theorem t_109_10 : tb_in 109 10 = some (.i2l, 0, 0, 0, []) := by decide +kernel
theorem t_109_11 : tb_in 109 11 = some (.lastore, 0, 0, 0, []) := by decide +kernel
theorem t_109_12 : tb_in 109 12 = some (.goto 11, 23, 0, 0, []) := by decide +kernel
theorem t_109_15 : tb_in 109 15 = some (.astore 5, 0, 0, 0, []) := by decide +kernel
theorem t_109_17 : tb_in 109 17 = some (.iconst 1, 0, 0, 1, []) := by decide +kernel
theorem t_109_18 : tb_in 109 18 = some (.ireturn, 0, 0, 0, []) := by decide +kernel
theorem t_109_19 : tb_in 109 19 = some (.astore 5, 0, 0, 0, []) := by decide +kernel
theorem t_109_21 : tb_in 109 21 = some (.iconst 2, 0, 0, 2, []) := by decide +kernel
theorem t_109_22 : tb_in 109 22 = some (.ireturn, 0, 0, 0, []) := by decide +kernel
theorem t_109_23 : tb_in 109 23 = some (.iconst 0, 0, 0, 0, []) := by decide +kernel
theorem t_109_24 : tb_in 109 24 = some (.ireturn, 0, 0, 0, []) := by decide +kernel
theorem t_110_0 : tb_in 110 0 = some (.aload 4, 0, 0, 0, []) := by decide +kernel
theorem t_110_2 : tb_in 110 2 = some (.iconst 0, 0, 0, 0, []) := by decide +kernel
theorem t_110_3 : tb_in 110 3 = some (.aload_n 0, 0, 0, 0, []) := by decide +kernel
theorem t_110_4 : tb_in 110 4 = some (.iload_n 1, 0, 0, 0, []) := by decide +kernel
theorem t_110_5 : tb_in 110 5 = some (.iload_n 2, 0, 0, 0, []) := by decide +kernel
theorem t_110_6 : tb_in 110 6 = some (.iload_n 3, 0, 0, 0, []) := by decide +kernel
theorem t_110_7 : tb_in 110 7 = some (.invokevirtual 42, 11, 4, 0, []) := by decide +kernel
theorem t_110_10 : tb_in 110 10 = some (.i2l, 0, 0, 0, []) := by decide +kernel
theorem t_110_11 : tb_in 110 11 = some (.lastore, 0, 0, 0, []) := by decide +kernel
theorem t_110_12 : tb_in 110 12 = some (.goto 11, 23, 0, 0, []) := by decide +kernel
theorem t_110_15 : tb_in 110 15 = some (.astore 5, 0, 0, 0, []) := by decide +kernel
theorem t_110_17 : tb_in 110 17 = some (.iconst 1, 0, 0, 1, []) := by decide +kernel
theorem t_110_18 : tb_in 110 18 = some (.ireturn, 0, 0, 0, []) := by decide +kernel
theorem t_110_19 : tb_in 110 19 = some (.astore 5, 0, 0, 0, []) := by decide +kernel
theorem t_110_21 : tb_in 110 21 = some (.iconst 2, 0, 0, 2, []) := by decide +kernel
theorem t_110_22 : tb_in 110 22 = some (.ireturn, 0, 0, 0, []) := by decide +kernel
theorem t_110_23 : tb_in 110 23 = some (.iconst 0, 0, 0, 0, []) := by decide +kernel
theorem t_110_24 : tb_in 110 24 = some (.ireturn, 0, 0, 0, []) := by decide +kernel
theorem t_111_0 : tb_in 111 0 = some (.aload_n 2, 0, 0, 0, []) := by decide +kernel
theorem t_111_1 : tb_in 111 1 = some (.iconst 0, 0, 0, 0, []) := by decide +kernel
theorem t_111_2 : tb_in 111 2 = some (.aload_n 0, 0, 0, 0, []) := by decide +kernel
theorem t_111_3 : tb_in 111 3 = some (.iload_n 1, 0, 0, 0, []) := by decide +kernel
theorem t_111_4 : tb_in 111 4 = some (.invokevirtual 45, 13, 2, 0, []) := by decide +kernel
theorem t_111_7 : tb_in 111 7 = some (.i2l, 0, 0, 0, []) := by decide +kernel
theorem t_111_8 : tb_in 111 8 = some (.lastore, 0, 0, 0, []) := by decide +kernel
theorem t_111_9 : tb_in 111 9 = some (.goto 6, 15, 0, 0, []) := by decide +kernel
theorem t_111_12 : tb_in 111 12 = some (.astore_n 3, 0, 0, 0, []) := by decide +kernel
theorem t_111_13 : tb_in 111 13 = some (.iconst 1, 0, 0, 1, []) := by decide +kernel
theorem t_111_14 : tb_in 111 14 = some (.ireturn, 0, 0, 0, []) := by decide +kernel
theorem t_111_15 : tb_in 111 15 = some (.iconst 0, 0, 0, 0, []) := by decide +kernel
theorem t_111_16 : tb_in 111 16 = some (.ireturn, 0, 0, 0, []) := by decide +kernel
theorem t_112_0 : tb_in 112 0 = some (.aload_n 3, 0, 0, 0, []) := by decide +kernel
theorem t_112_1 : tb_in 112 1 = some (.iconst 0, 0, 0, 0, []) := by decide +kernel
theorem t_112_2 : tb_in 112 2 = some (.aload_n 0, 0, 0, 0, []) := by decide +kernel
theorem t_112_3 : tb_in 112 3 = some (.iload_n 1, 0, 0, 0, []) := by decide +kernel
theorem t_112_4 : tb_in 112 4 = some (.iload_n 2, 0, 0, 0, []) := by decide +kernel
theorem t_112_5 : tb_in 112 5 = some (.invokevirtual 48, 14, 3, 0, []) := by decide +kernel
theorem t_112_8 : tb_in 112 8 = some (.ifCond .eq 7, 15, 0, 0, []) := by decide +kernel
theorem t_112_11 : tb_in 112 11 = some (.lconst 1, 0, 0, 0, []) := by decide +kernel
theorem t_112_12 : tb_in 112 12 = some (.goto 4, 16, 0, 0, []) := by decide +kernel
theorem t_112_15 : tb_in 112 15 = some (.lconst 0, 0, 0, 0, []) := by decide +kernel
theorem t_112_16 : tb_in 112 16 = some (.lastore, 0, 0, 0, []) := by decide +kernel
theorem t_112_17 : tb_in 112 17 = some (.goto 7, 24, 0, 0, []) := by decide +kernel
theorem t_112_20 : tb_in 112 20 = some (.astore 4, 0, 0, 0, []) := by decide +kernel
theorem t_112_22 : tb_in 112 22 = some (.iconst 1, 0, 0, 1, []) := by decide +kernel
theorem t_112_23 : tb_in 112 23 = some (.ireturn, 0, 0, 0, []) := by decide +kernel
theorem t_112_24 : tb_in 112 24 = some (.iconst 0, 0, 0, 0, []) := by decide +kernel
theorem t_112_25 : tb_in 112 25 = some (.ireturn, 0, 0, 0, []) := by decide +kernel
theorem t_113_0 : tb_in 113 0 = some (.new 8, 6, 0, 0, []) := by decide +kernel
theorem t_113_3 : tb_in 113 3 = some (.dup, 0, 0, 0, []) := by decide +kernel
theorem t_113_4 : tb_in 113 4 = some (.invokespecial 51, 0, 1, 0, []) := by decide +kernel
theorem t_113_7 : tb_in 113 7 = some (.astore_n 1, 0, 0, 0, []) := by decide +kernel
theorem t_113_8 : tb_in 113 8 = some (.new 52, 7, 0, 0, []) := by decide +kernel
theorem t_113_11 : tb_in 113 11 = some (.dup, 0, 0, 0, []) := by decide +kernel
theorem t_113_12 : tb_in 113 12 = some (.invokespecial 54, 39, 1, 0, []) := by decide +kernel
theorem t_113_15 : tb_in 113 15 = some (.astore_n 2, 0, 0, 0, []) := by decide +kernel
theorem t_113_16 : tb_in 113 16 = some (.iconst 1, 0, 0, 1, []) := by decide +kernel
theorem t_113_17 : tb_in 113 17 = some (.newarray .long, 0, 0, 0, []) := by decide +kernel
theorem t_113_19 : tb_in 113 19 = some (.astore_n 3, 0, 0, 0, []) := by decide +kernel
theorem t_113_20 : tb_in 113 20 = some (.iconst 0, 0, 0, 0, []) := by decide +kernel
theorem t_113_21 : tb_in 113 21 = some (.istore 4, 0, 0, 0, []) := by decide +kernel
theorem t_113_23 : tb_in 113 23 = some (.iload 4, 0, 0, 0, []) := by decide +kernel
theorem t_113_25 : tb_in 113 25 = some (.aload_n 0, 0, 0, 0, []) := by decide +kernel
theorem t_113_26 : tb_in 113 26 = some (.arraylength, 0, 0, 0, []) := by decide +kernel
theorem t_113_27 : tb_in 113 27 = some (.iconst 4, 0, 0, 4, []) := by decide +kernel
theorem t_113_28 : tb_in 113 28 = some (.isub, 0, 0, 0, []) := by decide +kernel
theorem t_113_29 : tb_in 113 29 = some (.if_icmp .gt 905, 934, 0, 0, []) := by decide +kernel
theorem t_113_32 : tb_in 113 32 = some (.aload_n 0, 0, 0, 0, []) := by decide +kernel
theorem t_113_33 : tb_in 113 33 = some (.iload 4, 0, 0, 0, []) := by decide +kernel
theorem t_113_35 : tb_in 113 35 = some (.iaload, 0, 0, 0, []) := by decide +kernel
theorem t_113_36 : tb_in 113 36 = some (.bipush 15, 0, 0, 15, []) := by decide +kernel
theorem t_113_38 : tb_in 113 38 = some (.iand, 0, 0, 0, []) := by decide +kernel
theorem t_113_39 : tb_in 113 39 = some (.tableswitch 889 0 13 #[69, 126, 139, 195, 282, 357, 405, 473, 498, 573, 653, 733, 758, 814], 928, 69, 0, [108, 165, 178, 234, 321, 396, 444, 512, 537, 612, 692, 772, 797, 853]) := by decide +kernel
theorem t_113_108 : tb_in 113 108 = some (.aload_n 1, 0, 0, 0, []) := by decide +kernel
theorem t_113_109 : tb_in 113 109 = some (.aload_n 0, 0, 0, 0, []) := by decide +kernel
theorem t_113_110 : tb_in 113 110 = some (.iload 4, 0, 0, 0, []) := by decide +kernel
theorem t_113_112 : tb_in 113 112 = some (.iconst 1, 0, 0, 1, []) := by decide +kernel
theorem t_113_113 : tb_in 113 113 = some (.iadd, 0, 0, 0, []) := by decide +kernel
theorem t_113_114 : tb_in 113 114 = some (.iaload, 0, 0, 0, []) := by decide +kernel
theorem t_113_115 : tb_in 113 115 = some (.i2l, 0, 0, 0, []) := by decide +kernel
theorem t_113_116 : tb_in 113 116 = some (.bipush 32, 0, 0, 32, []) := by decide +kernel
theorem t_113_118 : tb_in 113 118 = some (.lshl, 0, 0, 0, []) := by decide +kernel
theorem t_113_119 : tb_in 113 119 = some (.aload_n 0, 0, 0, 0, []) := by decide +kernel
theorem t_113_120 : tb_in 113 120 = some (.iload 4, 0, 0, 0, []) := by decide +kernel
theorem t_113_122 : tb_in 113 122 = some (.iconst 2, 0, 0, 2, []) := by decide +kernel
theorem t_113_123 : tb_in 113 123 = some (.iadd, 0, 0, 0, []) := by decide +kernel
theorem t_113_124 : tb_in 113 124 = some (.iaload, 0, 0, 0, []) := by decide +kernel
theorem t_113_125 : tb_in 113 125 = some (.i2l, 0, 0, 0, []) := by decide +kernel
theorem t_113_126 : tb_in 113 126 = some (.ldc2_w 55, 4294967295, 0, 0, []) := by decide +kernel
theorem t_113_129 : tb_in 113 129 = some (.land, 0, 0, 0, []) := by decide +kernel
theorem t_113_130 : tb_in 113 130 = some (.lor, 0, 0, 0, []) := by decide +kernel
theorem t_113_131 : tb_in 113 131 = some (.invokevirtual 57, 1, 2, 0, []) := by decide +kernel
theorem t_113_134 : tb_in 113 134 = some (.aload_n 2, 0, 0, 0, []) := by decide +kernel
theorem t_113_135 : tb_in 113 135 = some (.aload_n 0, 0, 0, 0, []) := by decide +kernel
theorem t_113_136 : tb_in 113 136 = some (.iload 4, 0, 0, 0, []) := by decide +kernel
theorem t_113_138 : tb_in 113 138 = some (.iconst 1, 0, 0, 1, []) := by decide +kernel
theorem t_113_139 : tb_in 113 139 = some (.iadd, 0, 0, 0, []) := by decide +kernel
theorem t_113_140 : tb_in 113 140 = some (.iaload, 0, 0, 0, []) := by decide +kernel
theorem t_113_141 : tb_in 113 141 = some (.i2l, 0, 0, 0, []) := by decide +kernel
theorem t_113_142 : tb_in 113 142 = some (.bipush 32, 0, 0, 32, []) := by decide +kernel
theorem t_113_144 : tb_in 113 144 = some (.lshl, 0, 0, 0, []) := by decide +kernel
theorem t_113_145 : tb_in 113 145 = some (.aload_n 0, 0, 0, 0, []) := by decide +kernel
theorem t_113_146 : tb_in 113 146 = some (.iload 4, 0, 0, 0, []) := by decide +kernel
theorem t_113_148 : tb_in 113 148 = some (.iconst 2, 0, 0, 2, []) := by decide +kernel
theorem t_113_149 : tb_in 113 149 = some (.iadd, 0, 0, 0, []) := by decide +kernel
theorem t_113_150 : tb_in 113 150 = some (.iaload, 0, 0, 0, []) := by decide +kernel
theorem t_113_151 : tb_in 113 151 = some (.i2l, 0, 0, 0, []) := by decide +kernel
theorem t_113_152 : tb_in 113 152 = some (.ldc2_w 55, 4294967295, 0, 0, []) := by decide +kernel
theorem t_113_155 : tb_in 113 155 = some (.land, 0, 0, 0, []) := by decide +kernel
theorem t_113_156 : tb_in 113 156 = some (.lor, 0, 0, 0, []) := by decide +kernel
theorem t_113_157 : tb_in 113 157 = some (.invokevirtual 61, 41, 2, 0, []) := by decide +kernel
theorem t_113_160 : tb_in 113 160 = some (.if_icmp .eq 768, 928, 0, 0, []) := by decide +kernel
theorem t_113_163 : tb_in 113 163 = some (.iconst 0, 0, 0, 0, []) := by decide +kernel
theorem t_113_164 : tb_in 113 164 = some (.ireturn, 0, 0, 0, []) := by decide +kernel
theorem t_113_165 : tb_in 113 165 = some (.aload_n 1, 0, 0, 0, []) := by decide +kernel
theorem t_113_166 : tb_in 113 166 = some (.invokevirtual 62, 2, 1, 0, []) := by decide +kernel
theorem t_113_169 : tb_in 113 169 = some (.aload_n 2, 0, 0, 0, []) := by decide +kernel
theorem t_113_170 : tb_in 113 170 = some (.invokevirtual 66, 42, 1, 0, []) := by decide +kernel
theorem t_113_173 : tb_in 113 173 = some (.if_icmp .eq 755, 928, 0, 0, []) := by decide +kernel
theorem t_113_176 : tb_in 113 176 = some (.iconst 0, 0, 0, 0, []) := by decide +kernel
theorem t_113_177 : tb_in 113 177 = some (.ireturn, 0, 0, 0, []) := by decide +kernel
theorem t_113_178 : tb_in 113 178 = some (.aload_n 1, 0, 0, 0, []) := by decide +kernel
theorem t_113_179 : tb_in 113 179 = some (.aload_n 0, 0, 0, 0, []) := by decide +kernel
theorem t_113_180 : tb_in 113 180 = some (.iload 4, 0, 0, 0, []) := by decide +kernel
theorem t_113_182 : tb_in 113 182 = some (.iconst 1, 0, 0, 1, []) := by decide +kernel
theorem t_113_183 : tb_in 113 183 = some (.iadd, 0, 0, 0, []) := by decide +kernel
theorem t_113_184 : tb_in 113 184 = some (.iaload, 0, 0, 0, []) := by decide +kernel
theorem t_113_185 : tb_in 113 185 = some (.aload_n 3, 0, 0, 0, []) := by decide +kernel
theorem t_113_186 : tb_in 113 186 = some (.invokestatic 67, 103, 3, 0, []) := by decide +kernel
theorem t_113_189 : tb_in 113 189 = some (.istore 5, 0, 0, 0, []) := by decide +kernel
theorem t_113_191 : tb_in 113 191 = some (.aload_n 2, 0, 0, 0, []) := by decide +kernel
theorem t_113_192 : tb_in 113 192 = some (.aload_n 0, 0, 0, 0, []) := by decide +kernel
theorem t_113_193 : tb_in 113 193 = some (.iload 4, 0, 0, 0, []) := by decide +kernel
theorem t_113_195 : tb_in 113 195 = some (.iconst 1, 0, 0, 1, []) := by decide +kernel
theorem t_113_196 : tb_in 113 196 = some (.iadd, 0, 0, 0, []) := by decide +kernel
theorem t_113_197 : tb_in 113 197 = some (.iaload, 0, 0, 0, []) := by decide +kernel
theorem t_113_198 : tb_in 113 198 = some (.invokevirtual 72, 45, 2, 0, []) := by decide +kernel
theorem t_113_201 : tb_in 113 201 = some (.istore 6, 0, 0, 0, []) := by decide +kernel
theorem t_113_203 : tb_in 113 203 = some (.aload_n 2, 0, 0, 0, []) := by decide +kernel
theorem t_113_204 : tb_in 113 204 = some (.invokevirtual 73, 40, 1, 0, []) := by decide +kernel
theorem t_113_207 : tb_in 113 207 = some (.iload 5, 0, 0, 0, []) := by decide +kernel
theorem t_113_209 : tb_in 113 209 = some (.if_icmp .eq 5, 214, 0, 0, []) := by decide +kernel
theorem t_113_212 : tb_in 113 212 = some (.iconst 0, 0, 0, 0, []) := by decide +kernel
theorem t_113_213 : tb_in 113 213 = some (.ireturn, 0, 0, 0, []) := by decide +kernel
theorem t_113_214 : tb_in 113 214 = some (.iload 5, 0, 0, 0, []) := by decide +kernel
theorem t_113_216 : tb_in 113 216 = some (.ifCond .ne 15, 231, 0, 0, []) := by decide +kernel
theorem t_113_219 : tb_in 113 219 = some (.aload_n 3, 0, 0, 0, []) := by decide +kernel
theorem t_113_220 : tb_in 113 220 = some (.iconst 0, 0, 0, 0, []) := by decide +kernel
theorem t_113_221 : tb_in 113 221 = some (.laload, 0, 0, 0, []) := by decide +kernel
theorem t_113_222 : tb_in 113 222 = some (.iload 6, 0, 0, 0, []) := by decide +kernel
theorem t_113_224 : tb_in 113 224 = some (.i2l, 0, 0, 0, []) := by decide +kernel
theorem t_113_225 : tb_in 113 225 = some (.lcmp, 0, 0, 0, []) := by decide +kernel
theorem t_113_226 : tb_in 113 226 = some (.ifCond .eq 5, 231, 0, 0, []) := by decide +kernel
theorem t_113_229 : tb_in 113 229 = some (.iconst 0, 0, 0, 0, []) := by decide +kernel
theorem t_113_230 : tb_in 113 230 = some (.ireturn, 0, 0, 0, []) := by decide +kernel
theorem t_113_231 : tb_in 113 231 = some (.goto 697, 928, 0, 0, []) := by decide +kernel
theorem t_113_234 : tb_in 113 234 = some (.aload_n 1, 0, 0, 0, []) := by decide +kernel
theorem t_113_235 : tb_in 113 235 = some (.aload_n 0, 0, 0, 0, []) := by decide +kernel
theorem t_113_236 : tb_in 113 236 = some (.iload 4, 0, 0, 0, []) := by decide +kernel
theorem t_113_238 : tb_in 113 238 = some (.iconst 1, 0, 0, 1, []) := by decide +kernel
theorem t_113_239 : tb_in 113 239 = some (.iadd, 0, 0, 0, []) := by decide +kernel
theorem t_113_240 : tb_in 113 240 = some (.iaload, 0, 0, 0, []) := by decide +kernel
theorem t_113_241 : tb_in 113 241 = some (.aload_n 0, 0, 0, 0, []) := by decide +kernel
theorem t_113_242 : tb_in 113 242 = some (.iload 4, 0, 0, 0, []) := by decide +kernel
theorem t_113_244 : tb_in 113 244 = some (.iconst 2, 0, 0, 2, []) := by decide +kernel
theorem t_113_245 : tb_in 113 245 = some (.iadd, 0, 0, 0, []) := by decide +kernel
theorem t_113_246 : tb_in 113 246 = some (.iaload, 0, 0, 0, []) := by decide +kernel
theorem t_113_247 : tb_in 113 247 = some (.aload_n 0, 0, 0, 0, []) := by decide +kernel
theorem t_113_248 : tb_in 113 248 = some (.iload 4, 0, 0, 0, []) := by decide +kernel
theorem t_113_250 : tb_in 113 250 = some (.iconst 3, 0, 0, 3, []) := by decide +kernel
theorem t_113_251 : tb_in 113 251 = some (.iadd, 0, 0, 0, []) := by decide +kernel
theorem t_113_252 : tb_in 113 252 = some (.iaload, 0, 0, 0, []) := by decide +kernel
theorem t_113_253 : tb_in 113 253 = some (.aload_n 3, 0, 0, 0, []) := by decide +kernel
theorem t_113_254 : tb_in 113 254 = some (.invokestatic 76, 104, 5, 0, []) := by decide +kernel
theorem t_113_257 : tb_in 113 257 = some (.istore 5, 0, 0, 0, []) := by decide +kernel
theorem t_113_259 : tb_in 113 259 = some (.aload_n 2, 0, 0, 0, []) := by decide +kernel
theorem t_113_260 : tb_in 113 260 = some (.aload_n 0, 0, 0, 0, []) := by decide +kernel
theorem t_113_261 : tb_in 113 261 = some (.iload 4, 0, 0, 0, []) := by decide +kernel
theorem t_113_263 : tb_in 113 263 = some (.iconst 1, 0, 0, 1, []) := by decide +kernel
theorem t_113_264 : tb_in 113 264 = some (.iadd, 0, 0, 0, []) := by decide +kernel
theorem t_113_265 : tb_in 113 265 = some (.iaload, 0, 0, 0, []) := by decide +kernel
theorem t_113_266 : tb_in 113 266 = some (.aload_n 0, 0, 0, 0, []) := by decide +kernel
theorem t_113_267 : tb_in 113 267 = some (.iload 4, 0, 0, 0, []) := by decide +kernel
theorem t_113_269 : tb_in 113 269 = some (.iconst 2, 0, 0, 2, []) := by decide +kernel
theorem t_113_270 : tb_in 113 270 = some (.iadd, 0, 0, 0, []) := by decide +kernel
theorem t_113_271 : tb_in 113 271 = some (.iaload, 0, 0, 0, []) := by decide +kernel
theorem t_113_272 : tb_in 113 272 = some (.aload_n 0, 0, 0, 0, []) := by decide +kernel
theorem t_113_273 : tb_in 113 273 = some (.iload 4, 0, 0, 0, []) := by decide +kernel
theorem t_113_275 : tb_in 113 275 = some (.iconst 3, 0, 0, 3, []) := by decide +kernel
theorem t_113_276 : tb_in 113 276 = some (.iadd, 0, 0, 0, []) := by decide +kernel
theorem t_113_277 : tb_in 113 277 = some (.iaload, 0, 0, 0, []) := by decide +kernel
theorem t_113_278 : tb_in 113 278 = some (.invokevirtual 79, 48, 4, 0, []) := by decide +kernel
theorem t_113_281 : tb_in 113 281 = some (.istore 6, 0, 0, 0, []) := by decide +kernel
theorem t_113_283 : tb_in 113 283 = some (.aload_n 2, 0, 0, 0, []) := by decide +kernel
theorem t_113_284 : tb_in 113 284 = some (.invokevirtual 73, 40, 1, 0, []) := by decide +kernel
theorem t_113_287 : tb_in 113 287 = some (.iload 5, 0, 0, 0, []) := by decide +kernel
theorem t_113_289 : tb_in 113 289 = some (.if_icmp .eq 5, 294, 0, 0, []) := by decide +kernel
theorem t_113_292 : tb_in 113 292 = some (.iconst 0, 0, 0, 0, []) := by decide +kernel
theorem t_113_293 : tb_in 113 293 = some (.ireturn, 0, 0, 0, []) := by decide +kernel
theorem t_113_294 : tb_in 113 294 = some (.iload 5, 0, 0, 0, []) := by decide +kernel
theorem t_113_296 : tb_in 113 296 = some (.ifCond .ne 22, 318, 0, 0, []) := by decide +kernel
theorem t_113_299 : tb_in 113 299 = some (.aload_n 3, 0, 0, 0, []) := by decide +kernel
theorem t_113_300 : tb_in 113 300 = some (.iconst 0, 0, 0, 0, []) := by decide +kernel
theorem t_113_301 : tb_in 113 301 = some (.laload, 0, 0, 0, []) := by decide +kernel
theorem t_113_302 : tb_in 113 302 = some (.iload 6, 0, 0, 0, []) := by decide +kernel
theorem t_113_304 : tb_in 113 304 = some (.ifCond .eq 7, 311, 0, 0, []) := by decide +kernel
theorem t_113_307 : tb_in 113 307 = some (.lconst 1, 0, 0, 0, []) := by decide +kernel
theorem t_113_308 : tb_in 113 308 = some (.goto 4, 312, 0, 0, []) := by decide +kernel
theorem t_113_311 : tb_in 113 311 = some (.lconst 0, 0, 0, 0, []) := by decide +kernel
theorem t_113_312 : tb_in 113 312 = some (.lcmp, 0, 0, 0, []) := by decide +kernel
theorem t_113_313 : tb_in 113 313 = some (.ifCond .eq 5, 318, 0, 0, []) := by decide +kernel
theorem t_113_316 : tb_in 113 316 = some (.iconst 0, 0, 0, 0, []) := by decide +kernel
theorem t_113_317 : tb_in 113 317 = some (.ireturn, 0, 0, 0, []) := by decide +kernel
theorem t_113_318 : tb_in 113 318 = some (.goto 610, 928, 0, 0, []) := by decide +kernel
theorem t_113_321 : tb_in 113 321 = some (.aload_n 1, 0, 0, 0, []) := by decide +kernel
theorem t_113_322 : tb_in 113 322 = some (.aload_n 0, 0, 0, 0, []) := by decide +kernel
theorem t_113_323 : tb_in 113 323 = some (.iload 4, 0, 0, 0, []) := by decide +kernel
theorem t_113_325 : tb_in 113 325 = some (.iconst 1, 0, 0, 1, []) := by decide +kernel
theorem t_113_326 : tb_in 113 326 = some (.iadd, 0, 0, 0, []) := by decide +kernel
theorem t_113_327 : tb_in 113 327 = some (.iaload, 0, 0, 0, []) := by decide +kernel
theorem t_113_328 : tb_in 113 328 = some (.aload_n 0, 0, 0, 0, []) := by decide +kernel
theorem t_113_329 : tb_in 113 329 = some (.iload 4, 0, 0, 0, []) := by decide +kernel
theorem t_113_331 : tb_in 113 331 = some (.iconst 2, 0, 0, 2, []) := by decide +kernel
theorem t_113_332 : tb_in 113 332 = some (.iadd, 0, 0, 0, []) := by decide +kernel
theorem t_113_333 : tb_in 113 333 = some (.iaload, 0, 0, 0, []) := by decide +kernel
theorem t_113_334 : tb_in 113 334 = some (.aload_n 3, 0, 0, 0, []) := by decide +kernel
theorem t_113_335 : tb_in 113 335 = some (.invokestatic 80, 105, 4, 0, []) := by decide +kernel
theorem t_113_338 : tb_in 113 338 = some (.istore 5, 0, 0, 0, []) := by decide +kernel
theorem t_113_340 : tb_in 113 340 = some (.aload_n 2, 0, 0, 0, []) := by decide +kernel
theorem t_113_341 : tb_in 113 341 = some (.aload_n 0, 0, 0, 0, []) := by decide +kernel
theorem t_113_342 : tb_in 113 342 = some (.iload 4, 0, 0, 0, []) := by decide +kernel
theorem t_113_344 : tb_in 113 344 = some (.iconst 1, 0, 0, 1, []) := by decide +kernel
theorem t_113_345 : tb_in 113 345 = some (.iadd, 0, 0, 0, []) := by decide +kernel
theorem t_113_346 : tb_in 113 346 = some (.iaload, 0, 0, 0, []) := by decide +kernel
theorem t_113_347 : tb_in 113 347 = some (.aload_n 0, 0, 0, 0, []) := by decide +kernel
theorem t_113_348 : tb_in 113 348 = some (.iload 4, 0, 0, 0, []) := by decide +kernel
theorem t_113_350 : tb_in 113 350 = some (.iconst 2, 0, 0, 2, []) := by decide +kernel
theorem t_113_351 : tb_in 113 351 = some (.iadd, 0, 0, 0, []) := by decide +kernel
theorem t_113_352 : tb_in 113 352 = some (.iaload, 0, 0, 0, []) := by decide +kernel
theorem t_113_353 : tb_in 113 353 = some (.invokevirtual 83, 49, 3, 0, []) := by decide +kernel
theorem t_113_356 : tb_in 113 356 = some (.istore 6, 0, 0, 0, []) := by decide +kernel
theorem t_113_358 : tb_in 113 358 = some (.aload_n 2, 0, 0, 0, []) := by decide +kernel
theorem t_113_359 : tb_in 113 359 = some (.invokevirtual 73, 40, 1, 0, []) := by decide +kernel
theorem t_113_362 : tb_in 113 362 = some (.iload 5, 0, 0, 0, []) := by decide +kernel
theorem t_113_364 : tb_in 113 364 = some (.if_icmp .eq 5, 369, 0, 0, []) := by decide +kernel
theorem t_113_367 : tb_in 113 367 = some (.iconst 0, 0, 0, 0, []) := by decide +kernel
theorem t_113_368 : tb_in 113 368 = some (.ireturn, 0, 0, 0, []) := by decide +kernel
theorem t_113_369 : tb_in 113 369 = some (.iload 5, 0, 0, 0, []) := by decide +kernel
theorem t_113_371 : tb_in 113 371 = some (.ifCond .ne 22, 393, 0, 0, []) := by decide +kernel
theorem t_113_374 : tb_in 113 374 = some (.aload_n 3, 0, 0, 0, []) := by decide +kernel
theorem t_113_375 : tb_in 113 375 = some (.iconst 0, 0, 0, 0, []) := by decide +kernel
theorem t_113_376 : tb_in 113 376 = some (.laload, 0, 0, 0, []) := by decide +kernel
theorem t_113_377 : tb_in 113 377 = some (.iload 6, 0, 0, 0, []) := by decide +kernel
theorem t_113_379 : tb_in 113 379 = some (.ifCond .eq 7, 386, 0, 0, []) := by decide +kernel
theorem t_113_382 : tb_in 113 382 = some (.lconst 1, 0, 0, 0, []) := by decide +kernel
theorem t_113_383 : tb_in 113 383 = some (.goto 4, 387, 0, 0, []) := by decide +kernel
theorem t_113_386 : tb_in 113 386 = some (.lconst 0, 0, 0, 0, []) := by decide +kernel
theorem t_113_387 : tb_in 113 387 = some (.lcmp, 0, 0, 0, []) := by decide +kernel
theorem t_113_388 : tb_in 113 388 = some (.ifCond .eq 5, 393, 0, 0, []) := by decide +kernel
theorem t_113_391 : tb_in 113 391 = some (.iconst 0, 0, 0, 0, []) := by decide +kernel
theorem t_113_392 : tb_in 113 392 = some (.ireturn, 0, 0, 0, []) := by decide +kernel
theorem t_113_393 : tb_in 113 393 = some (.goto 535, 928, 0, 0, []) := by decide +kernel
theorem t_113_396 : tb_in 113 396 = some (.aload_n 1, 0, 0, 0, []) := by decide +kernel
theorem t_113_397 : tb_in 113 397 = some (.aload_n 0, 0, 0, 0, []) := by decide +kernel
theorem t_113_398 : tb_in 113 398 = some (.iload 4, 0, 0, 0, []) := by decide +kernel
theorem t_113_400 : tb_in 113 400 = some (.iconst 1, 0, 0, 1, []) := by decide +kernel
theorem t_113_401 : tb_in 113 401 = some (.iadd, 0, 0, 0, []) := by decide +kernel
theorem t_113_402 : tb_in 113 402 = some (.iaload, 0, 0, 0, []) := by decide +kernel
theorem t_113_403 : tb_in 113 403 = some (.aload_n 0, 0, 0, 0, []) := by decide +kernel
theorem t_113_404 : tb_in 113 404 = some (.iload 4, 0, 0, 0, []) := by decide +kernel
theorem t_113_406 : tb_in 113 406 = some (.iconst 2, 0, 0, 2, []) := by decide +kernel
theorem t_113_407 : tb_in 113 407 = some (.iadd, 0, 0, 0, []) := by decide +kernel
theorem t_113_408 : tb_in 113 408 = some (.iaload, 0, 0, 0, []) := by decide +kernel
theorem t_113_409 : tb_in 113 409 = some (.invokestatic 84, 106, 3, 0, []) := by decide +kernel
theorem t_113_412 : tb_in 113 412 = some (.istore 5, 0, 0, 0, []) := by decide +kernel
theorem t_113_414 : tb_in 113 414 = some (.aload_n 2, 0, 0, 0, []) := by decide +kernel
theorem t_113_415 : tb_in 113 415 = some (.aload_n 0, 0, 0, 0, []) := by decide +kernel
theorem t_113_416 : tb_in 113 416 = some (.iload 4, 0, 0, 0, []) := by decide +kernel
theorem t_113_418 : tb_in 113 418 = some (.iconst 1, 0, 0, 1, []) := by decide +kernel
theorem t_113_419 : tb_in 113 419 = some (.iadd, 0, 0, 0, []) := by decide +kernel
theorem t_113_420 : tb_in 113 420 = some (.iaload, 0, 0, 0, []) := by decide +kernel
theorem t_113_421 : tb_in 113 421 = some (.aload_n 0, 0, 0, 0, []) := by decide +kernel
theorem t_113_422 : tb_in 113 422 = some (.iload 4, 0, 0, 0, []) := by decide +kernel
theorem t_113_424 : tb_in 113 424 = some (.iconst 2, 0, 0, 2, []) := by decide +kernel
theorem t_113_425 : tb_in 113 425 = some (.iadd, 0, 0, 0, []) := by decide +kernel
theorem t_113_426 : tb_in 113 426 = some (.iaload, 0, 0, 0, []) := by decide +kernel
theorem t_113_427 : tb_in 113 427 = some (.invokevirtual 87, 50, 3, 0, []) := by decide +kernel
theorem t_113_430 : tb_in 113 430 = some (.aload_n 2, 0, 0, 0, []) := by decide +kernel
theorem t_113_431 : tb_in 113 431 = some (.invokevirtual 73, 40, 1, 0, []) := by decide +kernel
theorem t_113_434 : tb_in 113 434 = some (.iload 5, 0, 0, 0, []) := by decide +kernel
theorem t_113_436 : tb_in 113 436 = some (.if_icmp .eq 5, 441, 0, 0, []) := by decide +kernel
theorem t_113_439 : tb_in 113 439 = some (.iconst 0, 0, 0, 0, []) := by decide +kernel
theorem t_113_440 : tb_in 113 440 = some (.ireturn, 0, 0, 0, []) := by decide +kernel
theorem t_113_441 : tb_in 113 441 = some (.goto 487, 928, 0, 0, []) := by decide +kernel
theorem t_113_444 : tb_in 113 444 = some (.aload_n 1, 0, 0, 0, []) := by decide +kernel
theorem t_113_445 : tb_in 113 445 = some (.aload_n 0, 0, 0, 0, []) := by decide +kernel
theorem t_113_446 : tb_in 113 446 = some (.iload 4, 0, 0, 0, []) := by decide +kernel
theorem t_113_448 : tb_in 113 448 = some (.iconst 1, 0, 0, 1, []) := by decide +kernel
theorem t_113_449 : tb_in 113 449 = some (.iadd, 0, 0, 0, []) := by decide +kernel
theorem t_113_450 : tb_in 113 450 = some (.iaload, 0, 0, 0, []) := by decide +kernel
theorem t_113_451 : tb_in 113 451 = some (.aload_n 0, 0, 0, 0, []) := by decide +kernel
theorem t_113_452 : tb_in 113 452 = some (.iload 4, 0, 0, 0, []) := by decide +kernel
theorem t_113_454 : tb_in 113 454 = some (.iconst 2, 0, 0, 2, []) := by decide +kernel
theorem t_113_455 : tb_in 113 455 = some (.iadd, 0, 0, 0, []) := by decide +kernel
theorem t_113_456 : tb_in 113 456 = some (.iaload, 0, 0, 0, []) := by decide +kernel
theorem t_113_457 : tb_in 113 457 = some (.aload_n 3, 0, 0, 0, []) := by decide +kernel
theorem t_113_458 : tb_in 113 458 = some (.invokestatic 88, 107, 4, 0, []) := by decide +kernel
theorem t_113_461 : tb_in 113 461 = some (.istore 5, 0, 0, 0, []) := by decide +kernel
theorem t_113_463 : tb_in 113 463 = some (.aload_n 2, 0, 0, 0, []) := by decide +kernel
theorem t_113_464 : tb_in 113 464 = some (.aload_n 0, 0, 0, 0, []) := by decide +kernel
theorem t_113_465 : tb_in 113 465 = some (.iload 4, 0, 0, 0, []) := by decide +kernel
theorem t_113_467 : tb_in 113 467 = some (.iconst 1, 0, 0, 1, []) := by decide +kernel
theorem t_113_468 : tb_in 113 468 = some (.iadd, 0, 0, 0, []) := by decide +kernel
theorem t_113_469 : tb_in 113 469 = some (.iaload, 0, 0, 0, []) := by decide +kernel
theorem t_113_470 : tb_in 113 470 = some (.aload_n 0, 0, 0, 0, []) := by decide +kernel
theorem t_113_471 : tb_in 113 471 = some (.iload 4, 0, 0, 0, []) := by decide +kernel
theorem t_113_473 : tb_in 113 473 = some (.iconst 2, 0, 0, 2, []) := by decide +kernel
theorem t_113_474 : tb_in 113 474 = some (.iadd, 0, 0, 0, []) := by decide +kernel
theorem t_113_475 : tb_in 113 475 = some (.iaload, 0, 0, 0, []) := by decide +kernel
theorem t_113_476 : tb_in 113 476 = some (.invokevirtual 90, 67, 3, 0, []) := by decide +kernel
theorem t_113_479 : tb_in 113 479 = some (.istore 6, 0, 0, 0, []) := by decide +kernel
theorem t_113_481 : tb_in 113 481 = some (.aload_n 2, 0, 0, 0, []) := by decide +kernel
theorem t_113_482 : tb_in 113 482 = some (.invokevirtual 73, 40, 1, 0, []) := by decide +kernel
theorem t_113_485 : tb_in 113 485 = some (.iload 5, 0, 0, 0, []) := by decide +kernel
theorem t_113_487 : tb_in 113 487 = some (.if_icmp .eq 5, 492, 0, 0, []) := by decide +kernel
theorem t_113_490 : tb_in 113 490 = some (.iconst 0, 0, 0, 0, []) := by decide +kernel
theorem t_113_491 : tb_in 113 491 = some (.ireturn, 0, 0, 0, []) := by decide +kernel
theorem t_113_492 : tb_in 113 492 = some (.iload 5, 0, 0, 0, []) := by decide +kernel
theorem t_113_494 : tb_in 113 494 = some (.ifCond .ne 15, 509, 0, 0, []) := by decide +kernel
theorem t_113_497 : tb_in 113 497 = some (.aload_n 3, 0, 0, 0, []) := by decide +kernel
theorem t_113_498 : tb_in 113 498 = some (.iconst 0, 0, 0, 0, []) := by decide +kernel
theorem t_113_499 : tb_in 113 499 = some (.laload, 0, 0, 0, []) := by decide +kernel
theorem t_113_500 : tb_in 113 500 = some (.iload 6, 0, 0, 0, []) := by decide +kernel
theorem t_113_502 : tb_in 113 502 = some (.i2l, 0, 0, 0, []) := by decide +kernel
theorem t_113_503 : tb_in 113 503 = some (.lcmp, 0, 0, 0, []) := by decide +kernel
theorem t_113_504 : tb_in 113 504 = some (.ifCond .eq 5, 509, 0, 0, []) := by decide +kernel
theorem t_113_507 : tb_in 113 507 = some (.iconst 0, 0, 0, 0, []) := by decide +kernel
theorem t_113_508 : tb_in 113 508 = some (.ireturn, 0, 0, 0, []) := by decide +kernel
theorem t_113_509 : tb_in 113 509 = some (.goto 419, 928, 0, 0, []) := by decide +kernel
theorem t_113_512 : tb_in 113 512 = some (.aload_n 1, 0, 0, 0, []) := by decide +kernel
theorem t_113_513 : tb_in 113 513 = some (.aload_n 0, 0, 0, 0, []) := by decide +kernel
theorem t_113_514 : tb_in 113 514 = some (.iload 4, 0, 0, 0, []) := by decide +kernel
theorem t_113_516 : tb_in 113 516 = some (.iconst 1, 0, 0, 1, []) := by decide +kernel
theorem t_113_517 : tb_in 113 517 = some (.iadd, 0, 0, 0, []) := by decide +kernel
theorem t_113_518 : tb_in 113 518 = some (.iaload, 0, 0, 0, []) := by decide +kernel
theorem t_113_519 : tb_in 113 519 = some (.invokevirtual 91, 8, 2, 0, []) := by decide +kernel
theorem t_113_522 : tb_in 113 522 = some (.aload_n 2, 0, 0, 0, []) := by decide +kernel
theorem t_113_523 : tb_in 113 523 = some (.aload_n 0, 0, 0, 0, []) := by decide +kernel
theorem t_113_524 : tb_in 113 524 = some (.iload 4, 0, 0, 0, []) := by decide +kernel
theorem t_113_526 : tb_in 113 526 = some (.iconst 1, 0, 0, 1, []) := by decide +kernel
theorem t_113_527 : tb_in 113 527 = some (.iadd, 0, 0, 0, []) := by decide +kernel
theorem t_113_528 : tb_in 113 528 = some (.iaload, 0, 0, 0, []) := by decide +kernel
theorem t_113_529 : tb_in 113 529 = some (.invokevirtual 94, 68, 2, 0, []) := by decide +kernel
theorem t_113_532 : tb_in 113 532 = some (.if_icmp .eq 396, 928, 0, 0, []) := by decide +kernel
theorem t_113_535 : tb_in 113 535 = some (.iconst 0, 0, 0, 0, []) := by decide +kernel
theorem t_113_536 : tb_in 113 536 = some (.ireturn, 0, 0, 0, []) := by decide +kernel
theorem t_113_537 : tb_in 113 537 = some (.aload_n 1, 0, 0, 0, []) := by decide +kernel
theorem t_113_538 : tb_in 113 538 = some (.aload_n 0, 0, 0, 0, []) := by decide +kernel
theorem t_113_539 : tb_in 113 539 = some (.iload 4, 0, 0, 0, []) := by decide +kernel
theorem t_113_541 : tb_in 113 541 = some (.iconst 1, 0, 0, 1, []) := by decide +kernel
theorem t_113_542 : tb_in 113 542 = some (.iadd, 0, 0, 0, []) := by decide +kernel
theorem t_113_543 : tb_in 113 543 = some (.iaload, 0, 0, 0, []) := by decide +kernel
theorem t_113_544 : tb_in 113 544 = some (.aload_n 0, 0, 0, 0, []) := by decide +kernel
theorem t_113_545 : tb_in 113 545 = some (.iload 4, 0, 0, 0, []) := by decide +kernel
theorem t_113_547 : tb_in 113 547 = some (.iconst 2, 0, 0, 2, []) := by decide +kernel
theorem t_113_548 : tb_in 113 548 = some (.iadd, 0, 0, 0, []) := by decide +kernel
theorem t_113_549 : tb_in 113 549 = some (.iaload, 0, 0, 0, []) := by decide +kernel
theorem t_113_550 : tb_in 113 550 = some (.aload_n 3, 0, 0, 0, []) := by decide +kernel
theorem t_113_551 : tb_in 113 551 = some (.invokestatic 95, 108, 4, 0, []) := by decide +kernel
theorem t_113_554 : tb_in 113 554 = some (.istore 5, 0, 0, 0, []) := by decide +kernel
theorem t_113_556 : tb_in 113 556 = some (.aload_n 2, 0, 0, 0, []) := by decide +kernel
theorem t_113_557 : tb_in 113 557 = some (.aload_n 0, 0, 0, 0, []) := by decide +kernel
theorem t_113_558 : tb_in 113 558 = some (.iload 4, 0, 0, 0, []) := by decide +kernel
theorem t_113_560 : tb_in 113 560 = some (.iconst 1, 0, 0, 1, []) := by decide +kernel
theorem t_113_561 : tb_in 113 561 = some (.iadd, 0, 0, 0, []) := by decide +kernel
theorem t_113_562 : tb_in 113 562 = some (.iaload, 0, 0, 0, []) := by decide +kernel
theorem t_113_563 : tb_in 113 563 = some (.aload_n 0, 0, 0, 0, []) := by decide +kernel
theorem t_113_564 : tb_in 113 564 = some (.iload 4, 0, 0, 0, []) := by decide +kernel
theorem t_113_566 : tb_in 113 566 = some (.iconst 2, 0, 0, 2, []) := by decide +kernel
theorem t_113_567 : tb_in 113 567 = some (.iadd, 0, 0, 0, []) := by decide +kernel
theorem t_113_568 : tb_in 113 568 = some (.iaload, 0, 0, 0, []) := by decide +kernel
theorem t_113_569 : tb_in 113 569 = some (.invokevirtual 97, 69, 3, 0, []) := by decide +kernel
theorem t_113_572 : tb_in 113 572 = some (.istore 6, 0, 0, 0, []) := by decide +kernel
theorem t_113_574 : tb_in 113 574 = some (.aload_n 2, 0, 0, 0, []) := by decide +kernel
theorem t_113_575 : tb_in 113 575 = some (.invokevirtual 73, 40, 1, 0, []) := by decide +kernel
theorem t_113_578 : tb_in 113 578 = some (.iload 5, 0, 0, 0, []) := by decide +kernel
theorem t_113_580 : tb_in 113 580 = some (.if_icmp .eq 5, 585, 0, 0, []) := by decide +kernel
theorem t_113_583 : tb_in 113 583 = some (.iconst 0, 0, 0, 0, []) := by decide +kernel
theorem t_113_584 : tb_in 113 584 = some (.ireturn, 0, 0, 0, []) := by decide +kernel
theorem t_113_585 : tb_in 113 585 = some (.iload 5, 0, 0, 0, []) := by decide +kernel
theorem t_113_587 : tb_in 113 587 = some (.ifCond .ne 22, 609, 0, 0, []) := by decide +kernel
theorem t_113_590 : tb_in 113 590 = some (.aload_n 3, 0, 0, 0, []) := by decide +kernel
theorem t_113_591 : tb_in 113 591 = some (.iconst 0, 0, 0, 0, []) := by decide +kernel
theorem t_113_592 : tb_in 113 592 = some (.laload, 0, 0, 0, []) := by decide +kernel
theorem t_113_593 : tb_in 113 593 = some (.iload 6, 0, 0, 0, []) := by decide +kernel
theorem t_113_595 : tb_in 113 595 = some (.ifCond .eq 7, 602, 0, 0, []) := by decide +kernel
theorem t_113_598 : tb_in 113 598 = some (.lconst 1, 0, 0, 0, []) := by decide +kernel
theorem t_113_599 : tb_in 113 599 = some (.goto 4, 603, 0, 0, []) := by decide +kernel
theorem t_113_602 : tb_in 113 602 = some (.lconst 0, 0, 0, 0, []) := by decide +kernel
theorem t_113_603 : tb_in 113 603 = some (.lcmp, 0, 0, 0, []) := by decide +kernel
theorem t_113_604 : tb_in 113 604 = some (.ifCond .eq 5, 609, 0, 0, []) := by decide +kernel
theorem t_113_607 : tb_in 113 607 = some (.iconst 0, 0, 0, 0, []) := by decide +kernel
theorem t_113_608 : tb_in 113 608 = some (.ireturn, 0, 0, 0, []) := by decide +kernel
theorem t_113_609 : tb_in 113 609 = some (.goto 319, 928, 0, 0, []) := by decide +kernel
theorem t_113_612 : tb_in 113 612 = some (.aload_n 1, 0, 0, 0, []) := by decide +kernel
theorem t_113_613 : tb_in 113 613 = some (.aload_n 0, 0, 0, 0, []) := by decide +kernel
theorem t_113_614 : tb_in 113 614 = some (.iload 4, 0, 0, 0, []) := by decide +kernel
theorem t_113_616 : tb_in 113 616 = some (.iconst 1, 0, 0, 1, []) := by decide +kernel
theorem t_113_617 : tb_in 113 617 = some (.iadd, 0, 0, 0, []) := by decide +kernel
theorem t_113_618 : tb_in 113 618 = some (.iaload, 0, 0, 0, []) := by decide +kernel
theorem t_113_619 : tb_in 113 619 = some (.aload_n 0, 0, 0, 0, []) := by decide +kernel
theorem t_113_620 : tb_in 113 620 = some (.iload 4, 0, 0, 0, []) := by decide +kernel
theorem t_113_622 : tb_in 113 622 = some (.iconst 2, 0, 0, 2, []) := by decide +kernel
theorem t_113_623 : tb_in 113 623 = some (.iadd, 0, 0, 0, []) := by decide +kernel
theorem t_113_624 : tb_in 113 624 = some (.iaload, 0, 0, 0, []) := by decide +kernel
theorem t_113_625 : tb_in 113 625 = some (.aload_n 0, 0, 0, 0, []) := by decide +kernel
theorem t_113_626 : tb_in 113 626 = some (.iload 4, 0, 0, 0, []) := by decide +kernel
theorem t_113_628 : tb_in 113 628 = some (.iconst 3, 0, 0, 3, []) := by decide +kernel
theorem t_113_629 : tb_in 113 629 = some (.iadd, 0, 0, 0, []) := by decide +kernel
theorem t_113_630 : tb_in 113 630 = some (.iaload, 0, 0, 0, []) := by decide +kernel
theorem t_113_631 : tb_in 113 631 = some (.aload_n 3, 0, 0, 0, []) := by decide +kernel
theorem t_113_632 : tb_in 113 632 = some (.invokestatic 98, 109, 5, 0, []) := by decide +kernel
theorem t_113_635 : tb_in 113 635 = some (.istore 5, 0, 0, 0, []) := by decide +kernel
theorem t_113_637 : tb_in 113 637 = some (.aload_n 2, 0, 0, 0, []) := by decide +kernel
theorem t_113_638 : tb_in 113 638 = some (.aload_n 0, 0, 0, 0, []) := by decide +kernel
theorem t_113_639 : tb_in 113 639 = some (.iload 4, 0, 0, 0, []) := by decide +kernel
theorem t_113_641 : tb_in 113 641 = some (.iconst 1, 0, 0, 1, []) := by decide +kernel
theorem t_113_642 : tb_in 113 642 = some (.iadd, 0, 0, 0, []) := by decide +kernel
theorem t_113_643 : tb_in 113 643 = some (.iaload, 0, 0, 0, []) := by decide +kernel
theorem t_113_644 : tb_in 113 644 = some (.aload_n 0, 0, 0, 0, []) := by decide +kernel
theorem t_113_645 : tb_in 113 645 = some (.iload 4, 0, 0, 0, []) := by decide +kernel
theorem t_113_647 : tb_in 113 647 = some (.iconst 2, 0, 0, 2, []) := by decide +kernel
theorem t_113_648 : tb_in 113 648 = some (.iadd, 0, 0, 0, []) := by decide +kernel
theorem t_113_649 : tb_in 113 649 = some (.iaload, 0, 0, 0, []) := by decide +kernel
theorem t_113_650 : tb_in 113 650 = some (.aload_n 0, 0, 0, 0, []) := by decide +kernel
theorem t_113_651 : tb_in 113 651 = some (.iload 4, 0, 0, 0, []) := by decide +kernel
theorem t_113_653 : tb_in 113 653 = some (.iconst 3, 0, 0, 3, []) := by decide +kernel
theorem t_113_654 : tb_in 113 654 = some (.iadd, 0, 0, 0, []) := by decide +kernel
theorem t_113_655 : tb_in 113 655 = some (.iaload, 0, 0, 0, []) := by decide +kernel
theorem t_113_656 : tb_in 113 656 = some (.invokevirtual 100, 70, 4, 0, []) := by decide +kernel
theorem t_113_659 : tb_in 113 659 = some (.istore 6, 0, 0, 0, []) := by decide +kernel
theorem t_113_661 : tb_in 113 661 = some (.aload_n 2, 0, 0, 0, []) := by decide +kernel
theorem t_113_662 : tb_in 113 662 = some (.invokevirtual 73, 40, 1, 0, []) := by decide +kernel
theorem t_113_665 : tb_in 113 665 = some (.iload 5, 0, 0, 0, []) := by decide +kernel
theorem t_113_667 : tb_in 113 667 = some (.if_icmp .eq 5, 672, 0, 0, []) := by decide +kernel
theorem t_113_670 : tb_in 113 670 = some (.iconst 0, 0, 0, 0, []) := by decide +kernel
theorem t_113_671 : tb_in 113 671 = some (.ireturn, 0, 0, 0, []) := by decide +kernel
theorem t_113_672 : tb_in 113 672 = some (.iload 5, 0, 0, 0, []) := by decide +kernel
theorem t_113_674 : tb_in 113 674 = some (.ifCond .ne 15, 689, 0, 0, []) := by decide +kernel
theorem t_113_677 : tb_in 113 677 = some (.aload_n 3, 0, 0, 0, []) := by decide +kernel
theorem t_113_678 : tb_in 113 678 = some (.iconst 0, 0, 0, 0, []) := by decide +kernel
theorem t_113_679 : tb_in 113 679 = some (.laload, 0, 0, 0, []) := by decide +kernel
theorem t_113_680 : tb_in 113 680 = some (.iload 6, 0, 0, 0, []) := by decide +kernel
theorem t_113_682 : tb_in 113 682 = some (.i2l, 0, 0, 0, []) := by decide +kernel
theorem t_113_683 : tb_in 113 683 = some (.lcmp, 0, 0, 0, []) := by decide +kernel
theorem t_113_684 : tb_in 113 684 = some (.ifCond .eq 5, 689, 0, 0, []) := by decide +kernel
theorem t_113_687 : tb_in 113 687 = some (.iconst 0, 0, 0, 0, []) := by decide +kernel
theorem t_113_688 : tb_in 113 688 = some (.ireturn, 0, 0, 0, []) := by decide +kernel
theorem t_113_689 : tb_in 113 689 = some (.goto 239, 928, 0, 0, []) := by decide +kernel
theorem t_113_692 : tb_in 113 692 = some (.aload_n 1, 0, 0, 0, []) := by decide +kernel
theorem t_113_693 : tb_in 113 693 = some (.aload_n 0, 0, 0, 0, []) := by decide +kernel
theorem t_113_694 : tb_in 113 694 = some (.iload 4, 0, 0, 0, []) := by decide +kernel
theorem t_113_696 : tb_in 113 696 = some (.iconst 1, 0, 0, 1, []) := by decide +kernel
theorem t_113_697 : tb_in 113 697 = some (.iadd, 0, 0, 0, []) := by decide +kernel
theorem t_113_698 : tb_in 113 698 = some (.iaload, 0, 0, 0, []) := by decide +kernel
theorem t_113_699 : tb_in 113 699 = some (.aload_n 0, 0, 0, 0, []) := by decide +kernel
theorem t_113_700 : tb_in 113 700 = some (.iload 4, 0, 0, 0, []) := by decide +kernel
theorem t_113_702 : tb_in 113 702 = some (.iconst 2, 0, 0, 2, []) := by decide +kernel
theorem t_113_703 : tb_in 113 703 = some (.iadd, 0, 0, 0, []) := by decide +kernel
theorem t_113_704 : tb_in 113 704 = some (.iaload, 0, 0, 0, []) := by decide +kernel
theorem t_113_705 : tb_in 113 705 = some (.aload_n 0, 0, 0, 0, []) := by decide +kernel
theorem t_113_706 : tb_in 113 706 = some (.iload 4, 0, 0, 0, []) := by decide +kernel
theorem t_113_708 : tb_in 113 708 = some (.iconst 3, 0, 0, 3, []) := by decide +kernel
theorem t_113_709 : tb_in 113 709 = some (.iadd, 0, 0, 0, []) := by decide +kernel
theorem t_113_710 : tb_in 113 710 = some (.iaload, 0, 0, 0, []) := by decide +kernel
theorem t_113_711 : tb_in 113 711 = some (.aload_n 3, 0, 0, 0, []) := by decide +kernel
theorem t_113_712 : tb_in 113 712 = some (.invokestatic 101, 110, 5, 0, []) := by decide +kernel
theorem t_113_715 : tb_in 113 715 = some (.istore 5, 0, 0, 0, []) := by decide +kernel
theorem t_113_717 : tb_in 113 717 = some (.aload_n 2, 0, 0, 0, []) := by decide +kernel
theorem t_113_718 : tb_in 113 718 = some (.aload_n 0, 0, 0, 0, []) := by decide +kernel
theorem t_113_719 : tb_in 113 719 = some (.iload 4, 0, 0, 0, []) := by decide +kernel
theorem t_113_721 : tb_in 113 721 = some (.iconst 1, 0, 0, 1, []) := by decide +kernel
theorem t_113_722 : tb_in 113 722 = some (.iadd, 0, 0, 0, []) := by decide +kernel
theorem t_113_723 : tb_in 113 723 = some (.iaload, 0, 0, 0, []) := by decide +kernel
theorem t_113_724 : tb_in 113 724 = some (.aload_n 0, 0, 0, 0, []) := by decide +kernel
theorem t_113_725 : tb_in 113 725 = some (.iload 4, 0, 0, 0, []) := by decide +kernel
theorem t_113_727 : tb_in 113 727 = some (.iconst 2, 0, 0, 2, []) := by decide +kernel
theorem t_113_728 : tb_in 113 728 = some (.iadd, 0, 0, 0, []) := by decide +kernel
theorem t_113_729 : tb_in 113 729 = some (.iaload, 0, 0, 0, []) := by decide +kernel
theorem t_113_730 : tb_in 113 730 = some (.aload_n 0, 0, 0, 0, []) := by decide +kernel
theorem t_113_731 : tb_in 113 731 = some (.iload 4, 0, 0, 0, []) := by decide +kernel
theorem t_113_733 : tb_in 113 733 = some (.iconst 3, 0, 0, 3, []) := by decide +kernel
theorem t_113_734 : tb_in 113 734 = some (.iadd, 0, 0, 0, []) := by decide +kernel
theorem t_113_735 : tb_in 113 735 = some (.iaload, 0, 0, 0, []) := by decide +kernel
theorem t_113_736 : tb_in 113 736 = some (.invokevirtual 103, 71, 4, 0, []) := by decide +kernel
theorem t_113_739 : tb_in 113 739 = some (.istore 6, 0, 0, 0, []) := by decide +kernel
theorem t_113_741 : tb_in 113 741 = some (.aload_n 2, 0, 0, 0, []) := by decide +kernel
theorem t_113_742 : tb_in 113 742 = some (.invokevirtual 73, 40, 1, 0, []) := by decide +kernel
theorem t_113_745 : tb_in 113 745 = some (.iload 5, 0, 0, 0, []) := by decide +kernel
theorem t_113_747 : tb_in 113 747 = some (.if_icmp .eq 5, 752, 0, 0, []) := by decide +kernel
theorem t_113_750 : tb_in 113 750 = some (.iconst 0, 0, 0, 0, []) := by decide +kernel
theorem t_113_751 : tb_in 113 751 = some (.ireturn, 0, 0, 0, []) := by decide +kernel
theorem t_113_752 : tb_in 113 752 = some (.iload 5, 0, 0, 0, []) := by decide +kernel
theorem t_113_754 : tb_in 113 754 = some (.ifCond .ne 15, 769, 0, 0, []) := by decide +kernel
theorem t_113_757 : tb_in 113 757 = some (.aload_n 3, 0, 0, 0, []) := by decide +kernel
theorem t_113_758 : tb_in 113 758 = some (.iconst 0, 0, 0, 0, []) := by decide +kernel
theorem t_113_759 : tb_in 113 759 = some (.laload, 0, 0, 0, []) := by decide +kernel
theorem t_113_760 : tb_in 113 760 = some (.iload 6, 0, 0, 0, []) := by decide +kernel
theorem t_113_762 : tb_in 113 762 = some (.i2l, 0, 0, 0, []) := by decide +kernel
theorem t_113_763 : tb_in 113 763 = some (.lcmp, 0, 0, 0, []) := by decide +kernel
theorem t_113_764 : tb_in 113 764 = some (.ifCond .eq 5, 769, 0, 0, []) := by decide +kernel
theorem t_113_767 : tb_in 113 767 = some (.iconst 0, 0, 0, 0, []) := by decide +kernel
theorem t_113_768 : tb_in 113 768 = some (.ireturn, 0, 0, 0, []) := by decide +kernel
theorem t_113_769 : tb_in 113 769 = some (.goto 159, 928, 0, 0, []) := by decide +kernel
theorem t_113_772 : tb_in 113 772 = some (.aload_n 1, 0, 0, 0, []) := by decide +kernel
theorem t_113_773 : tb_in 113 773 = some (.aload_n 0, 0, 0, 0, []) := by decide +kernel
theorem t_113_774 : tb_in 113 774 = some (.iload 4, 0, 0, 0, []) := by decide +kernel
theorem t_113_776 : tb_in 113 776 = some (.iconst 1, 0, 0, 1, []) := by decide +kernel
theorem t_113_777 : tb_in 113 777 = some (.iadd, 0, 0, 0, []) := by decide +kernel
theorem t_113_778 : tb_in 113 778 = some (.iaload, 0, 0, 0, []) := by decide +kernel
theorem t_113_779 : tb_in 113 779 = some (.invokevirtual 104, 12, 2, 0, []) := by decide +kernel
theorem t_113_782 : tb_in 113 782 = some (.aload_n 2, 0, 0, 0, []) := by decide +kernel
theorem t_113_783 : tb_in 113 783 = some (.aload_n 0, 0, 0, 0, []) := by decide +kernel
theorem t_113_784 : tb_in 113 784 = some (.iload 4, 0, 0, 0, []) := by decide +kernel
theorem t_113_786 : tb_in 113 786 = some (.iconst 1, 0, 0, 1, []) := by decide +kernel
theorem t_113_787 : tb_in 113 787 = some (.iadd, 0, 0, 0, []) := by decide +kernel
theorem t_113_788 : tb_in 113 788 = some (.iaload, 0, 0, 0, []) := by decide +kernel
theorem t_113_789 : tb_in 113 789 = some (.invokevirtual 107, 72, 2, 0, []) := by decide +kernel
theorem t_113_792 : tb_in 113 792 = some (.if_icmp .eq 136, 928, 0, 0, []) := by decide +kernel
theorem t_113_795 : tb_in 113 795 = some (.iconst 0, 0, 0, 0, []) := by decide +kernel
theorem t_113_796 : tb_in 113 796 = some (.ireturn, 0, 0, 0, []) := by decide +kernel
theorem t_113_797 : tb_in 113 797 = some (.aload_n 1, 0, 0, 0, []) := by decide +kernel
theorem t_113_798 : tb_in 113 798 = some (.aload_n 0, 0, 0, 0, []) := by decide +kernel
theorem t_113_799 : tb_in 113 799 = some (.iload 4, 0, 0, 0, []) := by decide +kernel
theorem t_113_801 : tb_in 113 801 = some (.iconst 1, 0, 0, 1, []) := by decide +kernel
theorem t_113_802 : tb_in 113 802 = some (.iadd, 0, 0, 0, []) := by decide +kernel
theorem t_113_803 : tb_in 113 803 = some (.iaload, 0, 0, 0, []) := by decide +kernel
theorem t_113_804 : tb_in 113 804 = some (.aload_n 3, 0, 0, 0, []) := by decide +kernel
theorem t_113_805 : tb_in 113 805 = some (.invokestatic 108, 111, 3, 0, []) := by decide +kernel
theorem t_113_808 : tb_in 113 808 = some (.istore 5, 0, 0, 0, []) := by decide +kernel
theorem t_113_810 : tb_in 113 810 = some (.aload_n 2, 0, 0, 0, []) := by decide +kernel
theorem t_113_811 : tb_in 113 811 = some (.aload_n 0, 0, 0, 0, []) := by decide +kernel
theorem t_113_812 : tb_in 113 812 = some (.iload 4, 0, 0, 0, []) := by decide +kernel
theorem t_113_814 : tb_in 113 814 = some (.iconst 1, 0, 0, 1, []) := by decide +kernel
theorem t_113_815 : tb_in 113 815 = some (.iadd, 0, 0, 0, []) := by decide +kernel
theorem t_113_816 : tb_in 113 816 = some (.iaload, 0, 0, 0, []) := by decide +kernel
theorem t_113_817 : tb_in 113 817 = some (.invokevirtual 110, 73, 2, 0, []) := by decide +kernel
theorem t_113_820 : tb_in 113 820 = some (.istore 6, 0, 0, 0, []) := by decide +kernel
theorem t_113_822 : tb_in 113 822 = some (.aload_n 2, 0, 0, 0, []) := by decide +kernel
theorem t_113_823 : tb_in 113 823 = some (.invokevirtual 73, 40, 1, 0, []) := by decide +kernel
theorem t_113_826 : tb_in 113 826 = some (.iload 5, 0, 0, 0, []) := by decide +kernel
theorem t_113_828 : tb_in 113 828 = some (.if_icmp .eq 5, 833, 0, 0, []) := by decide +kernel
theorem t_113_831 : tb_in 113 831 = some (.iconst 0, 0, 0, 0, []) := by decide +kernel
theorem t_113_832 : tb_in 113 832 = some (.ireturn, 0, 0, 0, []) := by decide +kernel
theorem t_113_833 : tb_in 113 833 = some (.iload 5, 0, 0, 0, []) := by decide +kernel
theorem t_113_835 : tb_in 113 835 = some (.ifCond .ne 15, 850, 0, 0, []) := by decide +kernel
theorem t_113_838 : tb_in 113 838 = some (.aload_n 3, 0, 0, 0, []) := by decide +kernel
theorem t_113_839 : tb_in 113 839 = some (.iconst 0, 0, 0, 0, []) := by decide +kernel
theorem t_113_840 : tb_in 113 840 = some (.laload, 0, 0, 0, []) := by decide +kernel
theorem t_113_841 : tb_in 113 841 = some (.iload 6, 0, 0, 0, []) := by decide +kernel
theorem t_113_843 : tb_in 113 843 = some (.i2l, 0, 0, 0, []) := by decide +kernel
theorem t_113_844 : tb_in 113 844 = some (.lcmp, 0, 0, 0, []) := by decide +kernel
theorem t_113_845 : tb_in 113 845 = some (.ifCond .eq 5, 850, 0, 0, []) := by decide +kernel
theorem t_113_848 : tb_in 113 848 = some (.iconst 0, 0, 0, 0, []) := by decide +kernel
theorem t_113_849 : tb_in 113 849 = some (.ireturn, 0, 0, 0, []) := by decide +kernel
theorem t_113_850 : tb_in 113 850 = some (.goto 78, 928, 0, 0, []) := by decide +kernel
theorem t_113_853 : tb_in 113 853 = some (.aload_n 1, 0, 0, 0, []) := by decide +kernel
theorem t_113_854 : tb_in 113 854 = some (.aload_n 0, 0, 0, 0, []) := by decide +kernel
theorem t_113_855 : tb_in 113 855 = some (.iload 4, 0, 0, 0, []) := by decide +kernel
theorem t_113_857 : tb_in 113 857 = some (.iconst 1, 0, 0, 1, []) := by decide +kernel
theorem t_113_858 : tb_in 113 858 = some (.iadd, 0, 0, 0, []) := by decide +kernel
theorem t_113_859 : tb_in 113 859 = some (.iaload, 0, 0, 0, []) := by decide +kernel
theorem t_113_860 : tb_in 113 860 = some (.aload_n 0, 0, 0, 0, []) := by decide +kernel
theorem t_113_861 : tb_in 113 861 = some (.iload 4, 0, 0, 0, []) := by decide +kernel
theorem t_113_863 : tb_in 113 863 = some (.iconst 2, 0, 0, 2, []) := by decide +kernel
theorem t_113_864 : tb_in 113 864 = some (.iadd, 0, 0, 0, []) := by decide +kernel
theorem t_113_865 : tb_in 113 865 = some (.iaload, 0, 0, 0, []) := by decide +kernel
theorem t_113_866 : tb_in 113 866 = some (.aload_n 3, 0, 0, 0, []) := by decide +kernel
theorem t_113_867 : tb_in 113 867 = some (.invokestatic 111, 112, 4, 0, []) := by decide +kernel
theorem t_113_870 : tb_in 113 870 = some (.istore 5, 0, 0, 0, []) := by decide +kernel
theorem t_113_872 : tb_in 113 872 = some (.aload_n 2, 0, 0, 0, []) := by decide +kernel
theorem t_113_873 : tb_in 113 873 = some (.aload_n 0, 0, 0, 0, []) := by decide +kernel
theorem t_113_874 : tb_in 113 874 = some (.iload 4, 0, 0, 0, []) := by decide +kernel
theorem t_113_876 : tb_in 113 876 = some (.iconst 1, 0, 0, 1, []) := by decide +kernel
theorem t_113_877 : tb_in 113 877 = some (.iadd, 0, 0, 0, []) := by decide +kernel
theorem t_113_878 : tb_in 113 878 = some (.iaload, 0, 0, 0, []) := by decide +kernel
theorem t_113_879 : tb_in 113 879 = some (.aload_n 0, 0, 0, 0, []) := by decide +kernel
theorem t_113_880 : tb_in 113 880 = some (.iload 4, 0, 0, 0, []) := by decide +kernel
theorem t_113_882 : tb_in 113 882 = some (.iconst 2, 0, 0, 2, []) := by decide +kernel
theorem t_113_883 : tb_in 113 883 = some (.iadd, 0, 0, 0, []) := by decide +kernel
theorem t_113_884 : tb_in 113 884 = some (.iaload, 0, 0, 0, []) := by decide +kernel
theorem t_113_885 : tb_in 113 885 = some (.invokevirtual 113, 74, 3, 0, []) := by decide +kernel
theorem t_113_888 : tb_in 113 888 = some (.istore 6, 0, 0, 0, []) := by decide +kernel
theorem t_113_890 : tb_in 113 890 = some (.aload_n 2, 0, 0, 0, []) := by decide +kernel
theorem t_113_891 : tb_in 113 891 = some (.invokevirtual 73, 40, 1, 0, []) := by decide +kernel
theorem t_113_894 : tb_in 113 894 = some (.iload 5, 0, 0, 0, []) := by decide +kernel
theorem t_113_896 : tb_in 113 896 = some (.if_icmp .eq 5, 901, 0, 0, []) := by decide +kernel
theorem t_113_899 : tb_in 113 899 = some (.iconst 0, 0, 0, 0, []) := by decide +kernel
theorem t_113_900 : tb_in 113 900 = some (.ireturn, 0, 0, 0, []) := by decide +kernel
theorem t_113_901 : tb_in 113 901 = some (.iload 5, 0, 0, 0, []) := by decide +kernel
theorem t_113_903 : tb_in 113 903 = some (.ifCond .ne 22, 925, 0, 0, []) := by decide +kernel
theorem t_113_906 : tb_in 113 906 = some (.aload_n 3, 0, 0, 0, []) := by decide +kernel
theorem t_113_907 : tb_in 113 907 = some (.iconst 0, 0, 0, 0, []) := by decide +kernel
theorem t_113_908 : tb_in 113 908 = some (.laload, 0, 0, 0, []) := by decide +kernel
theorem t_113_909 : tb_in 113 909 = some (.iload 6, 0, 0, 0, []) := by decide +kernel
theorem t_113_911 : tb_in 113 911 = some (.ifCond .eq 7, 918, 0, 0, []) := by decide +kernel
theorem t_113_914 : tb_in 113 914 = some (.lconst 1, 0, 0, 0, []) := by decide +kernel
theorem t_113_915 : tb_in 113 915 = some (.goto 4, 919, 0, 0, []) := by decide +kernel
theorem t_113_918 : tb_in 113 918 = some (.lconst 0, 0, 0, 0, []) := by decide +kernel
theorem t_113_919 : tb_in 113 919 = some (.lcmp, 0, 0, 0, []) := by decide +kernel
theorem t_113_920 : tb_in 113 920 = some (.ifCond .eq 5, 925, 0, 0, []) := by decide +kernel
theorem t_113_923 : tb_in 113 923 = some (.iconst 0, 0, 0, 0, []) := by decide +kernel
theorem t_113_924 : tb_in 113 924 = some (.ireturn, 0, 0, 0, []) := by decide +kernel
theorem t_113_925 : tb_in 113 925 = some (.goto 3, 928, 0, 0, []) := by decide +kernel
theorem t_113_928 : tb_in 113 928 = some (.iinc 4 4, 0, 0, 4, []) := by decide +kernel
theorem t_113_931 : tb_in 113 931 = some (.goto (-908), 23, 0, 0, []) := by decide +kernel
theorem t_113_934 : tb_in 113 934 = some (.iconst 1, 0, 0, 1, []) := by decide +kernel
theorem t_113_935 : tb_in 113 935 = some (.ireturn, 0, 0, 0, []) := by decide +kernel
