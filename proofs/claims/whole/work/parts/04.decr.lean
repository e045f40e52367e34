theorem dX6_init_0 : decode cX6_init 0 = .ok (.aload_n 0, 1) := by decide +kernel
theorem dX6_init_1 : decode cX6_init 1 = .ok (.invokespecial 1, 3) := by decide +kernel
theorem dX6_init_4 : decode cX6_init 4 = .ok (.aload_n 0, 1) := by decide +kernel
theorem dX6_init_5 : decode cX6_init 5 = .ok (.sipush 291, 3) := by decide +kernel
theorem dX6_init_8 : decode cX6_init 8 = .ok (.newarray .int, 2) := by decide +kernel
theorem dX6_init_10 : decode cX6_init 10 = .ok (.putfield 7, 3) := by decide +kernel
theorem dX6_init_13 : decode cX6_init 13 = .ok (.aload_n 0, 1) := by decide +kernel
theorem dX6_init_14 : decode cX6_init 14 = .ok (.sipush 1455, 3) := by decide +kernel
theorem dX6_init_17 : decode cX6_init 17 = .ok (.newarray .int, 2) := by decide +kernel
theorem dX6_init_19 : decode cX6_init 19 = .ok (.putfield 13, 3) := by decide +kernel
theorem dX6_init_22 : decode cX6_init 22 = .ok (.aload_n 0, 1) := by decide +kernel
theorem dX6_init_23 : decode cX6_init 23 = .ok (.sipush 291, 3) := by decide +kernel
theorem dX6_init_26 : decode cX6_init 26 = .ok (.newarray .int, 2) := by decide +kernel
theorem dX6_init_28 : decode cX6_init 28 = .ok (.putfield 16, 3) := by decide +kernel
theorem dX6_init_31 : decode cX6_init 31 = .ok (.aload_n 0, 1) := by decide +kernel
theorem dX6_init_32 : decode cX6_init 32 = .ok (.bipush 80, 2) := by decide +kernel
theorem dX6_init_34 : decode cX6_init 34 = .ok (.newarray .char, 2) := by decide +kernel
theorem dX6_init_36 : decode cX6_init 36 = .ok (.putfield 19, 3) := by decide +kernel
theorem dX6_init_39 : decode cX6_init 39 = .ok (.aload_n 0, 1) := by decide +kernel
theorem dX6_init_40 : decode cX6_init 40 = .ok (.bipush 47, 2) := by decide +kernel
theorem dX6_init_42 : decode cX6_init 42 = .ok (.newarray .int, 2) := by decide +kernel
theorem dX6_init_44 : decode cX6_init 44 = .ok (.putfield 23, 3) := by decide +kernel
theorem dX6_init_47 : decode cX6_init 47 = .ok (.aload_n 0, 1) := by decide +kernel
theorem dX6_init_48 : decode cX6_init 48 = .ok (.sipush 256, 3) := by decide +kernel
theorem dX6_init_51 : decode cX6_init 51 = .ok (.newarray .int, 2) := by decide +kernel
theorem dX6_init_53 : decode cX6_init 53 = .ok (.putfield 26, 3) := by decide +kernel
theorem dX6_init_56 : decode cX6_init 56 = .ok (.aload_n 0, 1) := by decide +kernel
theorem dX6_init_57 : decode cX6_init 57 = .ok (.sipush 144, 3) := by decide +kernel
theorem dX6_init_60 : decode cX6_init 60 = .ok (.newarray .int, 2) := by decide +kernel
theorem dX6_init_62 : decode cX6_init 62 = .ok (.putfield 29, 3) := by decide +kernel
theorem dX6_init_65 : decode cX6_init 65 = .ok (.aload_n 0, 1) := by decide +kernel
theorem dX6_init_66 : decode cX6_init 66 = .ok (.sipush 144, 3) := by decide +kernel
theorem dX6_init_69 : decode cX6_init 69 = .ok (.newarray .int, 2) := by decide +kernel
theorem dX6_init_71 : decode cX6_init 71 = .ok (.putfield 32, 3) := by decide +kernel
theorem dX6_init_74 : decode cX6_init 74 = .ok (.aload_n 0, 1) := by decide +kernel
theorem dX6_init_75 : decode cX6_init 75 = .ok (.sipush 144, 3) := by decide +kernel
theorem dX6_init_78 : decode cX6_init 78 = .ok (.newarray .int, 2) := by decide +kernel
theorem dX6_init_80 : decode cX6_init 80 = .ok (.putfield 35, 3) := by decide +kernel
theorem dX6_init_83 : decode cX6_init 83 = .ok (.aload_n 0, 1) := by decide +kernel
theorem dX6_init_84 : decode cX6_init 84 = .ok (.sipush 144, 3) := by decide +kernel
theorem dX6_init_87 : decode cX6_init 87 = .ok (.newarray .int, 2) := by decide +kernel
theorem dX6_init_89 : decode cX6_init 89 = .ok (.putfield 38, 3) := by decide +kernel
theorem dX6_init_92 : decode cX6_init 92 = .ok (.aload_n 0, 1) := by decide +kernel
theorem dX6_init_93 : decode cX6_init 93 = .ok (.sipush 144, 3) := by decide +kernel
theorem dX6_init_96 : decode cX6_init 96 = .ok (.newarray .int, 2) := by decide +kernel
theorem dX6_init_98 : decode cX6_init 98 = .ok (.putfield 41, 3) := by decide +kernel
theorem dX6_init_101 : decode cX6_init 101 = .ok (.aload_n 0, 1) := by decide +kernel
theorem dX6_init_102 : decode cX6_init 102 = .ok (.sipush 144, 3) := by decide +kernel
theorem dX6_init_105 : decode cX6_init 105 = .ok (.newarray .int, 2) := by decide +kernel
theorem dX6_init_107 : decode cX6_init 107 = .ok (.putfield 44, 3) := by decide +kernel
theorem dX6_init_110 : decode cX6_init 110 = .ok (.aload_n 0, 1) := by decide +kernel
theorem dX6_init_111 : decode cX6_init 111 = .ok (.sipush 144, 3) := by decide +kernel
theorem dX6_init_114 : decode cX6_init 114 = .ok (.newarray .boolean, 2) := by decide +kernel
theorem dX6_init_116 : decode cX6_init 116 = .ok (.putfield 47, 3) := by decide +kernel
theorem dX6_init_119 : decode cX6_init 119 = .ok (.aload_n 0, 1) := by decide +kernel
theorem dX6_init_120 : decode cX6_init 120 = .ok (.sipush 144, 3) := by decide +kernel
theorem dX6_init_123 : decode cX6_init 123 = .ok (.newarray .int, 2) := by decide +kernel
theorem dX6_init_125 : decode cX6_init 125 = .ok (.putfield 51, 3) := by decide +kernel
theorem dX6_init_128 : decode cX6_init 128 = .ok (.iconst 0, 1) := by decide +kernel
theorem dX6_init_129 : decode cX6_init 129 = .ok (.istore_n 1, 1) := by decide +kernel
theorem dX6_init_130 : decode cX6_init 130 = .ok (.iconst 0, 1) := by decide +kernel
theorem dX6_init_131 : decode cX6_init 131 = .ok (.istore_n 2, 1) := by decide +kernel
theorem dX6_init_132 : decode cX6_init 132 = .ok (.iload_n 2, 1) := by decide +kernel
theorem dX6_init_133 : decode cX6_init 133 = .ok (.sipush 256, 3) := by decide +kernel
theorem dX6_init_136 : decode cX6_init 136 = .ok (.if_icmp .ge 42, 3) := by decide +kernel
theorem dX6_init_139 : decode cX6_init 139 = .ok (.aload_n 0, 1) := by decide +kernel
theorem dX6_init_140 : decode cX6_init 140 = .ok (.getfield 26, 3) := by decide +kernel
theorem dX6_init_143 : decode cX6_init 143 = .ok (.iload_n 2, 1) := by decide +kernel
theorem dX6_init_144 : decode cX6_init 144 = .ok (.bipush (-6), 2) := by decide +kernel
theorem dX6_init_146 : decode cX6_init 146 = .ok (.iastore, 1) := by decide +kernel
theorem dX6_init_147 : decode cX6_init 147 = .ok (.iload_n 2, 1) := by decide +kernel
theorem dX6_init_148 : decode cX6_init 148 = .ok (.invokestatic 54, 3) := by decide +kernel
theorem dX6_init_151 : decode cX6_init 151 = .ok (.iload_n 2, 1) := by decide +kernel
theorem dX6_init_152 : decode cX6_init 152 = .ok (.if_icmp .ne 20, 3) := by decide +kernel
theorem dX6_init_155 : decode cX6_init 155 = .ok (.aload_n 0, 1) := by decide +kernel
theorem dX6_init_156 : decode cX6_init 156 = .ok (.getfield 23, 3) := by decide +kernel
theorem dX6_init_159 : decode cX6_init 159 = .ok (.iload_n 1, 1) := by decide +kernel
theorem dX6_init_160 : decode cX6_init 160 = .ok (.iload_n 2, 1) := by decide +kernel
theorem dX6_init_161 : decode cX6_init 161 = .ok (.iastore, 1) := by decide +kernel
theorem dX6_init_162 : decode cX6_init 162 = .ok (.aload_n 0, 1) := by decide +kernel
theorem dX6_init_163 : decode cX6_init 163 = .ok (.getfield 26, 3) := by decide +kernel
theorem dX6_init_166 : decode cX6_init 166 = .ok (.iload_n 2, 1) := by decide +kernel
theorem dX6_init_167 : decode cX6_init 167 = .ok (.iload_n 1, 1) := by decide +kernel
theorem dX6_init_168 : decode cX6_init 168 = .ok (.iastore, 1) := by decide +kernel
theorem dX6_init_169 : decode cX6_init 169 = .ok (.iinc 1 1, 3) := by decide +kernel
theorem dX6_init_172 : decode cX6_init 172 = .ok (.iinc 2 1, 3) := by decide +kernel
theorem dX6_init_175 : decode cX6_init 175 = .ok (.goto (-43), 3) := by decide +kernel
theorem dX6_init_178 : decode cX6_init 178 = .ok (.aload_n 0, 1) := by decide +kernel
theorem dX6_init_179 : decode cX6_init 179 = .ok (.getfield 7, 3) := by decide +kernel
theorem dX6_init_182 : decode cX6_init 182 = .ok (.iconst 0, 1) := by decide +kernel
theorem dX6_init_183 : decode cX6_init 183 = .ok (.bipush 8, 2) := by decide +kernel
theorem dX6_init_185 : decode cX6_init 185 = .ok (.iastore, 1) := by decide +kernel
theorem dX6_init_186 : decode cX6_init 186 = .ok (.aload_n 0, 1) := by decide +kernel
theorem dX6_init_187 : decode cX6_init 187 = .ok (.getfield 7, 3) := by decide +kernel
theorem dX6_init_190 : decode cX6_init 190 = .ok (.iconst 1, 1) := by decide +kernel
theorem dX6_init_191 : decode cX6_init 191 = .ok (.bipush 8, 2) := by decide +kernel
theorem dX6_init_193 : decode cX6_init 193 = .ok (.iastore, 1) := by decide +kernel
theorem dX6_init_194 : decode cX6_init 194 = .ok (.aload_n 0, 1) := by decide +kernel
theorem dX6_init_195 : decode cX6_init 195 = .ok (.invokevirtual 58, 3) := by decide +kernel
theorem dX6_init_198 : decode cX6_init 198 = .ok (.return_, 1) := by decide +kernel
theorem dX6_in_0 : decode cX6_in 0 = .ok (.iload_n 0, 1) := by decide +kernel
theorem dX6_in_1 : decode cX6_in 1 = .ok (.iload_n 1, 1) := by decide +kernel
theorem dX6_in_2 : decode cX6_in 2 = .ok (.if_icmp .lt 12, 3) := by decide +kernel
theorem dX6_in_5 : decode cX6_in 5 = .ok (.iload_n 0, 1) := by decide +kernel
theorem dX6_in_6 : decode cX6_in 6 = .ok (.iload_n 2, 1) := by decide +kernel
theorem dX6_in_7 : decode cX6_in 7 = .ok (.if_icmp .gt 7, 3) := by decide +kernel
theorem dX6_in_10 : decode cX6_in 10 = .ok (.iconst 1, 1) := by decide +kernel
theorem dX6_in_11 : decode cX6_in 11 = .ok (.goto 4, 3) := by decide +kernel
theorem dX6_in_14 : decode cX6_in 14 = .ok (.iconst 0, 1) := by decide +kernel
theorem dX6_in_15 : decode cX6_in 15 = .ok (.ireturn, 1) := by decide +kernel
theorem dX6_water_0 : decode cX6_water 0 = .ok (.iconst 0, 1) := by decide +kernel
theorem dX6_water_1 : decode cX6_water 1 = .ok (.istore_n 1, 1) := by decide +kernel
theorem dX6_water_2 : decode cX6_water 2 = .ok (.iload_n 1, 1) := by decide +kernel
theorem dX6_water_3 : decode cX6_water 3 = .ok (.sipush 144, 3) := by decide +kernel
theorem dX6_water_6 : decode cX6_water 6 = .ok (.if_icmp .ge 30, 3) := by decide +kernel
theorem dX6_water_9 : decode cX6_water 9 = .ok (.aload_n 0, 1) := by decide +kernel
theorem dX6_water_10 : decode cX6_water 10 = .ok (.getfield 7, 3) := by decide +kernel
theorem dX6_water_13 : decode cX6_water 13 = .ok (.iconst 3, 1) := by decide +kernel
theorem dX6_water_14 : decode cX6_water 14 = .ok (.iload_n 1, 1) := by decide +kernel
theorem dX6_water_15 : decode cX6_water 15 = .ok (.iadd, 1) := by decide +kernel
theorem dX6_water_16 : decode cX6_water 16 = .ok (.iconst 0, 1) := by decide +kernel
theorem dX6_water_17 : decode cX6_water 17 = .ok (.iastore, 1) := by decide +kernel
theorem dX6_water_18 : decode cX6_water 18 = .ok (.aload_n 0, 1) := by decide +kernel
theorem dX6_water_19 : decode cX6_water 19 = .ok (.getfield 7, 3) := by decide +kernel
theorem dX6_water_22 : decode cX6_water 22 = .ok (.sipush 147, 3) := by decide +kernel
theorem dX6_water_25 : decode cX6_water 25 = .ok (.iload_n 1, 1) := by decide +kernel
theorem dX6_water_26 : decode cX6_water 26 = .ok (.iadd, 1) := by decide +kernel
theorem dX6_water_27 : decode cX6_water 27 = .ok (.bipush (-6), 2) := by decide +kernel
theorem dX6_water_29 : decode cX6_water 29 = .ok (.iastore, 1) := by decide +kernel
theorem dX6_water_30 : decode cX6_water 30 = .ok (.iinc 1 1, 3) := by decide +kernel
theorem dX6_water_33 : decode cX6_water 33 = .ok (.goto (-31), 3) := by decide +kernel
theorem dX6_water_36 : decode cX6_water 36 = .ok (.return_, 1) := by decide +kernel
theorem dX6_tiles_0 : decode cX6_tiles 0 = .ok (.aload_n 0, 1) := by decide +kernel
theorem dX6_tiles_1 : decode cX6_tiles 1 = .ok (.getfield 7, 3) := by decide +kernel
theorem dX6_tiles_4 : decode cX6_tiles 4 = .ok (.iconst 0, 1) := by decide +kernel
theorem dX6_tiles_5 : decode cX6_tiles 5 = .ok (.iaload, 1) := by decide +kernel
theorem dX6_tiles_6 : decode cX6_tiles 6 = .ok (.aload_n 0, 1) := by decide +kernel
theorem dX6_tiles_7 : decode cX6_tiles 7 = .ok (.getfield 7, 3) := by decide +kernel
theorem dX6_tiles_10 : decode cX6_tiles 10 = .ok (.iconst 1, 1) := by decide +kernel
theorem dX6_tiles_11 : decode cX6_tiles 11 = .ok (.iaload, 1) := by decide +kernel
theorem dX6_tiles_12 : decode cX6_tiles 12 = .ok (.imul, 1) := by decide +kernel
theorem dX6_tiles_13 : decode cX6_tiles 13 = .ok (.ireturn, 1) := by decide +kernel
theorem dX6_isTile_0 : decode cX6_isTile 0 = .ok (.iload_n 1, 1) := by decide +kernel
theorem dX6_isTile_1 : decode cX6_isTile 1 = .ok (.iconst 0, 1) := by decide +kernel
theorem dX6_isTile_2 : decode cX6_isTile 2 = .ok (.aload_n 0, 1) := by decide +kernel
theorem dX6_isTile_3 : decode cX6_isTile 3 = .ok (.getfield 7, 3) := by decide +kernel
theorem dX6_isTile_6 : decode cX6_isTile 6 = .ok (.iconst 0, 1) := by decide +kernel
theorem dX6_isTile_7 : decode cX6_isTile 7 = .ok (.iaload, 1) := by decide +kernel
theorem dX6_isTile_8 : decode cX6_isTile 8 = .ok (.iconst 1, 1) := by decide +kernel
theorem dX6_isTile_9 : decode cX6_isTile 9 = .ok (.isub, 1) := by decide +kernel
theorem dX6_isTile_10 : decode cX6_isTile 10 = .ok (.invokestatic 61, 3) := by decide +kernel
theorem dX6_isTile_13 : decode cX6_isTile 13 = .ok (.ifCond .eq 23, 3) := by decide +kernel
theorem dX6_isTile_16 : decode cX6_isTile 16 = .ok (.iload_n 2, 1) := by decide +kernel
theorem dX6_isTile_17 : decode cX6_isTile 17 = .ok (.iconst 0, 1) := by decide +kernel
theorem dX6_isTile_18 : decode cX6_isTile 18 = .ok (.aload_n 0, 1) := by decide +kernel
theorem dX6_isTile_19 : decode cX6_isTile 19 = .ok (.getfield 7, 3) := by decide +kernel
theorem dX6_isTile_22 : decode cX6_isTile 22 = .ok (.iconst 1, 1) := by decide +kernel
theorem dX6_isTile_23 : decode cX6_isTile 23 = .ok (.iaload, 1) := by decide +kernel
theorem dX6_isTile_24 : decode cX6_isTile 24 = .ok (.iconst 1, 1) := by decide +kernel
theorem dX6_isTile_25 : decode cX6_isTile 25 = .ok (.isub, 1) := by decide +kernel
theorem dX6_isTile_26 : decode cX6_isTile 26 = .ok (.invokestatic 61, 3) := by decide +kernel
theorem dX6_isTile_29 : decode cX6_isTile 29 = .ok (.ifCond .eq 7, 3) := by decide +kernel
theorem dX6_isTile_32 : decode cX6_isTile 32 = .ok (.iconst 1, 1) := by decide +kernel
theorem dX6_isTile_33 : decode cX6_isTile 33 = .ok (.goto 4, 3) := by decide +kernel
theorem dX6_isTile_36 : decode cX6_isTile 36 = .ok (.iconst 0, 1) := by decide +kernel
theorem dX6_isTile_37 : decode cX6_isTile 37 = .ok (.ireturn, 1) := by decide +kernel
theorem dX6_at_0 : decode cX6_at 0 = .ok (.aload_n 0, 1) := by decide +kernel
theorem dX6_at_1 : decode cX6_at 1 = .ok (.getfield 7, 3) := by decide +kernel
theorem dX6_at_4 : decode cX6_at 4 = .ok (.iconst 1, 1) := by decide +kernel
theorem dX6_at_5 : decode cX6_at 5 = .ok (.iaload, 1) := by decide +kernel
theorem dX6_at_6 : decode cX6_at 6 = .ok (.iload_n 1, 1) := by decide +kernel
theorem dX6_at_7 : decode cX6_at 7 = .ok (.imul, 1) := by decide +kernel
theorem dX6_at_8 : decode cX6_at 8 = .ok (.iload_n 2, 1) := by decide +kernel
theorem dX6_at_9 : decode cX6_at 9 = .ok (.iadd, 1) := by decide +kernel
theorem dX6_at_10 : decode cX6_at 10 = .ok (.ireturn, 1) := by decide +kernel
theorem dX6_isLandAt_0 : decode cX6_isLandAt 0 = .ok (.aload_n 0, 1) := by decide +kernel
theorem dX6_isLandAt_1 : decode cX6_isLandAt 1 = .ok (.getfield 7, 3) := by decide +kernel
theorem dX6_isLandAt_4 : decode cX6_isLandAt 4 = .ok (.iconst 3, 1) := by decide +kernel
theorem dX6_isLandAt_5 : decode cX6_isLandAt 5 = .ok (.iload_n 1, 1) := by decide +kernel
theorem dX6_isLandAt_6 : decode cX6_isLandAt 6 = .ok (.iadd, 1) := by decide +kernel
theorem dX6_isLandAt_7 : decode cX6_isLandAt 7 = .ok (.iaload, 1) := by decide +kernel
theorem dX6_isLandAt_8 : decode cX6_isLandAt 8 = .ok (.iconst 1, 1) := by decide +kernel
theorem dX6_isLandAt_9 : decode cX6_isLandAt 9 = .ok (.if_icmp .ne 7, 3) := by decide +kernel
theorem dX6_isLandAt_12 : decode cX6_isLandAt 12 = .ok (.iconst 1, 1) := by decide +kernel
theorem dX6_isLandAt_13 : decode cX6_isLandAt 13 = .ok (.goto 4, 3) := by decide +kernel
theorem dX6_isLandAt_16 : decode cX6_isLandAt 16 = .ok (.iconst 0, 1) := by decide +kernel
theorem dX6_isLandAt_17 : decode cX6_isLandAt 17 = .ok (.ireturn, 1) := by decide +kernel
theorem dX6_record_0 : decode cX6_record 0 = .ok (.aload_n 0, 1) := by decide +kernel
theorem dX6_record_1 : decode cX6_record 1 = .ok (.getfield 65, 3) := by decide +kernel
theorem dX6_record_4 : decode cX6_record 4 = .ok (.iconst 5, 1) := by decide +kernel
theorem dX6_record_5 : decode cX6_record 5 = .ok (.if_icmp .ne 44, 3) := by decide +kernel
theorem dX6_record_8 : decode cX6_record 8 = .ok (.iconst 0, 1) := by decide +kernel
theorem dX6_record_9 : decode cX6_record 9 = .ok (.istore_n 1, 1) := by decide +kernel
theorem dX6_record_10 : decode cX6_record 10 = .ok (.iload_n 1, 1) := by decide +kernel
theorem dX6_record_11 : decode cX6_record 11 = .ok (.sipush 1164, 3) := by decide +kernel
theorem dX6_record_14 : decode cX6_record 14 = .ok (.if_icmp .ge 25, 3) := by decide +kernel
theorem dX6_record_17 : decode cX6_record 17 = .ok (.aload_n 0, 1) := by decide +kernel
theorem dX6_record_18 : decode cX6_record 18 = .ok (.getfield 13, 3) := by decide +kernel
theorem dX6_record_21 : decode cX6_record 21 = .ok (.iload_n 1, 1) := by decide +kernel
theorem dX6_record_22 : decode cX6_record 22 = .ok (.aload_n 0, 1) := by decide +kernel
theorem dX6_record_23 : decode cX6_record 23 = .ok (.getfield 13, 3) := by decide +kernel
theorem dX6_record_26 : decode cX6_record 26 = .ok (.iload_n 1, 1) := by decide +kernel
theorem dX6_record_27 : decode cX6_record 27 = .ok (.sipush 291, 3) := by decide +kernel
theorem dX6_record_30 : decode cX6_record 30 = .ok (.iadd, 1) := by decide +kernel
theorem dX6_record_31 : decode cX6_record 31 = .ok (.iaload, 1) := by decide +kernel
theorem dX6_record_32 : decode cX6_record 32 = .ok (.iastore, 1) := by decide +kernel
theorem dX6_record_33 : decode cX6_record 33 = .ok (.iinc 1 1, 3) := by decide +kernel
theorem dX6_record_36 : decode cX6_record 36 = .ok (.goto (-26), 3) := by decide +kernel
theorem dX6_record_39 : decode cX6_record 39 = .ok (.aload_n 0, 1) := by decide +kernel
theorem dX6_record_40 : decode cX6_record 40 = .ok (.dup, 1) := by decide +kernel
theorem dX6_record_41 : decode cX6_record 41 = .ok (.getfield 65, 3) := by decide +kernel
theorem dX6_record_44 : decode cX6_record 44 = .ok (.iconst 1, 1) := by decide +kernel
theorem dX6_record_45 : decode cX6_record 45 = .ok (.isub, 1) := by decide +kernel
theorem dX6_record_46 : decode cX6_record 46 = .ok (.putfield 65, 3) := by decide +kernel
theorem dX6_record_49 : decode cX6_record 49 = .ok (.iconst 0, 1) := by decide +kernel
theorem dX6_record_50 : decode cX6_record 50 = .ok (.istore_n 1, 1) := by decide +kernel
theorem dX6_record_51 : decode cX6_record 51 = .ok (.iload_n 1, 1) := by decide +kernel
theorem dX6_record_52 : decode cX6_record 52 = .ok (.sipush 291, 3) := by decide +kernel
theorem dX6_record_55 : decode cX6_record 55 = .ok (.if_icmp .ge 30, 3) := by decide +kernel
theorem dX6_record_58 : decode cX6_record 58 = .ok (.aload_n 0, 1) := by decide +kernel
theorem dX6_record_59 : decode cX6_record 59 = .ok (.getfield 13, 3) := by decide +kernel
theorem dX6_record_62 : decode cX6_record 62 = .ok (.aload_n 0, 1) := by decide +kernel
theorem dX6_record_63 : decode cX6_record 63 = .ok (.getfield 65, 3) := by decide +kernel
theorem dX6_record_66 : decode cX6_record 66 = .ok (.sipush 291, 3) := by decide +kernel
theorem dX6_record_69 : decode cX6_record 69 = .ok (.imul, 1) := by decide +kernel
theorem dX6_record_70 : decode cX6_record 70 = .ok (.iload_n 1, 1) := by decide +kernel
theorem dX6_record_71 : decode cX6_record 71 = .ok (.iadd, 1) := by decide +kernel
theorem dX6_record_72 : decode cX6_record 72 = .ok (.aload_n 0, 1) := by decide +kernel
theorem dX6_record_73 : decode cX6_record 73 = .ok (.getfield 7, 3) := by decide +kernel
theorem dX6_record_76 : decode cX6_record 76 = .ok (.iload_n 1, 1) := by decide +kernel
theorem dX6_record_77 : decode cX6_record 77 = .ok (.iaload, 1) := by decide +kernel
theorem dX6_record_78 : decode cX6_record 78 = .ok (.iastore, 1) := by decide +kernel
theorem dX6_record_79 : decode cX6_record 79 = .ok (.iinc 1 1, 3) := by decide +kernel
theorem dX6_record_82 : decode cX6_record 82 = .ok (.goto (-31), 3) := by decide +kernel
theorem dX6_record_85 : decode cX6_record 85 = .ok (.aload_n 0, 1) := by decide +kernel
theorem dX6_record_86 : decode cX6_record 86 = .ok (.dup, 1) := by decide +kernel
theorem dX6_record_87 : decode cX6_record 87 = .ok (.getfield 65, 3) := by decide +kernel
theorem dX6_record_90 : decode cX6_record 90 = .ok (.iconst 1, 1) := by decide +kernel
theorem dX6_record_91 : decode cX6_record 91 = .ok (.iadd, 1) := by decide +kernel
theorem dX6_record_92 : decode cX6_record 92 = .ok (.putfield 65, 3) := by decide +kernel
theorem dX6_record_95 : decode cX6_record 95 = .ok (.return_, 1) := by decide +kernel
theorem dX6_undo_0 : decode cX6_undo 0 = .ok (.aload_n 0, 1) := by decide +kernel
theorem dX6_undo_1 : decode cX6_undo 1 = .ok (.getfield 65, 3) := by decide +kernel
theorem dX6_undo_4 : decode cX6_undo 4 = .ok (.ifCond .ne 6, 3) := by decide +kernel
theorem dX6_undo_7 : decode cX6_undo 7 = .ok (.bipush (-3), 2) := by decide +kernel
theorem dX6_undo_9 : decode cX6_undo 9 = .ok (.ireturn, 1) := by decide +kernel
theorem dX6_undo_10 : decode cX6_undo 10 = .ok (.aload_n 0, 1) := by decide +kernel
theorem dX6_undo_11 : decode cX6_undo 11 = .ok (.dup, 1) := by decide +kernel
theorem dX6_undo_12 : decode cX6_undo 12 = .ok (.getfield 65, 3) := by decide +kernel
theorem dX6_undo_15 : decode cX6_undo 15 = .ok (.iconst 1, 1) := by decide +kernel
theorem dX6_undo_16 : decode cX6_undo 16 = .ok (.isub, 1) := by decide +kernel
theorem dX6_undo_17 : decode cX6_undo 17 = .ok (.putfield 65, 3) := by decide +kernel
theorem dX6_undo_20 : decode cX6_undo 20 = .ok (.iconst 0, 1) := by decide +kernel
theorem dX6_undo_21 : decode cX6_undo 21 = .ok (.istore_n 1, 1) := by decide +kernel
theorem dX6_undo_22 : decode cX6_undo 22 = .ok (.iload_n 1, 1) := by decide +kernel
theorem dX6_undo_23 : decode cX6_undo 23 = .ok (.sipush 291, 3) := by decide +kernel
theorem dX6_undo_26 : decode cX6_undo 26 = .ok (.if_icmp .ge 30, 3) := by decide +kernel
theorem dX6_undo_29 : decode cX6_undo 29 = .ok (.aload_n 0, 1) := by decide +kernel
theorem dX6_undo_30 : decode cX6_undo 30 = .ok (.getfield 7, 3) := by decide +kernel
theorem dX6_undo_33 : decode cX6_undo 33 = .ok (.iload_n 1, 1) := by decide +kernel
theorem dX6_undo_34 : decode cX6_undo 34 = .ok (.aload_n 0, 1) := by decide +kernel
theorem dX6_undo_35 : decode cX6_undo 35 = .ok (.getfield 13, 3) := by decide +kernel
theorem dX6_undo_38 : decode cX6_undo 38 = .ok (.aload_n 0, 1) := by decide +kernel
theorem dX6_undo_39 : decode cX6_undo 39 = .ok (.getfield 65, 3) := by decide +kernel
theorem dX6_undo_42 : decode cX6_undo 42 = .ok (.sipush 291, 3) := by decide +kernel
theorem dX6_undo_45 : decode cX6_undo 45 = .ok (.imul, 1) := by decide +kernel
theorem dX6_undo_46 : decode cX6_undo 46 = .ok (.iload_n 1, 1) := by decide +kernel
theorem dX6_undo_47 : decode cX6_undo 47 = .ok (.iadd, 1) := by decide +kernel
theorem dX6_undo_48 : decode cX6_undo 48 = .ok (.iaload, 1) := by decide +kernel
theorem dX6_undo_49 : decode cX6_undo 49 = .ok (.iastore, 1) := by decide +kernel
theorem dX6_undo_50 : decode cX6_undo 50 = .ok (.iinc 1 1, 3) := by decide +kernel
theorem dX6_undo_53 : decode cX6_undo 53 = .ok (.goto (-31), 3) := by decide +kernel
theorem dX6_undo_56 : decode cX6_undo 56 = .ok (.aload_n 0, 1) := by decide +kernel
theorem dX6_undo_57 : decode cX6_undo 57 = .ok (.getfield 65, 3) := by decide +kernel
theorem dX6_undo_60 : decode cX6_undo 60 = .ok (.ireturn, 1) := by decide +kernel
theorem dX6_save_0 : decode cX6_save 0 = .ok (.aload_n 0, 1) := by decide +kernel
theorem dX6_save_1 : decode cX6_save 1 = .ok (.iconst 1, 1) := by decide +kernel
theorem dX6_save_2 : decode cX6_save 2 = .ok (.putfield 69, 3) := by decide +kernel
theorem dX6_save_5 : decode cX6_save 5 = .ok (.iconst 0, 1) := by decide +kernel
theorem dX6_save_6 : decode cX6_save 6 = .ok (.istore_n 1, 1) := by decide +kernel
theorem dX6_save_7 : decode cX6_save 7 = .ok (.iload_n 1, 1) := by decide +kernel
theorem dX6_save_8 : decode cX6_save 8 = .ok (.sipush 291, 3) := by decide +kernel
theorem dX6_save_11 : decode cX6_save 11 = .ok (.if_icmp .ge 21, 3) := by decide +kernel
theorem dX6_save_14 : decode cX6_save 14 = .ok (.aload_n 0, 1) := by decide +kernel
theorem dX6_save_15 : decode cX6_save 15 = .ok (.getfield 16, 3) := by decide +kernel
theorem dX6_save_18 : decode cX6_save 18 = .ok (.iload_n 1, 1) := by decide +kernel
theorem dX6_save_19 : decode cX6_save 19 = .ok (.aload_n 0, 1) := by decide +kernel
theorem dX6_save_20 : decode cX6_save 20 = .ok (.getfield 7, 3) := by decide +kernel
theorem dX6_save_23 : decode cX6_save 23 = .ok (.iload_n 1, 1) := by decide +kernel
theorem dX6_save_24 : decode cX6_save 24 = .ok (.iaload, 1) := by decide +kernel
theorem dX6_save_25 : decode cX6_save 25 = .ok (.iastore, 1) := by decide +kernel
theorem dX6_save_26 : decode cX6_save 26 = .ok (.iinc 1 1, 3) := by decide +kernel
theorem dX6_save_29 : decode cX6_save 29 = .ok (.goto (-22), 3) := by decide +kernel
theorem dX6_save_32 : decode cX6_save 32 = .ok (.aload_n 0, 1) := by decide +kernel
theorem dX6_save_33 : decode cX6_save 33 = .ok (.invokevirtual 73, 3) := by decide +kernel
theorem dX6_save_36 : decode cX6_save 36 = .ok (.ireturn, 1) := by decide +kernel
theorem dX6_restore_0 : decode cX6_restore 0 = .ok (.aload_n 0, 1) := by decide +kernel
theorem dX6_restore_1 : decode cX6_restore 1 = .ok (.getfield 69, 3) := by decide +kernel
theorem dX6_restore_4 : decode cX6_restore 4 = .ok (.ifCond .ne 6, 3) := by decide +kernel
theorem dX6_restore_7 : decode cX6_restore 7 = .ok (.bipush (-3), 2) := by decide +kernel
theorem dX6_restore_9 : decode cX6_restore 9 = .ok (.ireturn, 1) := by decide +kernel
theorem dX6_restore_10 : decode cX6_restore 10 = .ok (.aload_n 0, 1) := by decide +kernel
theorem dX6_restore_11 : decode cX6_restore 11 = .ok (.invokevirtual 77, 3) := by decide +kernel
theorem dX6_restore_14 : decode cX6_restore 14 = .ok (.iconst 0, 1) := by decide +kernel
theorem dX6_restore_15 : decode cX6_restore 15 = .ok (.istore_n 1, 1) := by decide +kernel
theorem dX6_restore_16 : decode cX6_restore 16 = .ok (.iload_n 1, 1) := by decide +kernel
theorem dX6_restore_17 : decode cX6_restore 17 = .ok (.sipush 291, 3) := by decide +kernel
theorem dX6_restore_20 : decode cX6_restore 20 = .ok (.if_icmp .ge 21, 3) := by decide +kernel
theorem dX6_restore_23 : decode cX6_restore 23 = .ok (.aload_n 0, 1) := by decide +kernel
theorem dX6_restore_24 : decode cX6_restore 24 = .ok (.getfield 7, 3) := by decide +kernel
theorem dX6_restore_27 : decode cX6_restore 27 = .ok (.iload_n 1, 1) := by decide +kernel
theorem dX6_restore_28 : decode cX6_restore 28 = .ok (.aload_n 0, 1) := by decide +kernel
theorem dX6_restore_29 : decode cX6_restore 29 = .ok (.getfield 16, 3) := by decide +kernel
theorem dX6_restore_32 : decode cX6_restore 32 = .ok (.iload_n 1, 1) := by decide +kernel
theorem dX6_restore_33 : decode cX6_restore 33 = .ok (.iaload, 1) := by decide +kernel
theorem dX6_restore_34 : decode cX6_restore 34 = .ok (.iastore, 1) := by decide +kernel
theorem dX6_restore_35 : decode cX6_restore 35 = .ok (.iinc 1 1, 3) := by decide +kernel
theorem dX6_restore_38 : decode cX6_restore 38 = .ok (.goto (-22), 3) := by decide +kernel
theorem dX6_restore_41 : decode cX6_restore 41 = .ok (.aload_n 0, 1) := by decide +kernel
theorem dX6_restore_42 : decode cX6_restore 42 = .ok (.invokevirtual 73, 3) := by decide +kernel
theorem dX6_restore_45 : decode cX6_restore 45 = .ok (.ireturn, 1) := by decide +kernel
theorem dX6_rowBy_0 : decode cX6_rowBy 0 = .ok (.iload_n 0, 1) := by decide +kernel
theorem dX6_rowBy_1 : decode cX6_rowBy 1 = .ok (.bipush 7, 2) := by decide +kernel
theorem dX6_rowBy_3 : decode cX6_rowBy 3 = .ok (.if_icmp .eq 8, 3) := by decide +kernel
theorem dX6_rowBy_6 : decode cX6_rowBy 6 = .ok (.iload_n 0, 1) := by decide +kernel
theorem dX6_rowBy_7 : decode cX6_rowBy 7 = .ok (.iconst 2, 1) := by decide +kernel
theorem dX6_rowBy_8 : decode cX6_rowBy 8 = .ok (.if_icmp .ge 7, 3) := by decide +kernel
theorem dX6_rowBy_11 : decode cX6_rowBy 11 = .ok (.iconst (-1), 1) := by decide +kernel
theorem dX6_rowBy_12 : decode cX6_rowBy 12 = .ok (.goto 17, 3) := by decide +kernel
theorem dX6_rowBy_15 : decode cX6_rowBy 15 = .ok (.iload_n 0, 1) := by decide +kernel
theorem dX6_rowBy_16 : decode cX6_rowBy 16 = .ok (.iconst 3, 1) := by decide +kernel
theorem dX6_rowBy_17 : decode cX6_rowBy 17 = .ok (.iconst 5, 1) := by decide +kernel
theorem dX6_rowBy_18 : decode cX6_rowBy 18 = .ok (.invokestatic 61, 3) := by decide +kernel
theorem dX6_rowBy_21 : decode cX6_rowBy 21 = .ok (.ifCond .eq 7, 3) := by decide +kernel
theorem dX6_rowBy_24 : decode cX6_rowBy 24 = .ok (.iconst 1, 1) := by decide +kernel
theorem dX6_rowBy_25 : decode cX6_rowBy 25 = .ok (.goto 4, 3) := by decide +kernel
theorem dX6_rowBy_28 : decode cX6_rowBy 28 = .ok (.iconst 0, 1) := by decide +kernel
theorem dX6_rowBy_29 : decode cX6_rowBy 29 = .ok (.ireturn, 1) := by decide +kernel
theorem dX6_columnBy_0 : decode cX6_columnBy 0 = .ok (.iload_n 0, 1) := by decide +kernel
theorem dX6_columnBy_1 : decode cX6_columnBy 1 = .ok (.iconst 1, 1) := by decide +kernel
theorem dX6_columnBy_2 : decode cX6_columnBy 2 = .ok (.iconst 3, 1) := by decide +kernel
theorem dX6_columnBy_3 : decode cX6_columnBy 3 = .ok (.invokestatic 61, 3) := by decide +kernel
theorem dX6_columnBy_6 : decode cX6_columnBy 6 = .ok (.ifCond .eq 7, 3) := by decide +kernel
theorem dX6_columnBy_9 : decode cX6_columnBy 9 = .ok (.iconst 1, 1) := by decide +kernel
theorem dX6_columnBy_10 : decode cX6_columnBy 10 = .ok (.goto 18, 3) := by decide +kernel
theorem dX6_columnBy_13 : decode cX6_columnBy 13 = .ok (.iload_n 0, 1) := by decide +kernel
theorem dX6_columnBy_14 : decode cX6_columnBy 14 = .ok (.iconst 5, 1) := by decide +kernel
theorem dX6_columnBy_15 : decode cX6_columnBy 15 = .ok (.bipush 7, 2) := by decide +kernel
theorem dX6_columnBy_17 : decode cX6_columnBy 17 = .ok (.invokestatic 61, 3) := by decide +kernel
theorem dX6_columnBy_20 : decode cX6_columnBy 20 = .ok (.ifCond .eq 7, 3) := by decide +kernel
theorem dX6_columnBy_23 : decode cX6_columnBy 23 = .ok (.iconst (-1), 1) := by decide +kernel
theorem dX6_columnBy_24 : decode cX6_columnBy 24 = .ok (.goto 4, 3) := by decide +kernel
theorem dX6_columnBy_27 : decode cX6_columnBy 27 = .ok (.iconst 0, 1) := by decide +kernel
theorem dX6_columnBy_28 : decode cX6_columnBy 28 = .ok (.ireturn, 1) := by decide +kernel
theorem dX6_bit_0 : decode cX6_bit 0 = .ok (.iload_n 0, 1) := by decide +kernel
theorem dX6_bit_1 : decode cX6_bit 1 = .ok (.iload_n 1, 1) := by decide +kernel
theorem dX6_bit_2 : decode cX6_bit 2 = .ok (.bipush 7, 2) := by decide +kernel
theorem dX6_bit_4 : decode cX6_bit 4 = .ok (.iand, 1) := by decide +kernel
theorem dX6_bit_5 : decode cX6_bit 5 = .ok (.ishr, 1) := by decide +kernel
theorem dX6_bit_6 : decode cX6_bit 6 = .ok (.iconst 1, 1) := by decide +kernel
theorem dX6_bit_7 : decode cX6_bit 7 = .ok (.iand, 1) := by decide +kernel
theorem dX6_bit_8 : decode cX6_bit 8 = .ok (.ireturn, 1) := by decide +kernel
theorem dX6_reduced_0 : decode cX6_reduced 0 = .ok (.iload_n 0, 1) := by decide +kernel
theorem dX6_reduced_1 : decode cX6_reduced 1 = .ok (.istore_n 1, 1) := by decide +kernel
theorem dX6_reduced_2 : decode cX6_reduced 2 = .ok (.iconst 1, 1) := by decide +kernel
theorem dX6_reduced_3 : decode cX6_reduced 3 = .ok (.istore_n 2, 1) := by decide +kernel
theorem dX6_reduced_4 : decode cX6_reduced 4 = .ok (.iload_n 2, 1) := by decide +kernel
theorem dX6_reduced_5 : decode cX6_reduced 5 = .ok (.bipush 8, 2) := by decide +kernel
theorem dX6_reduced_7 : decode cX6_reduced 7 = .ok (.if_icmp .ge 40, 3) := by decide +kernel
theorem dX6_reduced_10 : decode cX6_reduced 10 = .ok (.iload_n 0, 1) := by decide +kernel
theorem dX6_reduced_11 : decode cX6_reduced 11 = .ok (.iload_n 2, 1) := by decide +kernel
theorem dX6_reduced_12 : decode cX6_reduced 12 = .ok (.iconst 1, 1) := by decide +kernel
theorem dX6_reduced_13 : decode cX6_reduced 13 = .ok (.isub, 1) := by decide +kernel
theorem dX6_reduced_14 : decode cX6_reduced 14 = .ok (.invokestatic 80, 3) := by decide +kernel
theorem dX6_reduced_17 : decode cX6_reduced 17 = .ok (.iload_n 0, 1) := by decide +kernel
theorem dX6_reduced_18 : decode cX6_reduced 18 = .ok (.iload_n 2, 1) := by decide +kernel
theorem dX6_reduced_19 : decode cX6_reduced 19 = .ok (.iconst 1, 1) := by decide +kernel
theorem dX6_reduced_20 : decode cX6_reduced 20 = .ok (.iadd, 1) := by decide +kernel
theorem dX6_reduced_21 : decode cX6_reduced 21 = .ok (.invokestatic 80, 3) := by decide +kernel
theorem dX6_reduced_24 : decode cX6_reduced 24 = .ok (.iadd, 1) := by decide +kernel
theorem dX6_reduced_25 : decode cX6_reduced 25 = .ok (.iconst 2, 1) := by decide +kernel
theorem dX6_reduced_26 : decode cX6_reduced 26 = .ok (.if_icmp .ne 7, 3) := by decide +kernel
theorem dX6_reduced_29 : decode cX6_reduced 29 = .ok (.iload_n 1, 1) := by decide +kernel
theorem dX6_reduced_30 : decode cX6_reduced 30 = .ok (.goto 10, 3) := by decide +kernel
theorem dX6_reduced_33 : decode cX6_reduced 33 = .ok (.iload_n 1, 1) := by decide +kernel
theorem dX6_reduced_34 : decode cX6_reduced 34 = .ok (.iconst 1, 1) := by decide +kernel
theorem dX6_reduced_35 : decode cX6_reduced 35 = .ok (.iload_n 2, 1) := by decide +kernel
theorem dX6_reduced_36 : decode cX6_reduced 36 = .ok (.ishl, 1) := by decide +kernel
theorem dX6_reduced_37 : decode cX6_reduced 37 = .ok (.iconst (-1), 1) := by decide +kernel
theorem dX6_reduced_38 : decode cX6_reduced 38 = .ok (.ixor, 1) := by decide +kernel
theorem dX6_reduced_39 : decode cX6_reduced 39 = .ok (.iand, 1) := by decide +kernel
theorem dX6_reduced_40 : decode cX6_reduced 40 = .ok (.istore_n 1, 1) := by decide +kernel
theorem dX6_reduced_41 : decode cX6_reduced 41 = .ok (.iinc 2 2, 3) := by decide +kernel
theorem dX6_reduced_44 : decode cX6_reduced 44 = .ok (.goto (-40), 3) := by decide +kernel
theorem dX6_reduced_47 : decode cX6_reduced 47 = .ok (.iload_n 1, 1) := by decide +kernel
theorem dX6_reduced_48 : decode cX6_reduced 48 = .ok (.ireturn, 1) := by decide +kernel
theorem dX6_isLandBeside_0 : decode cX6_isLandBeside 0 = .ok (.iload_n 1, 1) := by decide +kernel
theorem dX6_isLandBeside_1 : decode cX6_isLandBeside 1 = .ok (.iload_n 3, 1) := by decide +kernel
theorem dX6_isLandBeside_2 : decode cX6_isLandBeside 2 = .ok (.invokestatic 84, 3) := by decide +kernel
theorem dX6_isLandBeside_5 : decode cX6_isLandBeside 5 = .ok (.iadd, 1) := by decide +kernel
theorem dX6_isLandBeside_6 : decode cX6_isLandBeside 6 = .ok (.istore 4, 2) := by decide +kernel
theorem dX6_isLandBeside_8 : decode cX6_isLandBeside 8 = .ok (.iload_n 2, 1) := by decide +kernel
theorem dX6_isLandBeside_9 : decode cX6_isLandBeside 9 = .ok (.iload_n 3, 1) := by decide +kernel
theorem dX6_isLandBeside_10 : decode cX6_isLandBeside 10 = .ok (.invokestatic 87, 3) := by decide +kernel
theorem dX6_isLandBeside_13 : decode cX6_isLandBeside 13 = .ok (.iadd, 1) := by decide +kernel
theorem dX6_isLandBeside_14 : decode cX6_isLandBeside 14 = .ok (.istore 5, 2) := by decide +kernel
theorem dX6_isLandBeside_16 : decode cX6_isLandBeside 16 = .ok (.aload_n 0, 1) := by decide +kernel
theorem dX6_isLandBeside_17 : decode cX6_isLandBeside 17 = .ok (.iload 4, 2) := by decide +kernel
theorem dX6_isLandBeside_19 : decode cX6_isLandBeside 19 = .ok (.iload 5, 2) := by decide +kernel
theorem dX6_isLandBeside_21 : decode cX6_isLandBeside 21 = .ok (.invokevirtual 90, 3) := by decide +kernel
theorem dX6_isLandBeside_24 : decode cX6_isLandBeside 24 = .ok (.ifCond .eq 18, 3) := by decide +kernel
theorem dX6_isLandBeside_27 : decode cX6_isLandBeside 27 = .ok (.aload_n 0, 1) := by decide +kernel
theorem dX6_isLandBeside_28 : decode cX6_isLandBeside 28 = .ok (.aload_n 0, 1) := by decide +kernel
theorem dX6_isLandBeside_29 : decode cX6_isLandBeside 29 = .ok (.iload 4, 2) := by decide +kernel
theorem dX6_isLandBeside_31 : decode cX6_isLandBeside 31 = .ok (.iload 5, 2) := by decide +kernel
theorem dX6_isLandBeside_33 : decode cX6_isLandBeside 33 = .ok (.invokevirtual 94, 3) := by decide +kernel
theorem dX6_isLandBeside_36 : decode cX6_isLandBeside 36 = .ok (.invokevirtual 97, 3) := by decide +kernel
theorem dX6_isLandBeside_39 : decode cX6_isLandBeside 39 = .ok (.goto 18, 3) := by decide +kernel
theorem dX6_isLandBeside_42 : decode cX6_isLandBeside 42 = .ok (.aload_n 0, 1) := by decide +kernel
theorem dX6_isLandBeside_43 : decode cX6_isLandBeside 43 = .ok (.getfield 7, 3) := by decide +kernel
theorem dX6_isLandBeside_46 : decode cX6_isLandBeside 46 = .ok (.iconst 2, 1) := by decide +kernel
theorem dX6_isLandBeside_47 : decode cX6_isLandBeside 47 = .ok (.iaload, 1) := by decide +kernel
theorem dX6_isLandBeside_48 : decode cX6_isLandBeside 48 = .ok (.iconst 1, 1) := by decide +kernel
theorem dX6_isLandBeside_49 : decode cX6_isLandBeside 49 = .ok (.if_icmp .ne 7, 3) := by decide +kernel
theorem dX6_isLandBeside_52 : decode cX6_isLandBeside 52 = .ok (.iconst 1, 1) := by decide +kernel
theorem dX6_isLandBeside_53 : decode cX6_isLandBeside 53 = .ok (.goto 4, 3) := by decide +kernel
theorem dX6_isLandBeside_56 : decode cX6_isLandBeside 56 = .ok (.iconst 0, 1) := by decide +kernel
theorem dX6_isLandBeside_57 : decode cX6_isLandBeside 57 = .ok (.ireturn, 1) := by decide +kernel
theorem dX6_around_0 : decode cX6_around 0 = .ok (.iconst 0, 1) := by decide +kernel
theorem dX6_around_1 : decode cX6_around 1 = .ok (.istore_n 3, 1) := by decide +kernel
theorem dX6_around_2 : decode cX6_around 2 = .ok (.iconst 0, 1) := by decide +kernel
theorem dX6_around_3 : decode cX6_around 3 = .ok (.istore 4, 2) := by decide +kernel
theorem dX6_around_5 : decode cX6_around 5 = .ok (.iload 4, 2) := by decide +kernel
theorem dX6_around_7 : decode cX6_around 7 = .ok (.bipush 8, 2) := by decide +kernel
theorem dX6_around_9 : decode cX6_around 9 = .ok (.if_icmp .ge 31, 3) := by decide +kernel
theorem dX6_around_12 : decode cX6_around 12 = .ok (.iload_n 3, 1) := by decide +kernel
theorem dX6_around_13 : decode cX6_around 13 = .ok (.aload_n 0, 1) := by decide +kernel
theorem dX6_around_14 : decode cX6_around 14 = .ok (.iload_n 1, 1) := by decide +kernel
theorem dX6_around_15 : decode cX6_around 15 = .ok (.iload_n 2, 1) := by decide +kernel
theorem dX6_around_16 : decode cX6_around 16 = .ok (.iload 4, 2) := by decide +kernel
theorem dX6_around_18 : decode cX6_around 18 = .ok (.invokevirtual 101, 3) := by decide +kernel
theorem dX6_around_21 : decode cX6_around 21 = .ok (.ifCond .eq 10, 3) := by decide +kernel
theorem dX6_around_24 : decode cX6_around 24 = .ok (.iconst 1, 1) := by decide +kernel
theorem dX6_around_25 : decode cX6_around 25 = .ok (.iload 4, 2) := by decide +kernel
theorem dX6_around_27 : decode cX6_around 27 = .ok (.ishl, 1) := by decide +kernel
theorem dX6_around_28 : decode cX6_around 28 = .ok (.goto 4, 3) := by decide +kernel
theorem dX6_around_31 : decode cX6_around 31 = .ok (.iconst 0, 1) := by decide +kernel
theorem dX6_around_32 : decode cX6_around 32 = .ok (.ior, 1) := by decide +kernel
theorem dX6_around_33 : decode cX6_around 33 = .ok (.istore_n 3, 1) := by decide +kernel
theorem dX6_around_34 : decode cX6_around 34 = .ok (.iinc 4 1, 3) := by decide +kernel
theorem dX6_around_37 : decode cX6_around 37 = .ok (.goto (-32), 3) := by decide +kernel
theorem dX6_around_40 : decode cX6_around 40 = .ok (.iload_n 3, 1) := by decide +kernel
theorem dX6_around_41 : decode cX6_around 41 = .ok (.ireturn, 1) := by decide +kernel
theorem dX6_right_0 : decode cX6_right 0 = .ok (.aload_n 0, 1) := by decide +kernel
theorem dX6_right_1 : decode cX6_right 1 = .ok (.getfield 26, 3) := by decide +kernel
theorem dX6_right_4 : decode cX6_right 4 = .ok (.aload_n 0, 1) := by decide +kernel
theorem dX6_right_5 : decode cX6_right 5 = .ok (.iload_n 1, 1) := by decide +kernel
theorem dX6_right_6 : decode cX6_right 6 = .ok (.aload_n 0, 1) := by decide +kernel
theorem dX6_right_7 : decode cX6_right 7 = .ok (.getfield 7, 3) := by decide +kernel
theorem dX6_right_10 : decode cX6_right 10 = .ok (.iconst 1, 1) := by decide +kernel
theorem dX6_right_11 : decode cX6_right 11 = .ok (.iaload, 1) := by decide +kernel
theorem dX6_right_12 : decode cX6_right 12 = .ok (.idiv, 1) := by decide +kernel
theorem dX6_right_13 : decode cX6_right 13 = .ok (.iload_n 1, 1) := by decide +kernel
theorem dX6_right_14 : decode cX6_right 14 = .ok (.aload_n 0, 1) := by decide +kernel
theorem dX6_right_15 : decode cX6_right 15 = .ok (.getfield 7, 3) := by decide +kernel
theorem dX6_right_18 : decode cX6_right 18 = .ok (.iconst 1, 1) := by decide +kernel
theorem dX6_right_19 : decode cX6_right 19 = .ok (.iaload, 1) := by decide +kernel
theorem dX6_right_20 : decode cX6_right 20 = .ok (.irem, 1) := by decide +kernel
theorem dX6_right_21 : decode cX6_right 21 = .ok (.invokevirtual 104, 3) := by decide +kernel
theorem dX6_right_24 : decode cX6_right 24 = .ok (.invokestatic 54, 3) := by decide +kernel
theorem dX6_right_27 : decode cX6_right 27 = .ok (.iaload, 1) := by decide +kernel
theorem dX6_right_28 : decode cX6_right 28 = .ok (.ireturn, 1) := by decide +kernel
theorem dX6_shapeAt_0 : decode cX6_shapeAt 0 = .ok (.aload_n 0, 1) := by decide +kernel
theorem dX6_shapeAt_1 : decode cX6_shapeAt 1 = .ok (.iload_n 1, 1) := by decide +kernel
theorem dX6_shapeAt_2 : decode cX6_shapeAt 2 = .ok (.invokevirtual 97, 3) := by decide +kernel
theorem dX6_shapeAt_5 : decode cX6_shapeAt 5 = .ok (.ifCond .ne 8, 3) := by decide +kernel
theorem dX6_shapeAt_8 : decode cX6_shapeAt 8 = .ok (.bipush (-6), 2) := by decide +kernel
theorem dX6_shapeAt_10 : decode cX6_shapeAt 10 = .ok (.goto 36, 3) := by decide +kernel
theorem dX6_shapeAt_13 : decode cX6_shapeAt 13 = .ok (.aload_n 0, 1) := by decide +kernel
theorem dX6_shapeAt_14 : decode cX6_shapeAt 14 = .ok (.getfield 7, 3) := by decide +kernel
theorem dX6_shapeAt_17 : decode cX6_shapeAt 17 = .ok (.sipush 147, 3) := by decide +kernel
theorem dX6_shapeAt_20 : decode cX6_shapeAt 20 = .ok (.iload_n 1, 1) := by decide +kernel
theorem dX6_shapeAt_21 : decode cX6_shapeAt 21 = .ok (.iadd, 1) := by decide +kernel
theorem dX6_shapeAt_22 : decode cX6_shapeAt 22 = .ok (.iaload, 1) := by decide +kernel
theorem dX6_shapeAt_23 : decode cX6_shapeAt 23 = .ok (.bipush (-6), 2) := by decide +kernel
theorem dX6_shapeAt_25 : decode cX6_shapeAt 25 = .ok (.if_icmp .eq 16, 3) := by decide +kernel
theorem dX6_shapeAt_28 : decode cX6_shapeAt 28 = .ok (.aload_n 0, 1) := by decide +kernel
theorem dX6_shapeAt_29 : decode cX6_shapeAt 29 = .ok (.getfield 7, 3) := by decide +kernel
theorem dX6_shapeAt_32 : decode cX6_shapeAt 32 = .ok (.sipush 147, 3) := by decide +kernel
theorem dX6_shapeAt_35 : decode cX6_shapeAt 35 = .ok (.iload_n 1, 1) := by decide +kernel
theorem dX6_shapeAt_36 : decode cX6_shapeAt 36 = .ok (.iadd, 1) := by decide +kernel
theorem dX6_shapeAt_37 : decode cX6_shapeAt 37 = .ok (.iaload, 1) := by decide +kernel
theorem dX6_shapeAt_38 : decode cX6_shapeAt 38 = .ok (.goto 8, 3) := by decide +kernel
theorem dX6_shapeAt_41 : decode cX6_shapeAt 41 = .ok (.aload_n 0, 1) := by decide +kernel
theorem dX6_shapeAt_42 : decode cX6_shapeAt 42 = .ok (.iload_n 1, 1) := by decide +kernel
theorem dX6_shapeAt_43 : decode cX6_shapeAt 43 = .ok (.invokevirtual 107, 3) := by decide +kernel
theorem dX6_shapeAt_46 : decode cX6_shapeAt 46 = .ok (.ireturn, 1) := by decide +kernel
theorem dX6_bits_0 : decode cX6_bits 0 = .ok (.iconst 0, 1) := by decide +kernel
theorem dX6_bits_1 : decode cX6_bits 1 = .ok (.istore_n 1, 1) := by decide +kernel
theorem dX6_bits_2 : decode cX6_bits 2 = .ok (.iconst 0, 1) := by decide +kernel
theorem dX6_bits_3 : decode cX6_bits 3 = .ok (.istore_n 2, 1) := by decide +kernel
theorem dX6_bits_4 : decode cX6_bits 4 = .ok (.iload_n 2, 1) := by decide +kernel
theorem dX6_bits_5 : decode cX6_bits 5 = .ok (.bipush 8, 2) := by decide +kernel
theorem dX6_bits_7 : decode cX6_bits 7 = .ok (.if_icmp .ge 17, 3) := by decide +kernel
theorem dX6_bits_10 : decode cX6_bits 10 = .ok (.iload_n 1, 1) := by decide +kernel
theorem dX6_bits_11 : decode cX6_bits 11 = .ok (.iload_n 0, 1) := by decide +kernel
theorem dX6_bits_12 : decode cX6_bits 12 = .ok (.iload_n 2, 1) := by decide +kernel
theorem dX6_bits_13 : decode cX6_bits 13 = .ok (.ishr, 1) := by decide +kernel
theorem dX6_bits_14 : decode cX6_bits 14 = .ok (.iconst 1, 1) := by decide +kernel
theorem dX6_bits_15 : decode cX6_bits 15 = .ok (.iand, 1) := by decide +kernel
theorem dX6_bits_16 : decode cX6_bits 16 = .ok (.iadd, 1) := by decide +kernel
theorem dX6_bits_17 : decode cX6_bits 17 = .ok (.istore_n 1, 1) := by decide +kernel
theorem dX6_bits_18 : decode cX6_bits 18 = .ok (.iinc 2 1, 3) := by decide +kernel
theorem dX6_bits_21 : decode cX6_bits 21 = .ok (.goto (-17), 3) := by decide +kernel
theorem dX6_bits_24 : decode cX6_bits 24 = .ok (.iload_n 1, 1) := by decide +kernel
theorem dX6_bits_25 : decode cX6_bits 25 = .ok (.ireturn, 1) := by decide +kernel
theorem dX6_faultsAt_0 : decode cX6_faultsAt 0 = .ok (.aload_n 0, 1) := by decide +kernel
theorem dX6_faultsAt_1 : decode cX6_faultsAt 1 = .ok (.iload_n 1, 1) := by decide +kernel
theorem dX6_faultsAt_2 : decode cX6_faultsAt 2 = .ok (.invokevirtual 97, 3) := by decide +kernel
theorem dX6_faultsAt_5 : decode cX6_faultsAt 5 = .ok (.ifCond .eq 30, 3) := by decide +kernel
theorem dX6_faultsAt_8 : decode cX6_faultsAt 8 = .ok (.aload_n 0, 1) := by decide +kernel
theorem dX6_faultsAt_9 : decode cX6_faultsAt 9 = .ok (.getfield 23, 3) := by decide +kernel
theorem dX6_faultsAt_12 : decode cX6_faultsAt 12 = .ok (.aload_n 0, 1) := by decide +kernel
theorem dX6_faultsAt_13 : decode cX6_faultsAt 13 = .ok (.iload_n 1, 1) := by decide +kernel
theorem dX6_faultsAt_14 : decode cX6_faultsAt 14 = .ok (.invokevirtual 110, 3) := by decide +kernel
theorem dX6_faultsAt_17 : decode cX6_faultsAt 17 = .ok (.iaload, 1) := by decide +kernel
theorem dX6_faultsAt_18 : decode cX6_faultsAt 18 = .ok (.aload_n 0, 1) := by decide +kernel
theorem dX6_faultsAt_19 : decode cX6_faultsAt 19 = .ok (.getfield 23, 3) := by decide +kernel
theorem dX6_faultsAt_22 : decode cX6_faultsAt 22 = .ok (.aload_n 0, 1) := by decide +kernel
theorem dX6_faultsAt_23 : decode cX6_faultsAt 23 = .ok (.iload_n 1, 1) := by decide +kernel
theorem dX6_faultsAt_24 : decode cX6_faultsAt 24 = .ok (.invokevirtual 107, 3) := by decide +kernel
theorem dX6_faultsAt_27 : decode cX6_faultsAt 27 = .ok (.iaload, 1) := by decide +kernel
theorem dX6_faultsAt_28 : decode cX6_faultsAt 28 = .ok (.ixor, 1) := by decide +kernel
theorem dX6_faultsAt_29 : decode cX6_faultsAt 29 = .ok (.invokestatic 113, 3) := by decide +kernel
theorem dX6_faultsAt_32 : decode cX6_faultsAt 32 = .ok (.goto 4, 3) := by decide +kernel
theorem dX6_faultsAt_35 : decode cX6_faultsAt 35 = .ok (.iconst 0, 1) := by decide +kernel
theorem dX6_faultsAt_36 : decode cX6_faultsAt 36 = .ok (.ireturn, 1) := by decide +kernel
theorem dX6_begin_0 : decode cX6_begin 0 = .ok (.iload_n 1, 1) := by decide +kernel
theorem dX6_begin_1 : decode cX6_begin 1 = .ok (.iconst 1, 1) := by decide +kernel
theorem dX6_begin_2 : decode cX6_begin 2 = .ok (.bipush 12, 2) := by decide +kernel
theorem dX6_begin_4 : decode cX6_begin 4 = .ok (.invokestatic 61, 3) := by decide +kernel
theorem dX6_begin_7 : decode cX6_begin 7 = .ok (.ifCond .eq 13, 3) := by decide +kernel
theorem dX6_begin_10 : decode cX6_begin 10 = .ok (.iload_n 2, 1) := by decide +kernel
theorem dX6_begin_11 : decode cX6_begin 11 = .ok (.iconst 1, 1) := by decide +kernel
theorem dX6_begin_12 : decode cX6_begin 12 = .ok (.bipush 12, 2) := by decide +kernel
theorem dX6_begin_14 : decode cX6_begin 14 = .ok (.invokestatic 61, 3) := by decide +kernel
theorem dX6_begin_17 : decode cX6_begin 17 = .ok (.ifCond .ne 6, 3) := by decide +kernel
theorem dX6_begin_20 : decode cX6_begin 20 = .ok (.bipush (-2), 2) := by decide +kernel
theorem dX6_begin_22 : decode cX6_begin 22 = .ok (.ireturn, 1) := by decide +kernel
theorem dX6_begin_23 : decode cX6_begin 23 = .ok (.aload_n 0, 1) := by decide +kernel
theorem dX6_begin_24 : decode cX6_begin 24 = .ok (.invokevirtual 77, 3) := by decide +kernel
theorem dX6_begin_27 : decode cX6_begin 27 = .ok (.aload_n 0, 1) := by decide +kernel
theorem dX6_begin_28 : decode cX6_begin 28 = .ok (.getfield 7, 3) := by decide +kernel
theorem dX6_begin_31 : decode cX6_begin 31 = .ok (.iconst 0, 1) := by decide +kernel
theorem dX6_begin_32 : decode cX6_begin 32 = .ok (.iload_n 1, 1) := by decide +kernel
theorem dX6_begin_33 : decode cX6_begin 33 = .ok (.iastore, 1) := by decide +kernel
theorem dX6_begin_34 : decode cX6_begin 34 = .ok (.aload_n 0, 1) := by decide +kernel
theorem dX6_begin_35 : decode cX6_begin 35 = .ok (.getfield 7, 3) := by decide +kernel
theorem dX6_begin_38 : decode cX6_begin 38 = .ok (.iconst 1, 1) := by decide +kernel
theorem dX6_begin_39 : decode cX6_begin 39 = .ok (.iload_n 2, 1) := by decide +kernel
theorem dX6_begin_40 : decode cX6_begin 40 = .ok (.iastore, 1) := by decide +kernel
theorem dX6_begin_41 : decode cX6_begin 41 = .ok (.aload_n 0, 1) := by decide +kernel
theorem dX6_begin_42 : decode cX6_begin 42 = .ok (.invokevirtual 58, 3) := by decide +kernel
theorem dX6_begin_45 : decode cX6_begin 45 = .ok (.aload_n 0, 1) := by decide +kernel
theorem dX6_begin_46 : decode cX6_begin 46 = .ok (.invokevirtual 116, 3) := by decide +kernel
theorem dX6_begin_49 : decode cX6_begin 49 = .ok (.ireturn, 1) := by decide +kernel
theorem dX6_lookShapes_0 : decode cX6_lookShapes 0 = .ok (.iconst 0, 1) := by decide +kernel
theorem dX6_lookShapes_1 : decode cX6_lookShapes 1 = .ok (.istore_n 1, 1) := by decide +kernel
theorem dX6_lookShapes_2 : decode cX6_lookShapes 2 = .ok (.iload_n 1, 1) := by decide +kernel
theorem dX6_lookShapes_3 : decode cX6_lookShapes 3 = .ok (.aload_n 0, 1) := by decide +kernel
theorem dX6_lookShapes_4 : decode cX6_lookShapes 4 = .ok (.invokevirtual 116, 3) := by decide +kernel
theorem dX6_lookShapes_7 : decode cX6_lookShapes 7 = .ok (.if_icmp .ge 20, 3) := by decide +kernel
theorem dX6_lookShapes_10 : decode cX6_lookShapes 10 = .ok (.aload_n 0, 1) := by decide +kernel
theorem dX6_lookShapes_11 : decode cX6_lookShapes 11 = .ok (.getfield 29, 3) := by decide +kernel
theorem dX6_lookShapes_14 : decode cX6_lookShapes 14 = .ok (.iload_n 1, 1) := by decide +kernel
theorem dX6_lookShapes_15 : decode cX6_lookShapes 15 = .ok (.aload_n 0, 1) := by decide +kernel
theorem dX6_lookShapes_16 : decode cX6_lookShapes 16 = .ok (.iload_n 1, 1) := by decide +kernel
theorem dX6_lookShapes_17 : decode cX6_lookShapes 17 = .ok (.invokevirtual 110, 3) := by decide +kernel
theorem dX6_lookShapes_20 : decode cX6_lookShapes 20 = .ok (.iastore, 1) := by decide +kernel
theorem dX6_lookShapes_21 : decode cX6_lookShapes 21 = .ok (.iinc 1 1, 3) := by decide +kernel
theorem dX6_lookShapes_24 : decode cX6_lookShapes 24 = .ok (.goto (-22), 3) := by decide +kernel
theorem dX6_lookShapes_27 : decode cX6_lookShapes 27 = .ok (.return_, 1) := by decide +kernel
theorem dX6_reshaped_0 : decode cX6_reshaped 0 = .ok (.iconst 0, 1) := by decide +kernel
theorem dX6_reshaped_1 : decode cX6_reshaped 1 = .ok (.istore_n 1, 1) := by decide +kernel
theorem dX6_reshaped_2 : decode cX6_reshaped 2 = .ok (.iconst 0, 1) := by decide +kernel
theorem dX6_reshaped_3 : decode cX6_reshaped 3 = .ok (.istore_n 2, 1) := by decide +kernel
theorem dX6_reshaped_4 : decode cX6_reshaped 4 = .ok (.iload_n 2, 1) := by decide +kernel
theorem dX6_reshaped_5 : decode cX6_reshaped 5 = .ok (.aload_n 0, 1) := by decide +kernel
theorem dX6_reshaped_6 : decode cX6_reshaped 6 = .ok (.invokevirtual 116, 3) := by decide +kernel
theorem dX6_reshaped_9 : decode cX6_reshaped 9 = .ok (.if_icmp .ge 50, 3) := by decide +kernel
theorem dX6_reshaped_12 : decode cX6_reshaped 12 = .ok (.iload_n 1, 1) := by decide +kernel
theorem dX6_reshaped_13 : decode cX6_reshaped 13 = .ok (.aload_n 0, 1) := by decide +kernel
theorem dX6_reshaped_14 : decode cX6_reshaped 14 = .ok (.getfield 29, 3) := by decide +kernel
theorem dX6_reshaped_17 : decode cX6_reshaped 17 = .ok (.iload_n 2, 1) := by decide +kernel
theorem dX6_reshaped_18 : decode cX6_reshaped 18 = .ok (.iaload, 1) := by decide +kernel
theorem dX6_reshaped_19 : decode cX6_reshaped 19 = .ok (.bipush (-6), 2) := by decide +kernel
theorem dX6_reshaped_21 : decode cX6_reshaped 21 = .ok (.if_icmp .eq 29, 3) := by decide +kernel
theorem dX6_reshaped_24 : decode cX6_reshaped 24 = .ok (.aload_n 0, 1) := by decide +kernel
theorem dX6_reshaped_25 : decode cX6_reshaped 25 = .ok (.iload_n 2, 1) := by decide +kernel
theorem dX6_reshaped_26 : decode cX6_reshaped 26 = .ok (.invokevirtual 97, 3) := by decide +kernel
theorem dX6_reshaped_29 : decode cX6_reshaped 29 = .ok (.ifCond .eq 21, 3) := by decide +kernel
theorem dX6_reshaped_32 : decode cX6_reshaped 32 = .ok (.aload_n 0, 1) := by decide +kernel
theorem dX6_reshaped_33 : decode cX6_reshaped 33 = .ok (.iload_n 2, 1) := by decide +kernel
theorem dX6_reshaped_34 : decode cX6_reshaped 34 = .ok (.invokevirtual 110, 3) := by decide +kernel
theorem dX6_reshaped_37 : decode cX6_reshaped 37 = .ok (.aload_n 0, 1) := by decide +kernel
theorem dX6_reshaped_38 : decode cX6_reshaped 38 = .ok (.getfield 29, 3) := by decide +kernel
theorem dX6_reshaped_41 : decode cX6_reshaped 41 = .ok (.iload_n 2, 1) := by decide +kernel
theorem dX6_reshaped_42 : decode cX6_reshaped 42 = .ok (.iaload, 1) := by decide +kernel
theorem dX6_reshaped_43 : decode cX6_reshaped 43 = .ok (.if_icmp .eq 7, 3) := by decide +kernel
theorem dX6_reshaped_46 : decode cX6_reshaped 46 = .ok (.iconst 1, 1) := by decide +kernel
theorem dX6_reshaped_47 : decode cX6_reshaped 47 = .ok (.goto 4, 3) := by decide +kernel
theorem dX6_reshaped_50 : decode cX6_reshaped 50 = .ok (.iconst 0, 1) := by decide +kernel
theorem dX6_reshaped_51 : decode cX6_reshaped 51 = .ok (.iadd, 1) := by decide +kernel
theorem dX6_reshaped_52 : decode cX6_reshaped 52 = .ok (.istore_n 1, 1) := by decide +kernel
theorem dX6_reshaped_53 : decode cX6_reshaped 53 = .ok (.iinc 2 1, 3) := by decide +kernel
theorem dX6_reshaped_56 : decode cX6_reshaped 56 = .ok (.goto (-52), 3) := by decide +kernel
theorem dX6_reshaped_59 : decode cX6_reshaped 59 = .ok (.iload_n 1, 1) := by decide +kernel
theorem dX6_reshaped_60 : decode cX6_reshaped 60 = .ok (.ireturn, 1) := by decide +kernel
theorem dX6_setOutside_0 : decode cX6_setOutside 0 = .ok (.aload_n 0, 1) := by decide +kernel
theorem dX6_setOutside_1 : decode cX6_setOutside 1 = .ok (.invokevirtual 77, 3) := by decide +kernel
theorem dX6_setOutside_4 : decode cX6_setOutside 4 = .ok (.aload_n 0, 1) := by decide +kernel
theorem dX6_setOutside_5 : decode cX6_setOutside 5 = .ok (.invokevirtual 119, 3) := by decide +kernel
theorem dX6_setOutside_8 : decode cX6_setOutside 8 = .ok (.aload_n 0, 1) := by decide +kernel
theorem dX6_setOutside_9 : decode cX6_setOutside 9 = .ok (.getfield 7, 3) := by decide +kernel
theorem dX6_setOutside_12 : decode cX6_setOutside 12 = .ok (.iconst 2, 1) := by decide +kernel
theorem dX6_setOutside_13 : decode cX6_setOutside 13 = .ok (.iload_n 1, 1) := by decide +kernel
theorem dX6_setOutside_14 : decode cX6_setOutside 14 = .ok (.ifCond .eq 7, 3) := by decide +kernel
theorem dX6_setOutside_17 : decode cX6_setOutside 17 = .ok (.iconst 1, 1) := by decide +kernel
theorem dX6_setOutside_18 : decode cX6_setOutside 18 = .ok (.goto 4, 3) := by decide +kernel
theorem dX6_setOutside_21 : decode cX6_setOutside 21 = .ok (.iconst 0, 1) := by decide +kernel
theorem dX6_setOutside_22 : decode cX6_setOutside 22 = .ok (.iastore, 1) := by decide +kernel
theorem dX6_setOutside_23 : decode cX6_setOutside 23 = .ok (.aload_n 0, 1) := by decide +kernel
theorem dX6_setOutside_24 : decode cX6_setOutside 24 = .ok (.invokevirtual 122, 3) := by decide +kernel
theorem dX6_setOutside_27 : decode cX6_setOutside 27 = .ok (.ireturn, 1) := by decide +kernel
theorem dX6_becomes_0 : decode cX6_becomes 0 = .ok (.aload_n 0, 1) := by decide +kernel
theorem dX6_becomes_1 : decode cX6_becomes 1 = .ok (.iload_n 1, 1) := by decide +kernel
theorem dX6_becomes_2 : decode cX6_becomes 2 = .ok (.invokevirtual 97, 3) := by decide +kernel
theorem dX6_becomes_5 : decode cX6_becomes 5 = .ok (.iload_n 2, 1) := by decide +kernel
theorem dX6_becomes_6 : decode cX6_becomes 6 = .ok (.if_icmp .eq 7, 3) := by decide +kernel
theorem dX6_becomes_9 : decode cX6_becomes 9 = .ok (.iconst 1, 1) := by decide +kernel
theorem dX6_becomes_10 : decode cX6_becomes 10 = .ok (.goto 4, 3) := by decide +kernel
theorem dX6_becomes_13 : decode cX6_becomes 13 = .ok (.iconst 0, 1) := by decide +kernel
theorem dX6_becomes_14 : decode cX6_becomes 14 = .ok (.istore_n 3, 1) := by decide +kernel
theorem dX6_becomes_15 : decode cX6_becomes 15 = .ok (.aload_n 0, 1) := by decide +kernel
theorem dX6_becomes_16 : decode cX6_becomes 16 = .ok (.getfield 7, 3) := by decide +kernel
theorem dX6_becomes_19 : decode cX6_becomes 19 = .ok (.iconst 3, 1) := by decide +kernel
theorem dX6_becomes_20 : decode cX6_becomes 20 = .ok (.iload_n 1, 1) := by decide +kernel
theorem dX6_becomes_21 : decode cX6_becomes 21 = .ok (.iadd, 1) := by decide +kernel
theorem dX6_becomes_22 : decode cX6_becomes 22 = .ok (.iload_n 2, 1) := by decide +kernel
theorem dX6_becomes_23 : decode cX6_becomes 23 = .ok (.ifCond .eq 7, 3) := by decide +kernel
theorem dX6_becomes_26 : decode cX6_becomes 26 = .ok (.iconst 1, 1) := by decide +kernel
theorem dX6_becomes_27 : decode cX6_becomes 27 = .ok (.goto 4, 3) := by decide +kernel
theorem dX6_becomes_30 : decode cX6_becomes 30 = .ok (.iconst 0, 1) := by decide +kernel
theorem dX6_becomes_31 : decode cX6_becomes 31 = .ok (.iastore, 1) := by decide +kernel
theorem dX6_becomes_32 : decode cX6_becomes 32 = .ok (.aload_n 0, 1) := by decide +kernel
theorem dX6_becomes_33 : decode cX6_becomes 33 = .ok (.getfield 7, 3) := by decide +kernel
theorem dX6_becomes_36 : decode cX6_becomes 36 = .ok (.sipush 147, 3) := by decide +kernel
theorem dX6_becomes_39 : decode cX6_becomes 39 = .ok (.iload_n 1, 1) := by decide +kernel
theorem dX6_becomes_40 : decode cX6_becomes 40 = .ok (.iadd, 1) := by decide +kernel
theorem dX6_becomes_41 : decode cX6_becomes 41 = .ok (.iload_n 2, 1) := by decide +kernel
theorem dX6_becomes_42 : decode cX6_becomes 42 = .ok (.ifCond .eq 16, 3) := by decide +kernel
theorem dX6_becomes_45 : decode cX6_becomes 45 = .ok (.aload_n 0, 1) := by decide +kernel
theorem dX6_becomes_46 : decode cX6_becomes 46 = .ok (.getfield 7, 3) := by decide +kernel
theorem dX6_becomes_49 : decode cX6_becomes 49 = .ok (.sipush 147, 3) := by decide +kernel
theorem dX6_becomes_52 : decode cX6_becomes 52 = .ok (.iload_n 1, 1) := by decide +kernel
theorem dX6_becomes_53 : decode cX6_becomes 53 = .ok (.iadd, 1) := by decide +kernel
theorem dX6_becomes_54 : decode cX6_becomes 54 = .ok (.iaload, 1) := by decide +kernel
theorem dX6_becomes_55 : decode cX6_becomes 55 = .ok (.goto 5, 3) := by decide +kernel
theorem dX6_becomes_58 : decode cX6_becomes 58 = .ok (.bipush (-6), 2) := by decide +kernel
theorem dX6_becomes_60 : decode cX6_becomes 60 = .ok (.iastore, 1) := by decide +kernel
theorem dX6_becomes_61 : decode cX6_becomes 61 = .ok (.iload_n 3, 1) := by decide +kernel
theorem dX6_becomes_62 : decode cX6_becomes 62 = .ok (.ireturn, 1) := by decide +kernel
theorem dX6_set_0 : decode cX6_set 0 = .ok (.aload_n 0, 1) := by decide +kernel
theorem dX6_set_1 : decode cX6_set 1 = .ok (.iload_n 1, 1) := by decide +kernel
theorem dX6_set_2 : decode cX6_set 2 = .ok (.iload_n 2, 1) := by decide +kernel
theorem dX6_set_3 : decode cX6_set 3 = .ok (.invokevirtual 90, 3) := by decide +kernel
theorem dX6_set_6 : decode cX6_set 6 = .ok (.ifCond .ne 5, 3) := by decide +kernel
theorem dX6_set_9 : decode cX6_set 9 = .ok (.iconst (-1), 1) := by decide +kernel
theorem dX6_set_10 : decode cX6_set 10 = .ok (.ireturn, 1) := by decide +kernel
theorem dX6_set_11 : decode cX6_set 11 = .ok (.aload_n 0, 1) := by decide +kernel
theorem dX6_set_12 : decode cX6_set 12 = .ok (.invokevirtual 77, 3) := by decide +kernel
theorem dX6_set_15 : decode cX6_set 15 = .ok (.aload_n 0, 1) := by decide +kernel
theorem dX6_set_16 : decode cX6_set 16 = .ok (.invokevirtual 119, 3) := by decide +kernel
theorem dX6_set_19 : decode cX6_set 19 = .ok (.aload_n 0, 1) := by decide +kernel
theorem dX6_set_20 : decode cX6_set 20 = .ok (.aload_n 0, 1) := by decide +kernel
theorem dX6_set_21 : decode cX6_set 21 = .ok (.iload_n 1, 1) := by decide +kernel
theorem dX6_set_22 : decode cX6_set 22 = .ok (.iload_n 2, 1) := by decide +kernel
theorem dX6_set_23 : decode cX6_set 23 = .ok (.invokevirtual 94, 3) := by decide +kernel
theorem dX6_set_26 : decode cX6_set 26 = .ok (.iload_n 3, 1) := by decide +kernel
theorem dX6_set_27 : decode cX6_set 27 = .ok (.invokevirtual 125, 3) := by decide +kernel
theorem dX6_set_30 : decode cX6_set 30 = .ok (.pop, 1) := by decide +kernel
theorem dX6_set_31 : decode cX6_set 31 = .ok (.aload_n 0, 1) := by decide +kernel
theorem dX6_set_32 : decode cX6_set 32 = .ok (.invokevirtual 122, 3) := by decide +kernel
theorem dX6_set_35 : decode cX6_set 35 = .ok (.ireturn, 1) := by decide +kernel
theorem dX6_findRegion_0 : decode cX6_findRegion 0 = .ok (.iconst 0, 1) := by decide +kernel
theorem dX6_findRegion_1 : decode cX6_findRegion 1 = .ok (.istore_n 3, 1) := by decide +kernel
theorem dX6_findRegion_2 : decode cX6_findRegion 2 = .ok (.iload_n 3, 1) := by decide +kernel
theorem dX6_findRegion_3 : decode cX6_findRegion 3 = .ok (.sipush 144, 3) := by decide +kernel
theorem dX6_findRegion_6 : decode cX6_findRegion 6 = .ok (.if_icmp .ge 17, 3) := by decide +kernel
theorem dX6_findRegion_9 : decode cX6_findRegion 9 = .ok (.aload_n 0, 1) := by decide +kernel
theorem dX6_findRegion_10 : decode cX6_findRegion 10 = .ok (.getfield 35, 3) := by decide +kernel
theorem dX6_findRegion_13 : decode cX6_findRegion 13 = .ok (.iload_n 3, 1) := by decide +kernel
theorem dX6_findRegion_14 : decode cX6_findRegion 14 = .ok (.bipush (-6), 2) := by decide +kernel
theorem dX6_findRegion_16 : decode cX6_findRegion 16 = .ok (.iastore, 1) := by decide +kernel
theorem dX6_findRegion_17 : decode cX6_findRegion 17 = .ok (.iinc 3 1, 3) := by decide +kernel
theorem dX6_findRegion_20 : decode cX6_findRegion 20 = .ok (.goto (-18), 3) := by decide +kernel
theorem dX6_findRegion_23 : decode cX6_findRegion 23 = .ok (.aload_n 0, 1) := by decide +kernel
theorem dX6_findRegion_24 : decode cX6_findRegion 24 = .ok (.getfield 35, 3) := by decide +kernel
theorem dX6_findRegion_27 : decode cX6_findRegion 27 = .ok (.iload_n 1, 1) := by decide +kernel
theorem dX6_findRegion_28 : decode cX6_findRegion 28 = .ok (.iconst 0, 1) := by decide +kernel
theorem dX6_findRegion_29 : decode cX6_findRegion 29 = .ok (.iastore, 1) := by decide +kernel
theorem dX6_findRegion_30 : decode cX6_findRegion 30 = .ok (.aload_n 0, 1) := by decide +kernel
theorem dX6_findRegion_31 : decode cX6_findRegion 31 = .ok (.getfield 32, 3) := by decide +kernel
theorem dX6_findRegion_34 : decode cX6_findRegion 34 = .ok (.iconst 0, 1) := by decide +kernel
theorem dX6_findRegion_35 : decode cX6_findRegion 35 = .ok (.iload_n 1, 1) := by decide +kernel
theorem dX6_findRegion_36 : decode cX6_findRegion 36 = .ok (.iastore, 1) := by decide +kernel
theorem dX6_findRegion_37 : decode cX6_findRegion 37 = .ok (.aload_n 0, 1) := by decide +kernel
theorem dX6_findRegion_38 : decode cX6_findRegion 38 = .ok (.iconst 1, 1) := by decide +kernel
theorem dX6_findRegion_39 : decode cX6_findRegion 39 = .ok (.putfield 129, 3) := by decide +kernel
theorem dX6_findRegion_42 : decode cX6_findRegion 42 = .ok (.iconst 0, 1) := by decide +kernel
theorem dX6_findRegion_43 : decode cX6_findRegion 43 = .ok (.istore_n 3, 1) := by decide +kernel
theorem dX6_findRegion_44 : decode cX6_findRegion 44 = .ok (.iload_n 3, 1) := by decide +kernel
theorem dX6_findRegion_45 : decode cX6_findRegion 45 = .ok (.aload_n 0, 1) := by decide +kernel
theorem dX6_findRegion_46 : decode cX6_findRegion 46 = .ok (.getfield 129, 3) := by decide +kernel
theorem dX6_findRegion_49 : decode cX6_findRegion 49 = .ok (.if_icmp .ge 188, 3) := by decide +kernel
theorem dX6_findRegion_52 : decode cX6_findRegion 52 = .ok (.aload_n 0, 1) := by decide +kernel
theorem dX6_findRegion_53 : decode cX6_findRegion 53 = .ok (.getfield 32, 3) := by decide +kernel
theorem dX6_findRegion_56 : decode cX6_findRegion 56 = .ok (.iload_n 3, 1) := by decide +kernel
theorem dX6_findRegion_57 : decode cX6_findRegion 57 = .ok (.iaload, 1) := by decide +kernel
theorem dX6_findRegion_58 : decode cX6_findRegion 58 = .ok (.aload_n 0, 1) := by decide +kernel
theorem dX6_findRegion_59 : decode cX6_findRegion 59 = .ok (.getfield 7, 3) := by decide +kernel
theorem dX6_findRegion_62 : decode cX6_findRegion 62 = .ok (.iconst 1, 1) := by decide +kernel
theorem dX6_findRegion_63 : decode cX6_findRegion 63 = .ok (.iaload, 1) := by decide +kernel
theorem dX6_findRegion_64 : decode cX6_findRegion 64 = .ok (.idiv, 1) := by decide +kernel
theorem dX6_findRegion_65 : decode cX6_findRegion 65 = .ok (.istore 4, 2) := by decide +kernel
theorem dX6_findRegion_67 : decode cX6_findRegion 67 = .ok (.aload_n 0, 1) := by decide +kernel
theorem dX6_findRegion_68 : decode cX6_findRegion 68 = .ok (.getfield 32, 3) := by decide +kernel
theorem dX6_findRegion_71 : decode cX6_findRegion 71 = .ok (.iload_n 3, 1) := by decide +kernel
theorem dX6_findRegion_72 : decode cX6_findRegion 72 = .ok (.iaload, 1) := by decide +kernel
theorem dX6_findRegion_73 : decode cX6_findRegion 73 = .ok (.aload_n 0, 1) := by decide +kernel
theorem dX6_findRegion_74 : decode cX6_findRegion 74 = .ok (.getfield 7, 3) := by decide +kernel
theorem dX6_findRegion_77 : decode cX6_findRegion 77 = .ok (.iconst 1, 1) := by decide +kernel
theorem dX6_findRegion_78 : decode cX6_findRegion 78 = .ok (.iaload, 1) := by decide +kernel
theorem dX6_findRegion_79 : decode cX6_findRegion 79 = .ok (.irem, 1) := by decide +kernel
theorem dX6_findRegion_80 : decode cX6_findRegion 80 = .ok (.istore 5, 2) := by decide +kernel
theorem dX6_findRegion_82 : decode cX6_findRegion 82 = .ok (.iconst 0, 1) := by decide +kernel
theorem dX6_findRegion_83 : decode cX6_findRegion 83 = .ok (.istore 6, 2) := by decide +kernel
theorem dX6_findRegion_85 : decode cX6_findRegion 85 = .ok (.iload 6, 2) := by decide +kernel
theorem dX6_findRegion_87 : decode cX6_findRegion 87 = .ok (.bipush 8, 2) := by decide +kernel
theorem dX6_findRegion_89 : decode cX6_findRegion 89 = .ok (.if_icmp .ge 142, 3) := by decide +kernel
theorem dX6_findRegion_92 : decode cX6_findRegion 92 = .ok (.iload 4, 2) := by decide +kernel
theorem dX6_findRegion_94 : decode cX6_findRegion 94 = .ok (.iload 6, 2) := by decide +kernel
theorem dX6_findRegion_96 : decode cX6_findRegion 96 = .ok (.invokestatic 84, 3) := by decide +kernel
theorem dX6_findRegion_99 : decode cX6_findRegion 99 = .ok (.iadd, 1) := by decide +kernel
theorem dX6_findRegion_100 : decode cX6_findRegion 100 = .ok (.istore 7, 2) := by decide +kernel
theorem dX6_findRegion_102 : decode cX6_findRegion 102 = .ok (.iload 5, 2) := by decide +kernel
theorem dX6_findRegion_104 : decode cX6_findRegion 104 = .ok (.iload 6, 2) := by decide +kernel
theorem dX6_findRegion_106 : decode cX6_findRegion 106 = .ok (.invokestatic 87, 3) := by decide +kernel
theorem dX6_findRegion_109 : decode cX6_findRegion 109 = .ok (.iadd, 1) := by decide +kernel
theorem dX6_findRegion_110 : decode cX6_findRegion 110 = .ok (.istore 8, 2) := by decide +kernel
theorem dX6_findRegion_112 : decode cX6_findRegion 112 = .ok (.aload_n 0, 1) := by decide +kernel
theorem dX6_findRegion_113 : decode cX6_findRegion 113 = .ok (.iload 7, 2) := by decide +kernel
theorem dX6_findRegion_115 : decode cX6_findRegion 115 = .ok (.iload 8, 2) := by decide +kernel
theorem dX6_findRegion_117 : decode cX6_findRegion 117 = .ok (.invokevirtual 90, 3) := by decide +kernel
theorem dX6_findRegion_120 : decode cX6_findRegion 120 = .ok (.ifCond .eq 94, 3) := by decide +kernel
theorem dX6_findRegion_123 : decode cX6_findRegion 123 = .ok (.aload_n 0, 1) := by decide +kernel
theorem dX6_findRegion_124 : decode cX6_findRegion 124 = .ok (.getfield 35, 3) := by decide +kernel
theorem dX6_findRegion_127 : decode cX6_findRegion 127 = .ok (.aload_n 0, 1) := by decide +kernel
theorem dX6_findRegion_128 : decode cX6_findRegion 128 = .ok (.iload 7, 2) := by decide +kernel
theorem dX6_findRegion_130 : decode cX6_findRegion 130 = .ok (.iload 8, 2) := by decide +kernel
theorem dX6_findRegion_132 : decode cX6_findRegion 132 = .ok (.invokevirtual 94, 3) := by decide +kernel
theorem dX6_findRegion_135 : decode cX6_findRegion 135 = .ok (.iaload, 1) := by decide +kernel
theorem dX6_findRegion_136 : decode cX6_findRegion 136 = .ok (.bipush (-6), 2) := by decide +kernel
theorem dX6_findRegion_138 : decode cX6_findRegion 138 = .ok (.if_icmp .ne 76, 3) := by decide +kernel
theorem dX6_findRegion_141 : decode cX6_findRegion 141 = .ok (.aload_n 0, 1) := by decide +kernel
theorem dX6_findRegion_142 : decode cX6_findRegion 142 = .ok (.aload_n 0, 1) := by decide +kernel
theorem dX6_findRegion_143 : decode cX6_findRegion 143 = .ok (.iload 7, 2) := by decide +kernel
theorem dX6_findRegion_145 : decode cX6_findRegion 145 = .ok (.iload 8, 2) := by decide +kernel
theorem dX6_findRegion_147 : decode cX6_findRegion 147 = .ok (.invokevirtual 94, 3) := by decide +kernel
theorem dX6_findRegion_150 : decode cX6_findRegion 150 = .ok (.invokevirtual 97, 3) := by decide +kernel
theorem dX6_findRegion_153 : decode cX6_findRegion 153 = .ok (.aload_n 0, 1) := by decide +kernel
theorem dX6_findRegion_154 : decode cX6_findRegion 154 = .ok (.iload_n 1, 1) := by decide +kernel
theorem dX6_findRegion_155 : decode cX6_findRegion 155 = .ok (.invokevirtual 97, 3) := by decide +kernel
theorem dX6_findRegion_158 : decode cX6_findRegion 158 = .ok (.if_icmp .ne 56, 3) := by decide +kernel
theorem dX6_findRegion_161 : decode cX6_findRegion 161 = .ok (.aload_n 0, 1) := by decide +kernel
theorem dX6_findRegion_162 : decode cX6_findRegion 162 = .ok (.getfield 35, 3) := by decide +kernel
theorem dX6_findRegion_165 : decode cX6_findRegion 165 = .ok (.aload_n 0, 1) := by decide +kernel
theorem dX6_findRegion_166 : decode cX6_findRegion 166 = .ok (.iload 7, 2) := by decide +kernel
theorem dX6_findRegion_168 : decode cX6_findRegion 168 = .ok (.iload 8, 2) := by decide +kernel
theorem dX6_findRegion_170 : decode cX6_findRegion 170 = .ok (.invokevirtual 94, 3) := by decide +kernel
theorem dX6_findRegion_173 : decode cX6_findRegion 173 = .ok (.aload_n 0, 1) := by decide +kernel
theorem dX6_findRegion_174 : decode cX6_findRegion 174 = .ok (.getfield 35, 3) := by decide +kernel
theorem dX6_findRegion_177 : decode cX6_findRegion 177 = .ok (.aload_n 0, 1) := by decide +kernel
theorem dX6_findRegion_178 : decode cX6_findRegion 178 = .ok (.getfield 32, 3) := by decide +kernel
theorem dX6_findRegion_181 : decode cX6_findRegion 181 = .ok (.iload_n 3, 1) := by decide +kernel
theorem dX6_findRegion_182 : decode cX6_findRegion 182 = .ok (.iaload, 1) := by decide +kernel
theorem dX6_findRegion_183 : decode cX6_findRegion 183 = .ok (.iaload, 1) := by decide +kernel
theorem dX6_findRegion_184 : decode cX6_findRegion 184 = .ok (.iconst 1, 1) := by decide +kernel
theorem dX6_findRegion_185 : decode cX6_findRegion 185 = .ok (.iadd, 1) := by decide +kernel
theorem dX6_findRegion_186 : decode cX6_findRegion 186 = .ok (.iastore, 1) := by decide +kernel
theorem dX6_findRegion_187 : decode cX6_findRegion 187 = .ok (.aload_n 0, 1) := by decide +kernel
theorem dX6_findRegion_188 : decode cX6_findRegion 188 = .ok (.getfield 32, 3) := by decide +kernel
theorem dX6_findRegion_191 : decode cX6_findRegion 191 = .ok (.aload_n 0, 1) := by decide +kernel
theorem dX6_findRegion_192 : decode cX6_findRegion 192 = .ok (.getfield 129, 3) := by decide +kernel
theorem dX6_findRegion_195 : decode cX6_findRegion 195 = .ok (.aload_n 0, 1) := by decide +kernel
theorem dX6_findRegion_196 : decode cX6_findRegion 196 = .ok (.iload 7, 2) := by decide +kernel
theorem dX6_findRegion_198 : decode cX6_findRegion 198 = .ok (.iload 8, 2) := by decide +kernel
theorem dX6_findRegion_200 : decode cX6_findRegion 200 = .ok (.invokevirtual 94, 3) := by decide +kernel
theorem dX6_findRegion_203 : decode cX6_findRegion 203 = .ok (.iastore, 1) := by decide +kernel
theorem dX6_findRegion_204 : decode cX6_findRegion 204 = .ok (.aload_n 0, 1) := by decide +kernel
theorem dX6_findRegion_205 : decode cX6_findRegion 205 = .ok (.dup, 1) := by decide +kernel
theorem dX6_findRegion_206 : decode cX6_findRegion 206 = .ok (.getfield 129, 3) := by decide +kernel
theorem dX6_findRegion_209 : decode cX6_findRegion 209 = .ok (.iconst 1, 1) := by decide +kernel
theorem dX6_findRegion_210 : decode cX6_findRegion 210 = .ok (.iadd, 1) := by decide +kernel
theorem dX6_findRegion_211 : decode cX6_findRegion 211 = .ok (.putfield 129, 3) := by decide +kernel
theorem dX6_findRegion_214 : decode cX6_findRegion 214 = .ok (.iload 6, 2) := by decide +kernel
theorem dX6_findRegion_216 : decode cX6_findRegion 216 = .ok (.iload_n 2, 1) := by decide +kernel
theorem dX6_findRegion_217 : decode cX6_findRegion 217 = .ok (.ifCond .eq 7, 3) := by decide +kernel
theorem dX6_findRegion_220 : decode cX6_findRegion 220 = .ok (.iconst 1, 1) := by decide +kernel
theorem dX6_findRegion_221 : decode cX6_findRegion 221 = .ok (.goto 4, 3) := by decide +kernel
theorem dX6_findRegion_224 : decode cX6_findRegion 224 = .ok (.iconst 2, 1) := by decide +kernel
theorem dX6_findRegion_225 : decode cX6_findRegion 225 = .ok (.iadd, 1) := by decide +kernel
theorem dX6_findRegion_226 : decode cX6_findRegion 226 = .ok (.istore 6, 2) := by decide +kernel
theorem dX6_findRegion_228 : decode cX6_findRegion 228 = .ok (.goto (-143), 3) := by decide +kernel
theorem dX6_findRegion_231 : decode cX6_findRegion 231 = .ok (.iinc 3 1, 3) := by decide +kernel
theorem dX6_findRegion_234 : decode cX6_findRegion 234 = .ok (.goto (-190), 3) := by decide +kernel
theorem dX6_findRegion_237 : decode cX6_findRegion 237 = .ok (.return_, 1) := by decide +kernel
theorem dX6_fill_0 : decode cX6_fill 0 = .ok (.aload_n 0, 1) := by decide +kernel
theorem dX6_fill_1 : decode cX6_fill 1 = .ok (.iload_n 1, 1) := by decide +kernel
theorem dX6_fill_2 : decode cX6_fill 2 = .ok (.iload_n 2, 1) := by decide +kernel
theorem dX6_fill_3 : decode cX6_fill 3 = .ok (.invokevirtual 90, 3) := by decide +kernel
theorem dX6_fill_6 : decode cX6_fill 6 = .ok (.ifCond .ne 5, 3) := by decide +kernel
theorem dX6_fill_9 : decode cX6_fill 9 = .ok (.iconst (-1), 1) := by decide +kernel
theorem dX6_fill_10 : decode cX6_fill 10 = .ok (.ireturn, 1) := by decide +kernel
theorem dX6_fill_11 : decode cX6_fill 11 = .ok (.aload_n 0, 1) := by decide +kernel
theorem dX6_fill_12 : decode cX6_fill 12 = .ok (.invokevirtual 77, 3) := by decide +kernel
theorem dX6_fill_15 : decode cX6_fill 15 = .ok (.aload_n 0, 1) := by decide +kernel
theorem dX6_fill_16 : decode cX6_fill 16 = .ok (.aload_n 0, 1) := by decide +kernel
theorem dX6_fill_17 : decode cX6_fill 17 = .ok (.iload_n 1, 1) := by decide +kernel
theorem dX6_fill_18 : decode cX6_fill 18 = .ok (.iload_n 2, 1) := by decide +kernel
theorem dX6_fill_19 : decode cX6_fill 19 = .ok (.invokevirtual 94, 3) := by decide +kernel
theorem dX6_fill_22 : decode cX6_fill 22 = .ok (.iconst 0, 1) := by decide +kernel
theorem dX6_fill_23 : decode cX6_fill 23 = .ok (.invokevirtual 132, 3) := by decide +kernel
theorem dX6_fill_26 : decode cX6_fill 26 = .ok (.iconst 0, 1) := by decide +kernel
theorem dX6_fill_27 : decode cX6_fill 27 = .ok (.istore 4, 2) := by decide +kernel
theorem dX6_fill_29 : decode cX6_fill 29 = .ok (.iconst 0, 1) := by decide +kernel
theorem dX6_fill_30 : decode cX6_fill 30 = .ok (.istore 5, 2) := by decide +kernel
theorem dX6_fill_32 : decode cX6_fill 32 = .ok (.iload 5, 2) := by decide +kernel
theorem dX6_fill_34 : decode cX6_fill 34 = .ok (.aload_n 0, 1) := by decide +kernel
theorem dX6_fill_35 : decode cX6_fill 35 = .ok (.getfield 129, 3) := by decide +kernel
theorem dX6_fill_38 : decode cX6_fill 38 = .ok (.if_icmp .ge 34, 3) := by decide +kernel
theorem dX6_fill_41 : decode cX6_fill 41 = .ok (.iload 4, 2) := by decide +kernel
theorem dX6_fill_43 : decode cX6_fill 43 = .ok (.aload_n 0, 1) := by decide +kernel
theorem dX6_fill_44 : decode cX6_fill 44 = .ok (.aload_n 0, 1) := by decide +kernel
theorem dX6_fill_45 : decode cX6_fill 45 = .ok (.getfield 32, 3) := by decide +kernel
theorem dX6_fill_48 : decode cX6_fill 48 = .ok (.iload 5, 2) := by decide +kernel
theorem dX6_fill_50 : decode cX6_fill 50 = .ok (.iaload, 1) := by decide +kernel
theorem dX6_fill_51 : decode cX6_fill 51 = .ok (.iload_n 3, 1) := by decide +kernel
theorem dX6_fill_52 : decode cX6_fill 52 = .ok (.invokevirtual 125, 3) := by decide +kernel
theorem dX6_fill_55 : decode cX6_fill 55 = .ok (.ifCond .eq 7, 3) := by decide +kernel
theorem dX6_fill_58 : decode cX6_fill 58 = .ok (.iconst 1, 1) := by decide +kernel
theorem dX6_fill_59 : decode cX6_fill 59 = .ok (.goto 4, 3) := by decide +kernel
theorem dX6_fill_62 : decode cX6_fill 62 = .ok (.iconst 0, 1) := by decide +kernel
theorem dX6_fill_63 : decode cX6_fill 63 = .ok (.iadd, 1) := by decide +kernel
theorem dX6_fill_64 : decode cX6_fill 64 = .ok (.istore 4, 2) := by decide +kernel
theorem dX6_fill_66 : decode cX6_fill 66 = .ok (.iinc 5 1, 3) := by decide +kernel
theorem dX6_fill_69 : decode cX6_fill 69 = .ok (.goto (-37), 3) := by decide +kernel
theorem dX6_fill_72 : decode cX6_fill 72 = .ok (.iload 4, 2) := by decide +kernel
theorem dX6_fill_74 : decode cX6_fill 74 = .ok (.ireturn, 1) := by decide +kernel
theorem dX6_brush_0 : decode cX6_brush 0 = .ok (.aload_n 0, 1) := by decide +kernel
theorem dX6_brush_1 : decode cX6_brush 1 = .ok (.iload_n 1, 1) := by decide +kernel
theorem dX6_brush_2 : decode cX6_brush 2 = .ok (.iload_n 2, 1) := by decide +kernel
theorem dX6_brush_3 : decode cX6_brush 3 = .ok (.invokevirtual 90, 3) := by decide +kernel
theorem dX6_brush_6 : decode cX6_brush 6 = .ok (.ifCond .ne 5, 3) := by decide +kernel
theorem dX6_brush_9 : decode cX6_brush 9 = .ok (.iconst (-1), 1) := by decide +kernel
theorem dX6_brush_10 : decode cX6_brush 10 = .ok (.ireturn, 1) := by decide +kernel
theorem dX6_brush_11 : decode cX6_brush 11 = .ok (.iload_n 3, 1) := by decide +kernel
theorem dX6_brush_12 : decode cX6_brush 12 = .ok (.iconst 0, 1) := by decide +kernel
theorem dX6_brush_13 : decode cX6_brush 13 = .ok (.iconst 5, 1) := by decide +kernel
theorem dX6_brush_14 : decode cX6_brush 14 = .ok (.invokestatic 61, 3) := by decide +kernel
theorem dX6_brush_17 : decode cX6_brush 17 = .ok (.ifCond .ne 6, 3) := by decide +kernel
theorem dX6_brush_20 : decode cX6_brush 20 = .ok (.bipush (-2), 2) := by decide +kernel
theorem dX6_brush_22 : decode cX6_brush 22 = .ok (.ireturn, 1) := by decide +kernel
theorem dX6_brush_23 : decode cX6_brush 23 = .ok (.aload_n 0, 1) := by decide +kernel
theorem dX6_brush_24 : decode cX6_brush 24 = .ok (.invokevirtual 77, 3) := by decide +kernel
theorem dX6_brush_27 : decode cX6_brush 27 = .ok (.iconst 0, 1) := by decide +kernel
theorem dX6_brush_28 : decode cX6_brush 28 = .ok (.istore 5, 2) := by decide +kernel
theorem dX6_brush_30 : decode cX6_brush 30 = .ok (.iconst 0, 1) := by decide +kernel
theorem dX6_brush_31 : decode cX6_brush 31 = .ok (.istore 6, 2) := by decide +kernel
theorem dX6_brush_33 : decode cX6_brush 33 = .ok (.iload 6, 2) := by decide +kernel
theorem dX6_brush_35 : decode cX6_brush 35 = .ok (.aload_n 0, 1) := by decide +kernel
theorem dX6_brush_36 : decode cX6_brush 36 = .ok (.invokevirtual 116, 3) := by decide +kernel
theorem dX6_brush_39 : decode cX6_brush 39 = .ok (.if_icmp .ge 73, 3) := by decide +kernel
theorem dX6_brush_42 : decode cX6_brush 42 = .ok (.iload 6, 2) := by decide +kernel
theorem dX6_brush_44 : decode cX6_brush 44 = .ok (.aload_n 0, 1) := by decide +kernel
theorem dX6_brush_45 : decode cX6_brush 45 = .ok (.getfield 7, 3) := by decide +kernel
theorem dX6_brush_48 : decode cX6_brush 48 = .ok (.iconst 1, 1) := by decide +kernel
theorem dX6_brush_49 : decode cX6_brush 49 = .ok (.iaload, 1) := by decide +kernel
theorem dX6_brush_50 : decode cX6_brush 50 = .ok (.idiv, 1) := by decide +kernel
theorem dX6_brush_51 : decode cX6_brush 51 = .ok (.iload_n 1, 1) := by decide +kernel
theorem dX6_brush_52 : decode cX6_brush 52 = .ok (.isub, 1) := by decide +kernel
theorem dX6_brush_53 : decode cX6_brush 53 = .ok (.istore 7, 2) := by decide +kernel
theorem dX6_brush_55 : decode cX6_brush 55 = .ok (.iload 6, 2) := by decide +kernel
theorem dX6_brush_57 : decode cX6_brush 57 = .ok (.aload_n 0, 1) := by decide +kernel
theorem dX6_brush_58 : decode cX6_brush 58 = .ok (.getfield 7, 3) := by decide +kernel
theorem dX6_brush_61 : decode cX6_brush 61 = .ok (.iconst 1, 1) := by decide +kernel
theorem dX6_brush_62 : decode cX6_brush 62 = .ok (.iaload, 1) := by decide +kernel
theorem dX6_brush_63 : decode cX6_brush 63 = .ok (.irem, 1) := by decide +kernel
theorem dX6_brush_64 : decode cX6_brush 64 = .ok (.iload_n 2, 1) := by decide +kernel
theorem dX6_brush_65 : decode cX6_brush 65 = .ok (.isub, 1) := by decide +kernel
theorem dX6_brush_66 : decode cX6_brush 66 = .ok (.istore 8, 2) := by decide +kernel
theorem dX6_brush_68 : decode cX6_brush 68 = .ok (.iload 5, 2) := by decide +kernel
theorem dX6_brush_70 : decode cX6_brush 70 = .ok (.iload 7, 2) := by decide +kernel
theorem dX6_brush_72 : decode cX6_brush 72 = .ok (.iload 7, 2) := by decide +kernel
theorem dX6_brush_74 : decode cX6_brush 74 = .ok (.imul, 1) := by decide +kernel
theorem dX6_brush_75 : decode cX6_brush 75 = .ok (.iload 8, 2) := by decide +kernel
theorem dX6_brush_77 : decode cX6_brush 77 = .ok (.iload 8, 2) := by decide +kernel
theorem dX6_brush_79 : decode cX6_brush 79 = .ok (.imul, 1) := by decide +kernel
theorem dX6_brush_80 : decode cX6_brush 80 = .ok (.iadd, 1) := by decide +kernel
theorem dX6_brush_81 : decode cX6_brush 81 = .ok (.iload_n 3, 1) := by decide +kernel
theorem dX6_brush_82 : decode cX6_brush 82 = .ok (.iload_n 3, 1) := by decide +kernel
theorem dX6_brush_83 : decode cX6_brush 83 = .ok (.imul, 1) := by decide +kernel
theorem dX6_brush_84 : decode cX6_brush 84 = .ok (.if_icmp .gt 18, 3) := by decide +kernel
theorem dX6_brush_87 : decode cX6_brush 87 = .ok (.aload_n 0, 1) := by decide +kernel
theorem dX6_brush_88 : decode cX6_brush 88 = .ok (.iload 6, 2) := by decide +kernel
theorem dX6_brush_90 : decode cX6_brush 90 = .ok (.iload 4, 2) := by decide +kernel
theorem dX6_brush_92 : decode cX6_brush 92 = .ok (.invokevirtual 125, 3) := by decide +kernel
theorem dX6_brush_95 : decode cX6_brush 95 = .ok (.ifCond .eq 7, 3) := by decide +kernel
theorem dX6_brush_98 : decode cX6_brush 98 = .ok (.iconst 1, 1) := by decide +kernel
theorem dX6_brush_99 : decode cX6_brush 99 = .ok (.goto 4, 3) := by decide +kernel
theorem dX6_brush_102 : decode cX6_brush 102 = .ok (.iconst 0, 1) := by decide +kernel
theorem dX6_brush_103 : decode cX6_brush 103 = .ok (.iadd, 1) := by decide +kernel
theorem dX6_brush_104 : decode cX6_brush 104 = .ok (.istore 5, 2) := by decide +kernel
theorem dX6_brush_106 : decode cX6_brush 106 = .ok (.iinc 6 1, 3) := by decide +kernel
theorem dX6_brush_109 : decode cX6_brush 109 = .ok (.goto (-76), 3) := by decide +kernel
theorem dX6_brush_112 : decode cX6_brush 112 = .ok (.iload 5, 2) := by decide +kernel
theorem dX6_brush_114 : decode cX6_brush 114 = .ok (.ireturn, 1) := by decide +kernel
theorem dX6_smooth_0 : decode cX6_smooth 0 = .ok (.iload_n 1, 1) := by decide +kernel
theorem dX6_smooth_1 : decode cX6_smooth 1 = .ok (.iconst 1, 1) := by decide +kernel
theorem dX6_smooth_2 : decode cX6_smooth 2 = .ok (.bipush 9, 2) := by decide +kernel
theorem dX6_smooth_4 : decode cX6_smooth 4 = .ok (.invokestatic 61, 3) := by decide +kernel
theorem dX6_smooth_7 : decode cX6_smooth 7 = .ok (.ifCond .ne 6, 3) := by decide +kernel
theorem dX6_smooth_10 : decode cX6_smooth 10 = .ok (.bipush (-2), 2) := by decide +kernel
theorem dX6_smooth_12 : decode cX6_smooth 12 = .ok (.ireturn, 1) := by decide +kernel
theorem dX6_smooth_13 : decode cX6_smooth 13 = .ok (.aload_n 0, 1) := by decide +kernel
theorem dX6_smooth_14 : decode cX6_smooth 14 = .ok (.invokevirtual 77, 3) := by decide +kernel
theorem dX6_smooth_17 : decode cX6_smooth 17 = .ok (.iconst 0, 1) := by decide +kernel
theorem dX6_smooth_18 : decode cX6_smooth 18 = .ok (.istore_n 2, 1) := by decide +kernel
theorem dX6_smooth_19 : decode cX6_smooth 19 = .ok (.iload_n 2, 1) := by decide +kernel
theorem dX6_smooth_20 : decode cX6_smooth 20 = .ok (.aload_n 0, 1) := by decide +kernel
theorem dX6_smooth_21 : decode cX6_smooth 21 = .ok (.invokevirtual 116, 3) := by decide +kernel
theorem dX6_smooth_24 : decode cX6_smooth 24 = .ok (.if_icmp .ge 47, 3) := by decide +kernel
theorem dX6_smooth_27 : decode cX6_smooth 27 = .ok (.aload_n 0, 1) := by decide +kernel
theorem dX6_smooth_28 : decode cX6_smooth 28 = .ok (.getfield 38, 3) := by decide +kernel
theorem dX6_smooth_31 : decode cX6_smooth 31 = .ok (.iload_n 2, 1) := by decide +kernel
theorem dX6_smooth_32 : decode cX6_smooth 32 = .ok (.aload_n 0, 1) := by decide +kernel
theorem dX6_smooth_33 : decode cX6_smooth 33 = .ok (.iload_n 2, 1) := by decide +kernel
theorem dX6_smooth_34 : decode cX6_smooth 34 = .ok (.aload_n 0, 1) := by decide +kernel
theorem dX6_smooth_35 : decode cX6_smooth 35 = .ok (.getfield 7, 3) := by decide +kernel
theorem dX6_smooth_38 : decode cX6_smooth 38 = .ok (.iconst 1, 1) := by decide +kernel
theorem dX6_smooth_39 : decode cX6_smooth 39 = .ok (.iaload, 1) := by decide +kernel
theorem dX6_smooth_40 : decode cX6_smooth 40 = .ok (.idiv, 1) := by decide +kernel
theorem dX6_smooth_41 : decode cX6_smooth 41 = .ok (.iload_n 2, 1) := by decide +kernel
theorem dX6_smooth_42 : decode cX6_smooth 42 = .ok (.aload_n 0, 1) := by decide +kernel
theorem dX6_smooth_43 : decode cX6_smooth 43 = .ok (.getfield 7, 3) := by decide +kernel
theorem dX6_smooth_46 : decode cX6_smooth 46 = .ok (.iconst 1, 1) := by decide +kernel
theorem dX6_smooth_47 : decode cX6_smooth 47 = .ok (.iaload, 1) := by decide +kernel
theorem dX6_smooth_48 : decode cX6_smooth 48 = .ok (.irem, 1) := by decide +kernel
theorem dX6_smooth_49 : decode cX6_smooth 49 = .ok (.invokevirtual 104, 3) := by decide +kernel
theorem dX6_smooth_52 : decode cX6_smooth 52 = .ok (.invokestatic 113, 3) := by decide +kernel
theorem dX6_smooth_55 : decode cX6_smooth 55 = .ok (.aload_n 0, 1) := by decide +kernel
theorem dX6_smooth_56 : decode cX6_smooth 56 = .ok (.getfield 7, 3) := by decide +kernel
theorem dX6_smooth_59 : decode cX6_smooth 59 = .ok (.iconst 3, 1) := by decide +kernel
theorem dX6_smooth_60 : decode cX6_smooth 60 = .ok (.iload_n 2, 1) := by decide +kernel
theorem dX6_smooth_61 : decode cX6_smooth 61 = .ok (.iadd, 1) := by decide +kernel
theorem dX6_smooth_62 : decode cX6_smooth 62 = .ok (.iaload, 1) := by decide +kernel
theorem dX6_smooth_63 : decode cX6_smooth 63 = .ok (.iadd, 1) := by decide +kernel
theorem dX6_smooth_64 : decode cX6_smooth 64 = .ok (.iastore, 1) := by decide +kernel
theorem dX6_smooth_65 : decode cX6_smooth 65 = .ok (.iinc 2 1, 3) := by decide +kernel
theorem dX6_smooth_68 : decode cX6_smooth 68 = .ok (.goto (-49), 3) := by decide +kernel
theorem dX6_smooth_71 : decode cX6_smooth 71 = .ok (.iconst 0, 1) := by decide +kernel
theorem dX6_smooth_72 : decode cX6_smooth 72 = .ok (.istore_n 2, 1) := by decide +kernel
theorem dX6_smooth_73 : decode cX6_smooth 73 = .ok (.iconst 0, 1) := by decide +kernel
theorem dX6_smooth_74 : decode cX6_smooth 74 = .ok (.istore_n 3, 1) := by decide +kernel
theorem dX6_smooth_75 : decode cX6_smooth 75 = .ok (.iload_n 3, 1) := by decide +kernel
theorem dX6_smooth_76 : decode cX6_smooth 76 = .ok (.aload_n 0, 1) := by decide +kernel
theorem dX6_smooth_77 : decode cX6_smooth 77 = .ok (.invokevirtual 116, 3) := by decide +kernel
theorem dX6_smooth_80 : decode cX6_smooth 80 = .ok (.if_icmp .ge 40, 3) := by decide +kernel
theorem dX6_smooth_83 : decode cX6_smooth 83 = .ok (.iload_n 2, 1) := by decide +kernel
theorem dX6_smooth_84 : decode cX6_smooth 84 = .ok (.aload_n 0, 1) := by decide +kernel
theorem dX6_smooth_85 : decode cX6_smooth 85 = .ok (.iload_n 3, 1) := by decide +kernel
theorem dX6_smooth_86 : decode cX6_smooth 86 = .ok (.aload_n 0, 1) := by decide +kernel
theorem dX6_smooth_87 : decode cX6_smooth 87 = .ok (.getfield 38, 3) := by decide +kernel
theorem dX6_smooth_90 : decode cX6_smooth 90 = .ok (.iload_n 3, 1) := by decide +kernel
theorem dX6_smooth_91 : decode cX6_smooth 91 = .ok (.iaload, 1) := by decide +kernel
theorem dX6_smooth_92 : decode cX6_smooth 92 = .ok (.iload_n 1, 1) := by decide +kernel
theorem dX6_smooth_93 : decode cX6_smooth 93 = .ok (.if_icmp .lt 7, 3) := by decide +kernel
theorem dX6_smooth_96 : decode cX6_smooth 96 = .ok (.iconst 1, 1) := by decide +kernel
theorem dX6_smooth_97 : decode cX6_smooth 97 = .ok (.goto 4, 3) := by decide +kernel
theorem dX6_smooth_100 : decode cX6_smooth 100 = .ok (.iconst 0, 1) := by decide +kernel
theorem dX6_smooth_101 : decode cX6_smooth 101 = .ok (.invokevirtual 125, 3) := by decide +kernel
theorem dX6_smooth_104 : decode cX6_smooth 104 = .ok (.ifCond .eq 7, 3) := by decide +kernel
theorem dX6_smooth_107 : decode cX6_smooth 107 = .ok (.iconst 1, 1) := by decide +kernel
theorem dX6_smooth_108 : decode cX6_smooth 108 = .ok (.goto 4, 3) := by decide +kernel
theorem dX6_smooth_111 : decode cX6_smooth 111 = .ok (.iconst 0, 1) := by decide +kernel
theorem dX6_smooth_112 : decode cX6_smooth 112 = .ok (.iadd, 1) := by decide +kernel
theorem dX6_smooth_113 : decode cX6_smooth 113 = .ok (.istore_n 2, 1) := by decide +kernel
theorem dX6_smooth_114 : decode cX6_smooth 114 = .ok (.iinc 3 1, 3) := by decide +kernel
theorem dX6_smooth_117 : decode cX6_smooth 117 = .ok (.goto (-42), 3) := by decide +kernel
theorem dX6_smooth_120 : decode cX6_smooth 120 = .ok (.iload_n 2, 1) := by decide +kernel
theorem dX6_smooth_121 : decode cX6_smooth 121 = .ok (.ireturn, 1) := by decide +kernel
theorem dX6_turnedBy_0 : decode cX6_turnedBy 0 = .ok (.aload_n 0, 1) := by decide +kernel
theorem dX6_turnedBy_1 : decode cX6_turnedBy 1 = .ok (.getfield 23, 3) := by decide +kernel
theorem dX6_turnedBy_4 : decode cX6_turnedBy 4 = .ok (.iload_n 1, 1) := by decide +kernel
theorem dX6_turnedBy_5 : decode cX6_turnedBy 5 = .ok (.iaload, 1) := by decide +kernel
theorem dX6_turnedBy_6 : decode cX6_turnedBy 6 = .ok (.iconst 2, 1) := by decide +kernel
theorem dX6_turnedBy_7 : decode cX6_turnedBy 7 = .ok (.iload_n 2, 1) := by decide +kernel
theorem dX6_turnedBy_8 : decode cX6_turnedBy 8 = .ok (.imul, 1) := by decide +kernel
theorem dX6_turnedBy_9 : decode cX6_turnedBy 9 = .ok (.ishl, 1) := by decide +kernel
theorem dX6_turnedBy_10 : decode cX6_turnedBy 10 = .ok (.istore_n 3, 1) := by decide +kernel
theorem dX6_turnedBy_11 : decode cX6_turnedBy 11 = .ok (.aload_n 0, 1) := by decide +kernel
theorem dX6_turnedBy_12 : decode cX6_turnedBy 12 = .ok (.getfield 26, 3) := by decide +kernel
theorem dX6_turnedBy_15 : decode cX6_turnedBy 15 = .ok (.iload_n 3, 1) := by decide +kernel
theorem dX6_turnedBy_16 : decode cX6_turnedBy 16 = .ok (.sipush 255, 3) := by decide +kernel
theorem dX6_turnedBy_19 : decode cX6_turnedBy 19 = .ok (.iand, 1) := by decide +kernel
theorem dX6_turnedBy_20 : decode cX6_turnedBy 20 = .ok (.iload_n 3, 1) := by decide +kernel
theorem dX6_turnedBy_21 : decode cX6_turnedBy 21 = .ok (.bipush 8, 2) := by decide +kernel
theorem dX6_turnedBy_23 : decode cX6_turnedBy 23 = .ok (.ishr, 1) := by decide +kernel
theorem dX6_turnedBy_24 : decode cX6_turnedBy 24 = .ok (.ior, 1) := by decide +kernel
theorem dX6_turnedBy_25 : decode cX6_turnedBy 25 = .ok (.iaload, 1) := by decide +kernel
theorem dX6_turnedBy_26 : decode cX6_turnedBy 26 = .ok (.ireturn, 1) := by decide +kernel
theorem dX6_turnOnce_0 : decode cX6_turnOnce 0 = .ok (.aload_n 0, 1) := by decide +kernel
theorem dX6_turnOnce_1 : decode cX6_turnOnce 1 = .ok (.getfield 7, 3) := by decide +kernel
theorem dX6_turnOnce_4 : decode cX6_turnOnce 4 = .ok (.iconst 0, 1) := by decide +kernel
theorem dX6_turnOnce_5 : decode cX6_turnOnce 5 = .ok (.iaload, 1) := by decide +kernel
theorem dX6_turnOnce_6 : decode cX6_turnOnce 6 = .ok (.istore_n 1, 1) := by decide +kernel
theorem dX6_turnOnce_7 : decode cX6_turnOnce 7 = .ok (.aload_n 0, 1) := by decide +kernel
theorem dX6_turnOnce_8 : decode cX6_turnOnce 8 = .ok (.getfield 7, 3) := by decide +kernel
theorem dX6_turnOnce_11 : decode cX6_turnOnce 11 = .ok (.iconst 1, 1) := by decide +kernel
theorem dX6_turnOnce_12 : decode cX6_turnOnce 12 = .ok (.iaload, 1) := by decide +kernel
theorem dX6_turnOnce_13 : decode cX6_turnOnce 13 = .ok (.istore_n 2, 1) := by decide +kernel
theorem dX6_turnOnce_14 : decode cX6_turnOnce 14 = .ok (.iconst 0, 1) := by decide +kernel
theorem dX6_turnOnce_15 : decode cX6_turnOnce 15 = .ok (.istore_n 3, 1) := by decide +kernel
theorem dX6_turnOnce_16 : decode cX6_turnOnce 16 = .ok (.iload_n 3, 1) := by decide +kernel
theorem dX6_turnOnce_17 : decode cX6_turnOnce 17 = .ok (.iload_n 1, 1) := by decide +kernel
theorem dX6_turnOnce_18 : decode cX6_turnOnce 18 = .ok (.iload_n 2, 1) := by decide +kernel
theorem dX6_turnOnce_19 : decode cX6_turnOnce 19 = .ok (.imul, 1) := by decide +kernel
theorem dX6_turnOnce_20 : decode cX6_turnOnce 20 = .ok (.if_icmp .ge 81, 3) := by decide +kernel
theorem dX6_turnOnce_23 : decode cX6_turnOnce 23 = .ok (.iload_n 1, 1) := by decide +kernel
theorem dX6_turnOnce_24 : decode cX6_turnOnce 24 = .ok (.iload_n 3, 1) := by decide +kernel
theorem dX6_turnOnce_25 : decode cX6_turnOnce 25 = .ok (.iload_n 2, 1) := by decide +kernel
theorem dX6_turnOnce_26 : decode cX6_turnOnce 26 = .ok (.irem, 1) := by decide +kernel
theorem dX6_turnOnce_27 : decode cX6_turnOnce 27 = .ok (.imul, 1) := by decide +kernel
theorem dX6_turnOnce_28 : decode cX6_turnOnce 28 = .ok (.iload_n 1, 1) := by decide +kernel
theorem dX6_turnOnce_29 : decode cX6_turnOnce 29 = .ok (.iadd, 1) := by decide +kernel
theorem dX6_turnOnce_30 : decode cX6_turnOnce 30 = .ok (.iconst 1, 1) := by decide +kernel
theorem dX6_turnOnce_31 : decode cX6_turnOnce 31 = .ok (.isub, 1) := by decide +kernel
theorem dX6_turnOnce_32 : decode cX6_turnOnce 32 = .ok (.iload_n 3, 1) := by decide +kernel
theorem dX6_turnOnce_33 : decode cX6_turnOnce 33 = .ok (.iload_n 2, 1) := by decide +kernel
theorem dX6_turnOnce_34 : decode cX6_turnOnce 34 = .ok (.idiv, 1) := by decide +kernel
theorem dX6_turnOnce_35 : decode cX6_turnOnce 35 = .ok (.isub, 1) := by decide +kernel
theorem dX6_turnOnce_36 : decode cX6_turnOnce 36 = .ok (.istore 4, 2) := by decide +kernel
theorem dX6_turnOnce_38 : decode cX6_turnOnce 38 = .ok (.aload_n 0, 1) := by decide +kernel
theorem dX6_turnOnce_39 : decode cX6_turnOnce 39 = .ok (.getfield 41, 3) := by decide +kernel
theorem dX6_turnOnce_42 : decode cX6_turnOnce 42 = .ok (.iload 4, 2) := by decide +kernel
theorem dX6_turnOnce_44 : decode cX6_turnOnce 44 = .ok (.aload_n 0, 1) := by decide +kernel
theorem dX6_turnOnce_45 : decode cX6_turnOnce 45 = .ok (.getfield 7, 3) := by decide +kernel
theorem dX6_turnOnce_48 : decode cX6_turnOnce 48 = .ok (.iconst 3, 1) := by decide +kernel
theorem dX6_turnOnce_49 : decode cX6_turnOnce 49 = .ok (.iload_n 3, 1) := by decide +kernel
theorem dX6_turnOnce_50 : decode cX6_turnOnce 50 = .ok (.iadd, 1) := by decide +kernel
theorem dX6_turnOnce_51 : decode cX6_turnOnce 51 = .ok (.iaload, 1) := by decide +kernel
theorem dX6_turnOnce_52 : decode cX6_turnOnce 52 = .ok (.iastore, 1) := by decide +kernel
theorem dX6_turnOnce_53 : decode cX6_turnOnce 53 = .ok (.aload_n 0, 1) := by decide +kernel
theorem dX6_turnOnce_54 : decode cX6_turnOnce 54 = .ok (.getfield 44, 3) := by decide +kernel
theorem dX6_turnOnce_57 : decode cX6_turnOnce 57 = .ok (.iload 4, 2) := by decide +kernel
theorem dX6_turnOnce_59 : decode cX6_turnOnce 59 = .ok (.aload_n 0, 1) := by decide +kernel
theorem dX6_turnOnce_60 : decode cX6_turnOnce 60 = .ok (.getfield 7, 3) := by decide +kernel
theorem dX6_turnOnce_63 : decode cX6_turnOnce 63 = .ok (.sipush 147, 3) := by decide +kernel
theorem dX6_turnOnce_66 : decode cX6_turnOnce 66 = .ok (.iload_n 3, 1) := by decide +kernel
theorem dX6_turnOnce_67 : decode cX6_turnOnce 67 = .ok (.iadd, 1) := by decide +kernel
theorem dX6_turnOnce_68 : decode cX6_turnOnce 68 = .ok (.iaload, 1) := by decide +kernel
theorem dX6_turnOnce_69 : decode cX6_turnOnce 69 = .ok (.bipush (-6), 2) := by decide +kernel
theorem dX6_turnOnce_71 : decode cX6_turnOnce 71 = .ok (.if_icmp .ne 8, 3) := by decide +kernel
theorem dX6_turnOnce_74 : decode cX6_turnOnce 74 = .ok (.bipush (-6), 2) := by decide +kernel
theorem dX6_turnOnce_76 : decode cX6_turnOnce 76 = .ok (.goto 18, 3) := by decide +kernel
theorem dX6_turnOnce_79 : decode cX6_turnOnce 79 = .ok (.aload_n 0, 1) := by decide +kernel
theorem dX6_turnOnce_80 : decode cX6_turnOnce 80 = .ok (.aload_n 0, 1) := by decide +kernel
theorem dX6_turnOnce_81 : decode cX6_turnOnce 81 = .ok (.getfield 7, 3) := by decide +kernel
theorem dX6_turnOnce_84 : decode cX6_turnOnce 84 = .ok (.sipush 147, 3) := by decide +kernel
theorem dX6_turnOnce_87 : decode cX6_turnOnce 87 = .ok (.iload_n 3, 1) := by decide +kernel
theorem dX6_turnOnce_88 : decode cX6_turnOnce 88 = .ok (.iadd, 1) := by decide +kernel
theorem dX6_turnOnce_89 : decode cX6_turnOnce 89 = .ok (.iaload, 1) := by decide +kernel
theorem dX6_turnOnce_90 : decode cX6_turnOnce 90 = .ok (.iconst 1, 1) := by decide +kernel
theorem dX6_turnOnce_91 : decode cX6_turnOnce 91 = .ok (.invokevirtual 136, 3) := by decide +kernel
theorem dX6_turnOnce_94 : decode cX6_turnOnce 94 = .ok (.iastore, 1) := by decide +kernel
theorem dX6_turnOnce_95 : decode cX6_turnOnce 95 = .ok (.iinc 3 1, 3) := by decide +kernel
theorem dX6_turnOnce_98 : decode cX6_turnOnce 98 = .ok (.goto (-82), 3) := by decide +kernel
theorem dX6_turnOnce_101 : decode cX6_turnOnce 101 = .ok (.aload_n 0, 1) := by decide +kernel
theorem dX6_turnOnce_102 : decode cX6_turnOnce 102 = .ok (.getfield 7, 3) := by decide +kernel
theorem dX6_turnOnce_105 : decode cX6_turnOnce 105 = .ok (.iconst 0, 1) := by decide +kernel
theorem dX6_turnOnce_106 : decode cX6_turnOnce 106 = .ok (.iload_n 2, 1) := by decide +kernel
theorem dX6_turnOnce_107 : decode cX6_turnOnce 107 = .ok (.iastore, 1) := by decide +kernel
theorem dX6_turnOnce_108 : decode cX6_turnOnce 108 = .ok (.aload_n 0, 1) := by decide +kernel
theorem dX6_turnOnce_109 : decode cX6_turnOnce 109 = .ok (.getfield 7, 3) := by decide +kernel
theorem dX6_turnOnce_112 : decode cX6_turnOnce 112 = .ok (.iconst 1, 1) := by decide +kernel
theorem dX6_turnOnce_113 : decode cX6_turnOnce 113 = .ok (.iload_n 1, 1) := by decide +kernel
theorem dX6_turnOnce_114 : decode cX6_turnOnce 114 = .ok (.iastore, 1) := by decide +kernel
theorem dX6_turnOnce_115 : decode cX6_turnOnce 115 = .ok (.iconst 0, 1) := by decide +kernel
theorem dX6_turnOnce_116 : decode cX6_turnOnce 116 = .ok (.istore_n 3, 1) := by decide +kernel
theorem dX6_turnOnce_117 : decode cX6_turnOnce 117 = .ok (.iload_n 3, 1) := by decide +kernel
theorem dX6_turnOnce_118 : decode cX6_turnOnce 118 = .ok (.iload_n 1, 1) := by decide +kernel
theorem dX6_turnOnce_119 : decode cX6_turnOnce 119 = .ok (.iload_n 2, 1) := by decide +kernel
theorem dX6_turnOnce_120 : decode cX6_turnOnce 120 = .ok (.imul, 1) := by decide +kernel
theorem dX6_turnOnce_121 : decode cX6_turnOnce 121 = .ok (.if_icmp .ge 39, 3) := by decide +kernel
theorem dX6_turnOnce_124 : decode cX6_turnOnce 124 = .ok (.aload_n 0, 1) := by decide +kernel
theorem dX6_turnOnce_125 : decode cX6_turnOnce 125 = .ok (.getfield 7, 3) := by decide +kernel
theorem dX6_turnOnce_128 : decode cX6_turnOnce 128 = .ok (.iconst 3, 1) := by decide +kernel
theorem dX6_turnOnce_129 : decode cX6_turnOnce 129 = .ok (.iload_n 3, 1) := by decide +kernel
theorem dX6_turnOnce_130 : decode cX6_turnOnce 130 = .ok (.iadd, 1) := by decide +kernel
theorem dX6_turnOnce_131 : decode cX6_turnOnce 131 = .ok (.aload_n 0, 1) := by decide +kernel
theorem dX6_turnOnce_132 : decode cX6_turnOnce 132 = .ok (.getfield 41, 3) := by decide +kernel
theorem dX6_turnOnce_135 : decode cX6_turnOnce 135 = .ok (.iload_n 3, 1) := by decide +kernel
theorem dX6_turnOnce_136 : decode cX6_turnOnce 136 = .ok (.iaload, 1) := by decide +kernel
theorem dX6_turnOnce_137 : decode cX6_turnOnce 137 = .ok (.iastore, 1) := by decide +kernel
theorem dX6_turnOnce_138 : decode cX6_turnOnce 138 = .ok (.aload_n 0, 1) := by decide +kernel
theorem dX6_turnOnce_139 : decode cX6_turnOnce 139 = .ok (.getfield 7, 3) := by decide +kernel
theorem dX6_turnOnce_142 : decode cX6_turnOnce 142 = .ok (.sipush 147, 3) := by decide +kernel
theorem dX6_turnOnce_145 : decode cX6_turnOnce 145 = .ok (.iload_n 3, 1) := by decide +kernel
theorem dX6_turnOnce_146 : decode cX6_turnOnce 146 = .ok (.iadd, 1) := by decide +kernel
theorem dX6_turnOnce_147 : decode cX6_turnOnce 147 = .ok (.aload_n 0, 1) := by decide +kernel
theorem dX6_turnOnce_148 : decode cX6_turnOnce 148 = .ok (.getfield 44, 3) := by decide +kernel
theorem dX6_turnOnce_151 : decode cX6_turnOnce 151 = .ok (.iload_n 3, 1) := by decide +kernel
theorem dX6_turnOnce_152 : decode cX6_turnOnce 152 = .ok (.iaload, 1) := by decide +kernel
theorem dX6_turnOnce_153 : decode cX6_turnOnce 153 = .ok (.iastore, 1) := by decide +kernel
theorem dX6_turnOnce_154 : decode cX6_turnOnce 154 = .ok (.iinc 3 1, 3) := by decide +kernel
theorem dX6_turnOnce_157 : decode cX6_turnOnce 157 = .ok (.goto (-40), 3) := by decide +kernel
theorem dX6_turnOnce_160 : decode cX6_turnOnce 160 = .ok (.return_, 1) := by decide +kernel
theorem dX6_turn_0 : decode cX6_turn 0 = .ok (.iload_n 1, 1) := by decide +kernel
theorem dX6_turn_1 : decode cX6_turn 1 = .ok (.iconst 1, 1) := by decide +kernel
theorem dX6_turn_2 : decode cX6_turn 2 = .ok (.iconst 3, 1) := by decide +kernel
theorem dX6_turn_3 : decode cX6_turn 3 = .ok (.invokestatic 61, 3) := by decide +kernel
theorem dX6_turn_6 : decode cX6_turn 6 = .ok (.ifCond .ne 6, 3) := by decide +kernel
theorem dX6_turn_9 : decode cX6_turn 9 = .ok (.bipush (-2), 2) := by decide +kernel
theorem dX6_turn_11 : decode cX6_turn 11 = .ok (.ireturn, 1) := by decide +kernel
theorem dX6_turn_12 : decode cX6_turn 12 = .ok (.aload_n 0, 1) := by decide +kernel
theorem dX6_turn_13 : decode cX6_turn 13 = .ok (.invokevirtual 77, 3) := by decide +kernel
theorem dX6_turn_16 : decode cX6_turn 16 = .ok (.iconst 0, 1) := by decide +kernel
theorem dX6_turn_17 : decode cX6_turn 17 = .ok (.istore_n 2, 1) := by decide +kernel
theorem dX6_turn_18 : decode cX6_turn 18 = .ok (.iload_n 2, 1) := by decide +kernel
theorem dX6_turn_19 : decode cX6_turn 19 = .ok (.iload_n 1, 1) := by decide +kernel
theorem dX6_turn_20 : decode cX6_turn 20 = .ok (.if_icmp .ge 13, 3) := by decide +kernel
theorem dX6_turn_23 : decode cX6_turn 23 = .ok (.aload_n 0, 1) := by decide +kernel
theorem dX6_turn_24 : decode cX6_turn 24 = .ok (.invokevirtual 139, 3) := by decide +kernel
theorem dX6_turn_27 : decode cX6_turn 27 = .ok (.iinc 2 1, 3) := by decide +kernel
theorem dX6_turn_30 : decode cX6_turn 30 = .ok (.goto (-12), 3) := by decide +kernel
theorem dX6_turn_33 : decode cX6_turn 33 = .ok (.aload_n 0, 1) := by decide +kernel
theorem dX6_turn_34 : decode cX6_turn 34 = .ok (.getfield 7, 3) := by decide +kernel
theorem dX6_turn_37 : decode cX6_turn 37 = .ok (.iconst 0, 1) := by decide +kernel
theorem dX6_turn_38 : decode cX6_turn 38 = .ok (.iaload, 1) := by decide +kernel
theorem dX6_turn_39 : decode cX6_turn 39 = .ok (.ireturn, 1) := by decide +kernel
theorem dX6_rows_0 : decode cX6_rows 0 = .ok (.aload_n 0, 1) := by decide +kernel
theorem dX6_rows_1 : decode cX6_rows 1 = .ok (.getfield 7, 3) := by decide +kernel
theorem dX6_rows_4 : decode cX6_rows 4 = .ok (.iconst 0, 1) := by decide +kernel
theorem dX6_rows_5 : decode cX6_rows 5 = .ok (.iaload, 1) := by decide +kernel
theorem dX6_rows_6 : decode cX6_rows 6 = .ok (.ireturn, 1) := by decide +kernel
theorem dX6_columns_0 : decode cX6_columns 0 = .ok (.aload_n 0, 1) := by decide +kernel
theorem dX6_columns_1 : decode cX6_columns 1 = .ok (.getfield 7, 3) := by decide +kernel
theorem dX6_columns_4 : decode cX6_columns 4 = .ok (.iconst 1, 1) := by decide +kernel
theorem dX6_columns_5 : decode cX6_columns 5 = .ok (.iaload, 1) := by decide +kernel
theorem dX6_columns_6 : decode cX6_columns 6 = .ok (.ireturn, 1) := by decide +kernel
theorem dX6_tile_0 : decode cX6_tile 0 = .ok (.aload_n 0, 1) := by decide +kernel
theorem dX6_tile_1 : decode cX6_tile 1 = .ok (.iload_n 1, 1) := by decide +kernel
theorem dX6_tile_2 : decode cX6_tile 2 = .ok (.iload_n 2, 1) := by decide +kernel
theorem dX6_tile_3 : decode cX6_tile 3 = .ok (.invokevirtual 90, 3) := by decide +kernel
theorem dX6_tile_6 : decode cX6_tile 6 = .ok (.ifCond .ne 5, 3) := by decide +kernel
theorem dX6_tile_9 : decode cX6_tile 9 = .ok (.iconst (-1), 1) := by decide +kernel
theorem dX6_tile_10 : decode cX6_tile 10 = .ok (.ireturn, 1) := by decide +kernel
theorem dX6_tile_11 : decode cX6_tile 11 = .ok (.aload_n 0, 1) := by decide +kernel
theorem dX6_tile_12 : decode cX6_tile 12 = .ok (.iload_n 1, 1) := by decide +kernel
theorem dX6_tile_13 : decode cX6_tile 13 = .ok (.iload_n 2, 1) := by decide +kernel
theorem dX6_tile_14 : decode cX6_tile 14 = .ok (.invokevirtual 94, 3) := by decide +kernel
theorem dX6_tile_17 : decode cX6_tile 17 = .ok (.istore 4, 2) := by decide +kernel
theorem dX6_tile_19 : decode cX6_tile 19 = .ok (.iload_n 3, 1) := by decide +kernel
theorem dX6_tile_20 : decode cX6_tile 20 = .ok (.tableswitch 100 0 5 #[40, 50, 57, 64, 71, 93], 40) := by decide +kernel
theorem dX6_tile_60 : decode cX6_tile 60 = .ok (.aload_n 0, 1) := by decide +kernel
theorem dX6_tile_61 : decode cX6_tile 61 = .ok (.getfield 7, 3) := by decide +kernel
theorem dX6_tile_64 : decode cX6_tile 64 = .ok (.iconst 3, 1) := by decide +kernel
theorem dX6_tile_65 : decode cX6_tile 65 = .ok (.iload 4, 2) := by decide +kernel
theorem dX6_tile_67 : decode cX6_tile 67 = .ok (.iadd, 1) := by decide +kernel
theorem dX6_tile_68 : decode cX6_tile 68 = .ok (.iaload, 1) := by decide +kernel
theorem dX6_tile_69 : decode cX6_tile 69 = .ok (.ireturn, 1) := by decide +kernel
theorem dX6_tile_70 : decode cX6_tile 70 = .ok (.aload_n 0, 1) := by decide +kernel
theorem dX6_tile_71 : decode cX6_tile 71 = .ok (.iload_n 1, 1) := by decide +kernel
theorem dX6_tile_72 : decode cX6_tile 72 = .ok (.iload_n 2, 1) := by decide +kernel
theorem dX6_tile_73 : decode cX6_tile 73 = .ok (.invokevirtual 104, 3) := by decide +kernel
theorem dX6_tile_76 : decode cX6_tile 76 = .ok (.ireturn, 1) := by decide +kernel
theorem dX6_tile_77 : decode cX6_tile 77 = .ok (.aload_n 0, 1) := by decide +kernel
theorem dX6_tile_78 : decode cX6_tile 78 = .ok (.iload 4, 2) := by decide +kernel
theorem dX6_tile_80 : decode cX6_tile 80 = .ok (.invokevirtual 107, 3) := by decide +kernel
theorem dX6_tile_83 : decode cX6_tile 83 = .ok (.ireturn, 1) := by decide +kernel
theorem dX6_tile_84 : decode cX6_tile 84 = .ok (.aload_n 0, 1) := by decide +kernel
theorem dX6_tile_85 : decode cX6_tile 85 = .ok (.iload 4, 2) := by decide +kernel
theorem dX6_tile_87 : decode cX6_tile 87 = .ok (.invokevirtual 110, 3) := by decide +kernel
theorem dX6_tile_90 : decode cX6_tile 90 = .ok (.ireturn, 1) := by decide +kernel
theorem dX6_tile_91 : decode cX6_tile 91 = .ok (.aload_n 0, 1) := by decide +kernel
theorem dX6_tile_92 : decode cX6_tile 92 = .ok (.getfield 7, 3) := by decide +kernel
theorem dX6_tile_95 : decode cX6_tile 95 = .ok (.sipush 147, 3) := by decide +kernel
theorem dX6_tile_98 : decode cX6_tile 98 = .ok (.iload 4, 2) := by decide +kernel
theorem dX6_tile_100 : decode cX6_tile 100 = .ok (.iadd, 1) := by decide +kernel
theorem dX6_tile_101 : decode cX6_tile 101 = .ok (.iaload, 1) := by decide +kernel
theorem dX6_tile_102 : decode cX6_tile 102 = .ok (.bipush (-6), 2) := by decide +kernel
theorem dX6_tile_104 : decode cX6_tile 104 = .ok (.if_icmp .ne 7, 3) := by decide +kernel
theorem dX6_tile_107 : decode cX6_tile 107 = .ok (.iconst 0, 1) := by decide +kernel
theorem dX6_tile_108 : decode cX6_tile 108 = .ok (.goto 4, 3) := by decide +kernel
theorem dX6_tile_111 : decode cX6_tile 111 = .ok (.iconst 1, 1) := by decide +kernel
theorem dX6_tile_112 : decode cX6_tile 112 = .ok (.ireturn, 1) := by decide +kernel
theorem dX6_tile_113 : decode cX6_tile 113 = .ok (.aload_n 0, 1) := by decide +kernel
theorem dX6_tile_114 : decode cX6_tile 114 = .ok (.iload 4, 2) := by decide +kernel
theorem dX6_tile_116 : decode cX6_tile 116 = .ok (.invokevirtual 142, 3) := by decide +kernel
theorem dX6_tile_119 : decode cX6_tile 119 = .ok (.ireturn, 1) := by decide +kernel
theorem dX6_tile_120 : decode cX6_tile 120 = .ok (.bipush (-2), 2) := by decide +kernel
theorem dX6_tile_122 : decode cX6_tile 122 = .ok (.ireturn, 1) := by decide +kernel
theorem dX6_isShape_0 : decode cX6_isShape 0 = .ok (.iload_n 0, 1) := by decide +kernel
theorem dX6_isShape_1 : decode cX6_isShape 1 = .ok (.iconst 0, 1) := by decide +kernel
theorem dX6_isShape_2 : decode cX6_isShape 2 = .ok (.bipush 46, 2) := by decide +kernel
theorem dX6_isShape_4 : decode cX6_isShape 4 = .ok (.invokestatic 61, 3) := by decide +kernel
theorem dX6_isShape_7 : decode cX6_isShape 7 = .ok (.ireturn, 1) := by decide +kernel
theorem dX6_pin_0 : decode cX6_pin 0 = .ok (.aload_n 0, 1) := by decide +kernel
theorem dX6_pin_1 : decode cX6_pin 1 = .ok (.iload_n 1, 1) := by decide +kernel
theorem dX6_pin_2 : decode cX6_pin 2 = .ok (.iload_n 2, 1) := by decide +kernel
theorem dX6_pin_3 : decode cX6_pin 3 = .ok (.invokevirtual 90, 3) := by decide +kernel
theorem dX6_pin_6 : decode cX6_pin 6 = .ok (.ifCond .eq 10, 3) := by decide +kernel
theorem dX6_pin_9 : decode cX6_pin 9 = .ok (.iload_n 3, 1) := by decide +kernel
theorem dX6_pin_10 : decode cX6_pin 10 = .ok (.invokestatic 145, 3) := by decide +kernel
theorem dX6_pin_13 : decode cX6_pin 13 = .ok (.ifCond .ne 5, 3) := by decide +kernel
theorem dX6_pin_16 : decode cX6_pin 16 = .ok (.iconst (-1), 1) := by decide +kernel
theorem dX6_pin_17 : decode cX6_pin 17 = .ok (.ireturn, 1) := by decide +kernel
theorem dX6_pin_18 : decode cX6_pin 18 = .ok (.aload_n 0, 1) := by decide +kernel
theorem dX6_pin_19 : decode cX6_pin 19 = .ok (.iload_n 1, 1) := by decide +kernel
theorem dX6_pin_20 : decode cX6_pin 20 = .ok (.iload_n 2, 1) := by decide +kernel
theorem dX6_pin_21 : decode cX6_pin 21 = .ok (.invokevirtual 94, 3) := by decide +kernel
theorem dX6_pin_24 : decode cX6_pin 24 = .ok (.istore 4, 2) := by decide +kernel
theorem dX6_pin_26 : decode cX6_pin 26 = .ok (.aload_n 0, 1) := by decide +kernel
theorem dX6_pin_27 : decode cX6_pin 27 = .ok (.iload 4, 2) := by decide +kernel
theorem dX6_pin_29 : decode cX6_pin 29 = .ok (.invokevirtual 97, 3) := by decide +kernel
theorem dX6_pin_32 : decode cX6_pin 32 = .ok (.ifCond .ne 6, 3) := by decide +kernel
theorem dX6_pin_35 : decode cX6_pin 35 = .ok (.bipush (-3), 2) := by decide +kernel
theorem dX6_pin_37 : decode cX6_pin 37 = .ok (.ireturn, 1) := by decide +kernel
theorem dX6_pin_38 : decode cX6_pin 38 = .ok (.aload_n 0, 1) := by decide +kernel
theorem dX6_pin_39 : decode cX6_pin 39 = .ok (.invokevirtual 77, 3) := by decide +kernel
theorem dX6_pin_42 : decode cX6_pin 42 = .ok (.aload_n 0, 1) := by decide +kernel
theorem dX6_pin_43 : decode cX6_pin 43 = .ok (.getfield 7, 3) := by decide +kernel
theorem dX6_pin_46 : decode cX6_pin 46 = .ok (.sipush 147, 3) := by decide +kernel
theorem dX6_pin_49 : decode cX6_pin 49 = .ok (.iload 4, 2) := by decide +kernel
theorem dX6_pin_51 : decode cX6_pin 51 = .ok (.iadd, 1) := by decide +kernel
theorem dX6_pin_52 : decode cX6_pin 52 = .ok (.iload_n 3, 1) := by decide +kernel
theorem dX6_pin_53 : decode cX6_pin 53 = .ok (.iastore, 1) := by decide +kernel
theorem dX6_pin_54 : decode cX6_pin 54 = .ok (.aload_n 0, 1) := by decide +kernel
theorem dX6_pin_55 : decode cX6_pin 55 = .ok (.iload 4, 2) := by decide +kernel
theorem dX6_pin_57 : decode cX6_pin 57 = .ok (.invokevirtual 142, 3) := by decide +kernel
theorem dX6_pin_60 : decode cX6_pin 60 = .ok (.ireturn, 1) := by decide +kernel
theorem dX6_unpin_0 : decode cX6_unpin 0 = .ok (.aload_n 0, 1) := by decide +kernel
theorem dX6_unpin_1 : decode cX6_unpin 1 = .ok (.iload_n 1, 1) := by decide +kernel
theorem dX6_unpin_2 : decode cX6_unpin 2 = .ok (.iload_n 2, 1) := by decide +kernel
theorem dX6_unpin_3 : decode cX6_unpin 3 = .ok (.invokevirtual 90, 3) := by decide +kernel
theorem dX6_unpin_6 : decode cX6_unpin 6 = .ok (.ifCond .ne 5, 3) := by decide +kernel
theorem dX6_unpin_9 : decode cX6_unpin 9 = .ok (.iconst (-1), 1) := by decide +kernel
theorem dX6_unpin_10 : decode cX6_unpin 10 = .ok (.ireturn, 1) := by decide +kernel
theorem dX6_unpin_11 : decode cX6_unpin 11 = .ok (.aload_n 0, 1) := by decide +kernel
theorem dX6_unpin_12 : decode cX6_unpin 12 = .ok (.getfield 7, 3) := by decide +kernel
theorem dX6_unpin_15 : decode cX6_unpin 15 = .ok (.sipush 147, 3) := by decide +kernel
theorem dX6_unpin_18 : decode cX6_unpin 18 = .ok (.aload_n 0, 1) := by decide +kernel
theorem dX6_unpin_19 : decode cX6_unpin 19 = .ok (.iload_n 1, 1) := by decide +kernel
theorem dX6_unpin_20 : decode cX6_unpin 20 = .ok (.iload_n 2, 1) := by decide +kernel
theorem dX6_unpin_21 : decode cX6_unpin 21 = .ok (.invokevirtual 94, 3) := by decide +kernel
theorem dX6_unpin_24 : decode cX6_unpin 24 = .ok (.iadd, 1) := by decide +kernel
theorem dX6_unpin_25 : decode cX6_unpin 25 = .ok (.iaload, 1) := by decide +kernel
theorem dX6_unpin_26 : decode cX6_unpin 26 = .ok (.istore_n 3, 1) := by decide +kernel
theorem dX6_unpin_27 : decode cX6_unpin 27 = .ok (.iload_n 3, 1) := by decide +kernel
theorem dX6_unpin_28 : decode cX6_unpin 28 = .ok (.bipush (-6), 2) := by decide +kernel
theorem dX6_unpin_30 : decode cX6_unpin 30 = .ok (.if_icmp .ne 6, 3) := by decide +kernel
theorem dX6_unpin_33 : decode cX6_unpin 33 = .ok (.bipush (-3), 2) := by decide +kernel
theorem dX6_unpin_35 : decode cX6_unpin 35 = .ok (.ireturn, 1) := by decide +kernel
theorem dX6_unpin_36 : decode cX6_unpin 36 = .ok (.aload_n 0, 1) := by decide +kernel
theorem dX6_unpin_37 : decode cX6_unpin 37 = .ok (.invokevirtual 77, 3) := by decide +kernel
theorem dX6_unpin_40 : decode cX6_unpin 40 = .ok (.aload_n 0, 1) := by decide +kernel
theorem dX6_unpin_41 : decode cX6_unpin 41 = .ok (.getfield 7, 3) := by decide +kernel
theorem dX6_unpin_44 : decode cX6_unpin 44 = .ok (.sipush 147, 3) := by decide +kernel
theorem dX6_unpin_47 : decode cX6_unpin 47 = .ok (.aload_n 0, 1) := by decide +kernel
theorem dX6_unpin_48 : decode cX6_unpin 48 = .ok (.iload_n 1, 1) := by decide +kernel
theorem dX6_unpin_49 : decode cX6_unpin 49 = .ok (.iload_n 2, 1) := by decide +kernel
theorem dX6_unpin_50 : decode cX6_unpin 50 = .ok (.invokevirtual 94, 3) := by decide +kernel
theorem dX6_unpin_53 : decode cX6_unpin 53 = .ok (.iadd, 1) := by decide +kernel
theorem dX6_unpin_54 : decode cX6_unpin 54 = .ok (.bipush (-6), 2) := by decide +kernel
theorem dX6_unpin_56 : decode cX6_unpin 56 = .ok (.iastore, 1) := by decide +kernel
theorem dX6_unpin_57 : decode cX6_unpin 57 = .ok (.iload_n 3, 1) := by decide +kernel
theorem dX6_unpin_58 : decode cX6_unpin 58 = .ok (.ireturn, 1) := by decide +kernel
theorem dX6_faults_0 : decode cX6_faults 0 = .ok (.iconst 0, 1) := by decide +kernel
theorem dX6_faults_1 : decode cX6_faults 1 = .ok (.istore_n 1, 1) := by decide +kernel
theorem dX6_faults_2 : decode cX6_faults 2 = .ok (.iconst 0, 1) := by decide +kernel
theorem dX6_faults_3 : decode cX6_faults 3 = .ok (.istore_n 2, 1) := by decide +kernel
theorem dX6_faults_4 : decode cX6_faults 4 = .ok (.iload_n 2, 1) := by decide +kernel
theorem dX6_faults_5 : decode cX6_faults 5 = .ok (.aload_n 0, 1) := by decide +kernel
theorem dX6_faults_6 : decode cX6_faults 6 = .ok (.invokevirtual 116, 3) := by decide +kernel
theorem dX6_faults_9 : decode cX6_faults 9 = .ok (.if_icmp .ge 17, 3) := by decide +kernel
theorem dX6_faults_12 : decode cX6_faults 12 = .ok (.iload_n 1, 1) := by decide +kernel
theorem dX6_faults_13 : decode cX6_faults 13 = .ok (.aload_n 0, 1) := by decide +kernel
theorem dX6_faults_14 : decode cX6_faults 14 = .ok (.iload_n 2, 1) := by decide +kernel
theorem dX6_faults_15 : decode cX6_faults 15 = .ok (.invokevirtual 142, 3) := by decide +kernel
theorem dX6_faults_18 : decode cX6_faults 18 = .ok (.iadd, 1) := by decide +kernel
theorem dX6_faults_19 : decode cX6_faults 19 = .ok (.istore_n 1, 1) := by decide +kernel
theorem dX6_faults_20 : decode cX6_faults 20 = .ok (.iinc 2 1, 3) := by decide +kernel
theorem dX6_faults_23 : decode cX6_faults 23 = .ok (.goto (-19), 3) := by decide +kernel
theorem dX6_faults_26 : decode cX6_faults 26 = .ok (.iload_n 1, 1) := by decide +kernel
theorem dX6_faults_27 : decode cX6_faults 27 = .ok (.ireturn, 1) := by decide +kernel
theorem dX6_told_0 : decode cX6_told 0 = .ok (.bipush 100, 2) := by decide +kernel
theorem dX6_told_2 : decode cX6_told 2 = .ok (.iload_n 1, 1) := by decide +kernel
theorem dX6_told_3 : decode cX6_told 3 = .ok (.aload_n 0, 1) := by decide +kernel
theorem dX6_told_4 : decode cX6_told 4 = .ok (.getfield 7, 3) := by decide +kernel
theorem dX6_told_7 : decode cX6_told 7 = .ok (.iconst 1, 1) := by decide +kernel
theorem dX6_told_8 : decode cX6_told 8 = .ok (.iaload, 1) := by decide +kernel
theorem dX6_told_9 : decode cX6_told 9 = .ok (.idiv, 1) := by decide +kernel
theorem dX6_told_10 : decode cX6_told 10 = .ok (.imul, 1) := by decide +kernel
theorem dX6_told_11 : decode cX6_told 11 = .ok (.iload_n 1, 1) := by decide +kernel
theorem dX6_told_12 : decode cX6_told 12 = .ok (.aload_n 0, 1) := by decide +kernel
theorem dX6_told_13 : decode cX6_told 13 = .ok (.getfield 7, 3) := by decide +kernel
theorem dX6_told_16 : decode cX6_told 16 = .ok (.iconst 1, 1) := by decide +kernel
theorem dX6_told_17 : decode cX6_told 17 = .ok (.iaload, 1) := by decide +kernel
theorem dX6_told_18 : decode cX6_told 18 = .ok (.irem, 1) := by decide +kernel
theorem dX6_told_19 : decode cX6_told 19 = .ok (.iadd, 1) := by decide +kernel
theorem dX6_told_20 : decode cX6_told 20 = .ok (.ireturn, 1) := by decide +kernel
theorem dX6_firstFault_0 : decode cX6_firstFault 0 = .ok (.iconst 0, 1) := by decide +kernel
theorem dX6_firstFault_1 : decode cX6_firstFault 1 = .ok (.istore_n 1, 1) := by decide +kernel
theorem dX6_firstFault_2 : decode cX6_firstFault 2 = .ok (.iload_n 1, 1) := by decide +kernel
theorem dX6_firstFault_3 : decode cX6_firstFault 3 = .ok (.aload_n 0, 1) := by decide +kernel
theorem dX6_firstFault_4 : decode cX6_firstFault 4 = .ok (.invokevirtual 116, 3) := by decide +kernel
theorem dX6_firstFault_7 : decode cX6_firstFault 7 = .ok (.if_icmp .ge 23, 3) := by decide +kernel
theorem dX6_firstFault_10 : decode cX6_firstFault 10 = .ok (.aload_n 0, 1) := by decide +kernel
theorem dX6_firstFault_11 : decode cX6_firstFault 11 = .ok (.iload_n 1, 1) := by decide +kernel
theorem dX6_firstFault_12 : decode cX6_firstFault 12 = .ok (.invokevirtual 142, 3) := by decide +kernel
theorem dX6_firstFault_15 : decode cX6_firstFault 15 = .ok (.ifCond .le 9, 3) := by decide +kernel
theorem dX6_firstFault_18 : decode cX6_firstFault 18 = .ok (.aload_n 0, 1) := by decide +kernel
theorem dX6_firstFault_19 : decode cX6_firstFault 19 = .ok (.iload_n 1, 1) := by decide +kernel
theorem dX6_firstFault_20 : decode cX6_firstFault 20 = .ok (.invokevirtual 148, 3) := by decide +kernel
theorem dX6_firstFault_23 : decode cX6_firstFault 23 = .ok (.ireturn, 1) := by decide +kernel
theorem dX6_firstFault_24 : decode cX6_firstFault 24 = .ok (.iinc 1 1, 3) := by decide +kernel
theorem dX6_firstFault_27 : decode cX6_firstFault 27 = .ok (.goto (-25), 3) := by decide +kernel
theorem dX6_firstFault_30 : decode cX6_firstFault 30 = .ok (.bipush (-6), 2) := by decide +kernel
theorem dX6_firstFault_32 : decode cX6_firstFault 32 = .ok (.ireturn, 1) := by decide +kernel
theorem dX6_maskOf_0 : decode cX6_maskOf 0 = .ok (.iload_n 1, 1) := by decide +kernel
theorem dX6_maskOf_1 : decode cX6_maskOf 1 = .ok (.invokestatic 145, 3) := by decide +kernel
theorem dX6_maskOf_4 : decode cX6_maskOf 4 = .ok (.ifCond .eq 12, 3) := by decide +kernel
theorem dX6_maskOf_7 : decode cX6_maskOf 7 = .ok (.aload_n 0, 1) := by decide +kernel
theorem dX6_maskOf_8 : decode cX6_maskOf 8 = .ok (.getfield 23, 3) := by decide +kernel
theorem dX6_maskOf_11 : decode cX6_maskOf 11 = .ok (.iload_n 1, 1) := by decide +kernel
theorem dX6_maskOf_12 : decode cX6_maskOf 12 = .ok (.iaload, 1) := by decide +kernel
theorem dX6_maskOf_13 : decode cX6_maskOf 13 = .ok (.goto 4, 3) := by decide +kernel
theorem dX6_maskOf_16 : decode cX6_maskOf 16 = .ok (.iconst (-1), 1) := by decide +kernel
theorem dX6_maskOf_17 : decode cX6_maskOf 17 = .ok (.ireturn, 1) := by decide +kernel
theorem dX6_shapeOf_0 : decode cX6_shapeOf 0 = .ok (.iload_n 1, 1) := by decide +kernel
theorem dX6_shapeOf_1 : decode cX6_shapeOf 1 = .ok (.iconst 0, 1) := by decide +kernel
theorem dX6_shapeOf_2 : decode cX6_shapeOf 2 = .ok (.sipush 255, 3) := by decide +kernel
theorem dX6_shapeOf_5 : decode cX6_shapeOf 5 = .ok (.invokestatic 61, 3) := by decide +kernel
theorem dX6_shapeOf_8 : decode cX6_shapeOf 8 = .ok (.ifCond .eq 12, 3) := by decide +kernel
theorem dX6_shapeOf_11 : decode cX6_shapeOf 11 = .ok (.aload_n 0, 1) := by decide +kernel
theorem dX6_shapeOf_12 : decode cX6_shapeOf 12 = .ok (.getfield 26, 3) := by decide +kernel
theorem dX6_shapeOf_15 : decode cX6_shapeOf 15 = .ok (.iload_n 1, 1) := by decide +kernel
theorem dX6_shapeOf_16 : decode cX6_shapeOf 16 = .ok (.iaload, 1) := by decide +kernel
theorem dX6_shapeOf_17 : decode cX6_shapeOf 17 = .ok (.goto 5, 3) := by decide +kernel
theorem dX6_shapeOf_20 : decode cX6_shapeOf 20 = .ok (.bipush (-2), 2) := by decide +kernel
theorem dX6_shapeOf_22 : decode cX6_shapeOf 22 = .ok (.ireturn, 1) := by decide +kernel
theorem dX6_turned_0 : decode cX6_turned 0 = .ok (.iload_n 1, 1) := by decide +kernel
theorem dX6_turned_1 : decode cX6_turned 1 = .ok (.invokestatic 145, 3) := by decide +kernel
theorem dX6_turned_4 : decode cX6_turned 4 = .ok (.ifCond .ne 5, 3) := by decide +kernel
theorem dX6_turned_7 : decode cX6_turned 7 = .ok (.iconst (-1), 1) := by decide +kernel
theorem dX6_turned_8 : decode cX6_turned 8 = .ok (.ireturn, 1) := by decide +kernel
theorem dX6_turned_9 : decode cX6_turned 9 = .ok (.iload_n 2, 1) := by decide +kernel
theorem dX6_turned_10 : decode cX6_turned 10 = .ok (.iconst 0, 1) := by decide +kernel
theorem dX6_turned_11 : decode cX6_turned 11 = .ok (.iconst 3, 1) := by decide +kernel
theorem dX6_turned_12 : decode cX6_turned 12 = .ok (.invokestatic 61, 3) := by decide +kernel
theorem dX6_turned_15 : decode cX6_turned 15 = .ok (.ifCond .eq 12, 3) := by decide +kernel
theorem dX6_turned_18 : decode cX6_turned 18 = .ok (.aload_n 0, 1) := by decide +kernel
theorem dX6_turned_19 : decode cX6_turned 19 = .ok (.iload_n 1, 1) := by decide +kernel
theorem dX6_turned_20 : decode cX6_turned 20 = .ok (.iload_n 2, 1) := by decide +kernel
theorem dX6_turned_21 : decode cX6_turned 21 = .ok (.invokevirtual 136, 3) := by decide +kernel
theorem dX6_turned_24 : decode cX6_turned 24 = .ok (.goto 5, 3) := by decide +kernel
theorem dX6_turned_27 : decode cX6_turned 27 = .ok (.bipush (-2), 2) := by decide +kernel
theorem dX6_turned_29 : decode cX6_turned 29 = .ok (.ireturn, 1) := by decide +kernel
theorem dX6_mirrored_0 : decode cX6_mirrored 0 = .ok (.iload_n 1, 1) := by decide +kernel
theorem dX6_mirrored_1 : decode cX6_mirrored 1 = .ok (.invokestatic 145, 3) := by decide +kernel
theorem dX6_mirrored_4 : decode cX6_mirrored 4 = .ok (.ifCond .ne 5, 3) := by decide +kernel
theorem dX6_mirrored_7 : decode cX6_mirrored 7 = .ok (.iconst (-1), 1) := by decide +kernel
theorem dX6_mirrored_8 : decode cX6_mirrored 8 = .ok (.ireturn, 1) := by decide +kernel
theorem dX6_mirrored_9 : decode cX6_mirrored 9 = .ok (.iconst 0, 1) := by decide +kernel
theorem dX6_mirrored_10 : decode cX6_mirrored 10 = .ok (.istore_n 2, 1) := by decide +kernel
theorem dX6_mirrored_11 : decode cX6_mirrored 11 = .ok (.iconst 0, 1) := by decide +kernel
theorem dX6_mirrored_12 : decode cX6_mirrored 12 = .ok (.istore_n 3, 1) := by decide +kernel
theorem dX6_mirrored_13 : decode cX6_mirrored 13 = .ok (.iload_n 3, 1) := by decide +kernel
theorem dX6_mirrored_14 : decode cX6_mirrored 14 = .ok (.bipush 8, 2) := by decide +kernel
theorem dX6_mirrored_16 : decode cX6_mirrored 16 = .ok (.if_icmp .ge 27, 3) := by decide +kernel
theorem dX6_mirrored_19 : decode cX6_mirrored 19 = .ok (.iload_n 2, 1) := by decide +kernel
theorem dX6_mirrored_20 : decode cX6_mirrored 20 = .ok (.aload_n 0, 1) := by decide +kernel
theorem dX6_mirrored_21 : decode cX6_mirrored 21 = .ok (.getfield 23, 3) := by decide +kernel
theorem dX6_mirrored_24 : decode cX6_mirrored 24 = .ok (.iload_n 1, 1) := by decide +kernel
theorem dX6_mirrored_25 : decode cX6_mirrored 25 = .ok (.iaload, 1) := by decide +kernel
theorem dX6_mirrored_26 : decode cX6_mirrored 26 = .ok (.bipush 8, 2) := by decide +kernel
theorem dX6_mirrored_28 : decode cX6_mirrored 28 = .ok (.iload_n 3, 1) := by decide +kernel
theorem dX6_mirrored_29 : decode cX6_mirrored 29 = .ok (.isub, 1) := by decide +kernel
theorem dX6_mirrored_30 : decode cX6_mirrored 30 = .ok (.invokestatic 80, 3) := by decide +kernel
theorem dX6_mirrored_33 : decode cX6_mirrored 33 = .ok (.iload_n 3, 1) := by decide +kernel
theorem dX6_mirrored_34 : decode cX6_mirrored 34 = .ok (.ishl, 1) := by decide +kernel
theorem dX6_mirrored_35 : decode cX6_mirrored 35 = .ok (.ior, 1) := by decide +kernel
theorem dX6_mirrored_36 : decode cX6_mirrored 36 = .ok (.istore_n 2, 1) := by decide +kernel
theorem dX6_mirrored_37 : decode cX6_mirrored 37 = .ok (.iinc 3 1, 3) := by decide +kernel
theorem dX6_mirrored_40 : decode cX6_mirrored 40 = .ok (.goto (-27), 3) := by decide +kernel
theorem dX6_mirrored_43 : decode cX6_mirrored 43 = .ok (.aload_n 0, 1) := by decide +kernel
theorem dX6_mirrored_44 : decode cX6_mirrored 44 = .ok (.getfield 26, 3) := by decide +kernel
theorem dX6_mirrored_47 : decode cX6_mirrored 47 = .ok (.iload_n 2, 1) := by decide +kernel
theorem dX6_mirrored_48 : decode cX6_mirrored 48 = .ok (.iaload, 1) := by decide +kernel
theorem dX6_mirrored_49 : decode cX6_mirrored 49 = .ok (.ireturn, 1) := by decide +kernel
theorem dX6_counted_0 : decode cX6_counted 0 = .ok (.iconst 0, 1) := by decide +kernel
theorem dX6_counted_1 : decode cX6_counted 1 = .ok (.istore_n 2, 1) := by decide +kernel
theorem dX6_counted_2 : decode cX6_counted 2 = .ok (.iconst 0, 1) := by decide +kernel
theorem dX6_counted_3 : decode cX6_counted 3 = .ok (.istore_n 3, 1) := by decide +kernel
theorem dX6_counted_4 : decode cX6_counted 4 = .ok (.iload_n 3, 1) := by decide +kernel
theorem dX6_counted_5 : decode cX6_counted 5 = .ok (.aload_n 0, 1) := by decide +kernel
theorem dX6_counted_6 : decode cX6_counted 6 = .ok (.invokevirtual 116, 3) := by decide +kernel
theorem dX6_counted_9 : decode cX6_counted 9 = .ok (.if_icmp .ge 26, 3) := by decide +kernel
theorem dX6_counted_12 : decode cX6_counted 12 = .ok (.iload_n 2, 1) := by decide +kernel
theorem dX6_counted_13 : decode cX6_counted 13 = .ok (.aload_n 0, 1) := by decide +kernel
theorem dX6_counted_14 : decode cX6_counted 14 = .ok (.iload_n 3, 1) := by decide +kernel
theorem dX6_counted_15 : decode cX6_counted 15 = .ok (.invokevirtual 110, 3) := by decide +kernel
theorem dX6_counted_18 : decode cX6_counted 18 = .ok (.iload_n 1, 1) := by decide +kernel
theorem dX6_counted_19 : decode cX6_counted 19 = .ok (.if_icmp .ne 7, 3) := by decide +kernel
theorem dX6_counted_22 : decode cX6_counted 22 = .ok (.iconst 1, 1) := by decide +kernel
theorem dX6_counted_23 : decode cX6_counted 23 = .ok (.goto 4, 3) := by decide +kernel
theorem dX6_counted_26 : decode cX6_counted 26 = .ok (.iconst 0, 1) := by decide +kernel
theorem dX6_counted_27 : decode cX6_counted 27 = .ok (.iadd, 1) := by decide +kernel
theorem dX6_counted_28 : decode cX6_counted 28 = .ok (.istore_n 2, 1) := by decide +kernel
theorem dX6_counted_29 : decode cX6_counted 29 = .ok (.iinc 3 1, 3) := by decide +kernel
theorem dX6_counted_32 : decode cX6_counted 32 = .ok (.goto (-28), 3) := by decide +kernel
theorem dX6_counted_35 : decode cX6_counted 35 = .ok (.iload_n 2, 1) := by decide +kernel
theorem dX6_counted_36 : decode cX6_counted 36 = .ok (.ireturn, 1) := by decide +kernel
theorem dX6_count_0 : decode cX6_count 0 = .ok (.iload_n 1, 1) := by decide +kernel
theorem dX6_count_1 : decode cX6_count 1 = .ok (.invokestatic 145, 3) := by decide +kernel
theorem dX6_count_4 : decode cX6_count 4 = .ok (.ifCond .eq 11, 3) := by decide +kernel
theorem dX6_count_7 : decode cX6_count 7 = .ok (.aload_n 0, 1) := by decide +kernel
theorem dX6_count_8 : decode cX6_count 8 = .ok (.iload_n 1, 1) := by decide +kernel
theorem dX6_count_9 : decode cX6_count 9 = .ok (.invokevirtual 151, 3) := by decide +kernel
theorem dX6_count_12 : decode cX6_count 12 = .ok (.goto 4, 3) := by decide +kernel
theorem dX6_count_15 : decode cX6_count 15 = .ok (.iconst (-1), 1) := by decide +kernel
theorem dX6_count_16 : decode cX6_count 16 = .ok (.ireturn, 1) := by decide +kernel
theorem dX6_shapes_0 : decode cX6_shapes 0 = .ok (.iconst 0, 1) := by decide +kernel
theorem dX6_shapes_1 : decode cX6_shapes 1 = .ok (.istore_n 1, 1) := by decide +kernel
theorem dX6_shapes_2 : decode cX6_shapes 2 = .ok (.iconst 0, 1) := by decide +kernel
theorem dX6_shapes_3 : decode cX6_shapes 3 = .ok (.istore_n 2, 1) := by decide +kernel
theorem dX6_shapes_4 : decode cX6_shapes 4 = .ok (.iload_n 2, 1) := by decide +kernel
theorem dX6_shapes_5 : decode cX6_shapes 5 = .ok (.bipush 47, 2) := by decide +kernel
theorem dX6_shapes_7 : decode cX6_shapes 7 = .ok (.if_icmp .ge 25, 3) := by decide +kernel
theorem dX6_shapes_10 : decode cX6_shapes 10 = .ok (.iload_n 1, 1) := by decide +kernel
theorem dX6_shapes_11 : decode cX6_shapes 11 = .ok (.aload_n 0, 1) := by decide +kernel
theorem dX6_shapes_12 : decode cX6_shapes 12 = .ok (.iload_n 2, 1) := by decide +kernel
theorem dX6_shapes_13 : decode cX6_shapes 13 = .ok (.invokevirtual 151, 3) := by decide +kernel
theorem dX6_shapes_16 : decode cX6_shapes 16 = .ok (.ifCond .le 7, 3) := by decide +kernel
theorem dX6_shapes_19 : decode cX6_shapes 19 = .ok (.iconst 1, 1) := by decide +kernel
theorem dX6_shapes_20 : decode cX6_shapes 20 = .ok (.goto 4, 3) := by decide +kernel
theorem dX6_shapes_23 : decode cX6_shapes 23 = .ok (.iconst 0, 1) := by decide +kernel
theorem dX6_shapes_24 : decode cX6_shapes 24 = .ok (.iadd, 1) := by decide +kernel
theorem dX6_shapes_25 : decode cX6_shapes 25 = .ok (.istore_n 1, 1) := by decide +kernel
theorem dX6_shapes_26 : decode cX6_shapes 26 = .ok (.iinc 2 1, 3) := by decide +kernel
theorem dX6_shapes_29 : decode cX6_shapes 29 = .ok (.goto (-25), 3) := by decide +kernel
theorem dX6_shapes_32 : decode cX6_shapes 32 = .ok (.iload_n 1, 1) := by decide +kernel
theorem dX6_shapes_33 : decode cX6_shapes 33 = .ok (.ireturn, 1) := by decide +kernel
theorem dX6_land_0 : decode cX6_land 0 = .ok (.iconst 0, 1) := by decide +kernel
theorem dX6_land_1 : decode cX6_land 1 = .ok (.istore_n 1, 1) := by decide +kernel
theorem dX6_land_2 : decode cX6_land 2 = .ok (.iconst 0, 1) := by decide +kernel
theorem dX6_land_3 : decode cX6_land 3 = .ok (.istore_n 2, 1) := by decide +kernel
theorem dX6_land_4 : decode cX6_land 4 = .ok (.iload_n 2, 1) := by decide +kernel
theorem dX6_land_5 : decode cX6_land 5 = .ok (.aload_n 0, 1) := by decide +kernel
theorem dX6_land_6 : decode cX6_land 6 = .ok (.invokevirtual 116, 3) := by decide +kernel
theorem dX6_land_9 : decode cX6_land 9 = .ok (.if_icmp .ge 20, 3) := by decide +kernel
theorem dX6_land_12 : decode cX6_land 12 = .ok (.iload_n 1, 1) := by decide +kernel
theorem dX6_land_13 : decode cX6_land 13 = .ok (.aload_n 0, 1) := by decide +kernel
theorem dX6_land_14 : decode cX6_land 14 = .ok (.getfield 7, 3) := by decide +kernel
theorem dX6_land_17 : decode cX6_land 17 = .ok (.iconst 3, 1) := by decide +kernel
theorem dX6_land_18 : decode cX6_land 18 = .ok (.iload_n 2, 1) := by decide +kernel
theorem dX6_land_19 : decode cX6_land 19 = .ok (.iadd, 1) := by decide +kernel
theorem dX6_land_20 : decode cX6_land 20 = .ok (.iaload, 1) := by decide +kernel
theorem dX6_land_21 : decode cX6_land 21 = .ok (.iadd, 1) := by decide +kernel
theorem dX6_land_22 : decode cX6_land 22 = .ok (.istore_n 1, 1) := by decide +kernel
theorem dX6_land_23 : decode cX6_land 23 = .ok (.iinc 2 1, 3) := by decide +kernel
theorem dX6_land_26 : decode cX6_land 26 = .ok (.goto (-22), 3) := by decide +kernel
theorem dX6_land_29 : decode cX6_land 29 = .ok (.iload_n 1, 1) := by decide +kernel
theorem dX6_land_30 : decode cX6_land 30 = .ok (.ireturn, 1) := by decide +kernel
theorem dX6_bitsOfFloat_0 : decode cX6_bitsOfFloat 0 = .ok (.fload_n 0, 1) := by decide +kernel
theorem dX6_bitsOfFloat_1 : decode cX6_bitsOfFloat 1 = .ok (.fconst 0, 1) := by decide +kernel
theorem dX6_bitsOfFloat_2 : decode cX6_bitsOfFloat 2 = .ok (.fcmp .l, 1) := by decide +kernel
theorem dX6_bitsOfFloat_3 : decode cX6_bitsOfFloat 3 = .ok (.ifCond .ne 5, 3) := by decide +kernel
theorem dX6_bitsOfFloat_6 : decode cX6_bitsOfFloat 6 = .ok (.iconst 0, 1) := by decide +kernel
theorem dX6_bitsOfFloat_7 : decode cX6_bitsOfFloat 7 = .ok (.ireturn, 1) := by decide +kernel
theorem dX6_bitsOfFloat_8 : decode cX6_bitsOfFloat 8 = .ok (.fload_n 0, 1) := by decide +kernel
theorem dX6_bitsOfFloat_9 : decode cX6_bitsOfFloat 9 = .ok (.fstore_n 1, 1) := by decide +kernel
theorem dX6_bitsOfFloat_10 : decode cX6_bitsOfFloat 10 = .ok (.bipush 127, 2) := by decide +kernel
theorem dX6_bitsOfFloat_12 : decode cX6_bitsOfFloat 12 = .ok (.istore_n 2, 1) := by decide +kernel
theorem dX6_bitsOfFloat_13 : decode cX6_bitsOfFloat 13 = .ok (.fload_n 1, 1) := by decide +kernel
theorem dX6_bitsOfFloat_14 : decode cX6_bitsOfFloat 14 = .ok (.fconst 1, 1) := by decide +kernel
theorem dX6_bitsOfFloat_15 : decode cX6_bitsOfFloat 15 = .ok (.fcmp .g, 1) := by decide +kernel
theorem dX6_bitsOfFloat_16 : decode cX6_bitsOfFloat 16 = .ok (.ifCond .ge 13, 3) := by decide +kernel
theorem dX6_bitsOfFloat_19 : decode cX6_bitsOfFloat 19 = .ok (.fload_n 1, 1) := by decide +kernel
theorem dX6_bitsOfFloat_20 : decode cX6_bitsOfFloat 20 = .ok (.fconst 2, 1) := by decide +kernel
theorem dX6_bitsOfFloat_21 : decode cX6_bitsOfFloat 21 = .ok (.fmul, 1) := by decide +kernel
theorem dX6_bitsOfFloat_22 : decode cX6_bitsOfFloat 22 = .ok (.fstore_n 1, 1) := by decide +kernel
theorem dX6_bitsOfFloat_23 : decode cX6_bitsOfFloat 23 = .ok (.iinc 2 (-1), 3) := by decide +kernel
theorem dX6_bitsOfFloat_26 : decode cX6_bitsOfFloat 26 = .ok (.goto (-13), 3) := by decide +kernel
theorem dX6_bitsOfFloat_29 : decode cX6_bitsOfFloat 29 = .ok (.iload_n 2, 1) := by decide +kernel
theorem dX6_bitsOfFloat_30 : decode cX6_bitsOfFloat 30 = .ok (.bipush 23, 2) := by decide +kernel
theorem dX6_bitsOfFloat_32 : decode cX6_bitsOfFloat 32 = .ok (.ishl, 1) := by decide +kernel
theorem dX6_bitsOfFloat_33 : decode cX6_bitsOfFloat 33 = .ok (.fload_n 1, 1) := by decide +kernel
theorem dX6_bitsOfFloat_34 : decode cX6_bitsOfFloat 34 = .ok (.ldc 154, 2) := by decide +kernel
theorem dX6_bitsOfFloat_36 : decode cX6_bitsOfFloat 36 = .ok (.fmul, 1) := by decide +kernel
theorem dX6_bitsOfFloat_37 : decode cX6_bitsOfFloat 37 = .ok (.f2i, 1) := by decide +kernel
theorem dX6_bitsOfFloat_38 : decode cX6_bitsOfFloat 38 = .ok (.iadd, 1) := by decide +kernel
theorem dX6_bitsOfFloat_39 : decode cX6_bitsOfFloat 39 = .ok (.ldc 155, 2) := by decide +kernel
theorem dX6_bitsOfFloat_41 : decode cX6_bitsOfFloat 41 = .ok (.isub, 1) := by decide +kernel
theorem dX6_bitsOfFloat_42 : decode cX6_bitsOfFloat 42 = .ok (.ireturn, 1) := by decide +kernel
theorem dX6_landShare_0 : decode cX6_landShare 0 = .ok (.aload_n 0, 1) := by decide +kernel
theorem dX6_landShare_1 : decode cX6_landShare 1 = .ok (.invokevirtual 73, 3) := by decide +kernel
theorem dX6_landShare_4 : decode cX6_landShare 4 = .ok (.i2f, 1) := by decide +kernel
theorem dX6_landShare_5 : decode cX6_landShare 5 = .ok (.aload_n 0, 1) := by decide +kernel
theorem dX6_landShare_6 : decode cX6_landShare 6 = .ok (.invokevirtual 116, 3) := by decide +kernel
theorem dX6_landShare_9 : decode cX6_landShare 9 = .ok (.i2f, 1) := by decide +kernel
theorem dX6_landShare_10 : decode cX6_landShare 10 = .ok (.fdiv, 1) := by decide +kernel
theorem dX6_landShare_11 : decode cX6_landShare 11 = .ok (.invokestatic 156, 3) := by decide +kernel
theorem dX6_landShare_14 : decode cX6_landShare 14 = .ok (.ireturn, 1) := by decide +kernel
theorem dX6_coastAt_0 : decode cX6_coastAt 0 = .ok (.iconst 0, 1) := by decide +kernel
theorem dX6_coastAt_1 : decode cX6_coastAt 1 = .ok (.istore_n 2, 1) := by decide +kernel
theorem dX6_coastAt_2 : decode cX6_coastAt 2 = .ok (.iconst 0, 1) := by decide +kernel
theorem dX6_coastAt_3 : decode cX6_coastAt 3 = .ok (.istore_n 3, 1) := by decide +kernel
theorem dX6_coastAt_4 : decode cX6_coastAt 4 = .ok (.iload_n 3, 1) := by decide +kernel
theorem dX6_coastAt_5 : decode cX6_coastAt 5 = .ok (.bipush 8, 2) := by decide +kernel
theorem dX6_coastAt_7 : decode cX6_coastAt 7 = .ok (.if_icmp .ge 49, 3) := by decide +kernel
theorem dX6_coastAt_10 : decode cX6_coastAt 10 = .ok (.aload_n 0, 1) := by decide +kernel
theorem dX6_coastAt_11 : decode cX6_coastAt 11 = .ok (.iload_n 1, 1) := by decide +kernel
theorem dX6_coastAt_12 : decode cX6_coastAt 12 = .ok (.invokevirtual 97, 3) := by decide +kernel
theorem dX6_coastAt_15 : decode cX6_coastAt 15 = .ok (.ifCond .eq 41, 3) := by decide +kernel
theorem dX6_coastAt_18 : decode cX6_coastAt 18 = .ok (.iload_n 2, 1) := by decide +kernel
theorem dX6_coastAt_19 : decode cX6_coastAt 19 = .ok (.aload_n 0, 1) := by decide +kernel
theorem dX6_coastAt_20 : decode cX6_coastAt 20 = .ok (.iload_n 1, 1) := by decide +kernel
theorem dX6_coastAt_21 : decode cX6_coastAt 21 = .ok (.aload_n 0, 1) := by decide +kernel
theorem dX6_coastAt_22 : decode cX6_coastAt 22 = .ok (.getfield 7, 3) := by decide +kernel
theorem dX6_coastAt_25 : decode cX6_coastAt 25 = .ok (.iconst 1, 1) := by decide +kernel
theorem dX6_coastAt_26 : decode cX6_coastAt 26 = .ok (.iaload, 1) := by decide +kernel
theorem dX6_coastAt_27 : decode cX6_coastAt 27 = .ok (.idiv, 1) := by decide +kernel
theorem dX6_coastAt_28 : decode cX6_coastAt 28 = .ok (.iload_n 1, 1) := by decide +kernel
theorem dX6_coastAt_29 : decode cX6_coastAt 29 = .ok (.aload_n 0, 1) := by decide +kernel
theorem dX6_coastAt_30 : decode cX6_coastAt 30 = .ok (.getfield 7, 3) := by decide +kernel
theorem dX6_coastAt_33 : decode cX6_coastAt 33 = .ok (.iconst 1, 1) := by decide +kernel
theorem dX6_coastAt_34 : decode cX6_coastAt 34 = .ok (.iaload, 1) := by decide +kernel
theorem dX6_coastAt_35 : decode cX6_coastAt 35 = .ok (.irem, 1) := by decide +kernel
theorem dX6_coastAt_36 : decode cX6_coastAt 36 = .ok (.iload_n 3, 1) := by decide +kernel
theorem dX6_coastAt_37 : decode cX6_coastAt 37 = .ok (.invokevirtual 101, 3) := by decide +kernel
theorem dX6_coastAt_40 : decode cX6_coastAt 40 = .ok (.ifCond .eq 7, 3) := by decide +kernel
theorem dX6_coastAt_43 : decode cX6_coastAt 43 = .ok (.iconst 0, 1) := by decide +kernel
theorem dX6_coastAt_44 : decode cX6_coastAt 44 = .ok (.goto 4, 3) := by decide +kernel
theorem dX6_coastAt_47 : decode cX6_coastAt 47 = .ok (.iconst 1, 1) := by decide +kernel
theorem dX6_coastAt_48 : decode cX6_coastAt 48 = .ok (.iadd, 1) := by decide +kernel
theorem dX6_coastAt_49 : decode cX6_coastAt 49 = .ok (.istore_n 2, 1) := by decide +kernel
theorem dX6_coastAt_50 : decode cX6_coastAt 50 = .ok (.iinc 3 2, 3) := by decide +kernel
theorem dX6_coastAt_53 : decode cX6_coastAt 53 = .ok (.goto (-49), 3) := by decide +kernel
theorem dX6_coastAt_56 : decode cX6_coastAt 56 = .ok (.iload_n 2, 1) := by decide +kernel
theorem dX6_coastAt_57 : decode cX6_coastAt 57 = .ok (.ireturn, 1) := by decide +kernel
theorem dX6_coast_0 : decode cX6_coast 0 = .ok (.iconst 0, 1) := by decide +kernel
theorem dX6_coast_1 : decode cX6_coast 1 = .ok (.istore_n 1, 1) := by decide +kernel
theorem dX6_coast_2 : decode cX6_coast 2 = .ok (.iconst 0, 1) := by decide +kernel
theorem dX6_coast_3 : decode cX6_coast 3 = .ok (.istore_n 2, 1) := by decide +kernel
theorem dX6_coast_4 : decode cX6_coast 4 = .ok (.iload_n 2, 1) := by decide +kernel
theorem dX6_coast_5 : decode cX6_coast 5 = .ok (.aload_n 0, 1) := by decide +kernel
theorem dX6_coast_6 : decode cX6_coast 6 = .ok (.invokevirtual 116, 3) := by decide +kernel
theorem dX6_coast_9 : decode cX6_coast 9 = .ok (.if_icmp .ge 17, 3) := by decide +kernel
theorem dX6_coast_12 : decode cX6_coast 12 = .ok (.iload_n 1, 1) := by decide +kernel
theorem dX6_coast_13 : decode cX6_coast 13 = .ok (.aload_n 0, 1) := by decide +kernel
theorem dX6_coast_14 : decode cX6_coast 14 = .ok (.iload_n 2, 1) := by decide +kernel
theorem dX6_coast_15 : decode cX6_coast 15 = .ok (.invokevirtual 160, 3) := by decide +kernel
theorem dX6_coast_18 : decode cX6_coast 18 = .ok (.iadd, 1) := by decide +kernel
theorem dX6_coast_19 : decode cX6_coast 19 = .ok (.istore_n 1, 1) := by decide +kernel
theorem dX6_coast_20 : decode cX6_coast 20 = .ok (.iinc 2 1, 3) := by decide +kernel
theorem dX6_coast_23 : decode cX6_coast 23 = .ok (.goto (-19), 3) := by decide +kernel
theorem dX6_coast_26 : decode cX6_coast 26 = .ok (.iload_n 1, 1) := by decide +kernel
theorem dX6_coast_27 : decode cX6_coast 27 = .ok (.ireturn, 1) := by decide +kernel
theorem dX6_seeNone_0 : decode cX6_seeNone 0 = .ok (.iconst 0, 1) := by decide +kernel
theorem dX6_seeNone_1 : decode cX6_seeNone 1 = .ok (.istore_n 1, 1) := by decide +kernel
theorem dX6_seeNone_2 : decode cX6_seeNone 2 = .ok (.iload_n 1, 1) := by decide +kernel
theorem dX6_seeNone_3 : decode cX6_seeNone 3 = .ok (.sipush 144, 3) := by decide +kernel
theorem dX6_seeNone_6 : decode cX6_seeNone 6 = .ok (.if_icmp .ge 16, 3) := by decide +kernel
theorem dX6_seeNone_9 : decode cX6_seeNone 9 = .ok (.aload_n 0, 1) := by decide +kernel
theorem dX6_seeNone_10 : decode cX6_seeNone 10 = .ok (.getfield 47, 3) := by decide +kernel
theorem dX6_seeNone_13 : decode cX6_seeNone 13 = .ok (.iload_n 1, 1) := by decide +kernel
theorem dX6_seeNone_14 : decode cX6_seeNone 14 = .ok (.iconst 0, 1) := by decide +kernel
theorem dX6_seeNone_15 : decode cX6_seeNone 15 = .ok (.bastore, 1) := by decide +kernel
theorem dX6_seeNone_16 : decode cX6_seeNone 16 = .ok (.iinc 1 1, 3) := by decide +kernel
theorem dX6_seeNone_19 : decode cX6_seeNone 19 = .ok (.goto (-17), 3) := by decide +kernel
theorem dX6_seeNone_22 : decode cX6_seeNone 22 = .ok (.return_, 1) := by decide +kernel
theorem dX6_seeFound_0 : decode cX6_seeFound 0 = .ok (.iconst 0, 1) := by decide +kernel
theorem dX6_seeFound_1 : decode cX6_seeFound 1 = .ok (.istore_n 1, 1) := by decide +kernel
theorem dX6_seeFound_2 : decode cX6_seeFound 2 = .ok (.iload_n 1, 1) := by decide +kernel
theorem dX6_seeFound_3 : decode cX6_seeFound 3 = .ok (.aload_n 0, 1) := by decide +kernel
theorem dX6_seeFound_4 : decode cX6_seeFound 4 = .ok (.getfield 129, 3) := by decide +kernel
theorem dX6_seeFound_7 : decode cX6_seeFound 7 = .ok (.if_icmp .ge 21, 3) := by decide +kernel
theorem dX6_seeFound_10 : decode cX6_seeFound 10 = .ok (.aload_n 0, 1) := by decide +kernel
theorem dX6_seeFound_11 : decode cX6_seeFound 11 = .ok (.getfield 47, 3) := by decide +kernel
theorem dX6_seeFound_14 : decode cX6_seeFound 14 = .ok (.aload_n 0, 1) := by decide +kernel
theorem dX6_seeFound_15 : decode cX6_seeFound 15 = .ok (.getfield 32, 3) := by decide +kernel
theorem dX6_seeFound_18 : decode cX6_seeFound 18 = .ok (.iload_n 1, 1) := by decide +kernel
theorem dX6_seeFound_19 : decode cX6_seeFound 19 = .ok (.iaload, 1) := by decide +kernel
theorem dX6_seeFound_20 : decode cX6_seeFound 20 = .ok (.iconst 1, 1) := by decide +kernel
theorem dX6_seeFound_21 : decode cX6_seeFound 21 = .ok (.bastore, 1) := by decide +kernel
theorem dX6_seeFound_22 : decode cX6_seeFound 22 = .ok (.iinc 1 1, 3) := by decide +kernel
theorem dX6_seeFound_25 : decode cX6_seeFound 25 = .ok (.goto (-23), 3) := by decide +kernel
theorem dX6_seeFound_28 : decode cX6_seeFound 28 = .ok (.return_, 1) := by decide +kernel
theorem dX6_islands_0 : decode cX6_islands 0 = .ok (.aload_n 0, 1) := by decide +kernel
theorem dX6_islands_1 : decode cX6_islands 1 = .ok (.invokevirtual 163, 3) := by decide +kernel
theorem dX6_islands_4 : decode cX6_islands 4 = .ok (.iconst 0, 1) := by decide +kernel
theorem dX6_islands_5 : decode cX6_islands 5 = .ok (.istore_n 1, 1) := by decide +kernel
theorem dX6_islands_6 : decode cX6_islands 6 = .ok (.iconst 0, 1) := by decide +kernel
theorem dX6_islands_7 : decode cX6_islands 7 = .ok (.istore_n 2, 1) := by decide +kernel
theorem dX6_islands_8 : decode cX6_islands 8 = .ok (.iload_n 2, 1) := by decide +kernel
theorem dX6_islands_9 : decode cX6_islands 9 = .ok (.aload_n 0, 1) := by decide +kernel
theorem dX6_islands_10 : decode cX6_islands 10 = .ok (.invokevirtual 116, 3) := by decide +kernel
theorem dX6_islands_13 : decode cX6_islands 13 = .ok (.if_icmp .ge 39, 3) := by decide +kernel
theorem dX6_islands_16 : decode cX6_islands 16 = .ok (.aload_n 0, 1) := by decide +kernel
theorem dX6_islands_17 : decode cX6_islands 17 = .ok (.iload_n 2, 1) := by decide +kernel
theorem dX6_islands_18 : decode cX6_islands 18 = .ok (.invokevirtual 97, 3) := by decide +kernel
theorem dX6_islands_21 : decode cX6_islands 21 = .ok (.ifCond .eq 25, 3) := by decide +kernel
theorem dX6_islands_24 : decode cX6_islands 24 = .ok (.aload_n 0, 1) := by decide +kernel
theorem dX6_islands_25 : decode cX6_islands 25 = .ok (.getfield 47, 3) := by decide +kernel
theorem dX6_islands_28 : decode cX6_islands 28 = .ok (.iload_n 2, 1) := by decide +kernel
theorem dX6_islands_29 : decode cX6_islands 29 = .ok (.baload, 1) := by decide +kernel
theorem dX6_islands_30 : decode cX6_islands 30 = .ok (.ifCond .ne 16, 3) := by decide +kernel
theorem dX6_islands_33 : decode cX6_islands 33 = .ok (.aload_n 0, 1) := by decide +kernel
theorem dX6_islands_34 : decode cX6_islands 34 = .ok (.iload_n 2, 1) := by decide +kernel
theorem dX6_islands_35 : decode cX6_islands 35 = .ok (.iconst 1, 1) := by decide +kernel
theorem dX6_islands_36 : decode cX6_islands 36 = .ok (.invokevirtual 132, 3) := by decide +kernel
theorem dX6_islands_39 : decode cX6_islands 39 = .ok (.aload_n 0, 1) := by decide +kernel
theorem dX6_islands_40 : decode cX6_islands 40 = .ok (.invokevirtual 166, 3) := by decide +kernel
theorem dX6_islands_43 : decode cX6_islands 43 = .ok (.iinc 1 1, 3) := by decide +kernel
theorem dX6_islands_46 : decode cX6_islands 46 = .ok (.iinc 2 1, 3) := by decide +kernel
theorem dX6_islands_49 : decode cX6_islands 49 = .ok (.goto (-41), 3) := by decide +kernel
theorem dX6_islands_52 : decode cX6_islands 52 = .ok (.iload_n 1, 1) := by decide +kernel
theorem dX6_islands_53 : decode cX6_islands 53 = .ok (.ireturn, 1) := by decide +kernel
theorem dX6_isInside_0 : decode cX6_isInside 0 = .ok (.iconst 1, 1) := by decide +kernel
theorem dX6_isInside_1 : decode cX6_isInside 1 = .ok (.istore_n 1, 1) := by decide +kernel
theorem dX6_isInside_2 : decode cX6_isInside 2 = .ok (.iconst 0, 1) := by decide +kernel
theorem dX6_isInside_3 : decode cX6_isInside 3 = .ok (.istore_n 2, 1) := by decide +kernel
theorem dX6_isInside_4 : decode cX6_isInside 4 = .ok (.iload_n 2, 1) := by decide +kernel
theorem dX6_isInside_5 : decode cX6_isInside 5 = .ok (.aload_n 0, 1) := by decide +kernel
theorem dX6_isInside_6 : decode cX6_isInside 6 = .ok (.getfield 129, 3) := by decide +kernel
theorem dX6_isInside_9 : decode cX6_isInside 9 = .ok (.if_icmp .ge 75, 3) := by decide +kernel
theorem dX6_isInside_12 : decode cX6_isInside 12 = .ok (.iload_n 1, 1) := by decide +kernel
theorem dX6_isInside_13 : decode cX6_isInside 13 = .ok (.ifCond .eq 63, 3) := by decide +kernel
theorem dX6_isInside_16 : decode cX6_isInside 16 = .ok (.aload_n 0, 1) := by decide +kernel
theorem dX6_isInside_17 : decode cX6_isInside 17 = .ok (.getfield 32, 3) := by decide +kernel
theorem dX6_isInside_20 : decode cX6_isInside 20 = .ok (.iload_n 2, 1) := by decide +kernel
theorem dX6_isInside_21 : decode cX6_isInside 21 = .ok (.iaload, 1) := by decide +kernel
theorem dX6_isInside_22 : decode cX6_isInside 22 = .ok (.aload_n 0, 1) := by decide +kernel
theorem dX6_isInside_23 : decode cX6_isInside 23 = .ok (.getfield 7, 3) := by decide +kernel
theorem dX6_isInside_26 : decode cX6_isInside 26 = .ok (.iconst 1, 1) := by decide +kernel
theorem dX6_isInside_27 : decode cX6_isInside 27 = .ok (.iaload, 1) := by decide +kernel
theorem dX6_isInside_28 : decode cX6_isInside 28 = .ok (.idiv, 1) := by decide +kernel
theorem dX6_isInside_29 : decode cX6_isInside 29 = .ok (.iconst 1, 1) := by decide +kernel
theorem dX6_isInside_30 : decode cX6_isInside 30 = .ok (.aload_n 0, 1) := by decide +kernel
theorem dX6_isInside_31 : decode cX6_isInside 31 = .ok (.getfield 7, 3) := by decide +kernel
theorem dX6_isInside_34 : decode cX6_isInside 34 = .ok (.iconst 0, 1) := by decide +kernel
theorem dX6_isInside_35 : decode cX6_isInside 35 = .ok (.iaload, 1) := by decide +kernel
theorem dX6_isInside_36 : decode cX6_isInside 36 = .ok (.iconst 2, 1) := by decide +kernel
theorem dX6_isInside_37 : decode cX6_isInside 37 = .ok (.isub, 1) := by decide +kernel
theorem dX6_isInside_38 : decode cX6_isInside 38 = .ok (.invokestatic 61, 3) := by decide +kernel
theorem dX6_isInside_41 : decode cX6_isInside 41 = .ok (.ifCond .eq 35, 3) := by decide +kernel
theorem dX6_isInside_44 : decode cX6_isInside 44 = .ok (.aload_n 0, 1) := by decide +kernel
theorem dX6_isInside_45 : decode cX6_isInside 45 = .ok (.getfield 32, 3) := by decide +kernel
theorem dX6_isInside_48 : decode cX6_isInside 48 = .ok (.iload_n 2, 1) := by decide +kernel
theorem dX6_isInside_49 : decode cX6_isInside 49 = .ok (.iaload, 1) := by decide +kernel
theorem dX6_isInside_50 : decode cX6_isInside 50 = .ok (.aload_n 0, 1) := by decide +kernel
theorem dX6_isInside_51 : decode cX6_isInside 51 = .ok (.getfield 7, 3) := by decide +kernel
theorem dX6_isInside_54 : decode cX6_isInside 54 = .ok (.iconst 1, 1) := by decide +kernel
theorem dX6_isInside_55 : decode cX6_isInside 55 = .ok (.iaload, 1) := by decide +kernel
theorem dX6_isInside_56 : decode cX6_isInside 56 = .ok (.irem, 1) := by decide +kernel
theorem dX6_isInside_57 : decode cX6_isInside 57 = .ok (.iconst 1, 1) := by decide +kernel
theorem dX6_isInside_58 : decode cX6_isInside 58 = .ok (.aload_n 0, 1) := by decide +kernel
theorem dX6_isInside_59 : decode cX6_isInside 59 = .ok (.getfield 7, 3) := by decide +kernel
theorem dX6_isInside_62 : decode cX6_isInside 62 = .ok (.iconst 1, 1) := by decide +kernel
theorem dX6_isInside_63 : decode cX6_isInside 63 = .ok (.iaload, 1) := by decide +kernel
theorem dX6_isInside_64 : decode cX6_isInside 64 = .ok (.iconst 2, 1) := by decide +kernel
theorem dX6_isInside_65 : decode cX6_isInside 65 = .ok (.isub, 1) := by decide +kernel
theorem dX6_isInside_66 : decode cX6_isInside 66 = .ok (.invokestatic 61, 3) := by decide +kernel
theorem dX6_isInside_69 : decode cX6_isInside 69 = .ok (.ifCond .eq 7, 3) := by decide +kernel
theorem dX6_isInside_72 : decode cX6_isInside 72 = .ok (.iconst 1, 1) := by decide +kernel
theorem dX6_isInside_73 : decode cX6_isInside 73 = .ok (.goto 4, 3) := by decide +kernel
theorem dX6_isInside_76 : decode cX6_isInside 76 = .ok (.iconst 0, 1) := by decide +kernel
theorem dX6_isInside_77 : decode cX6_isInside 77 = .ok (.istore_n 1, 1) := by decide +kernel
theorem dX6_isInside_78 : decode cX6_isInside 78 = .ok (.iinc 2 1, 3) := by decide +kernel
theorem dX6_isInside_81 : decode cX6_isInside 81 = .ok (.goto (-77), 3) := by decide +kernel
theorem dX6_isInside_84 : decode cX6_isInside 84 = .ok (.iload_n 1, 1) := by decide +kernel
theorem dX6_isInside_85 : decode cX6_isInside 85 = .ok (.ireturn, 1) := by decide +kernel
theorem dX6_lakes_0 : decode cX6_lakes 0 = .ok (.aload_n 0, 1) := by decide +kernel
theorem dX6_lakes_1 : decode cX6_lakes 1 = .ok (.invokevirtual 163, 3) := by decide +kernel
theorem dX6_lakes_4 : decode cX6_lakes 4 = .ok (.iconst 0, 1) := by decide +kernel
theorem dX6_lakes_5 : decode cX6_lakes 5 = .ok (.istore_n 1, 1) := by decide +kernel
theorem dX6_lakes_6 : decode cX6_lakes 6 = .ok (.iconst 0, 1) := by decide +kernel
theorem dX6_lakes_7 : decode cX6_lakes 7 = .ok (.istore_n 2, 1) := by decide +kernel
theorem dX6_lakes_8 : decode cX6_lakes 8 = .ok (.iload_n 2, 1) := by decide +kernel
theorem dX6_lakes_9 : decode cX6_lakes 9 = .ok (.aload_n 0, 1) := by decide +kernel
theorem dX6_lakes_10 : decode cX6_lakes 10 = .ok (.invokevirtual 116, 3) := by decide +kernel
theorem dX6_lakes_13 : decode cX6_lakes 13 = .ok (.if_icmp .ge 51, 3) := by decide +kernel
theorem dX6_lakes_16 : decode cX6_lakes 16 = .ok (.aload_n 0, 1) := by decide +kernel
theorem dX6_lakes_17 : decode cX6_lakes 17 = .ok (.iload_n 2, 1) := by decide +kernel
theorem dX6_lakes_18 : decode cX6_lakes 18 = .ok (.invokevirtual 97, 3) := by decide +kernel
theorem dX6_lakes_21 : decode cX6_lakes 21 = .ok (.ifCond .ne 37, 3) := by decide +kernel
theorem dX6_lakes_24 : decode cX6_lakes 24 = .ok (.aload_n 0, 1) := by decide +kernel
theorem dX6_lakes_25 : decode cX6_lakes 25 = .ok (.getfield 47, 3) := by decide +kernel
theorem dX6_lakes_28 : decode cX6_lakes 28 = .ok (.iload_n 2, 1) := by decide +kernel
theorem dX6_lakes_29 : decode cX6_lakes 29 = .ok (.baload, 1) := by decide +kernel
theorem dX6_lakes_30 : decode cX6_lakes 30 = .ok (.ifCond .ne 28, 3) := by decide +kernel
theorem dX6_lakes_33 : decode cX6_lakes 33 = .ok (.aload_n 0, 1) := by decide +kernel
theorem dX6_lakes_34 : decode cX6_lakes 34 = .ok (.iload_n 2, 1) := by decide +kernel
theorem dX6_lakes_35 : decode cX6_lakes 35 = .ok (.iconst 0, 1) := by decide +kernel
theorem dX6_lakes_36 : decode cX6_lakes 36 = .ok (.invokevirtual 132, 3) := by decide +kernel
theorem dX6_lakes_39 : decode cX6_lakes 39 = .ok (.aload_n 0, 1) := by decide +kernel
theorem dX6_lakes_40 : decode cX6_lakes 40 = .ok (.invokevirtual 166, 3) := by decide +kernel
theorem dX6_lakes_43 : decode cX6_lakes 43 = .ok (.iload_n 1, 1) := by decide +kernel
theorem dX6_lakes_44 : decode cX6_lakes 44 = .ok (.aload_n 0, 1) := by decide +kernel
theorem dX6_lakes_45 : decode cX6_lakes 45 = .ok (.invokevirtual 169, 3) := by decide +kernel
theorem dX6_lakes_48 : decode cX6_lakes 48 = .ok (.ifCond .eq 7, 3) := by decide +kernel
theorem dX6_lakes_51 : decode cX6_lakes 51 = .ok (.iconst 1, 1) := by decide +kernel
theorem dX6_lakes_52 : decode cX6_lakes 52 = .ok (.goto 4, 3) := by decide +kernel
theorem dX6_lakes_55 : decode cX6_lakes 55 = .ok (.iconst 0, 1) := by decide +kernel
theorem dX6_lakes_56 : decode cX6_lakes 56 = .ok (.iadd, 1) := by decide +kernel
theorem dX6_lakes_57 : decode cX6_lakes 57 = .ok (.istore_n 1, 1) := by decide +kernel
theorem dX6_lakes_58 : decode cX6_lakes 58 = .ok (.iinc 2 1, 3) := by decide +kernel
theorem dX6_lakes_61 : decode cX6_lakes 61 = .ok (.goto (-53), 3) := by decide +kernel
theorem dX6_lakes_64 : decode cX6_lakes 64 = .ok (.iload_n 1, 1) := by decide +kernel
theorem dX6_lakes_65 : decode cX6_lakes 65 = .ok (.ireturn, 1) := by decide +kernel
theorem dX6_region_0 : decode cX6_region 0 = .ok (.aload_n 0, 1) := by decide +kernel
theorem dX6_region_1 : decode cX6_region 1 = .ok (.iload_n 1, 1) := by decide +kernel
theorem dX6_region_2 : decode cX6_region 2 = .ok (.iload_n 2, 1) := by decide +kernel
theorem dX6_region_3 : decode cX6_region 3 = .ok (.invokevirtual 90, 3) := by decide +kernel
theorem dX6_region_6 : decode cX6_region 6 = .ok (.ifCond .ne 5, 3) := by decide +kernel
theorem dX6_region_9 : decode cX6_region 9 = .ok (.iconst (-1), 1) := by decide +kernel
theorem dX6_region_10 : decode cX6_region 10 = .ok (.ireturn, 1) := by decide +kernel
theorem dX6_region_11 : decode cX6_region 11 = .ok (.aload_n 0, 1) := by decide +kernel
theorem dX6_region_12 : decode cX6_region 12 = .ok (.aload_n 0, 1) := by decide +kernel
theorem dX6_region_13 : decode cX6_region 13 = .ok (.iload_n 1, 1) := by decide +kernel
theorem dX6_region_14 : decode cX6_region 14 = .ok (.iload_n 2, 1) := by decide +kernel
theorem dX6_region_15 : decode cX6_region 15 = .ok (.invokevirtual 94, 3) := by decide +kernel
theorem dX6_region_18 : decode cX6_region 18 = .ok (.iload_n 3, 1) := by decide +kernel
theorem dX6_region_19 : decode cX6_region 19 = .ok (.invokevirtual 132, 3) := by decide +kernel
theorem dX6_region_22 : decode cX6_region 22 = .ok (.aload_n 0, 1) := by decide +kernel
theorem dX6_region_23 : decode cX6_region 23 = .ok (.getfield 129, 3) := by decide +kernel
theorem dX6_region_26 : decode cX6_region 26 = .ok (.ireturn, 1) := by decide +kernel
theorem dX6_largestIsland_0 : decode cX6_largestIsland 0 = .ok (.aload_n 0, 1) := by decide +kernel
theorem dX6_largestIsland_1 : decode cX6_largestIsland 1 = .ok (.invokevirtual 163, 3) := by decide +kernel
theorem dX6_largestIsland_4 : decode cX6_largestIsland 4 = .ok (.bipush (-6), 2) := by decide +kernel
theorem dX6_largestIsland_6 : decode cX6_largestIsland 6 = .ok (.istore_n 1, 1) := by decide +kernel
theorem dX6_largestIsland_7 : decode cX6_largestIsland 7 = .ok (.iconst 0, 1) := by decide +kernel
theorem dX6_largestIsland_8 : decode cX6_largestIsland 8 = .ok (.istore_n 2, 1) := by decide +kernel
theorem dX6_largestIsland_9 : decode cX6_largestIsland 9 = .ok (.iconst 0, 1) := by decide +kernel
theorem dX6_largestIsland_10 : decode cX6_largestIsland 10 = .ok (.istore_n 3, 1) := by decide +kernel
theorem dX6_largestIsland_11 : decode cX6_largestIsland 11 = .ok (.iload_n 3, 1) := by decide +kernel
theorem dX6_largestIsland_12 : decode cX6_largestIsland 12 = .ok (.aload_n 0, 1) := by decide +kernel
theorem dX6_largestIsland_13 : decode cX6_largestIsland 13 = .ok (.invokevirtual 116, 3) := by decide +kernel
theorem dX6_largestIsland_16 : decode cX6_largestIsland 16 = .ok (.if_icmp .ge 71, 3) := by decide +kernel
theorem dX6_largestIsland_19 : decode cX6_largestIsland 19 = .ok (.aload_n 0, 1) := by decide +kernel
theorem dX6_largestIsland_20 : decode cX6_largestIsland 20 = .ok (.iload_n 3, 1) := by decide +kernel
theorem dX6_largestIsland_21 : decode cX6_largestIsland 21 = .ok (.invokevirtual 97, 3) := by decide +kernel
theorem dX6_largestIsland_24 : decode cX6_largestIsland 24 = .ok (.ifCond .eq 57, 3) := by decide +kernel
theorem dX6_largestIsland_27 : decode cX6_largestIsland 27 = .ok (.aload_n 0, 1) := by decide +kernel
theorem dX6_largestIsland_28 : decode cX6_largestIsland 28 = .ok (.getfield 47, 3) := by decide +kernel
theorem dX6_largestIsland_31 : decode cX6_largestIsland 31 = .ok (.iload_n 3, 1) := by decide +kernel
theorem dX6_largestIsland_32 : decode cX6_largestIsland 32 = .ok (.baload, 1) := by decide +kernel
theorem dX6_largestIsland_33 : decode cX6_largestIsland 33 = .ok (.ifCond .ne 48, 3) := by decide +kernel
theorem dX6_largestIsland_36 : decode cX6_largestIsland 36 = .ok (.aload_n 0, 1) := by decide +kernel
theorem dX6_largestIsland_37 : decode cX6_largestIsland 37 = .ok (.iload_n 3, 1) := by decide +kernel
theorem dX6_largestIsland_38 : decode cX6_largestIsland 38 = .ok (.iconst 1, 1) := by decide +kernel
theorem dX6_largestIsland_39 : decode cX6_largestIsland 39 = .ok (.invokevirtual 132, 3) := by decide +kernel
theorem dX6_largestIsland_42 : decode cX6_largestIsland 42 = .ok (.aload_n 0, 1) := by decide +kernel
theorem dX6_largestIsland_43 : decode cX6_largestIsland 43 = .ok (.invokevirtual 166, 3) := by decide +kernel
theorem dX6_largestIsland_46 : decode cX6_largestIsland 46 = .ok (.aload_n 0, 1) := by decide +kernel
theorem dX6_largestIsland_47 : decode cX6_largestIsland 47 = .ok (.getfield 129, 3) := by decide +kernel
theorem dX6_largestIsland_50 : decode cX6_largestIsland 50 = .ok (.iload_n 2, 1) := by decide +kernel
theorem dX6_largestIsland_51 : decode cX6_largestIsland 51 = .ok (.if_icmp .le 11, 3) := by decide +kernel
theorem dX6_largestIsland_54 : decode cX6_largestIsland 54 = .ok (.aload_n 0, 1) := by decide +kernel
theorem dX6_largestIsland_55 : decode cX6_largestIsland 55 = .ok (.iload_n 3, 1) := by decide +kernel
theorem dX6_largestIsland_56 : decode cX6_largestIsland 56 = .ok (.invokevirtual 148, 3) := by decide +kernel
theorem dX6_largestIsland_59 : decode cX6_largestIsland 59 = .ok (.goto 4, 3) := by decide +kernel
theorem dX6_largestIsland_62 : decode cX6_largestIsland 62 = .ok (.iload_n 1, 1) := by decide +kernel
theorem dX6_largestIsland_63 : decode cX6_largestIsland 63 = .ok (.istore_n 1, 1) := by decide +kernel
theorem dX6_largestIsland_64 : decode cX6_largestIsland 64 = .ok (.aload_n 0, 1) := by decide +kernel
theorem dX6_largestIsland_65 : decode cX6_largestIsland 65 = .ok (.getfield 129, 3) := by decide +kernel
theorem dX6_largestIsland_68 : decode cX6_largestIsland 68 = .ok (.iload_n 2, 1) := by decide +kernel
theorem dX6_largestIsland_69 : decode cX6_largestIsland 69 = .ok (.if_icmp .le 10, 3) := by decide +kernel
theorem dX6_largestIsland_72 : decode cX6_largestIsland 72 = .ok (.aload_n 0, 1) := by decide +kernel
theorem dX6_largestIsland_73 : decode cX6_largestIsland 73 = .ok (.getfield 129, 3) := by decide +kernel
theorem dX6_largestIsland_76 : decode cX6_largestIsland 76 = .ok (.goto 4, 3) := by decide +kernel
theorem dX6_largestIsland_79 : decode cX6_largestIsland 79 = .ok (.iload_n 2, 1) := by decide +kernel
theorem dX6_largestIsland_80 : decode cX6_largestIsland 80 = .ok (.istore_n 2, 1) := by decide +kernel
theorem dX6_largestIsland_81 : decode cX6_largestIsland 81 = .ok (.iinc 3 1, 3) := by decide +kernel
theorem dX6_largestIsland_84 : decode cX6_largestIsland 84 = .ok (.goto (-73), 3) := by decide +kernel
theorem dX6_largestIsland_87 : decode cX6_largestIsland 87 = .ok (.iload_n 1, 1) := by decide +kernel
theorem dX6_largestIsland_88 : decode cX6_largestIsland 88 = .ok (.ireturn, 1) := by decide +kernel
theorem dX6_way_0 : decode cX6_way 0 = .ok (.aload_n 0, 1) := by decide +kernel
theorem dX6_way_1 : decode cX6_way 1 = .ok (.iload_n 1, 1) := by decide +kernel
theorem dX6_way_2 : decode cX6_way 2 = .ok (.iload_n 2, 1) := by decide +kernel
theorem dX6_way_3 : decode cX6_way 3 = .ok (.invokevirtual 90, 3) := by decide +kernel
theorem dX6_way_6 : decode cX6_way 6 = .ok (.ifCond .eq 13, 3) := by decide +kernel
theorem dX6_way_9 : decode cX6_way 9 = .ok (.aload_n 0, 1) := by decide +kernel
theorem dX6_way_10 : decode cX6_way 10 = .ok (.iload_n 3, 1) := by decide +kernel
theorem dX6_way_11 : decode cX6_way 11 = .ok (.iload 4, 2) := by decide +kernel
theorem dX6_way_13 : decode cX6_way 13 = .ok (.invokevirtual 90, 3) := by decide +kernel
theorem dX6_way_16 : decode cX6_way 16 = .ok (.ifCond .ne 5, 3) := by decide +kernel
theorem dX6_way_19 : decode cX6_way 19 = .ok (.iconst (-1), 1) := by decide +kernel
theorem dX6_way_20 : decode cX6_way 20 = .ok (.ireturn, 1) := by decide +kernel
theorem dX6_way_21 : decode cX6_way 21 = .ok (.aload_n 0, 1) := by decide +kernel
theorem dX6_way_22 : decode cX6_way 22 = .ok (.aload_n 0, 1) := by decide +kernel
theorem dX6_way_23 : decode cX6_way 23 = .ok (.iload_n 1, 1) := by decide +kernel
theorem dX6_way_24 : decode cX6_way 24 = .ok (.iload_n 2, 1) := by decide +kernel
theorem dX6_way_25 : decode cX6_way 25 = .ok (.invokevirtual 94, 3) := by decide +kernel
theorem dX6_way_28 : decode cX6_way 28 = .ok (.iconst 0, 1) := by decide +kernel
theorem dX6_way_29 : decode cX6_way 29 = .ok (.invokevirtual 132, 3) := by decide +kernel
theorem dX6_way_32 : decode cX6_way 32 = .ok (.aload_n 0, 1) := by decide +kernel
theorem dX6_way_33 : decode cX6_way 33 = .ok (.getfield 35, 3) := by decide +kernel
theorem dX6_way_36 : decode cX6_way 36 = .ok (.aload_n 0, 1) := by decide +kernel
theorem dX6_way_37 : decode cX6_way 37 = .ok (.iload_n 3, 1) := by decide +kernel
theorem dX6_way_38 : decode cX6_way 38 = .ok (.iload 4, 2) := by decide +kernel
theorem dX6_way_40 : decode cX6_way 40 = .ok (.invokevirtual 94, 3) := by decide +kernel
theorem dX6_way_43 : decode cX6_way 43 = .ok (.iaload, 1) := by decide +kernel
theorem dX6_way_44 : decode cX6_way 44 = .ok (.ireturn, 1) := by decide +kernel
theorem dX6_coastIfChanged_0 : decode cX6_coastIfChanged 0 = .ok (.aload_n 0, 1) := by decide +kernel
theorem dX6_coastIfChanged_1 : decode cX6_coastIfChanged 1 = .ok (.iload_n 1, 1) := by decide +kernel
theorem dX6_coastIfChanged_2 : decode cX6_coastIfChanged 2 = .ok (.iload_n 2, 1) := by decide +kernel
theorem dX6_coastIfChanged_3 : decode cX6_coastIfChanged 3 = .ok (.invokevirtual 90, 3) := by decide +kernel
theorem dX6_coastIfChanged_6 : decode cX6_coastIfChanged 6 = .ok (.ifCond .ne 5, 3) := by decide +kernel
theorem dX6_coastIfChanged_9 : decode cX6_coastIfChanged 9 = .ok (.iconst (-1), 1) := by decide +kernel
theorem dX6_coastIfChanged_10 : decode cX6_coastIfChanged 10 = .ok (.ireturn, 1) := by decide +kernel
theorem dX6_coastIfChanged_11 : decode cX6_coastIfChanged 11 = .ok (.aload_n 0, 1) := by decide +kernel
theorem dX6_coastIfChanged_12 : decode cX6_coastIfChanged 12 = .ok (.iload_n 1, 1) := by decide +kernel
theorem dX6_coastIfChanged_13 : decode cX6_coastIfChanged 13 = .ok (.iload_n 2, 1) := by decide +kernel
theorem dX6_coastIfChanged_14 : decode cX6_coastIfChanged 14 = .ok (.invokevirtual 94, 3) := by decide +kernel
theorem dX6_coastIfChanged_17 : decode cX6_coastIfChanged 17 = .ok (.istore_n 3, 1) := by decide +kernel
theorem dX6_coastIfChanged_18 : decode cX6_coastIfChanged 18 = .ok (.aload_n 0, 1) := by decide +kernel
theorem dX6_coastIfChanged_19 : decode cX6_coastIfChanged 19 = .ok (.invokevirtual 173, 3) := by decide +kernel
theorem dX6_coastIfChanged_22 : decode cX6_coastIfChanged 22 = .ok (.istore 4, 2) := by decide +kernel
theorem dX6_coastIfChanged_24 : decode cX6_coastIfChanged 24 = .ok (.aload_n 0, 1) := by decide +kernel
theorem dX6_coastIfChanged_25 : decode cX6_coastIfChanged 25 = .ok (.getfield 7, 3) := by decide +kernel
theorem dX6_coastIfChanged_28 : decode cX6_coastIfChanged 28 = .ok (.iconst 3, 1) := by decide +kernel
theorem dX6_coastIfChanged_29 : decode cX6_coastIfChanged 29 = .ok (.iload_n 3, 1) := by decide +kernel
theorem dX6_coastIfChanged_30 : decode cX6_coastIfChanged 30 = .ok (.iadd, 1) := by decide +kernel
theorem dX6_coastIfChanged_31 : decode cX6_coastIfChanged 31 = .ok (.iconst 1, 1) := by decide +kernel
theorem dX6_coastIfChanged_32 : decode cX6_coastIfChanged 32 = .ok (.aload_n 0, 1) := by decide +kernel
theorem dX6_coastIfChanged_33 : decode cX6_coastIfChanged 33 = .ok (.getfield 7, 3) := by decide +kernel
theorem dX6_coastIfChanged_36 : decode cX6_coastIfChanged 36 = .ok (.iconst 3, 1) := by decide +kernel
theorem dX6_coastIfChanged_37 : decode cX6_coastIfChanged 37 = .ok (.iload_n 3, 1) := by decide +kernel
theorem dX6_coastIfChanged_38 : decode cX6_coastIfChanged 38 = .ok (.iadd, 1) := by decide +kernel
theorem dX6_coastIfChanged_39 : decode cX6_coastIfChanged 39 = .ok (.iaload, 1) := by decide +kernel
theorem dX6_coastIfChanged_40 : decode cX6_coastIfChanged 40 = .ok (.isub, 1) := by decide +kernel
theorem dX6_coastIfChanged_41 : decode cX6_coastIfChanged 41 = .ok (.iastore, 1) := by decide +kernel
theorem dX6_coastIfChanged_42 : decode cX6_coastIfChanged 42 = .ok (.aload_n 0, 1) := by decide +kernel
theorem dX6_coastIfChanged_43 : decode cX6_coastIfChanged 43 = .ok (.invokevirtual 173, 3) := by decide +kernel
theorem dX6_coastIfChanged_46 : decode cX6_coastIfChanged 46 = .ok (.istore 5, 2) := by decide +kernel
theorem dX6_coastIfChanged_48 : decode cX6_coastIfChanged 48 = .ok (.aload_n 0, 1) := by decide +kernel
theorem dX6_coastIfChanged_49 : decode cX6_coastIfChanged 49 = .ok (.getfield 7, 3) := by decide +kernel
theorem dX6_coastIfChanged_52 : decode cX6_coastIfChanged 52 = .ok (.iconst 3, 1) := by decide +kernel
theorem dX6_coastIfChanged_53 : decode cX6_coastIfChanged 53 = .ok (.iload_n 3, 1) := by decide +kernel
theorem dX6_coastIfChanged_54 : decode cX6_coastIfChanged 54 = .ok (.iadd, 1) := by decide +kernel
theorem dX6_coastIfChanged_55 : decode cX6_coastIfChanged 55 = .ok (.iconst 1, 1) := by decide +kernel
theorem dX6_coastIfChanged_56 : decode cX6_coastIfChanged 56 = .ok (.aload_n 0, 1) := by decide +kernel
theorem dX6_coastIfChanged_57 : decode cX6_coastIfChanged 57 = .ok (.getfield 7, 3) := by decide +kernel
theorem dX6_coastIfChanged_60 : decode cX6_coastIfChanged 60 = .ok (.iconst 3, 1) := by decide +kernel
theorem dX6_coastIfChanged_61 : decode cX6_coastIfChanged 61 = .ok (.iload_n 3, 1) := by decide +kernel
theorem dX6_coastIfChanged_62 : decode cX6_coastIfChanged 62 = .ok (.iadd, 1) := by decide +kernel
theorem dX6_coastIfChanged_63 : decode cX6_coastIfChanged 63 = .ok (.iaload, 1) := by decide +kernel
theorem dX6_coastIfChanged_64 : decode cX6_coastIfChanged 64 = .ok (.isub, 1) := by decide +kernel
theorem dX6_coastIfChanged_65 : decode cX6_coastIfChanged 65 = .ok (.iastore, 1) := by decide +kernel
theorem dX6_coastIfChanged_66 : decode cX6_coastIfChanged 66 = .ok (.iload 5, 2) := by decide +kernel
theorem dX6_coastIfChanged_68 : decode cX6_coastIfChanged 68 = .ok (.iload 4, 2) := by decide +kernel
theorem dX6_coastIfChanged_70 : decode cX6_coastIfChanged 70 = .ok (.isub, 1) := by decide +kernel
theorem dX6_coastIfChanged_71 : decode cX6_coastIfChanged 71 = .ok (.bipush 100, 2) := by decide +kernel
theorem dX6_coastIfChanged_73 : decode cX6_coastIfChanged 73 = .ok (.iadd, 1) := by decide +kernel
theorem dX6_coastIfChanged_74 : decode cX6_coastIfChanged 74 = .ok (.ireturn, 1) := by decide +kernel
theorem dX6_needs_0 : decode cX6_needs 0 = .ok (.aload_n 0, 1) := by decide +kernel
theorem dX6_needs_1 : decode cX6_needs 1 = .ok (.iload_n 1, 1) := by decide +kernel
theorem dX6_needs_2 : decode cX6_needs 2 = .ok (.iload_n 2, 1) := by decide +kernel
theorem dX6_needs_3 : decode cX6_needs 3 = .ok (.invokevirtual 90, 3) := by decide +kernel
theorem dX6_needs_6 : decode cX6_needs 6 = .ok (.ifCond .eq 10, 3) := by decide +kernel
theorem dX6_needs_9 : decode cX6_needs 9 = .ok (.iload_n 3, 1) := by decide +kernel
theorem dX6_needs_10 : decode cX6_needs 10 = .ok (.invokestatic 145, 3) := by decide +kernel
theorem dX6_needs_13 : decode cX6_needs 13 = .ok (.ifCond .ne 5, 3) := by decide +kernel
theorem dX6_needs_16 : decode cX6_needs 16 = .ok (.iconst (-1), 1) := by decide +kernel
theorem dX6_needs_17 : decode cX6_needs 17 = .ok (.ireturn, 1) := by decide +kernel
theorem dX6_needs_18 : decode cX6_needs 18 = .ok (.aload_n 0, 1) := by decide +kernel
theorem dX6_needs_19 : decode cX6_needs 19 = .ok (.getfield 23, 3) := by decide +kernel
theorem dX6_needs_22 : decode cX6_needs 22 = .ok (.iload_n 3, 1) := by decide +kernel
theorem dX6_needs_23 : decode cX6_needs 23 = .ok (.iaload, 1) := by decide +kernel
theorem dX6_needs_24 : decode cX6_needs 24 = .ok (.istore 4, 2) := by decide +kernel
theorem dX6_needs_26 : decode cX6_needs 26 = .ok (.iconst 0, 1) := by decide +kernel
theorem dX6_needs_27 : decode cX6_needs 27 = .ok (.istore 5, 2) := by decide +kernel
theorem dX6_needs_29 : decode cX6_needs 29 = .ok (.iconst 0, 1) := by decide +kernel
theorem dX6_needs_30 : decode cX6_needs 30 = .ok (.istore 6, 2) := by decide +kernel
theorem dX6_needs_32 : decode cX6_needs 32 = .ok (.iload 6, 2) := by decide +kernel
theorem dX6_needs_34 : decode cX6_needs 34 = .ok (.bipush 8, 2) := by decide +kernel
theorem dX6_needs_36 : decode cX6_needs 36 = .ok (.if_icmp .ge 105, 3) := by decide +kernel
theorem dX6_needs_39 : decode cX6_needs 39 = .ok (.iload 6, 2) := by decide +kernel
theorem dX6_needs_41 : decode cX6_needs 41 = .ok (.iconst 2, 1) := by decide +kernel
theorem dX6_needs_42 : decode cX6_needs 42 = .ok (.irem, 1) := by decide +kernel
theorem dX6_needs_43 : decode cX6_needs 43 = .ok (.ifCond .eq 26, 3) := by decide +kernel
theorem dX6_needs_46 : decode cX6_needs 46 = .ok (.iload 4, 2) := by decide +kernel
theorem dX6_needs_48 : decode cX6_needs 48 = .ok (.iload 6, 2) := by decide +kernel
theorem dX6_needs_50 : decode cX6_needs 50 = .ok (.iconst 1, 1) := by decide +kernel
theorem dX6_needs_51 : decode cX6_needs 51 = .ok (.isub, 1) := by decide +kernel
theorem dX6_needs_52 : decode cX6_needs 52 = .ok (.invokestatic 80, 3) := by decide +kernel
theorem dX6_needs_55 : decode cX6_needs 55 = .ok (.iload 4, 2) := by decide +kernel
theorem dX6_needs_57 : decode cX6_needs 57 = .ok (.iload 6, 2) := by decide +kernel
theorem dX6_needs_59 : decode cX6_needs 59 = .ok (.iconst 1, 1) := by decide +kernel
theorem dX6_needs_60 : decode cX6_needs 60 = .ok (.iadd, 1) := by decide +kernel
theorem dX6_needs_61 : decode cX6_needs 61 = .ok (.invokestatic 80, 3) := by decide +kernel
theorem dX6_needs_64 : decode cX6_needs 64 = .ok (.iadd, 1) := by decide +kernel
theorem dX6_needs_65 : decode cX6_needs 65 = .ok (.iconst 2, 1) := by decide +kernel
theorem dX6_needs_66 : decode cX6_needs 66 = .ok (.if_icmp .ne 7, 3) := by decide +kernel
theorem dX6_needs_69 : decode cX6_needs 69 = .ok (.iconst 1, 1) := by decide +kernel
theorem dX6_needs_70 : decode cX6_needs 70 = .ok (.goto 4, 3) := by decide +kernel
theorem dX6_needs_73 : decode cX6_needs 73 = .ok (.iconst 0, 1) := by decide +kernel
theorem dX6_needs_74 : decode cX6_needs 74 = .ok (.istore 7, 2) := by decide +kernel
theorem dX6_needs_76 : decode cX6_needs 76 = .ok (.iload 7, 2) := by decide +kernel
theorem dX6_needs_78 : decode cX6_needs 78 = .ok (.ifCond .eq 57, 3) := by decide +kernel
theorem dX6_needs_81 : decode cX6_needs 81 = .ok (.aload_n 0, 1) := by decide +kernel
theorem dX6_needs_82 : decode cX6_needs 82 = .ok (.iload_n 1, 1) := by decide +kernel
theorem dX6_needs_83 : decode cX6_needs 83 = .ok (.iload_n 2, 1) := by decide +kernel
theorem dX6_needs_84 : decode cX6_needs 84 = .ok (.iload 6, 2) := by decide +kernel
theorem dX6_needs_86 : decode cX6_needs 86 = .ok (.invokevirtual 101, 3) := by decide +kernel
theorem dX6_needs_89 : decode cX6_needs 89 = .ok (.iload 4, 2) := by decide +kernel
theorem dX6_needs_91 : decode cX6_needs 91 = .ok (.iload 6, 2) := by decide +kernel
theorem dX6_needs_93 : decode cX6_needs 93 = .ok (.invokestatic 80, 3) := by decide +kernel
theorem dX6_needs_96 : decode cX6_needs 96 = .ok (.iconst 1, 1) := by decide +kernel
theorem dX6_needs_97 : decode cX6_needs 97 = .ok (.if_icmp .ne 7, 3) := by decide +kernel
theorem dX6_needs_100 : decode cX6_needs 100 = .ok (.iconst 1, 1) := by decide +kernel
theorem dX6_needs_101 : decode cX6_needs 101 = .ok (.goto 4, 3) := by decide +kernel
theorem dX6_needs_104 : decode cX6_needs 104 = .ok (.iconst 0, 1) := by decide +kernel
theorem dX6_needs_105 : decode cX6_needs 105 = .ok (.if_icmp .eq 30, 3) := by decide +kernel
theorem dX6_needs_108 : decode cX6_needs 108 = .ok (.aload_n 0, 1) := by decide +kernel
theorem dX6_needs_109 : decode cX6_needs 109 = .ok (.iload_n 1, 1) := by decide +kernel
theorem dX6_needs_110 : decode cX6_needs 110 = .ok (.iload 6, 2) := by decide +kernel
theorem dX6_needs_112 : decode cX6_needs 112 = .ok (.invokestatic 84, 3) := by decide +kernel
theorem dX6_needs_115 : decode cX6_needs 115 = .ok (.iadd, 1) := by decide +kernel
theorem dX6_needs_116 : decode cX6_needs 116 = .ok (.iload_n 2, 1) := by decide +kernel
theorem dX6_needs_117 : decode cX6_needs 117 = .ok (.iload 6, 2) := by decide +kernel
theorem dX6_needs_119 : decode cX6_needs 119 = .ok (.invokestatic 87, 3) := by decide +kernel
theorem dX6_needs_122 : decode cX6_needs 122 = .ok (.iadd, 1) := by decide +kernel
theorem dX6_needs_123 : decode cX6_needs 123 = .ok (.invokevirtual 90, 3) := by decide +kernel
theorem dX6_needs_126 : decode cX6_needs 126 = .ok (.ifCond .ne 6, 3) := by decide +kernel
theorem dX6_needs_129 : decode cX6_needs 129 = .ok (.bipush (-6), 2) := by decide +kernel
theorem dX6_needs_131 : decode cX6_needs 131 = .ok (.ireturn, 1) := by decide +kernel
theorem dX6_needs_132 : decode cX6_needs 132 = .ok (.iinc 5 1, 3) := by decide +kernel
theorem dX6_needs_135 : decode cX6_needs 135 = .ok (.iinc 6 1, 3) := by decide +kernel
theorem dX6_needs_138 : decode cX6_needs 138 = .ok (.goto (-106), 3) := by decide +kernel
theorem dX6_needs_141 : decode cX6_needs 141 = .ok (.iload 5, 2) := by decide +kernel
theorem dX6_needs_143 : decode cX6_needs 143 = .ok (.ireturn, 1) := by decide +kernel
theorem dX6_append_0 : decode cX6_append 0 = .ok (.iload_n 1, 1) := by decide +kernel
theorem dX6_append_1 : decode cX6_append 1 = .ok (.bipush 33, 2) := by decide +kernel
theorem dX6_append_3 : decode cX6_append 3 = .ok (.bipush 126, 2) := by decide +kernel
theorem dX6_append_5 : decode cX6_append 5 = .ok (.invokestatic 61, 3) := by decide +kernel
theorem dX6_append_8 : decode cX6_append 8 = .ok (.ifCond .ne 6, 3) := by decide +kernel
theorem dX6_append_11 : decode cX6_append 11 = .ok (.bipush (-2), 2) := by decide +kernel
theorem dX6_append_13 : decode cX6_append 13 = .ok (.ireturn, 1) := by decide +kernel
theorem dX6_append_14 : decode cX6_append 14 = .ok (.aload_n 0, 1) := by decide +kernel
theorem dX6_append_15 : decode cX6_append 15 = .ok (.getfield 176, 3) := by decide +kernel
theorem dX6_append_18 : decode cX6_append 18 = .ok (.bipush 80, 2) := by decide +kernel
theorem dX6_append_20 : decode cX6_append 20 = .ok (.if_icmp .ne 6, 3) := by decide +kernel
theorem dX6_append_23 : decode cX6_append 23 = .ok (.bipush (-4), 2) := by decide +kernel
theorem dX6_append_25 : decode cX6_append 25 = .ok (.ireturn, 1) := by decide +kernel
theorem dX6_append_26 : decode cX6_append 26 = .ok (.aload_n 0, 1) := by decide +kernel
theorem dX6_append_27 : decode cX6_append 27 = .ok (.getfield 19, 3) := by decide +kernel
theorem dX6_append_30 : decode cX6_append 30 = .ok (.aload_n 0, 1) := by decide +kernel
theorem dX6_append_31 : decode cX6_append 31 = .ok (.getfield 176, 3) := by decide +kernel
theorem dX6_append_34 : decode cX6_append 34 = .ok (.iload_n 1, 1) := by decide +kernel
theorem dX6_append_35 : decode cX6_append 35 = .ok (.i2c, 1) := by decide +kernel
theorem dX6_append_36 : decode cX6_append 36 = .ok (.castore, 1) := by decide +kernel
theorem dX6_append_37 : decode cX6_append 37 = .ok (.aload_n 0, 1) := by decide +kernel
theorem dX6_append_38 : decode cX6_append 38 = .ok (.dup, 1) := by decide +kernel
theorem dX6_append_39 : decode cX6_append 39 = .ok (.getfield 176, 3) := by decide +kernel
theorem dX6_append_42 : decode cX6_append 42 = .ok (.iconst 1, 1) := by decide +kernel
theorem dX6_append_43 : decode cX6_append 43 = .ok (.iadd, 1) := by decide +kernel
theorem dX6_append_44 : decode cX6_append 44 = .ok (.putfield 176, 3) := by decide +kernel
theorem dX6_append_47 : decode cX6_append 47 = .ok (.aload_n 0, 1) := by decide +kernel
theorem dX6_append_48 : decode cX6_append 48 = .ok (.getfield 176, 3) := by decide +kernel
theorem dX6_append_51 : decode cX6_append 51 = .ok (.ireturn, 1) := by decide +kernel
theorem dX6_clearText_0 : decode cX6_clearText 0 = .ok (.aload_n 0, 1) := by decide +kernel
theorem dX6_clearText_1 : decode cX6_clearText 1 = .ok (.getfield 176, 3) := by decide +kernel
theorem dX6_clearText_4 : decode cX6_clearText 4 = .ok (.istore_n 1, 1) := by decide +kernel
theorem dX6_clearText_5 : decode cX6_clearText 5 = .ok (.aload_n 0, 1) := by decide +kernel
theorem dX6_clearText_6 : decode cX6_clearText 6 = .ok (.iconst 0, 1) := by decide +kernel
theorem dX6_clearText_7 : decode cX6_clearText 7 = .ok (.putfield 176, 3) := by decide +kernel
theorem dX6_clearText_10 : decode cX6_clearText 10 = .ok (.iload_n 1, 1) := by decide +kernel
theorem dX6_clearText_11 : decode cX6_clearText 11 = .ok (.ireturn, 1) := by decide +kernel
theorem dX6_room_0 : decode cX6_room 0 = .ok (.aload_n 0, 1) := by decide +kernel
theorem dX6_room_1 : decode cX6_room 1 = .ok (.getfield 179, 3) := by decide +kernel
theorem dX6_room_4 : decode cX6_room 4 = .ok (.ifCond .ne 8, 3) := by decide +kernel
theorem dX6_room_7 : decode cX6_room 7 = .ok (.bipush 12, 2) := by decide +kernel
theorem dX6_room_9 : decode cX6_room 9 = .ok (.goto 7, 3) := by decide +kernel
theorem dX6_room_12 : decode cX6_room 12 = .ok (.aload_n 0, 1) := by decide +kernel
theorem dX6_room_13 : decode cX6_room 13 = .ok (.getfield 182, 3) := by decide +kernel
theorem dX6_room_16 : decode cX6_room 16 = .ok (.aload_n 0, 1) := by decide +kernel
theorem dX6_room_17 : decode cX6_room 17 = .ok (.getfield 185, 3) := by decide +kernel
theorem dX6_room_20 : decode cX6_room 20 = .ok (.isub, 1) := by decide +kernel
theorem dX6_room_21 : decode cX6_room 21 = .ok (.ireturn, 1) := by decide +kernel
theorem dX6_readOne_0 : decode cX6_readOne 0 = .ok (.iload_n 1, 1) := by decide +kernel
theorem dX6_readOne_1 : decode cX6_readOne 1 = .ok (.bipush 48, 2) := by decide +kernel
theorem dX6_readOne_3 : decode cX6_readOne 3 = .ok (.bipush 57, 2) := by decide +kernel
theorem dX6_readOne_5 : decode cX6_readOne 5 = .ok (.invokestatic 61, 3) := by decide +kernel
theorem dX6_readOne_8 : decode cX6_readOne 8 = .ok (.ifCond .eq 99, 3) := by decide +kernel
theorem dX6_readOne_11 : decode cX6_readOne 11 = .ok (.bipush 10, 2) := by decide +kernel
theorem dX6_readOne_13 : decode cX6_readOne 13 = .ok (.aload_n 0, 1) := by decide +kernel
theorem dX6_readOne_14 : decode cX6_readOne 14 = .ok (.getfield 188, 3) := by decide +kernel
theorem dX6_readOne_17 : decode cX6_readOne 17 = .ok (.imul, 1) := by decide +kernel
theorem dX6_readOne_18 : decode cX6_readOne 18 = .ok (.iload_n 1, 1) := by decide +kernel
theorem dX6_readOne_19 : decode cX6_readOne 19 = .ok (.iadd, 1) := by decide +kernel
theorem dX6_readOne_20 : decode cX6_readOne 20 = .ok (.bipush 48, 2) := by decide +kernel
theorem dX6_readOne_22 : decode cX6_readOne 22 = .ok (.isub, 1) := by decide +kernel
theorem dX6_readOne_23 : decode cX6_readOne 23 = .ok (.istore_n 2, 1) := by decide +kernel
theorem dX6_readOne_24 : decode cX6_readOne 24 = .ok (.aload_n 0, 1) := by decide +kernel
theorem dX6_readOne_25 : decode cX6_readOne 25 = .ok (.getfield 188, 3) := by decide +kernel
theorem dX6_readOne_28 : decode cX6_readOne 28 = .ok (.ifCond .ne 33, 3) := by decide +kernel
theorem dX6_readOne_31 : decode cX6_readOne 31 = .ok (.iload_n 2, 1) := by decide +kernel
theorem dX6_readOne_32 : decode cX6_readOne 32 = .ok (.ifCond .le 25, 3) := by decide +kernel
theorem dX6_readOne_35 : decode cX6_readOne 35 = .ok (.iload_n 2, 1) := by decide +kernel
theorem dX6_readOne_36 : decode cX6_readOne 36 = .ok (.iconst 1, 1) := by decide +kernel
theorem dX6_readOne_37 : decode cX6_readOne 37 = .ok (.if_icmp .ne 8, 3) := by decide +kernel
theorem dX6_readOne_40 : decode cX6_readOne 40 = .ok (.bipush 10, 2) := by decide +kernel
theorem dX6_readOne_42 : decode cX6_readOne 42 = .ok (.goto 4, 3) := by decide +kernel
theorem dX6_readOne_45 : decode cX6_readOne 45 = .ok (.iload_n 2, 1) := by decide +kernel
theorem dX6_readOne_46 : decode cX6_readOne 46 = .ok (.aload_n 0, 1) := by decide +kernel
theorem dX6_readOne_47 : decode cX6_readOne 47 = .ok (.invokevirtual 191, 3) := by decide +kernel
theorem dX6_readOne_50 : decode cX6_readOne 50 = .ok (.if_icmp .gt 7, 3) := by decide +kernel
theorem dX6_readOne_53 : decode cX6_readOne 53 = .ok (.iconst 1, 1) := by decide +kernel
theorem dX6_readOne_54 : decode cX6_readOne 54 = .ok (.goto 34, 3) := by decide +kernel
theorem dX6_readOne_57 : decode cX6_readOne 57 = .ok (.iconst 0, 1) := by decide +kernel
theorem dX6_readOne_58 : decode cX6_readOne 58 = .ok (.goto 30, 3) := by decide +kernel
theorem dX6_readOne_61 : decode cX6_readOne 61 = .ok (.aload_n 0, 1) := by decide +kernel
theorem dX6_readOne_62 : decode cX6_readOne 62 = .ok (.getfield 188, 3) := by decide +kernel
theorem dX6_readOne_65 : decode cX6_readOne 65 = .ok (.iconst 1, 1) := by decide +kernel
theorem dX6_readOne_66 : decode cX6_readOne 66 = .ok (.if_icmp .ne 21, 3) := by decide +kernel
theorem dX6_readOne_69 : decode cX6_readOne 69 = .ok (.iload_n 2, 1) := by decide +kernel
theorem dX6_readOne_70 : decode cX6_readOne 70 = .ok (.bipush 12, 2) := by decide +kernel
theorem dX6_readOne_72 : decode cX6_readOne 72 = .ok (.if_icmp .gt 15, 3) := by decide +kernel
theorem dX6_readOne_75 : decode cX6_readOne 75 = .ok (.iload_n 2, 1) := by decide +kernel
theorem dX6_readOne_76 : decode cX6_readOne 76 = .ok (.aload_n 0, 1) := by decide +kernel
theorem dX6_readOne_77 : decode cX6_readOne 77 = .ok (.invokevirtual 191, 3) := by decide +kernel
theorem dX6_readOne_80 : decode cX6_readOne 80 = .ok (.if_icmp .gt 7, 3) := by decide +kernel
theorem dX6_readOne_83 : decode cX6_readOne 83 = .ok (.iconst 1, 1) := by decide +kernel
theorem dX6_readOne_84 : decode cX6_readOne 84 = .ok (.goto 4, 3) := by decide +kernel
theorem dX6_readOne_87 : decode cX6_readOne 87 = .ok (.iconst 0, 1) := by decide +kernel
theorem dX6_readOne_88 : decode cX6_readOne 88 = .ok (.istore_n 3, 1) := by decide +kernel
theorem dX6_readOne_89 : decode cX6_readOne 89 = .ok (.aload_n 0, 1) := by decide +kernel
theorem dX6_readOne_90 : decode cX6_readOne 90 = .ok (.iload_n 3, 1) := by decide +kernel
theorem dX6_readOne_91 : decode cX6_readOne 91 = .ok (.ifCond .eq 7, 3) := by decide +kernel
theorem dX6_readOne_94 : decode cX6_readOne 94 = .ok (.iload_n 2, 1) := by decide +kernel
theorem dX6_readOne_95 : decode cX6_readOne 95 = .ok (.goto 7, 3) := by decide +kernel
theorem dX6_readOne_98 : decode cX6_readOne 98 = .ok (.aload_n 0, 1) := by decide +kernel
theorem dX6_readOne_99 : decode cX6_readOne 99 = .ok (.getfield 188, 3) := by decide +kernel
theorem dX6_readOne_102 : decode cX6_readOne 102 = .ok (.putfield 188, 3) := by decide +kernel
theorem dX6_readOne_105 : decode cX6_readOne 105 = .ok (.iload_n 3, 1) := by decide +kernel
theorem dX6_readOne_106 : decode cX6_readOne 106 = .ok (.ireturn, 1) := by decide +kernel
theorem dX6_readOne_107 : decode cX6_readOne 107 = .ok (.iload_n 1, 1) := by decide +kernel
theorem dX6_readOne_108 : decode cX6_readOne 108 = .ok (.bipush 46, 2) := by decide +kernel
theorem dX6_readOne_110 : decode cX6_readOne 110 = .ok (.if_icmp .eq 9, 3) := by decide +kernel
theorem dX6_readOne_113 : decode cX6_readOne 113 = .ok (.iload_n 1, 1) := by decide +kernel
theorem dX6_readOne_114 : decode cX6_readOne 114 = .ok (.bipush 35, 2) := by decide +kernel
theorem dX6_readOne_116 : decode cX6_readOne 116 = .ok (.if_icmp .ne 95, 3) := by decide +kernel
theorem dX6_readOne_119 : decode cX6_readOne 119 = .ok (.aload_n 0, 1) := by decide +kernel
theorem dX6_readOne_120 : decode cX6_readOne 120 = .ok (.getfield 188, 3) := by decide +kernel
theorem dX6_readOne_123 : decode cX6_readOne 123 = .ok (.ifCond .ne 7, 3) := by decide +kernel
theorem dX6_readOne_126 : decode cX6_readOne 126 = .ok (.iconst 1, 1) := by decide +kernel
theorem dX6_readOne_127 : decode cX6_readOne 127 = .ok (.goto 7, 3) := by decide +kernel
theorem dX6_readOne_130 : decode cX6_readOne 130 = .ok (.aload_n 0, 1) := by decide +kernel
theorem dX6_readOne_131 : decode cX6_readOne 131 = .ok (.getfield 188, 3) := by decide +kernel
theorem dX6_readOne_134 : decode cX6_readOne 134 = .ok (.istore_n 2, 1) := by decide +kernel
theorem dX6_readOne_135 : decode cX6_readOne 135 = .ok (.aload_n 0, 1) := by decide +kernel
theorem dX6_readOne_136 : decode cX6_readOne 136 = .ok (.getfield 188, 3) := by decide +kernel
theorem dX6_readOne_139 : decode cX6_readOne 139 = .ok (.iconst 1, 1) := by decide +kernel
theorem dX6_readOne_140 : decode cX6_readOne 140 = .ok (.if_icmp .eq 11, 3) := by decide +kernel
theorem dX6_readOne_143 : decode cX6_readOne 143 = .ok (.iload_n 2, 1) := by decide +kernel
theorem dX6_readOne_144 : decode cX6_readOne 144 = .ok (.aload_n 0, 1) := by decide +kernel
theorem dX6_readOne_145 : decode cX6_readOne 145 = .ok (.invokevirtual 191, 3) := by decide +kernel
theorem dX6_readOne_148 : decode cX6_readOne 148 = .ok (.if_icmp .le 5, 3) := by decide +kernel
theorem dX6_readOne_151 : decode cX6_readOne 151 = .ok (.iconst 0, 1) := by decide +kernel
theorem dX6_readOne_152 : decode cX6_readOne 152 = .ok (.ireturn, 1) := by decide +kernel
theorem dX6_readOne_153 : decode cX6_readOne 153 = .ok (.iconst 0, 1) := by decide +kernel
theorem dX6_readOne_154 : decode cX6_readOne 154 = .ok (.istore_n 3, 1) := by decide +kernel
theorem dX6_readOne_155 : decode cX6_readOne 155 = .ok (.iload_n 3, 1) := by decide +kernel
theorem dX6_readOne_156 : decode cX6_readOne 156 = .ok (.iload_n 2, 1) := by decide +kernel
theorem dX6_readOne_157 : decode cX6_readOne 157 = .ok (.if_icmp .ge 47, 3) := by decide +kernel
theorem dX6_readOne_160 : decode cX6_readOne 160 = .ok (.aload_n 0, 1) := by decide +kernel
theorem dX6_readOne_161 : decode cX6_readOne 161 = .ok (.getfield 51, 3) := by decide +kernel
theorem dX6_readOne_164 : decode cX6_readOne 164 = .ok (.bipush 12, 2) := by decide +kernel
theorem dX6_readOne_166 : decode cX6_readOne 166 = .ok (.aload_n 0, 1) := by decide +kernel
theorem dX6_readOne_167 : decode cX6_readOne 167 = .ok (.getfield 179, 3) := by decide +kernel
theorem dX6_readOne_170 : decode cX6_readOne 170 = .ok (.imul, 1) := by decide +kernel
theorem dX6_readOne_171 : decode cX6_readOne 171 = .ok (.aload_n 0, 1) := by decide +kernel
theorem dX6_readOne_172 : decode cX6_readOne 172 = .ok (.getfield 185, 3) := by decide +kernel
theorem dX6_readOne_175 : decode cX6_readOne 175 = .ok (.iadd, 1) := by decide +kernel
theorem dX6_readOne_176 : decode cX6_readOne 176 = .ok (.iload_n 1, 1) := by decide +kernel
theorem dX6_readOne_177 : decode cX6_readOne 177 = .ok (.bipush 35, 2) := by decide +kernel
theorem dX6_readOne_179 : decode cX6_readOne 179 = .ok (.if_icmp .ne 7, 3) := by decide +kernel
theorem dX6_readOne_182 : decode cX6_readOne 182 = .ok (.iconst 1, 1) := by decide +kernel
theorem dX6_readOne_183 : decode cX6_readOne 183 = .ok (.goto 4, 3) := by decide +kernel
theorem dX6_readOne_186 : decode cX6_readOne 186 = .ok (.iconst 0, 1) := by decide +kernel
theorem dX6_readOne_187 : decode cX6_readOne 187 = .ok (.iastore, 1) := by decide +kernel
theorem dX6_readOne_188 : decode cX6_readOne 188 = .ok (.aload_n 0, 1) := by decide +kernel
theorem dX6_readOne_189 : decode cX6_readOne 189 = .ok (.dup, 1) := by decide +kernel
theorem dX6_readOne_190 : decode cX6_readOne 190 = .ok (.getfield 185, 3) := by decide +kernel
theorem dX6_readOne_193 : decode cX6_readOne 193 = .ok (.iconst 1, 1) := by decide +kernel
theorem dX6_readOne_194 : decode cX6_readOne 194 = .ok (.iadd, 1) := by decide +kernel
theorem dX6_readOne_195 : decode cX6_readOne 195 = .ok (.putfield 185, 3) := by decide +kernel
theorem dX6_readOne_198 : decode cX6_readOne 198 = .ok (.iinc 3 1, 3) := by decide +kernel
theorem dX6_readOne_201 : decode cX6_readOne 201 = .ok (.goto (-46), 3) := by decide +kernel
theorem dX6_readOne_204 : decode cX6_readOne 204 = .ok (.aload_n 0, 1) := by decide +kernel
theorem dX6_readOne_205 : decode cX6_readOne 205 = .ok (.iconst 0, 1) := by decide +kernel
theorem dX6_readOne_206 : decode cX6_readOne 206 = .ok (.putfield 188, 3) := by decide +kernel
theorem dX6_readOne_209 : decode cX6_readOne 209 = .ok (.iconst 1, 1) := by decide +kernel
theorem dX6_readOne_210 : decode cX6_readOne 210 = .ok (.ireturn, 1) := by decide +kernel
theorem dX6_readOne_211 : decode cX6_readOne 211 = .ok (.iload_n 1, 1) := by decide +kernel
theorem dX6_readOne_212 : decode cX6_readOne 212 = .ok (.bipush 47, 2) := by decide +kernel
theorem dX6_readOne_214 : decode cX6_readOne 214 = .ok (.if_icmp .ne 23, 3) := by decide +kernel
theorem dX6_readOne_217 : decode cX6_readOne 217 = .ok (.aload_n 0, 1) := by decide +kernel
theorem dX6_readOne_218 : decode cX6_readOne 218 = .ok (.invokevirtual 194, 3) := by decide +kernel
theorem dX6_readOne_221 : decode cX6_readOne 221 = .ok (.ifCond .eq 16, 3) := by decide +kernel
theorem dX6_readOne_224 : decode cX6_readOne 224 = .ok (.aload_n 0, 1) := by decide +kernel
theorem dX6_readOne_225 : decode cX6_readOne 225 = .ok (.getfield 179, 3) := by decide +kernel
theorem dX6_readOne_228 : decode cX6_readOne 228 = .ok (.bipush 11, 2) := by decide +kernel
theorem dX6_readOne_230 : decode cX6_readOne 230 = .ok (.if_icmp .ge 7, 3) := by decide +kernel
theorem dX6_readOne_233 : decode cX6_readOne 233 = .ok (.iconst 1, 1) := by decide +kernel
theorem dX6_readOne_234 : decode cX6_readOne 234 = .ok (.goto 4, 3) := by decide +kernel
theorem dX6_readOne_237 : decode cX6_readOne 237 = .ok (.iconst 0, 1) := by decide +kernel
theorem dX6_readOne_238 : decode cX6_readOne 238 = .ok (.istore_n 2, 1) := by decide +kernel
theorem dX6_readOne_239 : decode cX6_readOne 239 = .ok (.iload_n 2, 1) := by decide +kernel
theorem dX6_readOne_240 : decode cX6_readOne 240 = .ok (.ifCond .eq 7, 3) := by decide +kernel
theorem dX6_readOne_243 : decode cX6_readOne 243 = .ok (.aload_n 0, 1) := by decide +kernel
theorem dX6_readOne_244 : decode cX6_readOne 244 = .ok (.invokevirtual 197, 3) := by decide +kernel
theorem dX6_readOne_247 : decode cX6_readOne 247 = .ok (.iload_n 2, 1) := by decide +kernel
theorem dX6_readOne_248 : decode cX6_readOne 248 = .ok (.ireturn, 1) := by decide +kernel
theorem dX6_isRowWhole_0 : decode cX6_isRowWhole 0 = .ok (.aload_n 0, 1) := by decide +kernel
theorem dX6_isRowWhole_1 : decode cX6_isRowWhole 1 = .ok (.getfield 188, 3) := by decide +kernel
theorem dX6_isRowWhole_4 : decode cX6_isRowWhole 4 = .ok (.ifCond .ne 32, 3) := by decide +kernel
theorem dX6_isRowWhole_7 : decode cX6_isRowWhole 7 = .ok (.aload_n 0, 1) := by decide +kernel
theorem dX6_isRowWhole_8 : decode cX6_isRowWhole 8 = .ok (.getfield 185, 3) := by decide +kernel
theorem dX6_isRowWhole_11 : decode cX6_isRowWhole 11 = .ok (.ifCond .le 25, 3) := by decide +kernel
theorem dX6_isRowWhole_14 : decode cX6_isRowWhole 14 = .ok (.aload_n 0, 1) := by decide +kernel
theorem dX6_isRowWhole_15 : decode cX6_isRowWhole 15 = .ok (.getfield 179, 3) := by decide +kernel
theorem dX6_isRowWhole_18 : decode cX6_isRowWhole 18 = .ok (.ifCond .eq 14, 3) := by decide +kernel
theorem dX6_isRowWhole_21 : decode cX6_isRowWhole 21 = .ok (.aload_n 0, 1) := by decide +kernel
theorem dX6_isRowWhole_22 : decode cX6_isRowWhole 22 = .ok (.getfield 185, 3) := by decide +kernel
theorem dX6_isRowWhole_25 : decode cX6_isRowWhole 25 = .ok (.aload_n 0, 1) := by decide +kernel
theorem dX6_isRowWhole_26 : decode cX6_isRowWhole 26 = .ok (.getfield 182, 3) := by decide +kernel
theorem dX6_isRowWhole_29 : decode cX6_isRowWhole 29 = .ok (.if_icmp .ne 7, 3) := by decide +kernel
theorem dX6_isRowWhole_32 : decode cX6_isRowWhole 32 = .ok (.iconst 1, 1) := by decide +kernel
theorem dX6_isRowWhole_33 : decode cX6_isRowWhole 33 = .ok (.goto 4, 3) := by decide +kernel
theorem dX6_isRowWhole_36 : decode cX6_isRowWhole 36 = .ok (.iconst 0, 1) := by decide +kernel
theorem dX6_isRowWhole_37 : decode cX6_isRowWhole 37 = .ok (.ireturn, 1) := by decide +kernel
theorem dX6_endRow_0 : decode cX6_endRow 0 = .ok (.aload_n 0, 1) := by decide +kernel
theorem dX6_endRow_1 : decode cX6_endRow 1 = .ok (.aload_n 0, 1) := by decide +kernel
theorem dX6_endRow_2 : decode cX6_endRow 2 = .ok (.getfield 185, 3) := by decide +kernel
theorem dX6_endRow_5 : decode cX6_endRow 5 = .ok (.putfield 182, 3) := by decide +kernel
theorem dX6_endRow_8 : decode cX6_endRow 8 = .ok (.aload_n 0, 1) := by decide +kernel
theorem dX6_endRow_9 : decode cX6_endRow 9 = .ok (.dup, 1) := by decide +kernel
theorem dX6_endRow_10 : decode cX6_endRow 10 = .ok (.getfield 179, 3) := by decide +kernel
theorem dX6_endRow_13 : decode cX6_endRow 13 = .ok (.iconst 1, 1) := by decide +kernel
theorem dX6_endRow_14 : decode cX6_endRow 14 = .ok (.iadd, 1) := by decide +kernel
theorem dX6_endRow_15 : decode cX6_endRow 15 = .ok (.putfield 179, 3) := by decide +kernel
theorem dX6_endRow_18 : decode cX6_endRow 18 = .ok (.aload_n 0, 1) := by decide +kernel
theorem dX6_endRow_19 : decode cX6_endRow 19 = .ok (.iconst 0, 1) := by decide +kernel
theorem dX6_endRow_20 : decode cX6_endRow 20 = .ok (.putfield 185, 3) := by decide +kernel
theorem dX6_endRow_23 : decode cX6_endRow 23 = .ok (.return_, 1) := by decide +kernel
theorem dX6_errorPosition_0 : decode cX6_errorPosition 0 = .ok (.aload_n 0, 1) := by decide +kernel
theorem dX6_errorPosition_1 : decode cX6_errorPosition 1 = .ok (.iconst 0, 1) := by decide +kernel
theorem dX6_errorPosition_2 : decode cX6_errorPosition 2 = .ok (.putfield 179, 3) := by decide +kernel
theorem dX6_errorPosition_5 : decode cX6_errorPosition 5 = .ok (.aload_n 0, 1) := by decide +kernel
theorem dX6_errorPosition_6 : decode cX6_errorPosition 6 = .ok (.iconst 0, 1) := by decide +kernel
theorem dX6_errorPosition_7 : decode cX6_errorPosition 7 = .ok (.putfield 182, 3) := by decide +kernel
theorem dX6_errorPosition_10 : decode cX6_errorPosition 10 = .ok (.aload_n 0, 1) := by decide +kernel
theorem dX6_errorPosition_11 : decode cX6_errorPosition 11 = .ok (.iconst 0, 1) := by decide +kernel
theorem dX6_errorPosition_12 : decode cX6_errorPosition 12 = .ok (.putfield 185, 3) := by decide +kernel
theorem dX6_errorPosition_15 : decode cX6_errorPosition 15 = .ok (.aload_n 0, 1) := by decide +kernel
theorem dX6_errorPosition_16 : decode cX6_errorPosition 16 = .ok (.iconst 0, 1) := by decide +kernel
theorem dX6_errorPosition_17 : decode cX6_errorPosition 17 = .ok (.putfield 188, 3) := by decide +kernel
theorem dX6_errorPosition_20 : decode cX6_errorPosition 20 = .ok (.iconst 0, 1) := by decide +kernel
theorem dX6_errorPosition_21 : decode cX6_errorPosition 21 = .ok (.istore_n 1, 1) := by decide +kernel
theorem dX6_errorPosition_22 : decode cX6_errorPosition 22 = .ok (.iload_n 1, 1) := by decide +kernel
theorem dX6_errorPosition_23 : decode cX6_errorPosition 23 = .ok (.aload_n 0, 1) := by decide +kernel
theorem dX6_errorPosition_24 : decode cX6_errorPosition 24 = .ok (.getfield 176, 3) := by decide +kernel
theorem dX6_errorPosition_27 : decode cX6_errorPosition 27 = .ok (.if_icmp .ge 24, 3) := by decide +kernel
theorem dX6_errorPosition_30 : decode cX6_errorPosition 30 = .ok (.aload_n 0, 1) := by decide +kernel
theorem dX6_errorPosition_31 : decode cX6_errorPosition 31 = .ok (.aload_n 0, 1) := by decide +kernel
theorem dX6_errorPosition_32 : decode cX6_errorPosition 32 = .ok (.getfield 19, 3) := by decide +kernel
theorem dX6_errorPosition_35 : decode cX6_errorPosition 35 = .ok (.iload_n 1, 1) := by decide +kernel
theorem dX6_errorPosition_36 : decode cX6_errorPosition 36 = .ok (.caload, 1) := by decide +kernel
theorem dX6_errorPosition_37 : decode cX6_errorPosition 37 = .ok (.invokevirtual 200, 3) := by decide +kernel
theorem dX6_errorPosition_40 : decode cX6_errorPosition 40 = .ok (.ifCond .ne 5, 3) := by decide +kernel
theorem dX6_errorPosition_43 : decode cX6_errorPosition 43 = .ok (.iload_n 1, 1) := by decide +kernel
theorem dX6_errorPosition_44 : decode cX6_errorPosition 44 = .ok (.ireturn, 1) := by decide +kernel
theorem dX6_errorPosition_45 : decode cX6_errorPosition 45 = .ok (.iinc 1 1, 3) := by decide +kernel
theorem dX6_errorPosition_48 : decode cX6_errorPosition 48 = .ok (.goto (-26), 3) := by decide +kernel
theorem dX6_errorPosition_51 : decode cX6_errorPosition 51 = .ok (.aload_n 0, 1) := by decide +kernel
theorem dX6_errorPosition_52 : decode cX6_errorPosition 52 = .ok (.invokevirtual 194, 3) := by decide +kernel
theorem dX6_errorPosition_55 : decode cX6_errorPosition 55 = .ok (.ifCond .eq 8, 3) := by decide +kernel
theorem dX6_errorPosition_58 : decode cX6_errorPosition 58 = .ok (.bipush (-6), 2) := by decide +kernel
theorem dX6_errorPosition_60 : decode cX6_errorPosition 60 = .ok (.goto 7, 3) := by decide +kernel
theorem dX6_errorPosition_63 : decode cX6_errorPosition 63 = .ok (.aload_n 0, 1) := by decide +kernel
theorem dX6_errorPosition_64 : decode cX6_errorPosition 64 = .ok (.getfield 176, 3) := by decide +kernel
theorem dX6_errorPosition_67 : decode cX6_errorPosition 67 = .ok (.ireturn, 1) := by decide +kernel
theorem dX6_read_0 : decode cX6_read 0 = .ok (.aload_n 0, 1) := by decide +kernel
theorem dX6_read_1 : decode cX6_read 1 = .ok (.invokevirtual 203, 3) := by decide +kernel
theorem dX6_read_4 : decode cX6_read 4 = .ok (.bipush (-6), 2) := by decide +kernel
theorem dX6_read_6 : decode cX6_read 6 = .ok (.if_icmp .eq 6, 3) := by decide +kernel
theorem dX6_read_9 : decode cX6_read 9 = .ok (.bipush (-5), 2) := by decide +kernel
theorem dX6_read_11 : decode cX6_read 11 = .ok (.ireturn, 1) := by decide +kernel
theorem dX6_read_12 : decode cX6_read 12 = .ok (.aload_n 0, 1) := by decide +kernel
theorem dX6_read_13 : decode cX6_read 13 = .ok (.invokevirtual 197, 3) := by decide +kernel
theorem dX6_read_16 : decode cX6_read 16 = .ok (.aload_n 0, 1) := by decide +kernel
theorem dX6_read_17 : decode cX6_read 17 = .ok (.invokevirtual 77, 3) := by decide +kernel
theorem dX6_read_20 : decode cX6_read 20 = .ok (.aload_n 0, 1) := by decide +kernel
theorem dX6_read_21 : decode cX6_read 21 = .ok (.getfield 7, 3) := by decide +kernel
theorem dX6_read_24 : decode cX6_read 24 = .ok (.iconst 0, 1) := by decide +kernel
theorem dX6_read_25 : decode cX6_read 25 = .ok (.aload_n 0, 1) := by decide +kernel
theorem dX6_read_26 : decode cX6_read 26 = .ok (.getfield 179, 3) := by decide +kernel
theorem dX6_read_29 : decode cX6_read 29 = .ok (.iastore, 1) := by decide +kernel
theorem dX6_read_30 : decode cX6_read 30 = .ok (.aload_n 0, 1) := by decide +kernel
theorem dX6_read_31 : decode cX6_read 31 = .ok (.getfield 7, 3) := by decide +kernel
theorem dX6_read_34 : decode cX6_read 34 = .ok (.iconst 1, 1) := by decide +kernel
theorem dX6_read_35 : decode cX6_read 35 = .ok (.aload_n 0, 1) := by decide +kernel
theorem dX6_read_36 : decode cX6_read 36 = .ok (.getfield 182, 3) := by decide +kernel
theorem dX6_read_39 : decode cX6_read 39 = .ok (.iastore, 1) := by decide +kernel
theorem dX6_read_40 : decode cX6_read 40 = .ok (.aload_n 0, 1) := by decide +kernel
theorem dX6_read_41 : decode cX6_read 41 = .ok (.invokevirtual 58, 3) := by decide +kernel
theorem dX6_read_44 : decode cX6_read 44 = .ok (.iconst 0, 1) := by decide +kernel
theorem dX6_read_45 : decode cX6_read 45 = .ok (.istore_n 1, 1) := by decide +kernel
theorem dX6_read_46 : decode cX6_read 46 = .ok (.iload_n 1, 1) := by decide +kernel
theorem dX6_read_47 : decode cX6_read 47 = .ok (.aload_n 0, 1) := by decide +kernel
theorem dX6_read_48 : decode cX6_read 48 = .ok (.invokevirtual 116, 3) := by decide +kernel
theorem dX6_read_51 : decode cX6_read 51 = .ok (.if_icmp .ge 38, 3) := by decide +kernel
theorem dX6_read_54 : decode cX6_read 54 = .ok (.aload_n 0, 1) := by decide +kernel
theorem dX6_read_55 : decode cX6_read 55 = .ok (.getfield 7, 3) := by decide +kernel
theorem dX6_read_58 : decode cX6_read 58 = .ok (.iconst 3, 1) := by decide +kernel
theorem dX6_read_59 : decode cX6_read 59 = .ok (.iload_n 1, 1) := by decide +kernel
theorem dX6_read_60 : decode cX6_read 60 = .ok (.iadd, 1) := by decide +kernel
theorem dX6_read_61 : decode cX6_read 61 = .ok (.aload_n 0, 1) := by decide +kernel
theorem dX6_read_62 : decode cX6_read 62 = .ok (.getfield 51, 3) := by decide +kernel
theorem dX6_read_65 : decode cX6_read 65 = .ok (.bipush 12, 2) := by decide +kernel
theorem dX6_read_67 : decode cX6_read 67 = .ok (.iload_n 1, 1) := by decide +kernel
theorem dX6_read_68 : decode cX6_read 68 = .ok (.aload_n 0, 1) := by decide +kernel
theorem dX6_read_69 : decode cX6_read 69 = .ok (.getfield 182, 3) := by decide +kernel
theorem dX6_read_72 : decode cX6_read 72 = .ok (.idiv, 1) := by decide +kernel
theorem dX6_read_73 : decode cX6_read 73 = .ok (.imul, 1) := by decide +kernel
theorem dX6_read_74 : decode cX6_read 74 = .ok (.iload_n 1, 1) := by decide +kernel
theorem dX6_read_75 : decode cX6_read 75 = .ok (.aload_n 0, 1) := by decide +kernel
theorem dX6_read_76 : decode cX6_read 76 = .ok (.getfield 182, 3) := by decide +kernel
theorem dX6_read_79 : decode cX6_read 79 = .ok (.irem, 1) := by decide +kernel
theorem dX6_read_80 : decode cX6_read 80 = .ok (.iadd, 1) := by decide +kernel
theorem dX6_read_81 : decode cX6_read 81 = .ok (.iaload, 1) := by decide +kernel
theorem dX6_read_82 : decode cX6_read 82 = .ok (.iastore, 1) := by decide +kernel
theorem dX6_read_83 : decode cX6_read 83 = .ok (.iinc 1 1, 3) := by decide +kernel
theorem dX6_read_86 : decode cX6_read 86 = .ok (.goto (-40), 3) := by decide +kernel
theorem dX6_read_89 : decode cX6_read 89 = .ok (.aload_n 0, 1) := by decide +kernel
theorem dX6_read_90 : decode cX6_read 90 = .ok (.iconst 0, 1) := by decide +kernel
theorem dX6_read_91 : decode cX6_read 91 = .ok (.putfield 176, 3) := by decide +kernel
theorem dX6_read_94 : decode cX6_read 94 = .ok (.aload_n 0, 1) := by decide +kernel
theorem dX6_read_95 : decode cX6_read 95 = .ok (.invokevirtual 73, 3) := by decide +kernel
theorem dX6_read_98 : decode cX6_read 98 = .ok (.ireturn, 1) := by decide +kernel
