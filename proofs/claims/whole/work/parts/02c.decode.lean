theorem dX5_init_0 : decode cX5_init 0 = .ok (.aload_n 0, 1) := by decide +kernel
theorem dX5_init_1 : decode cX5_init 1 = .ok (.invokespecial 1, 3) := by decide +kernel
theorem dX5_init_4 : decode cX5_init 4 = .ok (.aload_n 0, 1) := by decide +kernel
theorem dX5_init_5 : decode cX5_init 5 = .ok (.bipush 90, 2) := by decide +kernel
theorem dX5_init_7 : decode cX5_init 7 = .ok (.newarray .int, 2) := by decide +kernel
theorem dX5_init_9 : decode cX5_init 9 = .ok (.putfield 7, 3) := by decide +kernel
theorem dX5_init_12 : decode cX5_init 12 = .ok (.aload_n 0, 1) := by decide +kernel
theorem dX5_init_13 : decode cX5_init 13 = .ok (.bipush 6, 2) := by decide +kernel
theorem dX5_init_15 : decode cX5_init 15 = .ok (.putfield 13, 3) := by decide +kernel
theorem dX5_init_18 : decode cX5_init 18 = .ok (.aload_n 0, 1) := by decide +kernel
theorem dX5_init_19 : decode cX5_init 19 = .ok (.iconst 5, 1) := by decide +kernel
theorem dX5_init_20 : decode cX5_init 20 = .ok (.newarray .int, 2) := by decide +kernel
theorem dX5_init_22 : decode cX5_init 22 = .ok (.putfield 17, 3) := by decide +kernel
theorem dX5_init_25 : decode cX5_init 25 = .ok (.aload_n 0, 1) := by decide +kernel
theorem dX5_init_26 : decode cX5_init 26 = .ok (.iconst 4, 1) := by decide +kernel
theorem dX5_init_27 : decode cX5_init 27 = .ok (.newarray .int, 2) := by decide +kernel
theorem dX5_init_29 : decode cX5_init 29 = .ok (.putfield 20, 3) := by decide +kernel
theorem dX5_init_32 : decode cX5_init 32 = .ok (.aload_n 0, 1) := by decide +kernel
theorem dX5_init_33 : decode cX5_init 33 = .ok (.bipush 103, 2) := by decide +kernel
theorem dX5_init_35 : decode cX5_init 35 = .ok (.newarray .int, 2) := by decide +kernel
theorem dX5_init_37 : decode cX5_init 37 = .ok (.putfield 23, 3) := by decide +kernel
theorem dX5_init_40 : decode cX5_init 40 = .ok (.aload_n 0, 1) := by decide +kernel
theorem dX5_init_41 : decode cX5_init 41 = .ok (.bipush 103, 2) := by decide +kernel
theorem dX5_init_43 : decode cX5_init 43 = .ok (.newarray .int, 2) := by decide +kernel
theorem dX5_init_45 : decode cX5_init 45 = .ok (.putfield 26, 3) := by decide +kernel
theorem dX5_init_48 : decode cX5_init 48 = .ok (.aload_n 0, 1) := by decide +kernel
theorem dX5_init_49 : decode cX5_init 49 = .ok (.sipush 1442, 3) := by decide +kernel
theorem dX5_init_52 : decode cX5_init 52 = .ok (.newarray .int, 2) := by decide +kernel
theorem dX5_init_54 : decode cX5_init 54 = .ok (.putfield 29, 3) := by decide +kernel
theorem dX5_init_57 : decode cX5_init 57 = .ok (.aload_n 0, 1) := by decide +kernel
theorem dX5_init_58 : decode cX5_init 58 = .ok (.sipush 206, 3) := by decide +kernel
theorem dX5_init_61 : decode cX5_init 61 = .ok (.newarray .int, 2) := by decide +kernel
theorem dX5_init_63 : decode cX5_init 63 = .ok (.putfield 32, 3) := by decide +kernel
theorem dX5_init_66 : decode cX5_init 66 = .ok (.aload_n 0, 1) := by decide +kernel
theorem dX5_init_67 : decode cX5_init 67 = .ok (.iconst 2, 1) := by decide +kernel
theorem dX5_init_68 : decode cX5_init 68 = .ok (.newarray .boolean, 2) := by decide +kernel
theorem dX5_init_70 : decode cX5_init 70 = .ok (.putfield 35, 3) := by decide +kernel
theorem dX5_init_73 : decode cX5_init 73 = .ok (.aload_n 0, 1) := by decide +kernel
theorem dX5_init_74 : decode cX5_init 74 = .ok (.bipush 6, 2) := by decide +kernel
theorem dX5_init_76 : decode cX5_init 76 = .ok (.newarray .int, 2) := by decide +kernel
theorem dX5_init_78 : decode cX5_init 78 = .ok (.putfield 39, 3) := by decide +kernel
theorem dX5_init_81 : decode cX5_init 81 = .ok (.aload_n 0, 1) := by decide +kernel
theorem dX5_init_82 : decode cX5_init 82 = .ok (.bipush 6, 2) := by decide +kernel
theorem dX5_init_84 : decode cX5_init 84 = .ok (.newarray .int, 2) := by decide +kernel
theorem dX5_init_86 : decode cX5_init 86 = .ok (.putfield 42, 3) := by decide +kernel
theorem dX5_init_89 : decode cX5_init 89 = .ok (.aload_n 0, 1) := by decide +kernel
theorem dX5_init_90 : decode cX5_init 90 = .ok (.bipush 6, 2) := by decide +kernel
theorem dX5_init_92 : decode cX5_init 92 = .ok (.newarray .int, 2) := by decide +kernel
theorem dX5_init_94 : decode cX5_init 94 = .ok (.putfield 45, 3) := by decide +kernel
theorem dX5_init_97 : decode cX5_init 97 = .ok (.aload_n 0, 1) := by decide +kernel
theorem dX5_init_98 : decode cX5_init 98 = .ok (.bipush 16, 2) := by decide +kernel
theorem dX5_init_100 : decode cX5_init 100 = .ok (.newarray .int, 2) := by decide +kernel
theorem dX5_init_102 : decode cX5_init 102 = .ok (.putfield 48, 3) := by decide +kernel
theorem dX5_init_105 : decode cX5_init 105 = .ok (.aload_n 0, 1) := by decide +kernel
theorem dX5_init_106 : decode cX5_init 106 = .ok (.bipush 6, 2) := by decide +kernel
theorem dX5_init_108 : decode cX5_init 108 = .ok (.newarray .int, 2) := by decide +kernel
theorem dX5_init_110 : decode cX5_init 110 = .ok (.putfield 51, 3) := by decide +kernel
theorem dX5_init_113 : decode cX5_init 113 = .ok (.aload_n 0, 1) := by decide +kernel
theorem dX5_init_114 : decode cX5_init 114 = .ok (.iconst 4, 1) := by decide +kernel
theorem dX5_init_115 : decode cX5_init 115 = .ok (.newarray .int, 2) := by decide +kernel
theorem dX5_init_117 : decode cX5_init 117 = .ok (.putfield 54, 3) := by decide +kernel
theorem dX5_init_120 : decode cX5_init 120 = .ok (.aload_n 0, 1) := by decide +kernel
theorem dX5_init_121 : decode cX5_init 121 = .ok (.iconst 4, 1) := by decide +kernel
theorem dX5_init_122 : decode cX5_init 122 = .ok (.newarray .int, 2) := by decide +kernel
theorem dX5_init_124 : decode cX5_init 124 = .ok (.putfield 57, 3) := by decide +kernel
theorem dX5_init_127 : decode cX5_init 127 = .ok (.aload_n 0, 1) := by decide +kernel
theorem dX5_init_128 : decode cX5_init 128 = .ok (.iconst 2, 1) := by decide +kernel
theorem dX5_init_129 : decode cX5_init 129 = .ok (.newarray .int, 2) := by decide +kernel
theorem dX5_init_131 : decode cX5_init 131 = .ok (.putfield 60, 3) := by decide +kernel
theorem dX5_init_134 : decode cX5_init 134 = .ok (.aload_n 0, 1) := by decide +kernel
theorem dX5_init_135 : decode cX5_init 135 = .ok (.bipush 24, 2) := by decide +kernel
theorem dX5_init_137 : decode cX5_init 137 = .ok (.newarray .int, 2) := by decide +kernel
theorem dX5_init_139 : decode cX5_init 139 = .ok (.putfield 63, 3) := by decide +kernel
theorem dX5_init_142 : decode cX5_init 142 = .ok (.iconst 0, 1) := by decide +kernel
theorem dX5_init_143 : decode cX5_init 143 = .ok (.istore_n 1, 1) := by decide +kernel
theorem dX5_init_144 : decode cX5_init 144 = .ok (.iload_n 1, 1) := by decide +kernel
theorem dX5_init_145 : decode cX5_init 145 = .ok (.iconst 5, 1) := by decide +kernel
theorem dX5_init_146 : decode cX5_init 146 = .ok (.if_icmp .ge 18, 3) := by decide +kernel
theorem dX5_init_149 : decode cX5_init 149 = .ok (.aload_n 0, 1) := by decide +kernel
theorem dX5_init_150 : decode cX5_init 150 = .ok (.getfield 17, 3) := by decide +kernel
theorem dX5_init_153 : decode cX5_init 153 = .ok (.iload_n 1, 1) := by decide +kernel
theorem dX5_init_154 : decode cX5_init 154 = .ok (.iload_n 1, 1) := by decide +kernel
theorem dX5_init_155 : decode cX5_init 155 = .ok (.iconst 1, 1) := by decide +kernel
theorem dX5_init_156 : decode cX5_init 156 = .ok (.iadd, 1) := by decide +kernel
theorem dX5_init_157 : decode cX5_init 157 = .ok (.iastore, 1) := by decide +kernel
theorem dX5_init_158 : decode cX5_init 158 = .ok (.iinc 1 1, 3) := by decide +kernel
theorem dX5_init_161 : decode cX5_init 161 = .ok (.goto (-17), 3) := by decide +kernel
theorem dX5_init_164 : decode cX5_init 164 = .ok (.aload_n 0, 1) := by decide +kernel
theorem dX5_init_165 : decode cX5_init 165 = .ok (.bipush 15, 2) := by decide +kernel
theorem dX5_init_167 : decode cX5_init 167 = .ok (.putfield 66, 3) := by decide +kernel
theorem dX5_init_170 : decode cX5_init 170 = .ok (.aload_n 0, 1) := by decide +kernel
theorem dX5_init_171 : decode cX5_init 171 = .ok (.bipush (-9), 2) := by decide +kernel
theorem dX5_init_173 : decode cX5_init 173 = .ok (.putfield 69, 3) := by decide +kernel
theorem dX5_init_176 : decode cX5_init 176 = .ok (.iconst 0, 1) := by decide +kernel
theorem dX5_init_177 : decode cX5_init 177 = .ok (.istore_n 1, 1) := by decide +kernel
theorem dX5_init_178 : decode cX5_init 178 = .ok (.iload_n 1, 1) := by decide +kernel
theorem dX5_init_179 : decode cX5_init 179 = .ok (.bipush 9, 2) := by decide +kernel
theorem dX5_init_181 : decode cX5_init 181 = .ok (.if_icmp .ge 20, 3) := by decide +kernel
theorem dX5_init_184 : decode cX5_init 184 = .ok (.aload_n 0, 1) := by decide +kernel
theorem dX5_init_185 : decode cX5_init 185 = .ok (.getfield 23, 3) := by decide +kernel
theorem dX5_init_188 : decode cX5_init 188 = .ok (.bipush 18, 2) := by decide +kernel
theorem dX5_init_190 : decode cX5_init 190 = .ok (.iload_n 1, 1) := by decide +kernel
theorem dX5_init_191 : decode cX5_init 191 = .ok (.iadd, 1) := by decide +kernel
theorem dX5_init_192 : decode cX5_init 192 = .ok (.bipush (-9), 2) := by decide +kernel
theorem dX5_init_194 : decode cX5_init 194 = .ok (.iastore, 1) := by decide +kernel
theorem dX5_init_195 : decode cX5_init 195 = .ok (.iinc 1 1, 3) := by decide +kernel
theorem dX5_init_198 : decode cX5_init 198 = .ok (.goto (-20), 3) := by decide +kernel
theorem dX5_init_201 : decode cX5_init 201 = .ok (.return_, 1) := by decide +kernel
theorem dX5_copy_0 : decode cX5_copy 0 = .ok (.iconst 0, 1) := by decide +kernel
theorem dX5_copy_1 : decode cX5_copy 1 = .ok (.istore_n 2, 1) := by decide +kernel
theorem dX5_copy_2 : decode cX5_copy 2 = .ok (.iload_n 2, 1) := by decide +kernel
theorem dX5_copy_3 : decode cX5_copy 3 = .ok (.bipush 103, 2) := by decide +kernel
theorem dX5_copy_5 : decode cX5_copy 5 = .ok (.if_icmp .ge 15, 3) := by decide +kernel
theorem dX5_copy_8 : decode cX5_copy 8 = .ok (.aload_n 1, 1) := by decide +kernel
theorem dX5_copy_9 : decode cX5_copy 9 = .ok (.iload_n 2, 1) := by decide +kernel
theorem dX5_copy_10 : decode cX5_copy 10 = .ok (.aload_n 0, 1) := by decide +kernel
theorem dX5_copy_11 : decode cX5_copy 11 = .ok (.iload_n 2, 1) := by decide +kernel
theorem dX5_copy_12 : decode cX5_copy 12 = .ok (.iaload, 1) := by decide +kernel
theorem dX5_copy_13 : decode cX5_copy 13 = .ok (.iastore, 1) := by decide +kernel
theorem dX5_copy_14 : decode cX5_copy 14 = .ok (.iinc 2 1, 3) := by decide +kernel
theorem dX5_copy_17 : decode cX5_copy 17 = .ok (.goto (-15), 3) := by decide +kernel
theorem dX5_copy_20 : decode cX5_copy 20 = .ok (.return_, 1) := by decide +kernel
theorem dX5_in_0 : decode cX5_in 0 = .ok (.iload_n 0, 1) := by decide +kernel
theorem dX5_in_1 : decode cX5_in 1 = .ok (.iload_n 1, 1) := by decide +kernel
theorem dX5_in_2 : decode cX5_in 2 = .ok (.if_icmp .lt 12, 3) := by decide +kernel
theorem dX5_in_5 : decode cX5_in 5 = .ok (.iload_n 0, 1) := by decide +kernel
theorem dX5_in_6 : decode cX5_in 6 = .ok (.iload_n 2, 1) := by decide +kernel
theorem dX5_in_7 : decode cX5_in 7 = .ok (.if_icmp .gt 7, 3) := by decide +kernel
theorem dX5_in_10 : decode cX5_in 10 = .ok (.iconst 1, 1) := by decide +kernel
theorem dX5_in_11 : decode cX5_in 11 = .ok (.goto 4, 3) := by decide +kernel
theorem dX5_in_14 : decode cX5_in 14 = .ok (.iconst 0, 1) := by decide +kernel
theorem dX5_in_15 : decode cX5_in 15 = .ok (.ireturn, 1) := by decide +kernel
theorem dX5_has_0 : decode cX5_has 0 = .ok (.iload_n 0, 1) := by decide +kernel
theorem dX5_has_1 : decode cX5_has 1 = .ok (.iload_n 1, 1) := by decide +kernel
theorem dX5_has_2 : decode cX5_has 2 = .ok (.ishr, 1) := by decide +kernel
theorem dX5_has_3 : decode cX5_has 3 = .ok (.iconst 1, 1) := by decide +kernel
theorem dX5_has_4 : decode cX5_has 4 = .ok (.iand, 1) := by decide +kernel
theorem dX5_has_5 : decode cX5_has 5 = .ok (.iconst 1, 1) := by decide +kernel
theorem dX5_has_6 : decode cX5_has 6 = .ok (.if_icmp .ne 7, 3) := by decide +kernel
theorem dX5_has_9 : decode cX5_has 9 = .ok (.iconst 1, 1) := by decide +kernel
theorem dX5_has_10 : decode cX5_has 10 = .ok (.goto 4, 3) := by decide +kernel
theorem dX5_has_13 : decode cX5_has 13 = .ok (.iconst 0, 1) := by decide +kernel
theorem dX5_has_14 : decode cX5_has 14 = .ok (.ireturn, 1) := by decide +kernel
theorem dX5_ones_0 : decode cX5_ones 0 = .ok (.iconst 0, 1) := by decide +kernel
theorem dX5_ones_1 : decode cX5_ones 1 = .ok (.istore_n 1, 1) := by decide +kernel
theorem dX5_ones_2 : decode cX5_ones 2 = .ok (.iconst 0, 1) := by decide +kernel
theorem dX5_ones_3 : decode cX5_ones 3 = .ok (.istore_n 2, 1) := by decide +kernel
theorem dX5_ones_4 : decode cX5_ones 4 = .ok (.iload_n 2, 1) := by decide +kernel
theorem dX5_ones_5 : decode cX5_ones 5 = .ok (.bipush 10, 2) := by decide +kernel
theorem dX5_ones_7 : decode cX5_ones 7 = .ok (.if_icmp .ge 17, 3) := by decide +kernel
theorem dX5_ones_10 : decode cX5_ones 10 = .ok (.iload_n 1, 1) := by decide +kernel
theorem dX5_ones_11 : decode cX5_ones 11 = .ok (.iload_n 0, 1) := by decide +kernel
theorem dX5_ones_12 : decode cX5_ones 12 = .ok (.iload_n 2, 1) := by decide +kernel
theorem dX5_ones_13 : decode cX5_ones 13 = .ok (.ishr, 1) := by decide +kernel
theorem dX5_ones_14 : decode cX5_ones 14 = .ok (.iconst 1, 1) := by decide +kernel
theorem dX5_ones_15 : decode cX5_ones 15 = .ok (.iand, 1) := by decide +kernel
theorem dX5_ones_16 : decode cX5_ones 16 = .ok (.iadd, 1) := by decide +kernel
theorem dX5_ones_17 : decode cX5_ones 17 = .ok (.istore_n 1, 1) := by decide +kernel
theorem dX5_ones_18 : decode cX5_ones 18 = .ok (.iinc 2 1, 3) := by decide +kernel
theorem dX5_ones_21 : decode cX5_ones 21 = .ok (.goto (-17), 3) := by decide +kernel
theorem dX5_ones_24 : decode cX5_ones 24 = .ok (.iload_n 1, 1) := by decide +kernel
theorem dX5_ones_25 : decode cX5_ones 25 = .ok (.ireturn, 1) := by decide +kernel
theorem dX5_power_0 : decode cX5_power 0 = .ok (.iconst 1, 1) := by decide +kernel
theorem dX5_power_1 : decode cX5_power 1 = .ok (.istore_n 2, 1) := by decide +kernel
theorem dX5_power_2 : decode cX5_power 2 = .ok (.iconst 0, 1) := by decide +kernel
theorem dX5_power_3 : decode cX5_power 3 = .ok (.istore_n 3, 1) := by decide +kernel
theorem dX5_power_4 : decode cX5_power 4 = .ok (.iload_n 3, 1) := by decide +kernel
theorem dX5_power_5 : decode cX5_power 5 = .ok (.iload_n 1, 1) := by decide +kernel
theorem dX5_power_6 : decode cX5_power 6 = .ok (.if_icmp .ge 13, 3) := by decide +kernel
theorem dX5_power_9 : decode cX5_power 9 = .ok (.iload_n 2, 1) := by decide +kernel
theorem dX5_power_10 : decode cX5_power 10 = .ok (.iload_n 0, 1) := by decide +kernel
theorem dX5_power_11 : decode cX5_power 11 = .ok (.imul, 1) := by decide +kernel
theorem dX5_power_12 : decode cX5_power 12 = .ok (.istore_n 2, 1) := by decide +kernel
theorem dX5_power_13 : decode cX5_power 13 = .ok (.iinc 3 1, 3) := by decide +kernel
theorem dX5_power_16 : decode cX5_power 16 = .ok (.goto (-12), 3) := by decide +kernel
theorem dX5_power_19 : decode cX5_power 19 = .ok (.iload_n 2, 1) := by decide +kernel
theorem dX5_power_20 : decode cX5_power 20 = .ok (.ireturn, 1) := by decide +kernel
theorem dX5_factorial_0 : decode cX5_factorial 0 = .ok (.iconst 1, 1) := by decide +kernel
theorem dX5_factorial_1 : decode cX5_factorial 1 = .ok (.istore_n 1, 1) := by decide +kernel
theorem dX5_factorial_2 : decode cX5_factorial 2 = .ok (.iconst 2, 1) := by decide +kernel
theorem dX5_factorial_3 : decode cX5_factorial 3 = .ok (.istore_n 2, 1) := by decide +kernel
theorem dX5_factorial_4 : decode cX5_factorial 4 = .ok (.iload_n 2, 1) := by decide +kernel
theorem dX5_factorial_5 : decode cX5_factorial 5 = .ok (.iload_n 0, 1) := by decide +kernel
theorem dX5_factorial_6 : decode cX5_factorial 6 = .ok (.if_icmp .gt 13, 3) := by decide +kernel
theorem dX5_factorial_9 : decode cX5_factorial 9 = .ok (.iload_n 1, 1) := by decide +kernel
theorem dX5_factorial_10 : decode cX5_factorial 10 = .ok (.iload_n 2, 1) := by decide +kernel
theorem dX5_factorial_11 : decode cX5_factorial 11 = .ok (.imul, 1) := by decide +kernel
theorem dX5_factorial_12 : decode cX5_factorial 12 = .ok (.istore_n 1, 1) := by decide +kernel
theorem dX5_factorial_13 : decode cX5_factorial 13 = .ok (.iinc 2 1, 3) := by decide +kernel
theorem dX5_factorial_16 : decode cX5_factorial 16 = .ok (.goto (-12), 3) := by decide +kernel
theorem dX5_factorial_19 : decode cX5_factorial 19 = .ok (.iload_n 1, 1) := by decide +kernel
theorem dX5_factorial_20 : decode cX5_factorial 20 = .ok (.ireturn, 1) := by decide +kernel
theorem dX5_held_0 : decode cX5_held 0 = .ok (.iload_n 0, 1) := by decide +kernel
theorem dX5_held_1 : decode cX5_held 1 = .ok (.ifCond .ge 7, 3) := by decide +kernel
theorem dX5_held_4 : decode cX5_held 4 = .ok (.iconst 0, 1) := by decide +kernel
theorem dX5_held_5 : decode cX5_held 5 = .ok (.goto 15, 3) := by decide +kernel
theorem dX5_held_8 : decode cX5_held 8 = .ok (.iload_n 0, 1) := by decide +kernel
theorem dX5_held_9 : decode cX5_held 9 = .ok (.bipush 99, 2) := by decide +kernel
theorem dX5_held_11 : decode cX5_held 11 = .ok (.if_icmp .le 8, 3) := by decide +kernel
theorem dX5_held_14 : decode cX5_held 14 = .ok (.bipush 99, 2) := by decide +kernel
theorem dX5_held_16 : decode cX5_held 16 = .ok (.goto 4, 3) := by decide +kernel
theorem dX5_held_19 : decode cX5_held 19 = .ok (.iload_n 0, 1) := by decide +kernel
theorem dX5_held_20 : decode cX5_held 20 = .ok (.ireturn, 1) := by decide +kernel
theorem dX5_fraction_0 : decode cX5_fraction 0 = .ok (.iload_n 0, 1) := by decide +kernel
theorem dX5_fraction_1 : decode cX5_fraction 1 = .ok (.ifCond .ge 8, 3) := by decide +kernel
theorem dX5_fraction_4 : decode cX5_fraction 4 = .ok (.iload_n 0, 1) := by decide +kernel
theorem dX5_fraction_5 : decode cX5_fraction 5 = .ok (.ineg, 1) := by decide +kernel
theorem dX5_fraction_6 : decode cX5_fraction 6 = .ok (.goto 4, 3) := by decide +kernel
theorem dX5_fraction_9 : decode cX5_fraction 9 = .ok (.iload_n 0, 1) := by decide +kernel
theorem dX5_fraction_10 : decode cX5_fraction 10 = .ok (.istore_n 3, 1) := by decide +kernel
theorem dX5_fraction_11 : decode cX5_fraction 11 = .ok (.iload_n 1, 1) := by decide +kernel
theorem dX5_fraction_12 : decode cX5_fraction 12 = .ok (.istore 4, 2) := by decide +kernel
theorem dX5_fraction_14 : decode cX5_fraction 14 = .ok (.iload 4, 2) := by decide +kernel
theorem dX5_fraction_16 : decode cX5_fraction 16 = .ok (.ifCond .eq 19, 3) := by decide +kernel
theorem dX5_fraction_19 : decode cX5_fraction 19 = .ok (.iload_n 3, 1) := by decide +kernel
theorem dX5_fraction_20 : decode cX5_fraction 20 = .ok (.iload 4, 2) := by decide +kernel
theorem dX5_fraction_22 : decode cX5_fraction 22 = .ok (.irem, 1) := by decide +kernel
theorem dX5_fraction_23 : decode cX5_fraction 23 = .ok (.istore 5, 2) := by decide +kernel
theorem dX5_fraction_25 : decode cX5_fraction 25 = .ok (.iload 4, 2) := by decide +kernel
theorem dX5_fraction_27 : decode cX5_fraction 27 = .ok (.istore_n 3, 1) := by decide +kernel
theorem dX5_fraction_28 : decode cX5_fraction 28 = .ok (.iload 5, 2) := by decide +kernel
theorem dX5_fraction_30 : decode cX5_fraction 30 = .ok (.istore 4, 2) := by decide +kernel
theorem dX5_fraction_32 : decode cX5_fraction 32 = .ok (.goto (-18), 3) := by decide +kernel
theorem dX5_fraction_35 : decode cX5_fraction 35 = .ok (.iload_n 2, 1) := by decide +kernel
theorem dX5_fraction_36 : decode cX5_fraction 36 = .ok (.ifCond .eq 9, 3) := by decide +kernel
theorem dX5_fraction_39 : decode cX5_fraction 39 = .ok (.iload_n 0, 1) := by decide +kernel
theorem dX5_fraction_40 : decode cX5_fraction 40 = .ok (.iload_n 3, 1) := by decide +kernel
theorem dX5_fraction_41 : decode cX5_fraction 41 = .ok (.idiv, 1) := by decide +kernel
theorem dX5_fraction_42 : decode cX5_fraction 42 = .ok (.goto 6, 3) := by decide +kernel
theorem dX5_fraction_45 : decode cX5_fraction 45 = .ok (.iload_n 1, 1) := by decide +kernel
theorem dX5_fraction_46 : decode cX5_fraction 46 = .ok (.iload_n 3, 1) := by decide +kernel
theorem dX5_fraction_47 : decode cX5_fraction 47 = .ok (.idiv, 1) := by decide +kernel
theorem dX5_fraction_48 : decode cX5_fraction 48 = .ok (.ireturn, 1) := by decide +kernel
theorem dX5_isCell_0 : decode cX5_isCell 0 = .ok (.iload_n 1, 1) := by decide +kernel
theorem dX5_isCell_1 : decode cX5_isCell 1 = .ok (.iconst 0, 1) := by decide +kernel
theorem dX5_isCell_2 : decode cX5_isCell 2 = .ok (.aload_n 0, 1) := by decide +kernel
theorem dX5_isCell_3 : decode cX5_isCell 3 = .ok (.getfield 13, 3) := by decide +kernel
theorem dX5_isCell_6 : decode cX5_isCell 6 = .ok (.iconst 1, 1) := by decide +kernel
theorem dX5_isCell_7 : decode cX5_isCell 7 = .ok (.isub, 1) := by decide +kernel
theorem dX5_isCell_8 : decode cX5_isCell 8 = .ok (.invokestatic 72, 3) := by decide +kernel
theorem dX5_isCell_11 : decode cX5_isCell 11 = .ok (.ireturn, 1) := by decide +kernel
theorem dX5_isValve_0 : decode cX5_isValve 0 = .ok (.iload_n 1, 1) := by decide +kernel
theorem dX5_isValve_1 : decode cX5_isValve 1 = .ok (.iconst 0, 1) := by decide +kernel
theorem dX5_isValve_2 : decode cX5_isValve 2 = .ok (.aload_n 0, 1) := by decide +kernel
theorem dX5_isValve_3 : decode cX5_isValve 3 = .ok (.getfield 76, 3) := by decide +kernel
theorem dX5_isValve_6 : decode cX5_isValve 6 = .ok (.iconst 1, 1) := by decide +kernel
theorem dX5_isValve_7 : decode cX5_isValve 7 = .ok (.isub, 1) := by decide +kernel
theorem dX5_isValve_8 : decode cX5_isValve 8 = .ok (.invokestatic 72, 3) := by decide +kernel
theorem dX5_isValve_11 : decode cX5_isValve 11 = .ok (.ireturn, 1) := by decide +kernel
theorem dX5_write_0 : decode cX5_write 0 = .ok (.iload_n 1, 1) := by decide +kernel
theorem dX5_write_1 : decode cX5_write 1 = .ok (.iconst 0, 1) := by decide +kernel
theorem dX5_write_2 : decode cX5_write 2 = .ok (.sipush 255, 3) := by decide +kernel
theorem dX5_write_5 : decode cX5_write 5 = .ok (.invokestatic 72, 3) := by decide +kernel
theorem dX5_write_8 : decode cX5_write 8 = .ok (.ifCond .ne 6, 3) := by decide +kernel
theorem dX5_write_11 : decode cX5_write 11 = .ok (.bipush (-2), 2) := by decide +kernel
theorem dX5_write_13 : decode cX5_write 13 = .ok (.ireturn, 1) := by decide +kernel
theorem dX5_write_14 : decode cX5_write 14 = .ok (.aload_n 0, 1) := by decide +kernel
theorem dX5_write_15 : decode cX5_write 15 = .ok (.getfield 79, 3) := by decide +kernel
theorem dX5_write_18 : decode cX5_write 18 = .ok (.bipush 90, 2) := by decide +kernel
theorem dX5_write_20 : decode cX5_write 20 = .ok (.if_icmp .ne 6, 3) := by decide +kernel
theorem dX5_write_23 : decode cX5_write 23 = .ok (.bipush (-4), 2) := by decide +kernel
theorem dX5_write_25 : decode cX5_write 25 = .ok (.ireturn, 1) := by decide +kernel
theorem dX5_write_26 : decode cX5_write 26 = .ok (.aload_n 0, 1) := by decide +kernel
theorem dX5_write_27 : decode cX5_write 27 = .ok (.getfield 7, 3) := by decide +kernel
theorem dX5_write_30 : decode cX5_write 30 = .ok (.aload_n 0, 1) := by decide +kernel
theorem dX5_write_31 : decode cX5_write 31 = .ok (.getfield 79, 3) := by decide +kernel
theorem dX5_write_34 : decode cX5_write 34 = .ok (.iload_n 1, 1) := by decide +kernel
theorem dX5_write_35 : decode cX5_write 35 = .ok (.iastore, 1) := by decide +kernel
theorem dX5_write_36 : decode cX5_write 36 = .ok (.aload_n 0, 1) := by decide +kernel
theorem dX5_write_37 : decode cX5_write 37 = .ok (.dup, 1) := by decide +kernel
theorem dX5_write_38 : decode cX5_write 38 = .ok (.getfield 79, 3) := by decide +kernel
theorem dX5_write_41 : decode cX5_write 41 = .ok (.iconst 1, 1) := by decide +kernel
theorem dX5_write_42 : decode cX5_write 42 = .ok (.iadd, 1) := by decide +kernel
theorem dX5_write_43 : decode cX5_write 43 = .ok (.putfield 79, 3) := by decide +kernel
theorem dX5_write_46 : decode cX5_write 46 = .ok (.aload_n 0, 1) := by decide +kernel
theorem dX5_write_47 : decode cX5_write 47 = .ok (.getfield 79, 3) := by decide +kernel
theorem dX5_write_50 : decode cX5_write 50 = .ok (.ireturn, 1) := by decide +kernel
theorem dX5_wipe_0 : decode cX5_wipe 0 = .ok (.aload_n 0, 1) := by decide +kernel
theorem dX5_wipe_1 : decode cX5_wipe 1 = .ok (.getfield 79, 3) := by decide +kernel
theorem dX5_wipe_4 : decode cX5_wipe 4 = .ok (.istore_n 1, 1) := by decide +kernel
theorem dX5_wipe_5 : decode cX5_wipe 5 = .ok (.aload_n 0, 1) := by decide +kernel
theorem dX5_wipe_6 : decode cX5_wipe 6 = .ok (.iconst 0, 1) := by decide +kernel
theorem dX5_wipe_7 : decode cX5_wipe 7 = .ok (.putfield 79, 3) := by decide +kernel
theorem dX5_wipe_10 : decode cX5_wipe 10 = .ok (.iload_n 1, 1) := by decide +kernel
theorem dX5_wipe_11 : decode cX5_wipe 11 = .ok (.ireturn, 1) := by decide +kernel
theorem dX5_takeHead_0 : decode cX5_takeHead 0 = .ok (.aload_n 0, 1) := by decide +kernel
theorem dX5_takeHead_1 : decode cX5_takeHead 1 = .ok (.getfield 82, 3) := by decide +kernel
theorem dX5_takeHead_4 : decode cX5_takeHead 4 = .ok (.istore_n 2, 1) := by decide +kernel
theorem dX5_takeHead_5 : decode cX5_takeHead 5 = .ok (.aload_n 0, 1) := by decide +kernel
theorem dX5_takeHead_6 : decode cX5_takeHead 6 = .ok (.dup, 1) := by decide +kernel
theorem dX5_takeHead_7 : decode cX5_takeHead 7 = .ok (.getfield 82, 3) := by decide +kernel
theorem dX5_takeHead_10 : decode cX5_takeHead 10 = .ok (.iconst 1, 1) := by decide +kernel
theorem dX5_takeHead_11 : decode cX5_takeHead 11 = .ok (.iadd, 1) := by decide +kernel
theorem dX5_takeHead_12 : decode cX5_takeHead 12 = .ok (.putfield 82, 3) := by decide +kernel
theorem dX5_takeHead_15 : decode cX5_takeHead 15 = .ok (.iload_n 2, 1) := by decide +kernel
theorem dX5_takeHead_16 : decode cX5_takeHead 16 = .ok (.ifCond .ne 19, 3) := by decide +kernel
theorem dX5_takeHead_19 : decode cX5_takeHead 19 = .ok (.aload_n 0, 1) := by decide +kernel
theorem dX5_takeHead_20 : decode cX5_takeHead 20 = .ok (.getfield 51, 3) := by decide +kernel
theorem dX5_takeHead_23 : decode cX5_takeHead 23 = .ok (.iconst 0, 1) := by decide +kernel
theorem dX5_takeHead_24 : decode cX5_takeHead 24 = .ok (.iload_n 1, 1) := by decide +kernel
theorem dX5_takeHead_25 : decode cX5_takeHead 25 = .ok (.iastore, 1) := by decide +kernel
theorem dX5_takeHead_26 : decode cX5_takeHead 26 = .ok (.iload_n 1, 1) := by decide +kernel
theorem dX5_takeHead_27 : decode cX5_takeHead 27 = .ok (.bipush 6, 2) := by decide +kernel
theorem dX5_takeHead_29 : decode cX5_takeHead 29 = .ok (.bipush 9, 2) := by decide +kernel
theorem dX5_takeHead_31 : decode cX5_takeHead 31 = .ok (.invokestatic 72, 3) := by decide +kernel
theorem dX5_takeHead_34 : decode cX5_takeHead 34 = .ok (.ireturn, 1) := by decide +kernel
theorem dX5_takeHead_35 : decode cX5_takeHead 35 = .ok (.iload_n 2, 1) := by decide +kernel
theorem dX5_takeHead_36 : decode cX5_takeHead 36 = .ok (.bipush 6, 2) := by decide +kernel
theorem dX5_takeHead_38 : decode cX5_takeHead 38 = .ok (.if_icmp .ge 45, 3) := by decide +kernel
theorem dX5_takeHead_41 : decode cX5_takeHead 41 = .ok (.aload_n 0, 1) := by decide +kernel
theorem dX5_takeHead_42 : decode cX5_takeHead 42 = .ok (.getfield 51, 3) := by decide +kernel
theorem dX5_takeHead_45 : decode cX5_takeHead 45 = .ok (.iload_n 2, 1) := by decide +kernel
theorem dX5_takeHead_46 : decode cX5_takeHead 46 = .ok (.iload_n 1, 1) := by decide +kernel
theorem dX5_takeHead_47 : decode cX5_takeHead 47 = .ok (.iastore, 1) := by decide +kernel
theorem dX5_takeHead_48 : decode cX5_takeHead 48 = .ok (.iload_n 1, 1) := by decide +kernel
theorem dX5_takeHead_49 : decode cX5_takeHead 49 = .ok (.iload_n 2, 1) := by decide +kernel
theorem dX5_takeHead_50 : decode cX5_takeHead 50 = .ok (.iconst 1, 1) := by decide +kernel
theorem dX5_takeHead_51 : decode cX5_takeHead 51 = .ok (.if_icmp .ne 7, 3) := by decide +kernel
theorem dX5_takeHead_54 : decode cX5_takeHead 54 = .ok (.iconst 1, 1) := by decide +kernel
theorem dX5_takeHead_55 : decode cX5_takeHead 55 = .ok (.goto 13, 3) := by decide +kernel
theorem dX5_takeHead_58 : decode cX5_takeHead 58 = .ok (.aload_n 0, 1) := by decide +kernel
theorem dX5_takeHead_59 : decode cX5_takeHead 59 = .ok (.getfield 51, 3) := by decide +kernel
theorem dX5_takeHead_62 : decode cX5_takeHead 62 = .ok (.iload_n 2, 1) := by decide +kernel
theorem dX5_takeHead_63 : decode cX5_takeHead 63 = .ok (.iconst 1, 1) := by decide +kernel
theorem dX5_takeHead_64 : decode cX5_takeHead 64 = .ok (.isub, 1) := by decide +kernel
theorem dX5_takeHead_65 : decode cX5_takeHead 65 = .ok (.iaload, 1) := by decide +kernel
theorem dX5_takeHead_66 : decode cX5_takeHead 66 = .ok (.iconst 1, 1) := by decide +kernel
theorem dX5_takeHead_67 : decode cX5_takeHead 67 = .ok (.iadd, 1) := by decide +kernel
theorem dX5_takeHead_68 : decode cX5_takeHead 68 = .ok (.aload_n 0, 1) := by decide +kernel
theorem dX5_takeHead_69 : decode cX5_takeHead 69 = .ok (.getfield 51, 3) := by decide +kernel
theorem dX5_takeHead_72 : decode cX5_takeHead 72 = .ok (.iconst 0, 1) := by decide +kernel
theorem dX5_takeHead_73 : decode cX5_takeHead 73 = .ok (.iaload, 1) := by decide +kernel
theorem dX5_takeHead_74 : decode cX5_takeHead 74 = .ok (.bipush 6, 2) := by decide +kernel
theorem dX5_takeHead_76 : decode cX5_takeHead 76 = .ok (.isub, 1) := by decide +kernel
theorem dX5_takeHead_77 : decode cX5_takeHead 77 = .ok (.iload_n 2, 1) := by decide +kernel
theorem dX5_takeHead_78 : decode cX5_takeHead 78 = .ok (.iadd, 1) := by decide +kernel
theorem dX5_takeHead_79 : decode cX5_takeHead 79 = .ok (.invokestatic 72, 3) := by decide +kernel
theorem dX5_takeHead_82 : decode cX5_takeHead 82 = .ok (.ireturn, 1) := by decide +kernel
theorem dX5_takeHead_83 : decode cX5_takeHead 83 = .ok (.iload_n 1, 1) := by decide +kernel
theorem dX5_takeHead_84 : decode cX5_takeHead 84 = .ok (.iconst 0, 1) := by decide +kernel
theorem dX5_takeHead_85 : decode cX5_takeHead 85 = .ok (.bipush 9, 2) := by decide +kernel
theorem dX5_takeHead_87 : decode cX5_takeHead 87 = .ok (.invokestatic 72, 3) := by decide +kernel
theorem dX5_takeHead_90 : decode cX5_takeHead 90 = .ok (.ifCond .ne 5, 3) := by decide +kernel
theorem dX5_takeHead_93 : decode cX5_takeHead 93 = .ok (.iconst 0, 1) := by decide +kernel
theorem dX5_takeHead_94 : decode cX5_takeHead 94 = .ok (.ireturn, 1) := by decide +kernel
theorem dX5_takeHead_95 : decode cX5_takeHead 95 = .ok (.iload_n 2, 1) := by decide +kernel
theorem dX5_takeHead_96 : decode cX5_takeHead 96 = .ok (.bipush 8, 2) := by decide +kernel
theorem dX5_takeHead_98 : decode cX5_takeHead 98 = .ok (.if_icmp .ge 19, 3) := by decide +kernel
theorem dX5_takeHead_101 : decode cX5_takeHead 101 = .ok (.aload_n 0, 1) := by decide +kernel
theorem dX5_takeHead_102 : decode cX5_takeHead 102 = .ok (.bipush 10, 2) := by decide +kernel
theorem dX5_takeHead_104 : decode cX5_takeHead 104 = .ok (.aload_n 0, 1) := by decide +kernel
theorem dX5_takeHead_105 : decode cX5_takeHead 105 = .ok (.getfield 85, 3) := by decide +kernel
theorem dX5_takeHead_108 : decode cX5_takeHead 108 = .ok (.imul, 1) := by decide +kernel
theorem dX5_takeHead_109 : decode cX5_takeHead 109 = .ok (.iload_n 1, 1) := by decide +kernel
theorem dX5_takeHead_110 : decode cX5_takeHead 110 = .ok (.iadd, 1) := by decide +kernel
theorem dX5_takeHead_111 : decode cX5_takeHead 111 = .ok (.putfield 85, 3) := by decide +kernel
theorem dX5_takeHead_114 : decode cX5_takeHead 114 = .ok (.goto 32, 3) := by decide +kernel
theorem dX5_takeHead_117 : decode cX5_takeHead 117 = .ok (.iload_n 2, 1) := by decide +kernel
theorem dX5_takeHead_118 : decode cX5_takeHead 118 = .ok (.bipush 8, 2) := by decide +kernel
theorem dX5_takeHead_120 : decode cX5_takeHead 120 = .ok (.if_icmp .ne 11, 3) := by decide +kernel
theorem dX5_takeHead_123 : decode cX5_takeHead 123 = .ok (.aload_n 0, 1) := by decide +kernel
theorem dX5_takeHead_124 : decode cX5_takeHead 124 = .ok (.iload_n 1, 1) := by decide +kernel
theorem dX5_takeHead_125 : decode cX5_takeHead 125 = .ok (.putfield 88, 3) := by decide +kernel
theorem dX5_takeHead_128 : decode cX5_takeHead 128 = .ok (.goto 18, 3) := by decide +kernel
theorem dX5_takeHead_131 : decode cX5_takeHead 131 = .ok (.aload_n 0, 1) := by decide +kernel
theorem dX5_takeHead_132 : decode cX5_takeHead 132 = .ok (.iload_n 1, 1) := by decide +kernel
theorem dX5_takeHead_133 : decode cX5_takeHead 133 = .ok (.putfield 91, 3) := by decide +kernel
theorem dX5_takeHead_136 : decode cX5_takeHead 136 = .ok (.aload_n 0, 1) := by decide +kernel
theorem dX5_takeHead_137 : decode cX5_takeHead 137 = .ok (.iconst 0, 1) := by decide +kernel
theorem dX5_takeHead_138 : decode cX5_takeHead 138 = .ok (.putfield 82, 3) := by decide +kernel
theorem dX5_takeHead_141 : decode cX5_takeHead 141 = .ok (.aload_n 0, 1) := by decide +kernel
theorem dX5_takeHead_142 : decode cX5_takeHead 142 = .ok (.iconst 0, 1) := by decide +kernel
theorem dX5_takeHead_143 : decode cX5_takeHead 143 = .ok (.putfield 94, 3) := by decide +kernel
theorem dX5_takeHead_146 : decode cX5_takeHead 146 = .ok (.iconst 1, 1) := by decide +kernel
theorem dX5_takeHead_147 : decode cX5_takeHead 147 = .ok (.ireturn, 1) := by decide +kernel
theorem dX5_queueUp_0 : decode cX5_queueUp 0 = .ok (.aload_n 0, 1) := by decide +kernel
theorem dX5_queueUp_1 : decode cX5_queueUp 1 = .ok (.getfield 97, 3) := by decide +kernel
theorem dX5_queueUp_4 : decode cX5_queueUp 4 = .ok (.bipush 24, 2) := by decide +kernel
theorem dX5_queueUp_6 : decode cX5_queueUp 6 = .ok (.if_icmp .ne 5, 3) := by decide +kernel
theorem dX5_queueUp_9 : decode cX5_queueUp 9 = .ok (.iconst 0, 1) := by decide +kernel
theorem dX5_queueUp_10 : decode cX5_queueUp 10 = .ok (.ireturn, 1) := by decide +kernel
theorem dX5_queueUp_11 : decode cX5_queueUp 11 = .ok (.aload_n 0, 1) := by decide +kernel
theorem dX5_queueUp_12 : decode cX5_queueUp 12 = .ok (.getfield 63, 3) := by decide +kernel
theorem dX5_queueUp_15 : decode cX5_queueUp 15 = .ok (.aload_n 0, 1) := by decide +kernel
theorem dX5_queueUp_16 : decode cX5_queueUp 16 = .ok (.getfield 97, 3) := by decide +kernel
theorem dX5_queueUp_19 : decode cX5_queueUp 19 = .ok (.iload_n 1, 1) := by decide +kernel
theorem dX5_queueUp_20 : decode cX5_queueUp 20 = .ok (.iastore, 1) := by decide +kernel
theorem dX5_queueUp_21 : decode cX5_queueUp 21 = .ok (.aload_n 0, 1) := by decide +kernel
theorem dX5_queueUp_22 : decode cX5_queueUp 22 = .ok (.dup, 1) := by decide +kernel
theorem dX5_queueUp_23 : decode cX5_queueUp 23 = .ok (.getfield 97, 3) := by decide +kernel
theorem dX5_queueUp_26 : decode cX5_queueUp 26 = .ok (.iconst 1, 1) := by decide +kernel
theorem dX5_queueUp_27 : decode cX5_queueUp 27 = .ok (.iadd, 1) := by decide +kernel
theorem dX5_queueUp_28 : decode cX5_queueUp 28 = .ok (.putfield 97, 3) := by decide +kernel
theorem dX5_queueUp_31 : decode cX5_queueUp 31 = .ok (.iconst 1, 1) := by decide +kernel
theorem dX5_queueUp_32 : decode cX5_queueUp 32 = .ok (.ireturn, 1) := by decide +kernel
theorem dX5_takeSign_0 : decode cX5_takeSign 0 = .ok (.aload_n 0, 1) := by decide +kernel
theorem dX5_takeSign_1 : decode cX5_takeSign 1 = .ok (.iload_n 1, 1) := by decide +kernel
theorem dX5_takeSign_2 : decode cX5_takeSign 2 = .ok (.putfield 94, 3) := by decide +kernel
theorem dX5_takeSign_5 : decode cX5_takeSign 5 = .ok (.aload_n 0, 1) := by decide +kernel
theorem dX5_takeSign_6 : decode cX5_takeSign 6 = .ok (.iconst 1, 1) := by decide +kernel
theorem dX5_takeSign_7 : decode cX5_takeSign 7 = .ok (.putfield 82, 3) := by decide +kernel
theorem dX5_takeSign_10 : decode cX5_takeSign 10 = .ok (.iload_n 1, 1) := by decide +kernel
theorem dX5_takeSign_11 : decode cX5_takeSign 11 = .ok (.lookupswitch 138 #[(45, 127), (98, 105), (99, 71), (108, 88), (118, 57), (120, 116)], 57) := by decide +kernel
theorem dX5_takeSign_68 : decode cX5_takeSign 68 = .ok (.aload_n 0, 1) := by decide +kernel
theorem dX5_takeSign_69 : decode cX5_takeSign 69 = .ok (.getfield 100, 3) := by decide +kernel
theorem dX5_takeSign_72 : decode cX5_takeSign 72 = .ok (.iconst 4, 1) := by decide +kernel
theorem dX5_takeSign_73 : decode cX5_takeSign 73 = .ok (.if_icmp .ge 7, 3) := by decide +kernel
theorem dX5_takeSign_76 : decode cX5_takeSign 76 = .ok (.iconst 1, 1) := by decide +kernel
theorem dX5_takeSign_77 : decode cX5_takeSign 77 = .ok (.goto 4, 3) := by decide +kernel
theorem dX5_takeSign_80 : decode cX5_takeSign 80 = .ok (.iconst 0, 1) := by decide +kernel
theorem dX5_takeSign_81 : decode cX5_takeSign 81 = .ok (.ireturn, 1) := by decide +kernel
theorem dX5_takeSign_82 : decode cX5_takeSign 82 = .ok (.aload_n 0, 1) := by decide +kernel
theorem dX5_takeSign_83 : decode cX5_takeSign 83 = .ok (.getfield 60, 3) := by decide +kernel
theorem dX5_takeSign_86 : decode cX5_takeSign 86 = .ok (.iconst 0, 1) := by decide +kernel
theorem dX5_takeSign_87 : decode cX5_takeSign 87 = .ok (.iaload, 1) := by decide +kernel
theorem dX5_takeSign_88 : decode cX5_takeSign 88 = .ok (.bipush 99, 2) := by decide +kernel
theorem dX5_takeSign_90 : decode cX5_takeSign 90 = .ok (.if_icmp .ge 7, 3) := by decide +kernel
theorem dX5_takeSign_93 : decode cX5_takeSign 93 = .ok (.iconst 1, 1) := by decide +kernel
theorem dX5_takeSign_94 : decode cX5_takeSign 94 = .ok (.goto 4, 3) := by decide +kernel
theorem dX5_takeSign_97 : decode cX5_takeSign 97 = .ok (.iconst 0, 1) := by decide +kernel
theorem dX5_takeSign_98 : decode cX5_takeSign 98 = .ok (.ireturn, 1) := by decide +kernel
theorem dX5_takeSign_99 : decode cX5_takeSign 99 = .ok (.aload_n 0, 1) := by decide +kernel
theorem dX5_takeSign_100 : decode cX5_takeSign 100 = .ok (.getfield 60, 3) := by decide +kernel
theorem dX5_takeSign_103 : decode cX5_takeSign 103 = .ok (.iconst 1, 1) := by decide +kernel
theorem dX5_takeSign_104 : decode cX5_takeSign 104 = .ok (.iaload, 1) := by decide +kernel
theorem dX5_takeSign_105 : decode cX5_takeSign 105 = .ok (.bipush 99, 2) := by decide +kernel
theorem dX5_takeSign_107 : decode cX5_takeSign 107 = .ok (.if_icmp .ge 7, 3) := by decide +kernel
theorem dX5_takeSign_110 : decode cX5_takeSign 110 = .ok (.iconst 1, 1) := by decide +kernel
theorem dX5_takeSign_111 : decode cX5_takeSign 111 = .ok (.goto 4, 3) := by decide +kernel
theorem dX5_takeSign_114 : decode cX5_takeSign 114 = .ok (.iconst 0, 1) := by decide +kernel
theorem dX5_takeSign_115 : decode cX5_takeSign 115 = .ok (.ireturn, 1) := by decide +kernel
theorem dX5_takeSign_116 : decode cX5_takeSign 116 = .ok (.aload_n 0, 1) := by decide +kernel
theorem dX5_takeSign_117 : decode cX5_takeSign 117 = .ok (.iconst 0, 1) := by decide +kernel
theorem dX5_takeSign_118 : decode cX5_takeSign 118 = .ok (.putfield 94, 3) := by decide +kernel
theorem dX5_takeSign_121 : decode cX5_takeSign 121 = .ok (.aload_n 0, 1) := by decide +kernel
theorem dX5_takeSign_122 : decode cX5_takeSign 122 = .ok (.iconst 1, 1) := by decide +kernel
theorem dX5_takeSign_123 : decode cX5_takeSign 123 = .ok (.invokevirtual 103, 3) := by decide +kernel
theorem dX5_takeSign_126 : decode cX5_takeSign 126 = .ok (.ireturn, 1) := by decide +kernel
theorem dX5_takeSign_127 : decode cX5_takeSign 127 = .ok (.aload_n 0, 1) := by decide +kernel
theorem dX5_takeSign_128 : decode cX5_takeSign 128 = .ok (.iconst 0, 1) := by decide +kernel
theorem dX5_takeSign_129 : decode cX5_takeSign 129 = .ok (.putfield 94, 3) := by decide +kernel
theorem dX5_takeSign_132 : decode cX5_takeSign 132 = .ok (.aload_n 0, 1) := by decide +kernel
theorem dX5_takeSign_133 : decode cX5_takeSign 133 = .ok (.iconst 2, 1) := by decide +kernel
theorem dX5_takeSign_134 : decode cX5_takeSign 134 = .ok (.invokevirtual 103, 3) := by decide +kernel
theorem dX5_takeSign_137 : decode cX5_takeSign 137 = .ok (.ireturn, 1) := by decide +kernel
theorem dX5_takeSign_138 : decode cX5_takeSign 138 = .ok (.aload_n 0, 1) := by decide +kernel
theorem dX5_takeSign_139 : decode cX5_takeSign 139 = .ok (.iconst 0, 1) := by decide +kernel
theorem dX5_takeSign_140 : decode cX5_takeSign 140 = .ok (.putfield 94, 3) := by decide +kernel
theorem dX5_takeSign_143 : decode cX5_takeSign 143 = .ok (.aload_n 0, 1) := by decide +kernel
theorem dX5_takeSign_144 : decode cX5_takeSign 144 = .ok (.iconst 0, 1) := by decide +kernel
theorem dX5_takeSign_145 : decode cX5_takeSign 145 = .ok (.invokevirtual 103, 3) := by decide +kernel
theorem dX5_takeSign_148 : decode cX5_takeSign 148 = .ok (.ireturn, 1) := by decide +kernel
theorem dX5_takeSign_149 : decode cX5_takeSign 149 = .ok (.iconst 0, 1) := by decide +kernel
theorem dX5_takeSign_150 : decode cX5_takeSign 150 = .ok (.ireturn, 1) := by decide +kernel
theorem dX5_takeOfValve_0 : decode cX5_takeOfValve 0 = .ok (.iload_n 1, 1) := by decide +kernel
theorem dX5_takeOfValve_1 : decode cX5_takeOfValve 1 = .ok (.iconst 0, 1) := by decide +kernel
theorem dX5_takeOfValve_2 : decode cX5_takeOfValve 2 = .ok (.bipush 9, 2) := by decide +kernel
theorem dX5_takeOfValve_4 : decode cX5_takeOfValve 4 = .ok (.invokestatic 72, 3) := by decide +kernel
theorem dX5_takeOfValve_7 : decode cX5_takeOfValve 7 = .ok (.ifCond .ne 5, 3) := by decide +kernel
theorem dX5_takeOfValve_10 : decode cX5_takeOfValve 10 = .ok (.iconst 0, 1) := by decide +kernel
theorem dX5_takeOfValve_11 : decode cX5_takeOfValve 11 = .ok (.ireturn, 1) := by decide +kernel
theorem dX5_takeOfValve_12 : decode cX5_takeOfValve 12 = .ok (.aload_n 0, 1) := by decide +kernel
theorem dX5_takeOfValve_13 : decode cX5_takeOfValve 13 = .ok (.getfield 82, 3) := by decide +kernel
theorem dX5_takeOfValve_16 : decode cX5_takeOfValve 16 = .ok (.iconst 1, 1) := by decide +kernel
theorem dX5_takeOfValve_17 : decode cX5_takeOfValve 17 = .ok (.if_icmp .ne 16, 3) := by decide +kernel
theorem dX5_takeOfValve_20 : decode cX5_takeOfValve 20 = .ok (.aload_n 0, 1) := by decide +kernel
theorem dX5_takeOfValve_21 : decode cX5_takeOfValve 21 = .ok (.iload_n 1, 1) := by decide +kernel
theorem dX5_takeOfValve_22 : decode cX5_takeOfValve 22 = .ok (.putfield 107, 3) := by decide +kernel
theorem dX5_takeOfValve_25 : decode cX5_takeOfValve 25 = .ok (.aload_n 0, 1) := by decide +kernel
theorem dX5_takeOfValve_26 : decode cX5_takeOfValve 26 = .ok (.iconst 2, 1) := by decide +kernel
theorem dX5_takeOfValve_27 : decode cX5_takeOfValve 27 = .ok (.putfield 82, 3) := by decide +kernel
theorem dX5_takeOfValve_30 : decode cX5_takeOfValve 30 = .ok (.goto 64, 3) := by decide +kernel
theorem dX5_takeOfValve_33 : decode cX5_takeOfValve 33 = .ok (.aload_n 0, 1) := by decide +kernel
theorem dX5_takeOfValve_34 : decode cX5_takeOfValve 34 = .ok (.getfield 82, 3) := by decide +kernel
theorem dX5_takeOfValve_37 : decode cX5_takeOfValve 37 = .ok (.iconst 2, 1) := by decide +kernel
theorem dX5_takeOfValve_38 : decode cX5_takeOfValve 38 = .ok (.if_icmp .ne 29, 3) := by decide +kernel
theorem dX5_takeOfValve_41 : decode cX5_takeOfValve 41 = .ok (.aload_n 0, 1) := by decide +kernel
theorem dX5_takeOfValve_42 : decode cX5_takeOfValve 42 = .ok (.getfield 54, 3) := by decide +kernel
theorem dX5_takeOfValve_45 : decode cX5_takeOfValve 45 = .ok (.aload_n 0, 1) := by decide +kernel
theorem dX5_takeOfValve_46 : decode cX5_takeOfValve 46 = .ok (.getfield 100, 3) := by decide +kernel
theorem dX5_takeOfValve_49 : decode cX5_takeOfValve 49 = .ok (.bipush 10, 2) := by decide +kernel
theorem dX5_takeOfValve_51 : decode cX5_takeOfValve 51 = .ok (.aload_n 0, 1) := by decide +kernel
theorem dX5_takeOfValve_52 : decode cX5_takeOfValve 52 = .ok (.getfield 107, 3) := by decide +kernel
theorem dX5_takeOfValve_55 : decode cX5_takeOfValve 55 = .ok (.imul, 1) := by decide +kernel
theorem dX5_takeOfValve_56 : decode cX5_takeOfValve 56 = .ok (.iload_n 1, 1) := by decide +kernel
theorem dX5_takeOfValve_57 : decode cX5_takeOfValve 57 = .ok (.iadd, 1) := by decide +kernel
theorem dX5_takeOfValve_58 : decode cX5_takeOfValve 58 = .ok (.iastore, 1) := by decide +kernel
theorem dX5_takeOfValve_59 : decode cX5_takeOfValve 59 = .ok (.aload_n 0, 1) := by decide +kernel
theorem dX5_takeOfValve_60 : decode cX5_takeOfValve 60 = .ok (.iconst 3, 1) := by decide +kernel
theorem dX5_takeOfValve_61 : decode cX5_takeOfValve 61 = .ok (.putfield 82, 3) := by decide +kernel
theorem dX5_takeOfValve_64 : decode cX5_takeOfValve 64 = .ok (.goto 30, 3) := by decide +kernel
theorem dX5_takeOfValve_67 : decode cX5_takeOfValve 67 = .ok (.aload_n 0, 1) := by decide +kernel
theorem dX5_takeOfValve_68 : decode cX5_takeOfValve 68 = .ok (.getfield 57, 3) := by decide +kernel
theorem dX5_takeOfValve_71 : decode cX5_takeOfValve 71 = .ok (.aload_n 0, 1) := by decide +kernel
theorem dX5_takeOfValve_72 : decode cX5_takeOfValve 72 = .ok (.getfield 100, 3) := by decide +kernel
theorem dX5_takeOfValve_75 : decode cX5_takeOfValve 75 = .ok (.iload_n 1, 1) := by decide +kernel
theorem dX5_takeOfValve_76 : decode cX5_takeOfValve 76 = .ok (.iconst 4, 1) := by decide +kernel
theorem dX5_takeOfValve_77 : decode cX5_takeOfValve 77 = .ok (.isub, 1) := by decide +kernel
theorem dX5_takeOfValve_78 : decode cX5_takeOfValve 78 = .ok (.iastore, 1) := by decide +kernel
theorem dX5_takeOfValve_79 : decode cX5_takeOfValve 79 = .ok (.aload_n 0, 1) := by decide +kernel
theorem dX5_takeOfValve_80 : decode cX5_takeOfValve 80 = .ok (.dup, 1) := by decide +kernel
theorem dX5_takeOfValve_81 : decode cX5_takeOfValve 81 = .ok (.getfield 100, 3) := by decide +kernel
theorem dX5_takeOfValve_84 : decode cX5_takeOfValve 84 = .ok (.iconst 1, 1) := by decide +kernel
theorem dX5_takeOfValve_85 : decode cX5_takeOfValve 85 = .ok (.iadd, 1) := by decide +kernel
theorem dX5_takeOfValve_86 : decode cX5_takeOfValve 86 = .ok (.putfield 100, 3) := by decide +kernel
theorem dX5_takeOfValve_89 : decode cX5_takeOfValve 89 = .ok (.aload_n 0, 1) := by decide +kernel
theorem dX5_takeOfValve_90 : decode cX5_takeOfValve 90 = .ok (.iconst 0, 1) := by decide +kernel
theorem dX5_takeOfValve_91 : decode cX5_takeOfValve 91 = .ok (.putfield 94, 3) := by decide +kernel
theorem dX5_takeOfValve_94 : decode cX5_takeOfValve 94 = .ok (.iconst 1, 1) := by decide +kernel
theorem dX5_takeOfValve_95 : decode cX5_takeOfValve 95 = .ok (.ireturn, 1) := by decide +kernel
theorem dX5_takeOfStock_0 : decode cX5_takeOfStock 0 = .ok (.bipush 99, 2) := by decide +kernel
theorem dX5_takeOfStock_2 : decode cX5_takeOfStock 2 = .ok (.aload_n 0, 1) := by decide +kernel
theorem dX5_takeOfStock_3 : decode cX5_takeOfStock 3 = .ok (.getfield 60, 3) := by decide +kernel
theorem dX5_takeOfStock_6 : decode cX5_takeOfStock 6 = .ok (.iload_n 1, 1) := by decide +kernel
theorem dX5_takeOfStock_7 : decode cX5_takeOfStock 7 = .ok (.iaload, 1) := by decide +kernel
theorem dX5_takeOfStock_8 : decode cX5_takeOfStock 8 = .ok (.isub, 1) := by decide +kernel
theorem dX5_takeOfStock_9 : decode cX5_takeOfStock 9 = .ok (.istore_n 3, 1) := by decide +kernel
theorem dX5_takeOfStock_10 : decode cX5_takeOfStock 10 = .ok (.aload_n 0, 1) := by decide +kernel
theorem dX5_takeOfStock_11 : decode cX5_takeOfStock 11 = .ok (.getfield 82, 3) := by decide +kernel
theorem dX5_takeOfStock_14 : decode cX5_takeOfStock 14 = .ok (.iconst 1, 1) := by decide +kernel
theorem dX5_takeOfStock_15 : decode cX5_takeOfStock 15 = .ok (.if_icmp .ne 45, 3) := by decide +kernel
theorem dX5_takeOfStock_18 : decode cX5_takeOfStock 18 = .ok (.aload_n 0, 1) := by decide +kernel
theorem dX5_takeOfStock_19 : decode cX5_takeOfStock 19 = .ok (.iload_n 2, 1) := by decide +kernel
theorem dX5_takeOfStock_20 : decode cX5_takeOfStock 20 = .ok (.putfield 107, 3) := by decide +kernel
theorem dX5_takeOfStock_23 : decode cX5_takeOfStock 23 = .ok (.aload_n 0, 1) := by decide +kernel
theorem dX5_takeOfStock_24 : decode cX5_takeOfStock 24 = .ok (.iconst 2, 1) := by decide +kernel
theorem dX5_takeOfStock_25 : decode cX5_takeOfStock 25 = .ok (.putfield 82, 3) := by decide +kernel
theorem dX5_takeOfStock_28 : decode cX5_takeOfStock 28 = .ok (.iload_n 2, 1) := by decide +kernel
theorem dX5_takeOfStock_29 : decode cX5_takeOfStock 29 = .ok (.iconst 0, 1) := by decide +kernel
theorem dX5_takeOfStock_30 : decode cX5_takeOfStock 30 = .ok (.bipush 9, 2) := by decide +kernel
theorem dX5_takeOfStock_32 : decode cX5_takeOfStock 32 = .ok (.invokestatic 72, 3) := by decide +kernel
theorem dX5_takeOfStock_35 : decode cX5_takeOfStock 35 = .ok (.ifCond .eq 23, 3) := by decide +kernel
theorem dX5_takeOfStock_38 : decode cX5_takeOfStock 38 = .ok (.iload_n 2, 1) := by decide +kernel
theorem dX5_takeOfStock_39 : decode cX5_takeOfStock 39 = .ok (.ifCond .ne 7, 3) := by decide +kernel
theorem dX5_takeOfStock_42 : decode cX5_takeOfStock 42 = .ok (.iconst 1, 1) := by decide +kernel
theorem dX5_takeOfStock_43 : decode cX5_takeOfStock 43 = .ok (.goto 7, 3) := by decide +kernel
theorem dX5_takeOfStock_46 : decode cX5_takeOfStock 46 = .ok (.bipush 10, 2) := by decide +kernel
theorem dX5_takeOfStock_48 : decode cX5_takeOfStock 48 = .ok (.iload_n 2, 1) := by decide +kernel
theorem dX5_takeOfStock_49 : decode cX5_takeOfStock 49 = .ok (.imul, 1) := by decide +kernel
theorem dX5_takeOfStock_50 : decode cX5_takeOfStock 50 = .ok (.iload_n 3, 1) := by decide +kernel
theorem dX5_takeOfStock_51 : decode cX5_takeOfStock 51 = .ok (.if_icmp .gt 7, 3) := by decide +kernel
theorem dX5_takeOfStock_54 : decode cX5_takeOfStock 54 = .ok (.iconst 1, 1) := by decide +kernel
theorem dX5_takeOfStock_55 : decode cX5_takeOfStock 55 = .ok (.goto 4, 3) := by decide +kernel
theorem dX5_takeOfStock_58 : decode cX5_takeOfStock 58 = .ok (.iconst 0, 1) := by decide +kernel
theorem dX5_takeOfStock_59 : decode cX5_takeOfStock 59 = .ok (.ireturn, 1) := by decide +kernel
theorem dX5_takeOfStock_60 : decode cX5_takeOfStock 60 = .ok (.bipush 10, 2) := by decide +kernel
theorem dX5_takeOfStock_62 : decode cX5_takeOfStock 62 = .ok (.aload_n 0, 1) := by decide +kernel
theorem dX5_takeOfStock_63 : decode cX5_takeOfStock 63 = .ok (.getfield 107, 3) := by decide +kernel
theorem dX5_takeOfStock_66 : decode cX5_takeOfStock 66 = .ok (.imul, 1) := by decide +kernel
theorem dX5_takeOfStock_67 : decode cX5_takeOfStock 67 = .ok (.iload_n 2, 1) := by decide +kernel
theorem dX5_takeOfStock_68 : decode cX5_takeOfStock 68 = .ok (.iadd, 1) := by decide +kernel
theorem dX5_takeOfStock_69 : decode cX5_takeOfStock 69 = .ok (.istore 4, 2) := by decide +kernel
theorem dX5_takeOfStock_71 : decode cX5_takeOfStock 71 = .ok (.aload_n 0, 1) := by decide +kernel
theorem dX5_takeOfStock_72 : decode cX5_takeOfStock 72 = .ok (.iconst 0, 1) := by decide +kernel
theorem dX5_takeOfStock_73 : decode cX5_takeOfStock 73 = .ok (.putfield 94, 3) := by decide +kernel
theorem dX5_takeOfStock_76 : decode cX5_takeOfStock 76 = .ok (.iload_n 2, 1) := by decide +kernel
theorem dX5_takeOfStock_77 : decode cX5_takeOfStock 77 = .ok (.iconst 0, 1) := by decide +kernel
theorem dX5_takeOfStock_78 : decode cX5_takeOfStock 78 = .ok (.bipush 9, 2) := by decide +kernel
theorem dX5_takeOfStock_80 : decode cX5_takeOfStock 80 = .ok (.invokestatic 72, 3) := by decide +kernel
theorem dX5_takeOfStock_83 : decode cX5_takeOfStock 83 = .ok (.ifCond .eq 13, 3) := by decide +kernel
theorem dX5_takeOfStock_86 : decode cX5_takeOfStock 86 = .ok (.iload 4, 2) := by decide +kernel
theorem dX5_takeOfStock_88 : decode cX5_takeOfStock 88 = .ok (.iconst 1, 1) := by decide +kernel
theorem dX5_takeOfStock_89 : decode cX5_takeOfStock 89 = .ok (.iload_n 3, 1) := by decide +kernel
theorem dX5_takeOfStock_90 : decode cX5_takeOfStock 90 = .ok (.invokestatic 72, 3) := by decide +kernel
theorem dX5_takeOfStock_93 : decode cX5_takeOfStock 93 = .ok (.ifCond .ne 5, 3) := by decide +kernel
theorem dX5_takeOfStock_96 : decode cX5_takeOfStock 96 = .ok (.iconst 0, 1) := by decide +kernel
theorem dX5_takeOfStock_97 : decode cX5_takeOfStock 97 = .ok (.ireturn, 1) := by decide +kernel
theorem dX5_takeOfStock_98 : decode cX5_takeOfStock 98 = .ok (.aload_n 0, 1) := by decide +kernel
theorem dX5_takeOfStock_99 : decode cX5_takeOfStock 99 = .ok (.getfield 60, 3) := by decide +kernel
theorem dX5_takeOfStock_102 : decode cX5_takeOfStock 102 = .ok (.iload_n 1, 1) := by decide +kernel
theorem dX5_takeOfStock_103 : decode cX5_takeOfStock 103 = .ok (.dup2, 1) := by decide +kernel
theorem dX5_takeOfStock_104 : decode cX5_takeOfStock 104 = .ok (.iaload, 1) := by decide +kernel
theorem dX5_takeOfStock_105 : decode cX5_takeOfStock 105 = .ok (.iload 4, 2) := by decide +kernel
theorem dX5_takeOfStock_107 : decode cX5_takeOfStock 107 = .ok (.iadd, 1) := by decide +kernel
theorem dX5_takeOfStock_108 : decode cX5_takeOfStock 108 = .ok (.iastore, 1) := by decide +kernel
theorem dX5_takeOfStock_109 : decode cX5_takeOfStock 109 = .ok (.iconst 1, 1) := by decide +kernel
theorem dX5_takeOfStock_110 : decode cX5_takeOfStock 110 = .ok (.ireturn, 1) := by decide +kernel
theorem dX5_take_0 : decode cX5_take 0 = .ok (.aload_n 0, 1) := by decide +kernel
theorem dX5_take_1 : decode cX5_take 1 = .ok (.getfield 94, 3) := by decide +kernel
theorem dX5_take_4 : decode cX5_take 4 = .ok (.ifCond .ne 9, 3) := by decide +kernel
theorem dX5_take_7 : decode cX5_take 7 = .ok (.aload_n 0, 1) := by decide +kernel
theorem dX5_take_8 : decode cX5_take 8 = .ok (.iload_n 1, 1) := by decide +kernel
theorem dX5_take_9 : decode cX5_take 9 = .ok (.invokevirtual 110, 3) := by decide +kernel
theorem dX5_take_12 : decode cX5_take 12 = .ok (.ireturn, 1) := by decide +kernel
theorem dX5_take_13 : decode cX5_take 13 = .ok (.iload_n 1, 1) := by decide +kernel
theorem dX5_take_14 : decode cX5_take 14 = .ok (.bipush 48, 2) := by decide +kernel
theorem dX5_take_16 : decode cX5_take 16 = .ok (.isub, 1) := by decide +kernel
theorem dX5_take_17 : decode cX5_take 17 = .ok (.istore_n 2, 1) := by decide +kernel
theorem dX5_take_18 : decode cX5_take 18 = .ok (.aload_n 0, 1) := by decide +kernel
theorem dX5_take_19 : decode cX5_take 19 = .ok (.getfield 94, 3) := by decide +kernel
theorem dX5_take_22 : decode cX5_take 22 = .ok (.bipush 66, 2) := by decide +kernel
theorem dX5_take_24 : decode cX5_take 24 = .ok (.if_icmp .ne 9, 3) := by decide +kernel
theorem dX5_take_27 : decode cX5_take 27 = .ok (.aload_n 0, 1) := by decide +kernel
theorem dX5_take_28 : decode cX5_take 28 = .ok (.iload_n 2, 1) := by decide +kernel
theorem dX5_take_29 : decode cX5_take 29 = .ok (.invokevirtual 113, 3) := by decide +kernel
theorem dX5_take_32 : decode cX5_take 32 = .ok (.ireturn, 1) := by decide +kernel
theorem dX5_take_33 : decode cX5_take 33 = .ok (.aload_n 0, 1) := by decide +kernel
theorem dX5_take_34 : decode cX5_take 34 = .ok (.getfield 94, 3) := by decide +kernel
theorem dX5_take_37 : decode cX5_take 37 = .ok (.bipush 118, 2) := by decide +kernel
theorem dX5_take_39 : decode cX5_take 39 = .ok (.if_icmp .ne 11, 3) := by decide +kernel
theorem dX5_take_42 : decode cX5_take 42 = .ok (.aload_n 0, 1) := by decide +kernel
theorem dX5_take_43 : decode cX5_take 43 = .ok (.iload_n 2, 1) := by decide +kernel
theorem dX5_take_44 : decode cX5_take 44 = .ok (.invokevirtual 116, 3) := by decide +kernel
theorem dX5_take_47 : decode cX5_take 47 = .ok (.goto 22, 3) := by decide +kernel
theorem dX5_take_50 : decode cX5_take 50 = .ok (.aload_n 0, 1) := by decide +kernel
theorem dX5_take_51 : decode cX5_take 51 = .ok (.aload_n 0, 1) := by decide +kernel
theorem dX5_take_52 : decode cX5_take 52 = .ok (.getfield 94, 3) := by decide +kernel
theorem dX5_take_55 : decode cX5_take 55 = .ok (.bipush 99, 2) := by decide +kernel
theorem dX5_take_57 : decode cX5_take 57 = .ok (.if_icmp .ne 7, 3) := by decide +kernel
theorem dX5_take_60 : decode cX5_take 60 = .ok (.iconst 0, 1) := by decide +kernel
theorem dX5_take_61 : decode cX5_take 61 = .ok (.goto 4, 3) := by decide +kernel
theorem dX5_take_64 : decode cX5_take 64 = .ok (.iconst 1, 1) := by decide +kernel
theorem dX5_take_65 : decode cX5_take 65 = .ok (.iload_n 2, 1) := by decide +kernel
theorem dX5_take_66 : decode cX5_take 66 = .ok (.invokevirtual 119, 3) := by decide +kernel
theorem dX5_take_69 : decode cX5_take 69 = .ok (.ireturn, 1) := by decide +kernel
theorem dX5_readText_0 : decode cX5_readText 0 = .ok (.aload_n 0, 1) := by decide +kernel
theorem dX5_readText_1 : decode cX5_readText 1 = .ok (.iconst 0, 1) := by decide +kernel
theorem dX5_readText_2 : decode cX5_readText 2 = .ok (.putfield 85, 3) := by decide +kernel
theorem dX5_readText_5 : decode cX5_readText 5 = .ok (.aload_n 0, 1) := by decide +kernel
theorem dX5_readText_6 : decode cX5_readText 6 = .ok (.iconst 0, 1) := by decide +kernel
theorem dX5_readText_7 : decode cX5_readText 7 = .ok (.putfield 100, 3) := by decide +kernel
theorem dX5_readText_10 : decode cX5_readText 10 = .ok (.aload_n 0, 1) := by decide +kernel
theorem dX5_readText_11 : decode cX5_readText 11 = .ok (.getfield 60, 3) := by decide +kernel
theorem dX5_readText_14 : decode cX5_readText 14 = .ok (.iconst 0, 1) := by decide +kernel
theorem dX5_readText_15 : decode cX5_readText 15 = .ok (.iconst 0, 1) := by decide +kernel
theorem dX5_readText_16 : decode cX5_readText 16 = .ok (.iastore, 1) := by decide +kernel
theorem dX5_readText_17 : decode cX5_readText 17 = .ok (.aload_n 0, 1) := by decide +kernel
theorem dX5_readText_18 : decode cX5_readText 18 = .ok (.getfield 60, 3) := by decide +kernel
theorem dX5_readText_21 : decode cX5_readText 21 = .ok (.iconst 1, 1) := by decide +kernel
theorem dX5_readText_22 : decode cX5_readText 22 = .ok (.iconst 0, 1) := by decide +kernel
theorem dX5_readText_23 : decode cX5_readText 23 = .ok (.iastore, 1) := by decide +kernel
theorem dX5_readText_24 : decode cX5_readText 24 = .ok (.aload_n 0, 1) := by decide +kernel
theorem dX5_readText_25 : decode cX5_readText 25 = .ok (.iconst 0, 1) := by decide +kernel
theorem dX5_readText_26 : decode cX5_readText 26 = .ok (.putfield 97, 3) := by decide +kernel
theorem dX5_readText_29 : decode cX5_readText 29 = .ok (.aload_n 0, 1) := by decide +kernel
theorem dX5_readText_30 : decode cX5_readText 30 = .ok (.bipush 66, 2) := by decide +kernel
theorem dX5_readText_32 : decode cX5_readText 32 = .ok (.putfield 94, 3) := by decide +kernel
theorem dX5_readText_35 : decode cX5_readText 35 = .ok (.aload_n 0, 1) := by decide +kernel
theorem dX5_readText_36 : decode cX5_readText 36 = .ok (.iconst 0, 1) := by decide +kernel
theorem dX5_readText_37 : decode cX5_readText 37 = .ok (.putfield 82, 3) := by decide +kernel
theorem dX5_readText_40 : decode cX5_readText 40 = .ok (.aload_n 0, 1) := by decide +kernel
theorem dX5_readText_41 : decode cX5_readText 41 = .ok (.getfield 79, 3) := by decide +kernel
theorem dX5_readText_44 : decode cX5_readText 44 = .ok (.ifCond .eq 14, 3) := by decide +kernel
theorem dX5_readText_47 : decode cX5_readText 47 = .ok (.aload_n 0, 1) := by decide +kernel
theorem dX5_readText_48 : decode cX5_readText 48 = .ok (.getfield 7, 3) := by decide +kernel
theorem dX5_readText_51 : decode cX5_readText 51 = .ok (.iconst 0, 1) := by decide +kernel
theorem dX5_readText_52 : decode cX5_readText 52 = .ok (.iaload, 1) := by decide +kernel
theorem dX5_readText_53 : decode cX5_readText 53 = .ok (.bipush 66, 2) := by decide +kernel
theorem dX5_readText_55 : decode cX5_readText 55 = .ok (.if_icmp .eq 5, 3) := by decide +kernel
theorem dX5_readText_58 : decode cX5_readText 58 = .ok (.iconst 0, 1) := by decide +kernel
theorem dX5_readText_59 : decode cX5_readText 59 = .ok (.ireturn, 1) := by decide +kernel
theorem dX5_readText_60 : decode cX5_readText 60 = .ok (.iconst 1, 1) := by decide +kernel
theorem dX5_readText_61 : decode cX5_readText 61 = .ok (.istore_n 1, 1) := by decide +kernel
theorem dX5_readText_62 : decode cX5_readText 62 = .ok (.iload_n 1, 1) := by decide +kernel
theorem dX5_readText_63 : decode cX5_readText 63 = .ok (.aload_n 0, 1) := by decide +kernel
theorem dX5_readText_64 : decode cX5_readText 64 = .ok (.getfield 79, 3) := by decide +kernel
theorem dX5_readText_67 : decode cX5_readText 67 = .ok (.if_icmp .ge 24, 3) := by decide +kernel
theorem dX5_readText_70 : decode cX5_readText 70 = .ok (.aload_n 0, 1) := by decide +kernel
theorem dX5_readText_71 : decode cX5_readText 71 = .ok (.aload_n 0, 1) := by decide +kernel
theorem dX5_readText_72 : decode cX5_readText 72 = .ok (.getfield 7, 3) := by decide +kernel
theorem dX5_readText_75 : decode cX5_readText 75 = .ok (.iload_n 1, 1) := by decide +kernel
theorem dX5_readText_76 : decode cX5_readText 76 = .ok (.iaload, 1) := by decide +kernel
theorem dX5_readText_77 : decode cX5_readText 77 = .ok (.invokevirtual 123, 3) := by decide +kernel
theorem dX5_readText_80 : decode cX5_readText 80 = .ok (.ifCond .ne 5, 3) := by decide +kernel
theorem dX5_readText_83 : decode cX5_readText 83 = .ok (.iload_n 1, 1) := by decide +kernel
theorem dX5_readText_84 : decode cX5_readText 84 = .ok (.ireturn, 1) := by decide +kernel
theorem dX5_readText_85 : decode cX5_readText 85 = .ok (.iinc 1 1, 3) := by decide +kernel
theorem dX5_readText_88 : decode cX5_readText 88 = .ok (.goto (-26), 3) := by decide +kernel
theorem dX5_readText_91 : decode cX5_readText 91 = .ok (.aload_n 0, 1) := by decide +kernel
theorem dX5_readText_92 : decode cX5_readText 92 = .ok (.getfield 94, 3) := by decide +kernel
theorem dX5_readText_95 : decode cX5_readText 95 = .ok (.ifCond .ne 8, 3) := by decide +kernel
theorem dX5_readText_98 : decode cX5_readText 98 = .ok (.bipush (-9), 2) := by decide +kernel
theorem dX5_readText_100 : decode cX5_readText 100 = .ok (.goto 7, 3) := by decide +kernel
theorem dX5_readText_103 : decode cX5_readText 103 = .ok (.aload_n 0, 1) := by decide +kernel
theorem dX5_readText_104 : decode cX5_readText 104 = .ok (.getfield 79, 3) := by decide +kernel
theorem dX5_readText_107 : decode cX5_readText 107 = .ok (.ireturn, 1) := by decide +kernel
theorem dX5_fault_0 : decode cX5_fault 0 = .ok (.aload_n 0, 1) := by decide +kernel
theorem dX5_fault_1 : decode cX5_fault 1 = .ok (.invokevirtual 126, 3) := by decide +kernel
theorem dX5_fault_4 : decode cX5_fault 4 = .ok (.ireturn, 1) := by decide +kernel
theorem dX5_line_0 : decode cX5_line 0 = .ok (.aload_n 0, 1) := by decide +kernel
theorem dX5_line_1 : decode cX5_line 1 = .ok (.invokevirtual 126, 3) := by decide +kernel
theorem dX5_line_4 : decode cX5_line 4 = .ok (.bipush (-9), 2) := by decide +kernel
theorem dX5_line_6 : decode cX5_line 6 = .ok (.if_icmp .eq 6, 3) := by decide +kernel
theorem dX5_line_9 : decode cX5_line 9 = .ok (.bipush (-3), 2) := by decide +kernel
theorem dX5_line_11 : decode cX5_line 11 = .ok (.ireturn, 1) := by decide +kernel
theorem dX5_line_12 : decode cX5_line 12 = .ok (.iconst 0, 1) := by decide +kernel
theorem dX5_line_13 : decode cX5_line 13 = .ok (.istore_n 1, 1) := by decide +kernel
theorem dX5_line_14 : decode cX5_line 14 = .ok (.iload_n 1, 1) := by decide +kernel
theorem dX5_line_15 : decode cX5_line 15 = .ok (.bipush 103, 2) := by decide +kernel
theorem dX5_line_17 : decode cX5_line 17 = .ok (.if_icmp .ge 33, 3) := by decide +kernel
theorem dX5_line_20 : decode cX5_line 20 = .ok (.aload_n 0, 1) := by decide +kernel
theorem dX5_line_21 : decode cX5_line 21 = .ok (.getfield 23, 3) := by decide +kernel
theorem dX5_line_24 : decode cX5_line 24 = .ok (.iload_n 1, 1) := by decide +kernel
theorem dX5_line_25 : decode cX5_line 25 = .ok (.iload_n 1, 1) := by decide +kernel
theorem dX5_line_26 : decode cX5_line 26 = .ok (.bipush 18, 2) := by decide +kernel
theorem dX5_line_28 : decode cX5_line 28 = .ok (.if_icmp .lt 14, 3) := by decide +kernel
theorem dX5_line_31 : decode cX5_line 31 = .ok (.iload_n 1, 1) := by decide +kernel
theorem dX5_line_32 : decode cX5_line 32 = .ok (.bipush 27, 2) := by decide +kernel
theorem dX5_line_34 : decode cX5_line 34 = .ok (.if_icmp .ge 8, 3) := by decide +kernel
theorem dX5_line_37 : decode cX5_line 37 = .ok (.bipush (-9), 2) := by decide +kernel
theorem dX5_line_39 : decode cX5_line 39 = .ok (.goto 4, 3) := by decide +kernel
theorem dX5_line_42 : decode cX5_line 42 = .ok (.iconst 0, 1) := by decide +kernel
theorem dX5_line_43 : decode cX5_line 43 = .ok (.iastore, 1) := by decide +kernel
theorem dX5_line_44 : decode cX5_line 44 = .ok (.iinc 1 1, 3) := by decide +kernel
theorem dX5_line_47 : decode cX5_line 47 = .ok (.goto (-33), 3) := by decide +kernel
theorem dX5_line_50 : decode cX5_line 50 = .ok (.aload_n 0, 1) := by decide +kernel
theorem dX5_line_51 : decode cX5_line 51 = .ok (.aload_n 0, 1) := by decide +kernel
theorem dX5_line_52 : decode cX5_line 52 = .ok (.getfield 51, 3) := by decide +kernel
theorem dX5_line_55 : decode cX5_line 55 = .ok (.iconst 0, 1) := by decide +kernel
theorem dX5_line_56 : decode cX5_line 56 = .ok (.iaload, 1) := by decide +kernel
theorem dX5_line_57 : decode cX5_line 57 = .ok (.putfield 13, 3) := by decide +kernel
theorem dX5_line_60 : decode cX5_line 60 = .ok (.iconst 0, 1) := by decide +kernel
theorem dX5_line_61 : decode cX5_line 61 = .ok (.istore_n 1, 1) := by decide +kernel
theorem dX5_line_62 : decode cX5_line 62 = .ok (.iload_n 1, 1) := by decide +kernel
theorem dX5_line_63 : decode cX5_line 63 = .ok (.iconst 5, 1) := by decide +kernel
theorem dX5_line_64 : decode cX5_line 64 = .ok (.if_icmp .ge 23, 3) := by decide +kernel
theorem dX5_line_67 : decode cX5_line 67 = .ok (.aload_n 0, 1) := by decide +kernel
theorem dX5_line_68 : decode cX5_line 68 = .ok (.getfield 17, 3) := by decide +kernel
theorem dX5_line_71 : decode cX5_line 71 = .ok (.iload_n 1, 1) := by decide +kernel
theorem dX5_line_72 : decode cX5_line 72 = .ok (.aload_n 0, 1) := by decide +kernel
theorem dX5_line_73 : decode cX5_line 73 = .ok (.getfield 51, 3) := by decide +kernel
theorem dX5_line_76 : decode cX5_line 76 = .ok (.iload_n 1, 1) := by decide +kernel
theorem dX5_line_77 : decode cX5_line 77 = .ok (.iconst 1, 1) := by decide +kernel
theorem dX5_line_78 : decode cX5_line 78 = .ok (.iadd, 1) := by decide +kernel
theorem dX5_line_79 : decode cX5_line 79 = .ok (.iaload, 1) := by decide +kernel
theorem dX5_line_80 : decode cX5_line 80 = .ok (.iastore, 1) := by decide +kernel
theorem dX5_line_81 : decode cX5_line 81 = .ok (.iinc 1 1, 3) := by decide +kernel
theorem dX5_line_84 : decode cX5_line 84 = .ok (.goto (-22), 3) := by decide +kernel
theorem dX5_line_87 : decode cX5_line 87 = .ok (.aload_n 0, 1) := by decide +kernel
theorem dX5_line_88 : decode cX5_line 88 = .ok (.aload_n 0, 1) := by decide +kernel
theorem dX5_line_89 : decode cX5_line 89 = .ok (.getfield 85, 3) := by decide +kernel
theorem dX5_line_92 : decode cX5_line 92 = .ok (.putfield 130, 3) := by decide +kernel
theorem dX5_line_95 : decode cX5_line 95 = .ok (.aload_n 0, 1) := by decide +kernel
theorem dX5_line_96 : decode cX5_line 96 = .ok (.aload_n 0, 1) := by decide +kernel
theorem dX5_line_97 : decode cX5_line 97 = .ok (.getfield 88, 3) := by decide +kernel
theorem dX5_line_100 : decode cX5_line 100 = .ok (.putfield 133, 3) := by decide +kernel
theorem dX5_line_103 : decode cX5_line 103 = .ok (.aload_n 0, 1) := by decide +kernel
theorem dX5_line_104 : decode cX5_line 104 = .ok (.aload_n 0, 1) := by decide +kernel
theorem dX5_line_105 : decode cX5_line 105 = .ok (.getfield 91, 3) := by decide +kernel
theorem dX5_line_108 : decode cX5_line 108 = .ok (.putfield 136, 3) := by decide +kernel
theorem dX5_line_111 : decode cX5_line 111 = .ok (.aload_n 0, 1) := by decide +kernel
theorem dX5_line_112 : decode cX5_line 112 = .ok (.aload_n 0, 1) := by decide +kernel
theorem dX5_line_113 : decode cX5_line 113 = .ok (.getfield 100, 3) := by decide +kernel
theorem dX5_line_116 : decode cX5_line 116 = .ok (.putfield 76, 3) := by decide +kernel
theorem dX5_line_119 : decode cX5_line 119 = .ok (.iconst 0, 1) := by decide +kernel
theorem dX5_line_120 : decode cX5_line 120 = .ok (.istore_n 1, 1) := by decide +kernel
theorem dX5_line_121 : decode cX5_line 121 = .ok (.iload_n 1, 1) := by decide +kernel
theorem dX5_line_122 : decode cX5_line 122 = .ok (.aload_n 0, 1) := by decide +kernel
theorem dX5_line_123 : decode cX5_line 123 = .ok (.getfield 76, 3) := by decide +kernel
theorem dX5_line_126 : decode cX5_line 126 = .ok (.if_icmp .ge 36, 3) := by decide +kernel
theorem dX5_line_129 : decode cX5_line 129 = .ok (.aload_n 0, 1) := by decide +kernel
theorem dX5_line_130 : decode cX5_line 130 = .ok (.getfield 23, 3) := by decide +kernel
theorem dX5_line_133 : decode cX5_line 133 = .ok (.bipush 63, 2) := by decide +kernel
theorem dX5_line_135 : decode cX5_line 135 = .ok (.iload_n 1, 1) := by decide +kernel
theorem dX5_line_136 : decode cX5_line 136 = .ok (.iadd, 1) := by decide +kernel
theorem dX5_line_137 : decode cX5_line 137 = .ok (.aload_n 0, 1) := by decide +kernel
theorem dX5_line_138 : decode cX5_line 138 = .ok (.getfield 54, 3) := by decide +kernel
theorem dX5_line_141 : decode cX5_line 141 = .ok (.iload_n 1, 1) := by decide +kernel
theorem dX5_line_142 : decode cX5_line 142 = .ok (.iaload, 1) := by decide +kernel
theorem dX5_line_143 : decode cX5_line 143 = .ok (.iastore, 1) := by decide +kernel
theorem dX5_line_144 : decode cX5_line 144 = .ok (.aload_n 0, 1) := by decide +kernel
theorem dX5_line_145 : decode cX5_line 145 = .ok (.getfield 20, 3) := by decide +kernel
theorem dX5_line_148 : decode cX5_line 148 = .ok (.iload_n 1, 1) := by decide +kernel
theorem dX5_line_149 : decode cX5_line 149 = .ok (.aload_n 0, 1) := by decide +kernel
theorem dX5_line_150 : decode cX5_line 150 = .ok (.getfield 57, 3) := by decide +kernel
theorem dX5_line_153 : decode cX5_line 153 = .ok (.iload_n 1, 1) := by decide +kernel
theorem dX5_line_154 : decode cX5_line 154 = .ok (.iaload, 1) := by decide +kernel
theorem dX5_line_155 : decode cX5_line 155 = .ok (.iastore, 1) := by decide +kernel
theorem dX5_line_156 : decode cX5_line 156 = .ok (.iinc 1 1, 3) := by decide +kernel
theorem dX5_line_159 : decode cX5_line 159 = .ok (.goto (-38), 3) := by decide +kernel
theorem dX5_line_162 : decode cX5_line 162 = .ok (.aload_n 0, 1) := by decide +kernel
theorem dX5_line_163 : decode cX5_line 163 = .ok (.getfield 23, 3) := by decide +kernel
theorem dX5_line_166 : decode cX5_line 166 = .ok (.bipush 67, 2) := by decide +kernel
theorem dX5_line_168 : decode cX5_line 168 = .ok (.aload_n 0, 1) := by decide +kernel
theorem dX5_line_169 : decode cX5_line 169 = .ok (.getfield 60, 3) := by decide +kernel
theorem dX5_line_172 : decode cX5_line 172 = .ok (.iconst 0, 1) := by decide +kernel
theorem dX5_line_173 : decode cX5_line 173 = .ok (.iaload, 1) := by decide +kernel
theorem dX5_line_174 : decode cX5_line 174 = .ok (.iastore, 1) := by decide +kernel
theorem dX5_line_175 : decode cX5_line 175 = .ok (.aload_n 0, 1) := by decide +kernel
theorem dX5_line_176 : decode cX5_line 176 = .ok (.getfield 23, 3) := by decide +kernel
theorem dX5_line_179 : decode cX5_line 179 = .ok (.bipush 68, 2) := by decide +kernel
theorem dX5_line_181 : decode cX5_line 181 = .ok (.aload_n 0, 1) := by decide +kernel
theorem dX5_line_182 : decode cX5_line 182 = .ok (.getfield 60, 3) := by decide +kernel
theorem dX5_line_185 : decode cX5_line 185 = .ok (.iconst 1, 1) := by decide +kernel
theorem dX5_line_186 : decode cX5_line 186 = .ok (.iaload, 1) := by decide +kernel
theorem dX5_line_187 : decode cX5_line 187 = .ok (.iastore, 1) := by decide +kernel
theorem dX5_line_188 : decode cX5_line 188 = .ok (.aload_n 0, 1) := by decide +kernel
theorem dX5_line_189 : decode cX5_line 189 = .ok (.getfield 23, 3) := by decide +kernel
theorem dX5_line_192 : decode cX5_line 192 = .ok (.bipush 78, 2) := by decide +kernel
theorem dX5_line_194 : decode cX5_line 194 = .ok (.aload_n 0, 1) := by decide +kernel
theorem dX5_line_195 : decode cX5_line 195 = .ok (.getfield 97, 3) := by decide +kernel
theorem dX5_line_198 : decode cX5_line 198 = .ok (.iastore, 1) := by decide +kernel
theorem dX5_line_199 : decode cX5_line 199 = .ok (.iconst 0, 1) := by decide +kernel
theorem dX5_line_200 : decode cX5_line 200 = .ok (.istore_n 1, 1) := by decide +kernel
theorem dX5_line_201 : decode cX5_line 201 = .ok (.iload_n 1, 1) := by decide +kernel
theorem dX5_line_202 : decode cX5_line 202 = .ok (.aload_n 0, 1) := by decide +kernel
theorem dX5_line_203 : decode cX5_line 203 = .ok (.getfield 97, 3) := by decide +kernel
theorem dX5_line_206 : decode cX5_line 206 = .ok (.if_icmp .ge 24, 3) := by decide +kernel
theorem dX5_line_209 : decode cX5_line 209 = .ok (.aload_n 0, 1) := by decide +kernel
theorem dX5_line_210 : decode cX5_line 210 = .ok (.getfield 23, 3) := by decide +kernel
theorem dX5_line_213 : decode cX5_line 213 = .ok (.bipush 79, 2) := by decide +kernel
theorem dX5_line_215 : decode cX5_line 215 = .ok (.iload_n 1, 1) := by decide +kernel
theorem dX5_line_216 : decode cX5_line 216 = .ok (.iadd, 1) := by decide +kernel
theorem dX5_line_217 : decode cX5_line 217 = .ok (.aload_n 0, 1) := by decide +kernel
theorem dX5_line_218 : decode cX5_line 218 = .ok (.getfield 63, 3) := by decide +kernel
theorem dX5_line_221 : decode cX5_line 221 = .ok (.iload_n 1, 1) := by decide +kernel
theorem dX5_line_222 : decode cX5_line 222 = .ok (.iaload, 1) := by decide +kernel
theorem dX5_line_223 : decode cX5_line 223 = .ok (.iastore, 1) := by decide +kernel
theorem dX5_line_224 : decode cX5_line 224 = .ok (.iinc 1 1, 3) := by decide +kernel
theorem dX5_line_227 : decode cX5_line 227 = .ok (.goto (-26), 3) := by decide +kernel
theorem dX5_line_230 : decode cX5_line 230 = .ok (.aload_n 0, 1) := by decide +kernel
theorem dX5_line_231 : decode cX5_line 231 = .ok (.iconst 0, 1) := by decide +kernel
theorem dX5_line_232 : decode cX5_line 232 = .ok (.putfield 139, 3) := by decide +kernel
theorem dX5_line_235 : decode cX5_line 235 = .ok (.aload_n 0, 1) := by decide +kernel
theorem dX5_line_236 : decode cX5_line 236 = .ok (.getfield 35, 3) := by decide +kernel
theorem dX5_line_239 : decode cX5_line 239 = .ok (.iconst 0, 1) := by decide +kernel
theorem dX5_line_240 : decode cX5_line 240 = .ok (.iconst 0, 1) := by decide +kernel
theorem dX5_line_241 : decode cX5_line 241 = .ok (.bastore, 1) := by decide +kernel
theorem dX5_line_242 : decode cX5_line 242 = .ok (.aload_n 0, 1) := by decide +kernel
theorem dX5_line_243 : decode cX5_line 243 = .ok (.getfield 35, 3) := by decide +kernel
theorem dX5_line_246 : decode cX5_line 246 = .ok (.iconst 1, 1) := by decide +kernel
theorem dX5_line_247 : decode cX5_line 247 = .ok (.iconst 0, 1) := by decide +kernel
theorem dX5_line_248 : decode cX5_line 248 = .ok (.bastore, 1) := by decide +kernel
theorem dX5_line_249 : decode cX5_line 249 = .ok (.aload_n 0, 1) := by decide +kernel
theorem dX5_line_250 : decode cX5_line 250 = .ok (.getfield 76, 3) := by decide +kernel
theorem dX5_line_253 : decode cX5_line 253 = .ok (.ireturn, 1) := by decide +kernel
theorem dX5_isGood_0 : decode cX5_isGood 0 = .ok (.aload_n 1, 1) := by decide +kernel
theorem dX5_isGood_1 : decode cX5_isGood 1 = .ok (.bipush 9, 2) := by decide +kernel
theorem dX5_isGood_3 : decode cX5_isGood 3 = .ok (.iload_n 2, 1) := by decide +kernel
theorem dX5_isGood_4 : decode cX5_isGood 4 = .ok (.iadd, 1) := by decide +kernel
theorem dX5_isGood_5 : decode cX5_isGood 5 = .ok (.iaload, 1) := by decide +kernel
theorem dX5_isGood_6 : decode cX5_isGood 6 = .ok (.aload_n 0, 1) := by decide +kernel
theorem dX5_isGood_7 : decode cX5_isGood 7 = .ok (.getfield 130, 3) := by decide +kernel
theorem dX5_isGood_10 : decode cX5_isGood 10 = .ok (.isub, 1) := by decide +kernel
theorem dX5_isGood_11 : decode cX5_isGood 11 = .ok (.istore_n 3, 1) := by decide +kernel
theorem dX5_isGood_12 : decode cX5_isGood 12 = .ok (.aload_n 1, 1) := by decide +kernel
theorem dX5_isGood_13 : decode cX5_isGood 13 = .ok (.iconst 0, 1) := by decide +kernel
theorem dX5_isGood_14 : decode cX5_isGood 14 = .ok (.iload_n 2, 1) := by decide +kernel
theorem dX5_isGood_15 : decode cX5_isGood 15 = .ok (.iadd, 1) := by decide +kernel
theorem dX5_isGood_16 : decode cX5_isGood 16 = .ok (.iaload, 1) := by decide +kernel
theorem dX5_isGood_17 : decode cX5_isGood 17 = .ok (.iconst 1, 1) := by decide +kernel
theorem dX5_isGood_18 : decode cX5_isGood 18 = .ok (.if_icmp .ne 44, 3) := by decide +kernel
theorem dX5_isGood_21 : decode cX5_isGood 21 = .ok (.iload_n 3, 1) := by decide +kernel
theorem dX5_isGood_22 : decode cX5_isGood 22 = .ok (.ifCond .ge 8, 3) := by decide +kernel
theorem dX5_isGood_25 : decode cX5_isGood 25 = .ok (.iload_n 3, 1) := by decide +kernel
theorem dX5_isGood_26 : decode cX5_isGood 26 = .ok (.ineg, 1) := by decide +kernel
theorem dX5_isGood_27 : decode cX5_isGood 27 = .ok (.goto 4, 3) := by decide +kernel
theorem dX5_isGood_30 : decode cX5_isGood 30 = .ok (.iload_n 3, 1) := by decide +kernel
theorem dX5_isGood_31 : decode cX5_isGood 31 = .ok (.aload_n 0, 1) := by decide +kernel
theorem dX5_isGood_32 : decode cX5_isGood 32 = .ok (.getfield 133, 3) := by decide +kernel
theorem dX5_isGood_35 : decode cX5_isGood 35 = .ok (.if_icmp .gt 27, 3) := by decide +kernel
theorem dX5_isGood_38 : decode cX5_isGood 38 = .ok (.aload_n 1, 1) := by decide +kernel
theorem dX5_isGood_39 : decode cX5_isGood 39 = .ok (.bipush 27, 2) := by decide +kernel
theorem dX5_isGood_41 : decode cX5_isGood 41 = .ok (.iload_n 2, 1) := by decide +kernel
theorem dX5_isGood_42 : decode cX5_isGood 42 = .ok (.iadd, 1) := by decide +kernel
theorem dX5_isGood_43 : decode cX5_isGood 43 = .ok (.iaload, 1) := by decide +kernel
theorem dX5_isGood_44 : decode cX5_isGood 44 = .ok (.iconst 1, 1) := by decide +kernel
theorem dX5_isGood_45 : decode cX5_isGood 45 = .ok (.if_icmp .ne 17, 3) := by decide +kernel
theorem dX5_isGood_48 : decode cX5_isGood 48 = .ok (.aload_n 1, 1) := by decide +kernel
theorem dX5_isGood_49 : decode cX5_isGood 49 = .ok (.bipush 36, 2) := by decide +kernel
theorem dX5_isGood_51 : decode cX5_isGood 51 = .ok (.iload_n 2, 1) := by decide +kernel
theorem dX5_isGood_52 : decode cX5_isGood 52 = .ok (.iadd, 1) := by decide +kernel
theorem dX5_isGood_53 : decode cX5_isGood 53 = .ok (.iaload, 1) := by decide +kernel
theorem dX5_isGood_54 : decode cX5_isGood 54 = .ok (.iconst 1, 1) := by decide +kernel
theorem dX5_isGood_55 : decode cX5_isGood 55 = .ok (.if_icmp .ne 7, 3) := by decide +kernel
theorem dX5_isGood_58 : decode cX5_isGood 58 = .ok (.iconst 1, 1) := by decide +kernel
theorem dX5_isGood_59 : decode cX5_isGood 59 = .ok (.goto 4, 3) := by decide +kernel
theorem dX5_isGood_62 : decode cX5_isGood 62 = .ok (.iconst 0, 1) := by decide +kernel
theorem dX5_isGood_63 : decode cX5_isGood 63 = .ok (.ireturn, 1) := by decide +kernel
theorem dX5_empty_0 : decode cX5_empty 0 = .ok (.iconst 0, 1) := by decide +kernel
theorem dX5_empty_1 : decode cX5_empty 1 = .ok (.istore_n 3, 1) := by decide +kernel
theorem dX5_empty_2 : decode cX5_empty 2 = .ok (.iload_n 3, 1) := by decide +kernel
theorem dX5_empty_3 : decode cX5_empty 3 = .ok (.bipush 54, 2) := by decide +kernel
theorem dX5_empty_5 : decode cX5_empty 5 = .ok (.if_icmp .ge 26, 3) := by decide +kernel
theorem dX5_empty_8 : decode cX5_empty 8 = .ok (.aload_n 1, 1) := by decide +kernel
theorem dX5_empty_9 : decode cX5_empty 9 = .ok (.iload_n 3, 1) := by decide +kernel
theorem dX5_empty_10 : decode cX5_empty 10 = .ok (.iload_n 2, 1) := by decide +kernel
theorem dX5_empty_11 : decode cX5_empty 11 = .ok (.iadd, 1) := by decide +kernel
theorem dX5_empty_12 : decode cX5_empty 12 = .ok (.iload_n 3, 1) := by decide +kernel
theorem dX5_empty_13 : decode cX5_empty 13 = .ok (.bipush 18, 2) := by decide +kernel
theorem dX5_empty_15 : decode cX5_empty 15 = .ok (.if_icmp .ne 8, 3) := by decide +kernel
theorem dX5_empty_18 : decode cX5_empty 18 = .ok (.bipush (-9), 2) := by decide +kernel
theorem dX5_empty_20 : decode cX5_empty 20 = .ok (.goto 4, 3) := by decide +kernel
theorem dX5_empty_23 : decode cX5_empty 23 = .ok (.iconst 0, 1) := by decide +kernel
theorem dX5_empty_24 : decode cX5_empty 24 = .ok (.iastore, 1) := by decide +kernel
theorem dX5_empty_25 : decode cX5_empty 25 = .ok (.iinc 3 9, 3) := by decide +kernel
theorem dX5_empty_28 : decode cX5_empty 28 = .ok (.goto (-26), 3) := by decide +kernel
theorem dX5_empty_31 : decode cX5_empty 31 = .ok (.return_, 1) := by decide +kernel
theorem dX5_leave_0 : decode cX5_leave 0 = .ok (.aload_n 0, 1) := by decide +kernel
theorem dX5_leave_1 : decode cX5_leave 1 = .ok (.getfield 13, 3) := by decide +kernel
theorem dX5_leave_4 : decode cX5_leave 4 = .ok (.iconst 1, 1) := by decide +kernel
theorem dX5_leave_5 : decode cX5_leave 5 = .ok (.isub, 1) := by decide +kernel
theorem dX5_leave_6 : decode cX5_leave 6 = .ok (.istore_n 2, 1) := by decide +kernel
theorem dX5_leave_7 : decode cX5_leave 7 = .ok (.aload_n 1, 1) := by decide +kernel
theorem dX5_leave_8 : decode cX5_leave 8 = .ok (.iconst 0, 1) := by decide +kernel
theorem dX5_leave_9 : decode cX5_leave 9 = .ok (.iload_n 2, 1) := by decide +kernel
theorem dX5_leave_10 : decode cX5_leave 10 = .ok (.iadd, 1) := by decide +kernel
theorem dX5_leave_11 : decode cX5_leave 11 = .ok (.iaload, 1) := by decide +kernel
theorem dX5_leave_12 : decode cX5_leave 12 = .ok (.ifCond .ne 4, 3) := by decide +kernel
theorem dX5_leave_15 : decode cX5_leave 15 = .ok (.return_, 1) := by decide +kernel
theorem dX5_leave_16 : decode cX5_leave 16 = .ok (.aload_n 0, 1) := by decide +kernel
theorem dX5_leave_17 : decode cX5_leave 17 = .ok (.aload_n 1, 1) := by decide +kernel
theorem dX5_leave_18 : decode cX5_leave 18 = .ok (.iload_n 2, 1) := by decide +kernel
theorem dX5_leave_19 : decode cX5_leave 19 = .ok (.invokevirtual 142, 3) := by decide +kernel
theorem dX5_leave_22 : decode cX5_leave 22 = .ok (.istore_n 3, 1) := by decide +kernel
theorem dX5_leave_23 : decode cX5_leave 23 = .ok (.aload_n 1, 1) := by decide +kernel
theorem dX5_leave_24 : decode cX5_leave 24 = .ok (.iload_n 3, 1) := by decide +kernel
theorem dX5_leave_25 : decode cX5_leave 25 = .ok (.ifCond .eq 8, 3) := by decide +kernel
theorem dX5_leave_28 : decode cX5_leave 28 = .ok (.bipush 72, 2) := by decide +kernel
theorem dX5_leave_30 : decode cX5_leave 30 = .ok (.goto 5, 3) := by decide +kernel
theorem dX5_leave_33 : decode cX5_leave 33 = .ok (.bipush 73, 2) := by decide +kernel
theorem dX5_leave_35 : decode cX5_leave 35 = .ok (.dup2, 1) := by decide +kernel
theorem dX5_leave_36 : decode cX5_leave 36 = .ok (.iaload, 1) := by decide +kernel
theorem dX5_leave_37 : decode cX5_leave 37 = .ok (.iconst 1, 1) := by decide +kernel
theorem dX5_leave_38 : decode cX5_leave 38 = .ok (.iadd, 1) := by decide +kernel
theorem dX5_leave_39 : decode cX5_leave 39 = .ok (.iastore, 1) := by decide +kernel
theorem dX5_leave_40 : decode cX5_leave 40 = .ok (.aload_n 0, 1) := by decide +kernel
theorem dX5_leave_41 : decode cX5_leave 41 = .ok (.getfield 69, 3) := by decide +kernel
theorem dX5_leave_44 : decode cX5_leave 44 = .ok (.iload_n 2, 1) := by decide +kernel
theorem dX5_leave_45 : decode cX5_leave 45 = .ok (.if_icmp .ne 22, 3) := by decide +kernel
theorem dX5_leave_48 : decode cX5_leave 48 = .ok (.aload_n 0, 1) := by decide +kernel
theorem dX5_leave_49 : decode cX5_leave 49 = .ok (.iload_n 3, 1) := by decide +kernel
theorem dX5_leave_50 : decode cX5_leave 50 = .ok (.ifCond .eq 7, 3) := by decide +kernel
theorem dX5_leave_53 : decode cX5_leave 53 = .ok (.iconst 1, 1) := by decide +kernel
theorem dX5_leave_54 : decode cX5_leave 54 = .ok (.goto 4, 3) := by decide +kernel
theorem dX5_leave_57 : decode cX5_leave 57 = .ok (.iconst 2, 1) := by decide +kernel
theorem dX5_leave_58 : decode cX5_leave 58 = .ok (.putfield 146, 3) := by decide +kernel
theorem dX5_leave_61 : decode cX5_leave 61 = .ok (.aload_n 0, 1) := by decide +kernel
theorem dX5_leave_62 : decode cX5_leave 62 = .ok (.bipush (-9), 2) := by decide +kernel
theorem dX5_leave_64 : decode cX5_leave 64 = .ok (.putfield 69, 3) := by decide +kernel
theorem dX5_leave_67 : decode cX5_leave 67 = .ok (.aload_n 0, 1) := by decide +kernel
theorem dX5_leave_68 : decode cX5_leave 68 = .ok (.aload_n 1, 1) := by decide +kernel
theorem dX5_leave_69 : decode cX5_leave 69 = .ok (.iload_n 2, 1) := by decide +kernel
theorem dX5_leave_70 : decode cX5_leave 70 = .ok (.invokevirtual 149, 3) := by decide +kernel
theorem dX5_leave_73 : decode cX5_leave 73 = .ok (.return_, 1) := by decide +kernel
theorem dX5_slipOn_0 : decode cX5_slipOn 0 = .ok (.aload_n 0, 1) := by decide +kernel
theorem dX5_slipOn_1 : decode cX5_slipOn 1 = .ok (.getfield 13, 3) := by decide +kernel
theorem dX5_slipOn_4 : decode cX5_slipOn 4 = .ok (.iconst 1, 1) := by decide +kernel
theorem dX5_slipOn_5 : decode cX5_slipOn 5 = .ok (.isub, 1) := by decide +kernel
theorem dX5_slipOn_6 : decode cX5_slipOn 6 = .ok (.istore_n 2, 1) := by decide +kernel
theorem dX5_slipOn_7 : decode cX5_slipOn 7 = .ok (.iload_n 2, 1) := by decide +kernel
theorem dX5_slipOn_8 : decode cX5_slipOn 8 = .ok (.ifCond .le 23, 3) := by decide +kernel
theorem dX5_slipOn_11 : decode cX5_slipOn 11 = .ok (.aload_n 1, 1) := by decide +kernel
theorem dX5_slipOn_12 : decode cX5_slipOn 12 = .ok (.bipush 54, 2) := by decide +kernel
theorem dX5_slipOn_14 : decode cX5_slipOn 14 = .ok (.iload_n 2, 1) := by decide +kernel
theorem dX5_slipOn_15 : decode cX5_slipOn 15 = .ok (.iadd, 1) := by decide +kernel
theorem dX5_slipOn_16 : decode cX5_slipOn 16 = .ok (.aload_n 1, 1) := by decide +kernel
theorem dX5_slipOn_17 : decode cX5_slipOn 17 = .ok (.bipush 54, 2) := by decide +kernel
theorem dX5_slipOn_19 : decode cX5_slipOn 19 = .ok (.iload_n 2, 1) := by decide +kernel
theorem dX5_slipOn_20 : decode cX5_slipOn 20 = .ok (.iadd, 1) := by decide +kernel
theorem dX5_slipOn_21 : decode cX5_slipOn 21 = .ok (.iconst 1, 1) := by decide +kernel
theorem dX5_slipOn_22 : decode cX5_slipOn 22 = .ok (.isub, 1) := by decide +kernel
theorem dX5_slipOn_23 : decode cX5_slipOn 23 = .ok (.iaload, 1) := by decide +kernel
theorem dX5_slipOn_24 : decode cX5_slipOn 24 = .ok (.iastore, 1) := by decide +kernel
theorem dX5_slipOn_25 : decode cX5_slipOn 25 = .ok (.iinc 2 (-1), 3) := by decide +kernel
theorem dX5_slipOn_28 : decode cX5_slipOn 28 = .ok (.goto (-21), 3) := by decide +kernel
theorem dX5_slipOn_31 : decode cX5_slipOn 31 = .ok (.aload_n 1, 1) := by decide +kernel
theorem dX5_slipOn_32 : decode cX5_slipOn 32 = .ok (.bipush 54, 2) := by decide +kernel
theorem dX5_slipOn_34 : decode cX5_slipOn 34 = .ok (.iconst 0, 1) := by decide +kernel
theorem dX5_slipOn_35 : decode cX5_slipOn 35 = .ok (.iastore, 1) := by decide +kernel
theorem dX5_slipOn_36 : decode cX5_slipOn 36 = .ok (.return_, 1) := by decide +kernel
theorem dX5_moveOn_0 : decode cX5_moveOn 0 = .ok (.aload_n 0, 1) := by decide +kernel
theorem dX5_moveOn_1 : decode cX5_moveOn 1 = .ok (.getfield 13, 3) := by decide +kernel
theorem dX5_moveOn_4 : decode cX5_moveOn 4 = .ok (.iconst 1, 1) := by decide +kernel
theorem dX5_moveOn_5 : decode cX5_moveOn 5 = .ok (.isub, 1) := by decide +kernel
theorem dX5_moveOn_6 : decode cX5_moveOn 6 = .ok (.istore_n 2, 1) := by decide +kernel
theorem dX5_moveOn_7 : decode cX5_moveOn 7 = .ok (.iload_n 2, 1) := by decide +kernel
theorem dX5_moveOn_8 : decode cX5_moveOn 8 = .ok (.ifCond .le 35, 3) := by decide +kernel
theorem dX5_moveOn_11 : decode cX5_moveOn 11 = .ok (.iconst 0, 1) := by decide +kernel
theorem dX5_moveOn_12 : decode cX5_moveOn 12 = .ok (.istore_n 3, 1) := by decide +kernel
theorem dX5_moveOn_13 : decode cX5_moveOn 13 = .ok (.iload_n 3, 1) := by decide +kernel
theorem dX5_moveOn_14 : decode cX5_moveOn 14 = .ok (.bipush 54, 2) := by decide +kernel
theorem dX5_moveOn_16 : decode cX5_moveOn 16 = .ok (.if_icmp .ge 21, 3) := by decide +kernel
theorem dX5_moveOn_19 : decode cX5_moveOn 19 = .ok (.aload_n 1, 1) := by decide +kernel
theorem dX5_moveOn_20 : decode cX5_moveOn 20 = .ok (.iload_n 3, 1) := by decide +kernel
theorem dX5_moveOn_21 : decode cX5_moveOn 21 = .ok (.iload_n 2, 1) := by decide +kernel
theorem dX5_moveOn_22 : decode cX5_moveOn 22 = .ok (.iadd, 1) := by decide +kernel
theorem dX5_moveOn_23 : decode cX5_moveOn 23 = .ok (.aload_n 1, 1) := by decide +kernel
theorem dX5_moveOn_24 : decode cX5_moveOn 24 = .ok (.iload_n 3, 1) := by decide +kernel
theorem dX5_moveOn_25 : decode cX5_moveOn 25 = .ok (.iload_n 2, 1) := by decide +kernel
theorem dX5_moveOn_26 : decode cX5_moveOn 26 = .ok (.iadd, 1) := by decide +kernel
theorem dX5_moveOn_27 : decode cX5_moveOn 27 = .ok (.iconst 1, 1) := by decide +kernel
theorem dX5_moveOn_28 : decode cX5_moveOn 28 = .ok (.isub, 1) := by decide +kernel
theorem dX5_moveOn_29 : decode cX5_moveOn 29 = .ok (.iaload, 1) := by decide +kernel
theorem dX5_moveOn_30 : decode cX5_moveOn 30 = .ok (.iastore, 1) := by decide +kernel
theorem dX5_moveOn_31 : decode cX5_moveOn 31 = .ok (.iinc 3 9, 3) := by decide +kernel
theorem dX5_moveOn_34 : decode cX5_moveOn 34 = .ok (.goto (-21), 3) := by decide +kernel
theorem dX5_moveOn_37 : decode cX5_moveOn 37 = .ok (.iinc 2 (-1), 3) := by decide +kernel
theorem dX5_moveOn_40 : decode cX5_moveOn 40 = .ok (.goto (-33), 3) := by decide +kernel
theorem dX5_moveOn_43 : decode cX5_moveOn 43 = .ok (.aload_n 0, 1) := by decide +kernel
theorem dX5_moveOn_44 : decode cX5_moveOn 44 = .ok (.aload_n 1, 1) := by decide +kernel
theorem dX5_moveOn_45 : decode cX5_moveOn 45 = .ok (.invokevirtual 153, 3) := by decide +kernel
theorem dX5_moveOn_48 : decode cX5_moveOn 48 = .ok (.aload_n 0, 1) := by decide +kernel
theorem dX5_moveOn_49 : decode cX5_moveOn 49 = .ok (.aload_n 1, 1) := by decide +kernel
theorem dX5_moveOn_50 : decode cX5_moveOn 50 = .ok (.iconst 0, 1) := by decide +kernel
theorem dX5_moveOn_51 : decode cX5_moveOn 51 = .ok (.invokevirtual 149, 3) := by decide +kernel
theorem dX5_moveOn_54 : decode cX5_moveOn 54 = .ok (.aload_n 0, 1) := by decide +kernel
theorem dX5_moveOn_55 : decode cX5_moveOn 55 = .ok (.dup, 1) := by decide +kernel
theorem dX5_moveOn_56 : decode cX5_moveOn 56 = .ok (.getfield 69, 3) := by decide +kernel
theorem dX5_moveOn_59 : decode cX5_moveOn 59 = .ok (.aload_n 0, 1) := by decide +kernel
theorem dX5_moveOn_60 : decode cX5_moveOn 60 = .ok (.getfield 69, 3) := by decide +kernel
theorem dX5_moveOn_63 : decode cX5_moveOn 63 = .ok (.bipush (-9), 2) := by decide +kernel
theorem dX5_moveOn_65 : decode cX5_moveOn 65 = .ok (.if_icmp .ne 7, 3) := by decide +kernel
theorem dX5_moveOn_68 : decode cX5_moveOn 68 = .ok (.iconst 0, 1) := by decide +kernel
theorem dX5_moveOn_69 : decode cX5_moveOn 69 = .ok (.goto 4, 3) := by decide +kernel
theorem dX5_moveOn_72 : decode cX5_moveOn 72 = .ok (.iconst 1, 1) := by decide +kernel
theorem dX5_moveOn_73 : decode cX5_moveOn 73 = .ok (.iadd, 1) := by decide +kernel
theorem dX5_moveOn_74 : decode cX5_moveOn 74 = .ok (.putfield 69, 3) := by decide +kernel
theorem dX5_moveOn_77 : decode cX5_moveOn 77 = .ok (.aload_n 1, 1) := by decide +kernel
theorem dX5_moveOn_78 : decode cX5_moveOn 78 = .ok (.bipush 78, 2) := by decide +kernel
theorem dX5_moveOn_80 : decode cX5_moveOn 80 = .ok (.iaload, 1) := by decide +kernel
theorem dX5_moveOn_81 : decode cX5_moveOn 81 = .ok (.ifCond .le 73, 3) := by decide +kernel
theorem dX5_moveOn_84 : decode cX5_moveOn 84 = .ok (.aload_n 1, 1) := by decide +kernel
theorem dX5_moveOn_85 : decode cX5_moveOn 85 = .ok (.iconst 0, 1) := by decide +kernel
theorem dX5_moveOn_86 : decode cX5_moveOn 86 = .ok (.aload_n 1, 1) := by decide +kernel
theorem dX5_moveOn_87 : decode cX5_moveOn 87 = .ok (.bipush 79, 2) := by decide +kernel
theorem dX5_moveOn_89 : decode cX5_moveOn 89 = .ok (.iaload, 1) := by decide +kernel
theorem dX5_moveOn_90 : decode cX5_moveOn 90 = .ok (.ifCond .le 7, 3) := by decide +kernel
theorem dX5_moveOn_93 : decode cX5_moveOn 93 = .ok (.iconst 1, 1) := by decide +kernel
theorem dX5_moveOn_94 : decode cX5_moveOn 94 = .ok (.goto 4, 3) := by decide +kernel
theorem dX5_moveOn_97 : decode cX5_moveOn 97 = .ok (.iconst 0, 1) := by decide +kernel
theorem dX5_moveOn_98 : decode cX5_moveOn 98 = .ok (.iastore, 1) := by decide +kernel
theorem dX5_moveOn_99 : decode cX5_moveOn 99 = .ok (.aload_n 1, 1) := by decide +kernel
theorem dX5_moveOn_100 : decode cX5_moveOn 100 = .ok (.bipush 45, 2) := by decide +kernel
theorem dX5_moveOn_102 : decode cX5_moveOn 102 = .ok (.aload_n 1, 1) := by decide +kernel
theorem dX5_moveOn_103 : decode cX5_moveOn 103 = .ok (.bipush 79, 2) := by decide +kernel
theorem dX5_moveOn_105 : decode cX5_moveOn 105 = .ok (.iaload, 1) := by decide +kernel
theorem dX5_moveOn_106 : decode cX5_moveOn 106 = .ok (.iconst 2, 1) := by decide +kernel
theorem dX5_moveOn_107 : decode cX5_moveOn 107 = .ok (.if_icmp .ne 7, 3) := by decide +kernel
theorem dX5_moveOn_110 : decode cX5_moveOn 110 = .ok (.iconst 1, 1) := by decide +kernel
theorem dX5_moveOn_111 : decode cX5_moveOn 111 = .ok (.goto 4, 3) := by decide +kernel
theorem dX5_moveOn_114 : decode cX5_moveOn 114 = .ok (.iconst 0, 1) := by decide +kernel
theorem dX5_moveOn_115 : decode cX5_moveOn 115 = .ok (.iastore, 1) := by decide +kernel
theorem dX5_moveOn_116 : decode cX5_moveOn 116 = .ok (.aload_n 1, 1) := by decide +kernel
theorem dX5_moveOn_117 : decode cX5_moveOn 117 = .ok (.bipush 78, 2) := by decide +kernel
theorem dX5_moveOn_119 : decode cX5_moveOn 119 = .ok (.dup2, 1) := by decide +kernel
theorem dX5_moveOn_120 : decode cX5_moveOn 120 = .ok (.iaload, 1) := by decide +kernel
theorem dX5_moveOn_121 : decode cX5_moveOn 121 = .ok (.iconst 1, 1) := by decide +kernel
theorem dX5_moveOn_122 : decode cX5_moveOn 122 = .ok (.isub, 1) := by decide +kernel
theorem dX5_moveOn_123 : decode cX5_moveOn 123 = .ok (.iastore, 1) := by decide +kernel
theorem dX5_moveOn_124 : decode cX5_moveOn 124 = .ok (.iconst 0, 1) := by decide +kernel
theorem dX5_moveOn_125 : decode cX5_moveOn 125 = .ok (.istore_n 2, 1) := by decide +kernel
theorem dX5_moveOn_126 : decode cX5_moveOn 126 = .ok (.iload_n 2, 1) := by decide +kernel
theorem dX5_moveOn_127 : decode cX5_moveOn 127 = .ok (.aload_n 1, 1) := by decide +kernel
theorem dX5_moveOn_128 : decode cX5_moveOn 128 = .ok (.bipush 78, 2) := by decide +kernel
theorem dX5_moveOn_130 : decode cX5_moveOn 130 = .ok (.iaload, 1) := by decide +kernel
theorem dX5_moveOn_131 : decode cX5_moveOn 131 = .ok (.if_icmp .ge 23, 3) := by decide +kernel
theorem dX5_moveOn_134 : decode cX5_moveOn 134 = .ok (.aload_n 1, 1) := by decide +kernel
theorem dX5_moveOn_135 : decode cX5_moveOn 135 = .ok (.bipush 79, 2) := by decide +kernel
theorem dX5_moveOn_137 : decode cX5_moveOn 137 = .ok (.iload_n 2, 1) := by decide +kernel
theorem dX5_moveOn_138 : decode cX5_moveOn 138 = .ok (.iadd, 1) := by decide +kernel
theorem dX5_moveOn_139 : decode cX5_moveOn 139 = .ok (.aload_n 1, 1) := by decide +kernel
theorem dX5_moveOn_140 : decode cX5_moveOn 140 = .ok (.bipush 79, 2) := by decide +kernel
theorem dX5_moveOn_142 : decode cX5_moveOn 142 = .ok (.iload_n 2, 1) := by decide +kernel
theorem dX5_moveOn_143 : decode cX5_moveOn 143 = .ok (.iadd, 1) := by decide +kernel
theorem dX5_moveOn_144 : decode cX5_moveOn 144 = .ok (.iconst 1, 1) := by decide +kernel
theorem dX5_moveOn_145 : decode cX5_moveOn 145 = .ok (.iadd, 1) := by decide +kernel
theorem dX5_moveOn_146 : decode cX5_moveOn 146 = .ok (.iaload, 1) := by decide +kernel
theorem dX5_moveOn_147 : decode cX5_moveOn 147 = .ok (.iastore, 1) := by decide +kernel
theorem dX5_moveOn_148 : decode cX5_moveOn 148 = .ok (.iinc 2 1, 3) := by decide +kernel
theorem dX5_moveOn_151 : decode cX5_moveOn 151 = .ok (.goto (-25), 3) := by decide +kernel
theorem dX5_moveOn_154 : decode cX5_moveOn 154 = .ok (.return_, 1) := by decide +kernel
theorem dX5_fillOn_0 : decode cX5_fillOn 0 = .ok (.iconst 0, 1) := by decide +kernel
theorem dX5_fillOn_1 : decode cX5_fillOn 1 = .ok (.istore_n 2, 1) := by decide +kernel
theorem dX5_fillOn_2 : decode cX5_fillOn 2 = .ok (.iload_n 2, 1) := by decide +kernel
theorem dX5_fillOn_3 : decode cX5_fillOn 3 = .ok (.aload_n 0, 1) := by decide +kernel
theorem dX5_fillOn_4 : decode cX5_fillOn 4 = .ok (.getfield 13, 3) := by decide +kernel
theorem dX5_fillOn_7 : decode cX5_fillOn 7 = .ok (.if_icmp .ge 38, 3) := by decide +kernel
theorem dX5_fillOn_10 : decode cX5_fillOn 10 = .ok (.aload_n 1, 1) := by decide +kernel
theorem dX5_fillOn_11 : decode cX5_fillOn 11 = .ok (.bipush 45, 2) := by decide +kernel
theorem dX5_fillOn_13 : decode cX5_fillOn 13 = .ok (.iload_n 2, 1) := by decide +kernel
theorem dX5_fillOn_14 : decode cX5_fillOn 14 = .ok (.iadd, 1) := by decide +kernel
theorem dX5_fillOn_15 : decode cX5_fillOn 15 = .ok (.iaload, 1) := by decide +kernel
theorem dX5_fillOn_16 : decode cX5_fillOn 16 = .ok (.iconst 1, 1) := by decide +kernel
theorem dX5_fillOn_17 : decode cX5_fillOn 17 = .ok (.if_icmp .ne 22, 3) := by decide +kernel
theorem dX5_fillOn_20 : decode cX5_fillOn 20 = .ok (.aload_n 1, 1) := by decide +kernel
theorem dX5_fillOn_21 : decode cX5_fillOn 21 = .ok (.bipush 9, 2) := by decide +kernel
theorem dX5_fillOn_23 : decode cX5_fillOn 23 = .ok (.iload_n 2, 1) := by decide +kernel
theorem dX5_fillOn_24 : decode cX5_fillOn 24 = .ok (.iadd, 1) := by decide +kernel
theorem dX5_fillOn_25 : decode cX5_fillOn 25 = .ok (.iaload, 1) := by decide +kernel
theorem dX5_fillOn_26 : decode cX5_fillOn 26 = .ok (.ifCond .le 13, 3) := by decide +kernel
theorem dX5_fillOn_29 : decode cX5_fillOn 29 = .ok (.aload_n 1, 1) := by decide +kernel
theorem dX5_fillOn_30 : decode cX5_fillOn 30 = .ok (.bipush 9, 2) := by decide +kernel
theorem dX5_fillOn_32 : decode cX5_fillOn 32 = .ok (.iload_n 2, 1) := by decide +kernel
theorem dX5_fillOn_33 : decode cX5_fillOn 33 = .ok (.iadd, 1) := by decide +kernel
theorem dX5_fillOn_34 : decode cX5_fillOn 34 = .ok (.dup2, 1) := by decide +kernel
theorem dX5_fillOn_35 : decode cX5_fillOn 35 = .ok (.iaload, 1) := by decide +kernel
theorem dX5_fillOn_36 : decode cX5_fillOn 36 = .ok (.iconst 1, 1) := by decide +kernel
theorem dX5_fillOn_37 : decode cX5_fillOn 37 = .ok (.isub, 1) := by decide +kernel
theorem dX5_fillOn_38 : decode cX5_fillOn 38 = .ok (.iastore, 1) := by decide +kernel
theorem dX5_fillOn_39 : decode cX5_fillOn 39 = .ok (.iinc 2 1, 3) := by decide +kernel
theorem dX5_fillOn_42 : decode cX5_fillOn 42 = .ok (.goto (-40), 3) := by decide +kernel
theorem dX5_fillOn_45 : decode cX5_fillOn 45 = .ok (.aload_n 1, 1) := by decide +kernel
theorem dX5_fillOn_46 : decode cX5_fillOn 46 = .ok (.iconst 0, 1) := by decide +kernel
theorem dX5_fillOn_47 : decode cX5_fillOn 47 = .ok (.iaload, 1) := by decide +kernel
theorem dX5_fillOn_48 : decode cX5_fillOn 48 = .ok (.iconst 1, 1) := by decide +kernel
theorem dX5_fillOn_49 : decode cX5_fillOn 49 = .ok (.if_icmp .ne 60, 3) := by decide +kernel
theorem dX5_fillOn_52 : decode cX5_fillOn 52 = .ok (.aload_n 0, 1) := by decide +kernel
theorem dX5_fillOn_53 : decode cX5_fillOn 53 = .ok (.getfield 76, 3) := by decide +kernel
theorem dX5_fillOn_56 : decode cX5_fillOn 56 = .ok (.ifCond .le 53, 3) := by decide +kernel
theorem dX5_fillOn_59 : decode cX5_fillOn 59 = .ok (.aload_n 1, 1) := by decide +kernel
theorem dX5_fillOn_60 : decode cX5_fillOn 60 = .ok (.bipush 71, 2) := by decide +kernel
theorem dX5_fillOn_62 : decode cX5_fillOn 62 = .ok (.iaload, 1) := by decide +kernel
theorem dX5_fillOn_63 : decode cX5_fillOn 63 = .ok (.aload_n 0, 1) := by decide +kernel
theorem dX5_fillOn_64 : decode cX5_fillOn 64 = .ok (.getfield 76, 3) := by decide +kernel
theorem dX5_fillOn_67 : decode cX5_fillOn 67 = .ok (.irem, 1) := by decide +kernel
theorem dX5_fillOn_68 : decode cX5_fillOn 68 = .ok (.istore_n 2, 1) := by decide +kernel
theorem dX5_fillOn_69 : decode cX5_fillOn 69 = .ok (.aload_n 1, 1) := by decide +kernel
theorem dX5_fillOn_70 : decode cX5_fillOn 70 = .ok (.bipush 9, 2) := by decide +kernel
theorem dX5_fillOn_72 : decode cX5_fillOn 72 = .ok (.aload_n 0, 1) := by decide +kernel
theorem dX5_fillOn_73 : decode cX5_fillOn 73 = .ok (.getfield 66, 3) := by decide +kernel
theorem dX5_fillOn_76 : decode cX5_fillOn 76 = .ok (.iload_n 2, 1) := by decide +kernel
theorem dX5_fillOn_77 : decode cX5_fillOn 77 = .ok (.invokestatic 157, 3) := by decide +kernel
theorem dX5_fillOn_80 : decode cX5_fillOn 80 = .ok (.ifCond .eq 22, 3) := by decide +kernel
theorem dX5_fillOn_83 : decode cX5_fillOn 83 = .ok (.aload_n 1, 1) := by decide +kernel
theorem dX5_fillOn_84 : decode cX5_fillOn 84 = .ok (.bipush 63, 2) := by decide +kernel
theorem dX5_fillOn_86 : decode cX5_fillOn 86 = .ok (.iload_n 2, 1) := by decide +kernel
theorem dX5_fillOn_87 : decode cX5_fillOn 87 = .ok (.iadd, 1) := by decide +kernel
theorem dX5_fillOn_88 : decode cX5_fillOn 88 = .ok (.iaload, 1) := by decide +kernel
theorem dX5_fillOn_89 : decode cX5_fillOn 89 = .ok (.aload_n 0, 1) := by decide +kernel
theorem dX5_fillOn_90 : decode cX5_fillOn 90 = .ok (.getfield 20, 3) := by decide +kernel
theorem dX5_fillOn_93 : decode cX5_fillOn 93 = .ok (.iload_n 2, 1) := by decide +kernel
theorem dX5_fillOn_94 : decode cX5_fillOn 94 = .ok (.iaload, 1) := by decide +kernel
theorem dX5_fillOn_95 : decode cX5_fillOn 95 = .ok (.iadd, 1) := by decide +kernel
theorem dX5_fillOn_96 : decode cX5_fillOn 96 = .ok (.invokestatic 160, 3) := by decide +kernel
theorem dX5_fillOn_99 : decode cX5_fillOn 99 = .ok (.goto 4, 3) := by decide +kernel
theorem dX5_fillOn_102 : decode cX5_fillOn 102 = .ok (.iconst 0, 1) := by decide +kernel
theorem dX5_fillOn_103 : decode cX5_fillOn 103 = .ok (.iastore, 1) := by decide +kernel
theorem dX5_fillOn_104 : decode cX5_fillOn 104 = .ok (.aload_n 1, 1) := by decide +kernel
theorem dX5_fillOn_105 : decode cX5_fillOn 105 = .ok (.bipush 18, 2) := by decide +kernel
theorem dX5_fillOn_107 : decode cX5_fillOn 107 = .ok (.iload_n 2, 1) := by decide +kernel
theorem dX5_fillOn_108 : decode cX5_fillOn 108 = .ok (.iastore, 1) := by decide +kernel
theorem dX5_fillOn_109 : decode cX5_fillOn 109 = .ok (.aload_n 0, 1) := by decide +kernel
theorem dX5_fillOn_110 : decode cX5_fillOn 110 = .ok (.getfield 17, 3) := by decide +kernel
theorem dX5_fillOn_113 : decode cX5_fillOn 113 = .ok (.iconst 0, 1) := by decide +kernel
theorem dX5_fillOn_114 : decode cX5_fillOn 114 = .ok (.iaload, 1) := by decide +kernel
theorem dX5_fillOn_115 : decode cX5_fillOn 115 = .ok (.istore_n 2, 1) := by decide +kernel
theorem dX5_fillOn_116 : decode cX5_fillOn 116 = .ok (.aload_n 1, 1) := by decide +kernel
theorem dX5_fillOn_117 : decode cX5_fillOn 117 = .ok (.bipush 18, 2) := by decide +kernel
theorem dX5_fillOn_119 : decode cX5_fillOn 119 = .ok (.iload_n 2, 1) := by decide +kernel
theorem dX5_fillOn_120 : decode cX5_fillOn 120 = .ok (.iadd, 1) := by decide +kernel
theorem dX5_fillOn_121 : decode cX5_fillOn 121 = .ok (.iaload, 1) := by decide +kernel
theorem dX5_fillOn_122 : decode cX5_fillOn 122 = .ok (.istore_n 3, 1) := by decide +kernel
theorem dX5_fillOn_123 : decode cX5_fillOn 123 = .ok (.aload_n 1, 1) := by decide +kernel
theorem dX5_fillOn_124 : decode cX5_fillOn 124 = .ok (.iconst 0, 1) := by decide +kernel
theorem dX5_fillOn_125 : decode cX5_fillOn 125 = .ok (.iload_n 2, 1) := by decide +kernel
theorem dX5_fillOn_126 : decode cX5_fillOn 126 = .ok (.iadd, 1) := by decide +kernel
theorem dX5_fillOn_127 : decode cX5_fillOn 127 = .ok (.iaload, 1) := by decide +kernel
theorem dX5_fillOn_128 : decode cX5_fillOn 128 = .ok (.iconst 1, 1) := by decide +kernel
theorem dX5_fillOn_129 : decode cX5_fillOn 129 = .ok (.if_icmp .ne 49, 3) := by decide +kernel
theorem dX5_fillOn_132 : decode cX5_fillOn 132 = .ok (.iload_n 3, 1) := by decide +kernel
theorem dX5_fillOn_133 : decode cX5_fillOn 133 = .ok (.bipush (-9), 2) := by decide +kernel
theorem dX5_fillOn_135 : decode cX5_fillOn 135 = .ok (.if_icmp .eq 43, 3) := by decide +kernel
theorem dX5_fillOn_138 : decode cX5_fillOn 138 = .ok (.aload_n 0, 1) := by decide +kernel
theorem dX5_fillOn_139 : decode cX5_fillOn 139 = .ok (.getfield 66, 3) := by decide +kernel
theorem dX5_fillOn_142 : decode cX5_fillOn 142 = .ok (.iload_n 3, 1) := by decide +kernel
theorem dX5_fillOn_143 : decode cX5_fillOn 143 = .ok (.invokestatic 157, 3) := by decide +kernel
theorem dX5_fillOn_146 : decode cX5_fillOn 146 = .ok (.ifCond .eq 32, 3) := by decide +kernel
theorem dX5_fillOn_149 : decode cX5_fillOn 149 = .ok (.aload_n 1, 1) := by decide +kernel
theorem dX5_fillOn_150 : decode cX5_fillOn 150 = .ok (.bipush 63, 2) := by decide +kernel
theorem dX5_fillOn_152 : decode cX5_fillOn 152 = .ok (.iload_n 3, 1) := by decide +kernel
theorem dX5_fillOn_153 : decode cX5_fillOn 153 = .ok (.iadd, 1) := by decide +kernel
theorem dX5_fillOn_154 : decode cX5_fillOn 154 = .ok (.aload_n 1, 1) := by decide +kernel
theorem dX5_fillOn_155 : decode cX5_fillOn 155 = .ok (.bipush 63, 2) := by decide +kernel
theorem dX5_fillOn_157 : decode cX5_fillOn 157 = .ok (.iload_n 3, 1) := by decide +kernel
theorem dX5_fillOn_158 : decode cX5_fillOn 158 = .ok (.iadd, 1) := by decide +kernel
theorem dX5_fillOn_159 : decode cX5_fillOn 159 = .ok (.iaload, 1) := by decide +kernel
theorem dX5_fillOn_160 : decode cX5_fillOn 160 = .ok (.aload_n 0, 1) := by decide +kernel
theorem dX5_fillOn_161 : decode cX5_fillOn 161 = .ok (.getfield 130, 3) := by decide +kernel
theorem dX5_fillOn_164 : decode cX5_fillOn 164 = .ok (.aload_n 1, 1) := by decide +kernel
theorem dX5_fillOn_165 : decode cX5_fillOn 165 = .ok (.bipush 9, 2) := by decide +kernel
theorem dX5_fillOn_167 : decode cX5_fillOn 167 = .ok (.iload_n 2, 1) := by decide +kernel
theorem dX5_fillOn_168 : decode cX5_fillOn 168 = .ok (.iadd, 1) := by decide +kernel
theorem dX5_fillOn_169 : decode cX5_fillOn 169 = .ok (.iaload, 1) := by decide +kernel
theorem dX5_fillOn_170 : decode cX5_fillOn 170 = .ok (.isub, 1) := by decide +kernel
theorem dX5_fillOn_171 : decode cX5_fillOn 171 = .ok (.iconst 2, 1) := by decide +kernel
theorem dX5_fillOn_172 : decode cX5_fillOn 172 = .ok (.idiv, 1) := by decide +kernel
theorem dX5_fillOn_173 : decode cX5_fillOn 173 = .ok (.iadd, 1) := by decide +kernel
theorem dX5_fillOn_174 : decode cX5_fillOn 174 = .ok (.invokestatic 160, 3) := by decide +kernel
theorem dX5_fillOn_177 : decode cX5_fillOn 177 = .ok (.iastore, 1) := by decide +kernel
theorem dX5_fillOn_178 : decode cX5_fillOn 178 = .ok (.return_, 1) := by decide +kernel
theorem dX5_dress_0 : decode cX5_dress 0 = .ok (.aload_n 1, 1) := by decide +kernel
theorem dX5_dress_1 : decode cX5_dress 1 = .ok (.iconst 0, 1) := by decide +kernel
theorem dX5_dress_2 : decode cX5_dress 2 = .ok (.iload_n 2, 1) := by decide +kernel
theorem dX5_dress_3 : decode cX5_dress 3 = .ok (.iadd, 1) := by decide +kernel
theorem dX5_dress_4 : decode cX5_dress 4 = .ok (.iaload, 1) := by decide +kernel
theorem dX5_dress_5 : decode cX5_dress 5 = .ok (.iconst 1, 1) := by decide +kernel
theorem dX5_dress_6 : decode cX5_dress 6 = .ok (.if_icmp .ne 24, 3) := by decide +kernel
theorem dX5_dress_9 : decode cX5_dress 9 = .ok (.aload_n 1, 1) := by decide +kernel
theorem dX5_dress_10 : decode cX5_dress 10 = .ok (.iload 4, 2) := by decide +kernel
theorem dX5_dress_12 : decode cX5_dress 12 = .ok (.iaload, 1) := by decide +kernel
theorem dX5_dress_13 : decode cX5_dress 13 = .ok (.ifCond .le 17, 3) := by decide +kernel
theorem dX5_dress_16 : decode cX5_dress 16 = .ok (.aload_n 1, 1) := by decide +kernel
theorem dX5_dress_17 : decode cX5_dress 17 = .ok (.iload_n 3, 1) := by decide +kernel
theorem dX5_dress_18 : decode cX5_dress 18 = .ok (.iload_n 2, 1) := by decide +kernel
theorem dX5_dress_19 : decode cX5_dress 19 = .ok (.iadd, 1) := by decide +kernel
theorem dX5_dress_20 : decode cX5_dress 20 = .ok (.iconst 1, 1) := by decide +kernel
theorem dX5_dress_21 : decode cX5_dress 21 = .ok (.iastore, 1) := by decide +kernel
theorem dX5_dress_22 : decode cX5_dress 22 = .ok (.aload_n 1, 1) := by decide +kernel
theorem dX5_dress_23 : decode cX5_dress 23 = .ok (.iload 4, 2) := by decide +kernel
theorem dX5_dress_25 : decode cX5_dress 25 = .ok (.dup2, 1) := by decide +kernel
theorem dX5_dress_26 : decode cX5_dress 26 = .ok (.iaload, 1) := by decide +kernel
theorem dX5_dress_27 : decode cX5_dress 27 = .ok (.iconst 1, 1) := by decide +kernel
theorem dX5_dress_28 : decode cX5_dress 28 = .ok (.isub, 1) := by decide +kernel
theorem dX5_dress_29 : decode cX5_dress 29 = .ok (.iastore, 1) := by decide +kernel
theorem dX5_dress_30 : decode cX5_dress 30 = .ok (.return_, 1) := by decide +kernel
theorem dX5_check_0 : decode cX5_check 0 = .ok (.aload_n 0, 1) := by decide +kernel
theorem dX5_check_1 : decode cX5_check 1 = .ok (.getfield 17, 3) := by decide +kernel
theorem dX5_check_4 : decode cX5_check 4 = .ok (.iconst 3, 1) := by decide +kernel
theorem dX5_check_5 : decode cX5_check 5 = .ok (.iaload, 1) := by decide +kernel
theorem dX5_check_6 : decode cX5_check 6 = .ok (.istore_n 2, 1) := by decide +kernel
theorem dX5_check_7 : decode cX5_check 7 = .ok (.aload_n 1, 1) := by decide +kernel
theorem dX5_check_8 : decode cX5_check 8 = .ok (.iconst 0, 1) := by decide +kernel
theorem dX5_check_9 : decode cX5_check 9 = .ok (.iload_n 2, 1) := by decide +kernel
theorem dX5_check_10 : decode cX5_check 10 = .ok (.iadd, 1) := by decide +kernel
theorem dX5_check_11 : decode cX5_check 11 = .ok (.iaload, 1) := by decide +kernel
theorem dX5_check_12 : decode cX5_check 12 = .ok (.ifCond .ne 4, 3) := by decide +kernel
theorem dX5_check_15 : decode cX5_check 15 = .ok (.return_, 1) := by decide +kernel
theorem dX5_check_16 : decode cX5_check 16 = .ok (.aload_n 0, 1) := by decide +kernel
theorem dX5_check_17 : decode cX5_check 17 = .ok (.aload_n 1, 1) := by decide +kernel
theorem dX5_check_18 : decode cX5_check 18 = .ok (.iload_n 2, 1) := by decide +kernel
theorem dX5_check_19 : decode cX5_check 19 = .ok (.invokevirtual 142, 3) := by decide +kernel
theorem dX5_check_22 : decode cX5_check 22 = .ok (.ifCond .ne 13, 3) := by decide +kernel
theorem dX5_check_25 : decode cX5_check 25 = .ok (.aload_n 1, 1) := by decide +kernel
theorem dX5_check_26 : decode cX5_check 26 = .ok (.bipush 54, 2) := by decide +kernel
theorem dX5_check_28 : decode cX5_check 28 = .ok (.iload_n 2, 1) := by decide +kernel
theorem dX5_check_29 : decode cX5_check 29 = .ok (.iadd, 1) := by decide +kernel
theorem dX5_check_30 : decode cX5_check 30 = .ok (.iconst 1, 1) := by decide +kernel
theorem dX5_check_31 : decode cX5_check 31 = .ok (.iastore, 1) := by decide +kernel
theorem dX5_check_32 : decode cX5_check 32 = .ok (.goto 50, 3) := by decide +kernel
theorem dX5_check_35 : decode cX5_check 35 = .ok (.aload_n 1, 1) := by decide +kernel
theorem dX5_check_36 : decode cX5_check 36 = .ok (.bipush 54, 2) := by decide +kernel
theorem dX5_check_38 : decode cX5_check 38 = .ok (.iload_n 2, 1) := by decide +kernel
theorem dX5_check_39 : decode cX5_check 39 = .ok (.iadd, 1) := by decide +kernel
theorem dX5_check_40 : decode cX5_check 40 = .ok (.iaload, 1) := by decide +kernel
theorem dX5_check_41 : decode cX5_check 41 = .ok (.ifCond .ne 41, 3) := by decide +kernel
theorem dX5_check_44 : decode cX5_check 44 = .ok (.aload_n 1, 1) := by decide +kernel
theorem dX5_check_45 : decode cX5_check 45 = .ok (.bipush 77, 2) := by decide +kernel
theorem dX5_check_47 : decode cX5_check 47 = .ok (.dup2, 1) := by decide +kernel
theorem dX5_check_48 : decode cX5_check 48 = .ok (.iaload, 1) := by decide +kernel
theorem dX5_check_49 : decode cX5_check 49 = .ok (.iconst 1, 1) := by decide +kernel
theorem dX5_check_50 : decode cX5_check 50 = .ok (.iadd, 1) := by decide +kernel
theorem dX5_check_51 : decode cX5_check 51 = .ok (.iastore, 1) := by decide +kernel
theorem dX5_check_52 : decode cX5_check 52 = .ok (.aload_n 1, 1) := by decide +kernel
theorem dX5_check_53 : decode cX5_check 53 = .ok (.bipush 54, 2) := by decide +kernel
theorem dX5_check_55 : decode cX5_check 55 = .ok (.iload_n 2, 1) := by decide +kernel
theorem dX5_check_56 : decode cX5_check 56 = .ok (.iadd, 1) := by decide +kernel
theorem dX5_check_57 : decode cX5_check 57 = .ok (.aload_n 0, 1) := by decide +kernel
theorem dX5_check_58 : decode cX5_check 58 = .ok (.getfield 136, 3) := by decide +kernel
theorem dX5_check_61 : decode cX5_check 61 = .ok (.ifCond .le 19, 3) := by decide +kernel
theorem dX5_check_64 : decode cX5_check 64 = .ok (.aload_n 1, 1) := by decide +kernel
theorem dX5_check_65 : decode cX5_check 65 = .ok (.bipush 77, 2) := by decide +kernel
theorem dX5_check_67 : decode cX5_check 67 = .ok (.iaload, 1) := by decide +kernel
theorem dX5_check_68 : decode cX5_check 68 = .ok (.aload_n 0, 1) := by decide +kernel
theorem dX5_check_69 : decode cX5_check 69 = .ok (.getfield 136, 3) := by decide +kernel
theorem dX5_check_72 : decode cX5_check 72 = .ok (.irem, 1) := by decide +kernel
theorem dX5_check_73 : decode cX5_check 73 = .ok (.ifCond .ne 7, 3) := by decide +kernel
theorem dX5_check_76 : decode cX5_check 76 = .ok (.iconst 2, 1) := by decide +kernel
theorem dX5_check_77 : decode cX5_check 77 = .ok (.goto 4, 3) := by decide +kernel
theorem dX5_check_80 : decode cX5_check 80 = .ok (.iconst 0, 1) := by decide +kernel
theorem dX5_check_81 : decode cX5_check 81 = .ok (.iastore, 1) := by decide +kernel
theorem dX5_check_82 : decode cX5_check 82 = .ok (.return_, 1) := by decide +kernel
theorem dX5_push_0 : decode cX5_push 0 = .ok (.aload_n 0, 1) := by decide +kernel
theorem dX5_push_1 : decode cX5_push 1 = .ok (.getfield 17, 3) := by decide +kernel
theorem dX5_push_4 : decode cX5_push 4 = .ok (.iconst 4, 1) := by decide +kernel
theorem dX5_push_5 : decode cX5_push 5 = .ok (.iaload, 1) := by decide +kernel
theorem dX5_push_6 : decode cX5_push 6 = .ok (.istore_n 3, 1) := by decide +kernel
theorem dX5_push_7 : decode cX5_push 7 = .ok (.aload_n 1, 1) := by decide +kernel
theorem dX5_push_8 : decode cX5_push 8 = .ok (.bipush 54, 2) := by decide +kernel
theorem dX5_push_10 : decode cX5_push 10 = .ok (.iload_n 3, 1) := by decide +kernel
theorem dX5_push_11 : decode cX5_push 11 = .ok (.iadd, 1) := by decide +kernel
theorem dX5_push_12 : decode cX5_push 12 = .ok (.iaload, 1) := by decide +kernel
theorem dX5_push_13 : decode cX5_push 13 = .ok (.istore 4, 2) := by decide +kernel
theorem dX5_push_15 : decode cX5_push 15 = .ok (.iload 4, 2) := by decide +kernel
theorem dX5_push_17 : decode cX5_push 17 = .ok (.ifCond .ne 4, 3) := by decide +kernel
theorem dX5_push_20 : decode cX5_push 20 = .ok (.return_, 1) := by decide +kernel
theorem dX5_push_21 : decode cX5_push 21 = .ok (.aload_n 1, 1) := by decide +kernel
theorem dX5_push_22 : decode cX5_push 22 = .ok (.iconst 0, 1) := by decide +kernel
theorem dX5_push_23 : decode cX5_push 23 = .ok (.iload_n 3, 1) := by decide +kernel
theorem dX5_push_24 : decode cX5_push 24 = .ok (.iadd, 1) := by decide +kernel
theorem dX5_push_25 : decode cX5_push 25 = .ok (.iaload, 1) := by decide +kernel
theorem dX5_push_26 : decode cX5_push 26 = .ok (.ifCond .eq 7, 3) := by decide +kernel
theorem dX5_push_29 : decode cX5_push 29 = .ok (.iload_n 2, 1) := by decide +kernel
theorem dX5_push_30 : decode cX5_push 30 = .ok (.ifCond .eq 9, 3) := by decide +kernel
theorem dX5_push_33 : decode cX5_push 33 = .ok (.aload_n 1, 1) := by decide +kernel
theorem dX5_push_34 : decode cX5_push 34 = .ok (.bipush 70, 2) := by decide +kernel
theorem dX5_push_36 : decode cX5_push 36 = .ok (.iconst 1, 1) := by decide +kernel
theorem dX5_push_37 : decode cX5_push 37 = .ok (.iastore, 1) := by decide +kernel
theorem dX5_push_38 : decode cX5_push 38 = .ok (.return_, 1) := by decide +kernel
theorem dX5_push_39 : decode cX5_push 39 = .ok (.aload_n 1, 1) := by decide +kernel
theorem dX5_push_40 : decode cX5_push 40 = .ok (.iload 4, 2) := by decide +kernel
theorem dX5_push_42 : decode cX5_push 42 = .ok (.iconst 1, 1) := by decide +kernel
theorem dX5_push_43 : decode cX5_push 43 = .ok (.if_icmp .ne 8, 3) := by decide +kernel
theorem dX5_push_46 : decode cX5_push 46 = .ok (.bipush 74, 2) := by decide +kernel
theorem dX5_push_48 : decode cX5_push 48 = .ok (.goto 5, 3) := by decide +kernel
theorem dX5_push_51 : decode cX5_push 51 = .ok (.bipush 75, 2) := by decide +kernel
theorem dX5_push_53 : decode cX5_push 53 = .ok (.dup2, 1) := by decide +kernel
theorem dX5_push_54 : decode cX5_push 54 = .ok (.iaload, 1) := by decide +kernel
theorem dX5_push_55 : decode cX5_push 55 = .ok (.iconst 1, 1) := by decide +kernel
theorem dX5_push_56 : decode cX5_push 56 = .ok (.iadd, 1) := by decide +kernel
theorem dX5_push_57 : decode cX5_push 57 = .ok (.iastore, 1) := by decide +kernel
theorem dX5_push_58 : decode cX5_push 58 = .ok (.aload_n 0, 1) := by decide +kernel
theorem dX5_push_59 : decode cX5_push 59 = .ok (.getfield 69, 3) := by decide +kernel
theorem dX5_push_62 : decode cX5_push 62 = .ok (.iload_n 3, 1) := by decide +kernel
theorem dX5_push_63 : decode cX5_push 63 = .ok (.if_icmp .ne 24, 3) := by decide +kernel
theorem dX5_push_66 : decode cX5_push 66 = .ok (.aload_n 0, 1) := by decide +kernel
theorem dX5_push_67 : decode cX5_push 67 = .ok (.iload 4, 2) := by decide +kernel
theorem dX5_push_69 : decode cX5_push 69 = .ok (.iconst 1, 1) := by decide +kernel
theorem dX5_push_70 : decode cX5_push 70 = .ok (.if_icmp .ne 7, 3) := by decide +kernel
theorem dX5_push_73 : decode cX5_push 73 = .ok (.iconst 3, 1) := by decide +kernel
theorem dX5_push_74 : decode cX5_push 74 = .ok (.goto 4, 3) := by decide +kernel
theorem dX5_push_77 : decode cX5_push 77 = .ok (.iconst 4, 1) := by decide +kernel
theorem dX5_push_78 : decode cX5_push 78 = .ok (.putfield 146, 3) := by decide +kernel
theorem dX5_push_81 : decode cX5_push 81 = .ok (.aload_n 0, 1) := by decide +kernel
theorem dX5_push_82 : decode cX5_push 82 = .ok (.bipush (-9), 2) := by decide +kernel
theorem dX5_push_84 : decode cX5_push 84 = .ok (.putfield 69, 3) := by decide +kernel
theorem dX5_push_87 : decode cX5_push 87 = .ok (.aload_n 0, 1) := by decide +kernel
theorem dX5_push_88 : decode cX5_push 88 = .ok (.aload_n 1, 1) := by decide +kernel
theorem dX5_push_89 : decode cX5_push 89 = .ok (.iload_n 3, 1) := by decide +kernel
theorem dX5_push_90 : decode cX5_push 90 = .ok (.invokevirtual 149, 3) := by decide +kernel
theorem dX5_push_93 : decode cX5_push 93 = .ok (.aload_n 1, 1) := by decide +kernel
theorem dX5_push_94 : decode cX5_push 94 = .ok (.bipush 54, 2) := by decide +kernel
theorem dX5_push_96 : decode cX5_push 96 = .ok (.iload_n 3, 1) := by decide +kernel
theorem dX5_push_97 : decode cX5_push 97 = .ok (.iadd, 1) := by decide +kernel
theorem dX5_push_98 : decode cX5_push 98 = .ok (.iconst 0, 1) := by decide +kernel
theorem dX5_push_99 : decode cX5_push 99 = .ok (.iastore, 1) := by decide +kernel
theorem dX5_push_100 : decode cX5_push 100 = .ok (.return_, 1) := by decide +kernel
theorem dX5_stepBy_0 : decode cX5_stepBy 0 = .ok (.aload_n 0, 1) := by decide +kernel
theorem dX5_stepBy_1 : decode cX5_stepBy 1 = .ok (.aload_n 1, 1) := by decide +kernel
theorem dX5_stepBy_2 : decode cX5_stepBy 2 = .ok (.invokevirtual 164, 3) := by decide +kernel
theorem dX5_stepBy_5 : decode cX5_stepBy 5 = .ok (.aload_n 0, 1) := by decide +kernel
theorem dX5_stepBy_6 : decode cX5_stepBy 6 = .ok (.aload_n 1, 1) := by decide +kernel
theorem dX5_stepBy_7 : decode cX5_stepBy 7 = .ok (.invokevirtual 167, 3) := by decide +kernel
theorem dX5_stepBy_10 : decode cX5_stepBy 10 = .ok (.aload_n 0, 1) := by decide +kernel
theorem dX5_stepBy_11 : decode cX5_stepBy 11 = .ok (.aload_n 1, 1) := by decide +kernel
theorem dX5_stepBy_12 : decode cX5_stepBy 12 = .ok (.invokevirtual 170, 3) := by decide +kernel
theorem dX5_stepBy_15 : decode cX5_stepBy 15 = .ok (.aload_n 0, 1) := by decide +kernel
theorem dX5_stepBy_16 : decode cX5_stepBy 16 = .ok (.aload_n 1, 1) := by decide +kernel
theorem dX5_stepBy_17 : decode cX5_stepBy 17 = .ok (.aload_n 0, 1) := by decide +kernel
theorem dX5_stepBy_18 : decode cX5_stepBy 18 = .ok (.getfield 17, 3) := by decide +kernel
theorem dX5_stepBy_21 : decode cX5_stepBy 21 = .ok (.iconst 1, 1) := by decide +kernel
theorem dX5_stepBy_22 : decode cX5_stepBy 22 = .ok (.iaload, 1) := by decide +kernel
theorem dX5_stepBy_23 : decode cX5_stepBy 23 = .ok (.bipush 27, 2) := by decide +kernel
theorem dX5_stepBy_25 : decode cX5_stepBy 25 = .ok (.bipush 67, 2) := by decide +kernel
theorem dX5_stepBy_27 : decode cX5_stepBy 27 = .ok (.invokevirtual 173, 3) := by decide +kernel
theorem dX5_stepBy_30 : decode cX5_stepBy 30 = .ok (.aload_n 0, 1) := by decide +kernel
theorem dX5_stepBy_31 : decode cX5_stepBy 31 = .ok (.aload_n 1, 1) := by decide +kernel
theorem dX5_stepBy_32 : decode cX5_stepBy 32 = .ok (.aload_n 0, 1) := by decide +kernel
theorem dX5_stepBy_33 : decode cX5_stepBy 33 = .ok (.getfield 17, 3) := by decide +kernel
theorem dX5_stepBy_36 : decode cX5_stepBy 36 = .ok (.iconst 2, 1) := by decide +kernel
theorem dX5_stepBy_37 : decode cX5_stepBy 37 = .ok (.iaload, 1) := by decide +kernel
theorem dX5_stepBy_38 : decode cX5_stepBy 38 = .ok (.bipush 36, 2) := by decide +kernel
theorem dX5_stepBy_40 : decode cX5_stepBy 40 = .ok (.bipush 68, 2) := by decide +kernel
theorem dX5_stepBy_42 : decode cX5_stepBy 42 = .ok (.invokevirtual 173, 3) := by decide +kernel
theorem dX5_stepBy_45 : decode cX5_stepBy 45 = .ok (.aload_n 0, 1) := by decide +kernel
theorem dX5_stepBy_46 : decode cX5_stepBy 46 = .ok (.aload_n 1, 1) := by decide +kernel
theorem dX5_stepBy_47 : decode cX5_stepBy 47 = .ok (.invokevirtual 177, 3) := by decide +kernel
theorem dX5_stepBy_50 : decode cX5_stepBy 50 = .ok (.aload_n 0, 1) := by decide +kernel
theorem dX5_stepBy_51 : decode cX5_stepBy 51 = .ok (.aload_n 1, 1) := by decide +kernel
theorem dX5_stepBy_52 : decode cX5_stepBy 52 = .ok (.iload_n 2, 1) := by decide +kernel
theorem dX5_stepBy_53 : decode cX5_stepBy 53 = .ok (.invokevirtual 180, 3) := by decide +kernel
theorem dX5_stepBy_56 : decode cX5_stepBy 56 = .ok (.aload_n 1, 1) := by decide +kernel
theorem dX5_stepBy_57 : decode cX5_stepBy 57 = .ok (.bipush 71, 2) := by decide +kernel
theorem dX5_stepBy_59 : decode cX5_stepBy 59 = .ok (.dup2, 1) := by decide +kernel
theorem dX5_stepBy_60 : decode cX5_stepBy 60 = .ok (.iaload, 1) := by decide +kernel
theorem dX5_stepBy_61 : decode cX5_stepBy 61 = .ok (.iconst 1, 1) := by decide +kernel
theorem dX5_stepBy_62 : decode cX5_stepBy 62 = .ok (.iadd, 1) := by decide +kernel
theorem dX5_stepBy_63 : decode cX5_stepBy 63 = .ok (.iastore, 1) := by decide +kernel
theorem dX5_stepBy_64 : decode cX5_stepBy 64 = .ok (.return_, 1) := by decide +kernel
theorem dX5_goOn_0 : decode cX5_goOn 0 = .ok (.iconst 0, 1) := by decide +kernel
theorem dX5_goOn_1 : decode cX5_goOn 1 = .ok (.istore_n 3, 1) := by decide +kernel
theorem dX5_goOn_2 : decode cX5_goOn 2 = .ok (.iload_n 3, 1) := by decide +kernel
theorem dX5_goOn_3 : decode cX5_goOn 3 = .ok (.iload_n 2, 1) := by decide +kernel
theorem dX5_goOn_4 : decode cX5_goOn 4 = .ok (.if_icmp .ge 34, 3) := by decide +kernel
theorem dX5_goOn_7 : decode cX5_goOn 7 = .ok (.aload_n 1, 1) := by decide +kernel
theorem dX5_goOn_8 : decode cX5_goOn 8 = .ok (.bipush 70, 2) := by decide +kernel
theorem dX5_goOn_10 : decode cX5_goOn 10 = .ok (.iaload, 1) := by decide +kernel
theorem dX5_goOn_11 : decode cX5_goOn 11 = .ok (.ifCond .ne 27, 3) := by decide +kernel
theorem dX5_goOn_14 : decode cX5_goOn 14 = .ok (.aload_n 0, 1) := by decide +kernel
theorem dX5_goOn_15 : decode cX5_goOn 15 = .ok (.aload_n 1, 1) := by decide +kernel
theorem dX5_goOn_16 : decode cX5_goOn 16 = .ok (.aload_n 1, 1) := by decide +kernel
theorem dX5_goOn_17 : decode cX5_goOn 17 = .ok (.bipush 69, 2) := by decide +kernel
theorem dX5_goOn_19 : decode cX5_goOn 19 = .ok (.iaload, 1) := by decide +kernel
theorem dX5_goOn_20 : decode cX5_goOn 20 = .ok (.iconst 1, 1) := by decide +kernel
theorem dX5_goOn_21 : decode cX5_goOn 21 = .ok (.if_icmp .ne 7, 3) := by decide +kernel
theorem dX5_goOn_24 : decode cX5_goOn 24 = .ok (.iconst 1, 1) := by decide +kernel
theorem dX5_goOn_25 : decode cX5_goOn 25 = .ok (.goto 4, 3) := by decide +kernel
theorem dX5_goOn_28 : decode cX5_goOn 28 = .ok (.iconst 0, 1) := by decide +kernel
theorem dX5_goOn_29 : decode cX5_goOn 29 = .ok (.invokevirtual 184, 3) := by decide +kernel
theorem dX5_goOn_32 : decode cX5_goOn 32 = .ok (.iinc 3 1, 3) := by decide +kernel
theorem dX5_goOn_35 : decode cX5_goOn 35 = .ok (.goto (-33), 3) := by decide +kernel
theorem dX5_goOn_38 : decode cX5_goOn 38 = .ok (.iload_n 3, 1) := by decide +kernel
theorem dX5_goOn_39 : decode cX5_goOn 39 = .ok (.ireturn, 1) := by decide +kernel
theorem dX5_bottles_0 : decode cX5_bottles 0 = .ok (.iconst 0, 1) := by decide +kernel
theorem dX5_bottles_1 : decode cX5_bottles 1 = .ok (.istore_n 2, 1) := by decide +kernel
theorem dX5_bottles_2 : decode cX5_bottles 2 = .ok (.iconst 0, 1) := by decide +kernel
theorem dX5_bottles_3 : decode cX5_bottles 3 = .ok (.istore_n 3, 1) := by decide +kernel
theorem dX5_bottles_4 : decode cX5_bottles 4 = .ok (.iload_n 3, 1) := by decide +kernel
theorem dX5_bottles_5 : decode cX5_bottles 5 = .ok (.aload_n 0, 1) := by decide +kernel
theorem dX5_bottles_6 : decode cX5_bottles 6 = .ok (.getfield 13, 3) := by decide +kernel
theorem dX5_bottles_9 : decode cX5_bottles 9 = .ok (.if_icmp .ge 19, 3) := by decide +kernel
theorem dX5_bottles_12 : decode cX5_bottles 12 = .ok (.iload_n 2, 1) := by decide +kernel
theorem dX5_bottles_13 : decode cX5_bottles 13 = .ok (.aload_n 1, 1) := by decide +kernel
theorem dX5_bottles_14 : decode cX5_bottles 14 = .ok (.iconst 0, 1) := by decide +kernel
theorem dX5_bottles_15 : decode cX5_bottles 15 = .ok (.iload_n 3, 1) := by decide +kernel
theorem dX5_bottles_16 : decode cX5_bottles 16 = .ok (.iadd, 1) := by decide +kernel
theorem dX5_bottles_17 : decode cX5_bottles 17 = .ok (.iaload, 1) := by decide +kernel
theorem dX5_bottles_18 : decode cX5_bottles 18 = .ok (.iload_n 3, 1) := by decide +kernel
theorem dX5_bottles_19 : decode cX5_bottles 19 = .ok (.ishl, 1) := by decide +kernel
theorem dX5_bottles_20 : decode cX5_bottles 20 = .ok (.ior, 1) := by decide +kernel
theorem dX5_bottles_21 : decode cX5_bottles 21 = .ok (.istore_n 2, 1) := by decide +kernel
theorem dX5_bottles_22 : decode cX5_bottles 22 = .ok (.iinc 3 1, 3) := by decide +kernel
theorem dX5_bottles_25 : decode cX5_bottles 25 = .ok (.goto (-21), 3) := by decide +kernel
theorem dX5_bottles_28 : decode cX5_bottles 28 = .ok (.iload_n 2, 1) := by decide +kernel
theorem dX5_bottles_29 : decode cX5_bottles 29 = .ok (.ireturn, 1) := by decide +kernel
theorem dX5_marks_0 : decode cX5_marks 0 = .ok (.iconst 0, 1) := by decide +kernel
theorem dX5_marks_1 : decode cX5_marks 1 = .ok (.istore_n 2, 1) := by decide +kernel
theorem dX5_marks_2 : decode cX5_marks 2 = .ok (.iconst 0, 1) := by decide +kernel
theorem dX5_marks_3 : decode cX5_marks 3 = .ok (.istore_n 3, 1) := by decide +kernel
theorem dX5_marks_4 : decode cX5_marks 4 = .ok (.iload_n 3, 1) := by decide +kernel
theorem dX5_marks_5 : decode cX5_marks 5 = .ok (.aload_n 0, 1) := by decide +kernel
theorem dX5_marks_6 : decode cX5_marks 6 = .ok (.getfield 13, 3) := by decide +kernel
theorem dX5_marks_9 : decode cX5_marks 9 = .ok (.if_icmp .ge 26, 3) := by decide +kernel
theorem dX5_marks_12 : decode cX5_marks 12 = .ok (.iload_n 2, 1) := by decide +kernel
theorem dX5_marks_13 : decode cX5_marks 13 = .ok (.aload_n 1, 1) := by decide +kernel
theorem dX5_marks_14 : decode cX5_marks 14 = .ok (.bipush 54, 2) := by decide +kernel
theorem dX5_marks_16 : decode cX5_marks 16 = .ok (.iload_n 3, 1) := by decide +kernel
theorem dX5_marks_17 : decode cX5_marks 17 = .ok (.iadd, 1) := by decide +kernel
theorem dX5_marks_18 : decode cX5_marks 18 = .ok (.iaload, 1) := by decide +kernel
theorem dX5_marks_19 : decode cX5_marks 19 = .ok (.ifCond .le 7, 3) := by decide +kernel
theorem dX5_marks_22 : decode cX5_marks 22 = .ok (.iconst 1, 1) := by decide +kernel
theorem dX5_marks_23 : decode cX5_marks 23 = .ok (.goto 4, 3) := by decide +kernel
theorem dX5_marks_26 : decode cX5_marks 26 = .ok (.iconst 0, 1) := by decide +kernel
theorem dX5_marks_27 : decode cX5_marks 27 = .ok (.iadd, 1) := by decide +kernel
theorem dX5_marks_28 : decode cX5_marks 28 = .ok (.istore_n 2, 1) := by decide +kernel
theorem dX5_marks_29 : decode cX5_marks 29 = .ok (.iinc 3 1, 3) := by decide +kernel
theorem dX5_marks_32 : decode cX5_marks 32 = .ok (.goto (-28), 3) := by decide +kernel
theorem dX5_marks_35 : decode cX5_marks 35 = .ok (.iload_n 2, 1) := by decide +kernel
theorem dX5_marks_36 : decode cX5_marks 36 = .ok (.ireturn, 1) := by decide +kernel
theorem dX5_tell_0 : decode cX5_tell 0 = .ok (.iload_n 2, 1) := by decide +kernel
theorem dX5_tell_1 : decode cX5_tell 1 = .ok (.tableswitch 103 5 17 #[67, 72, 77, 82, 87, 92, 103, 103, 103, 103, 103, 103, 97], 67) := by decide +kernel
theorem dX5_tell_68 : decode cX5_tell 68 = .ok (.aload_n 1, 1) := by decide +kernel
theorem dX5_tell_69 : decode cX5_tell 69 = .ok (.bipush 67, 2) := by decide +kernel
theorem dX5_tell_71 : decode cX5_tell 71 = .ok (.iaload, 1) := by decide +kernel
theorem dX5_tell_72 : decode cX5_tell 72 = .ok (.ireturn, 1) := by decide +kernel
theorem dX5_tell_73 : decode cX5_tell 73 = .ok (.aload_n 1, 1) := by decide +kernel
theorem dX5_tell_74 : decode cX5_tell 74 = .ok (.bipush 68, 2) := by decide +kernel
theorem dX5_tell_76 : decode cX5_tell 76 = .ok (.iaload, 1) := by decide +kernel
theorem dX5_tell_77 : decode cX5_tell 77 = .ok (.ireturn, 1) := by decide +kernel
theorem dX5_tell_78 : decode cX5_tell 78 = .ok (.aload_n 1, 1) := by decide +kernel
theorem dX5_tell_79 : decode cX5_tell 79 = .ok (.bipush 78, 2) := by decide +kernel
theorem dX5_tell_81 : decode cX5_tell 81 = .ok (.iaload, 1) := by decide +kernel
theorem dX5_tell_82 : decode cX5_tell 82 = .ok (.ireturn, 1) := by decide +kernel
theorem dX5_tell_83 : decode cX5_tell 83 = .ok (.aload_n 1, 1) := by decide +kernel
theorem dX5_tell_84 : decode cX5_tell 84 = .ok (.bipush 71, 2) := by decide +kernel
theorem dX5_tell_86 : decode cX5_tell 86 = .ok (.iaload, 1) := by decide +kernel
theorem dX5_tell_87 : decode cX5_tell 87 = .ok (.ireturn, 1) := by decide +kernel
theorem dX5_tell_88 : decode cX5_tell 88 = .ok (.aload_n 1, 1) := by decide +kernel
theorem dX5_tell_89 : decode cX5_tell 89 = .ok (.bipush 70, 2) := by decide +kernel
theorem dX5_tell_91 : decode cX5_tell 91 = .ok (.iaload, 1) := by decide +kernel
theorem dX5_tell_92 : decode cX5_tell 92 = .ok (.ireturn, 1) := by decide +kernel
theorem dX5_tell_93 : decode cX5_tell 93 = .ok (.aload_n 1, 1) := by decide +kernel
theorem dX5_tell_94 : decode cX5_tell 94 = .ok (.bipush 69, 2) := by decide +kernel
theorem dX5_tell_96 : decode cX5_tell 96 = .ok (.iaload, 1) := by decide +kernel
theorem dX5_tell_97 : decode cX5_tell 97 = .ok (.ireturn, 1) := by decide +kernel
theorem dX5_tell_98 : decode cX5_tell 98 = .ok (.aload_n 0, 1) := by decide +kernel
theorem dX5_tell_99 : decode cX5_tell 99 = .ok (.aload_n 1, 1) := by decide +kernel
theorem dX5_tell_100 : decode cX5_tell 100 = .ok (.invokevirtual 187, 3) := by decide +kernel
theorem dX5_tell_103 : decode cX5_tell 103 = .ok (.ireturn, 1) := by decide +kernel
theorem dX5_tell_104 : decode cX5_tell 104 = .ok (.aload_n 1, 1) := by decide +kernel
theorem dX5_tell_105 : decode cX5_tell 105 = .ok (.bipush 72, 2) := by decide +kernel
theorem dX5_tell_107 : decode cX5_tell 107 = .ok (.iload_n 2, 1) := by decide +kernel
theorem dX5_tell_108 : decode cX5_tell 108 = .ok (.iadd, 1) := by decide +kernel
theorem dX5_tell_109 : decode cX5_tell 109 = .ok (.bipush 11, 2) := by decide +kernel
theorem dX5_tell_111 : decode cX5_tell 111 = .ok (.isub, 1) := by decide +kernel
theorem dX5_tell_112 : decode cX5_tell 112 = .ok (.iaload, 1) := by decide +kernel
theorem dX5_tell_113 : decode cX5_tell 113 = .ok (.ireturn, 1) := by decide +kernel
theorem dX5_about_0 : decode cX5_about 0 = .ok (.iload_n 1, 1) := by decide +kernel
theorem dX5_about_1 : decode cX5_about 1 = .ok (.tableswitch 139 0 20 #[99, 104, 109, 114, 119, 139, 139, 139, 139, 139, 139, 139, 139, 139, 139, 139, 139, 139, 124, 129, 134], 99) := by decide +kernel
theorem dX5_about_100 : decode cX5_about 100 = .ok (.aload_n 0, 1) := by decide +kernel
theorem dX5_about_101 : decode cX5_about 101 = .ok (.getfield 13, 3) := by decide +kernel
theorem dX5_about_104 : decode cX5_about 104 = .ok (.ireturn, 1) := by decide +kernel
theorem dX5_about_105 : decode cX5_about 105 = .ok (.aload_n 0, 1) := by decide +kernel
theorem dX5_about_106 : decode cX5_about 106 = .ok (.getfield 76, 3) := by decide +kernel
theorem dX5_about_109 : decode cX5_about 109 = .ok (.ireturn, 1) := by decide +kernel
theorem dX5_about_110 : decode cX5_about 110 = .ok (.aload_n 0, 1) := by decide +kernel
theorem dX5_about_111 : decode cX5_about 111 = .ok (.getfield 130, 3) := by decide +kernel
theorem dX5_about_114 : decode cX5_about 114 = .ok (.ireturn, 1) := by decide +kernel
theorem dX5_about_115 : decode cX5_about 115 = .ok (.aload_n 0, 1) := by decide +kernel
theorem dX5_about_116 : decode cX5_about 116 = .ok (.getfield 133, 3) := by decide +kernel
theorem dX5_about_119 : decode cX5_about 119 = .ok (.ireturn, 1) := by decide +kernel
theorem dX5_about_120 : decode cX5_about 120 = .ok (.aload_n 0, 1) := by decide +kernel
theorem dX5_about_121 : decode cX5_about 121 = .ok (.getfield 136, 3) := by decide +kernel
theorem dX5_about_124 : decode cX5_about 124 = .ok (.ireturn, 1) := by decide +kernel
theorem dX5_about_125 : decode cX5_about 125 = .ok (.aload_n 0, 1) := by decide +kernel
theorem dX5_about_126 : decode cX5_about 126 = .ok (.getfield 139, 3) := by decide +kernel
theorem dX5_about_129 : decode cX5_about 129 = .ok (.ireturn, 1) := by decide +kernel
theorem dX5_about_130 : decode cX5_about 130 = .ok (.aload_n 0, 1) := by decide +kernel
theorem dX5_about_131 : decode cX5_about 131 = .ok (.getfield 191, 3) := by decide +kernel
theorem dX5_about_134 : decode cX5_about 134 = .ok (.ireturn, 1) := by decide +kernel
